section
-- ===== PART A: goes FIRST, ahead of the names: the tables' words, and 'selects' of the private methods out of them =====
/-- a private method of a class that the tables say can be made, by its rows of tables_1 -/
def lw_okq (q : MethodName × Nat) : Prop := (q.1.cls ≠ "java/lang/invoke/MethodHandle" ∧ q.1.cls ≠ "java/lang/invoke/VarHandle") ∧ Cond.instantiable q.1.cls q.2 ∈ tables_1 ∧ Cond.privateMethod q.1 ∈ tables_1 ∧ Cond.instanceMethod q.1 ∈ tables_1
theorem lw_p0 : lw_okq (⟨"OceanMail$Reader", "readClause", "(I)Z"⟩, 9) := ⟨⟨by decide +kernel, by decide +kernel⟩, List.mem_of_getElem? (i := 216) (by decide +kernel), List.mem_of_getElem? (i := 467) (by decide +kernel), List.mem_of_getElem? (i := 468) (by decide +kernel)⟩
theorem lw_p1 : lw_okq (⟨"OceanMail$Reader", "sign", "()I"⟩, 9) := ⟨⟨by decide +kernel, by decide +kernel⟩, List.mem_of_getElem? (i := 216) (by decide +kernel), List.mem_of_getElem? (i := 471) (by decide +kernel), List.mem_of_getElem? (i := 472) (by decide +kernel)⟩
theorem lw_p2 : lw_okq (⟨"OceanMail$Reader", "refuse", "(I)Z"⟩, 9) := ⟨⟨by decide +kernel, by decide +kernel⟩, List.mem_of_getElem? (i := 216) (by decide +kernel), List.mem_of_getElem? (i := 475) (by decide +kernel), List.mem_of_getElem? (i := 476) (by decide +kernel)⟩
theorem lw_p3 : lw_okq (⟨"OceanMail$Reader", "readNumber", "(Z)Z"⟩, 9) := ⟨⟨by decide +kernel, by decide +kernel⟩, List.mem_of_getElem? (i := 216) (by decide +kernel), List.mem_of_getElem? (i := 479) (by decide +kernel), List.mem_of_getElem? (i := 480) (by decide +kernel)⟩
theorem lw_p4 : lw_okq (⟨"OceanMail$Reader", "take", "(I)Z"⟩, 9) := ⟨⟨by decide +kernel, by decide +kernel⟩, List.mem_of_getElem? (i := 216) (by decide +kernel), List.mem_of_getElem? (i := 486) (by decide +kernel), List.mem_of_getElem? (i := 487) (by decide +kernel)⟩
theorem lw_p5 : lw_okq (⟨"OceanMail$Reader", "readTest", "(I)Z"⟩, 9) := ⟨⟨by decide +kernel, by decide +kernel⟩, List.mem_of_getElem? (i := 216) (by decide +kernel), List.mem_of_getElem? (i := 490) (by decide +kernel), List.mem_of_getElem? (i := 491) (by decide +kernel)⟩
theorem lw_p6 : lw_okq (⟨"OceanMail$Reader", "readTerm", "(I)Z"⟩, 9) := ⟨⟨by decide +kernel, by decide +kernel⟩, List.mem_of_getElem? (i := 216) (by decide +kernel), List.mem_of_getElem? (i := 494) (by decide +kernel), List.mem_of_getElem? (i := 495) (by decide +kernel)⟩
theorem lw_p7 : lw_okq (⟨"OceanMail$Reader", "readFactor", "(I)Z"⟩, 9) := ⟨⟨by decide +kernel, by decide +kernel⟩, List.mem_of_getElem? (i := 216) (by decide +kernel), List.mem_of_getElem? (i := 498) (by decide +kernel), List.mem_of_getElem? (i := 499) (by decide +kernel)⟩
theorem lw_p8 : lw_okq (⟨"OceanMail$Reader", "readLetter", "()Z"⟩, 9) := ⟨⟨by decide +kernel, by decide +kernel⟩, List.mem_of_getElem? (i := 216) (by decide +kernel), List.mem_of_getElem? (i := 502) (by decide +kernel), List.mem_of_getElem? (i := 503) (by decide +kernel)⟩
theorem lw_p9 : lw_okq (⟨"OceanMail$Reader", "readComparison", "()Z"⟩, 9) := ⟨⟨by decide +kernel, by decide +kernel⟩, List.mem_of_getElem? (i := 216) (by decide +kernel), List.mem_of_getElem? (i := 509) (by decide +kernel), List.mem_of_getElem? (i := 510) (by decide +kernel)⟩
theorem lw_p10 : lw_okq (⟨"OceanMail$Course", "nextHour", "(I)I"⟩, 3) := ⟨⟨by decide +kernel, by decide +kernel⟩, List.mem_of_getElem? (i := 252) (by decide +kernel), List.mem_of_getElem? (i := 555) (by decide +kernel), List.mem_of_getElem? (i := 556) (by decide +kernel)⟩
theorem lw_p11 : lw_okq (⟨"OceanMail$Course", "passHour", "(LOceanMail$Books;I)V"⟩, 3) := ⟨⟨by decide +kernel, by decide +kernel⟩, List.mem_of_getElem? (i := 252) (by decide +kernel), List.mem_of_getElem? (i := 561) (by decide +kernel), List.mem_of_getElem? (i := 562) (by decide +kernel)⟩
theorem lw_p12 : lw_okq (⟨"OceanMail$Course", "comeIn", "(LOceanMail$Books;II)V"⟩, 3) := ⟨⟨by decide +kernel, by decide +kernel⟩, List.mem_of_getElem? (i := 252) (by decide +kernel), List.mem_of_getElem? (i := 565) (by decide +kernel), List.mem_of_getElem? (i := 566) (by decide +kernel)⟩
theorem lw_p13 : lw_okq (⟨"OceanMail$Course", "isExcused", "(LOceanMail$Books;II)Z"⟩, 3) := ⟨⟨by decide +kernel, by decide +kernel⟩, List.mem_of_getElem? (i := 252) (by decide +kernel), List.mem_of_getElem? (i := 569) (by decide +kernel), List.mem_of_getElem? (i := 570) (by decide +kernel)⟩
theorem lw_p14 : lw_okq (⟨"OceanMail$Contract", "holds", "(I[I)Z"⟩, 9) := ⟨⟨by decide +kernel, by decide +kernel⟩, List.mem_of_getElem? (i := 134) (by decide +kernel), List.mem_of_getElem? (i := 592) (by decide +kernel), List.mem_of_getElem? (i := 593) (by decide +kernel)⟩
theorem lw_p15 : lw_okq (⟨"OceanMail$Contract", "beginOf", "(I)I"⟩, 9) := ⟨⟨by decide +kernel, by decide +kernel⟩, List.mem_of_getElem? (i := 134) (by decide +kernel), List.mem_of_getElem? (i := 596) (by decide +kernel), List.mem_of_getElem? (i := 597) (by decide +kernel)⟩
def lw_privs_1 : List (MethodName × Nat) := [(⟨"OceanMail$Reader", "readClause", "(I)Z"⟩, 9), (⟨"OceanMail$Reader", "sign", "()I"⟩, 9), (⟨"OceanMail$Reader", "refuse", "(I)Z"⟩, 9), (⟨"OceanMail$Reader", "readNumber", "(Z)Z"⟩, 9), (⟨"OceanMail$Reader", "take", "(I)Z"⟩, 9), (⟨"OceanMail$Reader", "readTest", "(I)Z"⟩, 9), (⟨"OceanMail$Reader", "readTerm", "(I)Z"⟩, 9), (⟨"OceanMail$Reader", "readFactor", "(I)Z"⟩, 9), (⟨"OceanMail$Reader", "readLetter", "()Z"⟩, 9), (⟨"OceanMail$Reader", "readComparison", "()Z"⟩, 9), (⟨"OceanMail$Course", "nextHour", "(I)I"⟩, 3), (⟨"OceanMail$Course", "passHour", "(LOceanMail$Books;I)V"⟩, 3), (⟨"OceanMail$Course", "comeIn", "(LOceanMail$Books;II)V"⟩, 3), (⟨"OceanMail$Course", "isExcused", "(LOceanMail$Books;II)Z"⟩, 3), (⟨"OceanMail$Contract", "holds", "(I[I)Z"⟩, 9), (⟨"OceanMail$Contract", "beginOf", "(I)I"⟩, 9)]
theorem lw_r1 : ∀ q ∈ lw_privs_1, lw_okq q := List.forall_mem_cons.mpr ⟨lw_p0, List.forall_mem_cons.mpr ⟨lw_p1, List.forall_mem_cons.mpr ⟨lw_p2, List.forall_mem_cons.mpr ⟨lw_p3, List.forall_mem_cons.mpr ⟨lw_p4, List.forall_mem_cons.mpr ⟨lw_p5, List.forall_mem_cons.mpr ⟨lw_p6, List.forall_mem_cons.mpr ⟨lw_p7, List.forall_mem_cons.mpr ⟨lw_p8, List.forall_mem_cons.mpr ⟨lw_p9, List.forall_mem_cons.mpr ⟨lw_p10, List.forall_mem_cons.mpr ⟨lw_p11, List.forall_mem_cons.mpr ⟨lw_p12, List.forall_mem_cons.mpr ⟨lw_p13, List.forall_mem_cons.mpr ⟨lw_p14, List.forall_mem_cons.mpr ⟨lw_p15, fun _ h => absurd h List.not_mem_nil⟩⟩⟩⟩⟩⟩⟩⟩⟩⟩⟩⟩⟩⟩⟩⟩
theorem lw_p16 : lw_okq (⟨"OceanMail$Contract", "compares", "(II)Z"⟩, 9) := ⟨⟨by decide +kernel, by decide +kernel⟩, List.mem_of_getElem? (i := 134) (by decide +kernel), List.mem_of_getElem? (i := 600) (by decide +kernel), List.mem_of_getElem? (i := 601) (by decide +kernel)⟩
theorem lw_p17 : lw_okq (⟨"OceanMail$Sailing", "takeFrom", "(II)I"⟩, 9) := ⟨⟨by decide +kernel, by decide +kernel⟩, List.mem_of_getElem? (i := 259) (by decide +kernel), List.mem_of_getElem? (i := 608) (by decide +kernel), List.mem_of_getElem? (i := 609) (by decide +kernel)⟩
theorem lw_p18 : lw_okq (⟨"OceanMail$Course", "askOne", "(LOceanMail$Books;II)V"⟩, 3) := ⟨⟨by decide +kernel, by decide +kernel⟩, List.mem_of_getElem? (i := 252) (by decide +kernel), List.mem_of_getElem? (i := 620) (by decide +kernel), List.mem_of_getElem? (i := 621) (by decide +kernel)⟩
theorem lw_p19 : lw_okq (⟨"OceanMail$Course", "isAwaiting", "(LOceanMail$Voyage;I)Z"⟩, 3) := ⟨⟨by decide +kernel, by decide +kernel⟩, List.mem_of_getElem? (i := 252) (by decide +kernel), List.mem_of_getElem? (i := 624) (by decide +kernel), List.mem_of_getElem? (i := 625) (by decide +kernel)⟩
theorem lw_p20 : lw_okq (⟨"OceanMail$Course", "waitHours", "(LOceanMail$Books;II)I"⟩, 3) := ⟨⟨by decide +kernel, by decide +kernel⟩, List.mem_of_getElem? (i := 252) (by decide +kernel), List.mem_of_getElem? (i := 628) (by decide +kernel), List.mem_of_getElem? (i := 629) (by decide +kernel)⟩
theorem lw_p21 : lw_okq (⟨"OceanMail$Contract", "steadyHours", "(I[II)I"⟩, 9) := ⟨⟨by decide +kernel, by decide +kernel⟩, List.mem_of_getElem? (i := 134) (by decide +kernel), List.mem_of_getElem? (i := 636) (by decide +kernel), List.mem_of_getElem? (i := 637) (by decide +kernel)⟩
theorem lw_p22 : lw_okq (⟨"OceanMail$Course", "leavePort", "(LOceanMail$Books;II)V"⟩, 3) := ⟨⟨by decide +kernel, by decide +kernel⟩, List.mem_of_getElem? (i := 252) (by decide +kernel), List.mem_of_getElem? (i := 643) (by decide +kernel), List.mem_of_getElem? (i := 644) (by decide +kernel)⟩
theorem lw_p23 : lw_okq (⟨"OceanMail$Post", "layOutRow", "(ILOceanMail$Voyage;[I[I)V"⟩, 7) := ⟨⟨by decide +kernel, by decide +kernel⟩, List.mem_of_getElem? (i := 319) (by decide +kernel), List.mem_of_getElem? (i := 682) (by decide +kernel), List.mem_of_getElem? (i := 683) (by decide +kernel)⟩
theorem lw_p24 : lw_okq (⟨"OceanMail$Post", "carry", "(LOceanMail$Voyage;I)Z"⟩, 7) := ⟨⟨by decide +kernel, by decide +kernel⟩, List.mem_of_getElem? (i := 319) (by decide +kernel), List.mem_of_getElem? (i := 694) (by decide +kernel), List.mem_of_getElem? (i := 695) (by decide +kernel)⟩
theorem lw_p25 : lw_okq (⟨"OceanMail$Post", "goBack", "(LOceanMail$Voyage;IIII)Z"⟩, 7) := ⟨⟨by decide +kernel, by decide +kernel⟩, List.mem_of_getElem? (i := 319) (by decide +kernel), List.mem_of_getElem? (i := 705) (by decide +kernel), List.mem_of_getElem? (i := 706) (by decide +kernel)⟩
theorem lw_p26 : lw_okq (⟨"OceanMail$Post", "goesOnInTime", "(IIIII)Z"⟩, 7) := ⟨⟨by decide +kernel, by decide +kernel⟩, List.mem_of_getElem? (i := 319) (by decide +kernel), List.mem_of_getElem? (i := 709) (by decide +kernel), List.mem_of_getElem? (i := 710) (by decide +kernel)⟩
theorem lw_p27 : lw_okq (⟨"OceanMail$Post", "findRide", "(LOceanMail$Books;IIIII)Z"⟩, 7) := ⟨⟨by decide +kernel, by decide +kernel⟩, List.mem_of_getElem? (i := 319) (by decide +kernel), List.mem_of_getElem? (i := 721) (by decide +kernel), List.mem_of_getElem? (i := 722) (by decide +kernel)⟩
theorem lw_p28 : lw_okq (⟨"OceanMail$Post", "findAshore", "(LOceanMail$Voyage;IIIII)I"⟩, 7) := ⟨⟨by decide +kernel, by decide +kernel⟩, List.mem_of_getElem? (i := 319) (by decide +kernel), List.mem_of_getElem? (i := 725) (by decide +kernel), List.mem_of_getElem? (i := 726) (by decide +kernel)⟩
theorem lw_p29 : lw_okq (⟨"OceanMail$Post", "noteRide", "(III)V"⟩, 7) := ⟨⟨by decide +kernel, by decide +kernel⟩, List.mem_of_getElem? (i := 319) (by decide +kernel), List.mem_of_getElem? (i := 729) (by decide +kernel), List.mem_of_getElem? (i := 730) (by decide +kernel)⟩
theorem lw_p30 : lw_okq (⟨"OceanMailModel", "isVoyage", "(I)Z"⟩, 59) := ⟨⟨by decide +kernel, by decide +kernel⟩, List.mem_of_getElem? (i := 750) (by decide +kernel), List.mem_of_getElem? (i := 957) (by decide +kernel), List.mem_of_getElem? (i := 958) (by decide +kernel)⟩
theorem lw_p31 : lw_okq (⟨"OceanMailModel", "meeting", "(II)I"⟩, 59) := ⟨⟨by decide +kernel, by decide +kernel⟩, List.mem_of_getElem? (i := 750) (by decide +kernel), List.mem_of_getElem? (i := 969) (by decide +kernel), List.mem_of_getElem? (i := 970) (by decide +kernel)⟩
def lw_privs_2 : List (MethodName × Nat) := [(⟨"OceanMail$Contract", "compares", "(II)Z"⟩, 9), (⟨"OceanMail$Sailing", "takeFrom", "(II)I"⟩, 9), (⟨"OceanMail$Course", "askOne", "(LOceanMail$Books;II)V"⟩, 3), (⟨"OceanMail$Course", "isAwaiting", "(LOceanMail$Voyage;I)Z"⟩, 3), (⟨"OceanMail$Course", "waitHours", "(LOceanMail$Books;II)I"⟩, 3), (⟨"OceanMail$Contract", "steadyHours", "(I[II)I"⟩, 9), (⟨"OceanMail$Course", "leavePort", "(LOceanMail$Books;II)V"⟩, 3), (⟨"OceanMail$Post", "layOutRow", "(ILOceanMail$Voyage;[I[I)V"⟩, 7), (⟨"OceanMail$Post", "carry", "(LOceanMail$Voyage;I)Z"⟩, 7), (⟨"OceanMail$Post", "goBack", "(LOceanMail$Voyage;IIII)Z"⟩, 7), (⟨"OceanMail$Post", "goesOnInTime", "(IIIII)Z"⟩, 7), (⟨"OceanMail$Post", "findRide", "(LOceanMail$Books;IIIII)Z"⟩, 7), (⟨"OceanMail$Post", "findAshore", "(LOceanMail$Voyage;IIIII)I"⟩, 7), (⟨"OceanMail$Post", "noteRide", "(III)V"⟩, 7), (⟨"OceanMailModel", "isVoyage", "(I)Z"⟩, 59), (⟨"OceanMailModel", "meeting", "(II)I"⟩, 59)]
theorem lw_r2 : ∀ q ∈ lw_privs_2, lw_okq q := List.forall_mem_cons.mpr ⟨lw_p16, List.forall_mem_cons.mpr ⟨lw_p17, List.forall_mem_cons.mpr ⟨lw_p18, List.forall_mem_cons.mpr ⟨lw_p19, List.forall_mem_cons.mpr ⟨lw_p20, List.forall_mem_cons.mpr ⟨lw_p21, List.forall_mem_cons.mpr ⟨lw_p22, List.forall_mem_cons.mpr ⟨lw_p23, List.forall_mem_cons.mpr ⟨lw_p24, List.forall_mem_cons.mpr ⟨lw_p25, List.forall_mem_cons.mpr ⟨lw_p26, List.forall_mem_cons.mpr ⟨lw_p27, List.forall_mem_cons.mpr ⟨lw_p28, List.forall_mem_cons.mpr ⟨lw_p29, List.forall_mem_cons.mpr ⟨lw_p30, List.forall_mem_cons.mpr ⟨lw_p31, fun _ h => absurd h List.not_mem_nil⟩⟩⟩⟩⟩⟩⟩⟩⟩⟩⟩⟩⟩⟩⟩⟩
theorem lw_p32 : lw_okq (⟨"OceanMailModel", "types", "(I)V"⟩, 59) := ⟨⟨by decide +kernel, by decide +kernel⟩, List.mem_of_getElem? (i := 750) (by decide +kernel), List.mem_of_getElem? (i := 977) (by decide +kernel), List.mem_of_getElem? (i := 978) (by decide +kernel)⟩
theorem lw_p33 : lw_okq (⟨"OceanMailModel", "readsText", "(I)Z"⟩, 59) := ⟨⟨by decide +kernel, by decide +kernel⟩, List.mem_of_getElem? (i := 750) (by decide +kernel), List.mem_of_getElem? (i := 985) (by decide +kernel), List.mem_of_getElem? (i := 986) (by decide +kernel)⟩
theorem lw_p34 : lw_okq (⟨"OceanMailModel", "readsClause", "()Z"⟩, 59) := ⟨⟨by decide +kernel, by decide +kernel⟩, List.mem_of_getElem? (i := 750) (by decide +kernel), List.mem_of_getElem? (i := 989) (by decide +kernel), List.mem_of_getElem? (i := 990) (by decide +kernel)⟩
theorem lw_p35 : lw_okq (⟨"OceanMailModel", "here", "()I"⟩, 59) := ⟨⟨by decide +kernel, by decide +kernel⟩, List.mem_of_getElem? (i := 750) (by decide +kernel), List.mem_of_getElem? (i := 993) (by decide +kernel), List.mem_of_getElem? (i := 994) (by decide +kernel)⟩
theorem lw_p36 : lw_okq (⟨"OceanMailModel", "wrong", "(I)Z"⟩, 59) := ⟨⟨by decide +kernel, by decide +kernel⟩, List.mem_of_getElem? (i := 750) (by decide +kernel), List.mem_of_getElem? (i := 997) (by decide +kernel), List.mem_of_getElem? (i := 998) (by decide +kernel)⟩
theorem lw_p37 : lw_okq (⟨"OceanMailModel", "reads", "()Z"⟩, 59) := ⟨⟨by decide +kernel, by decide +kernel⟩, List.mem_of_getElem? (i := 750) (by decide +kernel), List.mem_of_getElem? (i := 1001) (by decide +kernel), List.mem_of_getElem? (i := 1002) (by decide +kernel)⟩
theorem lw_p38 : lw_okq (⟨"OceanMailModel", "readsTest", "()Z"⟩, 59) := ⟨⟨by decide +kernel, by decide +kernel⟩, List.mem_of_getElem? (i := 750) (by decide +kernel), List.mem_of_getElem? (i := 1005) (by decide +kernel), List.mem_of_getElem? (i := 1006) (by decide +kernel)⟩
theorem lw_p39 : lw_okq (⟨"OceanMailModel", "readsFactor", "()Z"⟩, 59) := ⟨⟨by decide +kernel, by decide +kernel⟩, List.mem_of_getElem? (i := 750) (by decide +kernel), List.mem_of_getElem? (i := 1009) (by decide +kernel), List.mem_of_getElem? (i := 1010) (by decide +kernel)⟩
theorem lw_p40 : lw_okq (⟨"OceanMailModel", "pushes", "(I)V"⟩, 59) := ⟨⟨by decide +kernel, by decide +kernel⟩, List.mem_of_getElem? (i := 750) (by decide +kernel), List.mem_of_getElem? (i := 1013) (by decide +kernel), List.mem_of_getElem? (i := 1014) (by decide +kernel)⟩
theorem lw_p41 : lw_okq (⟨"OceanMailModel", "code", "(IIII)V"⟩, 59) := ⟨⟨by decide +kernel, by decide +kernel⟩, List.mem_of_getElem? (i := 750) (by decide +kernel), List.mem_of_getElem? (i := 1020) (by decide +kernel), List.mem_of_getElem? (i := 1021) (by decide +kernel)⟩
theorem lw_p42 : lw_okq (⟨"OceanMailModel", "ends", "()V"⟩, 59) := ⟨⟨by decide +kernel, by decide +kernel⟩, List.mem_of_getElem? (i := 750) (by decide +kernel), List.mem_of_getElem? (i := 1024) (by decide +kernel), List.mem_of_getElem? (i := 1025) (by decide +kernel)⟩
theorem lw_p43 : lw_okq (⟨"OceanMailModel", "isTop", "(I)Z"⟩, 59) := ⟨⟨by decide +kernel, by decide +kernel⟩, List.mem_of_getElem? (i := 750) (by decide +kernel), List.mem_of_getElem? (i := 1028) (by decide +kernel), List.mem_of_getElem? (i := 1029) (by decide +kernel)⟩
theorem lw_p44 : lw_okq (⟨"OceanMailModel", "pops", "()V"⟩, 59) := ⟨⟨by decide +kernel, by decide +kernel⟩, List.mem_of_getElem? (i := 750) (by decide +kernel), List.mem_of_getElem? (i := 1032) (by decide +kernel), List.mem_of_getElem? (i := 1033) (by decide +kernel)⟩
theorem lw_p45 : lw_okq (⟨"OceanMailModel", "hasOpen", "()Z"⟩, 59) := ⟨⟨by decide +kernel, by decide +kernel⟩, List.mem_of_getElem? (i := 750) (by decide +kernel), List.mem_of_getElem? (i := 1036) (by decide +kernel), List.mem_of_getElem? (i := 1037) (by decide +kernel)⟩
theorem lw_p46 : lw_okq (⟨"OceanMailModel", "dueCome", "(II)I"⟩, 59) := ⟨⟨by decide +kernel, by decide +kernel⟩, List.mem_of_getElem? (i := 750) (by decide +kernel), List.mem_of_getElem? (i := 1048) (by decide +kernel), List.mem_of_getElem? (i := 1049) (by decide +kernel)⟩
theorem lw_p47 : lw_okq (⟨"OceanMailModel", "dueLeave", "(II)I"⟩, 59) := ⟨⟨by decide +kernel, by decide +kernel⟩, List.mem_of_getElem? (i := 750) (by decide +kernel), List.mem_of_getElem? (i := 1052) (by decide +kernel), List.mem_of_getElem? (i := 1053) (by decide +kernel)⟩
def lw_privs_3 : List (MethodName × Nat) := [(⟨"OceanMailModel", "types", "(I)V"⟩, 59), (⟨"OceanMailModel", "readsText", "(I)Z"⟩, 59), (⟨"OceanMailModel", "readsClause", "()Z"⟩, 59), (⟨"OceanMailModel", "here", "()I"⟩, 59), (⟨"OceanMailModel", "wrong", "(I)Z"⟩, 59), (⟨"OceanMailModel", "reads", "()Z"⟩, 59), (⟨"OceanMailModel", "readsTest", "()Z"⟩, 59), (⟨"OceanMailModel", "readsFactor", "()Z"⟩, 59), (⟨"OceanMailModel", "pushes", "(I)V"⟩, 59), (⟨"OceanMailModel", "code", "(IIII)V"⟩, 59), (⟨"OceanMailModel", "ends", "()V"⟩, 59), (⟨"OceanMailModel", "isTop", "(I)Z"⟩, 59), (⟨"OceanMailModel", "pops", "()V"⟩, 59), (⟨"OceanMailModel", "hasOpen", "()Z"⟩, 59), (⟨"OceanMailModel", "dueCome", "(II)I"⟩, 59), (⟨"OceanMailModel", "dueLeave", "(II)I"⟩, 59)]
theorem lw_r3 : ∀ q ∈ lw_privs_3, lw_okq q := List.forall_mem_cons.mpr ⟨lw_p32, List.forall_mem_cons.mpr ⟨lw_p33, List.forall_mem_cons.mpr ⟨lw_p34, List.forall_mem_cons.mpr ⟨lw_p35, List.forall_mem_cons.mpr ⟨lw_p36, List.forall_mem_cons.mpr ⟨lw_p37, List.forall_mem_cons.mpr ⟨lw_p38, List.forall_mem_cons.mpr ⟨lw_p39, List.forall_mem_cons.mpr ⟨lw_p40, List.forall_mem_cons.mpr ⟨lw_p41, List.forall_mem_cons.mpr ⟨lw_p42, List.forall_mem_cons.mpr ⟨lw_p43, List.forall_mem_cons.mpr ⟨lw_p44, List.forall_mem_cons.mpr ⟨lw_p45, List.forall_mem_cons.mpr ⟨lw_p46, List.forall_mem_cons.mpr ⟨lw_p47, fun _ h => absurd h List.not_mem_nil⟩⟩⟩⟩⟩⟩⟩⟩⟩⟩⟩⟩⟩⟩⟩⟩
theorem lw_p48 : lw_okq (⟨"OceanMailModel", "tableHours", "(II)I"⟩, 59) := ⟨⟨by decide +kernel, by decide +kernel⟩, List.mem_of_getElem? (i := 750) (by decide +kernel), List.mem_of_getElem? (i := 1056) (by decide +kernel), List.mem_of_getElem? (i := 1057) (by decide +kernel)⟩
theorem lw_p49 : lw_okq (⟨"OceanMailModel", "runs", "()V"⟩, 59) := ⟨⟨by decide +kernel, by decide +kernel⟩, List.mem_of_getElem? (i := 750) (by decide +kernel), List.mem_of_getElem? (i := 1067) (by decide +kernel), List.mem_of_getElem? (i := 1068) (by decide +kernel)⟩
theorem lw_p50 : lw_okq (⟨"OceanMailModel", "sharesAt", "(III)V"⟩, 59) := ⟨⟨by decide +kernel, by decide +kernel⟩, List.mem_of_getElem? (i := 750) (by decide +kernel), List.mem_of_getElem? (i := 1071) (by decide +kernel), List.mem_of_getElem? (i := 1072) (by decide +kernel)⟩
theorem lw_p51 : lw_okq (⟨"OceanMailModel", "isExcused", "(III)Z"⟩, 59) := ⟨⟨by decide +kernel, by decide +kernel⟩, List.mem_of_getElem? (i := 750) (by decide +kernel), List.mem_of_getElem? (i := 1075) (by decide +kernel), List.mem_of_getElem? (i := 1076) (by decide +kernel)⟩
theorem lw_p52 : lw_okq (⟨"OceanMailModel", "windIn", "(III)I"⟩, 59) := ⟨⟨by decide +kernel, by decide +kernel⟩, List.mem_of_getElem? (i := 750) (by decide +kernel), List.mem_of_getElem? (i := 1079) (by decide +kernel), List.mem_of_getElem? (i := 1080) (by decide +kernel)⟩
theorem lw_p53 : lw_okq (⟨"OceanMailModel", "holds", "(III)Z"⟩, 59) := ⟨⟨by decide +kernel, by decide +kernel⟩, List.mem_of_getElem? (i := 750) (by decide +kernel), List.mem_of_getElem? (i := 1086) (by decide +kernel), List.mem_of_getElem? (i := 1087) (by decide +kernel)⟩
theorem lw_p54 : lw_okq (⟨"OceanMailModel", "waits", "(II)Z"⟩, 59) := ⟨⟨by decide +kernel, by decide +kernel⟩, List.mem_of_getElem? (i := 750) (by decide +kernel), List.mem_of_getElem? (i := 1090) (by decide +kernel), List.mem_of_getElem? (i := 1091) (by decide +kernel)⟩
theorem lw_p55 : lw_okq (⟨"OceanMailModel", "sails", "(II)V"⟩, 59) := ⟨⟨by decide +kernel, by decide +kernel⟩, List.mem_of_getElem? (i := 750) (by decide +kernel), List.mem_of_getElem? (i := 1094) (by decide +kernel), List.mem_of_getElem? (i := 1095) (by decide +kernel)⟩
theorem lw_p56 : lw_okq (⟨"OceanMailModel", "earliest", "(IIII)I"⟩, 59) := ⟨⟨by decide +kernel, by decide +kernel⟩, List.mem_of_getElem? (i := 750) (by decide +kernel), List.mem_of_getElem? (i := 1114) (by decide +kernel), List.mem_of_getElem? (i := 1115) (by decide +kernel)⟩
theorem lw_p57 : lw_okq (⟨"OceanMailModel", "leaving", "(II)I"⟩, 59) := ⟨⟨by decide +kernel, by decide +kernel⟩, List.mem_of_getElem? (i := 750) (by decide +kernel), List.mem_of_getElem? (i := 1119) (by decide +kernel), List.mem_of_getElem? (i := 1120) (by decide +kernel)⟩
theorem lw_p58 : lw_okq (⟨"OceanMailModel", "coming", "(II)I"⟩, 59) := ⟨⟨by decide +kernel, by decide +kernel⟩, List.mem_of_getElem? (i := 750) (by decide +kernel), List.mem_of_getElem? (i := 1123) (by decide +kernel), List.mem_of_getElem? (i := 1124) (by decide +kernel)⟩
theorem lw_p59 : lw_okq (⟨"OceanMailModel", "findsRide", "(IIIIII)Z"⟩, 59) := ⟨⟨by decide +kernel, by decide +kernel⟩, List.mem_of_getElem? (i := 750) (by decide +kernel), List.mem_of_getElem? (i := 1127) (by decide +kernel), List.mem_of_getElem? (i := 1128) (by decide +kernel)⟩
theorem lw_p60 : lw_okq (⟨"OceanMailModel", "isRide", "(IIIIIIII)Z"⟩, 59) := ⟨⟨by decide +kernel, by decide +kernel⟩, List.mem_of_getElem? (i := 750) (by decide +kernel), List.mem_of_getElem? (i := 1131) (by decide +kernel), List.mem_of_getElem? (i := 1132) (by decide +kernel)⟩
def lw_privs_4 : List (MethodName × Nat) := [(⟨"OceanMailModel", "tableHours", "(II)I"⟩, 59), (⟨"OceanMailModel", "runs", "()V"⟩, 59), (⟨"OceanMailModel", "sharesAt", "(III)V"⟩, 59), (⟨"OceanMailModel", "isExcused", "(III)Z"⟩, 59), (⟨"OceanMailModel", "windIn", "(III)I"⟩, 59), (⟨"OceanMailModel", "holds", "(III)Z"⟩, 59), (⟨"OceanMailModel", "waits", "(II)Z"⟩, 59), (⟨"OceanMailModel", "sails", "(II)V"⟩, 59), (⟨"OceanMailModel", "earliest", "(IIII)I"⟩, 59), (⟨"OceanMailModel", "leaving", "(II)I"⟩, 59), (⟨"OceanMailModel", "coming", "(II)I"⟩, 59), (⟨"OceanMailModel", "findsRide", "(IIIIII)Z"⟩, 59), (⟨"OceanMailModel", "isRide", "(IIIIIIII)Z"⟩, 59)]
theorem lw_r4 : ∀ q ∈ lw_privs_4, lw_okq q := List.forall_mem_cons.mpr ⟨lw_p48, List.forall_mem_cons.mpr ⟨lw_p49, List.forall_mem_cons.mpr ⟨lw_p50, List.forall_mem_cons.mpr ⟨lw_p51, List.forall_mem_cons.mpr ⟨lw_p52, List.forall_mem_cons.mpr ⟨lw_p53, List.forall_mem_cons.mpr ⟨lw_p54, List.forall_mem_cons.mpr ⟨lw_p55, List.forall_mem_cons.mpr ⟨lw_p56, List.forall_mem_cons.mpr ⟨lw_p57, List.forall_mem_cons.mpr ⟨lw_p58, List.forall_mem_cons.mpr ⟨lw_p59, List.forall_mem_cons.mpr ⟨lw_p60, fun _ h => absurd h List.not_mem_nil⟩⟩⟩⟩⟩⟩⟩⟩⟩⟩⟩⟩⟩
def lw_privs : List (MethodName × Nat) := lw_privs_1 ++ (lw_privs_2 ++ (lw_privs_3 ++ (lw_privs_4)))
def lw_tbl : List Cond := k2_sels lw_privs ++ tables_1
theorem lw_privs_ok : ∀ q ∈ lw_privs, lw_okq q := by
  show ∀ q ∈ lw_privs_1 ++ (lw_privs_2 ++ (lw_privs_3 ++ (lw_privs_4))), lw_okq q
  exact List.forall_mem_append.mpr ⟨lw_r1, List.forall_mem_append.mpr ⟨lw_r2, List.forall_mem_append.mpr ⟨lw_r3, lw_r4⟩⟩⟩
end
section
/-! ===== BEGIN words of one list among another's, by their places ===== -/
theorem goodIn_r {big : List Cond} (ws : List Cond) (ps : List Nat) (hp : ws = ps.filterMap (fun i => big[i]?)) (h : ws.all goodWord = true) : GoodIn big ws := by
  intro w hw
  have h1 := List.all_eq_true.mp h w hw
  rw [hp] at hw
  obtain ⟨i, -, hi⟩ := List.mem_filterMap.mp hw
  have hm : w ∈ big := by first | exact List.mem_of_getElem? hi | exact List.getElem?_mem hi
  exact ⟨hm, good_of_word h1⟩
theorem goodIn_app {big a b : List Cond} (ha : GoodIn big a) (hb : GoodIn big b) : GoodIn big (a ++ b) := fun w h => (List.mem_append.mp h).elim (ha w) (hb w)
theorem goodIn_ca {big a b : List Cond} {c : Cond} (ha : GoodIn big (c :: a)) (hb : GoodIn big b) : GoodIn big (c :: (a ++ b)) := fun w h => (List.mem_cons.mp h).elim (fun e => ha w (List.mem_cons.mpr (Or.inl e))) (fun h => (List.mem_append.mp h).elim (fun h => ha w (List.mem_cons.mpr (Or.inr h))) (hb w))
theorem goodIn_sub {big ws : List Cond} (hm : ∀ w ∈ ws, w ∈ big) (h : ws.all goodWord = true) : GoodIn big ws := fun w hw => ⟨hm w hw, good_of_word (List.all_eq_true.mp h w hw)⟩
/-! ===== END ===== -/

/-! ===== BEGIN printed: names, fields, word lists, decode rows ===== -/
def RX0 : String := "OceanMail$Books"
def TX0 : u_T := fun k => match k with
  | 0 => ("OceanMail$Books", "chart", "LOceanMail$Chart;", true)
  | 1 => ("OceanMail$Books", "voyages", "[LOceanMail$Voyage;", true)
  | 2 => ("OceanMail$Books", "voyageCount", "I", false)
  | 3 => ("OceanMail$Books", "meetings", "I", false)
  | 4 => ("OceanMail$Books", "contracts", "[LOceanMail$Contract;", true)
  | _ => ("OceanMail$Books", "spare", "LOceanMail$Contract;", false)
def tyX0 : Nat → FieldType := fun k => match k with
  | 0 => .object "OceanMail$Chart"
  | 1 => .array (.object "OceanMail$Voyage")
  | 2 => .int
  | 3 => .int
  | 4 => .array (.object "OceanMail$Contract")
  | _ => .object "OceanMail$Contract"
abbrev wsX00 : List Cond := u_ws RX0 TX0 6
theorem nmX0 : ∀ a, a < 6 → ∀ b, b < 6 → a ≠ b → (TX0 a).2.1 ≠ (TX0 b).2.1 := by decide +kernel
theorem tyX0_ok : ∀ k, k < 6 → parseFieldDescriptor (TX0 k).2.2.1 = some (tyX0 k) := by decide +kernel
abbrev cX0_init : ByteArray := prog_2_method_1_code
def yX0_init : MethodName := ⟨RX0, "<init>", "()V"⟩
abbrev cX0_hasVoyage : ByteArray := prog_2_method_2_code
def yX0_hasVoyage : MethodName := ⟨RX0, "hasVoyage", "(I)Z"⟩
def RX1 : String := "OceanMail$Chart"
def TX1 : u_T := fun k => match k with
  | 0 => ("OceanMail$Chart", "fromPort", "[I", true)
  | 1 => ("OceanMail$Chart", "toPort", "[I", true)
  | 2 => ("OceanMail$Chart", "miles", "[I", true)
  | 3 => ("OceanMail$Chart", "winds", "[I", true)
  | _ => ("OceanMail$Chart", "size", "I", false)
def tyX1 : Nat → FieldType := fun k => match k with
  | 0 => .array .int
  | 1 => .array .int
  | 2 => .array .int
  | 3 => .array .int
  | _ => .int
abbrev wsX10 : List Cond := u_ws RX1 TX1 5
theorem nmX1 : ∀ a, a < 5 → ∀ b, b < 5 → a ≠ b → (TX1 a).2.1 ≠ (TX1 b).2.1 := by decide +kernel
theorem tyX1_ok : ∀ k, k < 5 → parseFieldDescriptor (TX1 k).2.2.1 = some (tyX1 k) := by decide +kernel
abbrev cX1_init : ByteArray := prog_3_method_1_code
def yX1_init : MethodName := ⟨RX1, "<init>", "()V"⟩
abbrev cX1_has : ByteArray := prog_3_method_2_code
def yX1_has : MethodName := ⟨RX1, "has", "(I)Z"⟩
abbrev cX1_add : ByteArray := prog_3_method_3_code
def yX1_add : MethodName := ⟨RX1, "add", "(III)I"⟩
abbrev cX1_otherEnd : ByteArray := prog_3_method_4_code
def yX1_otherEnd : MethodName := ⟨RX1, "otherEnd", "(II)I"⟩
abbrev cX1_windIn : ByteArray := prog_3_method_5_code
def yX1_windIn : MethodName := ⟨RX1, "windIn", "(II)I"⟩
def RX2 : String := "OceanMail$Contract"
def TX2 : u_T := fun k => match k with
  | 0 => ("OceanMail$Contract", "clauses", "I", false)
  | 1 => ("OceanMail$Contract", "pence", "I", false)
  | 2 => ("OceanMail$Contract", "kinds", "[I", true)
  | 3 => ("OceanMail$Contract", "limits", "[I", true)
  | 4 => ("OceanMail$Contract", "ends", "[I", true)
  | 5 => ("OceanMail$Contract", "size", "I", false)
  | 6 => ("OceanMail$Contract", "signs", "[I", true)
  | 7 => ("OceanMail$Contract", "facts", "[I", true)
  | _ => ("OceanMail$Contract", "numbers", "[I", true)
def tyX2 : Nat → FieldType := fun k => match k with
  | 0 => .int
  | 1 => .int
  | 2 => .array .int
  | 3 => .array .int
  | 4 => .array .int
  | 5 => .int
  | 6 => .array .int
  | 7 => .array .int
  | _ => .array .int
abbrev wsX20 : List Cond := u_ws RX2 TX2 9
theorem nmX2 : ∀ a, a < 9 → ∀ b, b < 9 → a ≠ b → (TX2 a).2.1 ≠ (TX2 b).2.1 := by decide +kernel
theorem tyX2_ok : ∀ k, k < 9 → parseFieldDescriptor (TX2 k).2.2.1 = some (tyX2 k) := by decide +kernel
abbrev cX2_init : ByteArray := prog_4_method_1_code
def yX2_init : MethodName := ⟨RX2, "<init>", "()V"⟩
abbrev cX2_empty : ByteArray := prog_4_method_2_code
def yX2_empty : MethodName := ⟨RX2, "empty", "()V"⟩
abbrev cX2_addStep : ByteArray := prog_4_method_3_code
def yX2_addStep : MethodName := ⟨RX2, "addStep", "(III)V"⟩
abbrev cX2_endClause : ByteArray := prog_4_method_4_code
def yX2_endClause : MethodName := ⟨RX2, "endClause", "(II)V"⟩
abbrev cX2_excuses : ByteArray := prog_4_method_5_code
def yX2_excuses : MethodName := ⟨RX2, "excuses", "([I)Z"⟩
abbrev cX2_waitHours : ByteArray := prog_4_method_6_code
def yX2_waitHours : MethodName := ⟨RX2, "waitHours", "([II)I"⟩
abbrev cX2_steadyHours : ByteArray := prog_4_method_7_code
def yX2_steadyHours : MethodName := ⟨RX2, "steadyHours", "(I[II)I"⟩
abbrev cX2_beginOf : ByteArray := prog_4_method_8_code
def yX2_beginOf : MethodName := ⟨RX2, "beginOf", "(I)I"⟩
abbrev cX2_holds : ByteArray := prog_4_method_9_code
def yX2_holds : MethodName := ⟨RX2, "holds", "(I[I)Z"⟩
abbrev cX2_compares : ByteArray := prog_4_method_10_code
def yX2_compares : MethodName := ⟨RX2, "compares", "(II)Z"⟩
abbrev cX2_isComparison : ByteArray := prog_4_method_11_code
def yX2_isComparison : MethodName := ⟨RX2, "isComparison", "(I)Z"⟩
def RX3 : String := "OceanMail$Course"
def TX3 : u_T := fun k => match k with
  | 0 => ("OceanMail$Course", "sailings", "[LOceanMail$Sailing;", true)
  | 1 => ("OceanMail$Course", "facts", "[I", true)
  | _ => ("OceanMail$Course", "isOld", "Z", false)
def tyX3 : Nat → FieldType := fun k => match k with
  | 0 => .array (.object "OceanMail$Sailing")
  | 1 => .array .int
  | _ => .boolean
abbrev wsX30 : List Cond := u_ws RX3 TX3 3
theorem nmX3 : ∀ a, a < 3 → ∀ b, b < 3 → a ≠ b → (TX3 a).2.1 ≠ (TX3 b).2.1 := by decide +kernel
theorem tyX3_ok : ∀ k, k < 3 → parseFieldDescriptor (TX3 k).2.2.1 = some (tyX3 k) := by decide +kernel
abbrev cX3_init : ByteArray := prog_5_method_1_code
def yX3_init : MethodName := ⟨RX3, "<init>", "()V"⟩
abbrev cX3_bringUpToDate : ByteArray := prog_5_method_2_code
def yX3_bringUpToDate : MethodName := ⟨RX3, "bringUpToDate", "(LOceanMail$Books;)V"⟩
abbrev cX3_passHour : ByteArray := prog_5_method_3_code
def yX3_passHour : MethodName := ⟨RX3, "passHour", "(LOceanMail$Books;I)V"⟩
abbrev cX3_nextHour : ByteArray := prog_5_method_4_code
def yX3_nextHour : MethodName := ⟨RX3, "nextHour", "(I)I"⟩
abbrev cX3_comeIn : ByteArray := prog_5_method_5_code
def yX3_comeIn : MethodName := ⟨RX3, "comeIn", "(LOceanMail$Books;II)V"⟩
abbrev cX3_isExcused : ByteArray := prog_5_method_6_code
def yX3_isExcused : MethodName := ⟨RX3, "isExcused", "(LOceanMail$Books;II)Z"⟩
abbrev cX3_askOne : ByteArray := prog_5_method_7_code
def yX3_askOne : MethodName := ⟨RX3, "askOne", "(LOceanMail$Books;II)V"⟩
abbrev cX3_isAwaiting : ByteArray := prog_5_method_8_code
def yX3_isAwaiting : MethodName := ⟨RX3, "isAwaiting", "(LOceanMail$Voyage;I)Z"⟩
abbrev cX3_waitHours : ByteArray := prog_5_method_9_code
def yX3_waitHours : MethodName := ⟨RX3, "waitHours", "(LOceanMail$Books;II)I"⟩
abbrev cX3_leavePort : ByteArray := prog_5_method_10_code
def yX3_leavePort : MethodName := ⟨RX3, "leavePort", "(LOceanMail$Books;II)V"⟩
def RX4 : String := "OceanMail$Post"
def TX4 : u_T := fun k => match k with
  | 0 => ("OceanMail$Post", "comes", "[I", true)
  | 1 => ("OceanMail$Post", "leaves", "[I", true)
  | 2 => ("OceanMail$Post", "ashore", "[I", true)
  | 3 => ("OceanMail$Post", "latest", "[I", true)
  | 4 => ("OceanMail$Post", "rounds", "I", false)
  | 5 => ("OceanMail$Post", "rides", "[I", true)
  | _ => ("OceanMail$Post", "rideCount", "I", false)
def tyX4 : Nat → FieldType := fun k => match k with
  | 0 => .array .int
  | 1 => .array .int
  | 2 => .array .int
  | 3 => .array .int
  | 4 => .int
  | 5 => .array .int
  | _ => .int
abbrev wsX40 : List Cond := u_ws RX4 TX4 7
theorem nmX4 : ∀ a, a < 7 → ∀ b, b < 7 → a ≠ b → (TX4 a).2.1 ≠ (TX4 b).2.1 := by decide +kernel
theorem tyX4_ok : ∀ k, k < 7 → parseFieldDescriptor (TX4 k).2.2.1 = some (tyX4 k) := by decide +kernel
abbrev cX4_init : ByteArray := prog_6_method_1_code
def yX4_init : MethodName := ⟨RX4, "<init>", "()V"⟩
abbrev cX4_layOut : ByteArray := prog_6_method_2_code
def yX4_layOut : MethodName := ⟨RX4, "layOut", "(LOceanMail$Books;LOceanMail$Course;Z)V"⟩
abbrev cX4_layOutRow : ByteArray := prog_6_method_3_code
def yX4_layOutRow : MethodName := ⟨RX4, "layOutRow", "(ILOceanMail$Voyage;[I[I)V"⟩
abbrev cX4_firstComing : ByteArray := prog_6_method_4_code
def yX4_firstComing : MethodName := ⟨RX4, "firstComing", "(LOceanMail$Books;III)I"⟩
abbrev cX4_carry : ByteArray := prog_6_method_5_code
def yX4_carry : MethodName := ⟨RX4, "carry", "(LOceanMail$Voyage;I)Z"⟩
abbrev cX4_reckonLatest : ByteArray := prog_6_method_6_code
def yX4_reckonLatest : MethodName := ⟨RX4, "reckonLatest", "(LOceanMail$Books;II)V"⟩
abbrev cX4_goBack : ByteArray := prog_6_method_7_code
def yX4_goBack : MethodName := ⟨RX4, "goBack", "(LOceanMail$Voyage;IIII)Z"⟩
abbrev cX4_goesOnInTime : ByteArray := prog_6_method_8_code
def yX4_goesOnInTime : MethodName := ⟨RX4, "goesOnInTime", "(IIIII)Z"⟩
abbrev cX4_latestFrom : ByteArray := prog_6_method_9_code
def yX4_latestFrom : MethodName := ⟨RX4, "latestFrom", "(II)I"⟩
abbrev cX4_chooseRides : ByteArray := prog_6_method_10_code
def yX4_chooseRides : MethodName := ⟨RX4, "chooseRides", "(LOceanMail$Books;IIII)V"⟩
abbrev cX4_findRide : ByteArray := prog_6_method_11_code
def yX4_findRide : MethodName := ⟨RX4, "findRide", "(LOceanMail$Books;IIIII)Z"⟩
abbrev cX4_findAshore : ByteArray := prog_6_method_12_code
def yX4_findAshore : MethodName := ⟨RX4, "findAshore", "(LOceanMail$Voyage;IIIII)I"⟩
abbrev cX4_noteRide : ByteArray := prog_6_method_13_code
def yX4_noteRide : MethodName := ⟨RX4, "noteRide", "(III)V"⟩
def RX5 : String := "OceanMail$Reader"
def TX5 : u_T := fun k => match k with
  | 0 => ("OceanMail$Reader", "text", "[I", false)
  | 1 => ("OceanMail$Reader", "size", "I", false)
  | 2 => ("OceanMail$Reader", "at", "I", false)
  | 3 => ("OceanMail$Reader", "into", "LOceanMail$Contract;", false)
  | 4 => ("OceanMail$Reader", "fact", "I", false)
  | 5 => ("OceanMail$Reader", "comparison", "I", false)
  | 6 => ("OceanMail$Reader", "number", "I", false)
  | 7 => ("OceanMail$Reader", "faultNumber", "I", false)
  | _ => ("OceanMail$Reader", "faultPlace", "I", false)
def tyX5 : Nat → FieldType := fun k => match k with
  | 0 => .array .int
  | 1 => .int
  | 2 => .int
  | 3 => .object "OceanMail$Contract"
  | 4 => .int
  | 5 => .int
  | 6 => .int
  | 7 => .int
  | _ => .int
abbrev wsX50 : List Cond := u_ws RX5 TX5 9
theorem nmX5 : ∀ a, a < 9 → ∀ b, b < 9 → a ≠ b → (TX5 a).2.1 ≠ (TX5 b).2.1 := by decide +kernel
theorem tyX5_ok : ∀ k, k < 9 → parseFieldDescriptor (TX5 k).2.2.1 = some (tyX5 k) := by decide +kernel
abbrev cX5_init : ByteArray := prog_7_method_1_code
def yX5_init : MethodName := ⟨RX5, "<init>", "()V"⟩
abbrev cX5_read : ByteArray := prog_7_method_2_code
def yX5_read : MethodName := ⟨RX5, "read", "([IILOceanMail$Contract;)Z"⟩
abbrev cX5_readClause : ByteArray := prog_7_method_3_code
def yX5_readClause : MethodName := ⟨RX5, "readClause", "(I)Z"⟩
abbrev cX5_readTest : ByteArray := prog_7_method_4_code
def yX5_readTest : MethodName := ⟨RX5, "readTest", "(I)Z"⟩
abbrev cX5_readTerm : ByteArray := prog_7_method_5_code
def yX5_readTerm : MethodName := ⟨RX5, "readTerm", "(I)Z"⟩
abbrev cX5_readFactor : ByteArray := prog_7_method_6_code
def yX5_readFactor : MethodName := ⟨RX5, "readFactor", "(I)Z"⟩
abbrev cX5_readLetter : ByteArray := prog_7_method_7_code
def yX5_readLetter : MethodName := ⟨RX5, "readLetter", "()Z"⟩
abbrev cX5_readComparison : ByteArray := prog_7_method_8_code
def yX5_readComparison : MethodName := ⟨RX5, "readComparison", "()Z"⟩
abbrev cX5_readNumber : ByteArray := prog_7_method_9_code
def yX5_readNumber : MethodName := ⟨RX5, "readNumber", "(Z)Z"⟩
abbrev cX5_sign : ByteArray := prog_7_method_10_code
def yX5_sign : MethodName := ⟨RX5, "sign", "()I"⟩
abbrev cX5_take : ByteArray := prog_7_method_11_code
def yX5_take : MethodName := ⟨RX5, "take", "(I)Z"⟩
abbrev cX5_refuse : ByteArray := prog_7_method_12_code
def yX5_refuse : MethodName := ⟨RX5, "refuse", "(I)Z"⟩
abbrev cX5_isDigit : ByteArray := prog_7_method_13_code
def yX5_isDigit : MethodName := ⟨RX5, "isDigit", "(I)Z"⟩
abbrev cX5_factOf : ByteArray := prog_7_method_14_code
def yX5_factOf : MethodName := ⟨RX5, "factOf", "(I)I"⟩
def RX6 : String := "OceanMail$Sailing"
def TX6 : u_T := fun k => match k with
  | 0 => ("OceanMail$Sailing", "come", "[I", true)
  | 1 => ("OceanMail$Sailing", "leave", "[I", true)
  | 2 => ("OceanMail$Sailing", "waited", "[I", true)
  | 3 => ("OceanMail$Sailing", "shares", "[I", true)
  | 4 => ("OceanMail$Sailing", "held", "[I", true)
  | 5 => ("OceanMail$Sailing", "place", "I", false)
  | 6 => ("OceanMail$Sailing", "atSea", "Z", false)
  | 7 => ("OceanMail$Sailing", "ready", "I", false)
  | _ => ("OceanMail$Sailing", "next", "I", false)
def tyX6 : Nat → FieldType := fun k => match k with
  | 0 => .array .int
  | 1 => .array .int
  | 2 => .array .int
  | 3 => .array .int
  | 4 => .array .int
  | 5 => .int
  | 6 => .boolean
  | 7 => .int
  | _ => .int
abbrev wsX60 : List Cond := u_ws RX6 TX6 9
theorem nmX6 : ∀ a, a < 9 → ∀ b, b < 9 → a ≠ b → (TX6 a).2.1 ≠ (TX6 b).2.1 := by decide +kernel
theorem tyX6_ok : ∀ k, k < 9 → parseFieldDescriptor (TX6 k).2.2.1 = some (tyX6 k) := by decide +kernel
abbrev cX6_init : ByteArray := prog_8_method_1_code
def yX6_init : MethodName := ⟨RX6, "<init>", "()V"⟩
abbrev cX6_begin : ByteArray := prog_8_method_2_code
def yX6_begin : MethodName := ⟨RX6, "begin", "(LOceanMail$Voyage;)V"⟩
abbrev cX6_lieInPort : ByteArray := prog_8_method_3_code
def yX6_lieInPort : MethodName := ⟨RX6, "lieInPort", "(I)V"⟩
abbrev cX6_putToSea : ByteArray := prog_8_method_4_code
def yX6_putToSea : MethodName := ⟨RX6, "putToSea", "(II)V"⟩
abbrev cX6_makeUp : ByteArray := prog_8_method_5_code
def yX6_makeUp : MethodName := ⟨RX6, "makeUp", "(II)V"⟩
abbrev cX6_takeFrom : ByteArray := prog_8_method_6_code
def yX6_takeFrom : MethodName := ⟨RX6, "takeFrom", "(II)I"⟩
abbrev cX6_writeDownShares : ByteArray := prog_8_method_7_code
def yX6_writeDownShares : MethodName := ⟨RX6, "writeDownShares", "(I)V"⟩
abbrev cX6_shareAt : ByteArray := prog_8_method_8_code
def yX6_shareAt : MethodName := ⟨RX6, "shareAt", "(II)I"⟩
abbrev cX6_sharesOverPlaces : ByteArray := prog_8_method_9_code
def yX6_sharesOverPlaces : MethodName := ⟨RX6, "sharesOverPlaces", "(II)J"⟩
def RX7 : String := "OceanMail$Tape"
def TX7 : u_T := fun k => match k with
  | 0 => ("OceanMail$Tape", "bytes", "[I", true)
  | _ => ("OceanMail$Tape", "size", "I", false)
def tyX7 : Nat → FieldType := fun k => match k with
  | 0 => .array .int
  | _ => .int
abbrev wsX70 : List Cond := u_ws RX7 TX7 2
theorem nmX7 : ∀ a, a < 2 → ∀ b, b < 2 → a ≠ b → (TX7 a).2.1 ≠ (TX7 b).2.1 := by decide +kernel
theorem tyX7_ok : ∀ k, k < 2 → parseFieldDescriptor (TX7 k).2.2.1 = some (tyX7 k) := by decide +kernel
abbrev cX7_init : ByteArray := prog_9_method_1_code
def yX7_init : MethodName := ⟨RX7, "<init>", "()V"⟩
abbrev cX7_addBytes : ByteArray := prog_9_method_2_code
def yX7_addBytes : MethodName := ⟨RX7, "addBytes", "(I)V"⟩
def RX8 : String := "OceanMail$Voyage"
def TX8 : u_T := fun k => match k with
  | 0 => ("OceanMail$Voyage", "line", "I", false)
  | 1 => ("OceanMail$Voyage", "speed", "I", false)
  | 2 => ("OceanMail$Voyage", "stay", "I", false)
  | 3 => ("OceanMail$Voyage", "start", "I", false)
  | 4 => ("OceanMail$Voyage", "legs", "I", false)
  | 5 => ("OceanMail$Voyage", "ports", "[I", true)
  | 6 => ("OceanMail$Voyage", "passages", "[I", true)
  | 7 => ("OceanMail$Voyage", "tableHours", "[I", true)
  | 8 => ("OceanMail$Voyage", "breakHours", "[I", true)
  | 9 => ("OceanMail$Voyage", "awaitedVoyage", "[I", true)
  | 10 => ("OceanMail$Voyage", "awaitedPlace", "[I", true)
  | 11 => ("OceanMail$Voyage", "dueCome", "[I", true)
  | _ => ("OceanMail$Voyage", "dueLeave", "[I", true)
def tyX8 : Nat → FieldType := fun k => match k with
  | 0 => .int
  | 1 => .int
  | 2 => .int
  | 3 => .int
  | 4 => .int
  | 5 => .array .int
  | 6 => .array .int
  | 7 => .array .int
  | 8 => .array .int
  | 9 => .array .int
  | 10 => .array .int
  | 11 => .array .int
  | _ => .array .int
abbrev wsX80 : List Cond := u_ws RX8 TX8 13
theorem nmX8 : ∀ a, a < 13 → ∀ b, b < 13 → a ≠ b → (TX8 a).2.1 ≠ (TX8 b).2.1 := by decide +kernel
theorem tyX8_ok : ∀ k, k < 13 → parseFieldDescriptor (TX8 k).2.2.1 = some (tyX8 k) := by decide +kernel
abbrev cX8_init : ByteArray := prog_10_method_1_code
def yX8_init : MethodName := ⟨RX8, "<init>", "()V"⟩
abbrev cX8_begin : ByteArray := prog_10_method_2_code
def yX8_begin : MethodName := ⟨RX8, "begin", "(IIIII)V"⟩
abbrev cX8_hasPlace : ByteArray := prog_10_method_3_code
def yX8_hasPlace : MethodName := ⟨RX8, "hasPlace", "(I)Z"⟩
abbrev cX8_comesTo : ByteArray := prog_10_method_4_code
def yX8_comesTo : MethodName := ⟨RX8, "comesTo", "(I)Z"⟩
abbrev cX8_leavesFrom : ByteArray := prog_10_method_5_code
def yX8_leavesFrom : MethodName := ⟨RX8, "leavesFrom", "(I)Z"⟩
abbrev cX8_endPort : ByteArray := prog_10_method_6_code
def yX8_endPort : MethodName := ⟨RX8, "endPort", "()I"⟩
abbrev cX8_addLeg : ByteArray := prog_10_method_7_code
def yX8_addLeg : MethodName := ⟨RX8, "addLeg", "(III)V"⟩
abbrev cX8_lateAt : ByteArray := prog_10_method_8_code
def yX8_lateAt : MethodName := ⟨RX8, "lateAt", "(II)I"⟩
def RX9 : String := "OceanMail"
def TX9 : u_T := fun k => match k with
  | 0 => ("OceanMail", "books", "LOceanMail$Books;", true)
  | 1 => ("OceanMail", "tape", "LOceanMail$Tape;", true)
  | 2 => ("OceanMail", "reader", "LOceanMail$Reader;", true)
  | 3 => ("OceanMail", "course", "LOceanMail$Course;", true)
  | _ => ("OceanMail", "post", "LOceanMail$Post;", true)
def tyX9 : Nat → FieldType := fun k => match k with
  | 0 => .object "OceanMail$Books"
  | 1 => .object "OceanMail$Tape"
  | 2 => .object "OceanMail$Reader"
  | 3 => .object "OceanMail$Course"
  | _ => .object "OceanMail$Post"
abbrev wsX90 : List Cond := u_ws RX9 TX9 5
theorem nmX9 : ∀ a, a < 5 → ∀ b, b < 5 → a ≠ b → (TX9 a).2.1 ≠ (TX9 b).2.1 := by decide +kernel
theorem tyX9_ok : ∀ k, k < 5 → parseFieldDescriptor (TX9 k).2.2.1 = some (tyX9 k) := by decide +kernel
abbrev cX9_init : ByteArray := prog_1_method_1_code
def yX9_init : MethodName := ⟨RX9, "<init>", "()V"⟩
abbrev cX9_feed : ByteArray := prog_1_method_2_code
def yX9_feed : MethodName := ⟨RX9, "feed", "(IIIII)I"⟩
abbrev cX9_passage : ByteArray := prog_1_method_3_code
def yX9_passage : MethodName := ⟨RX9, "passage", "(III)I"⟩
abbrev cX9_wind : ByteArray := prog_1_method_4_code
def yX9_wind : MethodName := ⟨RX9, "wind", "(IID)Z"⟩
abbrev cX9_voyage : ByteArray := prog_1_method_5_code
def yX9_voyage : MethodName := ⟨RX9, "voyage", "(IIIII)I"⟩
abbrev cX9_leg : ByteArray := prog_1_method_6_code
def yX9_leg : MethodName := ⟨RX9, "leg", "(II)I"⟩
abbrev cX9_broken : ByteArray := prog_1_method_7_code
def yX9_broken : MethodName := ⟨RX9, "broken", "(III)Z"⟩
abbrev cX9_meet : ByteArray := prog_1_method_8_code
def yX9_meet : MethodName := ⟨RX9, "meet", "(IIII)Z"⟩
abbrev cX9_contract : ByteArray := prog_1_method_9_code
def yX9_contract : MethodName := ⟨RX9, "contract", "(II)I"⟩
abbrev cX9_fault : ByteArray := prog_1_method_10_code
def yX9_fault : MethodName := ⟨RX9, "fault", "(I)I"⟩
abbrev cX9_due : ByteArray := prog_1_method_11_code
def yX9_due : MethodName := ⟨RX9, "due", "(III)I"⟩
abbrev cX9_truth : ByteArray := prog_1_method_12_code
def yX9_truth : MethodName := ⟨RX9, "truth", "(III)I"⟩
abbrev cX9_share : ByteArray := prog_1_method_13_code
def yX9_share : MethodName := ⟨RX9, "share", "(III)I"⟩
abbrev cX9_owed : ByteArray := prog_1_method_14_code
def yX9_owed : MethodName := ⟨RX9, "owed", "(I)J"⟩
abbrev cX9_first : ByteArray := prog_1_method_15_code
def yX9_first : MethodName := ⟨RX9, "first", "(IIIZ)I"⟩
abbrev cX9_last : ByteArray := prog_1_method_16_code
def yX9_last : MethodName := ⟨RX9, "last", "(IIIZ)I"⟩
abbrev cX9_ride : ByteArray := prog_1_method_17_code
def yX9_ride : MethodName := ⟨RX9, "ride", "(II)I"⟩
abbrev cX9_look : ByteArray := prog_1_method_18_code
def yX9_look : MethodName := ⟨RX9, "look", "(II)I"⟩
abbrev cX9_count : ByteArray := prog_1_method_19_code
def yX9_count : MethodName := ⟨RX9, "count", "(I)I"⟩
abbrev cX9_isPort : ByteArray := prog_1_method_20_code
def yX9_isPort : MethodName := ⟨RX9, "isPort", "(I)Z"⟩
abbrev cX9_areTwoPorts : ByteArray := prog_1_method_21_code
def yX9_areTwoPorts : MethodName := ⟨RX9, "areTwoPorts", "(II)Z"⟩
abbrev cX9_isLine : ByteArray := prog_1_method_22_code
def yX9_isLine : MethodName := ⟨RX9, "isLine", "(I)Z"⟩
abbrev cX9_isAskedHour : ByteArray := prog_1_method_23_code
def yX9_isAskedHour : MethodName := ⟨RX9, "isAskedHour", "(I)Z"⟩
abbrev cX9_monthOf : ByteArray := prog_1_method_24_code
def yX9_monthOf : MethodName := ⟨RX9, "monthOf", "(I)I"⟩
abbrev cX9_roundedDown : ByteArray := prog_1_method_25_code
def yX9_roundedDown : MethodName := ⟨RX9, "roundedDown", "(D)I"⟩
abbrev cX9_hoursFor : ByteArray := prog_1_method_26_code
def yX9_hoursFor : MethodName := ⟨RX9, "hoursFor", "(II)I"⟩
def RX10 : String := "OceanMailModel"
def TX10 : u_T := fun k => match k with
  | 0 => ("OceanMailModel", "passages", "I", false)
  | 1 => ("OceanMailModel", "voyages", "I", false)
  | 2 => ("OceanMailModel", "meetings", "I", false)
  | 3 => ("OceanMailModel", "one", "[I", true)
  | 4 => ("OceanMailModel", "two", "[I", true)
  | 5 => ("OceanMailModel", "miles", "[I", true)
  | 6 => ("OceanMailModel", "windOf", "[I", true)
  | 7 => ("OceanMailModel", "line", "[I", true)
  | 8 => ("OceanMailModel", "speed", "[I", true)
  | 9 => ("OceanMailModel", "stay", "[I", true)
  | 10 => ("OceanMailModel", "start", "[I", true)
  | 11 => ("OceanMailModel", "legs", "[I", true)
  | 12 => ("OceanMailModel", "passageOf", "[I", true)
  | 13 => ("OceanMailModel", "brokenOf", "[I", true)
  | 14 => ("OceanMailModel", "port", "[I", true)
  | 15 => ("OceanMailModel", "meetV", "[I", true)
  | 16 => ("OceanMailModel", "meetI", "[I", true)
  | 17 => ("OceanMailModel", "meetU", "[I", true)
  | 18 => ("OceanMailModel", "meetJ", "[I", true)
  | 19 => ("OceanMailModel", "isRun", "Z", false)
  | 20 => ("OceanMailModel", "tape", "[B", true)
  | 21 => ("OceanMailModel", "taped", "I", false)
  | 22 => ("OceanMailModel", "faultNumber", "I", false)
  | 23 => ("OceanMailModel", "faultPlace", "I", false)
  | 24 => ("OceanMailModel", "clauses", "[I", true)
  | 25 => ("OceanMailModel", "codes", "[I", true)
  | 26 => ("OceanMailModel", "pence", "[I", true)
  | 27 => ("OceanMailModel", "clauseKind", "[I", true)
  | 28 => ("OceanMailModel", "clauseNumber", "[I", true)
  | 29 => ("OceanMailModel", "clauseFrom", "[I", true)
  | 30 => ("OceanMailModel", "clauseTo", "[I", true)
  | 31 => ("OceanMailModel", "codeKind", "[I", true)
  | 32 => ("OceanMailModel", "codeLetter", "[I", true)
  | 33 => ("OceanMailModel", "codeSign", "[I", true)
  | 34 => ("OceanMailModel", "codeNumber", "[I", true)
  | 35 => ("OceanMailModel", "pile", "[I", true)
  | 36 => ("OceanMailModel", "piled", "I", false)
  | 37 => ("OceanMailModel", "at", "I", false)
  | 38 => ("OceanMailModel", "size", "I", false)
  | 39 => ("OceanMailModel", "deep", "I", false)
  | 40 => ("OceanMailModel", "number", "I", false)
  | 41 => ("OceanMailModel", "value", "[I", true)
  | 42 => ("OceanMailModel", "held", "[Z", true)
  | 43 => ("OceanMailModel", "comes", "[I", true)
  | 44 => ("OceanMailModel", "leaves", "[I", true)
  | 45 => ("OceanMailModel", "waited", "[I", true)
  | 46 => ("OceanMailModel", "nobody", "[I", true)
  | 47 => ("OceanMailModel", "shares", "[I", true)
  | 48 => ("OceanMailModel", "place", "[I", true)
  | 49 => ("OceanMailModel", "ready", "[I", true)
  | 50 => ("OceanMailModel", "arrives", "[I", true)
  | 51 => ("OceanMailModel", "isSailing", "[Z", true)
  | 52 => ("OceanMailModel", "byTruth", "Z", false)
  | 53 => ("OceanMailModel", "from", "[I", true)
  | 54 => ("OceanMailModel", "further", "[I", true)
  | 55 => ("OceanMailModel", "rides", "I", false)
  | 56 => ("OceanMailModel", "rideV", "[I", true)
  | 57 => ("OceanMailModel", "rideI", "[I", true)
  | _ => ("OceanMailModel", "rideJ", "[I", true)
def tyX10 : Nat → FieldType := fun k => match k with
  | 0 => .int
  | 1 => .int
  | 2 => .int
  | 3 => .array .int
  | 4 => .array .int
  | 5 => .array .int
  | 6 => .array .int
  | 7 => .array .int
  | 8 => .array .int
  | 9 => .array .int
  | 10 => .array .int
  | 11 => .array .int
  | 12 => .array .int
  | 13 => .array .int
  | 14 => .array .int
  | 15 => .array .int
  | 16 => .array .int
  | 17 => .array .int
  | 18 => .array .int
  | 19 => .boolean
  | 20 => .array .byte
  | 21 => .int
  | 22 => .int
  | 23 => .int
  | 24 => .array .int
  | 25 => .array .int
  | 26 => .array .int
  | 27 => .array .int
  | 28 => .array .int
  | 29 => .array .int
  | 30 => .array .int
  | 31 => .array .int
  | 32 => .array .int
  | 33 => .array .int
  | 34 => .array .int
  | 35 => .array .int
  | 36 => .int
  | 37 => .int
  | 38 => .int
  | 39 => .int
  | 40 => .int
  | 41 => .array .int
  | 42 => .array .boolean
  | 43 => .array .int
  | 44 => .array .int
  | 45 => .array .int
  | 46 => .array .int
  | 47 => .array .int
  | 48 => .array .int
  | 49 => .array .int
  | 50 => .array .int
  | 51 => .array .boolean
  | 52 => .boolean
  | 53 => .array .int
  | 54 => .array .int
  | 55 => .int
  | 56 => .array .int
  | 57 => .array .int
  | _ => .array .int
abbrev wsX100 : List Cond := u_ws RX10 TX10 59
theorem nmX10 : ∀ a, a < 59 → ∀ b, b < 59 → a ≠ b → (TX10 a).2.1 ≠ (TX10 b).2.1 := by decide +kernel
theorem tyX10_ok : ∀ k, k < 59 → parseFieldDescriptor (TX10 k).2.2.1 = some (tyX10 k) := by decide +kernel
abbrev cX10_init : ByteArray := prog_12_method_1_code
def yX10_init : MethodName := ⟨RX10, "<init>", "()V"⟩
abbrev cX10_isPort : ByteArray := prog_12_method_2_code
def yX10_isPort : MethodName := ⟨RX10, "isPort", "(I)Z"⟩
abbrev cX10_isVoyage : ByteArray := prog_12_method_3_code
def yX10_isVoyage : MethodName := ⟨RX10, "isVoyage", "(I)Z"⟩
abbrev cX10_passage : ByteArray := prog_12_method_4_code
def yX10_passage : MethodName := ⟨RX10, "passage", "(III)I"⟩
abbrev cX10_wind : ByteArray := prog_12_method_5_code
def yX10_wind : MethodName := ⟨RX10, "wind", "(IID)Z"⟩
abbrev cX10_voyage : ByteArray := prog_12_method_6_code
def yX10_voyage : MethodName := ⟨RX10, "voyage", "(IIIII)I"⟩
abbrev cX10_leg : ByteArray := prog_12_method_7_code
def yX10_leg : MethodName := ⟨RX10, "leg", "(II)I"⟩
abbrev cX10_broken : ByteArray := prog_12_method_8_code
def yX10_broken : MethodName := ⟨RX10, "broken", "(III)Z"⟩
abbrev cX10_meeting : ByteArray := prog_12_method_9_code
def yX10_meeting : MethodName := ⟨RX10, "meeting", "(II)I"⟩
abbrev cX10_meet : ByteArray := prog_12_method_10_code
def yX10_meet : MethodName := ⟨RX10, "meet", "(IIII)Z"⟩
abbrev cX10_types : ByteArray := prog_12_method_11_code
def yX10_types : MethodName := ⟨RX10, "types", "(I)V"⟩
abbrev cX10_feed : ByteArray := prog_12_method_12_code
def yX10_feed : MethodName := ⟨RX10, "feed", "(IIIII)I"⟩
abbrev cX10_here : ByteArray := prog_12_method_13_code
def yX10_here : MethodName := ⟨RX10, "here", "()I"⟩
abbrev cX10_wrong : ByteArray := prog_12_method_14_code
def yX10_wrong : MethodName := ⟨RX10, "wrong", "(I)Z"⟩
abbrev cX10_reads : ByteArray := prog_12_method_15_code
def yX10_reads : MethodName := ⟨RX10, "reads", "()Z"⟩
abbrev cX10_code : ByteArray := prog_12_method_16_code
def yX10_code : MethodName := ⟨RX10, "code", "(IIII)V"⟩
abbrev cX10_isTop : ByteArray := prog_12_method_17_code
def yX10_isTop : MethodName := ⟨RX10, "isTop", "(I)Z"⟩
abbrev cX10_pops : ByteArray := prog_12_method_18_code
def yX10_pops : MethodName := ⟨RX10, "pops", "()V"⟩
abbrev cX10_pushes : ByteArray := prog_12_method_19_code
def yX10_pushes : MethodName := ⟨RX10, "pushes", "(I)V"⟩
abbrev cX10_ends : ByteArray := prog_12_method_20_code
def yX10_ends : MethodName := ⟨RX10, "ends", "()V"⟩
abbrev cX10_hasOpen : ByteArray := prog_12_method_21_code
def yX10_hasOpen : MethodName := ⟨RX10, "hasOpen", "()Z"⟩
abbrev cX10_letterOf : ByteArray := prog_12_method_22_code
def yX10_letterOf : MethodName := ⟨RX10, "letterOf", "(I)I"⟩
abbrev cX10_readsFactor : ByteArray := prog_12_method_23_code
def yX10_readsFactor : MethodName := ⟨RX10, "readsFactor", "()Z"⟩
abbrev cX10_readsTest : ByteArray := prog_12_method_24_code
def yX10_readsTest : MethodName := ⟨RX10, "readsTest", "()Z"⟩
abbrev cX10_readsClause : ByteArray := prog_12_method_25_code
def yX10_readsClause : MethodName := ⟨RX10, "readsClause", "()Z"⟩
abbrev cX10_readsText : ByteArray := prog_12_method_26_code
def yX10_readsText : MethodName := ⟨RX10, "readsText", "(I)Z"⟩
abbrev cX10_contract : ByteArray := prog_12_method_27_code
def yX10_contract : MethodName := ⟨RX10, "contract", "(II)I"⟩
abbrev cX10_fault : ByteArray := prog_12_method_28_code
def yX10_fault : MethodName := ⟨RX10, "fault", "(I)I"⟩
abbrev cX10_holds : ByteArray := prog_12_method_29_code
def yX10_holds : MethodName := ⟨RX10, "holds", "(III)Z"⟩
abbrev cX10_up : ByteArray := prog_12_method_30_code
def yX10_up : MethodName := ⟨RX10, "up", "(II)I"⟩
abbrev cX10_tableHours : ByteArray := prog_12_method_31_code
def yX10_tableHours : MethodName := ⟨RX10, "tableHours", "(II)I"⟩
abbrev cX10_dueLeave : ByteArray := prog_12_method_32_code
def yX10_dueLeave : MethodName := ⟨RX10, "dueLeave", "(II)I"⟩
abbrev cX10_dueCome : ByteArray := prog_12_method_33_code
def yX10_dueCome : MethodName := ⟨RX10, "dueCome", "(II)I"⟩
abbrev cX10_due : ByteArray := prog_12_method_34_code
def yX10_due : MethodName := ⟨RX10, "due", "(III)I"⟩
abbrev cX10_month : ByteArray := prog_12_method_35_code
def yX10_month : MethodName := ⟨RX10, "month", "(I)I"⟩
abbrev cX10_windIn : ByteArray := prog_12_method_36_code
def yX10_windIn : MethodName := ⟨RX10, "windIn", "(III)I"⟩
abbrev cX10_waits : ByteArray := prog_12_method_37_code
def yX10_waits : MethodName := ⟨RX10, "waits", "(II)Z"⟩
abbrev cX10_sails : ByteArray := prog_12_method_38_code
def yX10_sails : MethodName := ⟨RX10, "sails", "(II)V"⟩
abbrev cX10_isExcused : ByteArray := prog_12_method_39_code
def yX10_isExcused : MethodName := ⟨RX10, "isExcused", "(III)Z"⟩
abbrev cX10_sharesAt : ByteArray := prog_12_method_40_code
def yX10_sharesAt : MethodName := ⟨RX10, "sharesAt", "(III)V"⟩
abbrev cX10_runs : ByteArray := prog_12_method_41_code
def yX10_runs : MethodName := ⟨RX10, "runs", "()V"⟩
abbrev cX10_truth : ByteArray := prog_12_method_42_code
def yX10_truth : MethodName := ⟨RX10, "truth", "(III)I"⟩
abbrev cX10_share : ByteArray := prog_12_method_43_code
def yX10_share : MethodName := ⟨RX10, "share", "(III)I"⟩
abbrev cX10_owed : ByteArray := prog_12_method_44_code
def yX10_owed : MethodName := ⟨RX10, "owed", "(I)J"⟩
abbrev cX10_leaving : ByteArray := prog_12_method_45_code
def yX10_leaving : MethodName := ⟨RX10, "leaving", "(II)I"⟩
abbrev cX10_coming : ByteArray := prog_12_method_46_code
def yX10_coming : MethodName := ⟨RX10, "coming", "(II)I"⟩
abbrev cX10_earliest : ByteArray := prog_12_method_47_code
def yX10_earliest : MethodName := ⟨RX10, "earliest", "(IIII)I"⟩
abbrev cX10_isRide : ByteArray := prog_12_method_48_code
def yX10_isRide : MethodName := ⟨RX10, "isRide", "(IIIIIIII)Z"⟩
abbrev cX10_findsRide : ByteArray := prog_12_method_49_code
def yX10_findsRide : MethodName := ⟨RX10, "findsRide", "(IIIIII)Z"⟩
abbrev cX10_areAsked : ByteArray := prog_12_method_50_code
def yX10_areAsked : MethodName := ⟨RX10, "areAsked", "(III)Z"⟩
abbrev cX10_first : ByteArray := prog_12_method_51_code
def yX10_first : MethodName := ⟨RX10, "first", "(IIIZ)I"⟩
abbrev cX10_last : ByteArray := prog_12_method_52_code
def yX10_last : MethodName := ⟨RX10, "last", "(IIIZ)I"⟩
abbrev cX10_ride : ByteArray := prog_12_method_53_code
def yX10_ride : MethodName := ⟨RX10, "ride", "(II)I"⟩
abbrev cX10_look : ByteArray := prog_12_method_54_code
def yX10_look : MethodName := ⟨RX10, "look", "(II)I"⟩
abbrev cX10_count : ByteArray := prog_12_method_55_code
def yX10_count : MethodName := ⟨RX10, "count", "(I)I"⟩
def RJ9 : String := "java/lang/Math"
def TJ9 : u_T := fun k => match k with
  | _ => ("", "", "", false)
def tyJ9 : Nat → FieldType := fun k => match k with
  | _ => .int
abbrev wsJ90 : List Cond := u_ws RJ9 TJ9 0
theorem nmJ9 : ∀ a, a < 0 → ∀ b, b < 0 → a ≠ b → (TJ9 a).2.1 ≠ (TJ9 b).2.1 := by decide +kernel
theorem tyJ9_ok : ∀ k, k < 0 → parseFieldDescriptor (TJ9 k).2.2.1 = some (tyJ9 k) := by decide +kernel
abbrev cJ9_max_7cf53 : ByteArray := prog_13_method_65_code
def yJ9_max_7cf53 : MethodName := ⟨RJ9, "max", "(II)I"⟩
abbrev cJ9_min_7cf53 : ByteArray := prog_13_method_69_code
def yJ9_min_7cf53 : MethodName := ⟨RJ9, "min", "(II)I"⟩
def RJ10 : String := "java/lang/System"
def TJ10 : u_T := fun k => match k with
  | _ => ("", "", "", false)
def tyJ10 : Nat → FieldType := fun k => match k with
  | _ => .int
abbrev wsJ100 : List Cond := u_ws RJ10 TJ10 0
theorem nmJ10 : ∀ a, a < 0 → ∀ b, b < 0 → a ≠ b → (TJ10 a).2.1 ≠ (TJ10 b).2.1 := by decide +kernel
theorem tyJ10_ok : ∀ k, k < 0 → parseFieldDescriptor (TJ10 k).2.2.1 = some (tyJ10 k) := by decide +kernel
def RJ7 : String := "java/util/Arrays"
def TJ7 : u_T := fun k => match k with
  | _ => ("", "", "", false)
def tyJ7 : Nat → FieldType := fun k => match k with
  | _ => .int
abbrev wsJ70 : List Cond := u_ws RJ7 TJ7 0
theorem nmJ7 : ∀ a, a < 0 → ∀ b, b < 0 → a ≠ b → (TJ7 a).2.1 ≠ (TJ7 b).2.1 := by decide +kernel
theorem tyJ7_ok : ∀ k, k < 0 → parseFieldDescriptor (TJ7 k).2.2.1 = some (tyJ7 k) := by decide +kernel
abbrev cJ7_fill_53178 : ByteArray := prog_15_method_103_code
def yJ7_fill_53178 : MethodName := ⟨RJ7, "fill", "([II)V"⟩
def RL : String := "OceanMailLaw"
abbrev cL_law : ByteArray := code
def yL_law : MethodName := ⟨RL, "law", "([I)Z"⟩
abbrev vwCl : List vw_C := [(RX0, TX0, 6), (RX1, TX1, 5), (RX2, TX2, 9), (RX3, TX3, 3), (RX4, TX4, 7), (RX5, TX5, 9), (RX6, TX6, 9), (RX7, TX7, 2), (RX8, TX8, 13), (RX9, TX9, 5), (RX10, TX10, 59)]
end
section
theorem dX0_init_0 : decode cX0_init 0 = .ok (.aload_n 0, 1) := by decide +kernel
theorem dX0_init_1 : decode cX0_init 1 = .ok (.invokespecial 3, 3) := by decide +kernel
theorem dX0_init_4 : decode cX0_init 4 = .ok (.aload_n 0, 1) := by decide +kernel
theorem dX0_init_5 : decode cX0_init 5 = .ok (.new 9, 3) := by decide +kernel
theorem dX0_init_8 : decode cX0_init 8 = .ok (.dup, 1) := by decide +kernel
theorem dX0_init_9 : decode cX0_init 9 = .ok (.invokespecial 11, 3) := by decide +kernel
theorem dX0_init_12 : decode cX0_init 12 = .ok (.putfield 12, 3) := by decide +kernel
theorem dX0_init_15 : decode cX0_init 15 = .ok (.aload_n 0, 1) := by decide +kernel
theorem dX0_init_16 : decode cX0_init 16 = .ok (.bipush 10, 2) := by decide +kernel
theorem dX0_init_18 : decode cX0_init 18 = .ok (.anewarray 18, 3) := by decide +kernel
theorem dX0_init_21 : decode cX0_init 21 = .ok (.putfield 20, 3) := by decide +kernel
theorem dX0_init_24 : decode cX0_init 24 = .ok (.iconst 0, 1) := by decide +kernel
theorem dX0_init_25 : decode cX0_init 25 = .ok (.istore_n 1, 1) := by decide +kernel
theorem dX0_init_26 : decode cX0_init 26 = .ok (.iload_n 1, 1) := by decide +kernel
theorem dX0_init_27 : decode cX0_init 27 = .ok (.bipush 10, 2) := by decide +kernel
theorem dX0_init_29 : decode cX0_init 29 = .ok (.if_icmp .ge 22, 3) := by decide +kernel
theorem dX0_init_32 : decode cX0_init 32 = .ok (.aload_n 0, 1) := by decide +kernel
theorem dX0_init_33 : decode cX0_init 33 = .ok (.getfield 20, 3) := by decide +kernel
theorem dX0_init_36 : decode cX0_init 36 = .ok (.iload_n 1, 1) := by decide +kernel
theorem dX0_init_37 : decode cX0_init 37 = .ok (.new 18, 3) := by decide +kernel
theorem dX0_init_40 : decode cX0_init 40 = .ok (.dup, 1) := by decide +kernel
theorem dX0_init_41 : decode cX0_init 41 = .ok (.invokespecial 24, 3) := by decide +kernel
theorem dX0_init_44 : decode cX0_init 44 = .ok (.aastore, 1) := by decide +kernel
theorem dX0_init_45 : decode cX0_init 45 = .ok (.iinc 1 1, 3) := by decide +kernel
theorem dX0_init_48 : decode cX0_init 48 = .ok (.goto (-22), 3) := by decide +kernel
theorem dX0_init_51 : decode cX0_init 51 = .ok (.aload_n 0, 1) := by decide +kernel
theorem dX0_init_52 : decode cX0_init 52 = .ok (.iconst 0, 1) := by decide +kernel
theorem dX0_init_53 : decode cX0_init 53 = .ok (.putfield 25, 3) := by decide +kernel
theorem dX0_init_56 : decode cX0_init 56 = .ok (.aload_n 0, 1) := by decide +kernel
theorem dX0_init_57 : decode cX0_init 57 = .ok (.iconst 0, 1) := by decide +kernel
theorem dX0_init_58 : decode cX0_init 58 = .ok (.putfield 29, 3) := by decide +kernel
theorem dX0_init_61 : decode cX0_init 61 = .ok (.aload_n 0, 1) := by decide +kernel
theorem dX0_init_62 : decode cX0_init 62 = .ok (.iconst 4, 1) := by decide +kernel
theorem dX0_init_63 : decode cX0_init 63 = .ok (.anewarray 32, 3) := by decide +kernel
theorem dX0_init_66 : decode cX0_init 66 = .ok (.putfield 34, 3) := by decide +kernel
theorem dX0_init_69 : decode cX0_init 69 = .ok (.iconst 0, 1) := by decide +kernel
theorem dX0_init_70 : decode cX0_init 70 = .ok (.istore_n 1, 1) := by decide +kernel
theorem dX0_init_71 : decode cX0_init 71 = .ok (.iload_n 1, 1) := by decide +kernel
theorem dX0_init_72 : decode cX0_init 72 = .ok (.iconst 4, 1) := by decide +kernel
theorem dX0_init_73 : decode cX0_init 73 = .ok (.if_icmp .ge 22, 3) := by decide +kernel
theorem dX0_init_76 : decode cX0_init 76 = .ok (.aload_n 0, 1) := by decide +kernel
theorem dX0_init_77 : decode cX0_init 77 = .ok (.getfield 34, 3) := by decide +kernel
theorem dX0_init_80 : decode cX0_init 80 = .ok (.iload_n 1, 1) := by decide +kernel
theorem dX0_init_81 : decode cX0_init 81 = .ok (.new 32, 3) := by decide +kernel
theorem dX0_init_84 : decode cX0_init 84 = .ok (.dup, 1) := by decide +kernel
theorem dX0_init_85 : decode cX0_init 85 = .ok (.invokespecial 38, 3) := by decide +kernel
theorem dX0_init_88 : decode cX0_init 88 = .ok (.aastore, 1) := by decide +kernel
theorem dX0_init_89 : decode cX0_init 89 = .ok (.iinc 1 1, 3) := by decide +kernel
theorem dX0_init_92 : decode cX0_init 92 = .ok (.goto (-21), 3) := by decide +kernel
theorem dX0_init_95 : decode cX0_init 95 = .ok (.aload_n 0, 1) := by decide +kernel
theorem dX0_init_96 : decode cX0_init 96 = .ok (.new 32, 3) := by decide +kernel
theorem dX0_init_99 : decode cX0_init 99 = .ok (.dup, 1) := by decide +kernel
theorem dX0_init_100 : decode cX0_init 100 = .ok (.invokespecial 38, 3) := by decide +kernel
theorem dX0_init_103 : decode cX0_init 103 = .ok (.putfield 39, 3) := by decide +kernel
theorem dX0_init_106 : decode cX0_init 106 = .ok (.return_, 1) := by decide +kernel
theorem dX0_hasVoyage_0 : decode cX0_hasVoyage 0 = .ok (.iload_n 1, 1) := by decide +kernel
theorem dX0_hasVoyage_1 : decode cX0_hasVoyage 1 = .ok (.ifCond .lt 15, 3) := by decide +kernel
theorem dX0_hasVoyage_4 : decode cX0_hasVoyage 4 = .ok (.iload_n 1, 1) := by decide +kernel
theorem dX0_hasVoyage_5 : decode cX0_hasVoyage 5 = .ok (.aload_n 0, 1) := by decide +kernel
theorem dX0_hasVoyage_6 : decode cX0_hasVoyage 6 = .ok (.getfield 25, 3) := by decide +kernel
theorem dX0_hasVoyage_9 : decode cX0_hasVoyage 9 = .ok (.if_icmp .ge 7, 3) := by decide +kernel
theorem dX0_hasVoyage_12 : decode cX0_hasVoyage 12 = .ok (.iconst 1, 1) := by decide +kernel
theorem dX0_hasVoyage_13 : decode cX0_hasVoyage 13 = .ok (.goto 4, 3) := by decide +kernel
theorem dX0_hasVoyage_16 : decode cX0_hasVoyage 16 = .ok (.iconst 0, 1) := by decide +kernel
theorem dX0_hasVoyage_17 : decode cX0_hasVoyage 17 = .ok (.ireturn, 1) := by decide +kernel
theorem dX1_init_0 : decode cX1_init 0 = .ok (.aload_n 0, 1) := by decide +kernel
theorem dX1_init_1 : decode cX1_init 1 = .ok (.invokespecial 3, 3) := by decide +kernel
theorem dX1_init_4 : decode cX1_init 4 = .ok (.aload_n 0, 1) := by decide +kernel
theorem dX1_init_5 : decode cX1_init 5 = .ok (.bipush 12, 2) := by decide +kernel
theorem dX1_init_7 : decode cX1_init 7 = .ok (.newarray .int, 2) := by decide +kernel
theorem dX1_init_9 : decode cX1_init 9 = .ok (.putfield 9, 3) := by decide +kernel
theorem dX1_init_12 : decode cX1_init 12 = .ok (.aload_n 0, 1) := by decide +kernel
theorem dX1_init_13 : decode cX1_init 13 = .ok (.bipush 12, 2) := by decide +kernel
theorem dX1_init_15 : decode cX1_init 15 = .ok (.newarray .int, 2) := by decide +kernel
theorem dX1_init_17 : decode cX1_init 17 = .ok (.putfield 15, 3) := by decide +kernel
theorem dX1_init_20 : decode cX1_init 20 = .ok (.aload_n 0, 1) := by decide +kernel
theorem dX1_init_21 : decode cX1_init 21 = .ok (.bipush 12, 2) := by decide +kernel
theorem dX1_init_23 : decode cX1_init 23 = .ok (.newarray .int, 2) := by decide +kernel
theorem dX1_init_25 : decode cX1_init 25 = .ok (.putfield 18, 3) := by decide +kernel
theorem dX1_init_28 : decode cX1_init 28 = .ok (.aload_n 0, 1) := by decide +kernel
theorem dX1_init_29 : decode cX1_init 29 = .ok (.sipush 144, 3) := by decide +kernel
theorem dX1_init_32 : decode cX1_init 32 = .ok (.newarray .int, 2) := by decide +kernel
theorem dX1_init_34 : decode cX1_init 34 = .ok (.putfield 21, 3) := by decide +kernel
theorem dX1_init_37 : decode cX1_init 37 = .ok (.aload_n 0, 1) := by decide +kernel
theorem dX1_init_38 : decode cX1_init 38 = .ok (.iconst 0, 1) := by decide +kernel
theorem dX1_init_39 : decode cX1_init 39 = .ok (.putfield 24, 3) := by decide +kernel
theorem dX1_init_42 : decode cX1_init 42 = .ok (.return_, 1) := by decide +kernel
theorem dX1_has_0 : decode cX1_has 0 = .ok (.iload_n 1, 1) := by decide +kernel
theorem dX1_has_1 : decode cX1_has 1 = .ok (.ifCond .lt 15, 3) := by decide +kernel
theorem dX1_has_4 : decode cX1_has 4 = .ok (.iload_n 1, 1) := by decide +kernel
theorem dX1_has_5 : decode cX1_has 5 = .ok (.aload_n 0, 1) := by decide +kernel
theorem dX1_has_6 : decode cX1_has 6 = .ok (.getfield 24, 3) := by decide +kernel
theorem dX1_has_9 : decode cX1_has 9 = .ok (.if_icmp .ge 7, 3) := by decide +kernel
theorem dX1_has_12 : decode cX1_has 12 = .ok (.iconst 1, 1) := by decide +kernel
theorem dX1_has_13 : decode cX1_has 13 = .ok (.goto 4, 3) := by decide +kernel
theorem dX1_has_16 : decode cX1_has 16 = .ok (.iconst 0, 1) := by decide +kernel
theorem dX1_has_17 : decode cX1_has 17 = .ok (.ireturn, 1) := by decide +kernel
theorem dX1_add_0 : decode cX1_add 0 = .ok (.aload_n 0, 1) := by decide +kernel
theorem dX1_add_1 : decode cX1_add 1 = .ok (.getfield 24, 3) := by decide +kernel
theorem dX1_add_4 : decode cX1_add 4 = .ok (.istore 4, 2) := by decide +kernel
theorem dX1_add_6 : decode cX1_add 6 = .ok (.aload_n 0, 1) := by decide +kernel
theorem dX1_add_7 : decode cX1_add 7 = .ok (.getfield 9, 3) := by decide +kernel
theorem dX1_add_10 : decode cX1_add 10 = .ok (.iload 4, 2) := by decide +kernel
theorem dX1_add_12 : decode cX1_add 12 = .ok (.iload_n 1, 1) := by decide +kernel
theorem dX1_add_13 : decode cX1_add 13 = .ok (.iastore, 1) := by decide +kernel
theorem dX1_add_14 : decode cX1_add 14 = .ok (.aload_n 0, 1) := by decide +kernel
theorem dX1_add_15 : decode cX1_add 15 = .ok (.getfield 15, 3) := by decide +kernel
theorem dX1_add_18 : decode cX1_add 18 = .ok (.iload 4, 2) := by decide +kernel
theorem dX1_add_20 : decode cX1_add 20 = .ok (.iload_n 2, 1) := by decide +kernel
theorem dX1_add_21 : decode cX1_add 21 = .ok (.iastore, 1) := by decide +kernel
theorem dX1_add_22 : decode cX1_add 22 = .ok (.aload_n 0, 1) := by decide +kernel
theorem dX1_add_23 : decode cX1_add 23 = .ok (.getfield 18, 3) := by decide +kernel
theorem dX1_add_26 : decode cX1_add 26 = .ok (.iload 4, 2) := by decide +kernel
theorem dX1_add_28 : decode cX1_add 28 = .ok (.iload_n 3, 1) := by decide +kernel
theorem dX1_add_29 : decode cX1_add 29 = .ok (.iastore, 1) := by decide +kernel
theorem dX1_add_30 : decode cX1_add 30 = .ok (.aload_n 0, 1) := by decide +kernel
theorem dX1_add_31 : decode cX1_add 31 = .ok (.iload 4, 2) := by decide +kernel
theorem dX1_add_33 : decode cX1_add 33 = .ok (.iconst 1, 1) := by decide +kernel
theorem dX1_add_34 : decode cX1_add 34 = .ok (.iadd, 1) := by decide +kernel
theorem dX1_add_35 : decode cX1_add 35 = .ok (.putfield 24, 3) := by decide +kernel
theorem dX1_add_38 : decode cX1_add 38 = .ok (.iload 4, 2) := by decide +kernel
theorem dX1_add_40 : decode cX1_add 40 = .ok (.ireturn, 1) := by decide +kernel
theorem dX1_otherEnd_0 : decode cX1_otherEnd 0 = .ok (.aload_n 0, 1) := by decide +kernel
theorem dX1_otherEnd_1 : decode cX1_otherEnd 1 = .ok (.getfield 9, 3) := by decide +kernel
theorem dX1_otherEnd_4 : decode cX1_otherEnd 4 = .ok (.iload_n 1, 1) := by decide +kernel
theorem dX1_otherEnd_5 : decode cX1_otherEnd 5 = .ok (.iaload, 1) := by decide +kernel
theorem dX1_otherEnd_6 : decode cX1_otherEnd 6 = .ok (.iload_n 2, 1) := by decide +kernel
theorem dX1_otherEnd_7 : decode cX1_otherEnd 7 = .ok (.if_icmp .ne 10, 3) := by decide +kernel
theorem dX1_otherEnd_10 : decode cX1_otherEnd 10 = .ok (.aload_n 0, 1) := by decide +kernel
theorem dX1_otherEnd_11 : decode cX1_otherEnd 11 = .ok (.getfield 15, 3) := by decide +kernel
theorem dX1_otherEnd_14 : decode cX1_otherEnd 14 = .ok (.iload_n 1, 1) := by decide +kernel
theorem dX1_otherEnd_15 : decode cX1_otherEnd 15 = .ok (.iaload, 1) := by decide +kernel
theorem dX1_otherEnd_16 : decode cX1_otherEnd 16 = .ok (.ireturn, 1) := by decide +kernel
theorem dX1_otherEnd_17 : decode cX1_otherEnd 17 = .ok (.aload_n 0, 1) := by decide +kernel
theorem dX1_otherEnd_18 : decode cX1_otherEnd 18 = .ok (.getfield 15, 3) := by decide +kernel
theorem dX1_otherEnd_21 : decode cX1_otherEnd 21 = .ok (.iload_n 1, 1) := by decide +kernel
theorem dX1_otherEnd_22 : decode cX1_otherEnd 22 = .ok (.iaload, 1) := by decide +kernel
theorem dX1_otherEnd_23 : decode cX1_otherEnd 23 = .ok (.iload_n 2, 1) := by decide +kernel
theorem dX1_otherEnd_24 : decode cX1_otherEnd 24 = .ok (.if_icmp .ne 12, 3) := by decide +kernel
theorem dX1_otherEnd_27 : decode cX1_otherEnd 27 = .ok (.aload_n 0, 1) := by decide +kernel
theorem dX1_otherEnd_28 : decode cX1_otherEnd 28 = .ok (.getfield 9, 3) := by decide +kernel
theorem dX1_otherEnd_31 : decode cX1_otherEnd 31 = .ok (.iload_n 1, 1) := by decide +kernel
theorem dX1_otherEnd_32 : decode cX1_otherEnd 32 = .ok (.iaload, 1) := by decide +kernel
theorem dX1_otherEnd_33 : decode cX1_otherEnd 33 = .ok (.goto 4, 3) := by decide +kernel
theorem dX1_otherEnd_36 : decode cX1_otherEnd 36 = .ok (.iconst (-1), 1) := by decide +kernel
theorem dX1_otherEnd_37 : decode cX1_otherEnd 37 = .ok (.ireturn, 1) := by decide +kernel
theorem dX1_windIn_0 : decode cX1_windIn 0 = .ok (.aload_n 0, 1) := by decide +kernel
theorem dX1_windIn_1 : decode cX1_windIn 1 = .ok (.getfield 21, 3) := by decide +kernel
theorem dX1_windIn_4 : decode cX1_windIn 4 = .ok (.iload_n 1, 1) := by decide +kernel
theorem dX1_windIn_5 : decode cX1_windIn 5 = .ok (.bipush 12, 2) := by decide +kernel
theorem dX1_windIn_7 : decode cX1_windIn 7 = .ok (.imul, 1) := by decide +kernel
theorem dX1_windIn_8 : decode cX1_windIn 8 = .ok (.iload_n 2, 1) := by decide +kernel
theorem dX1_windIn_9 : decode cX1_windIn 9 = .ok (.invokestatic 28, 3) := by decide +kernel
theorem dX1_windIn_12 : decode cX1_windIn 12 = .ok (.iadd, 1) := by decide +kernel
theorem dX1_windIn_13 : decode cX1_windIn 13 = .ok (.iaload, 1) := by decide +kernel
theorem dX1_windIn_14 : decode cX1_windIn 14 = .ok (.ireturn, 1) := by decide +kernel
theorem dX2_init_0 : decode cX2_init 0 = .ok (.aload_n 0, 1) := by decide +kernel
theorem dX2_init_1 : decode cX2_init 1 = .ok (.invokespecial 3, 3) := by decide +kernel
theorem dX2_init_4 : decode cX2_init 4 = .ok (.aload_n 0, 1) := by decide +kernel
theorem dX2_init_5 : decode cX2_init 5 = .ok (.bipush 12, 2) := by decide +kernel
theorem dX2_init_7 : decode cX2_init 7 = .ok (.newarray .int, 2) := by decide +kernel
theorem dX2_init_9 : decode cX2_init 9 = .ok (.putfield 9, 3) := by decide +kernel
theorem dX2_init_12 : decode cX2_init 12 = .ok (.aload_n 0, 1) := by decide +kernel
theorem dX2_init_13 : decode cX2_init 13 = .ok (.bipush 12, 2) := by decide +kernel
theorem dX2_init_15 : decode cX2_init 15 = .ok (.newarray .int, 2) := by decide +kernel
theorem dX2_init_17 : decode cX2_init 17 = .ok (.putfield 15, 3) := by decide +kernel
theorem dX2_init_20 : decode cX2_init 20 = .ok (.aload_n 0, 1) := by decide +kernel
theorem dX2_init_21 : decode cX2_init 21 = .ok (.bipush 12, 2) := by decide +kernel
theorem dX2_init_23 : decode cX2_init 23 = .ok (.newarray .int, 2) := by decide +kernel
theorem dX2_init_25 : decode cX2_init 25 = .ok (.putfield 18, 3) := by decide +kernel
theorem dX2_init_28 : decode cX2_init 28 = .ok (.aload_n 0, 1) := by decide +kernel
theorem dX2_init_29 : decode cX2_init 29 = .ok (.sipush 200, 3) := by decide +kernel
theorem dX2_init_32 : decode cX2_init 32 = .ok (.newarray .int, 2) := by decide +kernel
theorem dX2_init_34 : decode cX2_init 34 = .ok (.putfield 21, 3) := by decide +kernel
theorem dX2_init_37 : decode cX2_init 37 = .ok (.aload_n 0, 1) := by decide +kernel
theorem dX2_init_38 : decode cX2_init 38 = .ok (.sipush 200, 3) := by decide +kernel
theorem dX2_init_41 : decode cX2_init 41 = .ok (.newarray .int, 2) := by decide +kernel
theorem dX2_init_43 : decode cX2_init 43 = .ok (.putfield 24, 3) := by decide +kernel
theorem dX2_init_46 : decode cX2_init 46 = .ok (.aload_n 0, 1) := by decide +kernel
theorem dX2_init_47 : decode cX2_init 47 = .ok (.sipush 200, 3) := by decide +kernel
theorem dX2_init_50 : decode cX2_init 50 = .ok (.newarray .int, 2) := by decide +kernel
theorem dX2_init_52 : decode cX2_init 52 = .ok (.putfield 27, 3) := by decide +kernel
theorem dX2_init_55 : decode cX2_init 55 = .ok (.aload_n 0, 1) := by decide +kernel
theorem dX2_init_56 : decode cX2_init 56 = .ok (.iconst 0, 1) := by decide +kernel
theorem dX2_init_57 : decode cX2_init 57 = .ok (.putfield 30, 3) := by decide +kernel
theorem dX2_init_60 : decode cX2_init 60 = .ok (.aload_n 0, 1) := by decide +kernel
theorem dX2_init_61 : decode cX2_init 61 = .ok (.iconst 0, 1) := by decide +kernel
theorem dX2_init_62 : decode cX2_init 62 = .ok (.putfield 34, 3) := by decide +kernel
theorem dX2_init_65 : decode cX2_init 65 = .ok (.aload_n 0, 1) := by decide +kernel
theorem dX2_init_66 : decode cX2_init 66 = .ok (.iconst 0, 1) := by decide +kernel
theorem dX2_init_67 : decode cX2_init 67 = .ok (.putfield 37, 3) := by decide +kernel
theorem dX2_init_70 : decode cX2_init 70 = .ok (.return_, 1) := by decide +kernel
theorem dX2_empty_0 : decode cX2_empty 0 = .ok (.aload_n 0, 1) := by decide +kernel
theorem dX2_empty_1 : decode cX2_empty 1 = .ok (.iconst 0, 1) := by decide +kernel
theorem dX2_empty_2 : decode cX2_empty 2 = .ok (.putfield 30, 3) := by decide +kernel
theorem dX2_empty_5 : decode cX2_empty 5 = .ok (.aload_n 0, 1) := by decide +kernel
theorem dX2_empty_6 : decode cX2_empty 6 = .ok (.iconst 0, 1) := by decide +kernel
theorem dX2_empty_7 : decode cX2_empty 7 = .ok (.putfield 34, 3) := by decide +kernel
theorem dX2_empty_10 : decode cX2_empty 10 = .ok (.aload_n 0, 1) := by decide +kernel
theorem dX2_empty_11 : decode cX2_empty 11 = .ok (.iconst 0, 1) := by decide +kernel
theorem dX2_empty_12 : decode cX2_empty 12 = .ok (.putfield 37, 3) := by decide +kernel
theorem dX2_empty_15 : decode cX2_empty 15 = .ok (.return_, 1) := by decide +kernel
theorem dX2_addStep_0 : decode cX2_addStep 0 = .ok (.aload_n 0, 1) := by decide +kernel
theorem dX2_addStep_1 : decode cX2_addStep 1 = .ok (.getfield 37, 3) := by decide +kernel
theorem dX2_addStep_4 : decode cX2_addStep 4 = .ok (.sipush 200, 3) := by decide +kernel
theorem dX2_addStep_7 : decode cX2_addStep 7 = .ok (.if_icmp .ge 43, 3) := by decide +kernel
theorem dX2_addStep_10 : decode cX2_addStep 10 = .ok (.aload_n 0, 1) := by decide +kernel
theorem dX2_addStep_11 : decode cX2_addStep 11 = .ok (.getfield 21, 3) := by decide +kernel
theorem dX2_addStep_14 : decode cX2_addStep 14 = .ok (.aload_n 0, 1) := by decide +kernel
theorem dX2_addStep_15 : decode cX2_addStep 15 = .ok (.getfield 37, 3) := by decide +kernel
theorem dX2_addStep_18 : decode cX2_addStep 18 = .ok (.iload_n 1, 1) := by decide +kernel
theorem dX2_addStep_19 : decode cX2_addStep 19 = .ok (.iastore, 1) := by decide +kernel
theorem dX2_addStep_20 : decode cX2_addStep 20 = .ok (.aload_n 0, 1) := by decide +kernel
theorem dX2_addStep_21 : decode cX2_addStep 21 = .ok (.getfield 24, 3) := by decide +kernel
theorem dX2_addStep_24 : decode cX2_addStep 24 = .ok (.aload_n 0, 1) := by decide +kernel
theorem dX2_addStep_25 : decode cX2_addStep 25 = .ok (.getfield 37, 3) := by decide +kernel
theorem dX2_addStep_28 : decode cX2_addStep 28 = .ok (.iload_n 2, 1) := by decide +kernel
theorem dX2_addStep_29 : decode cX2_addStep 29 = .ok (.iastore, 1) := by decide +kernel
theorem dX2_addStep_30 : decode cX2_addStep 30 = .ok (.aload_n 0, 1) := by decide +kernel
theorem dX2_addStep_31 : decode cX2_addStep 31 = .ok (.getfield 27, 3) := by decide +kernel
theorem dX2_addStep_34 : decode cX2_addStep 34 = .ok (.aload_n 0, 1) := by decide +kernel
theorem dX2_addStep_35 : decode cX2_addStep 35 = .ok (.getfield 37, 3) := by decide +kernel
theorem dX2_addStep_38 : decode cX2_addStep 38 = .ok (.iload_n 3, 1) := by decide +kernel
theorem dX2_addStep_39 : decode cX2_addStep 39 = .ok (.iastore, 1) := by decide +kernel
theorem dX2_addStep_40 : decode cX2_addStep 40 = .ok (.aload_n 0, 1) := by decide +kernel
theorem dX2_addStep_41 : decode cX2_addStep 41 = .ok (.dup, 1) := by decide +kernel
theorem dX2_addStep_42 : decode cX2_addStep 42 = .ok (.getfield 37, 3) := by decide +kernel
theorem dX2_addStep_45 : decode cX2_addStep 45 = .ok (.iconst 1, 1) := by decide +kernel
theorem dX2_addStep_46 : decode cX2_addStep 46 = .ok (.iadd, 1) := by decide +kernel
theorem dX2_addStep_47 : decode cX2_addStep 47 = .ok (.putfield 37, 3) := by decide +kernel
theorem dX2_addStep_50 : decode cX2_addStep 50 = .ok (.return_, 1) := by decide +kernel
theorem dX2_endClause_0 : decode cX2_endClause 0 = .ok (.aload_n 0, 1) := by decide +kernel
theorem dX2_endClause_1 : decode cX2_endClause 1 = .ok (.getfield 30, 3) := by decide +kernel
theorem dX2_endClause_4 : decode cX2_endClause 4 = .ok (.bipush 12, 2) := by decide +kernel
theorem dX2_endClause_6 : decode cX2_endClause 6 = .ok (.if_icmp .ge 46, 3) := by decide +kernel
theorem dX2_endClause_9 : decode cX2_endClause 9 = .ok (.aload_n 0, 1) := by decide +kernel
theorem dX2_endClause_10 : decode cX2_endClause 10 = .ok (.getfield 9, 3) := by decide +kernel
theorem dX2_endClause_13 : decode cX2_endClause 13 = .ok (.aload_n 0, 1) := by decide +kernel
theorem dX2_endClause_14 : decode cX2_endClause 14 = .ok (.getfield 30, 3) := by decide +kernel
theorem dX2_endClause_17 : decode cX2_endClause 17 = .ok (.iload_n 1, 1) := by decide +kernel
theorem dX2_endClause_18 : decode cX2_endClause 18 = .ok (.iastore, 1) := by decide +kernel
theorem dX2_endClause_19 : decode cX2_endClause 19 = .ok (.aload_n 0, 1) := by decide +kernel
theorem dX2_endClause_20 : decode cX2_endClause 20 = .ok (.getfield 15, 3) := by decide +kernel
theorem dX2_endClause_23 : decode cX2_endClause 23 = .ok (.aload_n 0, 1) := by decide +kernel
theorem dX2_endClause_24 : decode cX2_endClause 24 = .ok (.getfield 30, 3) := by decide +kernel
theorem dX2_endClause_27 : decode cX2_endClause 27 = .ok (.iload_n 2, 1) := by decide +kernel
theorem dX2_endClause_28 : decode cX2_endClause 28 = .ok (.iastore, 1) := by decide +kernel
theorem dX2_endClause_29 : decode cX2_endClause 29 = .ok (.aload_n 0, 1) := by decide +kernel
theorem dX2_endClause_30 : decode cX2_endClause 30 = .ok (.getfield 18, 3) := by decide +kernel
theorem dX2_endClause_33 : decode cX2_endClause 33 = .ok (.aload_n 0, 1) := by decide +kernel
theorem dX2_endClause_34 : decode cX2_endClause 34 = .ok (.getfield 30, 3) := by decide +kernel
theorem dX2_endClause_37 : decode cX2_endClause 37 = .ok (.aload_n 0, 1) := by decide +kernel
theorem dX2_endClause_38 : decode cX2_endClause 38 = .ok (.getfield 37, 3) := by decide +kernel
theorem dX2_endClause_41 : decode cX2_endClause 41 = .ok (.iastore, 1) := by decide +kernel
theorem dX2_endClause_42 : decode cX2_endClause 42 = .ok (.aload_n 0, 1) := by decide +kernel
theorem dX2_endClause_43 : decode cX2_endClause 43 = .ok (.dup, 1) := by decide +kernel
theorem dX2_endClause_44 : decode cX2_endClause 44 = .ok (.getfield 30, 3) := by decide +kernel
theorem dX2_endClause_47 : decode cX2_endClause 47 = .ok (.iconst 1, 1) := by decide +kernel
theorem dX2_endClause_48 : decode cX2_endClause 48 = .ok (.iadd, 1) := by decide +kernel
theorem dX2_endClause_49 : decode cX2_endClause 49 = .ok (.putfield 30, 3) := by decide +kernel
theorem dX2_endClause_52 : decode cX2_endClause 52 = .ok (.iload_n 1, 1) := by decide +kernel
theorem dX2_endClause_53 : decode cX2_endClause 53 = .ok (.bipush 80, 2) := by decide +kernel
theorem dX2_endClause_55 : decode cX2_endClause 55 = .ok (.if_icmp .ne 8, 3) := by decide +kernel
theorem dX2_endClause_58 : decode cX2_endClause 58 = .ok (.aload_n 0, 1) := by decide +kernel
theorem dX2_endClause_59 : decode cX2_endClause 59 = .ok (.iload_n 2, 1) := by decide +kernel
theorem dX2_endClause_60 : decode cX2_endClause 60 = .ok (.putfield 34, 3) := by decide +kernel
theorem dX2_endClause_63 : decode cX2_endClause 63 = .ok (.return_, 1) := by decide +kernel
theorem dX2_excuses_0 : decode cX2_excuses 0 = .ok (.iconst 0, 1) := by decide +kernel
theorem dX2_excuses_1 : decode cX2_excuses 1 = .ok (.istore_n 2, 1) := by decide +kernel
theorem dX2_excuses_2 : decode cX2_excuses 2 = .ok (.iload_n 2, 1) := by decide +kernel
theorem dX2_excuses_3 : decode cX2_excuses 3 = .ok (.aload_n 0, 1) := by decide +kernel
theorem dX2_excuses_4 : decode cX2_excuses 4 = .ok (.getfield 30, 3) := by decide +kernel
theorem dX2_excuses_7 : decode cX2_excuses 7 = .ok (.if_icmp .ge 31, 3) := by decide +kernel
theorem dX2_excuses_10 : decode cX2_excuses 10 = .ok (.aload_n 0, 1) := by decide +kernel
theorem dX2_excuses_11 : decode cX2_excuses 11 = .ok (.getfield 9, 3) := by decide +kernel
theorem dX2_excuses_14 : decode cX2_excuses 14 = .ok (.iload_n 2, 1) := by decide +kernel
theorem dX2_excuses_15 : decode cX2_excuses 15 = .ok (.iaload, 1) := by decide +kernel
theorem dX2_excuses_16 : decode cX2_excuses 16 = .ok (.bipush 88, 2) := by decide +kernel
theorem dX2_excuses_18 : decode cX2_excuses 18 = .ok (.if_icmp .ne 14, 3) := by decide +kernel
theorem dX2_excuses_21 : decode cX2_excuses 21 = .ok (.aload_n 0, 1) := by decide +kernel
theorem dX2_excuses_22 : decode cX2_excuses 22 = .ok (.iload_n 2, 1) := by decide +kernel
theorem dX2_excuses_23 : decode cX2_excuses 23 = .ok (.aload_n 1, 1) := by decide +kernel
theorem dX2_excuses_24 : decode cX2_excuses 24 = .ok (.invokevirtual 40, 3) := by decide +kernel
theorem dX2_excuses_27 : decode cX2_excuses 27 = .ok (.ifCond .eq 5, 3) := by decide +kernel
theorem dX2_excuses_30 : decode cX2_excuses 30 = .ok (.iconst 1, 1) := by decide +kernel
theorem dX2_excuses_31 : decode cX2_excuses 31 = .ok (.ireturn, 1) := by decide +kernel
theorem dX2_excuses_32 : decode cX2_excuses 32 = .ok (.iinc 2 1, 3) := by decide +kernel
theorem dX2_excuses_35 : decode cX2_excuses 35 = .ok (.goto (-33), 3) := by decide +kernel
theorem dX2_excuses_38 : decode cX2_excuses 38 = .ok (.iconst 0, 1) := by decide +kernel
theorem dX2_excuses_39 : decode cX2_excuses 39 = .ok (.ireturn, 1) := by decide +kernel
theorem dX2_waitHours_0 : decode cX2_waitHours 0 = .ok (.iconst 0, 1) := by decide +kernel
theorem dX2_waitHours_1 : decode cX2_waitHours 1 = .ok (.istore_n 3, 1) := by decide +kernel
theorem dX2_waitHours_2 : decode cX2_waitHours 2 = .ok (.iload_n 3, 1) := by decide +kernel
theorem dX2_waitHours_3 : decode cX2_waitHours 3 = .ok (.aload_n 0, 1) := by decide +kernel
theorem dX2_waitHours_4 : decode cX2_waitHours 4 = .ok (.getfield 30, 3) := by decide +kernel
theorem dX2_waitHours_7 : decode cX2_waitHours 7 = .ok (.if_icmp .ge 49, 3) := by decide +kernel
theorem dX2_waitHours_10 : decode cX2_waitHours 10 = .ok (.aload_n 0, 1) := by decide +kernel
theorem dX2_waitHours_11 : decode cX2_waitHours 11 = .ok (.getfield 9, 3) := by decide +kernel
theorem dX2_waitHours_14 : decode cX2_waitHours 14 = .ok (.iload_n 3, 1) := by decide +kernel
theorem dX2_waitHours_15 : decode cX2_waitHours 15 = .ok (.iaload, 1) := by decide +kernel
theorem dX2_waitHours_16 : decode cX2_waitHours 16 = .ok (.bipush 87, 2) := by decide +kernel
theorem dX2_waitHours_18 : decode cX2_waitHours 18 = .ok (.if_icmp .ne 32, 3) := by decide +kernel
theorem dX2_waitHours_21 : decode cX2_waitHours 21 = .ok (.aload_n 0, 1) := by decide +kernel
theorem dX2_waitHours_22 : decode cX2_waitHours 22 = .ok (.getfield 15, 3) := by decide +kernel
theorem dX2_waitHours_25 : decode cX2_waitHours 25 = .ok (.iload_n 3, 1) := by decide +kernel
theorem dX2_waitHours_26 : decode cX2_waitHours 26 = .ok (.iaload, 1) := by decide +kernel
theorem dX2_waitHours_27 : decode cX2_waitHours 27 = .ok (.aload_n 1, 1) := by decide +kernel
theorem dX2_waitHours_28 : decode cX2_waitHours 28 = .ok (.iconst 1, 1) := by decide +kernel
theorem dX2_waitHours_29 : decode cX2_waitHours 29 = .ok (.iaload, 1) := by decide +kernel
theorem dX2_waitHours_30 : decode cX2_waitHours 30 = .ok (.if_icmp .le 20, 3) := by decide +kernel
theorem dX2_waitHours_33 : decode cX2_waitHours 33 = .ok (.aload_n 0, 1) := by decide +kernel
theorem dX2_waitHours_34 : decode cX2_waitHours 34 = .ok (.iload_n 3, 1) := by decide +kernel
theorem dX2_waitHours_35 : decode cX2_waitHours 35 = .ok (.aload_n 1, 1) := by decide +kernel
theorem dX2_waitHours_36 : decode cX2_waitHours 36 = .ok (.invokevirtual 40, 3) := by decide +kernel
theorem dX2_waitHours_39 : decode cX2_waitHours 39 = .ok (.ifCond .eq 11, 3) := by decide +kernel
theorem dX2_waitHours_42 : decode cX2_waitHours 42 = .ok (.aload_n 0, 1) := by decide +kernel
theorem dX2_waitHours_43 : decode cX2_waitHours 43 = .ok (.iload_n 3, 1) := by decide +kernel
theorem dX2_waitHours_44 : decode cX2_waitHours 44 = .ok (.aload_n 1, 1) := by decide +kernel
theorem dX2_waitHours_45 : decode cX2_waitHours 45 = .ok (.iload_n 2, 1) := by decide +kernel
theorem dX2_waitHours_46 : decode cX2_waitHours 46 = .ok (.invokevirtual 44, 3) := by decide +kernel
theorem dX2_waitHours_49 : decode cX2_waitHours 49 = .ok (.ireturn, 1) := by decide +kernel
theorem dX2_waitHours_50 : decode cX2_waitHours 50 = .ok (.iinc 3 1, 3) := by decide +kernel
theorem dX2_waitHours_53 : decode cX2_waitHours 53 = .ok (.goto (-51), 3) := by decide +kernel
theorem dX2_waitHours_56 : decode cX2_waitHours 56 = .ok (.iconst 0, 1) := by decide +kernel
theorem dX2_waitHours_57 : decode cX2_waitHours 57 = .ok (.ireturn, 1) := by decide +kernel
theorem dX2_steadyHours_0 : decode cX2_steadyHours 0 = .ok (.aload_n 0, 1) := by decide +kernel
theorem dX2_steadyHours_1 : decode cX2_steadyHours 1 = .ok (.getfield 15, 3) := by decide +kernel
theorem dX2_steadyHours_4 : decode cX2_steadyHours 4 = .ok (.iload_n 1, 1) := by decide +kernel
theorem dX2_steadyHours_5 : decode cX2_steadyHours 5 = .ok (.iaload, 1) := by decide +kernel
theorem dX2_steadyHours_6 : decode cX2_steadyHours 6 = .ok (.aload_n 2, 1) := by decide +kernel
theorem dX2_steadyHours_7 : decode cX2_steadyHours 7 = .ok (.iconst 1, 1) := by decide +kernel
theorem dX2_steadyHours_8 : decode cX2_steadyHours 8 = .ok (.iaload, 1) := by decide +kernel
theorem dX2_steadyHours_9 : decode cX2_steadyHours 9 = .ok (.isub, 1) := by decide +kernel
theorem dX2_steadyHours_10 : decode cX2_steadyHours 10 = .ok (.sipush 720, 3) := by decide +kernel
theorem dX2_steadyHours_13 : decode cX2_steadyHours 13 = .ok (.iload_n 3, 1) := by decide +kernel
theorem dX2_steadyHours_14 : decode cX2_steadyHours 14 = .ok (.sipush 720, 3) := by decide +kernel
theorem dX2_steadyHours_17 : decode cX2_steadyHours 17 = .ok (.irem, 1) := by decide +kernel
theorem dX2_steadyHours_18 : decode cX2_steadyHours 18 = .ok (.isub, 1) := by decide +kernel
theorem dX2_steadyHours_19 : decode cX2_steadyHours 19 = .ok (.invokestatic 48, 3) := by decide +kernel
theorem dX2_steadyHours_22 : decode cX2_steadyHours 22 = .ok (.istore 4, 2) := by decide +kernel
theorem dX2_steadyHours_24 : decode cX2_steadyHours 24 = .ok (.aload_n 0, 1) := by decide +kernel
theorem dX2_steadyHours_25 : decode cX2_steadyHours 25 = .ok (.iload_n 1, 1) := by decide +kernel
theorem dX2_steadyHours_26 : decode cX2_steadyHours 26 = .ok (.invokevirtual 54, 3) := by decide +kernel
theorem dX2_steadyHours_29 : decode cX2_steadyHours 29 = .ok (.istore 5, 2) := by decide +kernel
theorem dX2_steadyHours_31 : decode cX2_steadyHours 31 = .ok (.iload 5, 2) := by decide +kernel
theorem dX2_steadyHours_33 : decode cX2_steadyHours 33 = .ok (.aload_n 0, 1) := by decide +kernel
theorem dX2_steadyHours_34 : decode cX2_steadyHours 34 = .ok (.getfield 18, 3) := by decide +kernel
theorem dX2_steadyHours_37 : decode cX2_steadyHours 37 = .ok (.iload_n 1, 1) := by decide +kernel
theorem dX2_steadyHours_38 : decode cX2_steadyHours 38 = .ok (.iaload, 1) := by decide +kernel
theorem dX2_steadyHours_39 : decode cX2_steadyHours 39 = .ok (.if_icmp .ge 80, 3) := by decide +kernel
theorem dX2_steadyHours_42 : decode cX2_steadyHours 42 = .ok (.aload_n 0, 1) := by decide +kernel
theorem dX2_steadyHours_43 : decode cX2_steadyHours 43 = .ok (.getfield 21, 3) := by decide +kernel
theorem dX2_steadyHours_46 : decode cX2_steadyHours 46 = .ok (.iload 5, 2) := by decide +kernel
theorem dX2_steadyHours_48 : decode cX2_steadyHours 48 = .ok (.iaload, 1) := by decide +kernel
theorem dX2_steadyHours_49 : decode cX2_steadyHours 49 = .ok (.invokestatic 58, 3) := by decide +kernel
theorem dX2_steadyHours_52 : decode cX2_steadyHours 52 = .ok (.ifCond .eq 61, 3) := by decide +kernel
theorem dX2_steadyHours_55 : decode cX2_steadyHours 55 = .ok (.aload_n 0, 1) := by decide +kernel
theorem dX2_steadyHours_56 : decode cX2_steadyHours 56 = .ok (.getfield 24, 3) := by decide +kernel
theorem dX2_steadyHours_59 : decode cX2_steadyHours 59 = .ok (.iload 5, 2) := by decide +kernel
theorem dX2_steadyHours_61 : decode cX2_steadyHours 61 = .ok (.iaload, 1) := by decide +kernel
theorem dX2_steadyHours_62 : decode cX2_steadyHours 62 = .ok (.ifCond .eq 14, 3) := by decide +kernel
theorem dX2_steadyHours_65 : decode cX2_steadyHours 65 = .ok (.aload_n 0, 1) := by decide +kernel
theorem dX2_steadyHours_66 : decode cX2_steadyHours 66 = .ok (.getfield 24, 3) := by decide +kernel
theorem dX2_steadyHours_69 : decode cX2_steadyHours 69 = .ok (.iload 5, 2) := by decide +kernel
theorem dX2_steadyHours_71 : decode cX2_steadyHours 71 = .ok (.iaload, 1) := by decide +kernel
theorem dX2_steadyHours_72 : decode cX2_steadyHours 72 = .ok (.iconst 1, 1) := by decide +kernel
theorem dX2_steadyHours_73 : decode cX2_steadyHours 73 = .ok (.if_icmp .ne 40, 3) := by decide +kernel
theorem dX2_steadyHours_76 : decode cX2_steadyHours 76 = .ok (.aload_n 0, 1) := by decide +kernel
theorem dX2_steadyHours_77 : decode cX2_steadyHours 77 = .ok (.getfield 27, 3) := by decide +kernel
theorem dX2_steadyHours_80 : decode cX2_steadyHours 80 = .ok (.iload 5, 2) := by decide +kernel
theorem dX2_steadyHours_82 : decode cX2_steadyHours 82 = .ok (.iaload, 1) := by decide +kernel
theorem dX2_steadyHours_83 : decode cX2_steadyHours 83 = .ok (.aload_n 2, 1) := by decide +kernel
theorem dX2_steadyHours_84 : decode cX2_steadyHours 84 = .ok (.aload_n 0, 1) := by decide +kernel
theorem dX2_steadyHours_85 : decode cX2_steadyHours 85 = .ok (.getfield 24, 3) := by decide +kernel
theorem dX2_steadyHours_88 : decode cX2_steadyHours 88 = .ok (.iload 5, 2) := by decide +kernel
theorem dX2_steadyHours_90 : decode cX2_steadyHours 90 = .ok (.iaload, 1) := by decide +kernel
theorem dX2_steadyHours_91 : decode cX2_steadyHours 91 = .ok (.iaload, 1) := by decide +kernel
theorem dX2_steadyHours_92 : decode cX2_steadyHours 92 = .ok (.isub, 1) := by decide +kernel
theorem dX2_steadyHours_93 : decode cX2_steadyHours 93 = .ok (.istore 6, 2) := by decide +kernel
theorem dX2_steadyHours_95 : decode cX2_steadyHours 95 = .ok (.iload 6, 2) := by decide +kernel
theorem dX2_steadyHours_97 : decode cX2_steadyHours 97 = .ok (.ifCond .lt 16, 3) := by decide +kernel
theorem dX2_steadyHours_100 : decode cX2_steadyHours 100 = .ok (.iload 4, 2) := by decide +kernel
theorem dX2_steadyHours_102 : decode cX2_steadyHours 102 = .ok (.iconst 1, 1) := by decide +kernel
theorem dX2_steadyHours_103 : decode cX2_steadyHours 103 = .ok (.iload 6, 2) := by decide +kernel
theorem dX2_steadyHours_105 : decode cX2_steadyHours 105 = .ok (.invokestatic 62, 3) := by decide +kernel
theorem dX2_steadyHours_108 : decode cX2_steadyHours 108 = .ok (.invokestatic 48, 3) := by decide +kernel
theorem dX2_steadyHours_111 : decode cX2_steadyHours 111 = .ok (.istore 4, 2) := by decide +kernel
theorem dX2_steadyHours_113 : decode cX2_steadyHours 113 = .ok (.iinc 5 1, 3) := by decide +kernel
theorem dX2_steadyHours_116 : decode cX2_steadyHours 116 = .ok (.goto (-85), 3) := by decide +kernel
theorem dX2_steadyHours_119 : decode cX2_steadyHours 119 = .ok (.iload 4, 2) := by decide +kernel
theorem dX2_steadyHours_121 : decode cX2_steadyHours 121 = .ok (.ireturn, 1) := by decide +kernel
theorem dX2_beginOf_0 : decode cX2_beginOf 0 = .ok (.iload_n 1, 1) := by decide +kernel
theorem dX2_beginOf_1 : decode cX2_beginOf 1 = .ok (.ifCond .le 14, 3) := by decide +kernel
theorem dX2_beginOf_4 : decode cX2_beginOf 4 = .ok (.aload_n 0, 1) := by decide +kernel
theorem dX2_beginOf_5 : decode cX2_beginOf 5 = .ok (.getfield 18, 3) := by decide +kernel
theorem dX2_beginOf_8 : decode cX2_beginOf 8 = .ok (.iload_n 1, 1) := by decide +kernel
theorem dX2_beginOf_9 : decode cX2_beginOf 9 = .ok (.iconst 1, 1) := by decide +kernel
theorem dX2_beginOf_10 : decode cX2_beginOf 10 = .ok (.isub, 1) := by decide +kernel
theorem dX2_beginOf_11 : decode cX2_beginOf 11 = .ok (.iaload, 1) := by decide +kernel
theorem dX2_beginOf_12 : decode cX2_beginOf 12 = .ok (.goto 4, 3) := by decide +kernel
theorem dX2_beginOf_15 : decode cX2_beginOf 15 = .ok (.iconst 0, 1) := by decide +kernel
theorem dX2_beginOf_16 : decode cX2_beginOf 16 = .ok (.ireturn, 1) := by decide +kernel
theorem dX2_holds_0 : decode cX2_holds 0 = .ok (.iconst 0, 1) := by decide +kernel
theorem dX2_holds_1 : decode cX2_holds 1 = .ok (.istore_n 3, 1) := by decide +kernel
theorem dX2_holds_2 : decode cX2_holds 2 = .ok (.aload_n 0, 1) := by decide +kernel
theorem dX2_holds_3 : decode cX2_holds 3 = .ok (.iload_n 1, 1) := by decide +kernel
theorem dX2_holds_4 : decode cX2_holds 4 = .ok (.invokevirtual 54, 3) := by decide +kernel
theorem dX2_holds_7 : decode cX2_holds 7 = .ok (.istore 4, 2) := by decide +kernel
theorem dX2_holds_9 : decode cX2_holds 9 = .ok (.iload 4, 2) := by decide +kernel
theorem dX2_holds_11 : decode cX2_holds 11 = .ok (.aload_n 0, 1) := by decide +kernel
theorem dX2_holds_12 : decode cX2_holds 12 = .ok (.getfield 18, 3) := by decide +kernel
theorem dX2_holds_15 : decode cX2_holds 15 = .ok (.iload_n 1, 1) := by decide +kernel
theorem dX2_holds_16 : decode cX2_holds 16 = .ok (.iaload, 1) := by decide +kernel
theorem dX2_holds_17 : decode cX2_holds 17 = .ok (.if_icmp .ge 115, 3) := by decide +kernel
theorem dX2_holds_20 : decode cX2_holds 20 = .ok (.iload_n 3, 1) := by decide +kernel
theorem dX2_holds_21 : decode cX2_holds 21 = .ok (.iconst 1, 1) := by decide +kernel
theorem dX2_holds_22 : decode cX2_holds 22 = .ok (.iand, 1) := by decide +kernel
theorem dX2_holds_23 : decode cX2_holds 23 = .ok (.istore 5, 2) := by decide +kernel
theorem dX2_holds_25 : decode cX2_holds 25 = .ok (.aload_n 0, 1) := by decide +kernel
theorem dX2_holds_26 : decode cX2_holds 26 = .ok (.getfield 21, 3) := by decide +kernel
theorem dX2_holds_29 : decode cX2_holds 29 = .ok (.iload 4, 2) := by decide +kernel
theorem dX2_holds_31 : decode cX2_holds 31 = .ok (.iaload, 1) := by decide +kernel
theorem dX2_holds_32 : decode cX2_holds 32 = .ok (.lookupswitch 66 #[(33, 36), (38, 43), (124, 56)], 36) := by decide +kernel
theorem dX2_holds_68 : decode cX2_holds 68 = .ok (.iload_n 3, 1) := by decide +kernel
theorem dX2_holds_69 : decode cX2_holds 69 = .ok (.iconst 1, 1) := by decide +kernel
theorem dX2_holds_70 : decode cX2_holds 70 = .ok (.ixor, 1) := by decide +kernel
theorem dX2_holds_71 : decode cX2_holds 71 = .ok (.istore_n 3, 1) := by decide +kernel
theorem dX2_holds_72 : decode cX2_holds 72 = .ok (.goto 54, 3) := by decide +kernel
theorem dX2_holds_75 : decode cX2_holds 75 = .ok (.iload_n 3, 1) := by decide +kernel
theorem dX2_holds_76 : decode cX2_holds 76 = .ok (.iconst 1, 1) := by decide +kernel
theorem dX2_holds_77 : decode cX2_holds 77 = .ok (.iushr, 1) := by decide +kernel
theorem dX2_holds_78 : decode cX2_holds 78 = .ok (.iload 5, 2) := by decide +kernel
theorem dX2_holds_80 : decode cX2_holds 80 = .ok (.bipush (-2), 2) := by decide +kernel
theorem dX2_holds_82 : decode cX2_holds 82 = .ok (.ior, 1) := by decide +kernel
theorem dX2_holds_83 : decode cX2_holds 83 = .ok (.iand, 1) := by decide +kernel
theorem dX2_holds_84 : decode cX2_holds 84 = .ok (.istore_n 3, 1) := by decide +kernel
theorem dX2_holds_85 : decode cX2_holds 85 = .ok (.goto 41, 3) := by decide +kernel
theorem dX2_holds_88 : decode cX2_holds 88 = .ok (.iload_n 3, 1) := by decide +kernel
theorem dX2_holds_89 : decode cX2_holds 89 = .ok (.iconst 1, 1) := by decide +kernel
theorem dX2_holds_90 : decode cX2_holds 90 = .ok (.iushr, 1) := by decide +kernel
theorem dX2_holds_91 : decode cX2_holds 91 = .ok (.iload 5, 2) := by decide +kernel
theorem dX2_holds_93 : decode cX2_holds 93 = .ok (.ior, 1) := by decide +kernel
theorem dX2_holds_94 : decode cX2_holds 94 = .ok (.istore_n 3, 1) := by decide +kernel
theorem dX2_holds_95 : decode cX2_holds 95 = .ok (.goto 31, 3) := by decide +kernel
theorem dX2_holds_98 : decode cX2_holds 98 = .ok (.iload_n 3, 1) := by decide +kernel
theorem dX2_holds_99 : decode cX2_holds 99 = .ok (.iconst 1, 1) := by decide +kernel
theorem dX2_holds_100 : decode cX2_holds 100 = .ok (.ishl, 1) := by decide +kernel
theorem dX2_holds_101 : decode cX2_holds 101 = .ok (.aload_n 0, 1) := by decide +kernel
theorem dX2_holds_102 : decode cX2_holds 102 = .ok (.iload 4, 2) := by decide +kernel
theorem dX2_holds_104 : decode cX2_holds 104 = .ok (.aload_n 2, 1) := by decide +kernel
theorem dX2_holds_105 : decode cX2_holds 105 = .ok (.aload_n 0, 1) := by decide +kernel
theorem dX2_holds_106 : decode cX2_holds 106 = .ok (.getfield 24, 3) := by decide +kernel
theorem dX2_holds_109 : decode cX2_holds 109 = .ok (.iload 4, 2) := by decide +kernel
theorem dX2_holds_111 : decode cX2_holds 111 = .ok (.iaload, 1) := by decide +kernel
theorem dX2_holds_112 : decode cX2_holds 112 = .ok (.iaload, 1) := by decide +kernel
theorem dX2_holds_113 : decode cX2_holds 113 = .ok (.invokevirtual 65, 3) := by decide +kernel
theorem dX2_holds_116 : decode cX2_holds 116 = .ok (.ifCond .eq 7, 3) := by decide +kernel
theorem dX2_holds_119 : decode cX2_holds 119 = .ok (.iconst 1, 1) := by decide +kernel
theorem dX2_holds_120 : decode cX2_holds 120 = .ok (.goto 4, 3) := by decide +kernel
theorem dX2_holds_123 : decode cX2_holds 123 = .ok (.iconst 0, 1) := by decide +kernel
theorem dX2_holds_124 : decode cX2_holds 124 = .ok (.ior, 1) := by decide +kernel
theorem dX2_holds_125 : decode cX2_holds 125 = .ok (.istore_n 3, 1) := by decide +kernel
theorem dX2_holds_126 : decode cX2_holds 126 = .ok (.iinc 4 1, 3) := by decide +kernel
theorem dX2_holds_129 : decode cX2_holds 129 = .ok (.goto (-120), 3) := by decide +kernel
theorem dX2_holds_132 : decode cX2_holds 132 = .ok (.iload_n 3, 1) := by decide +kernel
theorem dX2_holds_133 : decode cX2_holds 133 = .ok (.iconst 1, 1) := by decide +kernel
theorem dX2_holds_134 : decode cX2_holds 134 = .ok (.iand, 1) := by decide +kernel
theorem dX2_holds_135 : decode cX2_holds 135 = .ok (.iconst 1, 1) := by decide +kernel
theorem dX2_holds_136 : decode cX2_holds 136 = .ok (.if_icmp .ne 7, 3) := by decide +kernel
theorem dX2_holds_139 : decode cX2_holds 139 = .ok (.iconst 1, 1) := by decide +kernel
theorem dX2_holds_140 : decode cX2_holds 140 = .ok (.goto 4, 3) := by decide +kernel
theorem dX2_holds_143 : decode cX2_holds 143 = .ok (.iconst 0, 1) := by decide +kernel
theorem dX2_holds_144 : decode cX2_holds 144 = .ok (.ireturn, 1) := by decide +kernel
theorem dX2_compares_0 : decode cX2_compares 0 = .ok (.aload_n 0, 1) := by decide +kernel
theorem dX2_compares_1 : decode cX2_compares 1 = .ok (.getfield 21, 3) := by decide +kernel
theorem dX2_compares_4 : decode cX2_compares 4 = .ok (.iload_n 1, 1) := by decide +kernel
theorem dX2_compares_5 : decode cX2_compares 5 = .ok (.iaload, 1) := by decide +kernel
theorem dX2_compares_6 : decode cX2_compares 6 = .ok (.bipush 60, 2) := by decide +kernel
theorem dX2_compares_8 : decode cX2_compares 8 = .ok (.if_icmp .ne 19, 3) := by decide +kernel
theorem dX2_compares_11 : decode cX2_compares 11 = .ok (.iload_n 2, 1) := by decide +kernel
theorem dX2_compares_12 : decode cX2_compares 12 = .ok (.aload_n 0, 1) := by decide +kernel
theorem dX2_compares_13 : decode cX2_compares 13 = .ok (.getfield 27, 3) := by decide +kernel
theorem dX2_compares_16 : decode cX2_compares 16 = .ok (.iload_n 1, 1) := by decide +kernel
theorem dX2_compares_17 : decode cX2_compares 17 = .ok (.iaload, 1) := by decide +kernel
theorem dX2_compares_18 : decode cX2_compares 18 = .ok (.if_icmp .ge 7, 3) := by decide +kernel
theorem dX2_compares_21 : decode cX2_compares 21 = .ok (.iconst 1, 1) := by decide +kernel
theorem dX2_compares_22 : decode cX2_compares 22 = .ok (.goto 4, 3) := by decide +kernel
theorem dX2_compares_25 : decode cX2_compares 25 = .ok (.iconst 0, 1) := by decide +kernel
theorem dX2_compares_26 : decode cX2_compares 26 = .ok (.ireturn, 1) := by decide +kernel
theorem dX2_compares_27 : decode cX2_compares 27 = .ok (.aload_n 0, 1) := by decide +kernel
theorem dX2_compares_28 : decode cX2_compares 28 = .ok (.getfield 21, 3) := by decide +kernel
theorem dX2_compares_31 : decode cX2_compares 31 = .ok (.iload_n 1, 1) := by decide +kernel
theorem dX2_compares_32 : decode cX2_compares 32 = .ok (.iaload, 1) := by decide +kernel
theorem dX2_compares_33 : decode cX2_compares 33 = .ok (.bipush 62, 2) := by decide +kernel
theorem dX2_compares_35 : decode cX2_compares 35 = .ok (.if_icmp .ne 21, 3) := by decide +kernel
theorem dX2_compares_38 : decode cX2_compares 38 = .ok (.iload_n 2, 1) := by decide +kernel
theorem dX2_compares_39 : decode cX2_compares 39 = .ok (.aload_n 0, 1) := by decide +kernel
theorem dX2_compares_40 : decode cX2_compares 40 = .ok (.getfield 27, 3) := by decide +kernel
theorem dX2_compares_43 : decode cX2_compares 43 = .ok (.iload_n 1, 1) := by decide +kernel
theorem dX2_compares_44 : decode cX2_compares 44 = .ok (.iaload, 1) := by decide +kernel
theorem dX2_compares_45 : decode cX2_compares 45 = .ok (.if_icmp .le 7, 3) := by decide +kernel
theorem dX2_compares_48 : decode cX2_compares 48 = .ok (.iconst 1, 1) := by decide +kernel
theorem dX2_compares_49 : decode cX2_compares 49 = .ok (.goto 22, 3) := by decide +kernel
theorem dX2_compares_52 : decode cX2_compares 52 = .ok (.iconst 0, 1) := by decide +kernel
theorem dX2_compares_53 : decode cX2_compares 53 = .ok (.goto 18, 3) := by decide +kernel
theorem dX2_compares_56 : decode cX2_compares 56 = .ok (.iload_n 2, 1) := by decide +kernel
theorem dX2_compares_57 : decode cX2_compares 57 = .ok (.aload_n 0, 1) := by decide +kernel
theorem dX2_compares_58 : decode cX2_compares 58 = .ok (.getfield 27, 3) := by decide +kernel
theorem dX2_compares_61 : decode cX2_compares 61 = .ok (.iload_n 1, 1) := by decide +kernel
theorem dX2_compares_62 : decode cX2_compares 62 = .ok (.iaload, 1) := by decide +kernel
theorem dX2_compares_63 : decode cX2_compares 63 = .ok (.if_icmp .ne 7, 3) := by decide +kernel
theorem dX2_compares_66 : decode cX2_compares 66 = .ok (.iconst 1, 1) := by decide +kernel
theorem dX2_compares_67 : decode cX2_compares 67 = .ok (.goto 4, 3) := by decide +kernel
theorem dX2_compares_70 : decode cX2_compares 70 = .ok (.iconst 0, 1) := by decide +kernel
theorem dX2_compares_71 : decode cX2_compares 71 = .ok (.ireturn, 1) := by decide +kernel
theorem dX2_isComparison_0 : decode cX2_isComparison 0 = .ok (.iload_n 0, 1) := by decide +kernel
theorem dX2_isComparison_1 : decode cX2_isComparison 1 = .ok (.bipush 60, 2) := by decide +kernel
theorem dX2_isComparison_3 : decode cX2_isComparison 3 = .ok (.if_icmp .eq 15, 3) := by decide +kernel
theorem dX2_isComparison_6 : decode cX2_isComparison 6 = .ok (.iload_n 0, 1) := by decide +kernel
theorem dX2_isComparison_7 : decode cX2_isComparison 7 = .ok (.bipush 61, 2) := by decide +kernel
theorem dX2_isComparison_9 : decode cX2_isComparison 9 = .ok (.if_icmp .eq 9, 3) := by decide +kernel
theorem dX2_isComparison_12 : decode cX2_isComparison 12 = .ok (.iload_n 0, 1) := by decide +kernel
theorem dX2_isComparison_13 : decode cX2_isComparison 13 = .ok (.bipush 62, 2) := by decide +kernel
theorem dX2_isComparison_15 : decode cX2_isComparison 15 = .ok (.if_icmp .ne 7, 3) := by decide +kernel
theorem dX2_isComparison_18 : decode cX2_isComparison 18 = .ok (.iconst 1, 1) := by decide +kernel
theorem dX2_isComparison_19 : decode cX2_isComparison 19 = .ok (.goto 4, 3) := by decide +kernel
theorem dX2_isComparison_22 : decode cX2_isComparison 22 = .ok (.iconst 0, 1) := by decide +kernel
theorem dX2_isComparison_23 : decode cX2_isComparison 23 = .ok (.ireturn, 1) := by decide +kernel
theorem dX3_init_0 : decode cX3_init 0 = .ok (.aload_n 0, 1) := by decide +kernel
theorem dX3_init_1 : decode cX3_init 1 = .ok (.invokespecial 3, 3) := by decide +kernel
theorem dX3_init_4 : decode cX3_init 4 = .ok (.aload_n 0, 1) := by decide +kernel
theorem dX3_init_5 : decode cX3_init 5 = .ok (.bipush 10, 2) := by decide +kernel
theorem dX3_init_7 : decode cX3_init 7 = .ok (.anewarray 9, 3) := by decide +kernel
theorem dX3_init_10 : decode cX3_init 10 = .ok (.putfield 11, 3) := by decide +kernel
theorem dX3_init_13 : decode cX3_init 13 = .ok (.iconst 0, 1) := by decide +kernel
theorem dX3_init_14 : decode cX3_init 14 = .ok (.istore_n 1, 1) := by decide +kernel
theorem dX3_init_15 : decode cX3_init 15 = .ok (.iload_n 1, 1) := by decide +kernel
theorem dX3_init_16 : decode cX3_init 16 = .ok (.bipush 10, 2) := by decide +kernel
theorem dX3_init_18 : decode cX3_init 18 = .ok (.if_icmp .ge 22, 3) := by decide +kernel
theorem dX3_init_21 : decode cX3_init 21 = .ok (.aload_n 0, 1) := by decide +kernel
theorem dX3_init_22 : decode cX3_init 22 = .ok (.getfield 11, 3) := by decide +kernel
theorem dX3_init_25 : decode cX3_init 25 = .ok (.iload_n 1, 1) := by decide +kernel
theorem dX3_init_26 : decode cX3_init 26 = .ok (.new 9, 3) := by decide +kernel
theorem dX3_init_29 : decode cX3_init 29 = .ok (.dup, 1) := by decide +kernel
theorem dX3_init_30 : decode cX3_init 30 = .ok (.invokespecial 17, 3) := by decide +kernel
theorem dX3_init_33 : decode cX3_init 33 = .ok (.aastore, 1) := by decide +kernel
theorem dX3_init_34 : decode cX3_init 34 = .ok (.iinc 1 1, 3) := by decide +kernel
theorem dX3_init_37 : decode cX3_init 37 = .ok (.goto (-22), 3) := by decide +kernel
theorem dX3_init_40 : decode cX3_init 40 = .ok (.aload_n 0, 1) := by decide +kernel
theorem dX3_init_41 : decode cX3_init 41 = .ok (.iconst 5, 1) := by decide +kernel
theorem dX3_init_42 : decode cX3_init 42 = .ok (.newarray .int, 2) := by decide +kernel
theorem dX3_init_44 : decode cX3_init 44 = .ok (.putfield 18, 3) := by decide +kernel
theorem dX3_init_47 : decode cX3_init 47 = .ok (.aload_n 0, 1) := by decide +kernel
theorem dX3_init_48 : decode cX3_init 48 = .ok (.iconst 1, 1) := by decide +kernel
theorem dX3_init_49 : decode cX3_init 49 = .ok (.putfield 22, 3) := by decide +kernel
theorem dX3_init_52 : decode cX3_init 52 = .ok (.return_, 1) := by decide +kernel
theorem dX3_bringUpToDate_0 : decode cX3_bringUpToDate 0 = .ok (.aload_n 0, 1) := by decide +kernel
theorem dX3_bringUpToDate_1 : decode cX3_bringUpToDate 1 = .ok (.getfield 22, 3) := by decide +kernel
theorem dX3_bringUpToDate_4 : decode cX3_bringUpToDate 4 = .ok (.ifCond .ne 4, 3) := by decide +kernel
theorem dX3_bringUpToDate_7 : decode cX3_bringUpToDate 7 = .ok (.return_, 1) := by decide +kernel
theorem dX3_bringUpToDate_8 : decode cX3_bringUpToDate 8 = .ok (.iconst 0, 1) := by decide +kernel
theorem dX3_bringUpToDate_9 : decode cX3_bringUpToDate 9 = .ok (.istore_n 2, 1) := by decide +kernel
theorem dX3_bringUpToDate_10 : decode cX3_bringUpToDate 10 = .ok (.iload_n 2, 1) := by decide +kernel
theorem dX3_bringUpToDate_11 : decode cX3_bringUpToDate 11 = .ok (.aload_n 1, 1) := by decide +kernel
theorem dX3_bringUpToDate_12 : decode cX3_bringUpToDate 12 = .ok (.getfield 26, 3) := by decide +kernel
theorem dX3_bringUpToDate_15 : decode cX3_bringUpToDate 15 = .ok (.if_icmp .ge 24, 3) := by decide +kernel
theorem dX3_bringUpToDate_18 : decode cX3_bringUpToDate 18 = .ok (.aload_n 0, 1) := by decide +kernel
theorem dX3_bringUpToDate_19 : decode cX3_bringUpToDate 19 = .ok (.getfield 11, 3) := by decide +kernel
theorem dX3_bringUpToDate_22 : decode cX3_bringUpToDate 22 = .ok (.iload_n 2, 1) := by decide +kernel
theorem dX3_bringUpToDate_23 : decode cX3_bringUpToDate 23 = .ok (.aaload, 1) := by decide +kernel
theorem dX3_bringUpToDate_24 : decode cX3_bringUpToDate 24 = .ok (.aload_n 1, 1) := by decide +kernel
theorem dX3_bringUpToDate_25 : decode cX3_bringUpToDate 25 = .ok (.getfield 32, 3) := by decide +kernel
theorem dX3_bringUpToDate_28 : decode cX3_bringUpToDate 28 = .ok (.iload_n 2, 1) := by decide +kernel
theorem dX3_bringUpToDate_29 : decode cX3_bringUpToDate 29 = .ok (.aaload, 1) := by decide +kernel
theorem dX3_bringUpToDate_30 : decode cX3_bringUpToDate 30 = .ok (.invokevirtual 36, 3) := by decide +kernel
theorem dX3_bringUpToDate_33 : decode cX3_bringUpToDate 33 = .ok (.iinc 2 1, 3) := by decide +kernel
theorem dX3_bringUpToDate_36 : decode cX3_bringUpToDate 36 = .ok (.goto (-26), 3) := by decide +kernel
theorem dX3_bringUpToDate_39 : decode cX3_bringUpToDate 39 = .ok (.aload_n 0, 1) := by decide +kernel
theorem dX3_bringUpToDate_40 : decode cX3_bringUpToDate 40 = .ok (.aload_n 1, 1) := by decide +kernel
theorem dX3_bringUpToDate_41 : decode cX3_bringUpToDate 41 = .ok (.getfield 26, 3) := by decide +kernel
theorem dX3_bringUpToDate_44 : decode cX3_bringUpToDate 44 = .ok (.invokevirtual 40, 3) := by decide +kernel
theorem dX3_bringUpToDate_47 : decode cX3_bringUpToDate 47 = .ok (.istore_n 2, 1) := by decide +kernel
theorem dX3_bringUpToDate_48 : decode cX3_bringUpToDate 48 = .ok (.iconst 0, 1) := by decide +kernel
theorem dX3_bringUpToDate_49 : decode cX3_bringUpToDate 49 = .ok (.istore_n 3, 1) := by decide +kernel
theorem dX3_bringUpToDate_50 : decode cX3_bringUpToDate 50 = .ok (.iload_n 3, 1) := by decide +kernel
theorem dX3_bringUpToDate_51 : decode cX3_bringUpToDate 51 = .ok (.sipush 20000, 3) := by decide +kernel
theorem dX3_bringUpToDate_54 : decode cX3_bringUpToDate 54 = .ok (.if_icmp .gt 31, 3) := by decide +kernel
theorem dX3_bringUpToDate_57 : decode cX3_bringUpToDate 57 = .ok (.iload_n 2, 1) := by decide +kernel
theorem dX3_bringUpToDate_58 : decode cX3_bringUpToDate 58 = .ok (.sipush 20000, 3) := by decide +kernel
theorem dX3_bringUpToDate_61 : decode cX3_bringUpToDate 61 = .ok (.if_icmp .gt 24, 3) := by decide +kernel
theorem dX3_bringUpToDate_64 : decode cX3_bringUpToDate 64 = .ok (.aload_n 0, 1) := by decide +kernel
theorem dX3_bringUpToDate_65 : decode cX3_bringUpToDate 65 = .ok (.aload_n 1, 1) := by decide +kernel
theorem dX3_bringUpToDate_66 : decode cX3_bringUpToDate 66 = .ok (.iload_n 2, 1) := by decide +kernel
theorem dX3_bringUpToDate_67 : decode cX3_bringUpToDate 67 = .ok (.invokevirtual 44, 3) := by decide +kernel
theorem dX3_bringUpToDate_70 : decode cX3_bringUpToDate 70 = .ok (.aload_n 0, 1) := by decide +kernel
theorem dX3_bringUpToDate_71 : decode cX3_bringUpToDate 71 = .ok (.aload_n 1, 1) := by decide +kernel
theorem dX3_bringUpToDate_72 : decode cX3_bringUpToDate 72 = .ok (.getfield 26, 3) := by decide +kernel
theorem dX3_bringUpToDate_75 : decode cX3_bringUpToDate 75 = .ok (.invokevirtual 40, 3) := by decide +kernel
theorem dX3_bringUpToDate_78 : decode cX3_bringUpToDate 78 = .ok (.istore_n 2, 1) := by decide +kernel
theorem dX3_bringUpToDate_79 : decode cX3_bringUpToDate 79 = .ok (.iinc 3 1, 3) := by decide +kernel
theorem dX3_bringUpToDate_82 : decode cX3_bringUpToDate 82 = .ok (.goto (-32), 3) := by decide +kernel
theorem dX3_bringUpToDate_85 : decode cX3_bringUpToDate 85 = .ok (.aload_n 0, 1) := by decide +kernel
theorem dX3_bringUpToDate_86 : decode cX3_bringUpToDate 86 = .ok (.iconst 0, 1) := by decide +kernel
theorem dX3_bringUpToDate_87 : decode cX3_bringUpToDate 87 = .ok (.putfield 22, 3) := by decide +kernel
theorem dX3_bringUpToDate_90 : decode cX3_bringUpToDate 90 = .ok (.return_, 1) := by decide +kernel
theorem dX3_passHour_0 : decode cX3_passHour 0 = .ok (.iconst 0, 1) := by decide +kernel
theorem dX3_passHour_1 : decode cX3_passHour 1 = .ok (.istore_n 3, 1) := by decide +kernel
theorem dX3_passHour_2 : decode cX3_passHour 2 = .ok (.iload_n 3, 1) := by decide +kernel
theorem dX3_passHour_3 : decode cX3_passHour 3 = .ok (.aload_n 1, 1) := by decide +kernel
theorem dX3_passHour_4 : decode cX3_passHour 4 = .ok (.getfield 26, 3) := by decide +kernel
theorem dX3_passHour_7 : decode cX3_passHour 7 = .ok (.if_icmp .ge 41, 3) := by decide +kernel
theorem dX3_passHour_10 : decode cX3_passHour 10 = .ok (.aload_n 0, 1) := by decide +kernel
theorem dX3_passHour_11 : decode cX3_passHour 11 = .ok (.getfield 11, 3) := by decide +kernel
theorem dX3_passHour_14 : decode cX3_passHour 14 = .ok (.iload_n 3, 1) := by decide +kernel
theorem dX3_passHour_15 : decode cX3_passHour 15 = .ok (.aaload, 1) := by decide +kernel
theorem dX3_passHour_16 : decode cX3_passHour 16 = .ok (.getfield 48, 3) := by decide +kernel
theorem dX3_passHour_19 : decode cX3_passHour 19 = .ok (.ifCond .eq 23, 3) := by decide +kernel
theorem dX3_passHour_22 : decode cX3_passHour 22 = .ok (.aload_n 0, 1) := by decide +kernel
theorem dX3_passHour_23 : decode cX3_passHour 23 = .ok (.getfield 11, 3) := by decide +kernel
theorem dX3_passHour_26 : decode cX3_passHour 26 = .ok (.iload_n 3, 1) := by decide +kernel
theorem dX3_passHour_27 : decode cX3_passHour 27 = .ok (.aaload, 1) := by decide +kernel
theorem dX3_passHour_28 : decode cX3_passHour 28 = .ok (.getfield 51, 3) := by decide +kernel
theorem dX3_passHour_31 : decode cX3_passHour 31 = .ok (.iload_n 2, 1) := by decide +kernel
theorem dX3_passHour_32 : decode cX3_passHour 32 = .ok (.if_icmp .gt 10, 3) := by decide +kernel
theorem dX3_passHour_35 : decode cX3_passHour 35 = .ok (.aload_n 0, 1) := by decide +kernel
theorem dX3_passHour_36 : decode cX3_passHour 36 = .ok (.aload_n 1, 1) := by decide +kernel
theorem dX3_passHour_37 : decode cX3_passHour 37 = .ok (.iload_n 3, 1) := by decide +kernel
theorem dX3_passHour_38 : decode cX3_passHour 38 = .ok (.iload_n 2, 1) := by decide +kernel
theorem dX3_passHour_39 : decode cX3_passHour 39 = .ok (.invokevirtual 54, 3) := by decide +kernel
theorem dX3_passHour_42 : decode cX3_passHour 42 = .ok (.iinc 3 1, 3) := by decide +kernel
theorem dX3_passHour_45 : decode cX3_passHour 45 = .ok (.goto (-43), 3) := by decide +kernel
theorem dX3_passHour_48 : decode cX3_passHour 48 = .ok (.iconst 0, 1) := by decide +kernel
theorem dX3_passHour_49 : decode cX3_passHour 49 = .ok (.istore_n 3, 1) := by decide +kernel
theorem dX3_passHour_50 : decode cX3_passHour 50 = .ok (.iload_n 3, 1) := by decide +kernel
theorem dX3_passHour_51 : decode cX3_passHour 51 = .ok (.aload_n 1, 1) := by decide +kernel
theorem dX3_passHour_52 : decode cX3_passHour 52 = .ok (.getfield 26, 3) := by decide +kernel
theorem dX3_passHour_55 : decode cX3_passHour 55 = .ok (.if_icmp .ge 41, 3) := by decide +kernel
theorem dX3_passHour_58 : decode cX3_passHour 58 = .ok (.aload_n 0, 1) := by decide +kernel
theorem dX3_passHour_59 : decode cX3_passHour 59 = .ok (.getfield 11, 3) := by decide +kernel
theorem dX3_passHour_62 : decode cX3_passHour 62 = .ok (.iload_n 3, 1) := by decide +kernel
theorem dX3_passHour_63 : decode cX3_passHour 63 = .ok (.aaload, 1) := by decide +kernel
theorem dX3_passHour_64 : decode cX3_passHour 64 = .ok (.getfield 48, 3) := by decide +kernel
theorem dX3_passHour_67 : decode cX3_passHour 67 = .ok (.ifCond .ne 23, 3) := by decide +kernel
theorem dX3_passHour_70 : decode cX3_passHour 70 = .ok (.aload_n 0, 1) := by decide +kernel
theorem dX3_passHour_71 : decode cX3_passHour 71 = .ok (.getfield 11, 3) := by decide +kernel
theorem dX3_passHour_74 : decode cX3_passHour 74 = .ok (.iload_n 3, 1) := by decide +kernel
theorem dX3_passHour_75 : decode cX3_passHour 75 = .ok (.aaload, 1) := by decide +kernel
theorem dX3_passHour_76 : decode cX3_passHour 76 = .ok (.getfield 58, 3) := by decide +kernel
theorem dX3_passHour_79 : decode cX3_passHour 79 = .ok (.iload_n 2, 1) := by decide +kernel
theorem dX3_passHour_80 : decode cX3_passHour 80 = .ok (.if_icmp .gt 10, 3) := by decide +kernel
theorem dX3_passHour_83 : decode cX3_passHour 83 = .ok (.aload_n 0, 1) := by decide +kernel
theorem dX3_passHour_84 : decode cX3_passHour 84 = .ok (.aload_n 1, 1) := by decide +kernel
theorem dX3_passHour_85 : decode cX3_passHour 85 = .ok (.iload_n 3, 1) := by decide +kernel
theorem dX3_passHour_86 : decode cX3_passHour 86 = .ok (.iload_n 2, 1) := by decide +kernel
theorem dX3_passHour_87 : decode cX3_passHour 87 = .ok (.invokevirtual 61, 3) := by decide +kernel
theorem dX3_passHour_90 : decode cX3_passHour 90 = .ok (.iinc 3 1, 3) := by decide +kernel
theorem dX3_passHour_93 : decode cX3_passHour 93 = .ok (.goto (-43), 3) := by decide +kernel
theorem dX3_passHour_96 : decode cX3_passHour 96 = .ok (.return_, 1) := by decide +kernel
theorem dX3_nextHour_0 : decode cX3_nextHour 0 = .ok (.ldc 64, 2) := by decide +kernel
theorem dX3_nextHour_2 : decode cX3_nextHour 2 = .ok (.istore_n 2, 1) := by decide +kernel
theorem dX3_nextHour_3 : decode cX3_nextHour 3 = .ok (.iconst 0, 1) := by decide +kernel
theorem dX3_nextHour_4 : decode cX3_nextHour 4 = .ok (.istore_n 3, 1) := by decide +kernel
theorem dX3_nextHour_5 : decode cX3_nextHour 5 = .ok (.iload_n 3, 1) := by decide +kernel
theorem dX3_nextHour_6 : decode cX3_nextHour 6 = .ok (.iload_n 1, 1) := by decide +kernel
theorem dX3_nextHour_7 : decode cX3_nextHour 7 = .ok (.if_icmp .ge 23, 3) := by decide +kernel
theorem dX3_nextHour_10 : decode cX3_nextHour 10 = .ok (.iload_n 2, 1) := by decide +kernel
theorem dX3_nextHour_11 : decode cX3_nextHour 11 = .ok (.aload_n 0, 1) := by decide +kernel
theorem dX3_nextHour_12 : decode cX3_nextHour 12 = .ok (.getfield 11, 3) := by decide +kernel
theorem dX3_nextHour_15 : decode cX3_nextHour 15 = .ok (.iload_n 3, 1) := by decide +kernel
theorem dX3_nextHour_16 : decode cX3_nextHour 16 = .ok (.aaload, 1) := by decide +kernel
theorem dX3_nextHour_17 : decode cX3_nextHour 17 = .ok (.getfield 51, 3) := by decide +kernel
theorem dX3_nextHour_20 : decode cX3_nextHour 20 = .ok (.invokestatic 65, 3) := by decide +kernel
theorem dX3_nextHour_23 : decode cX3_nextHour 23 = .ok (.istore_n 2, 1) := by decide +kernel
theorem dX3_nextHour_24 : decode cX3_nextHour 24 = .ok (.iinc 3 1, 3) := by decide +kernel
theorem dX3_nextHour_27 : decode cX3_nextHour 27 = .ok (.goto (-22), 3) := by decide +kernel
theorem dX3_nextHour_30 : decode cX3_nextHour 30 = .ok (.iload_n 2, 1) := by decide +kernel
theorem dX3_nextHour_31 : decode cX3_nextHour 31 = .ok (.ireturn, 1) := by decide +kernel
theorem dX3_comeIn_0 : decode cX3_comeIn 0 = .ok (.aload_n 1, 1) := by decide +kernel
theorem dX3_comeIn_1 : decode cX3_comeIn 1 = .ok (.getfield 32, 3) := by decide +kernel
theorem dX3_comeIn_4 : decode cX3_comeIn 4 = .ok (.iload_n 2, 1) := by decide +kernel
theorem dX3_comeIn_5 : decode cX3_comeIn 5 = .ok (.aaload, 1) := by decide +kernel
theorem dX3_comeIn_6 : decode cX3_comeIn 6 = .ok (.astore 4, 2) := by decide +kernel
theorem dX3_comeIn_8 : decode cX3_comeIn 8 = .ok (.aload_n 0, 1) := by decide +kernel
theorem dX3_comeIn_9 : decode cX3_comeIn 9 = .ok (.getfield 11, 3) := by decide +kernel
theorem dX3_comeIn_12 : decode cX3_comeIn 12 = .ok (.iload_n 2, 1) := by decide +kernel
theorem dX3_comeIn_13 : decode cX3_comeIn 13 = .ok (.aaload, 1) := by decide +kernel
theorem dX3_comeIn_14 : decode cX3_comeIn 14 = .ok (.astore 5, 2) := by decide +kernel
theorem dX3_comeIn_16 : decode cX3_comeIn 16 = .ok (.aload 5, 2) := by decide +kernel
theorem dX3_comeIn_18 : decode cX3_comeIn 18 = .ok (.getfield 71, 3) := by decide +kernel
theorem dX3_comeIn_21 : decode cX3_comeIn 21 = .ok (.istore 6, 2) := by decide +kernel
theorem dX3_comeIn_23 : decode cX3_comeIn 23 = .ok (.iload_n 3, 1) := by decide +kernel
theorem dX3_comeIn_24 : decode cX3_comeIn 24 = .ok (.aload 5, 2) := by decide +kernel
theorem dX3_comeIn_26 : decode cX3_comeIn 26 = .ok (.getfield 74, 3) := by decide +kernel
theorem dX3_comeIn_29 : decode cX3_comeIn 29 = .ok (.iload 6, 2) := by decide +kernel
theorem dX3_comeIn_31 : decode cX3_comeIn 31 = .ok (.iaload, 1) := by decide +kernel
theorem dX3_comeIn_32 : decode cX3_comeIn 32 = .ok (.isub, 1) := by decide +kernel
theorem dX3_comeIn_33 : decode cX3_comeIn 33 = .ok (.aload 4, 2) := by decide +kernel
theorem dX3_comeIn_35 : decode cX3_comeIn 35 = .ok (.getfield 77, 3) := by decide +kernel
theorem dX3_comeIn_38 : decode cX3_comeIn 38 = .ok (.iload 6, 2) := by decide +kernel
theorem dX3_comeIn_40 : decode cX3_comeIn 40 = .ok (.iaload, 1) := by decide +kernel
theorem dX3_comeIn_41 : decode cX3_comeIn 41 = .ok (.isub, 1) := by decide +kernel
theorem dX3_comeIn_42 : decode cX3_comeIn 42 = .ok (.istore 7, 2) := by decide +kernel
theorem dX3_comeIn_44 : decode cX3_comeIn 44 = .ok (.iload 7, 2) := by decide +kernel
theorem dX3_comeIn_46 : decode cX3_comeIn 46 = .ok (.ifCond .le 42, 3) := by decide +kernel
theorem dX3_comeIn_49 : decode cX3_comeIn 49 = .ok (.aload_n 0, 1) := by decide +kernel
theorem dX3_comeIn_50 : decode cX3_comeIn 50 = .ok (.aload_n 1, 1) := by decide +kernel
theorem dX3_comeIn_51 : decode cX3_comeIn 51 = .ok (.iload_n 2, 1) := by decide +kernel
theorem dX3_comeIn_52 : decode cX3_comeIn 52 = .ok (.iload_n 3, 1) := by decide +kernel
theorem dX3_comeIn_53 : decode cX3_comeIn 53 = .ok (.invokevirtual 82, 3) := by decide +kernel
theorem dX3_comeIn_56 : decode cX3_comeIn 56 = .ok (.istore 8, 2) := by decide +kernel
theorem dX3_comeIn_58 : decode cX3_comeIn 58 = .ok (.aload 5, 2) := by decide +kernel
theorem dX3_comeIn_60 : decode cX3_comeIn 60 = .ok (.getfield 86, 3) := by decide +kernel
theorem dX3_comeIn_63 : decode cX3_comeIn 63 = .ok (.iload 8, 2) := by decide +kernel
theorem dX3_comeIn_65 : decode cX3_comeIn 65 = .ok (.ifCond .eq 7, 3) := by decide +kernel
theorem dX3_comeIn_68 : decode cX3_comeIn 68 = .ok (.iconst 0, 1) := by decide +kernel
theorem dX3_comeIn_69 : decode cX3_comeIn 69 = .ok (.goto 10, 3) := by decide +kernel
theorem dX3_comeIn_72 : decode cX3_comeIn 72 = .ok (.iconst 1, 1) := by decide +kernel
theorem dX3_comeIn_73 : decode cX3_comeIn 73 = .ok (.aload 4, 2) := by decide +kernel
theorem dX3_comeIn_75 : decode cX3_comeIn 75 = .ok (.getfield 89, 3) := by decide +kernel
theorem dX3_comeIn_78 : decode cX3_comeIn 78 = .ok (.iadd, 1) := by decide +kernel
theorem dX3_comeIn_79 : decode cX3_comeIn 79 = .ok (.dup2, 1) := by decide +kernel
theorem dX3_comeIn_80 : decode cX3_comeIn 80 = .ok (.iaload, 1) := by decide +kernel
theorem dX3_comeIn_81 : decode cX3_comeIn 81 = .ok (.iload 7, 2) := by decide +kernel
theorem dX3_comeIn_83 : decode cX3_comeIn 83 = .ok (.iadd, 1) := by decide +kernel
theorem dX3_comeIn_84 : decode cX3_comeIn 84 = .ok (.iastore, 1) := by decide +kernel
theorem dX3_comeIn_85 : decode cX3_comeIn 85 = .ok (.goto 16, 3) := by decide +kernel
theorem dX3_comeIn_88 : decode cX3_comeIn 88 = .ok (.aload 5, 2) := by decide +kernel
theorem dX3_comeIn_90 : decode cX3_comeIn 90 = .ok (.iload 7, 2) := by decide +kernel
theorem dX3_comeIn_92 : decode cX3_comeIn 92 = .ok (.ineg, 1) := by decide +kernel
theorem dX3_comeIn_93 : decode cX3_comeIn 93 = .ok (.aload 4, 2) := by decide +kernel
theorem dX3_comeIn_95 : decode cX3_comeIn 95 = .ok (.getfield 89, 3) := by decide +kernel
theorem dX3_comeIn_98 : decode cX3_comeIn 98 = .ok (.invokevirtual 92, 3) := by decide +kernel
theorem dX3_comeIn_101 : decode cX3_comeIn 101 = .ok (.iload 6, 2) := by decide +kernel
theorem dX3_comeIn_103 : decode cX3_comeIn 103 = .ok (.iconst 1, 1) := by decide +kernel
theorem dX3_comeIn_104 : decode cX3_comeIn 104 = .ok (.iadd, 1) := by decide +kernel
theorem dX3_comeIn_105 : decode cX3_comeIn 105 = .ok (.istore 8, 2) := by decide +kernel
theorem dX3_comeIn_107 : decode cX3_comeIn 107 = .ok (.aload 5, 2) := by decide +kernel
theorem dX3_comeIn_109 : decode cX3_comeIn 109 = .ok (.iload 8, 2) := by decide +kernel
theorem dX3_comeIn_111 : decode cX3_comeIn 111 = .ok (.putfield 71, 3) := by decide +kernel
theorem dX3_comeIn_114 : decode cX3_comeIn 114 = .ok (.aload 5, 2) := by decide +kernel
theorem dX3_comeIn_116 : decode cX3_comeIn 116 = .ok (.getfield 96, 3) := by decide +kernel
theorem dX3_comeIn_119 : decode cX3_comeIn 119 = .ok (.iload 8, 2) := by decide +kernel
theorem dX3_comeIn_121 : decode cX3_comeIn 121 = .ok (.iload_n 3, 1) := by decide +kernel
theorem dX3_comeIn_122 : decode cX3_comeIn 122 = .ok (.iastore, 1) := by decide +kernel
theorem dX3_comeIn_123 : decode cX3_comeIn 123 = .ok (.aload 5, 2) := by decide +kernel
theorem dX3_comeIn_125 : decode cX3_comeIn 125 = .ok (.iload 8, 2) := by decide +kernel
theorem dX3_comeIn_127 : decode cX3_comeIn 127 = .ok (.invokevirtual 99, 3) := by decide +kernel
theorem dX3_comeIn_130 : decode cX3_comeIn 130 = .ok (.aload 4, 2) := by decide +kernel
theorem dX3_comeIn_132 : decode cX3_comeIn 132 = .ok (.iload 8, 2) := by decide +kernel
theorem dX3_comeIn_134 : decode cX3_comeIn 134 = .ok (.invokevirtual 103, 3) := by decide +kernel
theorem dX3_comeIn_137 : decode cX3_comeIn 137 = .ok (.istore 9, 2) := by decide +kernel
theorem dX3_comeIn_139 : decode cX3_comeIn 139 = .ok (.aload 5, 2) := by decide +kernel
theorem dX3_comeIn_141 : decode cX3_comeIn 141 = .ok (.iload 9, 2) := by decide +kernel
theorem dX3_comeIn_143 : decode cX3_comeIn 143 = .ok (.ifCond .eq 24, 3) := by decide +kernel
theorem dX3_comeIn_146 : decode cX3_comeIn 146 = .ok (.iload_n 3, 1) := by decide +kernel
theorem dX3_comeIn_147 : decode cX3_comeIn 147 = .ok (.aload 4, 2) := by decide +kernel
theorem dX3_comeIn_149 : decode cX3_comeIn 149 = .ok (.getfield 107, 3) := by decide +kernel
theorem dX3_comeIn_152 : decode cX3_comeIn 152 = .ok (.iadd, 1) := by decide +kernel
theorem dX3_comeIn_153 : decode cX3_comeIn 153 = .ok (.aload 4, 2) := by decide +kernel
theorem dX3_comeIn_155 : decode cX3_comeIn 155 = .ok (.getfield 110, 3) := by decide +kernel
theorem dX3_comeIn_158 : decode cX3_comeIn 158 = .ok (.iload 8, 2) := by decide +kernel
theorem dX3_comeIn_160 : decode cX3_comeIn 160 = .ok (.iaload, 1) := by decide +kernel
theorem dX3_comeIn_161 : decode cX3_comeIn 161 = .ok (.invokestatic 113, 3) := by decide +kernel
theorem dX3_comeIn_164 : decode cX3_comeIn 164 = .ok (.goto 5, 3) := by decide +kernel
theorem dX3_comeIn_167 : decode cX3_comeIn 167 = .ok (.ldc 64, 2) := by decide +kernel
theorem dX3_comeIn_169 : decode cX3_comeIn 169 = .ok (.invokevirtual 116, 3) := by decide +kernel
theorem dX3_comeIn_172 : decode cX3_comeIn 172 = .ok (.return_, 1) := by decide +kernel
theorem dX3_isExcused_0 : decode cX3_isExcused 0 = .ok (.aload_n 1, 1) := by decide +kernel
theorem dX3_isExcused_1 : decode cX3_isExcused 1 = .ok (.getfield 32, 3) := by decide +kernel
theorem dX3_isExcused_4 : decode cX3_isExcused 4 = .ok (.iload_n 2, 1) := by decide +kernel
theorem dX3_isExcused_5 : decode cX3_isExcused 5 = .ok (.aaload, 1) := by decide +kernel
theorem dX3_isExcused_6 : decode cX3_isExcused 6 = .ok (.astore 4, 2) := by decide +kernel
theorem dX3_isExcused_8 : decode cX3_isExcused 8 = .ok (.aload_n 0, 1) := by decide +kernel
theorem dX3_isExcused_9 : decode cX3_isExcused 9 = .ok (.getfield 11, 3) := by decide +kernel
theorem dX3_isExcused_12 : decode cX3_isExcused 12 = .ok (.iload_n 2, 1) := by decide +kernel
theorem dX3_isExcused_13 : decode cX3_isExcused 13 = .ok (.aaload, 1) := by decide +kernel
theorem dX3_isExcused_14 : decode cX3_isExcused 14 = .ok (.astore 5, 2) := by decide +kernel
theorem dX3_isExcused_16 : decode cX3_isExcused 16 = .ok (.aload 5, 2) := by decide +kernel
theorem dX3_isExcused_18 : decode cX3_isExcused 18 = .ok (.getfield 71, 3) := by decide +kernel
theorem dX3_isExcused_21 : decode cX3_isExcused 21 = .ok (.istore 6, 2) := by decide +kernel
theorem dX3_isExcused_23 : decode cX3_isExcused 23 = .ok (.aload_n 0, 1) := by decide +kernel
theorem dX3_isExcused_24 : decode cX3_isExcused 24 = .ok (.getfield 18, 3) := by decide +kernel
theorem dX3_isExcused_27 : decode cX3_isExcused 27 = .ok (.iconst 0, 1) := by decide +kernel
theorem dX3_isExcused_28 : decode cX3_isExcused 28 = .ok (.aload 4, 2) := by decide +kernel
theorem dX3_isExcused_30 : decode cX3_isExcused 30 = .ok (.iload 6, 2) := by decide +kernel
theorem dX3_isExcused_32 : decode cX3_isExcused 32 = .ok (.iconst 1, 1) := by decide +kernel
theorem dX3_isExcused_33 : decode cX3_isExcused 33 = .ok (.iadd, 1) := by decide +kernel
theorem dX3_isExcused_34 : decode cX3_isExcused 34 = .ok (.iload_n 3, 1) := by decide +kernel
theorem dX3_isExcused_35 : decode cX3_isExcused 35 = .ok (.invokevirtual 119, 3) := by decide +kernel
theorem dX3_isExcused_38 : decode cX3_isExcused 38 = .ok (.iastore, 1) := by decide +kernel
theorem dX3_isExcused_39 : decode cX3_isExcused 39 = .ok (.aload_n 0, 1) := by decide +kernel
theorem dX3_isExcused_40 : decode cX3_isExcused 40 = .ok (.getfield 18, 3) := by decide +kernel
theorem dX3_isExcused_43 : decode cX3_isExcused 43 = .ok (.iconst 1, 1) := by decide +kernel
theorem dX3_isExcused_44 : decode cX3_isExcused 44 = .ok (.aload 5, 2) := by decide +kernel
theorem dX3_isExcused_46 : decode cX3_isExcused 46 = .ok (.getfield 122, 3) := by decide +kernel
theorem dX3_isExcused_49 : decode cX3_isExcused 49 = .ok (.iload 6, 2) := by decide +kernel
theorem dX3_isExcused_51 : decode cX3_isExcused 51 = .ok (.iaload, 1) := by decide +kernel
theorem dX3_isExcused_52 : decode cX3_isExcused 52 = .ok (.iastore, 1) := by decide +kernel
theorem dX3_isExcused_53 : decode cX3_isExcused 53 = .ok (.aload_n 0, 1) := by decide +kernel
theorem dX3_isExcused_54 : decode cX3_isExcused 54 = .ok (.getfield 18, 3) := by decide +kernel
theorem dX3_isExcused_57 : decode cX3_isExcused 57 = .ok (.iconst 2, 1) := by decide +kernel
theorem dX3_isExcused_58 : decode cX3_isExcused 58 = .ok (.aload_n 1, 1) := by decide +kernel
theorem dX3_isExcused_59 : decode cX3_isExcused 59 = .ok (.getfield 125, 3) := by decide +kernel
theorem dX3_isExcused_62 : decode cX3_isExcused 62 = .ok (.aload 4, 2) := by decide +kernel
theorem dX3_isExcused_64 : decode cX3_isExcused 64 = .ok (.getfield 129, 3) := by decide +kernel
theorem dX3_isExcused_67 : decode cX3_isExcused 67 = .ok (.iload 6, 2) := by decide +kernel
theorem dX3_isExcused_69 : decode cX3_isExcused 69 = .ok (.iaload, 1) := by decide +kernel
theorem dX3_isExcused_70 : decode cX3_isExcused 70 = .ok (.aload 5, 2) := by decide +kernel
theorem dX3_isExcused_72 : decode cX3_isExcused 72 = .ok (.getfield 74, 3) := by decide +kernel
theorem dX3_isExcused_75 : decode cX3_isExcused 75 = .ok (.iload 6, 2) := by decide +kernel
theorem dX3_isExcused_77 : decode cX3_isExcused 77 = .ok (.iaload, 1) := by decide +kernel
theorem dX3_isExcused_78 : decode cX3_isExcused 78 = .ok (.invokevirtual 132, 3) := by decide +kernel
theorem dX3_isExcused_81 : decode cX3_isExcused 81 = .ok (.iastore, 1) := by decide +kernel
theorem dX3_isExcused_82 : decode cX3_isExcused 82 = .ok (.aload_n 0, 1) := by decide +kernel
theorem dX3_isExcused_83 : decode cX3_isExcused 83 = .ok (.getfield 18, 3) := by decide +kernel
theorem dX3_isExcused_86 : decode cX3_isExcused 86 = .ok (.iconst 3, 1) := by decide +kernel
theorem dX3_isExcused_87 : decode cX3_isExcused 87 = .ok (.aload 4, 2) := by decide +kernel
theorem dX3_isExcused_89 : decode cX3_isExcused 89 = .ok (.getfield 137, 3) := by decide +kernel
theorem dX3_isExcused_92 : decode cX3_isExcused 92 = .ok (.iload 6, 2) := by decide +kernel
theorem dX3_isExcused_94 : decode cX3_isExcused 94 = .ok (.iaload, 1) := by decide +kernel
theorem dX3_isExcused_95 : decode cX3_isExcused 95 = .ok (.iastore, 1) := by decide +kernel
theorem dX3_isExcused_96 : decode cX3_isExcused 96 = .ok (.aload_n 0, 1) := by decide +kernel
theorem dX3_isExcused_97 : decode cX3_isExcused 97 = .ok (.getfield 18, 3) := by decide +kernel
theorem dX3_isExcused_100 : decode cX3_isExcused 100 = .ok (.iconst 4, 1) := by decide +kernel
theorem dX3_isExcused_101 : decode cX3_isExcused 101 = .ok (.iload_n 3, 1) := by decide +kernel
theorem dX3_isExcused_102 : decode cX3_isExcused 102 = .ok (.invokestatic 140, 3) := by decide +kernel
theorem dX3_isExcused_105 : decode cX3_isExcused 105 = .ok (.iastore, 1) := by decide +kernel
theorem dX3_isExcused_106 : decode cX3_isExcused 106 = .ok (.aload_n 1, 1) := by decide +kernel
theorem dX3_isExcused_107 : decode cX3_isExcused 107 = .ok (.getfield 143, 3) := by decide +kernel
theorem dX3_isExcused_110 : decode cX3_isExcused 110 = .ok (.aload 4, 2) := by decide +kernel
theorem dX3_isExcused_112 : decode cX3_isExcused 112 = .ok (.getfield 89, 3) := by decide +kernel
theorem dX3_isExcused_115 : decode cX3_isExcused 115 = .ok (.aaload, 1) := by decide +kernel
theorem dX3_isExcused_116 : decode cX3_isExcused 116 = .ok (.aload_n 0, 1) := by decide +kernel
theorem dX3_isExcused_117 : decode cX3_isExcused 117 = .ok (.getfield 18, 3) := by decide +kernel
theorem dX3_isExcused_120 : decode cX3_isExcused 120 = .ok (.invokevirtual 147, 3) := by decide +kernel
theorem dX3_isExcused_123 : decode cX3_isExcused 123 = .ok (.ireturn, 1) := by decide +kernel
theorem dX3_askOne_0 : decode cX3_askOne 0 = .ok (.aload_n 0, 1) := by decide +kernel
theorem dX3_askOne_1 : decode cX3_askOne 1 = .ok (.getfield 11, 3) := by decide +kernel
theorem dX3_askOne_4 : decode cX3_askOne 4 = .ok (.iload_n 2, 1) := by decide +kernel
theorem dX3_askOne_5 : decode cX3_askOne 5 = .ok (.aaload, 1) := by decide +kernel
theorem dX3_askOne_6 : decode cX3_askOne 6 = .ok (.astore 4, 2) := by decide +kernel
theorem dX3_askOne_8 : decode cX3_askOne 8 = .ok (.aload_n 0, 1) := by decide +kernel
theorem dX3_askOne_9 : decode cX3_askOne 9 = .ok (.aload_n 1, 1) := by decide +kernel
theorem dX3_askOne_10 : decode cX3_askOne 10 = .ok (.getfield 32, 3) := by decide +kernel
theorem dX3_askOne_13 : decode cX3_askOne 13 = .ok (.iload_n 2, 1) := by decide +kernel
theorem dX3_askOne_14 : decode cX3_askOne 14 = .ok (.aaload, 1) := by decide +kernel
theorem dX3_askOne_15 : decode cX3_askOne 15 = .ok (.aload 4, 2) := by decide +kernel
theorem dX3_askOne_17 : decode cX3_askOne 17 = .ok (.getfield 71, 3) := by decide +kernel
theorem dX3_askOne_20 : decode cX3_askOne 20 = .ok (.invokevirtual 153, 3) := by decide +kernel
theorem dX3_askOne_23 : decode cX3_askOne 23 = .ok (.istore 5, 2) := by decide +kernel
theorem dX3_askOne_25 : decode cX3_askOne 25 = .ok (.iload 5, 2) := by decide +kernel
theorem dX3_askOne_27 : decode cX3_askOne 27 = .ok (.ifCond .eq 13, 3) := by decide +kernel
theorem dX3_askOne_30 : decode cX3_askOne 30 = .ok (.iload_n 3, 1) := by decide +kernel
theorem dX3_askOne_31 : decode cX3_askOne 31 = .ok (.aload 4, 2) := by decide +kernel
theorem dX3_askOne_33 : decode cX3_askOne 33 = .ok (.getfield 51, 3) := by decide +kernel
theorem dX3_askOne_36 : decode cX3_askOne 36 = .ok (.if_icmp .ge 4, 3) := by decide +kernel
theorem dX3_askOne_39 : decode cX3_askOne 39 = .ok (.return_, 1) := by decide +kernel
theorem dX3_askOne_40 : decode cX3_askOne 40 = .ok (.iload 5, 2) := by decide +kernel
theorem dX3_askOne_42 : decode cX3_askOne 42 = .ok (.ifCond .eq 13, 3) := by decide +kernel
theorem dX3_askOne_45 : decode cX3_askOne 45 = .ok (.aload_n 0, 1) := by decide +kernel
theorem dX3_askOne_46 : decode cX3_askOne 46 = .ok (.aload_n 1, 1) := by decide +kernel
theorem dX3_askOne_47 : decode cX3_askOne 47 = .ok (.iload_n 2, 1) := by decide +kernel
theorem dX3_askOne_48 : decode cX3_askOne 48 = .ok (.iload_n 3, 1) := by decide +kernel
theorem dX3_askOne_49 : decode cX3_askOne 49 = .ok (.invokevirtual 157, 3) := by decide +kernel
theorem dX3_askOne_52 : decode cX3_askOne 52 = .ok (.goto 4, 3) := by decide +kernel
theorem dX3_askOne_55 : decode cX3_askOne 55 = .ok (.iconst 0, 1) := by decide +kernel
theorem dX3_askOne_56 : decode cX3_askOne 56 = .ok (.istore 6, 2) := by decide +kernel
theorem dX3_askOne_58 : decode cX3_askOne 58 = .ok (.iload 6, 2) := by decide +kernel
theorem dX3_askOne_60 : decode cX3_askOne 60 = .ok (.ifCond .le 15, 3) := by decide +kernel
theorem dX3_askOne_63 : decode cX3_askOne 63 = .ok (.aload 4, 2) := by decide +kernel
theorem dX3_askOne_65 : decode cX3_askOne 65 = .ok (.iload_n 3, 1) := by decide +kernel
theorem dX3_askOne_66 : decode cX3_askOne 66 = .ok (.iload 6, 2) := by decide +kernel
theorem dX3_askOne_68 : decode cX3_askOne 68 = .ok (.iadd, 1) := by decide +kernel
theorem dX3_askOne_69 : decode cX3_askOne 69 = .ok (.putfield 51, 3) := by decide +kernel
theorem dX3_askOne_72 : decode cX3_askOne 72 = .ok (.goto 10, 3) := by decide +kernel
theorem dX3_askOne_75 : decode cX3_askOne 75 = .ok (.aload_n 0, 1) := by decide +kernel
theorem dX3_askOne_76 : decode cX3_askOne 76 = .ok (.aload_n 1, 1) := by decide +kernel
theorem dX3_askOne_77 : decode cX3_askOne 77 = .ok (.iload_n 2, 1) := by decide +kernel
theorem dX3_askOne_78 : decode cX3_askOne 78 = .ok (.iload_n 3, 1) := by decide +kernel
theorem dX3_askOne_79 : decode cX3_askOne 79 = .ok (.invokevirtual 161, 3) := by decide +kernel
theorem dX3_askOne_82 : decode cX3_askOne 82 = .ok (.return_, 1) := by decide +kernel
theorem dX3_isAwaiting_0 : decode cX3_isAwaiting 0 = .ok (.aload_n 1, 1) := by decide +kernel
theorem dX3_isAwaiting_1 : decode cX3_isAwaiting 1 = .ok (.getfield 164, 3) := by decide +kernel
theorem dX3_isAwaiting_4 : decode cX3_isAwaiting 4 = .ok (.iload_n 2, 1) := by decide +kernel
theorem dX3_isAwaiting_5 : decode cX3_isAwaiting 5 = .ok (.iaload, 1) := by decide +kernel
theorem dX3_isAwaiting_6 : decode cX3_isAwaiting 6 = .ok (.istore_n 3, 1) := by decide +kernel
theorem dX3_isAwaiting_7 : decode cX3_isAwaiting 7 = .ok (.iload_n 3, 1) := by decide +kernel
theorem dX3_isAwaiting_8 : decode cX3_isAwaiting 8 = .ok (.iconst (-1), 1) := by decide +kernel
theorem dX3_isAwaiting_9 : decode cX3_isAwaiting 9 = .ok (.if_icmp .eq 27, 3) := by decide +kernel
theorem dX3_isAwaiting_12 : decode cX3_isAwaiting 12 = .ok (.aload_n 0, 1) := by decide +kernel
theorem dX3_isAwaiting_13 : decode cX3_isAwaiting 13 = .ok (.getfield 11, 3) := by decide +kernel
theorem dX3_isAwaiting_16 : decode cX3_isAwaiting 16 = .ok (.iload_n 3, 1) := by decide +kernel
theorem dX3_isAwaiting_17 : decode cX3_isAwaiting 17 = .ok (.aaload, 1) := by decide +kernel
theorem dX3_isAwaiting_18 : decode cX3_isAwaiting 18 = .ok (.getfield 96, 3) := by decide +kernel
theorem dX3_isAwaiting_21 : decode cX3_isAwaiting 21 = .ok (.aload_n 1, 1) := by decide +kernel
theorem dX3_isAwaiting_22 : decode cX3_isAwaiting 22 = .ok (.getfield 167, 3) := by decide +kernel
theorem dX3_isAwaiting_25 : decode cX3_isAwaiting 25 = .ok (.iload_n 2, 1) := by decide +kernel
theorem dX3_isAwaiting_26 : decode cX3_isAwaiting 26 = .ok (.iaload, 1) := by decide +kernel
theorem dX3_isAwaiting_27 : decode cX3_isAwaiting 27 = .ok (.iaload, 1) := by decide +kernel
theorem dX3_isAwaiting_28 : decode cX3_isAwaiting 28 = .ok (.iconst (-1), 1) := by decide +kernel
theorem dX3_isAwaiting_29 : decode cX3_isAwaiting 29 = .ok (.if_icmp .ne 7, 3) := by decide +kernel
theorem dX3_isAwaiting_32 : decode cX3_isAwaiting 32 = .ok (.iconst 1, 1) := by decide +kernel
theorem dX3_isAwaiting_33 : decode cX3_isAwaiting 33 = .ok (.goto 4, 3) := by decide +kernel
theorem dX3_isAwaiting_36 : decode cX3_isAwaiting 36 = .ok (.iconst 0, 1) := by decide +kernel
theorem dX3_isAwaiting_37 : decode cX3_isAwaiting 37 = .ok (.ireturn, 1) := by decide +kernel
theorem dX3_waitHours_0 : decode cX3_waitHours 0 = .ok (.aload_n 1, 1) := by decide +kernel
theorem dX3_waitHours_1 : decode cX3_waitHours 1 = .ok (.getfield 32, 3) := by decide +kernel
theorem dX3_waitHours_4 : decode cX3_waitHours 4 = .ok (.iload_n 2, 1) := by decide +kernel
theorem dX3_waitHours_5 : decode cX3_waitHours 5 = .ok (.aaload, 1) := by decide +kernel
theorem dX3_waitHours_6 : decode cX3_waitHours 6 = .ok (.astore 4, 2) := by decide +kernel
theorem dX3_waitHours_8 : decode cX3_waitHours 8 = .ok (.aload_n 0, 1) := by decide +kernel
theorem dX3_waitHours_9 : decode cX3_waitHours 9 = .ok (.getfield 11, 3) := by decide +kernel
theorem dX3_waitHours_12 : decode cX3_waitHours 12 = .ok (.iload_n 2, 1) := by decide +kernel
theorem dX3_waitHours_13 : decode cX3_waitHours 13 = .ok (.aaload, 1) := by decide +kernel
theorem dX3_waitHours_14 : decode cX3_waitHours 14 = .ok (.astore 5, 2) := by decide +kernel
theorem dX3_waitHours_16 : decode cX3_waitHours 16 = .ok (.aload 5, 2) := by decide +kernel
theorem dX3_waitHours_18 : decode cX3_waitHours 18 = .ok (.getfield 71, 3) := by decide +kernel
theorem dX3_waitHours_21 : decode cX3_waitHours 21 = .ok (.istore 6, 2) := by decide +kernel
theorem dX3_waitHours_23 : decode cX3_waitHours 23 = .ok (.aload_n 1, 1) := by decide +kernel
theorem dX3_waitHours_24 : decode cX3_waitHours 24 = .ok (.getfield 32, 3) := by decide +kernel
theorem dX3_waitHours_27 : decode cX3_waitHours 27 = .ok (.aload 4, 2) := by decide +kernel
theorem dX3_waitHours_29 : decode cX3_waitHours 29 = .ok (.getfield 164, 3) := by decide +kernel
theorem dX3_waitHours_32 : decode cX3_waitHours 32 = .ok (.iload 6, 2) := by decide +kernel
theorem dX3_waitHours_34 : decode cX3_waitHours 34 = .ok (.iaload, 1) := by decide +kernel
theorem dX3_waitHours_35 : decode cX3_waitHours 35 = .ok (.aaload, 1) := by decide +kernel
theorem dX3_waitHours_36 : decode cX3_waitHours 36 = .ok (.astore 7, 2) := by decide +kernel
theorem dX3_waitHours_38 : decode cX3_waitHours 38 = .ok (.aload_n 0, 1) := by decide +kernel
theorem dX3_waitHours_39 : decode cX3_waitHours 39 = .ok (.getfield 18, 3) := by decide +kernel
theorem dX3_waitHours_42 : decode cX3_waitHours 42 = .ok (.iconst 0, 1) := by decide +kernel
theorem dX3_waitHours_43 : decode cX3_waitHours 43 = .ok (.iload_n 3, 1) := by decide +kernel
theorem dX3_waitHours_44 : decode cX3_waitHours 44 = .ok (.aload 7, 2) := by decide +kernel
theorem dX3_waitHours_46 : decode cX3_waitHours 46 = .ok (.getfield 170, 3) := by decide +kernel
theorem dX3_waitHours_49 : decode cX3_waitHours 49 = .ok (.aload 4, 2) := by decide +kernel
theorem dX3_waitHours_51 : decode cX3_waitHours 51 = .ok (.getfield 167, 3) := by decide +kernel
theorem dX3_waitHours_54 : decode cX3_waitHours 54 = .ok (.iload 6, 2) := by decide +kernel
theorem dX3_waitHours_56 : decode cX3_waitHours 56 = .ok (.iaload, 1) := by decide +kernel
theorem dX3_waitHours_57 : decode cX3_waitHours 57 = .ok (.iaload, 1) := by decide +kernel
theorem dX3_waitHours_58 : decode cX3_waitHours 58 = .ok (.isub, 1) := by decide +kernel
theorem dX3_waitHours_59 : decode cX3_waitHours 59 = .ok (.iastore, 1) := by decide +kernel
theorem dX3_waitHours_60 : decode cX3_waitHours 60 = .ok (.aload_n 0, 1) := by decide +kernel
theorem dX3_waitHours_61 : decode cX3_waitHours 61 = .ok (.getfield 18, 3) := by decide +kernel
theorem dX3_waitHours_64 : decode cX3_waitHours 64 = .ok (.iconst 1, 1) := by decide +kernel
theorem dX3_waitHours_65 : decode cX3_waitHours 65 = .ok (.iload_n 3, 1) := by decide +kernel
theorem dX3_waitHours_66 : decode cX3_waitHours 66 = .ok (.aload 5, 2) := by decide +kernel
theorem dX3_waitHours_68 : decode cX3_waitHours 68 = .ok (.getfield 58, 3) := by decide +kernel
theorem dX3_waitHours_71 : decode cX3_waitHours 71 = .ok (.isub, 1) := by decide +kernel
theorem dX3_waitHours_72 : decode cX3_waitHours 72 = .ok (.iastore, 1) := by decide +kernel
theorem dX3_waitHours_73 : decode cX3_waitHours 73 = .ok (.aload_n 0, 1) := by decide +kernel
theorem dX3_waitHours_74 : decode cX3_waitHours 74 = .ok (.getfield 18, 3) := by decide +kernel
theorem dX3_waitHours_77 : decode cX3_waitHours 77 = .ok (.iconst 2, 1) := by decide +kernel
theorem dX3_waitHours_78 : decode cX3_waitHours 78 = .ok (.aload_n 1, 1) := by decide +kernel
theorem dX3_waitHours_79 : decode cX3_waitHours 79 = .ok (.getfield 125, 3) := by decide +kernel
theorem dX3_waitHours_82 : decode cX3_waitHours 82 = .ok (.aload 4, 2) := by decide +kernel
theorem dX3_waitHours_84 : decode cX3_waitHours 84 = .ok (.getfield 129, 3) := by decide +kernel
theorem dX3_waitHours_87 : decode cX3_waitHours 87 = .ok (.iload 6, 2) := by decide +kernel
theorem dX3_waitHours_89 : decode cX3_waitHours 89 = .ok (.iaload, 1) := by decide +kernel
theorem dX3_waitHours_90 : decode cX3_waitHours 90 = .ok (.iload_n 3, 1) := by decide +kernel
theorem dX3_waitHours_91 : decode cX3_waitHours 91 = .ok (.invokevirtual 132, 3) := by decide +kernel
theorem dX3_waitHours_94 : decode cX3_waitHours 94 = .ok (.iastore, 1) := by decide +kernel
theorem dX3_waitHours_95 : decode cX3_waitHours 95 = .ok (.aload_n 0, 1) := by decide +kernel
theorem dX3_waitHours_96 : decode cX3_waitHours 96 = .ok (.getfield 18, 3) := by decide +kernel
theorem dX3_waitHours_99 : decode cX3_waitHours 99 = .ok (.iconst 3, 1) := by decide +kernel
theorem dX3_waitHours_100 : decode cX3_waitHours 100 = .ok (.aload 4, 2) := by decide +kernel
theorem dX3_waitHours_102 : decode cX3_waitHours 102 = .ok (.getfield 137, 3) := by decide +kernel
theorem dX3_waitHours_105 : decode cX3_waitHours 105 = .ok (.iload 6, 2) := by decide +kernel
theorem dX3_waitHours_107 : decode cX3_waitHours 107 = .ok (.iaload, 1) := by decide +kernel
theorem dX3_waitHours_108 : decode cX3_waitHours 108 = .ok (.iastore, 1) := by decide +kernel
theorem dX3_waitHours_109 : decode cX3_waitHours 109 = .ok (.aload_n 0, 1) := by decide +kernel
theorem dX3_waitHours_110 : decode cX3_waitHours 110 = .ok (.getfield 18, 3) := by decide +kernel
theorem dX3_waitHours_113 : decode cX3_waitHours 113 = .ok (.iconst 4, 1) := by decide +kernel
theorem dX3_waitHours_114 : decode cX3_waitHours 114 = .ok (.iload_n 3, 1) := by decide +kernel
theorem dX3_waitHours_115 : decode cX3_waitHours 115 = .ok (.invokestatic 140, 3) := by decide +kernel
theorem dX3_waitHours_118 : decode cX3_waitHours 118 = .ok (.iastore, 1) := by decide +kernel
theorem dX3_waitHours_119 : decode cX3_waitHours 119 = .ok (.aload_n 1, 1) := by decide +kernel
theorem dX3_waitHours_120 : decode cX3_waitHours 120 = .ok (.getfield 143, 3) := by decide +kernel
theorem dX3_waitHours_123 : decode cX3_waitHours 123 = .ok (.aload 4, 2) := by decide +kernel
theorem dX3_waitHours_125 : decode cX3_waitHours 125 = .ok (.getfield 89, 3) := by decide +kernel
theorem dX3_waitHours_128 : decode cX3_waitHours 128 = .ok (.aaload, 1) := by decide +kernel
theorem dX3_waitHours_129 : decode cX3_waitHours 129 = .ok (.aload_n 0, 1) := by decide +kernel
theorem dX3_waitHours_130 : decode cX3_waitHours 130 = .ok (.getfield 18, 3) := by decide +kernel
theorem dX3_waitHours_133 : decode cX3_waitHours 133 = .ok (.iload_n 3, 1) := by decide +kernel
theorem dX3_waitHours_134 : decode cX3_waitHours 134 = .ok (.invokevirtual 173, 3) := by decide +kernel
theorem dX3_waitHours_137 : decode cX3_waitHours 137 = .ok (.ireturn, 1) := by decide +kernel
theorem dX3_leavePort_0 : decode cX3_leavePort 0 = .ok (.aload_n 1, 1) := by decide +kernel
theorem dX3_leavePort_1 : decode cX3_leavePort 1 = .ok (.getfield 32, 3) := by decide +kernel
theorem dX3_leavePort_4 : decode cX3_leavePort 4 = .ok (.iload_n 2, 1) := by decide +kernel
theorem dX3_leavePort_5 : decode cX3_leavePort 5 = .ok (.aaload, 1) := by decide +kernel
theorem dX3_leavePort_6 : decode cX3_leavePort 6 = .ok (.astore 4, 2) := by decide +kernel
theorem dX3_leavePort_8 : decode cX3_leavePort 8 = .ok (.aload_n 0, 1) := by decide +kernel
theorem dX3_leavePort_9 : decode cX3_leavePort 9 = .ok (.getfield 11, 3) := by decide +kernel
theorem dX3_leavePort_12 : decode cX3_leavePort 12 = .ok (.iload_n 2, 1) := by decide +kernel
theorem dX3_leavePort_13 : decode cX3_leavePort 13 = .ok (.aaload, 1) := by decide +kernel
theorem dX3_leavePort_14 : decode cX3_leavePort 14 = .ok (.astore 5, 2) := by decide +kernel
theorem dX3_leavePort_16 : decode cX3_leavePort 16 = .ok (.aload 5, 2) := by decide +kernel
theorem dX3_leavePort_18 : decode cX3_leavePort 18 = .ok (.getfield 71, 3) := by decide +kernel
theorem dX3_leavePort_21 : decode cX3_leavePort 21 = .ok (.istore 6, 2) := by decide +kernel
theorem dX3_leavePort_23 : decode cX3_leavePort 23 = .ok (.aload 4, 2) := by decide +kernel
theorem dX3_leavePort_25 : decode cX3_leavePort 25 = .ok (.getfield 129, 3) := by decide +kernel
theorem dX3_leavePort_28 : decode cX3_leavePort 28 = .ok (.iload 6, 2) := by decide +kernel
theorem dX3_leavePort_30 : decode cX3_leavePort 30 = .ok (.iaload, 1) := by decide +kernel
theorem dX3_leavePort_31 : decode cX3_leavePort 31 = .ok (.istore 7, 2) := by decide +kernel
theorem dX3_leavePort_33 : decode cX3_leavePort 33 = .ok (.aload 4, 2) := by decide +kernel
theorem dX3_leavePort_35 : decode cX3_leavePort 35 = .ok (.getfield 176, 3) := by decide +kernel
theorem dX3_leavePort_38 : decode cX3_leavePort 38 = .ok (.bipush 100, 2) := by decide +kernel
theorem dX3_leavePort_40 : decode cX3_leavePort 40 = .ok (.aload_n 1, 1) := by decide +kernel
theorem dX3_leavePort_41 : decode cX3_leavePort 41 = .ok (.getfield 125, 3) := by decide +kernel
theorem dX3_leavePort_44 : decode cX3_leavePort 44 = .ok (.iload 7, 2) := by decide +kernel
theorem dX3_leavePort_46 : decode cX3_leavePort 46 = .ok (.iload_n 3, 1) := by decide +kernel
theorem dX3_leavePort_47 : decode cX3_leavePort 47 = .ok (.invokevirtual 132, 3) := by decide +kernel
theorem dX3_leavePort_50 : decode cX3_leavePort 50 = .ok (.iadd, 1) := by decide +kernel
theorem dX3_leavePort_51 : decode cX3_leavePort 51 = .ok (.imul, 1) := by decide +kernel
theorem dX3_leavePort_52 : decode cX3_leavePort 52 = .ok (.istore 8, 2) := by decide +kernel
theorem dX3_leavePort_54 : decode cX3_leavePort 54 = .ok (.aload 5, 2) := by decide +kernel
theorem dX3_leavePort_56 : decode cX3_leavePort 56 = .ok (.iload_n 3, 1) := by decide +kernel
theorem dX3_leavePort_57 : decode cX3_leavePort 57 = .ok (.bipush 100, 2) := by decide +kernel
theorem dX3_leavePort_59 : decode cX3_leavePort 59 = .ok (.aload_n 1, 1) := by decide +kernel
theorem dX3_leavePort_60 : decode cX3_leavePort 60 = .ok (.getfield 125, 3) := by decide +kernel
theorem dX3_leavePort_63 : decode cX3_leavePort 63 = .ok (.getfield 179, 3) := by decide +kernel
theorem dX3_leavePort_66 : decode cX3_leavePort 66 = .ok (.iload 7, 2) := by decide +kernel
theorem dX3_leavePort_68 : decode cX3_leavePort 68 = .ok (.iaload, 1) := by decide +kernel
theorem dX3_leavePort_69 : decode cX3_leavePort 69 = .ok (.imul, 1) := by decide +kernel
theorem dX3_leavePort_70 : decode cX3_leavePort 70 = .ok (.iload 8, 2) := by decide +kernel
theorem dX3_leavePort_72 : decode cX3_leavePort 72 = .ok (.invokestatic 182, 3) := by decide +kernel
theorem dX3_leavePort_75 : decode cX3_leavePort 75 = .ok (.aload 4, 2) := by decide +kernel
theorem dX3_leavePort_77 : decode cX3_leavePort 77 = .ok (.getfield 137, 3) := by decide +kernel
theorem dX3_leavePort_80 : decode cX3_leavePort 80 = .ok (.iload 6, 2) := by decide +kernel
theorem dX3_leavePort_82 : decode cX3_leavePort 82 = .ok (.iaload, 1) := by decide +kernel
theorem dX3_leavePort_83 : decode cX3_leavePort 83 = .ok (.iadd, 1) := by decide +kernel
theorem dX3_leavePort_84 : decode cX3_leavePort 84 = .ok (.invokevirtual 185, 3) := by decide +kernel
theorem dX3_leavePort_87 : decode cX3_leavePort 87 = .ok (.aload 4, 2) := by decide +kernel
theorem dX3_leavePort_89 : decode cX3_leavePort 89 = .ok (.getfield 164, 3) := by decide +kernel
theorem dX3_leavePort_92 : decode cX3_leavePort 92 = .ok (.iload 6, 2) := by decide +kernel
theorem dX3_leavePort_94 : decode cX3_leavePort 94 = .ok (.iaload, 1) := by decide +kernel
theorem dX3_leavePort_95 : decode cX3_leavePort 95 = .ok (.istore 9, 2) := by decide +kernel
theorem dX3_leavePort_97 : decode cX3_leavePort 97 = .ok (.iload 9, 2) := by decide +kernel
theorem dX3_leavePort_99 : decode cX3_leavePort 99 = .ok (.iconst (-1), 1) := by decide +kernel
theorem dX3_leavePort_100 : decode cX3_leavePort 100 = .ok (.if_icmp .eq 32, 3) := by decide +kernel
theorem dX3_leavePort_103 : decode cX3_leavePort 103 = .ok (.aload 5, 2) := by decide +kernel
theorem dX3_leavePort_105 : decode cX3_leavePort 105 = .ok (.getfield 86, 3) := by decide +kernel
theorem dX3_leavePort_108 : decode cX3_leavePort 108 = .ok (.iconst 1, 1) := by decide +kernel
theorem dX3_leavePort_109 : decode cX3_leavePort 109 = .ok (.aload_n 1, 1) := by decide +kernel
theorem dX3_leavePort_110 : decode cX3_leavePort 110 = .ok (.getfield 32, 3) := by decide +kernel
theorem dX3_leavePort_113 : decode cX3_leavePort 113 = .ok (.iload 9, 2) := by decide +kernel
theorem dX3_leavePort_115 : decode cX3_leavePort 115 = .ok (.aaload, 1) := by decide +kernel
theorem dX3_leavePort_116 : decode cX3_leavePort 116 = .ok (.getfield 89, 3) := by decide +kernel
theorem dX3_leavePort_119 : decode cX3_leavePort 119 = .ok (.iadd, 1) := by decide +kernel
theorem dX3_leavePort_120 : decode cX3_leavePort 120 = .ok (.dup2, 1) := by decide +kernel
theorem dX3_leavePort_121 : decode cX3_leavePort 121 = .ok (.iaload, 1) := by decide +kernel
theorem dX3_leavePort_122 : decode cX3_leavePort 122 = .ok (.aload 5, 2) := by decide +kernel
theorem dX3_leavePort_124 : decode cX3_leavePort 124 = .ok (.getfield 122, 3) := by decide +kernel
theorem dX3_leavePort_127 : decode cX3_leavePort 127 = .ok (.iload 6, 2) := by decide +kernel
theorem dX3_leavePort_129 : decode cX3_leavePort 129 = .ok (.iaload, 1) := by decide +kernel
theorem dX3_leavePort_130 : decode cX3_leavePort 130 = .ok (.iadd, 1) := by decide +kernel
theorem dX3_leavePort_131 : decode cX3_leavePort 131 = .ok (.iastore, 1) := by decide +kernel
theorem dX3_leavePort_132 : decode cX3_leavePort 132 = .ok (.return_, 1) := by decide +kernel
theorem dX4_init_0 : decode cX4_init 0 = .ok (.aload_n 0, 1) := by decide +kernel
theorem dX4_init_1 : decode cX4_init 1 = .ok (.invokespecial 3, 3) := by decide +kernel
theorem dX4_init_4 : decode cX4_init 4 = .ok (.aload_n 0, 1) := by decide +kernel
theorem dX4_init_5 : decode cX4_init 5 = .ok (.bipush 70, 2) := by decide +kernel
theorem dX4_init_7 : decode cX4_init 7 = .ok (.newarray .int, 2) := by decide +kernel
theorem dX4_init_9 : decode cX4_init 9 = .ok (.putfield 9, 3) := by decide +kernel
theorem dX4_init_12 : decode cX4_init 12 = .ok (.aload_n 0, 1) := by decide +kernel
theorem dX4_init_13 : decode cX4_init 13 = .ok (.bipush 70, 2) := by decide +kernel
theorem dX4_init_15 : decode cX4_init 15 = .ok (.newarray .int, 2) := by decide +kernel
theorem dX4_init_17 : decode cX4_init 17 = .ok (.putfield 15, 3) := by decide +kernel
theorem dX4_init_20 : decode cX4_init 20 = .ok (.aload_n 0, 1) := by decide +kernel
theorem dX4_init_21 : decode cX4_init 21 = .ok (.bipush 8, 2) := by decide +kernel
theorem dX4_init_23 : decode cX4_init 23 = .ok (.newarray .int, 2) := by decide +kernel
theorem dX4_init_25 : decode cX4_init 25 = .ok (.putfield 18, 3) := by decide +kernel
theorem dX4_init_28 : decode cX4_init 28 = .ok (.aload_n 0, 1) := by decide +kernel
theorem dX4_init_29 : decode cX4_init 29 = .ok (.bipush 88, 2) := by decide +kernel
theorem dX4_init_31 : decode cX4_init 31 = .ok (.newarray .int, 2) := by decide +kernel
theorem dX4_init_33 : decode cX4_init 33 = .ok (.putfield 21, 3) := by decide +kernel
theorem dX4_init_36 : decode cX4_init 36 = .ok (.aload_n 0, 1) := by decide +kernel
theorem dX4_init_37 : decode cX4_init 37 = .ok (.bipush 30, 2) := by decide +kernel
theorem dX4_init_39 : decode cX4_init 39 = .ok (.newarray .int, 2) := by decide +kernel
theorem dX4_init_41 : decode cX4_init 41 = .ok (.putfield 24, 3) := by decide +kernel
theorem dX4_init_44 : decode cX4_init 44 = .ok (.aload_n 0, 1) := by decide +kernel
theorem dX4_init_45 : decode cX4_init 45 = .ok (.iconst 0, 1) := by decide +kernel
theorem dX4_init_46 : decode cX4_init 46 = .ok (.putfield 27, 3) := by decide +kernel
theorem dX4_init_49 : decode cX4_init 49 = .ok (.aload_n 0, 1) := by decide +kernel
theorem dX4_init_50 : decode cX4_init 50 = .ok (.iconst 0, 1) := by decide +kernel
theorem dX4_init_51 : decode cX4_init 51 = .ok (.putfield 31, 3) := by decide +kernel
theorem dX4_init_54 : decode cX4_init 54 = .ok (.return_, 1) := by decide +kernel
theorem dX4_layOut_0 : decode cX4_layOut 0 = .ok (.iconst 0, 1) := by decide +kernel
theorem dX4_layOut_1 : decode cX4_layOut 1 = .ok (.istore 4, 2) := by decide +kernel
theorem dX4_layOut_3 : decode cX4_layOut 3 = .ok (.iload 4, 2) := by decide +kernel
theorem dX4_layOut_5 : decode cX4_layOut 5 = .ok (.aload_n 1, 1) := by decide +kernel
theorem dX4_layOut_6 : decode cX4_layOut 6 = .ok (.getfield 34, 3) := by decide +kernel
theorem dX4_layOut_9 : decode cX4_layOut 9 = .ok (.if_icmp .ge 81, 3) := by decide +kernel
theorem dX4_layOut_12 : decode cX4_layOut 12 = .ok (.aload_n 2, 1) := by decide +kernel
theorem dX4_layOut_13 : decode cX4_layOut 13 = .ok (.getfield 39, 3) := by decide +kernel
theorem dX4_layOut_16 : decode cX4_layOut 16 = .ok (.iload 4, 2) := by decide +kernel
theorem dX4_layOut_18 : decode cX4_layOut 18 = .ok (.aaload, 1) := by decide +kernel
theorem dX4_layOut_19 : decode cX4_layOut 19 = .ok (.astore 5, 2) := by decide +kernel
theorem dX4_layOut_21 : decode cX4_layOut 21 = .ok (.iload_n 3, 1) := by decide +kernel
theorem dX4_layOut_22 : decode cX4_layOut 22 = .ok (.ifCond .eq 29, 3) := by decide +kernel
theorem dX4_layOut_25 : decode cX4_layOut 25 = .ok (.aload_n 0, 1) := by decide +kernel
theorem dX4_layOut_26 : decode cX4_layOut 26 = .ok (.iload 4, 2) := by decide +kernel
theorem dX4_layOut_28 : decode cX4_layOut 28 = .ok (.aload_n 1, 1) := by decide +kernel
theorem dX4_layOut_29 : decode cX4_layOut 29 = .ok (.getfield 45, 3) := by decide +kernel
theorem dX4_layOut_32 : decode cX4_layOut 32 = .ok (.iload 4, 2) := by decide +kernel
theorem dX4_layOut_34 : decode cX4_layOut 34 = .ok (.aaload, 1) := by decide +kernel
theorem dX4_layOut_35 : decode cX4_layOut 35 = .ok (.aload 5, 2) := by decide +kernel
theorem dX4_layOut_37 : decode cX4_layOut 37 = .ok (.getfield 49, 3) := by decide +kernel
theorem dX4_layOut_40 : decode cX4_layOut 40 = .ok (.aload 5, 2) := by decide +kernel
theorem dX4_layOut_42 : decode cX4_layOut 42 = .ok (.getfield 54, 3) := by decide +kernel
theorem dX4_layOut_45 : decode cX4_layOut 45 = .ok (.invokevirtual 57, 3) := by decide +kernel
theorem dX4_layOut_48 : decode cX4_layOut 48 = .ok (.goto 36, 3) := by decide +kernel
theorem dX4_layOut_51 : decode cX4_layOut 51 = .ok (.aload_n 0, 1) := by decide +kernel
theorem dX4_layOut_52 : decode cX4_layOut 52 = .ok (.iload 4, 2) := by decide +kernel
theorem dX4_layOut_54 : decode cX4_layOut 54 = .ok (.aload_n 1, 1) := by decide +kernel
theorem dX4_layOut_55 : decode cX4_layOut 55 = .ok (.getfield 45, 3) := by decide +kernel
theorem dX4_layOut_58 : decode cX4_layOut 58 = .ok (.iload 4, 2) := by decide +kernel
theorem dX4_layOut_60 : decode cX4_layOut 60 = .ok (.aaload, 1) := by decide +kernel
theorem dX4_layOut_61 : decode cX4_layOut 61 = .ok (.aload_n 1, 1) := by decide +kernel
theorem dX4_layOut_62 : decode cX4_layOut 62 = .ok (.getfield 45, 3) := by decide +kernel
theorem dX4_layOut_65 : decode cX4_layOut 65 = .ok (.iload 4, 2) := by decide +kernel
theorem dX4_layOut_67 : decode cX4_layOut 67 = .ok (.aaload, 1) := by decide +kernel
theorem dX4_layOut_68 : decode cX4_layOut 68 = .ok (.getfield 61, 3) := by decide +kernel
theorem dX4_layOut_71 : decode cX4_layOut 71 = .ok (.aload_n 1, 1) := by decide +kernel
theorem dX4_layOut_72 : decode cX4_layOut 72 = .ok (.getfield 45, 3) := by decide +kernel
theorem dX4_layOut_75 : decode cX4_layOut 75 = .ok (.iload 4, 2) := by decide +kernel
theorem dX4_layOut_77 : decode cX4_layOut 77 = .ok (.aaload, 1) := by decide +kernel
theorem dX4_layOut_78 : decode cX4_layOut 78 = .ok (.getfield 66, 3) := by decide +kernel
theorem dX4_layOut_81 : decode cX4_layOut 81 = .ok (.invokevirtual 57, 3) := by decide +kernel
theorem dX4_layOut_84 : decode cX4_layOut 84 = .ok (.iinc 4 1, 3) := by decide +kernel
theorem dX4_layOut_87 : decode cX4_layOut 87 = .ok (.goto (-84), 3) := by decide +kernel
theorem dX4_layOut_90 : decode cX4_layOut 90 = .ok (.return_, 1) := by decide +kernel
theorem dX4_layOutRow_0 : decode cX4_layOutRow 0 = .ok (.iconst 0, 1) := by decide +kernel
theorem dX4_layOutRow_1 : decode cX4_layOutRow 1 = .ok (.istore 5, 2) := by decide +kernel
theorem dX4_layOutRow_3 : decode cX4_layOutRow 3 = .ok (.iload 5, 2) := by decide +kernel
theorem dX4_layOutRow_5 : decode cX4_layOutRow 5 = .ok (.aload_n 2, 1) := by decide +kernel
theorem dX4_layOutRow_6 : decode cX4_layOutRow 6 = .ok (.getfield 69, 3) := by decide +kernel
theorem dX4_layOutRow_9 : decode cX4_layOutRow 9 = .ok (.if_icmp .gt 68, 3) := by decide +kernel
theorem dX4_layOutRow_12 : decode cX4_layOutRow 12 = .ok (.aload_n 0, 1) := by decide +kernel
theorem dX4_layOutRow_13 : decode cX4_layOutRow 13 = .ok (.getfield 9, 3) := by decide +kernel
theorem dX4_layOutRow_16 : decode cX4_layOutRow 16 = .ok (.iload_n 1, 1) := by decide +kernel
theorem dX4_layOutRow_17 : decode cX4_layOutRow 17 = .ok (.bipush 7, 2) := by decide +kernel
theorem dX4_layOutRow_19 : decode cX4_layOutRow 19 = .ok (.imul, 1) := by decide +kernel
theorem dX4_layOutRow_20 : decode cX4_layOutRow 20 = .ok (.iload 5, 2) := by decide +kernel
theorem dX4_layOutRow_22 : decode cX4_layOutRow 22 = .ok (.iadd, 1) := by decide +kernel
theorem dX4_layOutRow_23 : decode cX4_layOutRow 23 = .ok (.aload_n 2, 1) := by decide +kernel
theorem dX4_layOutRow_24 : decode cX4_layOutRow 24 = .ok (.iload 5, 2) := by decide +kernel
theorem dX4_layOutRow_26 : decode cX4_layOutRow 26 = .ok (.invokevirtual 72, 3) := by decide +kernel
theorem dX4_layOutRow_29 : decode cX4_layOutRow 29 = .ok (.ifCond .eq 10, 3) := by decide +kernel
theorem dX4_layOutRow_32 : decode cX4_layOutRow 32 = .ok (.aload_n 3, 1) := by decide +kernel
theorem dX4_layOutRow_33 : decode cX4_layOutRow 33 = .ok (.iload 5, 2) := by decide +kernel
theorem dX4_layOutRow_35 : decode cX4_layOutRow 35 = .ok (.iaload, 1) := by decide +kernel
theorem dX4_layOutRow_36 : decode cX4_layOutRow 36 = .ok (.goto 4, 3) := by decide +kernel
theorem dX4_layOutRow_39 : decode cX4_layOutRow 39 = .ok (.iconst (-1), 1) := by decide +kernel
theorem dX4_layOutRow_40 : decode cX4_layOutRow 40 = .ok (.iastore, 1) := by decide +kernel
theorem dX4_layOutRow_41 : decode cX4_layOutRow 41 = .ok (.aload_n 0, 1) := by decide +kernel
theorem dX4_layOutRow_42 : decode cX4_layOutRow 42 = .ok (.getfield 15, 3) := by decide +kernel
theorem dX4_layOutRow_45 : decode cX4_layOutRow 45 = .ok (.iload_n 1, 1) := by decide +kernel
theorem dX4_layOutRow_46 : decode cX4_layOutRow 46 = .ok (.bipush 7, 2) := by decide +kernel
theorem dX4_layOutRow_48 : decode cX4_layOutRow 48 = .ok (.imul, 1) := by decide +kernel
theorem dX4_layOutRow_49 : decode cX4_layOutRow 49 = .ok (.iload 5, 2) := by decide +kernel
theorem dX4_layOutRow_51 : decode cX4_layOutRow 51 = .ok (.iadd, 1) := by decide +kernel
theorem dX4_layOutRow_52 : decode cX4_layOutRow 52 = .ok (.aload_n 2, 1) := by decide +kernel
theorem dX4_layOutRow_53 : decode cX4_layOutRow 53 = .ok (.iload 5, 2) := by decide +kernel
theorem dX4_layOutRow_55 : decode cX4_layOutRow 55 = .ok (.invokevirtual 76, 3) := by decide +kernel
theorem dX4_layOutRow_58 : decode cX4_layOutRow 58 = .ok (.ifCond .eq 11, 3) := by decide +kernel
theorem dX4_layOutRow_61 : decode cX4_layOutRow 61 = .ok (.aload 4, 2) := by decide +kernel
theorem dX4_layOutRow_63 : decode cX4_layOutRow 63 = .ok (.iload 5, 2) := by decide +kernel
theorem dX4_layOutRow_65 : decode cX4_layOutRow 65 = .ok (.iaload, 1) := by decide +kernel
theorem dX4_layOutRow_66 : decode cX4_layOutRow 66 = .ok (.goto 4, 3) := by decide +kernel
theorem dX4_layOutRow_69 : decode cX4_layOutRow 69 = .ok (.iconst (-1), 1) := by decide +kernel
theorem dX4_layOutRow_70 : decode cX4_layOutRow 70 = .ok (.iastore, 1) := by decide +kernel
theorem dX4_layOutRow_71 : decode cX4_layOutRow 71 = .ok (.iinc 5 1, 3) := by decide +kernel
theorem dX4_layOutRow_74 : decode cX4_layOutRow 74 = .ok (.goto (-71), 3) := by decide +kernel
theorem dX4_layOutRow_77 : decode cX4_layOutRow 77 = .ok (.return_, 1) := by decide +kernel
theorem dX4_firstComing_0 : decode cX4_firstComing 0 = .ok (.aload_n 0, 1) := by decide +kernel
theorem dX4_firstComing_1 : decode cX4_firstComing 1 = .ok (.getfield 18, 3) := by decide +kernel
theorem dX4_firstComing_4 : decode cX4_firstComing 4 = .ok (.ldc 79, 2) := by decide +kernel
theorem dX4_firstComing_6 : decode cX4_firstComing 6 = .ok (.invokestatic 80, 3) := by decide +kernel
theorem dX4_firstComing_9 : decode cX4_firstComing 9 = .ok (.aload_n 0, 1) := by decide +kernel
theorem dX4_firstComing_10 : decode cX4_firstComing 10 = .ok (.getfield 18, 3) := by decide +kernel
theorem dX4_firstComing_13 : decode cX4_firstComing 13 = .ok (.iload_n 2, 1) := by decide +kernel
theorem dX4_firstComing_14 : decode cX4_firstComing 14 = .ok (.iload 4, 2) := by decide +kernel
theorem dX4_firstComing_16 : decode cX4_firstComing 16 = .ok (.iastore, 1) := by decide +kernel
theorem dX4_firstComing_17 : decode cX4_firstComing 17 = .ok (.iconst 1, 1) := by decide +kernel
theorem dX4_firstComing_18 : decode cX4_firstComing 18 = .ok (.istore 5, 2) := by decide +kernel
theorem dX4_firstComing_20 : decode cX4_firstComing 20 = .ok (.iconst 0, 1) := by decide +kernel
theorem dX4_firstComing_21 : decode cX4_firstComing 21 = .ok (.istore 6, 2) := by decide +kernel
theorem dX4_firstComing_23 : decode cX4_firstComing 23 = .ok (.iload 6, 2) := by decide +kernel
theorem dX4_firstComing_25 : decode cX4_firstComing 25 = .ok (.bipush 10, 2) := by decide +kernel
theorem dX4_firstComing_27 : decode cX4_firstComing 27 = .ok (.if_icmp .ge 54, 3) := by decide +kernel
theorem dX4_firstComing_30 : decode cX4_firstComing 30 = .ok (.iload 5, 2) := by decide +kernel
theorem dX4_firstComing_32 : decode cX4_firstComing 32 = .ok (.ifCond .eq 49, 3) := by decide +kernel
theorem dX4_firstComing_35 : decode cX4_firstComing 35 = .ok (.iconst 0, 1) := by decide +kernel
theorem dX4_firstComing_36 : decode cX4_firstComing 36 = .ok (.istore 5, 2) := by decide +kernel
theorem dX4_firstComing_38 : decode cX4_firstComing 38 = .ok (.iconst 0, 1) := by decide +kernel
theorem dX4_firstComing_39 : decode cX4_firstComing 39 = .ok (.istore 7, 2) := by decide +kernel
theorem dX4_firstComing_41 : decode cX4_firstComing 41 = .ok (.iload 7, 2) := by decide +kernel
theorem dX4_firstComing_43 : decode cX4_firstComing 43 = .ok (.aload_n 1, 1) := by decide +kernel
theorem dX4_firstComing_44 : decode cX4_firstComing 44 = .ok (.getfield 34, 3) := by decide +kernel
theorem dX4_firstComing_47 : decode cX4_firstComing 47 = .ok (.if_icmp .ge 28, 3) := by decide +kernel
theorem dX4_firstComing_50 : decode cX4_firstComing 50 = .ok (.aload_n 0, 1) := by decide +kernel
theorem dX4_firstComing_51 : decode cX4_firstComing 51 = .ok (.aload_n 1, 1) := by decide +kernel
theorem dX4_firstComing_52 : decode cX4_firstComing 52 = .ok (.getfield 45, 3) := by decide +kernel
theorem dX4_firstComing_55 : decode cX4_firstComing 55 = .ok (.iload 7, 2) := by decide +kernel
theorem dX4_firstComing_57 : decode cX4_firstComing 57 = .ok (.aaload, 1) := by decide +kernel
theorem dX4_firstComing_58 : decode cX4_firstComing 58 = .ok (.iload 7, 2) := by decide +kernel
theorem dX4_firstComing_60 : decode cX4_firstComing 60 = .ok (.invokevirtual 86, 3) := by decide +kernel
theorem dX4_firstComing_63 : decode cX4_firstComing 63 = .ok (.ifCond .eq 6, 3) := by decide +kernel
theorem dX4_firstComing_66 : decode cX4_firstComing 66 = .ok (.iconst 1, 1) := by decide +kernel
theorem dX4_firstComing_67 : decode cX4_firstComing 67 = .ok (.istore 5, 2) := by decide +kernel
theorem dX4_firstComing_69 : decode cX4_firstComing 69 = .ok (.iinc 7 1, 3) := by decide +kernel
theorem dX4_firstComing_72 : decode cX4_firstComing 72 = .ok (.goto (-31), 3) := by decide +kernel
theorem dX4_firstComing_75 : decode cX4_firstComing 75 = .ok (.iinc 6 1, 3) := by decide +kernel
theorem dX4_firstComing_78 : decode cX4_firstComing 78 = .ok (.goto (-55), 3) := by decide +kernel
theorem dX4_firstComing_81 : decode cX4_firstComing 81 = .ok (.aload_n 0, 1) := by decide +kernel
theorem dX4_firstComing_82 : decode cX4_firstComing 82 = .ok (.getfield 18, 3) := by decide +kernel
theorem dX4_firstComing_85 : decode cX4_firstComing 85 = .ok (.iload_n 3, 1) := by decide +kernel
theorem dX4_firstComing_86 : decode cX4_firstComing 86 = .ok (.iaload, 1) := by decide +kernel
theorem dX4_firstComing_87 : decode cX4_firstComing 87 = .ok (.ldc 79, 2) := by decide +kernel
theorem dX4_firstComing_89 : decode cX4_firstComing 89 = .ok (.if_icmp .ne 7, 3) := by decide +kernel
theorem dX4_firstComing_92 : decode cX4_firstComing 92 = .ok (.iconst (-1), 1) := by decide +kernel
theorem dX4_firstComing_93 : decode cX4_firstComing 93 = .ok (.goto 11, 3) := by decide +kernel
theorem dX4_firstComing_96 : decode cX4_firstComing 96 = .ok (.aload_n 0, 1) := by decide +kernel
theorem dX4_firstComing_97 : decode cX4_firstComing 97 = .ok (.getfield 18, 3) := by decide +kernel
theorem dX4_firstComing_100 : decode cX4_firstComing 100 = .ok (.iload_n 3, 1) := by decide +kernel
theorem dX4_firstComing_101 : decode cX4_firstComing 101 = .ok (.iaload, 1) := by decide +kernel
theorem dX4_firstComing_102 : decode cX4_firstComing 102 = .ok (.iconst 1, 1) := by decide +kernel
theorem dX4_firstComing_103 : decode cX4_firstComing 103 = .ok (.isub, 1) := by decide +kernel
theorem dX4_firstComing_104 : decode cX4_firstComing 104 = .ok (.ireturn, 1) := by decide +kernel
theorem dX4_carry_0 : decode cX4_carry 0 = .ok (.iconst 0, 1) := by decide +kernel
theorem dX4_carry_1 : decode cX4_carry 1 = .ok (.istore_n 3, 1) := by decide +kernel
theorem dX4_carry_2 : decode cX4_carry 2 = .ok (.iconst 0, 1) := by decide +kernel
theorem dX4_carry_3 : decode cX4_carry 3 = .ok (.istore 4, 2) := by decide +kernel
theorem dX4_carry_5 : decode cX4_carry 5 = .ok (.iconst 0, 1) := by decide +kernel
theorem dX4_carry_6 : decode cX4_carry 6 = .ok (.istore 5, 2) := by decide +kernel
theorem dX4_carry_8 : decode cX4_carry 8 = .ok (.iload 5, 2) := by decide +kernel
theorem dX4_carry_10 : decode cX4_carry 10 = .ok (.aload_n 1, 1) := by decide +kernel
theorem dX4_carry_11 : decode cX4_carry 11 = .ok (.getfield 69, 3) := by decide +kernel
theorem dX4_carry_14 : decode cX4_carry 14 = .ok (.if_icmp .gt 94, 3) := by decide +kernel
theorem dX4_carry_17 : decode cX4_carry 17 = .ok (.aload_n 1, 1) := by decide +kernel
theorem dX4_carry_18 : decode cX4_carry 18 = .ok (.getfield 90, 3) := by decide +kernel
theorem dX4_carry_21 : decode cX4_carry 21 = .ok (.iload 5, 2) := by decide +kernel
theorem dX4_carry_23 : decode cX4_carry 23 = .ok (.iaload, 1) := by decide +kernel
theorem dX4_carry_24 : decode cX4_carry 24 = .ok (.istore 6, 2) := by decide +kernel
theorem dX4_carry_26 : decode cX4_carry 26 = .ok (.aload_n 0, 1) := by decide +kernel
theorem dX4_carry_27 : decode cX4_carry 27 = .ok (.getfield 9, 3) := by decide +kernel
theorem dX4_carry_30 : decode cX4_carry 30 = .ok (.iload_n 2, 1) := by decide +kernel
theorem dX4_carry_31 : decode cX4_carry 31 = .ok (.bipush 7, 2) := by decide +kernel
theorem dX4_carry_33 : decode cX4_carry 33 = .ok (.imul, 1) := by decide +kernel
theorem dX4_carry_34 : decode cX4_carry 34 = .ok (.iload 5, 2) := by decide +kernel
theorem dX4_carry_36 : decode cX4_carry 36 = .ok (.iadd, 1) := by decide +kernel
theorem dX4_carry_37 : decode cX4_carry 37 = .ok (.iaload, 1) := by decide +kernel
theorem dX4_carry_38 : decode cX4_carry 38 = .ok (.istore 7, 2) := by decide +kernel
theorem dX4_carry_40 : decode cX4_carry 40 = .ok (.iload_n 3, 1) := by decide +kernel
theorem dX4_carry_41 : decode cX4_carry 41 = .ok (.ifCond .eq 37, 3) := by decide +kernel
theorem dX4_carry_44 : decode cX4_carry 44 = .ok (.iload 7, 2) := by decide +kernel
theorem dX4_carry_46 : decode cX4_carry 46 = .ok (.iconst (-1), 1) := by decide +kernel
theorem dX4_carry_47 : decode cX4_carry 47 = .ok (.if_icmp .eq 31, 3) := by decide +kernel
theorem dX4_carry_50 : decode cX4_carry 50 = .ok (.iload 7, 2) := by decide +kernel
theorem dX4_carry_52 : decode cX4_carry 52 = .ok (.iconst 1, 1) := by decide +kernel
theorem dX4_carry_53 : decode cX4_carry 53 = .ok (.iadd, 1) := by decide +kernel
theorem dX4_carry_54 : decode cX4_carry 54 = .ok (.aload_n 0, 1) := by decide +kernel
theorem dX4_carry_55 : decode cX4_carry 55 = .ok (.getfield 18, 3) := by decide +kernel
theorem dX4_carry_58 : decode cX4_carry 58 = .ok (.iload 6, 2) := by decide +kernel
theorem dX4_carry_60 : decode cX4_carry 60 = .ok (.iaload, 1) := by decide +kernel
theorem dX4_carry_61 : decode cX4_carry 61 = .ok (.if_icmp .ge 17, 3) := by decide +kernel
theorem dX4_carry_64 : decode cX4_carry 64 = .ok (.aload_n 0, 1) := by decide +kernel
theorem dX4_carry_65 : decode cX4_carry 65 = .ok (.getfield 18, 3) := by decide +kernel
theorem dX4_carry_68 : decode cX4_carry 68 = .ok (.iload 6, 2) := by decide +kernel
theorem dX4_carry_70 : decode cX4_carry 70 = .ok (.iload 7, 2) := by decide +kernel
theorem dX4_carry_72 : decode cX4_carry 72 = .ok (.iconst 1, 1) := by decide +kernel
theorem dX4_carry_73 : decode cX4_carry 73 = .ok (.iadd, 1) := by decide +kernel
theorem dX4_carry_74 : decode cX4_carry 74 = .ok (.iastore, 1) := by decide +kernel
theorem dX4_carry_75 : decode cX4_carry 75 = .ok (.iconst 1, 1) := by decide +kernel
theorem dX4_carry_76 : decode cX4_carry 76 = .ok (.istore 4, 2) := by decide +kernel
theorem dX4_carry_78 : decode cX4_carry 78 = .ok (.aload_n 0, 1) := by decide +kernel
theorem dX4_carry_79 : decode cX4_carry 79 = .ok (.getfield 15, 3) := by decide +kernel
theorem dX4_carry_82 : decode cX4_carry 82 = .ok (.iload_n 2, 1) := by decide +kernel
theorem dX4_carry_83 : decode cX4_carry 83 = .ok (.bipush 7, 2) := by decide +kernel
theorem dX4_carry_85 : decode cX4_carry 85 = .ok (.imul, 1) := by decide +kernel
theorem dX4_carry_86 : decode cX4_carry 86 = .ok (.iload 5, 2) := by decide +kernel
theorem dX4_carry_88 : decode cX4_carry 88 = .ok (.iadd, 1) := by decide +kernel
theorem dX4_carry_89 : decode cX4_carry 89 = .ok (.iaload, 1) := by decide +kernel
theorem dX4_carry_90 : decode cX4_carry 90 = .ok (.aload_n 0, 1) := by decide +kernel
theorem dX4_carry_91 : decode cX4_carry 91 = .ok (.getfield 18, 3) := by decide +kernel
theorem dX4_carry_94 : decode cX4_carry 94 = .ok (.iload 6, 2) := by decide +kernel
theorem dX4_carry_96 : decode cX4_carry 96 = .ok (.iaload, 1) := by decide +kernel
theorem dX4_carry_97 : decode cX4_carry 97 = .ok (.if_icmp .lt 5, 3) := by decide +kernel
theorem dX4_carry_100 : decode cX4_carry 100 = .ok (.iconst 1, 1) := by decide +kernel
theorem dX4_carry_101 : decode cX4_carry 101 = .ok (.istore_n 3, 1) := by decide +kernel
theorem dX4_carry_102 : decode cX4_carry 102 = .ok (.iinc 5 1, 3) := by decide +kernel
theorem dX4_carry_105 : decode cX4_carry 105 = .ok (.goto (-97), 3) := by decide +kernel
theorem dX4_carry_108 : decode cX4_carry 108 = .ok (.iload 4, 2) := by decide +kernel
theorem dX4_carry_110 : decode cX4_carry 110 = .ok (.ireturn, 1) := by decide +kernel
theorem dX4_reckonLatest_0 : decode cX4_reckonLatest 0 = .ok (.aload_n 0, 1) := by decide +kernel
theorem dX4_reckonLatest_1 : decode cX4_reckonLatest 1 = .ok (.getfield 21, 3) := by decide +kernel
theorem dX4_reckonLatest_4 : decode cX4_reckonLatest 4 = .ok (.iconst (-1), 1) := by decide +kernel
theorem dX4_reckonLatest_5 : decode cX4_reckonLatest 5 = .ok (.invokestatic 80, 3) := by decide +kernel
theorem dX4_reckonLatest_8 : decode cX4_reckonLatest 8 = .ok (.aload_n 0, 1) := by decide +kernel
theorem dX4_reckonLatest_9 : decode cX4_reckonLatest 9 = .ok (.iconst 0, 1) := by decide +kernel
theorem dX4_reckonLatest_10 : decode cX4_reckonLatest 10 = .ok (.putfield 27, 3) := by decide +kernel
theorem dX4_reckonLatest_13 : decode cX4_reckonLatest 13 = .ok (.iconst 1, 1) := by decide +kernel
theorem dX4_reckonLatest_14 : decode cX4_reckonLatest 14 = .ok (.istore 4, 2) := by decide +kernel
theorem dX4_reckonLatest_16 : decode cX4_reckonLatest 16 = .ok (.iconst 1, 1) := by decide +kernel
theorem dX4_reckonLatest_17 : decode cX4_reckonLatest 17 = .ok (.istore 5, 2) := by decide +kernel
theorem dX4_reckonLatest_19 : decode cX4_reckonLatest 19 = .ok (.iload 5, 2) := by decide +kernel
theorem dX4_reckonLatest_21 : decode cX4_reckonLatest 21 = .ok (.bipush 10, 2) := by decide +kernel
theorem dX4_reckonLatest_23 : decode cX4_reckonLatest 23 = .ok (.if_icmp .gt 89, 3) := by decide +kernel
theorem dX4_reckonLatest_26 : decode cX4_reckonLatest 26 = .ok (.iload 4, 2) := by decide +kernel
theorem dX4_reckonLatest_28 : decode cX4_reckonLatest 28 = .ok (.ifCond .eq 84, 3) := by decide +kernel
theorem dX4_reckonLatest_31 : decode cX4_reckonLatest 31 = .ok (.aload_n 0, 1) := by decide +kernel
theorem dX4_reckonLatest_32 : decode cX4_reckonLatest 32 = .ok (.getfield 21, 3) := by decide +kernel
theorem dX4_reckonLatest_35 : decode cX4_reckonLatest 35 = .ok (.iload 5, 2) := by decide +kernel
theorem dX4_reckonLatest_37 : decode cX4_reckonLatest 37 = .ok (.iconst 1, 1) := by decide +kernel
theorem dX4_reckonLatest_38 : decode cX4_reckonLatest 38 = .ok (.isub, 1) := by decide +kernel
theorem dX4_reckonLatest_39 : decode cX4_reckonLatest 39 = .ok (.bipush 8, 2) := by decide +kernel
theorem dX4_reckonLatest_41 : decode cX4_reckonLatest 41 = .ok (.imul, 1) := by decide +kernel
theorem dX4_reckonLatest_42 : decode cX4_reckonLatest 42 = .ok (.aload_n 0, 1) := by decide +kernel
theorem dX4_reckonLatest_43 : decode cX4_reckonLatest 43 = .ok (.getfield 21, 3) := by decide +kernel
theorem dX4_reckonLatest_46 : decode cX4_reckonLatest 46 = .ok (.iload 5, 2) := by decide +kernel
theorem dX4_reckonLatest_48 : decode cX4_reckonLatest 48 = .ok (.bipush 8, 2) := by decide +kernel
theorem dX4_reckonLatest_50 : decode cX4_reckonLatest 50 = .ok (.imul, 1) := by decide +kernel
theorem dX4_reckonLatest_51 : decode cX4_reckonLatest 51 = .ok (.bipush 8, 2) := by decide +kernel
theorem dX4_reckonLatest_53 : decode cX4_reckonLatest 53 = .ok (.invokestatic 93, 3) := by decide +kernel
theorem dX4_reckonLatest_56 : decode cX4_reckonLatest 56 = .ok (.iconst 0, 1) := by decide +kernel
theorem dX4_reckonLatest_57 : decode cX4_reckonLatest 57 = .ok (.istore 4, 2) := by decide +kernel
theorem dX4_reckonLatest_59 : decode cX4_reckonLatest 59 = .ok (.iconst 0, 1) := by decide +kernel
theorem dX4_reckonLatest_60 : decode cX4_reckonLatest 60 = .ok (.istore 6, 2) := by decide +kernel
theorem dX4_reckonLatest_62 : decode cX4_reckonLatest 62 = .ok (.iload 6, 2) := by decide +kernel
theorem dX4_reckonLatest_64 : decode cX4_reckonLatest 64 = .ok (.aload_n 1, 1) := by decide +kernel
theorem dX4_reckonLatest_65 : decode cX4_reckonLatest 65 = .ok (.getfield 34, 3) := by decide +kernel
theorem dX4_reckonLatest_68 : decode cX4_reckonLatest 68 = .ok (.if_icmp .ge 32, 3) := by decide +kernel
theorem dX4_reckonLatest_71 : decode cX4_reckonLatest 71 = .ok (.aload_n 0, 1) := by decide +kernel
theorem dX4_reckonLatest_72 : decode cX4_reckonLatest 72 = .ok (.aload_n 1, 1) := by decide +kernel
theorem dX4_reckonLatest_73 : decode cX4_reckonLatest 73 = .ok (.getfield 45, 3) := by decide +kernel
theorem dX4_reckonLatest_76 : decode cX4_reckonLatest 76 = .ok (.iload 6, 2) := by decide +kernel
theorem dX4_reckonLatest_78 : decode cX4_reckonLatest 78 = .ok (.aaload, 1) := by decide +kernel
theorem dX4_reckonLatest_79 : decode cX4_reckonLatest 79 = .ok (.iload 6, 2) := by decide +kernel
theorem dX4_reckonLatest_81 : decode cX4_reckonLatest 81 = .ok (.iload 5, 2) := by decide +kernel
theorem dX4_reckonLatest_83 : decode cX4_reckonLatest 83 = .ok (.iload_n 2, 1) := by decide +kernel
theorem dX4_reckonLatest_84 : decode cX4_reckonLatest 84 = .ok (.iload_n 3, 1) := by decide +kernel
theorem dX4_reckonLatest_85 : decode cX4_reckonLatest 85 = .ok (.invokevirtual 99, 3) := by decide +kernel
theorem dX4_reckonLatest_88 : decode cX4_reckonLatest 88 = .ok (.ifCond .eq 6, 3) := by decide +kernel
theorem dX4_reckonLatest_91 : decode cX4_reckonLatest 91 = .ok (.iconst 1, 1) := by decide +kernel
theorem dX4_reckonLatest_92 : decode cX4_reckonLatest 92 = .ok (.istore 4, 2) := by decide +kernel
theorem dX4_reckonLatest_94 : decode cX4_reckonLatest 94 = .ok (.iinc 6 1, 3) := by decide +kernel
theorem dX4_reckonLatest_97 : decode cX4_reckonLatest 97 = .ok (.goto (-35), 3) := by decide +kernel
theorem dX4_reckonLatest_100 : decode cX4_reckonLatest 100 = .ok (.aload_n 0, 1) := by decide +kernel
theorem dX4_reckonLatest_101 : decode cX4_reckonLatest 101 = .ok (.iload 5, 2) := by decide +kernel
theorem dX4_reckonLatest_103 : decode cX4_reckonLatest 103 = .ok (.putfield 27, 3) := by decide +kernel
theorem dX4_reckonLatest_106 : decode cX4_reckonLatest 106 = .ok (.iinc 5 1, 3) := by decide +kernel
theorem dX4_reckonLatest_109 : decode cX4_reckonLatest 109 = .ok (.goto (-90), 3) := by decide +kernel
theorem dX4_reckonLatest_112 : decode cX4_reckonLatest 112 = .ok (.return_, 1) := by decide +kernel
theorem dX4_goBack_0 : decode cX4_goBack 0 = .ok (.iconst 0, 1) := by decide +kernel
theorem dX4_goBack_1 : decode cX4_goBack 1 = .ok (.istore 6, 2) := by decide +kernel
theorem dX4_goBack_3 : decode cX4_goBack 3 = .ok (.iconst 0, 1) := by decide +kernel
theorem dX4_goBack_4 : decode cX4_goBack 4 = .ok (.istore 7, 2) := by decide +kernel
theorem dX4_goBack_6 : decode cX4_goBack 6 = .ok (.aload_n 1, 1) := by decide +kernel
theorem dX4_goBack_7 : decode cX4_goBack 7 = .ok (.getfield 69, 3) := by decide +kernel
theorem dX4_goBack_10 : decode cX4_goBack 10 = .ok (.istore 8, 2) := by decide +kernel
theorem dX4_goBack_12 : decode cX4_goBack 12 = .ok (.iload 8, 2) := by decide +kernel
theorem dX4_goBack_14 : decode cX4_goBack 14 = .ok (.ifCond .lt 102, 3) := by decide +kernel
theorem dX4_goBack_17 : decode cX4_goBack 17 = .ok (.iload_n 2, 1) := by decide +kernel
theorem dX4_goBack_18 : decode cX4_goBack 18 = .ok (.bipush 7, 2) := by decide +kernel
theorem dX4_goBack_20 : decode cX4_goBack 20 = .ok (.imul, 1) := by decide +kernel
theorem dX4_goBack_21 : decode cX4_goBack 21 = .ok (.iload 8, 2) := by decide +kernel
theorem dX4_goBack_23 : decode cX4_goBack 23 = .ok (.iadd, 1) := by decide +kernel
theorem dX4_goBack_24 : decode cX4_goBack 24 = .ok (.istore 9, 2) := by decide +kernel
theorem dX4_goBack_26 : decode cX4_goBack 26 = .ok (.iload_n 3, 1) := by decide +kernel
theorem dX4_goBack_27 : decode cX4_goBack 27 = .ok (.bipush 8, 2) := by decide +kernel
theorem dX4_goBack_29 : decode cX4_goBack 29 = .ok (.imul, 1) := by decide +kernel
theorem dX4_goBack_30 : decode cX4_goBack 30 = .ok (.aload_n 1, 1) := by decide +kernel
theorem dX4_goBack_31 : decode cX4_goBack 31 = .ok (.getfield 90, 3) := by decide +kernel
theorem dX4_goBack_34 : decode cX4_goBack 34 = .ok (.iload 8, 2) := by decide +kernel
theorem dX4_goBack_36 : decode cX4_goBack 36 = .ok (.iaload, 1) := by decide +kernel
theorem dX4_goBack_37 : decode cX4_goBack 37 = .ok (.iadd, 1) := by decide +kernel
theorem dX4_goBack_38 : decode cX4_goBack 38 = .ok (.istore 10, 2) := by decide +kernel
theorem dX4_goBack_40 : decode cX4_goBack 40 = .ok (.iload 6, 2) := by decide +kernel
theorem dX4_goBack_42 : decode cX4_goBack 42 = .ok (.ifCond .eq 37, 3) := by decide +kernel
theorem dX4_goBack_45 : decode cX4_goBack 45 = .ok (.aload_n 0, 1) := by decide +kernel
theorem dX4_goBack_46 : decode cX4_goBack 46 = .ok (.getfield 15, 3) := by decide +kernel
theorem dX4_goBack_49 : decode cX4_goBack 49 = .ok (.iload 9, 2) := by decide +kernel
theorem dX4_goBack_51 : decode cX4_goBack 51 = .ok (.iaload, 1) := by decide +kernel
theorem dX4_goBack_52 : decode cX4_goBack 52 = .ok (.aload_n 0, 1) := by decide +kernel
theorem dX4_goBack_53 : decode cX4_goBack 53 = .ok (.getfield 21, 3) := by decide +kernel
theorem dX4_goBack_56 : decode cX4_goBack 56 = .ok (.iload 10, 2) := by decide +kernel
theorem dX4_goBack_58 : decode cX4_goBack 58 = .ok (.iaload, 1) := by decide +kernel
theorem dX4_goBack_59 : decode cX4_goBack 59 = .ok (.if_icmp .le 20, 3) := by decide +kernel
theorem dX4_goBack_62 : decode cX4_goBack 62 = .ok (.aload_n 0, 1) := by decide +kernel
theorem dX4_goBack_63 : decode cX4_goBack 63 = .ok (.getfield 21, 3) := by decide +kernel
theorem dX4_goBack_66 : decode cX4_goBack 66 = .ok (.iload 10, 2) := by decide +kernel
theorem dX4_goBack_68 : decode cX4_goBack 68 = .ok (.aload_n 0, 1) := by decide +kernel
theorem dX4_goBack_69 : decode cX4_goBack 69 = .ok (.getfield 15, 3) := by decide +kernel
theorem dX4_goBack_72 : decode cX4_goBack 72 = .ok (.iload 9, 2) := by decide +kernel
theorem dX4_goBack_74 : decode cX4_goBack 74 = .ok (.iaload, 1) := by decide +kernel
theorem dX4_goBack_75 : decode cX4_goBack 75 = .ok (.iastore, 1) := by decide +kernel
theorem dX4_goBack_76 : decode cX4_goBack 76 = .ok (.iconst 1, 1) := by decide +kernel
theorem dX4_goBack_77 : decode cX4_goBack 77 = .ok (.istore 7, 2) := by decide +kernel
theorem dX4_goBack_79 : decode cX4_goBack 79 = .ok (.aload_n 0, 1) := by decide +kernel
theorem dX4_goBack_80 : decode cX4_goBack 80 = .ok (.iload_n 3, 1) := by decide +kernel
theorem dX4_goBack_81 : decode cX4_goBack 81 = .ok (.iconst 1, 1) := by decide +kernel
theorem dX4_goBack_82 : decode cX4_goBack 82 = .ok (.isub, 1) := by decide +kernel
theorem dX4_goBack_83 : decode cX4_goBack 83 = .ok (.aload_n 1, 1) := by decide +kernel
theorem dX4_goBack_84 : decode cX4_goBack 84 = .ok (.getfield 90, 3) := by decide +kernel
theorem dX4_goBack_87 : decode cX4_goBack 87 = .ok (.iload 8, 2) := by decide +kernel
theorem dX4_goBack_89 : decode cX4_goBack 89 = .ok (.iaload, 1) := by decide +kernel
theorem dX4_goBack_90 : decode cX4_goBack 90 = .ok (.aload_n 0, 1) := by decide +kernel
theorem dX4_goBack_91 : decode cX4_goBack 91 = .ok (.getfield 9, 3) := by decide +kernel
theorem dX4_goBack_94 : decode cX4_goBack 94 = .ok (.iload 9, 2) := by decide +kernel
theorem dX4_goBack_96 : decode cX4_goBack 96 = .ok (.iaload, 1) := by decide +kernel
theorem dX4_goBack_97 : decode cX4_goBack 97 = .ok (.iload 4, 2) := by decide +kernel
theorem dX4_goBack_99 : decode cX4_goBack 99 = .ok (.iload 5, 2) := by decide +kernel
theorem dX4_goBack_101 : decode cX4_goBack 101 = .ok (.invokevirtual 103, 3) := by decide +kernel
theorem dX4_goBack_104 : decode cX4_goBack 104 = .ok (.ifCond .eq 6, 3) := by decide +kernel
theorem dX4_goBack_107 : decode cX4_goBack 107 = .ok (.iconst 1, 1) := by decide +kernel
theorem dX4_goBack_108 : decode cX4_goBack 108 = .ok (.istore 6, 2) := by decide +kernel
theorem dX4_goBack_110 : decode cX4_goBack 110 = .ok (.iinc 8 (-1), 3) := by decide +kernel
theorem dX4_goBack_113 : decode cX4_goBack 113 = .ok (.goto (-101), 3) := by decide +kernel
theorem dX4_goBack_116 : decode cX4_goBack 116 = .ok (.iload 7, 2) := by decide +kernel
theorem dX4_goBack_118 : decode cX4_goBack 118 = .ok (.ireturn, 1) := by decide +kernel
theorem dX4_goesOnInTime_0 : decode cX4_goesOnInTime 0 = .ok (.iload_n 3, 1) := by decide +kernel
theorem dX4_goesOnInTime_1 : decode cX4_goesOnInTime 1 = .ok (.iconst (-1), 1) := by decide +kernel
theorem dX4_goesOnInTime_2 : decode cX4_goesOnInTime 2 = .ok (.if_icmp .ne 5, 3) := by decide +kernel
theorem dX4_goesOnInTime_5 : decode cX4_goesOnInTime 5 = .ok (.iconst 0, 1) := by decide +kernel
theorem dX4_goesOnInTime_6 : decode cX4_goesOnInTime 6 = .ok (.ireturn, 1) := by decide +kernel
theorem dX4_goesOnInTime_7 : decode cX4_goesOnInTime 7 = .ok (.iload_n 2, 1) := by decide +kernel
theorem dX4_goesOnInTime_8 : decode cX4_goesOnInTime 8 = .ok (.iload 4, 2) := by decide +kernel
theorem dX4_goesOnInTime_10 : decode cX4_goesOnInTime 10 = .ok (.if_icmp .ne 9, 3) := by decide +kernel
theorem dX4_goesOnInTime_13 : decode cX4_goesOnInTime 13 = .ok (.iload_n 3, 1) := by decide +kernel
theorem dX4_goesOnInTime_14 : decode cX4_goesOnInTime 14 = .ok (.iload 5, 2) := by decide +kernel
theorem dX4_goesOnInTime_16 : decode cX4_goesOnInTime 16 = .ok (.if_icmp .le 13, 3) := by decide +kernel
theorem dX4_goesOnInTime_19 : decode cX4_goesOnInTime 19 = .ok (.iload_n 3, 1) := by decide +kernel
theorem dX4_goesOnInTime_20 : decode cX4_goesOnInTime 20 = .ok (.aload_n 0, 1) := by decide +kernel
theorem dX4_goesOnInTime_21 : decode cX4_goesOnInTime 21 = .ok (.iload_n 2, 1) := by decide +kernel
theorem dX4_goesOnInTime_22 : decode cX4_goesOnInTime 22 = .ok (.iload_n 1, 1) := by decide +kernel
theorem dX4_goesOnInTime_23 : decode cX4_goesOnInTime 23 = .ok (.invokevirtual 107, 3) := by decide +kernel
theorem dX4_goesOnInTime_26 : decode cX4_goesOnInTime 26 = .ok (.if_icmp .ge 7, 3) := by decide +kernel
theorem dX4_goesOnInTime_29 : decode cX4_goesOnInTime 29 = .ok (.iconst 1, 1) := by decide +kernel
theorem dX4_goesOnInTime_30 : decode cX4_goesOnInTime 30 = .ok (.goto 4, 3) := by decide +kernel
theorem dX4_goesOnInTime_33 : decode cX4_goesOnInTime 33 = .ok (.iconst 0, 1) := by decide +kernel
theorem dX4_goesOnInTime_34 : decode cX4_goesOnInTime 34 = .ok (.ireturn, 1) := by decide +kernel
theorem dX4_latestFrom_0 : decode cX4_latestFrom 0 = .ok (.aload_n 0, 1) := by decide +kernel
theorem dX4_latestFrom_1 : decode cX4_latestFrom 1 = .ok (.getfield 21, 3) := by decide +kernel
theorem dX4_latestFrom_4 : decode cX4_latestFrom 4 = .ok (.iload_n 2, 1) := by decide +kernel
theorem dX4_latestFrom_5 : decode cX4_latestFrom 5 = .ok (.bipush 8, 2) := by decide +kernel
theorem dX4_latestFrom_7 : decode cX4_latestFrom 7 = .ok (.imul, 1) := by decide +kernel
theorem dX4_latestFrom_8 : decode cX4_latestFrom 8 = .ok (.iload_n 1, 1) := by decide +kernel
theorem dX4_latestFrom_9 : decode cX4_latestFrom 9 = .ok (.iadd, 1) := by decide +kernel
theorem dX4_latestFrom_10 : decode cX4_latestFrom 10 = .ok (.iaload, 1) := by decide +kernel
theorem dX4_latestFrom_11 : decode cX4_latestFrom 11 = .ok (.ireturn, 1) := by decide +kernel
theorem dX4_chooseRides_0 : decode cX4_chooseRides 0 = .ok (.iconst 1, 1) := by decide +kernel
theorem dX4_chooseRides_1 : decode cX4_chooseRides 1 = .ok (.istore 6, 2) := by decide +kernel
theorem dX4_chooseRides_3 : decode cX4_chooseRides 3 = .ok (.iload 6, 2) := by decide +kernel
theorem dX4_chooseRides_5 : decode cX4_chooseRides 5 = .ok (.aload_n 0, 1) := by decide +kernel
theorem dX4_chooseRides_6 : decode cX4_chooseRides 6 = .ok (.getfield 27, 3) := by decide +kernel
theorem dX4_chooseRides_9 : decode cX4_chooseRides 9 = .ok (.if_icmp .ge 21, 3) := by decide +kernel
theorem dX4_chooseRides_12 : decode cX4_chooseRides 12 = .ok (.aload_n 0, 1) := by decide +kernel
theorem dX4_chooseRides_13 : decode cX4_chooseRides 13 = .ok (.iload_n 2, 1) := by decide +kernel
theorem dX4_chooseRides_14 : decode cX4_chooseRides 14 = .ok (.iload 6, 2) := by decide +kernel
theorem dX4_chooseRides_16 : decode cX4_chooseRides 16 = .ok (.invokevirtual 107, 3) := by decide +kernel
theorem dX4_chooseRides_19 : decode cX4_chooseRides 19 = .ok (.iload 4, 2) := by decide +kernel
theorem dX4_chooseRides_21 : decode cX4_chooseRides 21 = .ok (.if_icmp .ge 9, 3) := by decide +kernel
theorem dX4_chooseRides_24 : decode cX4_chooseRides 24 = .ok (.iinc 6 1, 3) := by decide +kernel
theorem dX4_chooseRides_27 : decode cX4_chooseRides 27 = .ok (.goto (-24), 3) := by decide +kernel
theorem dX4_chooseRides_30 : decode cX4_chooseRides 30 = .ok (.aload_n 0, 1) := by decide +kernel
theorem dX4_chooseRides_31 : decode cX4_chooseRides 31 = .ok (.iconst 0, 1) := by decide +kernel
theorem dX4_chooseRides_32 : decode cX4_chooseRides 32 = .ok (.putfield 31, 3) := by decide +kernel
theorem dX4_chooseRides_35 : decode cX4_chooseRides 35 = .ok (.iload_n 2, 1) := by decide +kernel
theorem dX4_chooseRides_36 : decode cX4_chooseRides 36 = .ok (.istore 7, 2) := by decide +kernel
theorem dX4_chooseRides_38 : decode cX4_chooseRides 38 = .ok (.iload 4, 2) := by decide +kernel
theorem dX4_chooseRides_40 : decode cX4_chooseRides 40 = .ok (.istore 8, 2) := by decide +kernel
theorem dX4_chooseRides_42 : decode cX4_chooseRides 42 = .ok (.iload 6, 2) := by decide +kernel
theorem dX4_chooseRides_44 : decode cX4_chooseRides 44 = .ok (.iconst 1, 1) := by decide +kernel
theorem dX4_chooseRides_45 : decode cX4_chooseRides 45 = .ok (.isub, 1) := by decide +kernel
theorem dX4_chooseRides_46 : decode cX4_chooseRides 46 = .ok (.istore 9, 2) := by decide +kernel
theorem dX4_chooseRides_48 : decode cX4_chooseRides 48 = .ok (.iload 9, 2) := by decide +kernel
theorem dX4_chooseRides_50 : decode cX4_chooseRides 50 = .ok (.ifCond .lt 97, 3) := by decide +kernel
theorem dX4_chooseRides_53 : decode cX4_chooseRides 53 = .ok (.aload_n 0, 1) := by decide +kernel
theorem dX4_chooseRides_54 : decode cX4_chooseRides 54 = .ok (.aload_n 1, 1) := by decide +kernel
theorem dX4_chooseRides_55 : decode cX4_chooseRides 55 = .ok (.iload 7, 2) := by decide +kernel
theorem dX4_chooseRides_57 : decode cX4_chooseRides 57 = .ok (.iload 8, 2) := by decide +kernel
theorem dX4_chooseRides_59 : decode cX4_chooseRides 59 = .ok (.iload 9, 2) := by decide +kernel
theorem dX4_chooseRides_61 : decode cX4_chooseRides 61 = .ok (.iload_n 3, 1) := by decide +kernel
theorem dX4_chooseRides_62 : decode cX4_chooseRides 62 = .ok (.iload 5, 2) := by decide +kernel
theorem dX4_chooseRides_64 : decode cX4_chooseRides 64 = .ok (.invokevirtual 111, 3) := by decide +kernel
theorem dX4_chooseRides_67 : decode cX4_chooseRides 67 = .ok (.ifCond .ne 4, 3) := by decide +kernel
theorem dX4_chooseRides_70 : decode cX4_chooseRides 70 = .ok (.return_, 1) := by decide +kernel
theorem dX4_chooseRides_71 : decode cX4_chooseRides 71 = .ok (.aload_n 0, 1) := by decide +kernel
theorem dX4_chooseRides_72 : decode cX4_chooseRides 72 = .ok (.getfield 24, 3) := by decide +kernel
theorem dX4_chooseRides_75 : decode cX4_chooseRides 75 = .ok (.aload_n 0, 1) := by decide +kernel
theorem dX4_chooseRides_76 : decode cX4_chooseRides 76 = .ok (.getfield 31, 3) := by decide +kernel
theorem dX4_chooseRides_79 : decode cX4_chooseRides 79 = .ok (.iconst 3, 1) := by decide +kernel
theorem dX4_chooseRides_80 : decode cX4_chooseRides 80 = .ok (.imul, 1) := by decide +kernel
theorem dX4_chooseRides_81 : decode cX4_chooseRides 81 = .ok (.iaload, 1) := by decide +kernel
theorem dX4_chooseRides_82 : decode cX4_chooseRides 82 = .ok (.istore 10, 2) := by decide +kernel
theorem dX4_chooseRides_84 : decode cX4_chooseRides 84 = .ok (.aload_n 0, 1) := by decide +kernel
theorem dX4_chooseRides_85 : decode cX4_chooseRides 85 = .ok (.getfield 24, 3) := by decide +kernel
theorem dX4_chooseRides_88 : decode cX4_chooseRides 88 = .ok (.aload_n 0, 1) := by decide +kernel
theorem dX4_chooseRides_89 : decode cX4_chooseRides 89 = .ok (.getfield 31, 3) := by decide +kernel
theorem dX4_chooseRides_92 : decode cX4_chooseRides 92 = .ok (.iconst 3, 1) := by decide +kernel
theorem dX4_chooseRides_93 : decode cX4_chooseRides 93 = .ok (.imul, 1) := by decide +kernel
theorem dX4_chooseRides_94 : decode cX4_chooseRides 94 = .ok (.iconst 2, 1) := by decide +kernel
theorem dX4_chooseRides_95 : decode cX4_chooseRides 95 = .ok (.iadd, 1) := by decide +kernel
theorem dX4_chooseRides_96 : decode cX4_chooseRides 96 = .ok (.iaload, 1) := by decide +kernel
theorem dX4_chooseRides_97 : decode cX4_chooseRides 97 = .ok (.istore 11, 2) := by decide +kernel
theorem dX4_chooseRides_99 : decode cX4_chooseRides 99 = .ok (.aload_n 1, 1) := by decide +kernel
theorem dX4_chooseRides_100 : decode cX4_chooseRides 100 = .ok (.getfield 45, 3) := by decide +kernel
theorem dX4_chooseRides_103 : decode cX4_chooseRides 103 = .ok (.iload 10, 2) := by decide +kernel
theorem dX4_chooseRides_105 : decode cX4_chooseRides 105 = .ok (.aaload, 1) := by decide +kernel
theorem dX4_chooseRides_106 : decode cX4_chooseRides 106 = .ok (.getfield 90, 3) := by decide +kernel
theorem dX4_chooseRides_109 : decode cX4_chooseRides 109 = .ok (.iload 11, 2) := by decide +kernel
theorem dX4_chooseRides_111 : decode cX4_chooseRides 111 = .ok (.iaload, 1) := by decide +kernel
theorem dX4_chooseRides_112 : decode cX4_chooseRides 112 = .ok (.istore 7, 2) := by decide +kernel
theorem dX4_chooseRides_114 : decode cX4_chooseRides 114 = .ok (.aload_n 0, 1) := by decide +kernel
theorem dX4_chooseRides_115 : decode cX4_chooseRides 115 = .ok (.getfield 9, 3) := by decide +kernel
theorem dX4_chooseRides_118 : decode cX4_chooseRides 118 = .ok (.iload 10, 2) := by decide +kernel
theorem dX4_chooseRides_120 : decode cX4_chooseRides 120 = .ok (.bipush 7, 2) := by decide +kernel
theorem dX4_chooseRides_122 : decode cX4_chooseRides 122 = .ok (.imul, 1) := by decide +kernel
theorem dX4_chooseRides_123 : decode cX4_chooseRides 123 = .ok (.iload 11, 2) := by decide +kernel
theorem dX4_chooseRides_125 : decode cX4_chooseRides 125 = .ok (.iadd, 1) := by decide +kernel
theorem dX4_chooseRides_126 : decode cX4_chooseRides 126 = .ok (.iaload, 1) := by decide +kernel
theorem dX4_chooseRides_127 : decode cX4_chooseRides 127 = .ok (.iconst 1, 1) := by decide +kernel
theorem dX4_chooseRides_128 : decode cX4_chooseRides 128 = .ok (.iadd, 1) := by decide +kernel
theorem dX4_chooseRides_129 : decode cX4_chooseRides 129 = .ok (.istore 8, 2) := by decide +kernel
theorem dX4_chooseRides_131 : decode cX4_chooseRides 131 = .ok (.aload_n 0, 1) := by decide +kernel
theorem dX4_chooseRides_132 : decode cX4_chooseRides 132 = .ok (.dup, 1) := by decide +kernel
theorem dX4_chooseRides_133 : decode cX4_chooseRides 133 = .ok (.getfield 31, 3) := by decide +kernel
theorem dX4_chooseRides_136 : decode cX4_chooseRides 136 = .ok (.iconst 1, 1) := by decide +kernel
theorem dX4_chooseRides_137 : decode cX4_chooseRides 137 = .ok (.iadd, 1) := by decide +kernel
theorem dX4_chooseRides_138 : decode cX4_chooseRides 138 = .ok (.putfield 31, 3) := by decide +kernel
theorem dX4_chooseRides_141 : decode cX4_chooseRides 141 = .ok (.iinc 9 (-1), 3) := by decide +kernel
theorem dX4_chooseRides_144 : decode cX4_chooseRides 144 = .ok (.goto (-96), 3) := by decide +kernel
theorem dX4_chooseRides_147 : decode cX4_chooseRides 147 = .ok (.return_, 1) := by decide +kernel
theorem dX4_findRide_0 : decode cX4_findRide 0 = .ok (.iconst 0, 1) := by decide +kernel
theorem dX4_findRide_1 : decode cX4_findRide 1 = .ok (.istore 7, 2) := by decide +kernel
theorem dX4_findRide_3 : decode cX4_findRide 3 = .ok (.iload 7, 2) := by decide +kernel
theorem dX4_findRide_5 : decode cX4_findRide 5 = .ok (.aload_n 1, 1) := by decide +kernel
theorem dX4_findRide_6 : decode cX4_findRide 6 = .ok (.getfield 34, 3) := by decide +kernel
theorem dX4_findRide_9 : decode cX4_findRide 9 = .ok (.if_icmp .ge 102, 3) := by decide +kernel
theorem dX4_findRide_12 : decode cX4_findRide 12 = .ok (.aload_n 1, 1) := by decide +kernel
theorem dX4_findRide_13 : decode cX4_findRide 13 = .ok (.getfield 45, 3) := by decide +kernel
theorem dX4_findRide_16 : decode cX4_findRide 16 = .ok (.iload 7, 2) := by decide +kernel
theorem dX4_findRide_18 : decode cX4_findRide 18 = .ok (.aaload, 1) := by decide +kernel
theorem dX4_findRide_19 : decode cX4_findRide 19 = .ok (.astore 8, 2) := by decide +kernel
theorem dX4_findRide_21 : decode cX4_findRide 21 = .ok (.iconst 0, 1) := by decide +kernel
theorem dX4_findRide_22 : decode cX4_findRide 22 = .ok (.istore 9, 2) := by decide +kernel
theorem dX4_findRide_24 : decode cX4_findRide 24 = .ok (.iload 9, 2) := by decide +kernel
theorem dX4_findRide_26 : decode cX4_findRide 26 = .ok (.aload 8, 2) := by decide +kernel
theorem dX4_findRide_28 : decode cX4_findRide 28 = .ok (.getfield 69, 3) := by decide +kernel
theorem dX4_findRide_31 : decode cX4_findRide 31 = .ok (.if_icmp .ge 74, 3) := by decide +kernel
theorem dX4_findRide_34 : decode cX4_findRide 34 = .ok (.aload 8, 2) := by decide +kernel
theorem dX4_findRide_36 : decode cX4_findRide 36 = .ok (.getfield 90, 3) := by decide +kernel
theorem dX4_findRide_39 : decode cX4_findRide 39 = .ok (.iload 9, 2) := by decide +kernel
theorem dX4_findRide_41 : decode cX4_findRide 41 = .ok (.iaload, 1) := by decide +kernel
theorem dX4_findRide_42 : decode cX4_findRide 42 = .ok (.iload_n 2, 1) := by decide +kernel
theorem dX4_findRide_43 : decode cX4_findRide 43 = .ok (.if_icmp .ne 56, 3) := by decide +kernel
theorem dX4_findRide_46 : decode cX4_findRide 46 = .ok (.aload_n 0, 1) := by decide +kernel
theorem dX4_findRide_47 : decode cX4_findRide 47 = .ok (.getfield 15, 3) := by decide +kernel
theorem dX4_findRide_50 : decode cX4_findRide 50 = .ok (.iload 7, 2) := by decide +kernel
theorem dX4_findRide_52 : decode cX4_findRide 52 = .ok (.bipush 7, 2) := by decide +kernel
theorem dX4_findRide_54 : decode cX4_findRide 54 = .ok (.imul, 1) := by decide +kernel
theorem dX4_findRide_55 : decode cX4_findRide 55 = .ok (.iload 9, 2) := by decide +kernel
theorem dX4_findRide_57 : decode cX4_findRide 57 = .ok (.iadd, 1) := by decide +kernel
theorem dX4_findRide_58 : decode cX4_findRide 58 = .ok (.iaload, 1) := by decide +kernel
theorem dX4_findRide_59 : decode cX4_findRide 59 = .ok (.iload_n 3, 1) := by decide +kernel
theorem dX4_findRide_60 : decode cX4_findRide 60 = .ok (.if_icmp .lt 39, 3) := by decide +kernel
theorem dX4_findRide_63 : decode cX4_findRide 63 = .ok (.aload_n 0, 1) := by decide +kernel
theorem dX4_findRide_64 : decode cX4_findRide 64 = .ok (.aload 8, 2) := by decide +kernel
theorem dX4_findRide_66 : decode cX4_findRide 66 = .ok (.iload 7, 2) := by decide +kernel
theorem dX4_findRide_68 : decode cX4_findRide 68 = .ok (.iload 9, 2) := by decide +kernel
theorem dX4_findRide_70 : decode cX4_findRide 70 = .ok (.iload 4, 2) := by decide +kernel
theorem dX4_findRide_72 : decode cX4_findRide 72 = .ok (.iload 5, 2) := by decide +kernel
theorem dX4_findRide_74 : decode cX4_findRide 74 = .ok (.iload 6, 2) := by decide +kernel
theorem dX4_findRide_76 : decode cX4_findRide 76 = .ok (.invokevirtual 115, 3) := by decide +kernel
theorem dX4_findRide_79 : decode cX4_findRide 79 = .ok (.istore 10, 2) := by decide +kernel
theorem dX4_findRide_81 : decode cX4_findRide 81 = .ok (.iload 10, 2) := by decide +kernel
theorem dX4_findRide_83 : decode cX4_findRide 83 = .ok (.iconst (-1), 1) := by decide +kernel
theorem dX4_findRide_84 : decode cX4_findRide 84 = .ok (.if_icmp .eq 15, 3) := by decide +kernel
theorem dX4_findRide_87 : decode cX4_findRide 87 = .ok (.aload_n 0, 1) := by decide +kernel
theorem dX4_findRide_88 : decode cX4_findRide 88 = .ok (.iload 7, 2) := by decide +kernel
theorem dX4_findRide_90 : decode cX4_findRide 90 = .ok (.iload 9, 2) := by decide +kernel
theorem dX4_findRide_92 : decode cX4_findRide 92 = .ok (.iload 10, 2) := by decide +kernel
theorem dX4_findRide_94 : decode cX4_findRide 94 = .ok (.invokevirtual 119, 3) := by decide +kernel
theorem dX4_findRide_97 : decode cX4_findRide 97 = .ok (.iconst 1, 1) := by decide +kernel
theorem dX4_findRide_98 : decode cX4_findRide 98 = .ok (.ireturn, 1) := by decide +kernel
theorem dX4_findRide_99 : decode cX4_findRide 99 = .ok (.iinc 9 1, 3) := by decide +kernel
theorem dX4_findRide_102 : decode cX4_findRide 102 = .ok (.goto (-78), 3) := by decide +kernel
theorem dX4_findRide_105 : decode cX4_findRide 105 = .ok (.iinc 7 1, 3) := by decide +kernel
theorem dX4_findRide_108 : decode cX4_findRide 108 = .ok (.goto (-105), 3) := by decide +kernel
theorem dX4_findRide_111 : decode cX4_findRide 111 = .ok (.iconst 0, 1) := by decide +kernel
theorem dX4_findRide_112 : decode cX4_findRide 112 = .ok (.ireturn, 1) := by decide +kernel
theorem dX4_findAshore_0 : decode cX4_findAshore 0 = .ok (.iload_n 3, 1) := by decide +kernel
theorem dX4_findAshore_1 : decode cX4_findAshore 1 = .ok (.iconst 1, 1) := by decide +kernel
theorem dX4_findAshore_2 : decode cX4_findAshore 2 = .ok (.iadd, 1) := by decide +kernel
theorem dX4_findAshore_3 : decode cX4_findAshore 3 = .ok (.istore 7, 2) := by decide +kernel
theorem dX4_findAshore_5 : decode cX4_findAshore 5 = .ok (.iload 7, 2) := by decide +kernel
theorem dX4_findAshore_7 : decode cX4_findAshore 7 = .ok (.aload_n 1, 1) := by decide +kernel
theorem dX4_findAshore_8 : decode cX4_findAshore 8 = .ok (.getfield 69, 3) := by decide +kernel
theorem dX4_findAshore_11 : decode cX4_findAshore 11 = .ok (.if_icmp .gt 44, 3) := by decide +kernel
theorem dX4_findAshore_14 : decode cX4_findAshore 14 = .ok (.aload_n 0, 1) := by decide +kernel
theorem dX4_findAshore_15 : decode cX4_findAshore 15 = .ok (.iload 4, 2) := by decide +kernel
theorem dX4_findAshore_17 : decode cX4_findAshore 17 = .ok (.aload_n 1, 1) := by decide +kernel
theorem dX4_findAshore_18 : decode cX4_findAshore 18 = .ok (.getfield 90, 3) := by decide +kernel
theorem dX4_findAshore_21 : decode cX4_findAshore 21 = .ok (.iload 7, 2) := by decide +kernel
theorem dX4_findAshore_23 : decode cX4_findAshore 23 = .ok (.iaload, 1) := by decide +kernel
theorem dX4_findAshore_24 : decode cX4_findAshore 24 = .ok (.aload_n 0, 1) := by decide +kernel
theorem dX4_findAshore_25 : decode cX4_findAshore 25 = .ok (.getfield 9, 3) := by decide +kernel
theorem dX4_findAshore_28 : decode cX4_findAshore 28 = .ok (.iload_n 2, 1) := by decide +kernel
theorem dX4_findAshore_29 : decode cX4_findAshore 29 = .ok (.bipush 7, 2) := by decide +kernel
theorem dX4_findAshore_31 : decode cX4_findAshore 31 = .ok (.imul, 1) := by decide +kernel
theorem dX4_findAshore_32 : decode cX4_findAshore 32 = .ok (.iload 7, 2) := by decide +kernel
theorem dX4_findAshore_34 : decode cX4_findAshore 34 = .ok (.iadd, 1) := by decide +kernel
theorem dX4_findAshore_35 : decode cX4_findAshore 35 = .ok (.iaload, 1) := by decide +kernel
theorem dX4_findAshore_36 : decode cX4_findAshore 36 = .ok (.iload 5, 2) := by decide +kernel
theorem dX4_findAshore_38 : decode cX4_findAshore 38 = .ok (.iload 6, 2) := by decide +kernel
theorem dX4_findAshore_40 : decode cX4_findAshore 40 = .ok (.invokevirtual 103, 3) := by decide +kernel
theorem dX4_findAshore_43 : decode cX4_findAshore 43 = .ok (.ifCond .eq 6, 3) := by decide +kernel
theorem dX4_findAshore_46 : decode cX4_findAshore 46 = .ok (.iload 7, 2) := by decide +kernel
theorem dX4_findAshore_48 : decode cX4_findAshore 48 = .ok (.ireturn, 1) := by decide +kernel
theorem dX4_findAshore_49 : decode cX4_findAshore 49 = .ok (.iinc 7 1, 3) := by decide +kernel
theorem dX4_findAshore_52 : decode cX4_findAshore 52 = .ok (.goto (-47), 3) := by decide +kernel
theorem dX4_findAshore_55 : decode cX4_findAshore 55 = .ok (.iconst (-1), 1) := by decide +kernel
theorem dX4_findAshore_56 : decode cX4_findAshore 56 = .ok (.ireturn, 1) := by decide +kernel
theorem dX4_noteRide_0 : decode cX4_noteRide 0 = .ok (.aload_n 0, 1) := by decide +kernel
theorem dX4_noteRide_1 : decode cX4_noteRide 1 = .ok (.getfield 24, 3) := by decide +kernel
theorem dX4_noteRide_4 : decode cX4_noteRide 4 = .ok (.aload_n 0, 1) := by decide +kernel
theorem dX4_noteRide_5 : decode cX4_noteRide 5 = .ok (.getfield 31, 3) := by decide +kernel
theorem dX4_noteRide_8 : decode cX4_noteRide 8 = .ok (.iconst 3, 1) := by decide +kernel
theorem dX4_noteRide_9 : decode cX4_noteRide 9 = .ok (.imul, 1) := by decide +kernel
theorem dX4_noteRide_10 : decode cX4_noteRide 10 = .ok (.iload_n 1, 1) := by decide +kernel
theorem dX4_noteRide_11 : decode cX4_noteRide 11 = .ok (.iastore, 1) := by decide +kernel
theorem dX4_noteRide_12 : decode cX4_noteRide 12 = .ok (.aload_n 0, 1) := by decide +kernel
theorem dX4_noteRide_13 : decode cX4_noteRide 13 = .ok (.getfield 24, 3) := by decide +kernel
theorem dX4_noteRide_16 : decode cX4_noteRide 16 = .ok (.aload_n 0, 1) := by decide +kernel
theorem dX4_noteRide_17 : decode cX4_noteRide 17 = .ok (.getfield 31, 3) := by decide +kernel
theorem dX4_noteRide_20 : decode cX4_noteRide 20 = .ok (.iconst 3, 1) := by decide +kernel
theorem dX4_noteRide_21 : decode cX4_noteRide 21 = .ok (.imul, 1) := by decide +kernel
theorem dX4_noteRide_22 : decode cX4_noteRide 22 = .ok (.iconst 1, 1) := by decide +kernel
theorem dX4_noteRide_23 : decode cX4_noteRide 23 = .ok (.iadd, 1) := by decide +kernel
theorem dX4_noteRide_24 : decode cX4_noteRide 24 = .ok (.iload_n 2, 1) := by decide +kernel
theorem dX4_noteRide_25 : decode cX4_noteRide 25 = .ok (.iastore, 1) := by decide +kernel
theorem dX4_noteRide_26 : decode cX4_noteRide 26 = .ok (.aload_n 0, 1) := by decide +kernel
theorem dX4_noteRide_27 : decode cX4_noteRide 27 = .ok (.getfield 24, 3) := by decide +kernel
theorem dX4_noteRide_30 : decode cX4_noteRide 30 = .ok (.aload_n 0, 1) := by decide +kernel
theorem dX4_noteRide_31 : decode cX4_noteRide 31 = .ok (.getfield 31, 3) := by decide +kernel
theorem dX4_noteRide_34 : decode cX4_noteRide 34 = .ok (.iconst 3, 1) := by decide +kernel
theorem dX4_noteRide_35 : decode cX4_noteRide 35 = .ok (.imul, 1) := by decide +kernel
theorem dX4_noteRide_36 : decode cX4_noteRide 36 = .ok (.iconst 2, 1) := by decide +kernel
theorem dX4_noteRide_37 : decode cX4_noteRide 37 = .ok (.iadd, 1) := by decide +kernel
theorem dX4_noteRide_38 : decode cX4_noteRide 38 = .ok (.iload_n 3, 1) := by decide +kernel
theorem dX4_noteRide_39 : decode cX4_noteRide 39 = .ok (.iastore, 1) := by decide +kernel
theorem dX4_noteRide_40 : decode cX4_noteRide 40 = .ok (.return_, 1) := by decide +kernel
theorem dX5_init_0 : decode cX5_init 0 = .ok (.aload_n 0, 1) := by decide +kernel
theorem dX5_init_1 : decode cX5_init 1 = .ok (.invokespecial 3, 3) := by decide +kernel
theorem dX5_init_4 : decode cX5_init 4 = .ok (.aload_n 0, 1) := by decide +kernel
theorem dX5_init_5 : decode cX5_init 5 = .ok (.iconst 0, 1) := by decide +kernel
theorem dX5_init_6 : decode cX5_init 6 = .ok (.putfield 9, 3) := by decide +kernel
theorem dX5_init_9 : decode cX5_init 9 = .ok (.aload_n 0, 1) := by decide +kernel
theorem dX5_init_10 : decode cX5_init 10 = .ok (.iconst (-1), 1) := by decide +kernel
theorem dX5_init_11 : decode cX5_init 11 = .ok (.putfield 15, 3) := by decide +kernel
theorem dX5_init_14 : decode cX5_init 14 = .ok (.return_, 1) := by decide +kernel
theorem dX5_read_0 : decode cX5_read 0 = .ok (.aload_n 0, 1) := by decide +kernel
theorem dX5_read_1 : decode cX5_read 1 = .ok (.aload_n 1, 1) := by decide +kernel
theorem dX5_read_2 : decode cX5_read 2 = .ok (.putfield 18, 3) := by decide +kernel
theorem dX5_read_5 : decode cX5_read 5 = .ok (.aload_n 0, 1) := by decide +kernel
theorem dX5_read_6 : decode cX5_read 6 = .ok (.iload_n 2, 1) := by decide +kernel
theorem dX5_read_7 : decode cX5_read 7 = .ok (.aload_n 1, 1) := by decide +kernel
theorem dX5_read_8 : decode cX5_read 8 = .ok (.arraylength, 1) := by decide +kernel
theorem dX5_read_9 : decode cX5_read 9 = .ok (.invokestatic 22, 3) := by decide +kernel
theorem dX5_read_12 : decode cX5_read 12 = .ok (.putfield 28, 3) := by decide +kernel
theorem dX5_read_15 : decode cX5_read 15 = .ok (.aload_n 0, 1) := by decide +kernel
theorem dX5_read_16 : decode cX5_read 16 = .ok (.iconst 0, 1) := by decide +kernel
theorem dX5_read_17 : decode cX5_read 17 = .ok (.putfield 31, 3) := by decide +kernel
theorem dX5_read_20 : decode cX5_read 20 = .ok (.aload_n 0, 1) := by decide +kernel
theorem dX5_read_21 : decode cX5_read 21 = .ok (.aload_n 3, 1) := by decide +kernel
theorem dX5_read_22 : decode cX5_read 22 = .ok (.putfield 34, 3) := by decide +kernel
theorem dX5_read_25 : decode cX5_read 25 = .ok (.aload_n 0, 1) := by decide +kernel
theorem dX5_read_26 : decode cX5_read 26 = .ok (.getfield 34, 3) := by decide +kernel
theorem dX5_read_29 : decode cX5_read 29 = .ok (.invokevirtual 38, 3) := by decide +kernel
theorem dX5_read_32 : decode cX5_read 32 = .ok (.aload_n 0, 1) := by decide +kernel
theorem dX5_read_33 : decode cX5_read 33 = .ok (.iconst 0, 1) := by decide +kernel
theorem dX5_read_34 : decode cX5_read 34 = .ok (.putfield 9, 3) := by decide +kernel
theorem dX5_read_37 : decode cX5_read 37 = .ok (.aload_n 0, 1) := by decide +kernel
theorem dX5_read_38 : decode cX5_read 38 = .ok (.iconst (-1), 1) := by decide +kernel
theorem dX5_read_39 : decode cX5_read 39 = .ok (.putfield 15, 3) := by decide +kernel
theorem dX5_read_42 : decode cX5_read 42 = .ok (.aload_n 0, 1) := by decide +kernel
theorem dX5_read_43 : decode cX5_read 43 = .ok (.getfield 28, 3) := by decide +kernel
theorem dX5_read_46 : decode cX5_read 46 = .ok (.ifCond .le 7, 3) := by decide +kernel
theorem dX5_read_49 : decode cX5_read 49 = .ok (.iconst 1, 1) := by decide +kernel
theorem dX5_read_50 : decode cX5_read 50 = .ok (.goto 4, 3) := by decide +kernel
theorem dX5_read_53 : decode cX5_read 53 = .ok (.iconst 0, 1) := by decide +kernel
theorem dX5_read_54 : decode cX5_read 54 = .ok (.istore 4, 2) := by decide +kernel
theorem dX5_read_56 : decode cX5_read 56 = .ok (.iconst 0, 1) := by decide +kernel
theorem dX5_read_57 : decode cX5_read 57 = .ok (.istore 5, 2) := by decide +kernel
theorem dX5_read_59 : decode cX5_read 59 = .ok (.iload 5, 2) := by decide +kernel
theorem dX5_read_61 : decode cX5_read 61 = .ok (.bipush 12, 2) := by decide +kernel
theorem dX5_read_63 : decode cX5_read 63 = .ok (.if_icmp .gt 56, 3) := by decide +kernel
theorem dX5_read_66 : decode cX5_read 66 = .ok (.iload 4, 2) := by decide +kernel
theorem dX5_read_68 : decode cX5_read 68 = .ok (.ifCond .eq 51, 3) := by decide +kernel
theorem dX5_read_71 : decode cX5_read 71 = .ok (.aload_n 0, 1) := by decide +kernel
theorem dX5_read_72 : decode cX5_read 72 = .ok (.iload 5, 2) := by decide +kernel
theorem dX5_read_74 : decode cX5_read 74 = .ok (.invokevirtual 43, 3) := by decide +kernel
theorem dX5_read_77 : decode cX5_read 77 = .ok (.ifCond .ne 5, 3) := by decide +kernel
theorem dX5_read_80 : decode cX5_read 80 = .ok (.iconst 0, 1) := by decide +kernel
theorem dX5_read_81 : decode cX5_read 81 = .ok (.ireturn, 1) := by decide +kernel
theorem dX5_read_82 : decode cX5_read 82 = .ok (.aload_n 0, 1) := by decide +kernel
theorem dX5_read_83 : decode cX5_read 83 = .ok (.invokevirtual 47, 3) := by decide +kernel
theorem dX5_read_86 : decode cX5_read 86 = .ok (.iconst (-1), 1) := by decide +kernel
theorem dX5_read_87 : decode cX5_read 87 = .ok (.if_icmp .eq 7, 3) := by decide +kernel
theorem dX5_read_90 : decode cX5_read 90 = .ok (.iconst 1, 1) := by decide +kernel
theorem dX5_read_91 : decode cX5_read 91 = .ok (.goto 4, 3) := by decide +kernel
theorem dX5_read_94 : decode cX5_read 94 = .ok (.iconst 0, 1) := by decide +kernel
theorem dX5_read_95 : decode cX5_read 95 = .ok (.istore 4, 2) := by decide +kernel
theorem dX5_read_97 : decode cX5_read 97 = .ok (.iload 4, 2) := by decide +kernel
theorem dX5_read_99 : decode cX5_read 99 = .ok (.ifCond .eq 14, 3) := by decide +kernel
theorem dX5_read_102 : decode cX5_read 102 = .ok (.aload_n 0, 1) := by decide +kernel
theorem dX5_read_103 : decode cX5_read 103 = .ok (.bipush 59, 2) := by decide +kernel
theorem dX5_read_105 : decode cX5_read 105 = .ok (.invokevirtual 51, 3) := by decide +kernel
theorem dX5_read_108 : decode cX5_read 108 = .ok (.ifCond .ne 5, 3) := by decide +kernel
theorem dX5_read_111 : decode cX5_read 111 = .ok (.iconst 0, 1) := by decide +kernel
theorem dX5_read_112 : decode cX5_read 112 = .ok (.ireturn, 1) := by decide +kernel
theorem dX5_read_113 : decode cX5_read 113 = .ok (.iinc 5 1, 3) := by decide +kernel
theorem dX5_read_116 : decode cX5_read 116 = .ok (.goto (-57), 3) := by decide +kernel
theorem dX5_read_119 : decode cX5_read 119 = .ok (.iconst 1, 1) := by decide +kernel
theorem dX5_read_120 : decode cX5_read 120 = .ok (.ireturn, 1) := by decide +kernel
theorem dX5_readClause_0 : decode cX5_readClause 0 = .ok (.aload_n 0, 1) := by decide +kernel
theorem dX5_readClause_1 : decode cX5_readClause 1 = .ok (.invokevirtual 47, 3) := by decide +kernel
theorem dX5_readClause_4 : decode cX5_readClause 4 = .ok (.istore_n 2, 1) := by decide +kernel
theorem dX5_readClause_5 : decode cX5_readClause 5 = .ok (.iload_n 2, 1) := by decide +kernel
theorem dX5_readClause_6 : decode cX5_readClause 6 = .ok (.bipush 87, 2) := by decide +kernel
theorem dX5_readClause_8 : decode cX5_readClause 8 = .ok (.if_icmp .eq 21, 3) := by decide +kernel
theorem dX5_readClause_11 : decode cX5_readClause 11 = .ok (.iload_n 2, 1) := by decide +kernel
theorem dX5_readClause_12 : decode cX5_readClause 12 = .ok (.bipush 88, 2) := by decide +kernel
theorem dX5_readClause_14 : decode cX5_readClause 14 = .ok (.if_icmp .eq 15, 3) := by decide +kernel
theorem dX5_readClause_17 : decode cX5_readClause 17 = .ok (.iload_n 2, 1) := by decide +kernel
theorem dX5_readClause_18 : decode cX5_readClause 18 = .ok (.bipush 80, 2) := by decide +kernel
theorem dX5_readClause_20 : decode cX5_readClause 20 = .ok (.if_icmp .eq 9, 3) := by decide +kernel
theorem dX5_readClause_23 : decode cX5_readClause 23 = .ok (.aload_n 0, 1) := by decide +kernel
theorem dX5_readClause_24 : decode cX5_readClause 24 = .ok (.iconst 1, 1) := by decide +kernel
theorem dX5_readClause_25 : decode cX5_readClause 25 = .ok (.invokevirtual 54, 3) := by decide +kernel
theorem dX5_readClause_28 : decode cX5_readClause 28 = .ok (.ireturn, 1) := by decide +kernel
theorem dX5_readClause_29 : decode cX5_readClause 29 = .ok (.iload_n 1, 1) := by decide +kernel
theorem dX5_readClause_30 : decode cX5_readClause 30 = .ok (.bipush 12, 2) := by decide +kernel
theorem dX5_readClause_32 : decode cX5_readClause 32 = .ok (.if_icmp .lt 9, 3) := by decide +kernel
theorem dX5_readClause_35 : decode cX5_readClause 35 = .ok (.aload_n 0, 1) := by decide +kernel
theorem dX5_readClause_36 : decode cX5_readClause 36 = .ok (.iconst 2, 1) := by decide +kernel
theorem dX5_readClause_37 : decode cX5_readClause 37 = .ok (.invokevirtual 54, 3) := by decide +kernel
theorem dX5_readClause_40 : decode cX5_readClause 40 = .ok (.ireturn, 1) := by decide +kernel
theorem dX5_readClause_41 : decode cX5_readClause 41 = .ok (.aload_n 0, 1) := by decide +kernel
theorem dX5_readClause_42 : decode cX5_readClause 42 = .ok (.dup, 1) := by decide +kernel
theorem dX5_readClause_43 : decode cX5_readClause 43 = .ok (.getfield 31, 3) := by decide +kernel
theorem dX5_readClause_46 : decode cX5_readClause 46 = .ok (.iconst 1, 1) := by decide +kernel
theorem dX5_readClause_47 : decode cX5_readClause 47 = .ok (.iadd, 1) := by decide +kernel
theorem dX5_readClause_48 : decode cX5_readClause 48 = .ok (.putfield 31, 3) := by decide +kernel
theorem dX5_readClause_51 : decode cX5_readClause 51 = .ok (.aload_n 0, 1) := by decide +kernel
theorem dX5_readClause_52 : decode cX5_readClause 52 = .ok (.iconst 0, 1) := by decide +kernel
theorem dX5_readClause_53 : decode cX5_readClause 53 = .ok (.putfield 57, 3) := by decide +kernel
theorem dX5_readClause_56 : decode cX5_readClause 56 = .ok (.iload_n 2, 1) := by decide +kernel
theorem dX5_readClause_57 : decode cX5_readClause 57 = .ok (.bipush 88, 2) := by decide +kernel
theorem dX5_readClause_59 : decode cX5_readClause 59 = .ok (.if_icmp .eq 13, 3) := by decide +kernel
theorem dX5_readClause_62 : decode cX5_readClause 62 = .ok (.aload_n 0, 1) := by decide +kernel
theorem dX5_readClause_63 : decode cX5_readClause 63 = .ok (.iconst 0, 1) := by decide +kernel
theorem dX5_readClause_64 : decode cX5_readClause 64 = .ok (.invokevirtual 60, 3) := by decide +kernel
theorem dX5_readClause_67 : decode cX5_readClause 67 = .ok (.ifCond .ne 5, 3) := by decide +kernel
theorem dX5_readClause_70 : decode cX5_readClause 70 = .ok (.iconst 0, 1) := by decide +kernel
theorem dX5_readClause_71 : decode cX5_readClause 71 = .ok (.ireturn, 1) := by decide +kernel
theorem dX5_readClause_72 : decode cX5_readClause 72 = .ok (.aload_n 0, 1) := by decide +kernel
theorem dX5_readClause_73 : decode cX5_readClause 73 = .ok (.getfield 57, 3) := by decide +kernel
theorem dX5_readClause_76 : decode cX5_readClause 76 = .ok (.istore_n 3, 1) := by decide +kernel
theorem dX5_readClause_77 : decode cX5_readClause 77 = .ok (.iload_n 2, 1) := by decide +kernel
theorem dX5_readClause_78 : decode cX5_readClause 78 = .ok (.bipush 80, 2) := by decide +kernel
theorem dX5_readClause_80 : decode cX5_readClause 80 = .ok (.if_icmp .eq 22, 3) := by decide +kernel
theorem dX5_readClause_83 : decode cX5_readClause 83 = .ok (.aload_n 0, 1) := by decide +kernel
theorem dX5_readClause_84 : decode cX5_readClause 84 = .ok (.bipush 58, 2) := by decide +kernel
theorem dX5_readClause_86 : decode cX5_readClause 86 = .ok (.invokevirtual 51, 3) := by decide +kernel
theorem dX5_readClause_89 : decode cX5_readClause 89 = .ok (.ifCond .eq 11, 3) := by decide +kernel
theorem dX5_readClause_92 : decode cX5_readClause 92 = .ok (.aload_n 0, 1) := by decide +kernel
theorem dX5_readClause_93 : decode cX5_readClause 93 = .ok (.iconst 0, 1) := by decide +kernel
theorem dX5_readClause_94 : decode cX5_readClause 94 = .ok (.invokevirtual 64, 3) := by decide +kernel
theorem dX5_readClause_97 : decode cX5_readClause 97 = .ok (.ifCond .ne 5, 3) := by decide +kernel
theorem dX5_readClause_100 : decode cX5_readClause 100 = .ok (.iconst 0, 1) := by decide +kernel
theorem dX5_readClause_101 : decode cX5_readClause 101 = .ok (.ireturn, 1) := by decide +kernel
theorem dX5_readClause_102 : decode cX5_readClause 102 = .ok (.aload_n 0, 1) := by decide +kernel
theorem dX5_readClause_103 : decode cX5_readClause 103 = .ok (.getfield 34, 3) := by decide +kernel
theorem dX5_readClause_106 : decode cX5_readClause 106 = .ok (.iload_n 2, 1) := by decide +kernel
theorem dX5_readClause_107 : decode cX5_readClause 107 = .ok (.iload_n 3, 1) := by decide +kernel
theorem dX5_readClause_108 : decode cX5_readClause 108 = .ok (.invokevirtual 67, 3) := by decide +kernel
theorem dX5_readClause_111 : decode cX5_readClause 111 = .ok (.iconst 1, 1) := by decide +kernel
theorem dX5_readClause_112 : decode cX5_readClause 112 = .ok (.ireturn, 1) := by decide +kernel
theorem dX5_readTest_0 : decode cX5_readTest 0 = .ok (.aload_n 0, 1) := by decide +kernel
theorem dX5_readTest_1 : decode cX5_readTest 1 = .ok (.iload_n 1, 1) := by decide +kernel
theorem dX5_readTest_2 : decode cX5_readTest 2 = .ok (.invokevirtual 71, 3) := by decide +kernel
theorem dX5_readTest_5 : decode cX5_readTest 5 = .ok (.ifCond .ne 5, 3) := by decide +kernel
theorem dX5_readTest_8 : decode cX5_readTest 8 = .ok (.iconst 0, 1) := by decide +kernel
theorem dX5_readTest_9 : decode cX5_readTest 9 = .ok (.ireturn, 1) := by decide +kernel
theorem dX5_readTest_10 : decode cX5_readTest 10 = .ok (.iconst 0, 1) := by decide +kernel
theorem dX5_readTest_11 : decode cX5_readTest 11 = .ok (.istore_n 2, 1) := by decide +kernel
theorem dX5_readTest_12 : decode cX5_readTest 12 = .ok (.iload_n 2, 1) := by decide +kernel
theorem dX5_readTest_13 : decode cX5_readTest 13 = .ok (.sipush 200, 3) := by decide +kernel
theorem dX5_readTest_16 : decode cX5_readTest 16 = .ok (.if_icmp .ge 49, 3) := by decide +kernel
theorem dX5_readTest_19 : decode cX5_readTest 19 = .ok (.aload_n 0, 1) := by decide +kernel
theorem dX5_readTest_20 : decode cX5_readTest 20 = .ok (.invokevirtual 47, 3) := by decide +kernel
theorem dX5_readTest_23 : decode cX5_readTest 23 = .ok (.bipush 124, 2) := by decide +kernel
theorem dX5_readTest_25 : decode cX5_readTest 25 = .ok (.if_icmp .ne 40, 3) := by decide +kernel
theorem dX5_readTest_28 : decode cX5_readTest 28 = .ok (.aload_n 0, 1) := by decide +kernel
theorem dX5_readTest_29 : decode cX5_readTest 29 = .ok (.dup, 1) := by decide +kernel
theorem dX5_readTest_30 : decode cX5_readTest 30 = .ok (.getfield 31, 3) := by decide +kernel
theorem dX5_readTest_33 : decode cX5_readTest 33 = .ok (.iconst 1, 1) := by decide +kernel
theorem dX5_readTest_34 : decode cX5_readTest 34 = .ok (.iadd, 1) := by decide +kernel
theorem dX5_readTest_35 : decode cX5_readTest 35 = .ok (.putfield 31, 3) := by decide +kernel
theorem dX5_readTest_38 : decode cX5_readTest 38 = .ok (.aload_n 0, 1) := by decide +kernel
theorem dX5_readTest_39 : decode cX5_readTest 39 = .ok (.iload_n 1, 1) := by decide +kernel
theorem dX5_readTest_40 : decode cX5_readTest 40 = .ok (.invokevirtual 71, 3) := by decide +kernel
theorem dX5_readTest_43 : decode cX5_readTest 43 = .ok (.ifCond .ne 5, 3) := by decide +kernel
theorem dX5_readTest_46 : decode cX5_readTest 46 = .ok (.iconst 0, 1) := by decide +kernel
theorem dX5_readTest_47 : decode cX5_readTest 47 = .ok (.ireturn, 1) := by decide +kernel
theorem dX5_readTest_48 : decode cX5_readTest 48 = .ok (.aload_n 0, 1) := by decide +kernel
theorem dX5_readTest_49 : decode cX5_readTest 49 = .ok (.getfield 34, 3) := by decide +kernel
theorem dX5_readTest_52 : decode cX5_readTest 52 = .ok (.bipush 124, 2) := by decide +kernel
theorem dX5_readTest_54 : decode cX5_readTest 54 = .ok (.iconst 0, 1) := by decide +kernel
theorem dX5_readTest_55 : decode cX5_readTest 55 = .ok (.iconst 0, 1) := by decide +kernel
theorem dX5_readTest_56 : decode cX5_readTest 56 = .ok (.invokevirtual 74, 3) := by decide +kernel
theorem dX5_readTest_59 : decode cX5_readTest 59 = .ok (.iinc 2 1, 3) := by decide +kernel
theorem dX5_readTest_62 : decode cX5_readTest 62 = .ok (.goto (-50), 3) := by decide +kernel
theorem dX5_readTest_65 : decode cX5_readTest 65 = .ok (.iconst 1, 1) := by decide +kernel
theorem dX5_readTest_66 : decode cX5_readTest 66 = .ok (.ireturn, 1) := by decide +kernel
theorem dX5_readTerm_0 : decode cX5_readTerm 0 = .ok (.aload_n 0, 1) := by decide +kernel
theorem dX5_readTerm_1 : decode cX5_readTerm 1 = .ok (.iload_n 1, 1) := by decide +kernel
theorem dX5_readTerm_2 : decode cX5_readTerm 2 = .ok (.invokevirtual 78, 3) := by decide +kernel
theorem dX5_readTerm_5 : decode cX5_readTerm 5 = .ok (.ifCond .ne 5, 3) := by decide +kernel
theorem dX5_readTerm_8 : decode cX5_readTerm 8 = .ok (.iconst 0, 1) := by decide +kernel
theorem dX5_readTerm_9 : decode cX5_readTerm 9 = .ok (.ireturn, 1) := by decide +kernel
theorem dX5_readTerm_10 : decode cX5_readTerm 10 = .ok (.iconst 0, 1) := by decide +kernel
theorem dX5_readTerm_11 : decode cX5_readTerm 11 = .ok (.istore_n 2, 1) := by decide +kernel
theorem dX5_readTerm_12 : decode cX5_readTerm 12 = .ok (.iload_n 2, 1) := by decide +kernel
theorem dX5_readTerm_13 : decode cX5_readTerm 13 = .ok (.sipush 200, 3) := by decide +kernel
theorem dX5_readTerm_16 : decode cX5_readTerm 16 = .ok (.if_icmp .ge 49, 3) := by decide +kernel
theorem dX5_readTerm_19 : decode cX5_readTerm 19 = .ok (.aload_n 0, 1) := by decide +kernel
theorem dX5_readTerm_20 : decode cX5_readTerm 20 = .ok (.invokevirtual 47, 3) := by decide +kernel
theorem dX5_readTerm_23 : decode cX5_readTerm 23 = .ok (.bipush 38, 2) := by decide +kernel
theorem dX5_readTerm_25 : decode cX5_readTerm 25 = .ok (.if_icmp .ne 40, 3) := by decide +kernel
theorem dX5_readTerm_28 : decode cX5_readTerm 28 = .ok (.aload_n 0, 1) := by decide +kernel
theorem dX5_readTerm_29 : decode cX5_readTerm 29 = .ok (.dup, 1) := by decide +kernel
theorem dX5_readTerm_30 : decode cX5_readTerm 30 = .ok (.getfield 31, 3) := by decide +kernel
theorem dX5_readTerm_33 : decode cX5_readTerm 33 = .ok (.iconst 1, 1) := by decide +kernel
theorem dX5_readTerm_34 : decode cX5_readTerm 34 = .ok (.iadd, 1) := by decide +kernel
theorem dX5_readTerm_35 : decode cX5_readTerm 35 = .ok (.putfield 31, 3) := by decide +kernel
theorem dX5_readTerm_38 : decode cX5_readTerm 38 = .ok (.aload_n 0, 1) := by decide +kernel
theorem dX5_readTerm_39 : decode cX5_readTerm 39 = .ok (.iload_n 1, 1) := by decide +kernel
theorem dX5_readTerm_40 : decode cX5_readTerm 40 = .ok (.invokevirtual 78, 3) := by decide +kernel
theorem dX5_readTerm_43 : decode cX5_readTerm 43 = .ok (.ifCond .ne 5, 3) := by decide +kernel
theorem dX5_readTerm_46 : decode cX5_readTerm 46 = .ok (.iconst 0, 1) := by decide +kernel
theorem dX5_readTerm_47 : decode cX5_readTerm 47 = .ok (.ireturn, 1) := by decide +kernel
theorem dX5_readTerm_48 : decode cX5_readTerm 48 = .ok (.aload_n 0, 1) := by decide +kernel
theorem dX5_readTerm_49 : decode cX5_readTerm 49 = .ok (.getfield 34, 3) := by decide +kernel
theorem dX5_readTerm_52 : decode cX5_readTerm 52 = .ok (.bipush 38, 2) := by decide +kernel
theorem dX5_readTerm_54 : decode cX5_readTerm 54 = .ok (.iconst 0, 1) := by decide +kernel
theorem dX5_readTerm_55 : decode cX5_readTerm 55 = .ok (.iconst 0, 1) := by decide +kernel
theorem dX5_readTerm_56 : decode cX5_readTerm 56 = .ok (.invokevirtual 74, 3) := by decide +kernel
theorem dX5_readTerm_59 : decode cX5_readTerm 59 = .ok (.iinc 2 1, 3) := by decide +kernel
theorem dX5_readTerm_62 : decode cX5_readTerm 62 = .ok (.goto (-50), 3) := by decide +kernel
theorem dX5_readTerm_65 : decode cX5_readTerm 65 = .ok (.iconst 1, 1) := by decide +kernel
theorem dX5_readTerm_66 : decode cX5_readTerm 66 = .ok (.ireturn, 1) := by decide +kernel
theorem dX5_readFactor_0 : decode cX5_readFactor 0 = .ok (.aload_n 0, 1) := by decide +kernel
theorem dX5_readFactor_1 : decode cX5_readFactor 1 = .ok (.invokevirtual 47, 3) := by decide +kernel
theorem dX5_readFactor_4 : decode cX5_readFactor 4 = .ok (.istore_n 2, 1) := by decide +kernel
theorem dX5_readFactor_5 : decode cX5_readFactor 5 = .ok (.iload_n 2, 1) := by decide +kernel
theorem dX5_readFactor_6 : decode cX5_readFactor 6 = .ok (.bipush 33, 2) := by decide +kernel
theorem dX5_readFactor_8 : decode cX5_readFactor 8 = .ok (.if_icmp .eq 54, 3) := by decide +kernel
theorem dX5_readFactor_11 : decode cX5_readFactor 11 = .ok (.iload_n 2, 1) := by decide +kernel
theorem dX5_readFactor_12 : decode cX5_readFactor 12 = .ok (.bipush 40, 2) := by decide +kernel
theorem dX5_readFactor_14 : decode cX5_readFactor 14 = .ok (.if_icmp .eq 48, 3) := by decide +kernel
theorem dX5_readFactor_17 : decode cX5_readFactor 17 = .ok (.aload_n 0, 1) := by decide +kernel
theorem dX5_readFactor_18 : decode cX5_readFactor 18 = .ok (.invokevirtual 81, 3) := by decide +kernel
theorem dX5_readFactor_21 : decode cX5_readFactor 21 = .ok (.ifCond .eq 18, 3) := by decide +kernel
theorem dX5_readFactor_24 : decode cX5_readFactor 24 = .ok (.aload_n 0, 1) := by decide +kernel
theorem dX5_readFactor_25 : decode cX5_readFactor 25 = .ok (.invokevirtual 85, 3) := by decide +kernel
theorem dX5_readFactor_28 : decode cX5_readFactor 28 = .ok (.ifCond .eq 11, 3) := by decide +kernel
theorem dX5_readFactor_31 : decode cX5_readFactor 31 = .ok (.aload_n 0, 1) := by decide +kernel
theorem dX5_readFactor_32 : decode cX5_readFactor 32 = .ok (.iconst 1, 1) := by decide +kernel
theorem dX5_readFactor_33 : decode cX5_readFactor 33 = .ok (.invokevirtual 60, 3) := by decide +kernel
theorem dX5_readFactor_36 : decode cX5_readFactor 36 = .ok (.ifCond .ne 5, 3) := by decide +kernel
theorem dX5_readFactor_39 : decode cX5_readFactor 39 = .ok (.iconst 0, 1) := by decide +kernel
theorem dX5_readFactor_40 : decode cX5_readFactor 40 = .ok (.ireturn, 1) := by decide +kernel
theorem dX5_readFactor_41 : decode cX5_readFactor 41 = .ok (.aload_n 0, 1) := by decide +kernel
theorem dX5_readFactor_42 : decode cX5_readFactor 42 = .ok (.getfield 34, 3) := by decide +kernel
theorem dX5_readFactor_45 : decode cX5_readFactor 45 = .ok (.aload_n 0, 1) := by decide +kernel
theorem dX5_readFactor_46 : decode cX5_readFactor 46 = .ok (.getfield 88, 3) := by decide +kernel
theorem dX5_readFactor_49 : decode cX5_readFactor 49 = .ok (.aload_n 0, 1) := by decide +kernel
theorem dX5_readFactor_50 : decode cX5_readFactor 50 = .ok (.getfield 91, 3) := by decide +kernel
theorem dX5_readFactor_53 : decode cX5_readFactor 53 = .ok (.aload_n 0, 1) := by decide +kernel
theorem dX5_readFactor_54 : decode cX5_readFactor 54 = .ok (.getfield 57, 3) := by decide +kernel
theorem dX5_readFactor_57 : decode cX5_readFactor 57 = .ok (.invokevirtual 74, 3) := by decide +kernel
theorem dX5_readFactor_60 : decode cX5_readFactor 60 = .ok (.iconst 1, 1) := by decide +kernel
theorem dX5_readFactor_61 : decode cX5_readFactor 61 = .ok (.ireturn, 1) := by decide +kernel
theorem dX5_readFactor_62 : decode cX5_readFactor 62 = .ok (.iload_n 1, 1) := by decide +kernel
theorem dX5_readFactor_63 : decode cX5_readFactor 63 = .ok (.bipush 8, 2) := by decide +kernel
theorem dX5_readFactor_65 : decode cX5_readFactor 65 = .ok (.if_icmp .lt 9, 3) := by decide +kernel
theorem dX5_readFactor_68 : decode cX5_readFactor 68 = .ok (.aload_n 0, 1) := by decide +kernel
theorem dX5_readFactor_69 : decode cX5_readFactor 69 = .ok (.iconst 3, 1) := by decide +kernel
theorem dX5_readFactor_70 : decode cX5_readFactor 70 = .ok (.invokevirtual 54, 3) := by decide +kernel
theorem dX5_readFactor_73 : decode cX5_readFactor 73 = .ok (.ireturn, 1) := by decide +kernel
theorem dX5_readFactor_74 : decode cX5_readFactor 74 = .ok (.aload_n 0, 1) := by decide +kernel
theorem dX5_readFactor_75 : decode cX5_readFactor 75 = .ok (.dup, 1) := by decide +kernel
theorem dX5_readFactor_76 : decode cX5_readFactor 76 = .ok (.getfield 31, 3) := by decide +kernel
theorem dX5_readFactor_79 : decode cX5_readFactor 79 = .ok (.iconst 1, 1) := by decide +kernel
theorem dX5_readFactor_80 : decode cX5_readFactor 80 = .ok (.iadd, 1) := by decide +kernel
theorem dX5_readFactor_81 : decode cX5_readFactor 81 = .ok (.putfield 31, 3) := by decide +kernel
theorem dX5_readFactor_84 : decode cX5_readFactor 84 = .ok (.iload_n 2, 1) := by decide +kernel
theorem dX5_readFactor_85 : decode cX5_readFactor 85 = .ok (.bipush 40, 2) := by decide +kernel
theorem dX5_readFactor_87 : decode cX5_readFactor 87 = .ok (.if_icmp .ne 28, 3) := by decide +kernel
theorem dX5_readFactor_90 : decode cX5_readFactor 90 = .ok (.aload_n 0, 1) := by decide +kernel
theorem dX5_readFactor_91 : decode cX5_readFactor 91 = .ok (.iload_n 1, 1) := by decide +kernel
theorem dX5_readFactor_92 : decode cX5_readFactor 92 = .ok (.iconst 1, 1) := by decide +kernel
theorem dX5_readFactor_93 : decode cX5_readFactor 93 = .ok (.iadd, 1) := by decide +kernel
theorem dX5_readFactor_94 : decode cX5_readFactor 94 = .ok (.invokevirtual 64, 3) := by decide +kernel
theorem dX5_readFactor_97 : decode cX5_readFactor 97 = .ok (.ifCond .eq 16, 3) := by decide +kernel
theorem dX5_readFactor_100 : decode cX5_readFactor 100 = .ok (.aload_n 0, 1) := by decide +kernel
theorem dX5_readFactor_101 : decode cX5_readFactor 101 = .ok (.bipush 41, 2) := by decide +kernel
theorem dX5_readFactor_103 : decode cX5_readFactor 103 = .ok (.invokevirtual 51, 3) := by decide +kernel
theorem dX5_readFactor_106 : decode cX5_readFactor 106 = .ok (.ifCond .eq 7, 3) := by decide +kernel
theorem dX5_readFactor_109 : decode cX5_readFactor 109 = .ok (.iconst 1, 1) := by decide +kernel
theorem dX5_readFactor_110 : decode cX5_readFactor 110 = .ok (.goto 4, 3) := by decide +kernel
theorem dX5_readFactor_113 : decode cX5_readFactor 113 = .ok (.iconst 0, 1) := by decide +kernel
theorem dX5_readFactor_114 : decode cX5_readFactor 114 = .ok (.ireturn, 1) := by decide +kernel
theorem dX5_readFactor_115 : decode cX5_readFactor 115 = .ok (.aload_n 0, 1) := by decide +kernel
theorem dX5_readFactor_116 : decode cX5_readFactor 116 = .ok (.iload_n 1, 1) := by decide +kernel
theorem dX5_readFactor_117 : decode cX5_readFactor 117 = .ok (.iconst 1, 1) := by decide +kernel
theorem dX5_readFactor_118 : decode cX5_readFactor 118 = .ok (.iadd, 1) := by decide +kernel
theorem dX5_readFactor_119 : decode cX5_readFactor 119 = .ok (.invokevirtual 78, 3) := by decide +kernel
theorem dX5_readFactor_122 : decode cX5_readFactor 122 = .ok (.ifCond .ne 5, 3) := by decide +kernel
theorem dX5_readFactor_125 : decode cX5_readFactor 125 = .ok (.iconst 0, 1) := by decide +kernel
theorem dX5_readFactor_126 : decode cX5_readFactor 126 = .ok (.ireturn, 1) := by decide +kernel
theorem dX5_readFactor_127 : decode cX5_readFactor 127 = .ok (.aload_n 0, 1) := by decide +kernel
theorem dX5_readFactor_128 : decode cX5_readFactor 128 = .ok (.getfield 34, 3) := by decide +kernel
theorem dX5_readFactor_131 : decode cX5_readFactor 131 = .ok (.bipush 33, 2) := by decide +kernel
theorem dX5_readFactor_133 : decode cX5_readFactor 133 = .ok (.iconst 0, 1) := by decide +kernel
theorem dX5_readFactor_134 : decode cX5_readFactor 134 = .ok (.iconst 0, 1) := by decide +kernel
theorem dX5_readFactor_135 : decode cX5_readFactor 135 = .ok (.invokevirtual 74, 3) := by decide +kernel
theorem dX5_readFactor_138 : decode cX5_readFactor 138 = .ok (.iconst 1, 1) := by decide +kernel
theorem dX5_readFactor_139 : decode cX5_readFactor 139 = .ok (.ireturn, 1) := by decide +kernel
theorem dX5_readLetter_0 : decode cX5_readLetter 0 = .ok (.aload_n 0, 1) := by decide +kernel
theorem dX5_readLetter_1 : decode cX5_readLetter 1 = .ok (.aload_n 0, 1) := by decide +kernel
theorem dX5_readLetter_2 : decode cX5_readLetter 2 = .ok (.invokevirtual 47, 3) := by decide +kernel
theorem dX5_readLetter_5 : decode cX5_readLetter 5 = .ok (.invokestatic 94, 3) := by decide +kernel
theorem dX5_readLetter_8 : decode cX5_readLetter 8 = .ok (.putfield 91, 3) := by decide +kernel
theorem dX5_readLetter_11 : decode cX5_readLetter 11 = .ok (.aload_n 0, 1) := by decide +kernel
theorem dX5_readLetter_12 : decode cX5_readLetter 12 = .ok (.getfield 91, 3) := by decide +kernel
theorem dX5_readLetter_15 : decode cX5_readLetter 15 = .ok (.iconst (-1), 1) := by decide +kernel
theorem dX5_readLetter_16 : decode cX5_readLetter 16 = .ok (.if_icmp .ne 9, 3) := by decide +kernel
theorem dX5_readLetter_19 : decode cX5_readLetter 19 = .ok (.aload_n 0, 1) := by decide +kernel
theorem dX5_readLetter_20 : decode cX5_readLetter 20 = .ok (.iconst 1, 1) := by decide +kernel
theorem dX5_readLetter_21 : decode cX5_readLetter 21 = .ok (.invokevirtual 54, 3) := by decide +kernel
theorem dX5_readLetter_24 : decode cX5_readLetter 24 = .ok (.ireturn, 1) := by decide +kernel
theorem dX5_readLetter_25 : decode cX5_readLetter 25 = .ok (.aload_n 0, 1) := by decide +kernel
theorem dX5_readLetter_26 : decode cX5_readLetter 26 = .ok (.dup, 1) := by decide +kernel
theorem dX5_readLetter_27 : decode cX5_readLetter 27 = .ok (.getfield 31, 3) := by decide +kernel
theorem dX5_readLetter_30 : decode cX5_readLetter 30 = .ok (.iconst 1, 1) := by decide +kernel
theorem dX5_readLetter_31 : decode cX5_readLetter 31 = .ok (.iadd, 1) := by decide +kernel
theorem dX5_readLetter_32 : decode cX5_readLetter 32 = .ok (.putfield 31, 3) := by decide +kernel
theorem dX5_readLetter_35 : decode cX5_readLetter 35 = .ok (.iconst 1, 1) := by decide +kernel
theorem dX5_readLetter_36 : decode cX5_readLetter 36 = .ok (.ireturn, 1) := by decide +kernel
theorem dX5_readComparison_0 : decode cX5_readComparison 0 = .ok (.aload_n 0, 1) := by decide +kernel
theorem dX5_readComparison_1 : decode cX5_readComparison 1 = .ok (.aload_n 0, 1) := by decide +kernel
theorem dX5_readComparison_2 : decode cX5_readComparison 2 = .ok (.invokevirtual 47, 3) := by decide +kernel
theorem dX5_readComparison_5 : decode cX5_readComparison 5 = .ok (.putfield 88, 3) := by decide +kernel
theorem dX5_readComparison_8 : decode cX5_readComparison 8 = .ok (.aload_n 0, 1) := by decide +kernel
theorem dX5_readComparison_9 : decode cX5_readComparison 9 = .ok (.getfield 88, 3) := by decide +kernel
theorem dX5_readComparison_12 : decode cX5_readComparison 12 = .ok (.invokestatic 98, 3) := by decide +kernel
theorem dX5_readComparison_15 : decode cX5_readComparison 15 = .ok (.ifCond .ne 9, 3) := by decide +kernel
theorem dX5_readComparison_18 : decode cX5_readComparison 18 = .ok (.aload_n 0, 1) := by decide +kernel
theorem dX5_readComparison_19 : decode cX5_readComparison 19 = .ok (.iconst 1, 1) := by decide +kernel
theorem dX5_readComparison_20 : decode cX5_readComparison 20 = .ok (.invokevirtual 54, 3) := by decide +kernel
theorem dX5_readComparison_23 : decode cX5_readComparison 23 = .ok (.ireturn, 1) := by decide +kernel
theorem dX5_readComparison_24 : decode cX5_readComparison 24 = .ok (.aload_n 0, 1) := by decide +kernel
theorem dX5_readComparison_25 : decode cX5_readComparison 25 = .ok (.dup, 1) := by decide +kernel
theorem dX5_readComparison_26 : decode cX5_readComparison 26 = .ok (.getfield 31, 3) := by decide +kernel
theorem dX5_readComparison_29 : decode cX5_readComparison 29 = .ok (.iconst 1, 1) := by decide +kernel
theorem dX5_readComparison_30 : decode cX5_readComparison 30 = .ok (.iadd, 1) := by decide +kernel
theorem dX5_readComparison_31 : decode cX5_readComparison 31 = .ok (.putfield 31, 3) := by decide +kernel
theorem dX5_readComparison_34 : decode cX5_readComparison 34 = .ok (.iconst 1, 1) := by decide +kernel
theorem dX5_readComparison_35 : decode cX5_readComparison 35 = .ok (.ireturn, 1) := by decide +kernel
theorem dX5_readNumber_0 : decode cX5_readNumber 0 = .ok (.iload_n 1, 1) := by decide +kernel
theorem dX5_readNumber_1 : decode cX5_readNumber 1 = .ok (.ifCond .eq 16, 3) := by decide +kernel
theorem dX5_readNumber_4 : decode cX5_readNumber 4 = .ok (.aload_n 0, 1) := by decide +kernel
theorem dX5_readNumber_5 : decode cX5_readNumber 5 = .ok (.invokevirtual 47, 3) := by decide +kernel
theorem dX5_readNumber_8 : decode cX5_readNumber 8 = .ok (.bipush 45, 2) := by decide +kernel
theorem dX5_readNumber_10 : decode cX5_readNumber 10 = .ok (.if_icmp .ne 7, 3) := by decide +kernel
theorem dX5_readNumber_13 : decode cX5_readNumber 13 = .ok (.iconst 1, 1) := by decide +kernel
theorem dX5_readNumber_14 : decode cX5_readNumber 14 = .ok (.goto 4, 3) := by decide +kernel
theorem dX5_readNumber_17 : decode cX5_readNumber 17 = .ok (.iconst 0, 1) := by decide +kernel
theorem dX5_readNumber_18 : decode cX5_readNumber 18 = .ok (.istore_n 2, 1) := by decide +kernel
theorem dX5_readNumber_19 : decode cX5_readNumber 19 = .ok (.iload_n 2, 1) := by decide +kernel
theorem dX5_readNumber_20 : decode cX5_readNumber 20 = .ok (.ifCond .eq 13, 3) := by decide +kernel
theorem dX5_readNumber_23 : decode cX5_readNumber 23 = .ok (.aload_n 0, 1) := by decide +kernel
theorem dX5_readNumber_24 : decode cX5_readNumber 24 = .ok (.dup, 1) := by decide +kernel
theorem dX5_readNumber_25 : decode cX5_readNumber 25 = .ok (.getfield 31, 3) := by decide +kernel
theorem dX5_readNumber_28 : decode cX5_readNumber 28 = .ok (.iconst 1, 1) := by decide +kernel
theorem dX5_readNumber_29 : decode cX5_readNumber 29 = .ok (.iadd, 1) := by decide +kernel
theorem dX5_readNumber_30 : decode cX5_readNumber 30 = .ok (.putfield 31, 3) := by decide +kernel
theorem dX5_readNumber_33 : decode cX5_readNumber 33 = .ok (.aload_n 0, 1) := by decide +kernel
theorem dX5_readNumber_34 : decode cX5_readNumber 34 = .ok (.invokevirtual 47, 3) := by decide +kernel
theorem dX5_readNumber_37 : decode cX5_readNumber 37 = .ok (.invokestatic 101, 3) := by decide +kernel
theorem dX5_readNumber_40 : decode cX5_readNumber 40 = .ok (.ifCond .ne 9, 3) := by decide +kernel
theorem dX5_readNumber_43 : decode cX5_readNumber 43 = .ok (.aload_n 0, 1) := by decide +kernel
theorem dX5_readNumber_44 : decode cX5_readNumber 44 = .ok (.iconst 1, 1) := by decide +kernel
theorem dX5_readNumber_45 : decode cX5_readNumber 45 = .ok (.invokevirtual 54, 3) := by decide +kernel
theorem dX5_readNumber_48 : decode cX5_readNumber 48 = .ok (.ireturn, 1) := by decide +kernel
theorem dX5_readNumber_49 : decode cX5_readNumber 49 = .ok (.iconst 0, 1) := by decide +kernel
theorem dX5_readNumber_50 : decode cX5_readNumber 50 = .ok (.istore_n 3, 1) := by decide +kernel
theorem dX5_readNumber_51 : decode cX5_readNumber 51 = .ok (.iconst 0, 1) := by decide +kernel
theorem dX5_readNumber_52 : decode cX5_readNumber 52 = .ok (.istore 4, 2) := by decide +kernel
theorem dX5_readNumber_54 : decode cX5_readNumber 54 = .ok (.iload 4, 2) := by decide +kernel
theorem dX5_readNumber_56 : decode cX5_readNumber 56 = .ok (.iconst 4, 1) := by decide +kernel
theorem dX5_readNumber_57 : decode cX5_readNumber 57 = .ok (.if_icmp .ge 42, 3) := by decide +kernel
theorem dX5_readNumber_60 : decode cX5_readNumber 60 = .ok (.aload_n 0, 1) := by decide +kernel
theorem dX5_readNumber_61 : decode cX5_readNumber 61 = .ok (.invokevirtual 47, 3) := by decide +kernel
theorem dX5_readNumber_64 : decode cX5_readNumber 64 = .ok (.invokestatic 101, 3) := by decide +kernel
theorem dX5_readNumber_67 : decode cX5_readNumber 67 = .ok (.ifCond .eq 32, 3) := by decide +kernel
theorem dX5_readNumber_70 : decode cX5_readNumber 70 = .ok (.iload_n 3, 1) := by decide +kernel
theorem dX5_readNumber_71 : decode cX5_readNumber 71 = .ok (.bipush 10, 2) := by decide +kernel
theorem dX5_readNumber_73 : decode cX5_readNumber 73 = .ok (.imul, 1) := by decide +kernel
theorem dX5_readNumber_74 : decode cX5_readNumber 74 = .ok (.aload_n 0, 1) := by decide +kernel
theorem dX5_readNumber_75 : decode cX5_readNumber 75 = .ok (.invokevirtual 47, 3) := by decide +kernel
theorem dX5_readNumber_78 : decode cX5_readNumber 78 = .ok (.iadd, 1) := by decide +kernel
theorem dX5_readNumber_79 : decode cX5_readNumber 79 = .ok (.bipush 48, 2) := by decide +kernel
theorem dX5_readNumber_81 : decode cX5_readNumber 81 = .ok (.isub, 1) := by decide +kernel
theorem dX5_readNumber_82 : decode cX5_readNumber 82 = .ok (.istore_n 3, 1) := by decide +kernel
theorem dX5_readNumber_83 : decode cX5_readNumber 83 = .ok (.aload_n 0, 1) := by decide +kernel
theorem dX5_readNumber_84 : decode cX5_readNumber 84 = .ok (.dup, 1) := by decide +kernel
theorem dX5_readNumber_85 : decode cX5_readNumber 85 = .ok (.getfield 31, 3) := by decide +kernel
theorem dX5_readNumber_88 : decode cX5_readNumber 88 = .ok (.iconst 1, 1) := by decide +kernel
theorem dX5_readNumber_89 : decode cX5_readNumber 89 = .ok (.iadd, 1) := by decide +kernel
theorem dX5_readNumber_90 : decode cX5_readNumber 90 = .ok (.putfield 31, 3) := by decide +kernel
theorem dX5_readNumber_93 : decode cX5_readNumber 93 = .ok (.iinc 4 1, 3) := by decide +kernel
theorem dX5_readNumber_96 : decode cX5_readNumber 96 = .ok (.goto (-42), 3) := by decide +kernel
theorem dX5_readNumber_99 : decode cX5_readNumber 99 = .ok (.aload_n 0, 1) := by decide +kernel
theorem dX5_readNumber_100 : decode cX5_readNumber 100 = .ok (.iload_n 2, 1) := by decide +kernel
theorem dX5_readNumber_101 : decode cX5_readNumber 101 = .ok (.ifCond .eq 8, 3) := by decide +kernel
theorem dX5_readNumber_104 : decode cX5_readNumber 104 = .ok (.iload_n 3, 1) := by decide +kernel
theorem dX5_readNumber_105 : decode cX5_readNumber 105 = .ok (.ineg, 1) := by decide +kernel
theorem dX5_readNumber_106 : decode cX5_readNumber 106 = .ok (.goto 4, 3) := by decide +kernel
theorem dX5_readNumber_109 : decode cX5_readNumber 109 = .ok (.iload_n 3, 1) := by decide +kernel
theorem dX5_readNumber_110 : decode cX5_readNumber 110 = .ok (.putfield 57, 3) := by decide +kernel
theorem dX5_readNumber_113 : decode cX5_readNumber 113 = .ok (.iconst 1, 1) := by decide +kernel
theorem dX5_readNumber_114 : decode cX5_readNumber 114 = .ok (.ireturn, 1) := by decide +kernel
theorem dX5_sign_0 : decode cX5_sign 0 = .ok (.aload_n 0, 1) := by decide +kernel
theorem dX5_sign_1 : decode cX5_sign 1 = .ok (.getfield 18, 3) := by decide +kernel
theorem dX5_sign_4 : decode cX5_sign 4 = .ok (.ifnull 33, 3) := by decide +kernel
theorem dX5_sign_7 : decode cX5_sign 7 = .ok (.aload_n 0, 1) := by decide +kernel
theorem dX5_sign_8 : decode cX5_sign 8 = .ok (.getfield 31, 3) := by decide +kernel
theorem dX5_sign_11 : decode cX5_sign 11 = .ok (.ifCond .lt 26, 3) := by decide +kernel
theorem dX5_sign_14 : decode cX5_sign 14 = .ok (.aload_n 0, 1) := by decide +kernel
theorem dX5_sign_15 : decode cX5_sign 15 = .ok (.getfield 31, 3) := by decide +kernel
theorem dX5_sign_18 : decode cX5_sign 18 = .ok (.aload_n 0, 1) := by decide +kernel
theorem dX5_sign_19 : decode cX5_sign 19 = .ok (.getfield 28, 3) := by decide +kernel
theorem dX5_sign_22 : decode cX5_sign 22 = .ok (.if_icmp .ge 15, 3) := by decide +kernel
theorem dX5_sign_25 : decode cX5_sign 25 = .ok (.aload_n 0, 1) := by decide +kernel
theorem dX5_sign_26 : decode cX5_sign 26 = .ok (.getfield 18, 3) := by decide +kernel
theorem dX5_sign_29 : decode cX5_sign 29 = .ok (.aload_n 0, 1) := by decide +kernel
theorem dX5_sign_30 : decode cX5_sign 30 = .ok (.getfield 31, 3) := by decide +kernel
theorem dX5_sign_33 : decode cX5_sign 33 = .ok (.iaload, 1) := by decide +kernel
theorem dX5_sign_34 : decode cX5_sign 34 = .ok (.goto 4, 3) := by decide +kernel
theorem dX5_sign_37 : decode cX5_sign 37 = .ok (.iconst (-1), 1) := by decide +kernel
theorem dX5_sign_38 : decode cX5_sign 38 = .ok (.ireturn, 1) := by decide +kernel
theorem dX5_take_0 : decode cX5_take 0 = .ok (.aload_n 0, 1) := by decide +kernel
theorem dX5_take_1 : decode cX5_take 1 = .ok (.invokevirtual 47, 3) := by decide +kernel
theorem dX5_take_4 : decode cX5_take 4 = .ok (.iload_n 1, 1) := by decide +kernel
theorem dX5_take_5 : decode cX5_take 5 = .ok (.if_icmp .eq 9, 3) := by decide +kernel
theorem dX5_take_8 : decode cX5_take 8 = .ok (.aload_n 0, 1) := by decide +kernel
theorem dX5_take_9 : decode cX5_take 9 = .ok (.iconst 1, 1) := by decide +kernel
theorem dX5_take_10 : decode cX5_take 10 = .ok (.invokevirtual 54, 3) := by decide +kernel
theorem dX5_take_13 : decode cX5_take 13 = .ok (.ireturn, 1) := by decide +kernel
theorem dX5_take_14 : decode cX5_take 14 = .ok (.aload_n 0, 1) := by decide +kernel
theorem dX5_take_15 : decode cX5_take 15 = .ok (.dup, 1) := by decide +kernel
theorem dX5_take_16 : decode cX5_take 16 = .ok (.getfield 31, 3) := by decide +kernel
theorem dX5_take_19 : decode cX5_take 19 = .ok (.iconst 1, 1) := by decide +kernel
theorem dX5_take_20 : decode cX5_take 20 = .ok (.iadd, 1) := by decide +kernel
theorem dX5_take_21 : decode cX5_take 21 = .ok (.putfield 31, 3) := by decide +kernel
theorem dX5_take_24 : decode cX5_take 24 = .ok (.iconst 1, 1) := by decide +kernel
theorem dX5_take_25 : decode cX5_take 25 = .ok (.ireturn, 1) := by decide +kernel
theorem dX5_refuse_0 : decode cX5_refuse 0 = .ok (.aload_n 0, 1) := by decide +kernel
theorem dX5_refuse_1 : decode cX5_refuse 1 = .ok (.iload_n 1, 1) := by decide +kernel
theorem dX5_refuse_2 : decode cX5_refuse 2 = .ok (.putfield 9, 3) := by decide +kernel
theorem dX5_refuse_5 : decode cX5_refuse 5 = .ok (.aload_n 0, 1) := by decide +kernel
theorem dX5_refuse_6 : decode cX5_refuse 6 = .ok (.aload_n 0, 1) := by decide +kernel
theorem dX5_refuse_7 : decode cX5_refuse 7 = .ok (.getfield 31, 3) := by decide +kernel
theorem dX5_refuse_10 : decode cX5_refuse 10 = .ok (.putfield 15, 3) := by decide +kernel
theorem dX5_refuse_13 : decode cX5_refuse 13 = .ok (.iconst 0, 1) := by decide +kernel
theorem dX5_refuse_14 : decode cX5_refuse 14 = .ok (.ireturn, 1) := by decide +kernel
theorem dX5_isDigit_0 : decode cX5_isDigit 0 = .ok (.iload_n 0, 1) := by decide +kernel
theorem dX5_isDigit_1 : decode cX5_isDigit 1 = .ok (.bipush 48, 2) := by decide +kernel
theorem dX5_isDigit_3 : decode cX5_isDigit 3 = .ok (.if_icmp .lt 13, 3) := by decide +kernel
theorem dX5_isDigit_6 : decode cX5_isDigit 6 = .ok (.iload_n 0, 1) := by decide +kernel
theorem dX5_isDigit_7 : decode cX5_isDigit 7 = .ok (.bipush 57, 2) := by decide +kernel
theorem dX5_isDigit_9 : decode cX5_isDigit 9 = .ok (.if_icmp .gt 7, 3) := by decide +kernel
theorem dX5_isDigit_12 : decode cX5_isDigit 12 = .ok (.iconst 1, 1) := by decide +kernel
theorem dX5_isDigit_13 : decode cX5_isDigit 13 = .ok (.goto 4, 3) := by decide +kernel
theorem dX5_isDigit_16 : decode cX5_isDigit 16 = .ok (.iconst 0, 1) := by decide +kernel
theorem dX5_isDigit_17 : decode cX5_isDigit 17 = .ok (.ireturn, 1) := by decide +kernel
theorem dX5_factOf_0 : decode cX5_factOf 0 = .ok (.iload_n 0, 1) := by decide +kernel
theorem dX5_factOf_1 : decode cX5_factOf 1 = .ok (.tableswitch 77 107 119 #[73, 67, 75, 77, 77, 77, 77, 77, 77, 69, 77, 77, 71], 67) := by decide +kernel
theorem dX5_factOf_68 : decode cX5_factOf 68 = .ok (.iconst 0, 1) := by decide +kernel
theorem dX5_factOf_69 : decode cX5_factOf 69 = .ok (.ireturn, 1) := by decide +kernel
theorem dX5_factOf_70 : decode cX5_factOf 70 = .ok (.iconst 1, 1) := by decide +kernel
theorem dX5_factOf_71 : decode cX5_factOf 71 = .ok (.ireturn, 1) := by decide +kernel
theorem dX5_factOf_72 : decode cX5_factOf 72 = .ok (.iconst 2, 1) := by decide +kernel
theorem dX5_factOf_73 : decode cX5_factOf 73 = .ok (.ireturn, 1) := by decide +kernel
theorem dX5_factOf_74 : decode cX5_factOf 74 = .ok (.iconst 3, 1) := by decide +kernel
theorem dX5_factOf_75 : decode cX5_factOf 75 = .ok (.ireturn, 1) := by decide +kernel
theorem dX5_factOf_76 : decode cX5_factOf 76 = .ok (.iconst 4, 1) := by decide +kernel
theorem dX5_factOf_77 : decode cX5_factOf 77 = .ok (.ireturn, 1) := by decide +kernel
theorem dX5_factOf_78 : decode cX5_factOf 78 = .ok (.iconst (-1), 1) := by decide +kernel
theorem dX5_factOf_79 : decode cX5_factOf 79 = .ok (.ireturn, 1) := by decide +kernel
theorem dX6_init_0 : decode cX6_init 0 = .ok (.aload_n 0, 1) := by decide +kernel
theorem dX6_init_1 : decode cX6_init 1 = .ok (.invokespecial 3, 3) := by decide +kernel
theorem dX6_init_4 : decode cX6_init 4 = .ok (.aload_n 0, 1) := by decide +kernel
theorem dX6_init_5 : decode cX6_init 5 = .ok (.bipush 7, 2) := by decide +kernel
theorem dX6_init_7 : decode cX6_init 7 = .ok (.newarray .int, 2) := by decide +kernel
theorem dX6_init_9 : decode cX6_init 9 = .ok (.putfield 9, 3) := by decide +kernel
theorem dX6_init_12 : decode cX6_init 12 = .ok (.aload_n 0, 1) := by decide +kernel
theorem dX6_init_13 : decode cX6_init 13 = .ok (.bipush 7, 2) := by decide +kernel
theorem dX6_init_15 : decode cX6_init 15 = .ok (.newarray .int, 2) := by decide +kernel
theorem dX6_init_17 : decode cX6_init 17 = .ok (.putfield 15, 3) := by decide +kernel
theorem dX6_init_20 : decode cX6_init 20 = .ok (.aload_n 0, 1) := by decide +kernel
theorem dX6_init_21 : decode cX6_init 21 = .ok (.bipush 7, 2) := by decide +kernel
theorem dX6_init_23 : decode cX6_init 23 = .ok (.newarray .int, 2) := by decide +kernel
theorem dX6_init_25 : decode cX6_init 25 = .ok (.putfield 18, 3) := by decide +kernel
theorem dX6_init_28 : decode cX6_init 28 = .ok (.aload_n 0, 1) := by decide +kernel
theorem dX6_init_29 : decode cX6_init 29 = .ok (.bipush 35, 2) := by decide +kernel
theorem dX6_init_31 : decode cX6_init 31 = .ok (.newarray .int, 2) := by decide +kernel
theorem dX6_init_33 : decode cX6_init 33 = .ok (.putfield 21, 3) := by decide +kernel
theorem dX6_init_36 : decode cX6_init 36 = .ok (.aload_n 0, 1) := by decide +kernel
theorem dX6_init_37 : decode cX6_init 37 = .ok (.iconst 5, 1) := by decide +kernel
theorem dX6_init_38 : decode cX6_init 38 = .ok (.newarray .int, 2) := by decide +kernel
theorem dX6_init_40 : decode cX6_init 40 = .ok (.putfield 24, 3) := by decide +kernel
theorem dX6_init_43 : decode cX6_init 43 = .ok (.return_, 1) := by decide +kernel
theorem dX6_begin_0 : decode cX6_begin 0 = .ok (.aload_n 0, 1) := by decide +kernel
theorem dX6_begin_1 : decode cX6_begin 1 = .ok (.getfield 9, 3) := by decide +kernel
theorem dX6_begin_4 : decode cX6_begin 4 = .ok (.iconst (-1), 1) := by decide +kernel
theorem dX6_begin_5 : decode cX6_begin 5 = .ok (.invokestatic 27, 3) := by decide +kernel
theorem dX6_begin_8 : decode cX6_begin 8 = .ok (.aload_n 0, 1) := by decide +kernel
theorem dX6_begin_9 : decode cX6_begin 9 = .ok (.getfield 15, 3) := by decide +kernel
theorem dX6_begin_12 : decode cX6_begin 12 = .ok (.iconst (-1), 1) := by decide +kernel
theorem dX6_begin_13 : decode cX6_begin 13 = .ok (.invokestatic 27, 3) := by decide +kernel
theorem dX6_begin_16 : decode cX6_begin 16 = .ok (.aload_n 0, 1) := by decide +kernel
theorem dX6_begin_17 : decode cX6_begin 17 = .ok (.getfield 24, 3) := by decide +kernel
theorem dX6_begin_20 : decode cX6_begin 20 = .ok (.iconst 0, 1) := by decide +kernel
theorem dX6_begin_21 : decode cX6_begin 21 = .ok (.invokestatic 27, 3) := by decide +kernel
theorem dX6_begin_24 : decode cX6_begin 24 = .ok (.aload_n 0, 1) := by decide +kernel
theorem dX6_begin_25 : decode cX6_begin 25 = .ok (.iconst 0, 1) := by decide +kernel
theorem dX6_begin_26 : decode cX6_begin 26 = .ok (.putfield 33, 3) := by decide +kernel
theorem dX6_begin_29 : decode cX6_begin 29 = .ok (.aload_n 0, 1) := by decide +kernel
theorem dX6_begin_30 : decode cX6_begin 30 = .ok (.aload_n 1, 1) := by decide +kernel
theorem dX6_begin_31 : decode cX6_begin 31 = .ok (.iconst 0, 1) := by decide +kernel
theorem dX6_begin_32 : decode cX6_begin 32 = .ok (.invokevirtual 37, 3) := by decide +kernel
theorem dX6_begin_35 : decode cX6_begin 35 = .ok (.ifCond .eq 10, 3) := by decide +kernel
theorem dX6_begin_38 : decode cX6_begin 38 = .ok (.aload_n 1, 1) := by decide +kernel
theorem dX6_begin_39 : decode cX6_begin 39 = .ok (.getfield 43, 3) := by decide +kernel
theorem dX6_begin_42 : decode cX6_begin 42 = .ok (.goto 5, 3) := by decide +kernel
theorem dX6_begin_45 : decode cX6_begin 45 = .ok (.ldc 46, 2) := by decide +kernel
theorem dX6_begin_47 : decode cX6_begin 47 = .ok (.invokevirtual 47, 3) := by decide +kernel
theorem dX6_begin_50 : decode cX6_begin 50 = .ok (.return_, 1) := by decide +kernel
theorem dX6_lieInPort_0 : decode cX6_lieInPort 0 = .ok (.aload_n 0, 1) := by decide +kernel
theorem dX6_lieInPort_1 : decode cX6_lieInPort 1 = .ok (.iconst 0, 1) := by decide +kernel
theorem dX6_lieInPort_2 : decode cX6_lieInPort 2 = .ok (.putfield 51, 3) := by decide +kernel
theorem dX6_lieInPort_5 : decode cX6_lieInPort 5 = .ok (.aload_n 0, 1) := by decide +kernel
theorem dX6_lieInPort_6 : decode cX6_lieInPort 6 = .ok (.iload_n 1, 1) := by decide +kernel
theorem dX6_lieInPort_7 : decode cX6_lieInPort 7 = .ok (.putfield 55, 3) := by decide +kernel
theorem dX6_lieInPort_10 : decode cX6_lieInPort 10 = .ok (.aload_n 0, 1) := by decide +kernel
theorem dX6_lieInPort_11 : decode cX6_lieInPort 11 = .ok (.iload_n 1, 1) := by decide +kernel
theorem dX6_lieInPort_12 : decode cX6_lieInPort 12 = .ok (.putfield 58, 3) := by decide +kernel
theorem dX6_lieInPort_15 : decode cX6_lieInPort 15 = .ok (.return_, 1) := by decide +kernel
theorem dX6_putToSea_0 : decode cX6_putToSea 0 = .ok (.aload_n 0, 1) := by decide +kernel
theorem dX6_putToSea_1 : decode cX6_putToSea 1 = .ok (.getfield 15, 3) := by decide +kernel
theorem dX6_putToSea_4 : decode cX6_putToSea 4 = .ok (.aload_n 0, 1) := by decide +kernel
theorem dX6_putToSea_5 : decode cX6_putToSea 5 = .ok (.getfield 33, 3) := by decide +kernel
theorem dX6_putToSea_8 : decode cX6_putToSea 8 = .ok (.iload_n 1, 1) := by decide +kernel
theorem dX6_putToSea_9 : decode cX6_putToSea 9 = .ok (.iastore, 1) := by decide +kernel
theorem dX6_putToSea_10 : decode cX6_putToSea 10 = .ok (.aload_n 0, 1) := by decide +kernel
theorem dX6_putToSea_11 : decode cX6_putToSea 11 = .ok (.getfield 18, 3) := by decide +kernel
theorem dX6_putToSea_14 : decode cX6_putToSea 14 = .ok (.aload_n 0, 1) := by decide +kernel
theorem dX6_putToSea_15 : decode cX6_putToSea 15 = .ok (.getfield 33, 3) := by decide +kernel
theorem dX6_putToSea_18 : decode cX6_putToSea 18 = .ok (.iload_n 1, 1) := by decide +kernel
theorem dX6_putToSea_19 : decode cX6_putToSea 19 = .ok (.aload_n 0, 1) := by decide +kernel
theorem dX6_putToSea_20 : decode cX6_putToSea 20 = .ok (.getfield 55, 3) := by decide +kernel
theorem dX6_putToSea_23 : decode cX6_putToSea 23 = .ok (.isub, 1) := by decide +kernel
theorem dX6_putToSea_24 : decode cX6_putToSea 24 = .ok (.iastore, 1) := by decide +kernel
theorem dX6_putToSea_25 : decode cX6_putToSea 25 = .ok (.aload_n 0, 1) := by decide +kernel
theorem dX6_putToSea_26 : decode cX6_putToSea 26 = .ok (.iconst 1, 1) := by decide +kernel
theorem dX6_putToSea_27 : decode cX6_putToSea 27 = .ok (.putfield 51, 3) := by decide +kernel
theorem dX6_putToSea_30 : decode cX6_putToSea 30 = .ok (.aload_n 0, 1) := by decide +kernel
theorem dX6_putToSea_31 : decode cX6_putToSea 31 = .ok (.iload_n 1, 1) := by decide +kernel
theorem dX6_putToSea_32 : decode cX6_putToSea 32 = .ok (.iload_n 2, 1) := by decide +kernel
theorem dX6_putToSea_33 : decode cX6_putToSea 33 = .ok (.iadd, 1) := by decide +kernel
theorem dX6_putToSea_34 : decode cX6_putToSea 34 = .ok (.putfield 58, 3) := by decide +kernel
theorem dX6_putToSea_37 : decode cX6_putToSea 37 = .ok (.return_, 1) := by decide +kernel
theorem dX6_makeUp_0 : decode cX6_makeUp 0 = .ok (.aload_n 0, 1) := by decide +kernel
theorem dX6_makeUp_1 : decode cX6_makeUp 1 = .ok (.iconst 0, 1) := by decide +kernel
theorem dX6_makeUp_2 : decode cX6_makeUp 2 = .ok (.iload_n 1, 1) := by decide +kernel
theorem dX6_makeUp_3 : decode cX6_makeUp 3 = .ok (.invokevirtual 61, 3) := by decide +kernel
theorem dX6_makeUp_6 : decode cX6_makeUp 6 = .ok (.istore_n 3, 1) := by decide +kernel
theorem dX6_makeUp_7 : decode cX6_makeUp 7 = .ok (.aload_n 0, 1) := by decide +kernel
theorem dX6_makeUp_8 : decode cX6_makeUp 8 = .ok (.iconst 1, 1) := by decide +kernel
theorem dX6_makeUp_9 : decode cX6_makeUp 9 = .ok (.iload_n 2, 1) := by decide +kernel
theorem dX6_makeUp_10 : decode cX6_makeUp 10 = .ok (.iadd, 1) := by decide +kernel
theorem dX6_makeUp_11 : decode cX6_makeUp 11 = .ok (.iload_n 3, 1) := by decide +kernel
theorem dX6_makeUp_12 : decode cX6_makeUp 12 = .ok (.invokevirtual 61, 3) := by decide +kernel
theorem dX6_makeUp_15 : decode cX6_makeUp 15 = .ok (.istore_n 3, 1) := by decide +kernel
theorem dX6_makeUp_16 : decode cX6_makeUp 16 = .ok (.iconst 0, 1) := by decide +kernel
theorem dX6_makeUp_17 : decode cX6_makeUp 17 = .ok (.istore 4, 2) := by decide +kernel
theorem dX6_makeUp_19 : decode cX6_makeUp 19 = .ok (.iload 4, 2) := by decide +kernel
theorem dX6_makeUp_21 : decode cX6_makeUp 21 = .ok (.iconst 4, 1) := by decide +kernel
theorem dX6_makeUp_22 : decode cX6_makeUp 22 = .ok (.if_icmp .ge 19, 3) := by decide +kernel
theorem dX6_makeUp_25 : decode cX6_makeUp 25 = .ok (.aload_n 0, 1) := by decide +kernel
theorem dX6_makeUp_26 : decode cX6_makeUp 26 = .ok (.iconst 1, 1) := by decide +kernel
theorem dX6_makeUp_27 : decode cX6_makeUp 27 = .ok (.iload 4, 2) := by decide +kernel
theorem dX6_makeUp_29 : decode cX6_makeUp 29 = .ok (.iadd, 1) := by decide +kernel
theorem dX6_makeUp_30 : decode cX6_makeUp 30 = .ok (.iload_n 3, 1) := by decide +kernel
theorem dX6_makeUp_31 : decode cX6_makeUp 31 = .ok (.invokevirtual 61, 3) := by decide +kernel
theorem dX6_makeUp_34 : decode cX6_makeUp 34 = .ok (.istore_n 3, 1) := by decide +kernel
theorem dX6_makeUp_35 : decode cX6_makeUp 35 = .ok (.iinc 4 1, 3) := by decide +kernel
theorem dX6_makeUp_38 : decode cX6_makeUp 38 = .ok (.goto (-19), 3) := by decide +kernel
theorem dX6_makeUp_41 : decode cX6_makeUp 41 = .ok (.return_, 1) := by decide +kernel
theorem dX6_takeFrom_0 : decode cX6_takeFrom 0 = .ok (.aload_n 0, 1) := by decide +kernel
theorem dX6_takeFrom_1 : decode cX6_takeFrom 1 = .ok (.getfield 24, 3) := by decide +kernel
theorem dX6_takeFrom_4 : decode cX6_takeFrom 4 = .ok (.iload_n 1, 1) := by decide +kernel
theorem dX6_takeFrom_5 : decode cX6_takeFrom 5 = .ok (.iaload, 1) := by decide +kernel
theorem dX6_takeFrom_6 : decode cX6_takeFrom 6 = .ok (.iload_n 2, 1) := by decide +kernel
theorem dX6_takeFrom_7 : decode cX6_takeFrom 7 = .ok (.invokestatic 65, 3) := by decide +kernel
theorem dX6_takeFrom_10 : decode cX6_takeFrom 10 = .ok (.istore_n 3, 1) := by decide +kernel
theorem dX6_takeFrom_11 : decode cX6_takeFrom 11 = .ok (.aload_n 0, 1) := by decide +kernel
theorem dX6_takeFrom_12 : decode cX6_takeFrom 12 = .ok (.getfield 24, 3) := by decide +kernel
theorem dX6_takeFrom_15 : decode cX6_takeFrom 15 = .ok (.iload_n 1, 1) := by decide +kernel
theorem dX6_takeFrom_16 : decode cX6_takeFrom 16 = .ok (.dup2, 1) := by decide +kernel
theorem dX6_takeFrom_17 : decode cX6_takeFrom 17 = .ok (.iaload, 1) := by decide +kernel
theorem dX6_takeFrom_18 : decode cX6_takeFrom 18 = .ok (.iload_n 3, 1) := by decide +kernel
theorem dX6_takeFrom_19 : decode cX6_takeFrom 19 = .ok (.isub, 1) := by decide +kernel
theorem dX6_takeFrom_20 : decode cX6_takeFrom 20 = .ok (.iastore, 1) := by decide +kernel
theorem dX6_takeFrom_21 : decode cX6_takeFrom 21 = .ok (.iload_n 2, 1) := by decide +kernel
theorem dX6_takeFrom_22 : decode cX6_takeFrom 22 = .ok (.iload_n 3, 1) := by decide +kernel
theorem dX6_takeFrom_23 : decode cX6_takeFrom 23 = .ok (.isub, 1) := by decide +kernel
theorem dX6_takeFrom_24 : decode cX6_takeFrom 24 = .ok (.ireturn, 1) := by decide +kernel
theorem dX6_writeDownShares_0 : decode cX6_writeDownShares 0 = .ok (.iconst 0, 1) := by decide +kernel
theorem dX6_writeDownShares_1 : decode cX6_writeDownShares 1 = .ok (.istore_n 2, 1) := by decide +kernel
theorem dX6_writeDownShares_2 : decode cX6_writeDownShares 2 = .ok (.iload_n 2, 1) := by decide +kernel
theorem dX6_writeDownShares_3 : decode cX6_writeDownShares 3 = .ok (.iconst 5, 1) := by decide +kernel
theorem dX6_writeDownShares_4 : decode cX6_writeDownShares 4 = .ok (.if_icmp .ge 25, 3) := by decide +kernel
theorem dX6_writeDownShares_7 : decode cX6_writeDownShares 7 = .ok (.aload_n 0, 1) := by decide +kernel
theorem dX6_writeDownShares_8 : decode cX6_writeDownShares 8 = .ok (.getfield 21, 3) := by decide +kernel
theorem dX6_writeDownShares_11 : decode cX6_writeDownShares 11 = .ok (.iload_n 1, 1) := by decide +kernel
theorem dX6_writeDownShares_12 : decode cX6_writeDownShares 12 = .ok (.iconst 5, 1) := by decide +kernel
theorem dX6_writeDownShares_13 : decode cX6_writeDownShares 13 = .ok (.imul, 1) := by decide +kernel
theorem dX6_writeDownShares_14 : decode cX6_writeDownShares 14 = .ok (.iload_n 2, 1) := by decide +kernel
theorem dX6_writeDownShares_15 : decode cX6_writeDownShares 15 = .ok (.iadd, 1) := by decide +kernel
theorem dX6_writeDownShares_16 : decode cX6_writeDownShares 16 = .ok (.aload_n 0, 1) := by decide +kernel
theorem dX6_writeDownShares_17 : decode cX6_writeDownShares 17 = .ok (.getfield 24, 3) := by decide +kernel
theorem dX6_writeDownShares_20 : decode cX6_writeDownShares 20 = .ok (.iload_n 2, 1) := by decide +kernel
theorem dX6_writeDownShares_21 : decode cX6_writeDownShares 21 = .ok (.iaload, 1) := by decide +kernel
theorem dX6_writeDownShares_22 : decode cX6_writeDownShares 22 = .ok (.iastore, 1) := by decide +kernel
theorem dX6_writeDownShares_23 : decode cX6_writeDownShares 23 = .ok (.iinc 2 1, 3) := by decide +kernel
theorem dX6_writeDownShares_26 : decode cX6_writeDownShares 26 = .ok (.goto (-24), 3) := by decide +kernel
theorem dX6_writeDownShares_29 : decode cX6_writeDownShares 29 = .ok (.return_, 1) := by decide +kernel
theorem dX6_shareAt_0 : decode cX6_shareAt 0 = .ok (.aload_n 0, 1) := by decide +kernel
theorem dX6_shareAt_1 : decode cX6_shareAt 1 = .ok (.getfield 21, 3) := by decide +kernel
theorem dX6_shareAt_4 : decode cX6_shareAt 4 = .ok (.iload_n 1, 1) := by decide +kernel
theorem dX6_shareAt_5 : decode cX6_shareAt 5 = .ok (.iconst 5, 1) := by decide +kernel
theorem dX6_shareAt_6 : decode cX6_shareAt 6 = .ok (.imul, 1) := by decide +kernel
theorem dX6_shareAt_7 : decode cX6_shareAt 7 = .ok (.iload_n 2, 1) := by decide +kernel
theorem dX6_shareAt_8 : decode cX6_shareAt 8 = .ok (.iadd, 1) := by decide +kernel
theorem dX6_shareAt_9 : decode cX6_shareAt 9 = .ok (.iaload, 1) := by decide +kernel
theorem dX6_shareAt_10 : decode cX6_shareAt 10 = .ok (.ireturn, 1) := by decide +kernel
theorem dX6_sharesOverPlaces_0 : decode cX6_sharesOverPlaces 0 = .ok (.lconst 0, 1) := by decide +kernel
theorem dX6_sharesOverPlaces_1 : decode cX6_sharesOverPlaces 1 = .ok (.lstore_n 3, 1) := by decide +kernel
theorem dX6_sharesOverPlaces_2 : decode cX6_sharesOverPlaces 2 = .ok (.iconst 1, 1) := by decide +kernel
theorem dX6_sharesOverPlaces_3 : decode cX6_sharesOverPlaces 3 = .ok (.istore 5, 2) := by decide +kernel
theorem dX6_sharesOverPlaces_5 : decode cX6_sharesOverPlaces 5 = .ok (.iload 5, 2) := by decide +kernel
theorem dX6_sharesOverPlaces_7 : decode cX6_sharesOverPlaces 7 = .ok (.iload_n 1, 1) := by decide +kernel
theorem dX6_sharesOverPlaces_8 : decode cX6_sharesOverPlaces 8 = .ok (.if_icmp .gt 31, 3) := by decide +kernel
theorem dX6_sharesOverPlaces_11 : decode cX6_sharesOverPlaces 11 = .ok (.aload_n 0, 1) := by decide +kernel
theorem dX6_sharesOverPlaces_12 : decode cX6_sharesOverPlaces 12 = .ok (.getfield 9, 3) := by decide +kernel
theorem dX6_sharesOverPlaces_15 : decode cX6_sharesOverPlaces 15 = .ok (.iload 5, 2) := by decide +kernel
theorem dX6_sharesOverPlaces_17 : decode cX6_sharesOverPlaces 17 = .ok (.iaload, 1) := by decide +kernel
theorem dX6_sharesOverPlaces_18 : decode cX6_sharesOverPlaces 18 = .ok (.iconst (-1), 1) := by decide +kernel
theorem dX6_sharesOverPlaces_19 : decode cX6_sharesOverPlaces 19 = .ok (.if_icmp .eq 14, 3) := by decide +kernel
theorem dX6_sharesOverPlaces_22 : decode cX6_sharesOverPlaces 22 = .ok (.lload_n 3, 1) := by decide +kernel
theorem dX6_sharesOverPlaces_23 : decode cX6_sharesOverPlaces 23 = .ok (.aload_n 0, 1) := by decide +kernel
theorem dX6_sharesOverPlaces_24 : decode cX6_sharesOverPlaces 24 = .ok (.iload 5, 2) := by decide +kernel
theorem dX6_sharesOverPlaces_26 : decode cX6_sharesOverPlaces 26 = .ok (.iload_n 2, 1) := by decide +kernel
theorem dX6_sharesOverPlaces_27 : decode cX6_sharesOverPlaces 27 = .ok (.invokevirtual 70, 3) := by decide +kernel
theorem dX6_sharesOverPlaces_30 : decode cX6_sharesOverPlaces 30 = .ok (.i2l, 1) := by decide +kernel
theorem dX6_sharesOverPlaces_31 : decode cX6_sharesOverPlaces 31 = .ok (.ladd, 1) := by decide +kernel
theorem dX6_sharesOverPlaces_32 : decode cX6_sharesOverPlaces 32 = .ok (.lstore_n 3, 1) := by decide +kernel
theorem dX6_sharesOverPlaces_33 : decode cX6_sharesOverPlaces 33 = .ok (.iinc 5 1, 3) := by decide +kernel
theorem dX6_sharesOverPlaces_36 : decode cX6_sharesOverPlaces 36 = .ok (.goto (-31), 3) := by decide +kernel
theorem dX6_sharesOverPlaces_39 : decode cX6_sharesOverPlaces 39 = .ok (.lload_n 3, 1) := by decide +kernel
theorem dX6_sharesOverPlaces_40 : decode cX6_sharesOverPlaces 40 = .ok (.lreturn, 1) := by decide +kernel
theorem dX7_init_0 : decode cX7_init 0 = .ok (.aload_n 0, 1) := by decide +kernel
theorem dX7_init_1 : decode cX7_init 1 = .ok (.invokespecial 3, 3) := by decide +kernel
theorem dX7_init_4 : decode cX7_init 4 = .ok (.aload_n 0, 1) := by decide +kernel
theorem dX7_init_5 : decode cX7_init 5 = .ok (.sipush 200, 3) := by decide +kernel
theorem dX7_init_8 : decode cX7_init 8 = .ok (.newarray .int, 2) := by decide +kernel
theorem dX7_init_10 : decode cX7_init 10 = .ok (.putfield 9, 3) := by decide +kernel
theorem dX7_init_13 : decode cX7_init 13 = .ok (.aload_n 0, 1) := by decide +kernel
theorem dX7_init_14 : decode cX7_init 14 = .ok (.iconst 0, 1) := by decide +kernel
theorem dX7_init_15 : decode cX7_init 15 = .ok (.putfield 15, 3) := by decide +kernel
theorem dX7_init_18 : decode cX7_init 18 = .ok (.return_, 1) := by decide +kernel
theorem dX7_addBytes_0 : decode cX7_addBytes 0 = .ok (.bipush 24, 2) := by decide +kernel
theorem dX7_addBytes_2 : decode cX7_addBytes 2 = .ok (.istore_n 2, 1) := by decide +kernel
theorem dX7_addBytes_3 : decode cX7_addBytes 3 = .ok (.iload_n 2, 1) := by decide +kernel
theorem dX7_addBytes_4 : decode cX7_addBytes 4 = .ok (.ifCond .lt 45, 3) := by decide +kernel
theorem dX7_addBytes_7 : decode cX7_addBytes 7 = .ok (.aload_n 0, 1) := by decide +kernel
theorem dX7_addBytes_8 : decode cX7_addBytes 8 = .ok (.getfield 15, 3) := by decide +kernel
theorem dX7_addBytes_11 : decode cX7_addBytes 11 = .ok (.sipush 200, 3) := by decide +kernel
theorem dX7_addBytes_14 : decode cX7_addBytes 14 = .ok (.if_icmp .ge 29, 3) := by decide +kernel
theorem dX7_addBytes_17 : decode cX7_addBytes 17 = .ok (.aload_n 0, 1) := by decide +kernel
theorem dX7_addBytes_18 : decode cX7_addBytes 18 = .ok (.getfield 9, 3) := by decide +kernel
theorem dX7_addBytes_21 : decode cX7_addBytes 21 = .ok (.aload_n 0, 1) := by decide +kernel
theorem dX7_addBytes_22 : decode cX7_addBytes 22 = .ok (.getfield 15, 3) := by decide +kernel
theorem dX7_addBytes_25 : decode cX7_addBytes 25 = .ok (.iload_n 1, 1) := by decide +kernel
theorem dX7_addBytes_26 : decode cX7_addBytes 26 = .ok (.iload_n 2, 1) := by decide +kernel
theorem dX7_addBytes_27 : decode cX7_addBytes 27 = .ok (.iushr, 1) := by decide +kernel
theorem dX7_addBytes_28 : decode cX7_addBytes 28 = .ok (.sipush 255, 3) := by decide +kernel
theorem dX7_addBytes_31 : decode cX7_addBytes 31 = .ok (.iand, 1) := by decide +kernel
theorem dX7_addBytes_32 : decode cX7_addBytes 32 = .ok (.iastore, 1) := by decide +kernel
theorem dX7_addBytes_33 : decode cX7_addBytes 33 = .ok (.aload_n 0, 1) := by decide +kernel
theorem dX7_addBytes_34 : decode cX7_addBytes 34 = .ok (.dup, 1) := by decide +kernel
theorem dX7_addBytes_35 : decode cX7_addBytes 35 = .ok (.getfield 15, 3) := by decide +kernel
theorem dX7_addBytes_38 : decode cX7_addBytes 38 = .ok (.iconst 1, 1) := by decide +kernel
theorem dX7_addBytes_39 : decode cX7_addBytes 39 = .ok (.iadd, 1) := by decide +kernel
theorem dX7_addBytes_40 : decode cX7_addBytes 40 = .ok (.putfield 15, 3) := by decide +kernel
theorem dX7_addBytes_43 : decode cX7_addBytes 43 = .ok (.iinc 2 (-8), 3) := by decide +kernel
theorem dX7_addBytes_46 : decode cX7_addBytes 46 = .ok (.goto (-43), 3) := by decide +kernel
theorem dX7_addBytes_49 : decode cX7_addBytes 49 = .ok (.return_, 1) := by decide +kernel
theorem dX8_init_0 : decode cX8_init 0 = .ok (.aload_n 0, 1) := by decide +kernel
theorem dX8_init_1 : decode cX8_init 1 = .ok (.invokespecial 3, 3) := by decide +kernel
theorem dX8_init_4 : decode cX8_init 4 = .ok (.aload_n 0, 1) := by decide +kernel
theorem dX8_init_5 : decode cX8_init 5 = .ok (.bipush 7, 2) := by decide +kernel
theorem dX8_init_7 : decode cX8_init 7 = .ok (.newarray .int, 2) := by decide +kernel
theorem dX8_init_9 : decode cX8_init 9 = .ok (.putfield 9, 3) := by decide +kernel
theorem dX8_init_12 : decode cX8_init 12 = .ok (.aload_n 0, 1) := by decide +kernel
theorem dX8_init_13 : decode cX8_init 13 = .ok (.bipush 6, 2) := by decide +kernel
theorem dX8_init_15 : decode cX8_init 15 = .ok (.newarray .int, 2) := by decide +kernel
theorem dX8_init_17 : decode cX8_init 17 = .ok (.putfield 15, 3) := by decide +kernel
theorem dX8_init_20 : decode cX8_init 20 = .ok (.aload_n 0, 1) := by decide +kernel
theorem dX8_init_21 : decode cX8_init 21 = .ok (.bipush 6, 2) := by decide +kernel
theorem dX8_init_23 : decode cX8_init 23 = .ok (.newarray .int, 2) := by decide +kernel
theorem dX8_init_25 : decode cX8_init 25 = .ok (.putfield 18, 3) := by decide +kernel
theorem dX8_init_28 : decode cX8_init 28 = .ok (.aload_n 0, 1) := by decide +kernel
theorem dX8_init_29 : decode cX8_init 29 = .ok (.bipush 6, 2) := by decide +kernel
theorem dX8_init_31 : decode cX8_init 31 = .ok (.newarray .int, 2) := by decide +kernel
theorem dX8_init_33 : decode cX8_init 33 = .ok (.putfield 21, 3) := by decide +kernel
theorem dX8_init_36 : decode cX8_init 36 = .ok (.aload_n 0, 1) := by decide +kernel
theorem dX8_init_37 : decode cX8_init 37 = .ok (.bipush 6, 2) := by decide +kernel
theorem dX8_init_39 : decode cX8_init 39 = .ok (.newarray .int, 2) := by decide +kernel
theorem dX8_init_41 : decode cX8_init 41 = .ok (.putfield 24, 3) := by decide +kernel
theorem dX8_init_44 : decode cX8_init 44 = .ok (.aload_n 0, 1) := by decide +kernel
theorem dX8_init_45 : decode cX8_init 45 = .ok (.bipush 6, 2) := by decide +kernel
theorem dX8_init_47 : decode cX8_init 47 = .ok (.newarray .int, 2) := by decide +kernel
theorem dX8_init_49 : decode cX8_init 49 = .ok (.putfield 27, 3) := by decide +kernel
theorem dX8_init_52 : decode cX8_init 52 = .ok (.aload_n 0, 1) := by decide +kernel
theorem dX8_init_53 : decode cX8_init 53 = .ok (.getfield 24, 3) := by decide +kernel
theorem dX8_init_56 : decode cX8_init 56 = .ok (.iconst (-1), 1) := by decide +kernel
theorem dX8_init_57 : decode cX8_init 57 = .ok (.invokestatic 30, 3) := by decide +kernel
theorem dX8_init_60 : decode cX8_init 60 = .ok (.aload_n 0, 1) := by decide +kernel
theorem dX8_init_61 : decode cX8_init 61 = .ok (.bipush 7, 2) := by decide +kernel
theorem dX8_init_63 : decode cX8_init 63 = .ok (.newarray .int, 2) := by decide +kernel
theorem dX8_init_65 : decode cX8_init 65 = .ok (.putfield 36, 3) := by decide +kernel
theorem dX8_init_68 : decode cX8_init 68 = .ok (.aload_n 0, 1) := by decide +kernel
theorem dX8_init_69 : decode cX8_init 69 = .ok (.bipush 7, 2) := by decide +kernel
theorem dX8_init_71 : decode cX8_init 71 = .ok (.newarray .int, 2) := by decide +kernel
theorem dX8_init_73 : decode cX8_init 73 = .ok (.putfield 39, 3) := by decide +kernel
theorem dX8_init_76 : decode cX8_init 76 = .ok (.return_, 1) := by decide +kernel
theorem dX8_begin_0 : decode cX8_begin 0 = .ok (.aload_n 0, 1) := by decide +kernel
theorem dX8_begin_1 : decode cX8_begin 1 = .ok (.iload_n 1, 1) := by decide +kernel
theorem dX8_begin_2 : decode cX8_begin 2 = .ok (.putfield 42, 3) := by decide +kernel
theorem dX8_begin_5 : decode cX8_begin 5 = .ok (.aload_n 0, 1) := by decide +kernel
theorem dX8_begin_6 : decode cX8_begin 6 = .ok (.iload_n 3, 1) := by decide +kernel
theorem dX8_begin_7 : decode cX8_begin 7 = .ok (.putfield 46, 3) := by decide +kernel
theorem dX8_begin_10 : decode cX8_begin 10 = .ok (.aload_n 0, 1) := by decide +kernel
theorem dX8_begin_11 : decode cX8_begin 11 = .ok (.iload 4, 2) := by decide +kernel
theorem dX8_begin_13 : decode cX8_begin 13 = .ok (.putfield 49, 3) := by decide +kernel
theorem dX8_begin_16 : decode cX8_begin 16 = .ok (.aload_n 0, 1) := by decide +kernel
theorem dX8_begin_17 : decode cX8_begin 17 = .ok (.iload 5, 2) := by decide +kernel
theorem dX8_begin_19 : decode cX8_begin 19 = .ok (.putfield 52, 3) := by decide +kernel
theorem dX8_begin_22 : decode cX8_begin 22 = .ok (.aload_n 0, 1) := by decide +kernel
theorem dX8_begin_23 : decode cX8_begin 23 = .ok (.iconst 0, 1) := by decide +kernel
theorem dX8_begin_24 : decode cX8_begin 24 = .ok (.putfield 55, 3) := by decide +kernel
theorem dX8_begin_27 : decode cX8_begin 27 = .ok (.aload_n 0, 1) := by decide +kernel
theorem dX8_begin_28 : decode cX8_begin 28 = .ok (.getfield 9, 3) := by decide +kernel
theorem dX8_begin_31 : decode cX8_begin 31 = .ok (.iconst 0, 1) := by decide +kernel
theorem dX8_begin_32 : decode cX8_begin 32 = .ok (.iload_n 2, 1) := by decide +kernel
theorem dX8_begin_33 : decode cX8_begin 33 = .ok (.iastore, 1) := by decide +kernel
theorem dX8_begin_34 : decode cX8_begin 34 = .ok (.aload_n 0, 1) := by decide +kernel
theorem dX8_begin_35 : decode cX8_begin 35 = .ok (.getfield 39, 3) := by decide +kernel
theorem dX8_begin_38 : decode cX8_begin 38 = .ok (.iconst 0, 1) := by decide +kernel
theorem dX8_begin_39 : decode cX8_begin 39 = .ok (.iload 5, 2) := by decide +kernel
theorem dX8_begin_41 : decode cX8_begin 41 = .ok (.iastore, 1) := by decide +kernel
theorem dX8_begin_42 : decode cX8_begin 42 = .ok (.return_, 1) := by decide +kernel
theorem dX8_hasPlace_0 : decode cX8_hasPlace 0 = .ok (.iload_n 1, 1) := by decide +kernel
theorem dX8_hasPlace_1 : decode cX8_hasPlace 1 = .ok (.ifCond .lt 15, 3) := by decide +kernel
theorem dX8_hasPlace_4 : decode cX8_hasPlace 4 = .ok (.iload_n 1, 1) := by decide +kernel
theorem dX8_hasPlace_5 : decode cX8_hasPlace 5 = .ok (.aload_n 0, 1) := by decide +kernel
theorem dX8_hasPlace_6 : decode cX8_hasPlace 6 = .ok (.getfield 55, 3) := by decide +kernel
theorem dX8_hasPlace_9 : decode cX8_hasPlace 9 = .ok (.if_icmp .gt 7, 3) := by decide +kernel
theorem dX8_hasPlace_12 : decode cX8_hasPlace 12 = .ok (.iconst 1, 1) := by decide +kernel
theorem dX8_hasPlace_13 : decode cX8_hasPlace 13 = .ok (.goto 4, 3) := by decide +kernel
theorem dX8_hasPlace_16 : decode cX8_hasPlace 16 = .ok (.iconst 0, 1) := by decide +kernel
theorem dX8_hasPlace_17 : decode cX8_hasPlace 17 = .ok (.ireturn, 1) := by decide +kernel
theorem dX8_comesTo_0 : decode cX8_comesTo 0 = .ok (.iload_n 1, 1) := by decide +kernel
theorem dX8_comesTo_1 : decode cX8_comesTo 1 = .ok (.iconst 1, 1) := by decide +kernel
theorem dX8_comesTo_2 : decode cX8_comesTo 2 = .ok (.if_icmp .lt 15, 3) := by decide +kernel
theorem dX8_comesTo_5 : decode cX8_comesTo 5 = .ok (.iload_n 1, 1) := by decide +kernel
theorem dX8_comesTo_6 : decode cX8_comesTo 6 = .ok (.aload_n 0, 1) := by decide +kernel
theorem dX8_comesTo_7 : decode cX8_comesTo 7 = .ok (.getfield 55, 3) := by decide +kernel
theorem dX8_comesTo_10 : decode cX8_comesTo 10 = .ok (.if_icmp .gt 7, 3) := by decide +kernel
theorem dX8_comesTo_13 : decode cX8_comesTo 13 = .ok (.iconst 1, 1) := by decide +kernel
theorem dX8_comesTo_14 : decode cX8_comesTo 14 = .ok (.goto 4, 3) := by decide +kernel
theorem dX8_comesTo_17 : decode cX8_comesTo 17 = .ok (.iconst 0, 1) := by decide +kernel
theorem dX8_comesTo_18 : decode cX8_comesTo 18 = .ok (.ireturn, 1) := by decide +kernel
theorem dX8_leavesFrom_0 : decode cX8_leavesFrom 0 = .ok (.iload_n 1, 1) := by decide +kernel
theorem dX8_leavesFrom_1 : decode cX8_leavesFrom 1 = .ok (.ifCond .lt 15, 3) := by decide +kernel
theorem dX8_leavesFrom_4 : decode cX8_leavesFrom 4 = .ok (.iload_n 1, 1) := by decide +kernel
theorem dX8_leavesFrom_5 : decode cX8_leavesFrom 5 = .ok (.aload_n 0, 1) := by decide +kernel
theorem dX8_leavesFrom_6 : decode cX8_leavesFrom 6 = .ok (.getfield 55, 3) := by decide +kernel
theorem dX8_leavesFrom_9 : decode cX8_leavesFrom 9 = .ok (.if_icmp .ge 7, 3) := by decide +kernel
theorem dX8_leavesFrom_12 : decode cX8_leavesFrom 12 = .ok (.iconst 1, 1) := by decide +kernel
theorem dX8_leavesFrom_13 : decode cX8_leavesFrom 13 = .ok (.goto 4, 3) := by decide +kernel
theorem dX8_leavesFrom_16 : decode cX8_leavesFrom 16 = .ok (.iconst 0, 1) := by decide +kernel
theorem dX8_leavesFrom_17 : decode cX8_leavesFrom 17 = .ok (.ireturn, 1) := by decide +kernel
theorem dX8_endPort_0 : decode cX8_endPort 0 = .ok (.aload_n 0, 1) := by decide +kernel
theorem dX8_endPort_1 : decode cX8_endPort 1 = .ok (.getfield 9, 3) := by decide +kernel
theorem dX8_endPort_4 : decode cX8_endPort 4 = .ok (.aload_n 0, 1) := by decide +kernel
theorem dX8_endPort_5 : decode cX8_endPort 5 = .ok (.getfield 55, 3) := by decide +kernel
theorem dX8_endPort_8 : decode cX8_endPort 8 = .ok (.iaload, 1) := by decide +kernel
theorem dX8_endPort_9 : decode cX8_endPort 9 = .ok (.ireturn, 1) := by decide +kernel
theorem dX8_addLeg_0 : decode cX8_addLeg 0 = .ok (.aload_n 0, 1) := by decide +kernel
theorem dX8_addLeg_1 : decode cX8_addLeg 1 = .ok (.getfield 55, 3) := by decide +kernel
theorem dX8_addLeg_4 : decode cX8_addLeg 4 = .ok (.istore 4, 2) := by decide +kernel
theorem dX8_addLeg_6 : decode cX8_addLeg 6 = .ok (.aload_n 0, 1) := by decide +kernel
theorem dX8_addLeg_7 : decode cX8_addLeg 7 = .ok (.getfield 15, 3) := by decide +kernel
theorem dX8_addLeg_10 : decode cX8_addLeg 10 = .ok (.iload 4, 2) := by decide +kernel
theorem dX8_addLeg_12 : decode cX8_addLeg 12 = .ok (.iload_n 1, 1) := by decide +kernel
theorem dX8_addLeg_13 : decode cX8_addLeg 13 = .ok (.iastore, 1) := by decide +kernel
theorem dX8_addLeg_14 : decode cX8_addLeg 14 = .ok (.aload_n 0, 1) := by decide +kernel
theorem dX8_addLeg_15 : decode cX8_addLeg 15 = .ok (.getfield 18, 3) := by decide +kernel
theorem dX8_addLeg_18 : decode cX8_addLeg 18 = .ok (.iload 4, 2) := by decide +kernel
theorem dX8_addLeg_20 : decode cX8_addLeg 20 = .ok (.iload_n 3, 1) := by decide +kernel
theorem dX8_addLeg_21 : decode cX8_addLeg 21 = .ok (.aload_n 0, 1) := by decide +kernel
theorem dX8_addLeg_22 : decode cX8_addLeg 22 = .ok (.getfield 46, 3) := by decide +kernel
theorem dX8_addLeg_25 : decode cX8_addLeg 25 = .ok (.invokestatic 58, 3) := by decide +kernel
theorem dX8_addLeg_28 : decode cX8_addLeg 28 = .ok (.iastore, 1) := by decide +kernel
theorem dX8_addLeg_29 : decode cX8_addLeg 29 = .ok (.aload_n 0, 1) := by decide +kernel
theorem dX8_addLeg_30 : decode cX8_addLeg 30 = .ok (.getfield 9, 3) := by decide +kernel
theorem dX8_addLeg_33 : decode cX8_addLeg 33 = .ok (.iload 4, 2) := by decide +kernel
theorem dX8_addLeg_35 : decode cX8_addLeg 35 = .ok (.iconst 1, 1) := by decide +kernel
theorem dX8_addLeg_36 : decode cX8_addLeg 36 = .ok (.iadd, 1) := by decide +kernel
theorem dX8_addLeg_37 : decode cX8_addLeg 37 = .ok (.iload_n 2, 1) := by decide +kernel
theorem dX8_addLeg_38 : decode cX8_addLeg 38 = .ok (.iastore, 1) := by decide +kernel
theorem dX8_addLeg_39 : decode cX8_addLeg 39 = .ok (.aload_n 0, 1) := by decide +kernel
theorem dX8_addLeg_40 : decode cX8_addLeg 40 = .ok (.getfield 36, 3) := by decide +kernel
theorem dX8_addLeg_43 : decode cX8_addLeg 43 = .ok (.iload 4, 2) := by decide +kernel
theorem dX8_addLeg_45 : decode cX8_addLeg 45 = .ok (.iconst 1, 1) := by decide +kernel
theorem dX8_addLeg_46 : decode cX8_addLeg 46 = .ok (.iadd, 1) := by decide +kernel
theorem dX8_addLeg_47 : decode cX8_addLeg 47 = .ok (.aload_n 0, 1) := by decide +kernel
theorem dX8_addLeg_48 : decode cX8_addLeg 48 = .ok (.getfield 39, 3) := by decide +kernel
theorem dX8_addLeg_51 : decode cX8_addLeg 51 = .ok (.iload 4, 2) := by decide +kernel
theorem dX8_addLeg_53 : decode cX8_addLeg 53 = .ok (.iaload, 1) := by decide +kernel
theorem dX8_addLeg_54 : decode cX8_addLeg 54 = .ok (.aload_n 0, 1) := by decide +kernel
theorem dX8_addLeg_55 : decode cX8_addLeg 55 = .ok (.getfield 18, 3) := by decide +kernel
theorem dX8_addLeg_58 : decode cX8_addLeg 58 = .ok (.iload 4, 2) := by decide +kernel
theorem dX8_addLeg_60 : decode cX8_addLeg 60 = .ok (.iaload, 1) := by decide +kernel
theorem dX8_addLeg_61 : decode cX8_addLeg 61 = .ok (.iadd, 1) := by decide +kernel
theorem dX8_addLeg_62 : decode cX8_addLeg 62 = .ok (.iastore, 1) := by decide +kernel
theorem dX8_addLeg_63 : decode cX8_addLeg 63 = .ok (.aload_n 0, 1) := by decide +kernel
theorem dX8_addLeg_64 : decode cX8_addLeg 64 = .ok (.getfield 39, 3) := by decide +kernel
theorem dX8_addLeg_67 : decode cX8_addLeg 67 = .ok (.iload 4, 2) := by decide +kernel
theorem dX8_addLeg_69 : decode cX8_addLeg 69 = .ok (.iconst 1, 1) := by decide +kernel
theorem dX8_addLeg_70 : decode cX8_addLeg 70 = .ok (.iadd, 1) := by decide +kernel
theorem dX8_addLeg_71 : decode cX8_addLeg 71 = .ok (.aload_n 0, 1) := by decide +kernel
theorem dX8_addLeg_72 : decode cX8_addLeg 72 = .ok (.getfield 36, 3) := by decide +kernel
theorem dX8_addLeg_75 : decode cX8_addLeg 75 = .ok (.iload 4, 2) := by decide +kernel
theorem dX8_addLeg_77 : decode cX8_addLeg 77 = .ok (.iconst 1, 1) := by decide +kernel
theorem dX8_addLeg_78 : decode cX8_addLeg 78 = .ok (.iadd, 1) := by decide +kernel
theorem dX8_addLeg_79 : decode cX8_addLeg 79 = .ok (.iaload, 1) := by decide +kernel
theorem dX8_addLeg_80 : decode cX8_addLeg 80 = .ok (.aload_n 0, 1) := by decide +kernel
theorem dX8_addLeg_81 : decode cX8_addLeg 81 = .ok (.getfield 49, 3) := by decide +kernel
theorem dX8_addLeg_84 : decode cX8_addLeg 84 = .ok (.iadd, 1) := by decide +kernel
theorem dX8_addLeg_85 : decode cX8_addLeg 85 = .ok (.iastore, 1) := by decide +kernel
theorem dX8_addLeg_86 : decode cX8_addLeg 86 = .ok (.aload_n 0, 1) := by decide +kernel
theorem dX8_addLeg_87 : decode cX8_addLeg 87 = .ok (.iload 4, 2) := by decide +kernel
theorem dX8_addLeg_89 : decode cX8_addLeg 89 = .ok (.iconst 1, 1) := by decide +kernel
theorem dX8_addLeg_90 : decode cX8_addLeg 90 = .ok (.iadd, 1) := by decide +kernel
theorem dX8_addLeg_91 : decode cX8_addLeg 91 = .ok (.putfield 55, 3) := by decide +kernel
theorem dX8_addLeg_94 : decode cX8_addLeg 94 = .ok (.return_, 1) := by decide +kernel
theorem dX8_lateAt_0 : decode cX8_lateAt 0 = .ok (.iconst 0, 1) := by decide +kernel
theorem dX8_lateAt_1 : decode cX8_lateAt 1 = .ok (.iload_n 2, 1) := by decide +kernel
theorem dX8_lateAt_2 : decode cX8_lateAt 2 = .ok (.aload_n 0, 1) := by decide +kernel
theorem dX8_lateAt_3 : decode cX8_lateAt 3 = .ok (.getfield 36, 3) := by decide +kernel
theorem dX8_lateAt_6 : decode cX8_lateAt 6 = .ok (.iload_n 1, 1) := by decide +kernel
theorem dX8_lateAt_7 : decode cX8_lateAt 7 = .ok (.iaload, 1) := by decide +kernel
theorem dX8_lateAt_8 : decode cX8_lateAt 8 = .ok (.isub, 1) := by decide +kernel
theorem dX8_lateAt_9 : decode cX8_lateAt 9 = .ok (.invokestatic 62, 3) := by decide +kernel
theorem dX8_lateAt_12 : decode cX8_lateAt 12 = .ok (.ireturn, 1) := by decide +kernel
theorem dX9_init_0 : decode cX9_init 0 = .ok (.aload_n 0, 1) := by decide +kernel
theorem dX9_init_1 : decode cX9_init 1 = .ok (.invokespecial 1, 3) := by decide +kernel
theorem dX9_init_4 : decode cX9_init 4 = .ok (.aload_n 0, 1) := by decide +kernel
theorem dX9_init_5 : decode cX9_init 5 = .ok (.new 7, 3) := by decide +kernel
theorem dX9_init_8 : decode cX9_init 8 = .ok (.dup, 1) := by decide +kernel
theorem dX9_init_9 : decode cX9_init 9 = .ok (.invokespecial 9, 3) := by decide +kernel
theorem dX9_init_12 : decode cX9_init 12 = .ok (.putfield 10, 3) := by decide +kernel
theorem dX9_init_15 : decode cX9_init 15 = .ok (.aload_n 0, 1) := by decide +kernel
theorem dX9_init_16 : decode cX9_init 16 = .ok (.new 16, 3) := by decide +kernel
theorem dX9_init_19 : decode cX9_init 19 = .ok (.dup, 1) := by decide +kernel
theorem dX9_init_20 : decode cX9_init 20 = .ok (.invokespecial 18, 3) := by decide +kernel
theorem dX9_init_23 : decode cX9_init 23 = .ok (.putfield 19, 3) := by decide +kernel
theorem dX9_init_26 : decode cX9_init 26 = .ok (.aload_n 0, 1) := by decide +kernel
theorem dX9_init_27 : decode cX9_init 27 = .ok (.new 23, 3) := by decide +kernel
theorem dX9_init_30 : decode cX9_init 30 = .ok (.dup, 1) := by decide +kernel
theorem dX9_init_31 : decode cX9_init 31 = .ok (.invokespecial 25, 3) := by decide +kernel
theorem dX9_init_34 : decode cX9_init 34 = .ok (.putfield 26, 3) := by decide +kernel
theorem dX9_init_37 : decode cX9_init 37 = .ok (.aload_n 0, 1) := by decide +kernel
theorem dX9_init_38 : decode cX9_init 38 = .ok (.new 30, 3) := by decide +kernel
theorem dX9_init_41 : decode cX9_init 41 = .ok (.dup, 1) := by decide +kernel
theorem dX9_init_42 : decode cX9_init 42 = .ok (.invokespecial 32, 3) := by decide +kernel
theorem dX9_init_45 : decode cX9_init 45 = .ok (.putfield 33, 3) := by decide +kernel
theorem dX9_init_48 : decode cX9_init 48 = .ok (.aload_n 0, 1) := by decide +kernel
theorem dX9_init_49 : decode cX9_init 49 = .ok (.new 37, 3) := by decide +kernel
theorem dX9_init_52 : decode cX9_init 52 = .ok (.dup, 1) := by decide +kernel
theorem dX9_init_53 : decode cX9_init 53 = .ok (.invokespecial 39, 3) := by decide +kernel
theorem dX9_init_56 : decode cX9_init 56 = .ok (.putfield 40, 3) := by decide +kernel
theorem dX9_init_59 : decode cX9_init 59 = .ok (.return_, 1) := by decide +kernel
theorem dX9_feed_0 : decode cX9_feed 0 = .ok (.aload_n 0, 1) := by decide +kernel
theorem dX9_feed_1 : decode cX9_feed 1 = .ok (.getfield 19, 3) := by decide +kernel
theorem dX9_feed_4 : decode cX9_feed 4 = .ok (.getfield 44, 3) := by decide +kernel
theorem dX9_feed_7 : decode cX9_feed 7 = .ok (.bipush 20, 2) := by decide +kernel
theorem dX9_feed_9 : decode cX9_feed 9 = .ok (.iadd, 1) := by decide +kernel
theorem dX9_feed_10 : decode cX9_feed 10 = .ok (.sipush 200, 3) := by decide +kernel
theorem dX9_feed_13 : decode cX9_feed 13 = .ok (.if_icmp .le 5, 3) := by decide +kernel
theorem dX9_feed_16 : decode cX9_feed 16 = .ok (.iconst (-1), 1) := by decide +kernel
theorem dX9_feed_17 : decode cX9_feed 17 = .ok (.ireturn, 1) := by decide +kernel
theorem dX9_feed_18 : decode cX9_feed 18 = .ok (.aload_n 0, 1) := by decide +kernel
theorem dX9_feed_19 : decode cX9_feed 19 = .ok (.getfield 19, 3) := by decide +kernel
theorem dX9_feed_22 : decode cX9_feed 22 = .ok (.iload_n 1, 1) := by decide +kernel
theorem dX9_feed_23 : decode cX9_feed 23 = .ok (.invokevirtual 48, 3) := by decide +kernel
theorem dX9_feed_26 : decode cX9_feed 26 = .ok (.aload_n 0, 1) := by decide +kernel
theorem dX9_feed_27 : decode cX9_feed 27 = .ok (.getfield 19, 3) := by decide +kernel
theorem dX9_feed_30 : decode cX9_feed 30 = .ok (.iload_n 2, 1) := by decide +kernel
theorem dX9_feed_31 : decode cX9_feed 31 = .ok (.invokevirtual 48, 3) := by decide +kernel
theorem dX9_feed_34 : decode cX9_feed 34 = .ok (.aload_n 0, 1) := by decide +kernel
theorem dX9_feed_35 : decode cX9_feed 35 = .ok (.getfield 19, 3) := by decide +kernel
theorem dX9_feed_38 : decode cX9_feed 38 = .ok (.iload_n 3, 1) := by decide +kernel
theorem dX9_feed_39 : decode cX9_feed 39 = .ok (.invokevirtual 48, 3) := by decide +kernel
theorem dX9_feed_42 : decode cX9_feed 42 = .ok (.aload_n 0, 1) := by decide +kernel
theorem dX9_feed_43 : decode cX9_feed 43 = .ok (.getfield 19, 3) := by decide +kernel
theorem dX9_feed_46 : decode cX9_feed 46 = .ok (.iload 4, 2) := by decide +kernel
theorem dX9_feed_48 : decode cX9_feed 48 = .ok (.invokevirtual 48, 3) := by decide +kernel
theorem dX9_feed_51 : decode cX9_feed 51 = .ok (.aload_n 0, 1) := by decide +kernel
theorem dX9_feed_52 : decode cX9_feed 52 = .ok (.getfield 19, 3) := by decide +kernel
theorem dX9_feed_55 : decode cX9_feed 55 = .ok (.iload 5, 2) := by decide +kernel
theorem dX9_feed_57 : decode cX9_feed 57 = .ok (.invokevirtual 48, 3) := by decide +kernel
theorem dX9_feed_60 : decode cX9_feed 60 = .ok (.aload_n 0, 1) := by decide +kernel
theorem dX9_feed_61 : decode cX9_feed 61 = .ok (.getfield 19, 3) := by decide +kernel
theorem dX9_feed_64 : decode cX9_feed 64 = .ok (.getfield 44, 3) := by decide +kernel
theorem dX9_feed_67 : decode cX9_feed 67 = .ok (.ireturn, 1) := by decide +kernel
theorem dX9_passage_0 : decode cX9_passage 0 = .ok (.iload_n 1, 1) := by decide +kernel
theorem dX9_passage_1 : decode cX9_passage 1 = .ok (.iload_n 2, 1) := by decide +kernel
theorem dX9_passage_2 : decode cX9_passage 2 = .ok (.invokestatic 52, 3) := by decide +kernel
theorem dX9_passage_5 : decode cX9_passage 5 = .ok (.ifCond .eq 30, 3) := by decide +kernel
theorem dX9_passage_8 : decode cX9_passage 8 = .ok (.iload_n 3, 1) := by decide +kernel
theorem dX9_passage_9 : decode cX9_passage 9 = .ok (.iconst 1, 1) := by decide +kernel
theorem dX9_passage_10 : decode cX9_passage 10 = .ok (.if_icmp .lt 25, 3) := by decide +kernel
theorem dX9_passage_13 : decode cX9_passage 13 = .ok (.iload_n 3, 1) := by decide +kernel
theorem dX9_passage_14 : decode cX9_passage 14 = .ok (.sipush 9999, 3) := by decide +kernel
theorem dX9_passage_17 : decode cX9_passage 17 = .ok (.if_icmp .gt 18, 3) := by decide +kernel
theorem dX9_passage_20 : decode cX9_passage 20 = .ok (.aload_n 0, 1) := by decide +kernel
theorem dX9_passage_21 : decode cX9_passage 21 = .ok (.getfield 10, 3) := by decide +kernel
theorem dX9_passage_24 : decode cX9_passage 24 = .ok (.getfield 56, 3) := by decide +kernel
theorem dX9_passage_27 : decode cX9_passage 27 = .ok (.getfield 60, 3) := by decide +kernel
theorem dX9_passage_30 : decode cX9_passage 30 = .ok (.bipush 12, 2) := by decide +kernel
theorem dX9_passage_32 : decode cX9_passage 32 = .ok (.if_icmp .lt 5, 3) := by decide +kernel
theorem dX9_passage_35 : decode cX9_passage 35 = .ok (.iconst (-1), 1) := by decide +kernel
theorem dX9_passage_36 : decode cX9_passage 36 = .ok (.ireturn, 1) := by decide +kernel
theorem dX9_passage_37 : decode cX9_passage 37 = .ok (.aload_n 0, 1) := by decide +kernel
theorem dX9_passage_38 : decode cX9_passage 38 = .ok (.getfield 10, 3) := by decide +kernel
theorem dX9_passage_41 : decode cX9_passage 41 = .ok (.getfield 56, 3) := by decide +kernel
theorem dX9_passage_44 : decode cX9_passage 44 = .ok (.iload_n 1, 1) := by decide +kernel
theorem dX9_passage_45 : decode cX9_passage 45 = .ok (.iload_n 2, 1) := by decide +kernel
theorem dX9_passage_46 : decode cX9_passage 46 = .ok (.iload_n 3, 1) := by decide +kernel
theorem dX9_passage_47 : decode cX9_passage 47 = .ok (.invokevirtual 63, 3) := by decide +kernel
theorem dX9_passage_50 : decode cX9_passage 50 = .ok (.ireturn, 1) := by decide +kernel
theorem dX9_wind_0 : decode cX9_wind 0 = .ok (.aload_n 0, 1) := by decide +kernel
theorem dX9_wind_1 : decode cX9_wind 1 = .ok (.getfield 10, 3) := by decide +kernel
theorem dX9_wind_4 : decode cX9_wind 4 = .ok (.getfield 56, 3) := by decide +kernel
theorem dX9_wind_7 : decode cX9_wind 7 = .ok (.iload_n 1, 1) := by decide +kernel
theorem dX9_wind_8 : decode cX9_wind 8 = .ok (.invokevirtual 67, 3) := by decide +kernel
theorem dX9_wind_11 : decode cX9_wind 11 = .ok (.ifCond .eq 13, 3) := by decide +kernel
theorem dX9_wind_14 : decode cX9_wind 14 = .ok (.iload_n 2, 1) := by decide +kernel
theorem dX9_wind_15 : decode cX9_wind 15 = .ok (.ifCond .lt 9, 3) := by decide +kernel
theorem dX9_wind_18 : decode cX9_wind 18 = .ok (.iload_n 2, 1) := by decide +kernel
theorem dX9_wind_19 : decode cX9_wind 19 = .ok (.bipush 12, 2) := by decide +kernel
theorem dX9_wind_21 : decode cX9_wind 21 = .ok (.if_icmp .lt 5, 3) := by decide +kernel
theorem dX9_wind_24 : decode cX9_wind 24 = .ok (.iconst 0, 1) := by decide +kernel
theorem dX9_wind_25 : decode cX9_wind 25 = .ok (.ireturn, 1) := by decide +kernel
theorem dX9_wind_26 : decode cX9_wind 26 = .ok (.dload_n 3, 1) := by decide +kernel
theorem dX9_wind_27 : decode cX9_wind 27 = .ok (.dload_n 3, 1) := by decide +kernel
theorem dX9_wind_28 : decode cX9_wind 28 = .ok (.dcmp .l, 1) := by decide +kernel
theorem dX9_wind_29 : decode cX9_wind 29 = .ok (.ifCond .eq 7, 3) := by decide +kernel
theorem dX9_wind_32 : decode cX9_wind 32 = .ok (.dconst 0, 1) := by decide +kernel
theorem dX9_wind_33 : decode cX9_wind 33 = .ok (.goto 4, 3) := by decide +kernel
theorem dX9_wind_36 : decode cX9_wind 36 = .ok (.dload_n 3, 1) := by decide +kernel
theorem dX9_wind_37 : decode cX9_wind 37 = .ok (.dstore 5, 2) := by decide +kernel
theorem dX9_wind_39 : decode cX9_wind 39 = .ok (.dload 5, 2) := by decide +kernel
theorem dX9_wind_41 : decode cX9_wind 41 = .ok (.ldc2_w 71, 3) := by decide +kernel
theorem dX9_wind_44 : decode cX9_wind 44 = .ok (.dcmp .l, 1) := by decide +kernel
theorem dX9_wind_45 : decode cX9_wind 45 = .ok (.ifCond .lt 12, 3) := by decide +kernel
theorem dX9_wind_48 : decode cX9_wind 48 = .ok (.dload 5, 2) := by decide +kernel
theorem dX9_wind_50 : decode cX9_wind 50 = .ok (.ldc2_w 73, 3) := by decide +kernel
theorem dX9_wind_53 : decode cX9_wind 53 = .ok (.dcmp .g, 1) := by decide +kernel
theorem dX9_wind_54 : decode cX9_wind 54 = .ok (.ifCond .lt 5, 3) := by decide +kernel
theorem dX9_wind_57 : decode cX9_wind 57 = .ok (.iconst 0, 1) := by decide +kernel
theorem dX9_wind_58 : decode cX9_wind 58 = .ok (.ireturn, 1) := by decide +kernel
theorem dX9_wind_59 : decode cX9_wind 59 = .ok (.aload_n 0, 1) := by decide +kernel
theorem dX9_wind_60 : decode cX9_wind 60 = .ok (.getfield 10, 3) := by decide +kernel
theorem dX9_wind_63 : decode cX9_wind 63 = .ok (.getfield 56, 3) := by decide +kernel
theorem dX9_wind_66 : decode cX9_wind 66 = .ok (.getfield 75, 3) := by decide +kernel
theorem dX9_wind_69 : decode cX9_wind 69 = .ok (.iload_n 1, 1) := by decide +kernel
theorem dX9_wind_70 : decode cX9_wind 70 = .ok (.bipush 12, 2) := by decide +kernel
theorem dX9_wind_72 : decode cX9_wind 72 = .ok (.imul, 1) := by decide +kernel
theorem dX9_wind_73 : decode cX9_wind 73 = .ok (.iload_n 2, 1) := by decide +kernel
theorem dX9_wind_74 : decode cX9_wind 74 = .ok (.iadd, 1) := by decide +kernel
theorem dX9_wind_75 : decode cX9_wind 75 = .ok (.dload 5, 2) := by decide +kernel
theorem dX9_wind_77 : decode cX9_wind 77 = .ok (.invokestatic 79, 3) := by decide +kernel
theorem dX9_wind_80 : decode cX9_wind 80 = .ok (.iastore, 1) := by decide +kernel
theorem dX9_wind_81 : decode cX9_wind 81 = .ok (.aload_n 0, 1) := by decide +kernel
theorem dX9_wind_82 : decode cX9_wind 82 = .ok (.getfield 33, 3) := by decide +kernel
theorem dX9_wind_85 : decode cX9_wind 85 = .ok (.iconst 1, 1) := by decide +kernel
theorem dX9_wind_86 : decode cX9_wind 86 = .ok (.putfield 83, 3) := by decide +kernel
theorem dX9_wind_89 : decode cX9_wind 89 = .ok (.iconst 1, 1) := by decide +kernel
theorem dX9_wind_90 : decode cX9_wind 90 = .ok (.ireturn, 1) := by decide +kernel
theorem dX9_voyage_0 : decode cX9_voyage 0 = .ok (.iload_n 1, 1) := by decide +kernel
theorem dX9_voyage_1 : decode cX9_voyage 1 = .ok (.invokestatic 87, 3) := by decide +kernel
theorem dX9_voyage_4 : decode cX9_voyage 4 = .ok (.ifCond .eq 21, 3) := by decide +kernel
theorem dX9_voyage_7 : decode cX9_voyage 7 = .ok (.iload_n 2, 1) := by decide +kernel
theorem dX9_voyage_8 : decode cX9_voyage 8 = .ok (.invokestatic 90, 3) := by decide +kernel
theorem dX9_voyage_11 : decode cX9_voyage 11 = .ok (.ifCond .eq 14, 3) := by decide +kernel
theorem dX9_voyage_14 : decode cX9_voyage 14 = .ok (.iload_n 3, 1) := by decide +kernel
theorem dX9_voyage_15 : decode cX9_voyage 15 = .ok (.iconst 1, 1) := by decide +kernel
theorem dX9_voyage_16 : decode cX9_voyage 16 = .ok (.if_icmp .lt 9, 3) := by decide +kernel
theorem dX9_voyage_19 : decode cX9_voyage 19 = .ok (.iload_n 3, 1) := by decide +kernel
theorem dX9_voyage_20 : decode cX9_voyage 20 = .ok (.bipush 30, 2) := by decide +kernel
theorem dX9_voyage_22 : decode cX9_voyage 22 = .ok (.if_icmp .le 5, 3) := by decide +kernel
theorem dX9_voyage_25 : decode cX9_voyage 25 = .ok (.iconst (-1), 1) := by decide +kernel
theorem dX9_voyage_26 : decode cX9_voyage 26 = .ok (.ireturn, 1) := by decide +kernel
theorem dX9_voyage_27 : decode cX9_voyage 27 = .ok (.iload 4, 2) := by decide +kernel
theorem dX9_voyage_29 : decode cX9_voyage 29 = .ok (.iconst 1, 1) := by decide +kernel
theorem dX9_voyage_30 : decode cX9_voyage 30 = .ok (.if_icmp .lt 23, 3) := by decide +kernel
theorem dX9_voyage_33 : decode cX9_voyage 33 = .ok (.iload 4, 2) := by decide +kernel
theorem dX9_voyage_35 : decode cX9_voyage 35 = .ok (.bipush 48, 2) := by decide +kernel
theorem dX9_voyage_37 : decode cX9_voyage 37 = .ok (.if_icmp .gt 16, 3) := by decide +kernel
theorem dX9_voyage_40 : decode cX9_voyage 40 = .ok (.iload 5, 2) := by decide +kernel
theorem dX9_voyage_42 : decode cX9_voyage 42 = .ok (.ifCond .lt 11, 3) := by decide +kernel
theorem dX9_voyage_45 : decode cX9_voyage 45 = .ok (.iload 5, 2) := by decide +kernel
theorem dX9_voyage_47 : decode cX9_voyage 47 = .ok (.sipush 5000, 3) := by decide +kernel
theorem dX9_voyage_50 : decode cX9_voyage 50 = .ok (.if_icmp .le 5, 3) := by decide +kernel
theorem dX9_voyage_53 : decode cX9_voyage 53 = .ok (.iconst (-1), 1) := by decide +kernel
theorem dX9_voyage_54 : decode cX9_voyage 54 = .ok (.ireturn, 1) := by decide +kernel
theorem dX9_voyage_55 : decode cX9_voyage 55 = .ok (.aload_n 0, 1) := by decide +kernel
theorem dX9_voyage_56 : decode cX9_voyage 56 = .ok (.getfield 10, 3) := by decide +kernel
theorem dX9_voyage_59 : decode cX9_voyage 59 = .ok (.getfield 93, 3) := by decide +kernel
theorem dX9_voyage_62 : decode cX9_voyage 62 = .ok (.bipush 10, 2) := by decide +kernel
theorem dX9_voyage_64 : decode cX9_voyage 64 = .ok (.if_icmp .lt 5, 3) := by decide +kernel
theorem dX9_voyage_67 : decode cX9_voyage 67 = .ok (.iconst (-1), 1) := by decide +kernel
theorem dX9_voyage_68 : decode cX9_voyage 68 = .ok (.ireturn, 1) := by decide +kernel
theorem dX9_voyage_69 : decode cX9_voyage 69 = .ok (.aload_n 0, 1) := by decide +kernel
theorem dX9_voyage_70 : decode cX9_voyage 70 = .ok (.getfield 10, 3) := by decide +kernel
theorem dX9_voyage_73 : decode cX9_voyage 73 = .ok (.getfield 93, 3) := by decide +kernel
theorem dX9_voyage_76 : decode cX9_voyage 76 = .ok (.istore 6, 2) := by decide +kernel
theorem dX9_voyage_78 : decode cX9_voyage 78 = .ok (.aload_n 0, 1) := by decide +kernel
theorem dX9_voyage_79 : decode cX9_voyage 79 = .ok (.getfield 10, 3) := by decide +kernel
theorem dX9_voyage_82 : decode cX9_voyage 82 = .ok (.getfield 96, 3) := by decide +kernel
theorem dX9_voyage_85 : decode cX9_voyage 85 = .ok (.iload 6, 2) := by decide +kernel
theorem dX9_voyage_87 : decode cX9_voyage 87 = .ok (.aaload, 1) := by decide +kernel
theorem dX9_voyage_88 : decode cX9_voyage 88 = .ok (.iload_n 1, 1) := by decide +kernel
theorem dX9_voyage_89 : decode cX9_voyage 89 = .ok (.iload_n 2, 1) := by decide +kernel
theorem dX9_voyage_90 : decode cX9_voyage 90 = .ok (.iload_n 3, 1) := by decide +kernel
theorem dX9_voyage_91 : decode cX9_voyage 91 = .ok (.iload 4, 2) := by decide +kernel
theorem dX9_voyage_93 : decode cX9_voyage 93 = .ok (.iload 5, 2) := by decide +kernel
theorem dX9_voyage_95 : decode cX9_voyage 95 = .ok (.invokevirtual 100, 3) := by decide +kernel
theorem dX9_voyage_98 : decode cX9_voyage 98 = .ok (.aload_n 0, 1) := by decide +kernel
theorem dX9_voyage_99 : decode cX9_voyage 99 = .ok (.getfield 10, 3) := by decide +kernel
theorem dX9_voyage_102 : decode cX9_voyage 102 = .ok (.iload 6, 2) := by decide +kernel
theorem dX9_voyage_104 : decode cX9_voyage 104 = .ok (.iconst 1, 1) := by decide +kernel
theorem dX9_voyage_105 : decode cX9_voyage 105 = .ok (.iadd, 1) := by decide +kernel
theorem dX9_voyage_106 : decode cX9_voyage 106 = .ok (.putfield 93, 3) := by decide +kernel
theorem dX9_voyage_109 : decode cX9_voyage 109 = .ok (.aload_n 0, 1) := by decide +kernel
theorem dX9_voyage_110 : decode cX9_voyage 110 = .ok (.getfield 33, 3) := by decide +kernel
theorem dX9_voyage_113 : decode cX9_voyage 113 = .ok (.iconst 1, 1) := by decide +kernel
theorem dX9_voyage_114 : decode cX9_voyage 114 = .ok (.putfield 83, 3) := by decide +kernel
theorem dX9_voyage_117 : decode cX9_voyage 117 = .ok (.iload 6, 2) := by decide +kernel
theorem dX9_voyage_119 : decode cX9_voyage 119 = .ok (.ireturn, 1) := by decide +kernel
theorem dX9_leg_0 : decode cX9_leg 0 = .ok (.aload_n 0, 1) := by decide +kernel
theorem dX9_leg_1 : decode cX9_leg 1 = .ok (.getfield 10, 3) := by decide +kernel
theorem dX9_leg_4 : decode cX9_leg 4 = .ok (.iload_n 1, 1) := by decide +kernel
theorem dX9_leg_5 : decode cX9_leg 5 = .ok (.invokevirtual 106, 3) := by decide +kernel
theorem dX9_leg_8 : decode cX9_leg 8 = .ok (.ifCond .eq 34, 3) := by decide +kernel
theorem dX9_leg_11 : decode cX9_leg 11 = .ok (.aload_n 0, 1) := by decide +kernel
theorem dX9_leg_12 : decode cX9_leg 12 = .ok (.getfield 10, 3) := by decide +kernel
theorem dX9_leg_15 : decode cX9_leg 15 = .ok (.getfield 56, 3) := by decide +kernel
theorem dX9_leg_18 : decode cX9_leg 18 = .ok (.iload_n 2, 1) := by decide +kernel
theorem dX9_leg_19 : decode cX9_leg 19 = .ok (.invokevirtual 67, 3) := by decide +kernel
theorem dX9_leg_22 : decode cX9_leg 22 = .ok (.ifCond .eq 20, 3) := by decide +kernel
theorem dX9_leg_25 : decode cX9_leg 25 = .ok (.aload_n 0, 1) := by decide +kernel
theorem dX9_leg_26 : decode cX9_leg 26 = .ok (.getfield 10, 3) := by decide +kernel
theorem dX9_leg_29 : decode cX9_leg 29 = .ok (.getfield 96, 3) := by decide +kernel
theorem dX9_leg_32 : decode cX9_leg 32 = .ok (.iload_n 1, 1) := by decide +kernel
theorem dX9_leg_33 : decode cX9_leg 33 = .ok (.aaload, 1) := by decide +kernel
theorem dX9_leg_34 : decode cX9_leg 34 = .ok (.getfield 109, 3) := by decide +kernel
theorem dX9_leg_37 : decode cX9_leg 37 = .ok (.bipush 6, 2) := by decide +kernel
theorem dX9_leg_39 : decode cX9_leg 39 = .ok (.if_icmp .lt 5, 3) := by decide +kernel
theorem dX9_leg_42 : decode cX9_leg 42 = .ok (.iconst (-1), 1) := by decide +kernel
theorem dX9_leg_43 : decode cX9_leg 43 = .ok (.ireturn, 1) := by decide +kernel
theorem dX9_leg_44 : decode cX9_leg 44 = .ok (.aload_n 0, 1) := by decide +kernel
theorem dX9_leg_45 : decode cX9_leg 45 = .ok (.getfield 10, 3) := by decide +kernel
theorem dX9_leg_48 : decode cX9_leg 48 = .ok (.getfield 96, 3) := by decide +kernel
theorem dX9_leg_51 : decode cX9_leg 51 = .ok (.iload_n 1, 1) := by decide +kernel
theorem dX9_leg_52 : decode cX9_leg 52 = .ok (.aaload, 1) := by decide +kernel
theorem dX9_leg_53 : decode cX9_leg 53 = .ok (.astore_n 3, 1) := by decide +kernel
theorem dX9_leg_54 : decode cX9_leg 54 = .ok (.aload_n 0, 1) := by decide +kernel
theorem dX9_leg_55 : decode cX9_leg 55 = .ok (.getfield 10, 3) := by decide +kernel
theorem dX9_leg_58 : decode cX9_leg 58 = .ok (.getfield 56, 3) := by decide +kernel
theorem dX9_leg_61 : decode cX9_leg 61 = .ok (.iload_n 2, 1) := by decide +kernel
theorem dX9_leg_62 : decode cX9_leg 62 = .ok (.aload_n 3, 1) := by decide +kernel
theorem dX9_leg_63 : decode cX9_leg 63 = .ok (.invokevirtual 112, 3) := by decide +kernel
theorem dX9_leg_66 : decode cX9_leg 66 = .ok (.invokevirtual 116, 3) := by decide +kernel
theorem dX9_leg_69 : decode cX9_leg 69 = .ok (.istore 4, 2) := by decide +kernel
theorem dX9_leg_71 : decode cX9_leg 71 = .ok (.iload 4, 2) := by decide +kernel
theorem dX9_leg_73 : decode cX9_leg 73 = .ok (.iconst (-1), 1) := by decide +kernel
theorem dX9_leg_74 : decode cX9_leg 74 = .ok (.if_icmp .ne 5, 3) := by decide +kernel
theorem dX9_leg_77 : decode cX9_leg 77 = .ok (.iconst (-1), 1) := by decide +kernel
theorem dX9_leg_78 : decode cX9_leg 78 = .ok (.ireturn, 1) := by decide +kernel
theorem dX9_leg_79 : decode cX9_leg 79 = .ok (.aload_n 3, 1) := by decide +kernel
theorem dX9_leg_80 : decode cX9_leg 80 = .ok (.iload_n 2, 1) := by decide +kernel
theorem dX9_leg_81 : decode cX9_leg 81 = .ok (.iload 4, 2) := by decide +kernel
theorem dX9_leg_83 : decode cX9_leg 83 = .ok (.aload_n 0, 1) := by decide +kernel
theorem dX9_leg_84 : decode cX9_leg 84 = .ok (.getfield 10, 3) := by decide +kernel
theorem dX9_leg_87 : decode cX9_leg 87 = .ok (.getfield 56, 3) := by decide +kernel
theorem dX9_leg_90 : decode cX9_leg 90 = .ok (.getfield 120, 3) := by decide +kernel
theorem dX9_leg_93 : decode cX9_leg 93 = .ok (.iload_n 2, 1) := by decide +kernel
theorem dX9_leg_94 : decode cX9_leg 94 = .ok (.iaload, 1) := by decide +kernel
theorem dX9_leg_95 : decode cX9_leg 95 = .ok (.invokevirtual 123, 3) := by decide +kernel
theorem dX9_leg_98 : decode cX9_leg 98 = .ok (.aload_n 0, 1) := by decide +kernel
theorem dX9_leg_99 : decode cX9_leg 99 = .ok (.getfield 33, 3) := by decide +kernel
theorem dX9_leg_102 : decode cX9_leg 102 = .ok (.iconst 1, 1) := by decide +kernel
theorem dX9_leg_103 : decode cX9_leg 103 = .ok (.putfield 83, 3) := by decide +kernel
theorem dX9_leg_106 : decode cX9_leg 106 = .ok (.aload_n 3, 1) := by decide +kernel
theorem dX9_leg_107 : decode cX9_leg 107 = .ok (.getfield 109, 3) := by decide +kernel
theorem dX9_leg_110 : decode cX9_leg 110 = .ok (.ireturn, 1) := by decide +kernel
theorem dX9_broken_0 : decode cX9_broken 0 = .ok (.aload_n 0, 1) := by decide +kernel
theorem dX9_broken_1 : decode cX9_broken 1 = .ok (.getfield 10, 3) := by decide +kernel
theorem dX9_broken_4 : decode cX9_broken 4 = .ok (.iload_n 1, 1) := by decide +kernel
theorem dX9_broken_5 : decode cX9_broken 5 = .ok (.invokevirtual 106, 3) := by decide +kernel
theorem dX9_broken_8 : decode cX9_broken 8 = .ok (.ifCond .eq 30, 3) := by decide +kernel
theorem dX9_broken_11 : decode cX9_broken 11 = .ok (.aload_n 0, 1) := by decide +kernel
theorem dX9_broken_12 : decode cX9_broken 12 = .ok (.getfield 10, 3) := by decide +kernel
theorem dX9_broken_15 : decode cX9_broken 15 = .ok (.getfield 96, 3) := by decide +kernel
theorem dX9_broken_18 : decode cX9_broken 18 = .ok (.iload_n 1, 1) := by decide +kernel
theorem dX9_broken_19 : decode cX9_broken 19 = .ok (.aaload, 1) := by decide +kernel
theorem dX9_broken_20 : decode cX9_broken 20 = .ok (.iload_n 2, 1) := by decide +kernel
theorem dX9_broken_21 : decode cX9_broken 21 = .ok (.invokevirtual 127, 3) := by decide +kernel
theorem dX9_broken_24 : decode cX9_broken 24 = .ok (.ifCond .eq 14, 3) := by decide +kernel
theorem dX9_broken_27 : decode cX9_broken 27 = .ok (.iload_n 3, 1) := by decide +kernel
theorem dX9_broken_28 : decode cX9_broken 28 = .ok (.ifCond .lt 10, 3) := by decide +kernel
theorem dX9_broken_31 : decode cX9_broken 31 = .ok (.iload_n 3, 1) := by decide +kernel
theorem dX9_broken_32 : decode cX9_broken 32 = .ok (.sipush 500, 3) := by decide +kernel
theorem dX9_broken_35 : decode cX9_broken 35 = .ok (.if_icmp .le 5, 3) := by decide +kernel
theorem dX9_broken_38 : decode cX9_broken 38 = .ok (.iconst 0, 1) := by decide +kernel
theorem dX9_broken_39 : decode cX9_broken 39 = .ok (.ireturn, 1) := by decide +kernel
theorem dX9_broken_40 : decode cX9_broken 40 = .ok (.aload_n 0, 1) := by decide +kernel
theorem dX9_broken_41 : decode cX9_broken 41 = .ok (.getfield 10, 3) := by decide +kernel
theorem dX9_broken_44 : decode cX9_broken 44 = .ok (.getfield 96, 3) := by decide +kernel
theorem dX9_broken_47 : decode cX9_broken 47 = .ok (.iload_n 1, 1) := by decide +kernel
theorem dX9_broken_48 : decode cX9_broken 48 = .ok (.aaload, 1) := by decide +kernel
theorem dX9_broken_49 : decode cX9_broken 49 = .ok (.getfield 130, 3) := by decide +kernel
theorem dX9_broken_52 : decode cX9_broken 52 = .ok (.iload_n 2, 1) := by decide +kernel
theorem dX9_broken_53 : decode cX9_broken 53 = .ok (.iload_n 3, 1) := by decide +kernel
theorem dX9_broken_54 : decode cX9_broken 54 = .ok (.iastore, 1) := by decide +kernel
theorem dX9_broken_55 : decode cX9_broken 55 = .ok (.aload_n 0, 1) := by decide +kernel
theorem dX9_broken_56 : decode cX9_broken 56 = .ok (.getfield 33, 3) := by decide +kernel
theorem dX9_broken_59 : decode cX9_broken 59 = .ok (.iconst 1, 1) := by decide +kernel
theorem dX9_broken_60 : decode cX9_broken 60 = .ok (.putfield 83, 3) := by decide +kernel
theorem dX9_broken_63 : decode cX9_broken 63 = .ok (.iconst 1, 1) := by decide +kernel
theorem dX9_broken_64 : decode cX9_broken 64 = .ok (.ireturn, 1) := by decide +kernel
theorem dX9_meet_0 : decode cX9_meet 0 = .ok (.aload_n 0, 1) := by decide +kernel
theorem dX9_meet_1 : decode cX9_meet 1 = .ok (.getfield 10, 3) := by decide +kernel
theorem dX9_meet_4 : decode cX9_meet 4 = .ok (.iload_n 1, 1) := by decide +kernel
theorem dX9_meet_5 : decode cX9_meet 5 = .ok (.invokevirtual 106, 3) := by decide +kernel
theorem dX9_meet_8 : decode cX9_meet 8 = .ok (.ifCond .eq 31, 3) := by decide +kernel
theorem dX9_meet_11 : decode cX9_meet 11 = .ok (.aload_n 0, 1) := by decide +kernel
theorem dX9_meet_12 : decode cX9_meet 12 = .ok (.getfield 10, 3) := by decide +kernel
theorem dX9_meet_15 : decode cX9_meet 15 = .ok (.iload_n 3, 1) := by decide +kernel
theorem dX9_meet_16 : decode cX9_meet 16 = .ok (.invokevirtual 106, 3) := by decide +kernel
theorem dX9_meet_19 : decode cX9_meet 19 = .ok (.ifCond .eq 20, 3) := by decide +kernel
theorem dX9_meet_22 : decode cX9_meet 22 = .ok (.iload_n 1, 1) := by decide +kernel
theorem dX9_meet_23 : decode cX9_meet 23 = .ok (.iload_n 3, 1) := by decide +kernel
theorem dX9_meet_24 : decode cX9_meet 24 = .ok (.if_icmp .eq 15, 3) := by decide +kernel
theorem dX9_meet_27 : decode cX9_meet 27 = .ok (.aload_n 0, 1) := by decide +kernel
theorem dX9_meet_28 : decode cX9_meet 28 = .ok (.getfield 10, 3) := by decide +kernel
theorem dX9_meet_31 : decode cX9_meet 31 = .ok (.getfield 133, 3) := by decide +kernel
theorem dX9_meet_34 : decode cX9_meet 34 = .ok (.bipush 20, 2) := by decide +kernel
theorem dX9_meet_36 : decode cX9_meet 36 = .ok (.if_icmp .lt 5, 3) := by decide +kernel
theorem dX9_meet_39 : decode cX9_meet 39 = .ok (.iconst 0, 1) := by decide +kernel
theorem dX9_meet_40 : decode cX9_meet 40 = .ok (.ireturn, 1) := by decide +kernel
theorem dX9_meet_41 : decode cX9_meet 41 = .ok (.aload_n 0, 1) := by decide +kernel
theorem dX9_meet_42 : decode cX9_meet 42 = .ok (.getfield 10, 3) := by decide +kernel
theorem dX9_meet_45 : decode cX9_meet 45 = .ok (.getfield 96, 3) := by decide +kernel
theorem dX9_meet_48 : decode cX9_meet 48 = .ok (.iload_n 1, 1) := by decide +kernel
theorem dX9_meet_49 : decode cX9_meet 49 = .ok (.aaload, 1) := by decide +kernel
theorem dX9_meet_50 : decode cX9_meet 50 = .ok (.astore 5, 2) := by decide +kernel
theorem dX9_meet_52 : decode cX9_meet 52 = .ok (.aload_n 0, 1) := by decide +kernel
theorem dX9_meet_53 : decode cX9_meet 53 = .ok (.getfield 10, 3) := by decide +kernel
theorem dX9_meet_56 : decode cX9_meet 56 = .ok (.getfield 96, 3) := by decide +kernel
theorem dX9_meet_59 : decode cX9_meet 59 = .ok (.iload_n 3, 1) := by decide +kernel
theorem dX9_meet_60 : decode cX9_meet 60 = .ok (.aaload, 1) := by decide +kernel
theorem dX9_meet_61 : decode cX9_meet 61 = .ok (.astore 6, 2) := by decide +kernel
theorem dX9_meet_63 : decode cX9_meet 63 = .ok (.aload 5, 2) := by decide +kernel
theorem dX9_meet_65 : decode cX9_meet 65 = .ok (.iload_n 2, 1) := by decide +kernel
theorem dX9_meet_66 : decode cX9_meet 66 = .ok (.invokevirtual 127, 3) := by decide +kernel
theorem dX9_meet_69 : decode cX9_meet 69 = .ok (.ifCond .eq 31, 3) := by decide +kernel
theorem dX9_meet_72 : decode cX9_meet 72 = .ok (.aload 6, 2) := by decide +kernel
theorem dX9_meet_74 : decode cX9_meet 74 = .ok (.iload 4, 2) := by decide +kernel
theorem dX9_meet_76 : decode cX9_meet 76 = .ok (.invokevirtual 136, 3) := by decide +kernel
theorem dX9_meet_79 : decode cX9_meet 79 = .ok (.ifCond .eq 21, 3) := by decide +kernel
theorem dX9_meet_82 : decode cX9_meet 82 = .ok (.aload 5, 2) := by decide +kernel
theorem dX9_meet_84 : decode cX9_meet 84 = .ok (.getfield 139, 3) := by decide +kernel
theorem dX9_meet_87 : decode cX9_meet 87 = .ok (.iload_n 2, 1) := by decide +kernel
theorem dX9_meet_88 : decode cX9_meet 88 = .ok (.iaload, 1) := by decide +kernel
theorem dX9_meet_89 : decode cX9_meet 89 = .ok (.aload 6, 2) := by decide +kernel
theorem dX9_meet_91 : decode cX9_meet 91 = .ok (.getfield 139, 3) := by decide +kernel
theorem dX9_meet_94 : decode cX9_meet 94 = .ok (.iload 4, 2) := by decide +kernel
theorem dX9_meet_96 : decode cX9_meet 96 = .ok (.iaload, 1) := by decide +kernel
theorem dX9_meet_97 : decode cX9_meet 97 = .ok (.if_icmp .eq 5, 3) := by decide +kernel
theorem dX9_meet_100 : decode cX9_meet 100 = .ok (.iconst 0, 1) := by decide +kernel
theorem dX9_meet_101 : decode cX9_meet 101 = .ok (.ireturn, 1) := by decide +kernel
theorem dX9_meet_102 : decode cX9_meet 102 = .ok (.aload 5, 2) := by decide +kernel
theorem dX9_meet_104 : decode cX9_meet 104 = .ok (.getfield 142, 3) := by decide +kernel
theorem dX9_meet_107 : decode cX9_meet 107 = .ok (.iload_n 2, 1) := by decide +kernel
theorem dX9_meet_108 : decode cX9_meet 108 = .ok (.iaload, 1) := by decide +kernel
theorem dX9_meet_109 : decode cX9_meet 109 = .ok (.iconst (-1), 1) := by decide +kernel
theorem dX9_meet_110 : decode cX9_meet 110 = .ok (.if_icmp .eq 5, 3) := by decide +kernel
theorem dX9_meet_113 : decode cX9_meet 113 = .ok (.iconst 0, 1) := by decide +kernel
theorem dX9_meet_114 : decode cX9_meet 114 = .ok (.ireturn, 1) := by decide +kernel
theorem dX9_meet_115 : decode cX9_meet 115 = .ok (.aload 5, 2) := by decide +kernel
theorem dX9_meet_117 : decode cX9_meet 117 = .ok (.getfield 142, 3) := by decide +kernel
theorem dX9_meet_120 : decode cX9_meet 120 = .ok (.iload_n 2, 1) := by decide +kernel
theorem dX9_meet_121 : decode cX9_meet 121 = .ok (.iload_n 3, 1) := by decide +kernel
theorem dX9_meet_122 : decode cX9_meet 122 = .ok (.iastore, 1) := by decide +kernel
theorem dX9_meet_123 : decode cX9_meet 123 = .ok (.aload 5, 2) := by decide +kernel
theorem dX9_meet_125 : decode cX9_meet 125 = .ok (.getfield 145, 3) := by decide +kernel
theorem dX9_meet_128 : decode cX9_meet 128 = .ok (.iload_n 2, 1) := by decide +kernel
theorem dX9_meet_129 : decode cX9_meet 129 = .ok (.iload 4, 2) := by decide +kernel
theorem dX9_meet_131 : decode cX9_meet 131 = .ok (.iastore, 1) := by decide +kernel
theorem dX9_meet_132 : decode cX9_meet 132 = .ok (.aload_n 0, 1) := by decide +kernel
theorem dX9_meet_133 : decode cX9_meet 133 = .ok (.getfield 10, 3) := by decide +kernel
theorem dX9_meet_136 : decode cX9_meet 136 = .ok (.dup, 1) := by decide +kernel
theorem dX9_meet_137 : decode cX9_meet 137 = .ok (.getfield 133, 3) := by decide +kernel
theorem dX9_meet_140 : decode cX9_meet 140 = .ok (.iconst 1, 1) := by decide +kernel
theorem dX9_meet_141 : decode cX9_meet 141 = .ok (.iadd, 1) := by decide +kernel
theorem dX9_meet_142 : decode cX9_meet 142 = .ok (.putfield 133, 3) := by decide +kernel
theorem dX9_meet_145 : decode cX9_meet 145 = .ok (.aload_n 0, 1) := by decide +kernel
theorem dX9_meet_146 : decode cX9_meet 146 = .ok (.getfield 33, 3) := by decide +kernel
theorem dX9_meet_149 : decode cX9_meet 149 = .ok (.iconst 1, 1) := by decide +kernel
theorem dX9_meet_150 : decode cX9_meet 150 = .ok (.putfield 83, 3) := by decide +kernel
theorem dX9_meet_153 : decode cX9_meet 153 = .ok (.iconst 1, 1) := by decide +kernel
theorem dX9_meet_154 : decode cX9_meet 154 = .ok (.ireturn, 1) := by decide +kernel
theorem dX9_contract_0 : decode cX9_contract 0 = .ok (.iload_n 1, 1) := by decide +kernel
theorem dX9_contract_1 : decode cX9_contract 1 = .ok (.invokestatic 87, 3) := by decide +kernel
theorem dX9_contract_4 : decode cX9_contract 4 = .ok (.ifCond .eq 18, 3) := by decide +kernel
theorem dX9_contract_7 : decode cX9_contract 7 = .ok (.iload_n 2, 1) := by decide +kernel
theorem dX9_contract_8 : decode cX9_contract 8 = .ok (.ifCond .lt 14, 3) := by decide +kernel
theorem dX9_contract_11 : decode cX9_contract 11 = .ok (.iload_n 2, 1) := by decide +kernel
theorem dX9_contract_12 : decode cX9_contract 12 = .ok (.aload_n 0, 1) := by decide +kernel
theorem dX9_contract_13 : decode cX9_contract 13 = .ok (.getfield 19, 3) := by decide +kernel
theorem dX9_contract_16 : decode cX9_contract 16 = .ok (.getfield 44, 3) := by decide +kernel
theorem dX9_contract_19 : decode cX9_contract 19 = .ok (.if_icmp .le 5, 3) := by decide +kernel
theorem dX9_contract_22 : decode cX9_contract 22 = .ok (.iconst (-1), 1) := by decide +kernel
theorem dX9_contract_23 : decode cX9_contract 23 = .ok (.ireturn, 1) := by decide +kernel
theorem dX9_contract_24 : decode cX9_contract 24 = .ok (.aload_n 0, 1) := by decide +kernel
theorem dX9_contract_25 : decode cX9_contract 25 = .ok (.getfield 26, 3) := by decide +kernel
theorem dX9_contract_28 : decode cX9_contract 28 = .ok (.aload_n 0, 1) := by decide +kernel
theorem dX9_contract_29 : decode cX9_contract 29 = .ok (.getfield 19, 3) := by decide +kernel
theorem dX9_contract_32 : decode cX9_contract 32 = .ok (.getfield 148, 3) := by decide +kernel
theorem dX9_contract_35 : decode cX9_contract 35 = .ok (.iload_n 2, 1) := by decide +kernel
theorem dX9_contract_36 : decode cX9_contract 36 = .ok (.aload_n 0, 1) := by decide +kernel
theorem dX9_contract_37 : decode cX9_contract 37 = .ok (.getfield 10, 3) := by decide +kernel
theorem dX9_contract_40 : decode cX9_contract 40 = .ok (.getfield 151, 3) := by decide +kernel
theorem dX9_contract_43 : decode cX9_contract 43 = .ok (.invokevirtual 155, 3) := by decide +kernel
theorem dX9_contract_46 : decode cX9_contract 46 = .ok (.istore_n 3, 1) := by decide +kernel
theorem dX9_contract_47 : decode cX9_contract 47 = .ok (.aload_n 0, 1) := by decide +kernel
theorem dX9_contract_48 : decode cX9_contract 48 = .ok (.getfield 19, 3) := by decide +kernel
theorem dX9_contract_51 : decode cX9_contract 51 = .ok (.iconst 0, 1) := by decide +kernel
theorem dX9_contract_52 : decode cX9_contract 52 = .ok (.putfield 44, 3) := by decide +kernel
theorem dX9_contract_55 : decode cX9_contract 55 = .ok (.iload_n 3, 1) := by decide +kernel
theorem dX9_contract_56 : decode cX9_contract 56 = .ok (.ifCond .ne 6, 3) := by decide +kernel
theorem dX9_contract_59 : decode cX9_contract 59 = .ok (.bipush (-2), 2) := by decide +kernel
theorem dX9_contract_61 : decode cX9_contract 61 = .ok (.ireturn, 1) := by decide +kernel
theorem dX9_contract_62 : decode cX9_contract 62 = .ok (.aload_n 0, 1) := by decide +kernel
theorem dX9_contract_63 : decode cX9_contract 63 = .ok (.getfield 10, 3) := by decide +kernel
theorem dX9_contract_66 : decode cX9_contract 66 = .ok (.getfield 159, 3) := by decide +kernel
theorem dX9_contract_69 : decode cX9_contract 69 = .ok (.iload_n 1, 1) := by decide +kernel
theorem dX9_contract_70 : decode cX9_contract 70 = .ok (.aaload, 1) := by decide +kernel
theorem dX9_contract_71 : decode cX9_contract 71 = .ok (.astore 4, 2) := by decide +kernel
theorem dX9_contract_73 : decode cX9_contract 73 = .ok (.aload_n 0, 1) := by decide +kernel
theorem dX9_contract_74 : decode cX9_contract 74 = .ok (.getfield 10, 3) := by decide +kernel
theorem dX9_contract_77 : decode cX9_contract 77 = .ok (.getfield 159, 3) := by decide +kernel
theorem dX9_contract_80 : decode cX9_contract 80 = .ok (.iload_n 1, 1) := by decide +kernel
theorem dX9_contract_81 : decode cX9_contract 81 = .ok (.aload_n 0, 1) := by decide +kernel
theorem dX9_contract_82 : decode cX9_contract 82 = .ok (.getfield 10, 3) := by decide +kernel
theorem dX9_contract_85 : decode cX9_contract 85 = .ok (.getfield 151, 3) := by decide +kernel
theorem dX9_contract_88 : decode cX9_contract 88 = .ok (.aastore, 1) := by decide +kernel
theorem dX9_contract_89 : decode cX9_contract 89 = .ok (.aload_n 0, 1) := by decide +kernel
theorem dX9_contract_90 : decode cX9_contract 90 = .ok (.getfield 10, 3) := by decide +kernel
theorem dX9_contract_93 : decode cX9_contract 93 = .ok (.aload 4, 2) := by decide +kernel
theorem dX9_contract_95 : decode cX9_contract 95 = .ok (.putfield 151, 3) := by decide +kernel
theorem dX9_contract_98 : decode cX9_contract 98 = .ok (.aload_n 0, 1) := by decide +kernel
theorem dX9_contract_99 : decode cX9_contract 99 = .ok (.getfield 33, 3) := by decide +kernel
theorem dX9_contract_102 : decode cX9_contract 102 = .ok (.iconst 1, 1) := by decide +kernel
theorem dX9_contract_103 : decode cX9_contract 103 = .ok (.putfield 83, 3) := by decide +kernel
theorem dX9_contract_106 : decode cX9_contract 106 = .ok (.aload_n 0, 1) := by decide +kernel
theorem dX9_contract_107 : decode cX9_contract 107 = .ok (.getfield 10, 3) := by decide +kernel
theorem dX9_contract_110 : decode cX9_contract 110 = .ok (.getfield 159, 3) := by decide +kernel
theorem dX9_contract_113 : decode cX9_contract 113 = .ok (.iload_n 1, 1) := by decide +kernel
theorem dX9_contract_114 : decode cX9_contract 114 = .ok (.aaload, 1) := by decide +kernel
theorem dX9_contract_115 : decode cX9_contract 115 = .ok (.getfield 163, 3) := by decide +kernel
theorem dX9_contract_118 : decode cX9_contract 118 = .ok (.ireturn, 1) := by decide +kernel
theorem dX9_fault_0 : decode cX9_fault 0 = .ok (.iload_n 1, 1) := by decide +kernel
theorem dX9_fault_1 : decode cX9_fault 1 = .ok (.lookupswitch 43 #[(0, 27), (1, 35)], 27) := by decide +kernel
theorem dX9_fault_28 : decode cX9_fault 28 = .ok (.aload_n 0, 1) := by decide +kernel
theorem dX9_fault_29 : decode cX9_fault 29 = .ok (.getfield 26, 3) := by decide +kernel
theorem dX9_fault_32 : decode cX9_fault 32 = .ok (.getfield 168, 3) := by decide +kernel
theorem dX9_fault_35 : decode cX9_fault 35 = .ok (.ireturn, 1) := by decide +kernel
theorem dX9_fault_36 : decode cX9_fault 36 = .ok (.aload_n 0, 1) := by decide +kernel
theorem dX9_fault_37 : decode cX9_fault 37 = .ok (.getfield 26, 3) := by decide +kernel
theorem dX9_fault_40 : decode cX9_fault 40 = .ok (.getfield 171, 3) := by decide +kernel
theorem dX9_fault_43 : decode cX9_fault 43 = .ok (.ireturn, 1) := by decide +kernel
theorem dX9_fault_44 : decode cX9_fault 44 = .ok (.iconst (-1), 1) := by decide +kernel
theorem dX9_fault_45 : decode cX9_fault 45 = .ok (.ireturn, 1) := by decide +kernel
theorem dX9_due_0 : decode cX9_due 0 = .ok (.aload_n 0, 1) := by decide +kernel
theorem dX9_due_1 : decode cX9_due 1 = .ok (.getfield 10, 3) := by decide +kernel
theorem dX9_due_4 : decode cX9_due 4 = .ok (.iload_n 1, 1) := by decide +kernel
theorem dX9_due_5 : decode cX9_due 5 = .ok (.invokevirtual 106, 3) := by decide +kernel
theorem dX9_due_8 : decode cX9_due 8 = .ok (.ifCond .ne 5, 3) := by decide +kernel
theorem dX9_due_11 : decode cX9_due 11 = .ok (.iconst (-1), 1) := by decide +kernel
theorem dX9_due_12 : decode cX9_due 12 = .ok (.ireturn, 1) := by decide +kernel
theorem dX9_due_13 : decode cX9_due 13 = .ok (.aload_n 0, 1) := by decide +kernel
theorem dX9_due_14 : decode cX9_due 14 = .ok (.getfield 10, 3) := by decide +kernel
theorem dX9_due_17 : decode cX9_due 17 = .ok (.getfield 96, 3) := by decide +kernel
theorem dX9_due_20 : decode cX9_due 20 = .ok (.iload_n 1, 1) := by decide +kernel
theorem dX9_due_21 : decode cX9_due 21 = .ok (.aaload, 1) := by decide +kernel
theorem dX9_due_22 : decode cX9_due 22 = .ok (.astore 4, 2) := by decide +kernel
theorem dX9_due_24 : decode cX9_due 24 = .ok (.iload_n 3, 1) := by decide +kernel
theorem dX9_due_25 : decode cX9_due 25 = .ok (.ifCond .ne 20, 3) := by decide +kernel
theorem dX9_due_28 : decode cX9_due 28 = .ok (.aload 4, 2) := by decide +kernel
theorem dX9_due_30 : decode cX9_due 30 = .ok (.iload_n 2, 1) := by decide +kernel
theorem dX9_due_31 : decode cX9_due 31 = .ok (.invokevirtual 136, 3) := by decide +kernel
theorem dX9_due_34 : decode cX9_due 34 = .ok (.ifCond .eq 11, 3) := by decide +kernel
theorem dX9_due_37 : decode cX9_due 37 = .ok (.aload 4, 2) := by decide +kernel
theorem dX9_due_39 : decode cX9_due 39 = .ok (.getfield 174, 3) := by decide +kernel
theorem dX9_due_42 : decode cX9_due 42 = .ok (.iload_n 2, 1) := by decide +kernel
theorem dX9_due_43 : decode cX9_due 43 = .ok (.iaload, 1) := by decide +kernel
theorem dX9_due_44 : decode cX9_due 44 = .ok (.ireturn, 1) := by decide +kernel
theorem dX9_due_45 : decode cX9_due 45 = .ok (.iload_n 3, 1) := by decide +kernel
theorem dX9_due_46 : decode cX9_due 46 = .ok (.iconst 1, 1) := by decide +kernel
theorem dX9_due_47 : decode cX9_due 47 = .ok (.if_icmp .ne 20, 3) := by decide +kernel
theorem dX9_due_50 : decode cX9_due 50 = .ok (.aload 4, 2) := by decide +kernel
theorem dX9_due_52 : decode cX9_due 52 = .ok (.iload_n 2, 1) := by decide +kernel
theorem dX9_due_53 : decode cX9_due 53 = .ok (.invokevirtual 127, 3) := by decide +kernel
theorem dX9_due_56 : decode cX9_due 56 = .ok (.ifCond .eq 11, 3) := by decide +kernel
theorem dX9_due_59 : decode cX9_due 59 = .ok (.aload 4, 2) := by decide +kernel
theorem dX9_due_61 : decode cX9_due 61 = .ok (.getfield 177, 3) := by decide +kernel
theorem dX9_due_64 : decode cX9_due 64 = .ok (.iload_n 2, 1) := by decide +kernel
theorem dX9_due_65 : decode cX9_due 65 = .ok (.iaload, 1) := by decide +kernel
theorem dX9_due_66 : decode cX9_due 66 = .ok (.ireturn, 1) := by decide +kernel
theorem dX9_due_67 : decode cX9_due 67 = .ok (.iconst (-1), 1) := by decide +kernel
theorem dX9_due_68 : decode cX9_due 68 = .ok (.ireturn, 1) := by decide +kernel
theorem dX9_truth_0 : decode cX9_truth 0 = .ok (.aload_n 0, 1) := by decide +kernel
theorem dX9_truth_1 : decode cX9_truth 1 = .ok (.getfield 10, 3) := by decide +kernel
theorem dX9_truth_4 : decode cX9_truth 4 = .ok (.iload_n 1, 1) := by decide +kernel
theorem dX9_truth_5 : decode cX9_truth 5 = .ok (.invokevirtual 106, 3) := by decide +kernel
theorem dX9_truth_8 : decode cX9_truth 8 = .ok (.ifCond .eq 19, 3) := by decide +kernel
theorem dX9_truth_11 : decode cX9_truth 11 = .ok (.aload_n 0, 1) := by decide +kernel
theorem dX9_truth_12 : decode cX9_truth 12 = .ok (.getfield 10, 3) := by decide +kernel
theorem dX9_truth_15 : decode cX9_truth 15 = .ok (.getfield 96, 3) := by decide +kernel
theorem dX9_truth_18 : decode cX9_truth 18 = .ok (.iload_n 1, 1) := by decide +kernel
theorem dX9_truth_19 : decode cX9_truth 19 = .ok (.aaload, 1) := by decide +kernel
theorem dX9_truth_20 : decode cX9_truth 20 = .ok (.iload_n 2, 1) := by decide +kernel
theorem dX9_truth_21 : decode cX9_truth 21 = .ok (.invokevirtual 180, 3) := by decide +kernel
theorem dX9_truth_24 : decode cX9_truth 24 = .ok (.ifCond .ne 5, 3) := by decide +kernel
theorem dX9_truth_27 : decode cX9_truth 27 = .ok (.iconst (-1), 1) := by decide +kernel
theorem dX9_truth_28 : decode cX9_truth 28 = .ok (.ireturn, 1) := by decide +kernel
theorem dX9_truth_29 : decode cX9_truth 29 = .ok (.aload_n 0, 1) := by decide +kernel
theorem dX9_truth_30 : decode cX9_truth 30 = .ok (.getfield 33, 3) := by decide +kernel
theorem dX9_truth_33 : decode cX9_truth 33 = .ok (.aload_n 0, 1) := by decide +kernel
theorem dX9_truth_34 : decode cX9_truth 34 = .ok (.getfield 10, 3) := by decide +kernel
theorem dX9_truth_37 : decode cX9_truth 37 = .ok (.invokevirtual 183, 3) := by decide +kernel
theorem dX9_truth_40 : decode cX9_truth 40 = .ok (.aload_n 0, 1) := by decide +kernel
theorem dX9_truth_41 : decode cX9_truth 41 = .ok (.getfield 33, 3) := by decide +kernel
theorem dX9_truth_44 : decode cX9_truth 44 = .ok (.getfield 187, 3) := by decide +kernel
theorem dX9_truth_47 : decode cX9_truth 47 = .ok (.iload_n 1, 1) := by decide +kernel
theorem dX9_truth_48 : decode cX9_truth 48 = .ok (.aaload, 1) := by decide +kernel
theorem dX9_truth_49 : decode cX9_truth 49 = .ok (.astore 4, 2) := by decide +kernel
theorem dX9_truth_51 : decode cX9_truth 51 = .ok (.iload_n 3, 1) := by decide +kernel
theorem dX9_truth_52 : decode cX9_truth 52 = .ok (.tableswitch 107 0 3 #[32, 40, 48, 71], 32) := by decide +kernel
theorem dX9_truth_84 : decode cX9_truth 84 = .ok (.aload 4, 2) := by decide +kernel
theorem dX9_truth_86 : decode cX9_truth 86 = .ok (.getfield 191, 3) := by decide +kernel
theorem dX9_truth_89 : decode cX9_truth 89 = .ok (.iload_n 2, 1) := by decide +kernel
theorem dX9_truth_90 : decode cX9_truth 90 = .ok (.iaload, 1) := by decide +kernel
theorem dX9_truth_91 : decode cX9_truth 91 = .ok (.ireturn, 1) := by decide +kernel
theorem dX9_truth_92 : decode cX9_truth 92 = .ok (.aload 4, 2) := by decide +kernel
theorem dX9_truth_94 : decode cX9_truth 94 = .ok (.getfield 196, 3) := by decide +kernel
theorem dX9_truth_97 : decode cX9_truth 97 = .ok (.iload_n 2, 1) := by decide +kernel
theorem dX9_truth_98 : decode cX9_truth 98 = .ok (.iaload, 1) := by decide +kernel
theorem dX9_truth_99 : decode cX9_truth 99 = .ok (.ireturn, 1) := by decide +kernel
theorem dX9_truth_100 : decode cX9_truth 100 = .ok (.aload 4, 2) := by decide +kernel
theorem dX9_truth_102 : decode cX9_truth 102 = .ok (.getfield 196, 3) := by decide +kernel
theorem dX9_truth_105 : decode cX9_truth 105 = .ok (.iload_n 2, 1) := by decide +kernel
theorem dX9_truth_106 : decode cX9_truth 106 = .ok (.iaload, 1) := by decide +kernel
theorem dX9_truth_107 : decode cX9_truth 107 = .ok (.iconst (-1), 1) := by decide +kernel
theorem dX9_truth_108 : decode cX9_truth 108 = .ok (.if_icmp .ne 7, 3) := by decide +kernel
theorem dX9_truth_111 : decode cX9_truth 111 = .ok (.iconst (-1), 1) := by decide +kernel
theorem dX9_truth_112 : decode cX9_truth 112 = .ok (.goto 10, 3) := by decide +kernel
theorem dX9_truth_115 : decode cX9_truth 115 = .ok (.aload 4, 2) := by decide +kernel
theorem dX9_truth_117 : decode cX9_truth 117 = .ok (.getfield 199, 3) := by decide +kernel
theorem dX9_truth_120 : decode cX9_truth 120 = .ok (.iload_n 2, 1) := by decide +kernel
theorem dX9_truth_121 : decode cX9_truth 121 = .ok (.iaload, 1) := by decide +kernel
theorem dX9_truth_122 : decode cX9_truth 122 = .ok (.ireturn, 1) := by decide +kernel
theorem dX9_truth_123 : decode cX9_truth 123 = .ok (.aload 4, 2) := by decide +kernel
theorem dX9_truth_125 : decode cX9_truth 125 = .ok (.getfield 191, 3) := by decide +kernel
theorem dX9_truth_128 : decode cX9_truth 128 = .ok (.iload_n 2, 1) := by decide +kernel
theorem dX9_truth_129 : decode cX9_truth 129 = .ok (.iaload, 1) := by decide +kernel
theorem dX9_truth_130 : decode cX9_truth 130 = .ok (.iconst (-1), 1) := by decide +kernel
theorem dX9_truth_131 : decode cX9_truth 131 = .ok (.if_icmp .ne 7, 3) := by decide +kernel
theorem dX9_truth_134 : decode cX9_truth 134 = .ok (.iconst (-1), 1) := by decide +kernel
theorem dX9_truth_135 : decode cX9_truth 135 = .ok (.goto 23, 3) := by decide +kernel
theorem dX9_truth_138 : decode cX9_truth 138 = .ok (.aload_n 0, 1) := by decide +kernel
theorem dX9_truth_139 : decode cX9_truth 139 = .ok (.getfield 10, 3) := by decide +kernel
theorem dX9_truth_142 : decode cX9_truth 142 = .ok (.getfield 96, 3) := by decide +kernel
theorem dX9_truth_145 : decode cX9_truth 145 = .ok (.iload_n 1, 1) := by decide +kernel
theorem dX9_truth_146 : decode cX9_truth 146 = .ok (.aaload, 1) := by decide +kernel
theorem dX9_truth_147 : decode cX9_truth 147 = .ok (.iload_n 2, 1) := by decide +kernel
theorem dX9_truth_148 : decode cX9_truth 148 = .ok (.aload 4, 2) := by decide +kernel
theorem dX9_truth_150 : decode cX9_truth 150 = .ok (.getfield 191, 3) := by decide +kernel
theorem dX9_truth_153 : decode cX9_truth 153 = .ok (.iload_n 2, 1) := by decide +kernel
theorem dX9_truth_154 : decode cX9_truth 154 = .ok (.iaload, 1) := by decide +kernel
theorem dX9_truth_155 : decode cX9_truth 155 = .ok (.invokevirtual 202, 3) := by decide +kernel
theorem dX9_truth_158 : decode cX9_truth 158 = .ok (.ireturn, 1) := by decide +kernel
theorem dX9_truth_159 : decode cX9_truth 159 = .ok (.iconst (-1), 1) := by decide +kernel
theorem dX9_truth_160 : decode cX9_truth 160 = .ok (.ireturn, 1) := by decide +kernel
theorem dX9_share_0 : decode cX9_share 0 = .ok (.aload_n 0, 1) := by decide +kernel
theorem dX9_share_1 : decode cX9_share 1 = .ok (.getfield 10, 3) := by decide +kernel
theorem dX9_share_4 : decode cX9_share 4 = .ok (.iload_n 1, 1) := by decide +kernel
theorem dX9_share_5 : decode cX9_share 5 = .ok (.invokevirtual 106, 3) := by decide +kernel
theorem dX9_share_8 : decode cX9_share 8 = .ok (.ifCond .eq 31, 3) := by decide +kernel
theorem dX9_share_11 : decode cX9_share 11 = .ok (.aload_n 0, 1) := by decide +kernel
theorem dX9_share_12 : decode cX9_share 12 = .ok (.getfield 10, 3) := by decide +kernel
theorem dX9_share_15 : decode cX9_share 15 = .ok (.getfield 96, 3) := by decide +kernel
theorem dX9_share_18 : decode cX9_share 18 = .ok (.iload_n 1, 1) := by decide +kernel
theorem dX9_share_19 : decode cX9_share 19 = .ok (.aaload, 1) := by decide +kernel
theorem dX9_share_20 : decode cX9_share 20 = .ok (.iload_n 2, 1) := by decide +kernel
theorem dX9_share_21 : decode cX9_share 21 = .ok (.invokevirtual 136, 3) := by decide +kernel
theorem dX9_share_24 : decode cX9_share 24 = .ok (.ifCond .eq 15, 3) := by decide +kernel
theorem dX9_share_27 : decode cX9_share 27 = .ok (.iload_n 3, 1) := by decide +kernel
theorem dX9_share_28 : decode cX9_share 28 = .ok (.iconst (-1), 1) := by decide +kernel
theorem dX9_share_29 : decode cX9_share 29 = .ok (.if_icmp .eq 12, 3) := by decide +kernel
theorem dX9_share_32 : decode cX9_share 32 = .ok (.iload_n 3, 1) := by decide +kernel
theorem dX9_share_33 : decode cX9_share 33 = .ok (.invokestatic 87, 3) := by decide +kernel
theorem dX9_share_36 : decode cX9_share 36 = .ok (.ifCond .ne 5, 3) := by decide +kernel
theorem dX9_share_39 : decode cX9_share 39 = .ok (.iconst (-1), 1) := by decide +kernel
theorem dX9_share_40 : decode cX9_share 40 = .ok (.ireturn, 1) := by decide +kernel
theorem dX9_share_41 : decode cX9_share 41 = .ok (.aload_n 0, 1) := by decide +kernel
theorem dX9_share_42 : decode cX9_share 42 = .ok (.getfield 33, 3) := by decide +kernel
theorem dX9_share_45 : decode cX9_share 45 = .ok (.aload_n 0, 1) := by decide +kernel
theorem dX9_share_46 : decode cX9_share 46 = .ok (.getfield 10, 3) := by decide +kernel
theorem dX9_share_49 : decode cX9_share 49 = .ok (.invokevirtual 183, 3) := by decide +kernel
theorem dX9_share_52 : decode cX9_share 52 = .ok (.aload_n 0, 1) := by decide +kernel
theorem dX9_share_53 : decode cX9_share 53 = .ok (.getfield 33, 3) := by decide +kernel
theorem dX9_share_56 : decode cX9_share 56 = .ok (.getfield 187, 3) := by decide +kernel
theorem dX9_share_59 : decode cX9_share 59 = .ok (.iload_n 1, 1) := by decide +kernel
theorem dX9_share_60 : decode cX9_share 60 = .ok (.aaload, 1) := by decide +kernel
theorem dX9_share_61 : decode cX9_share 61 = .ok (.astore 4, 2) := by decide +kernel
theorem dX9_share_63 : decode cX9_share 63 = .ok (.aload 4, 2) := by decide +kernel
theorem dX9_share_65 : decode cX9_share 65 = .ok (.getfield 191, 3) := by decide +kernel
theorem dX9_share_68 : decode cX9_share 68 = .ok (.iload_n 2, 1) := by decide +kernel
theorem dX9_share_69 : decode cX9_share 69 = .ok (.iaload, 1) := by decide +kernel
theorem dX9_share_70 : decode cX9_share 70 = .ok (.iconst (-1), 1) := by decide +kernel
theorem dX9_share_71 : decode cX9_share 71 = .ok (.if_icmp .ne 7, 3) := by decide +kernel
theorem dX9_share_74 : decode cX9_share 74 = .ok (.iconst (-1), 1) := by decide +kernel
theorem dX9_share_75 : decode cX9_share 75 = .ok (.goto 21, 3) := by decide +kernel
theorem dX9_share_78 : decode cX9_share 78 = .ok (.aload 4, 2) := by decide +kernel
theorem dX9_share_80 : decode cX9_share 80 = .ok (.iload_n 2, 1) := by decide +kernel
theorem dX9_share_81 : decode cX9_share 81 = .ok (.iload_n 3, 1) := by decide +kernel
theorem dX9_share_82 : decode cX9_share 82 = .ok (.iconst (-1), 1) := by decide +kernel
theorem dX9_share_83 : decode cX9_share 83 = .ok (.if_icmp .ne 7, 3) := by decide +kernel
theorem dX9_share_86 : decode cX9_share 86 = .ok (.iconst 0, 1) := by decide +kernel
theorem dX9_share_87 : decode cX9_share 87 = .ok (.goto 6, 3) := by decide +kernel
theorem dX9_share_90 : decode cX9_share 90 = .ok (.iconst 1, 1) := by decide +kernel
theorem dX9_share_91 : decode cX9_share 91 = .ok (.iload_n 3, 1) := by decide +kernel
theorem dX9_share_92 : decode cX9_share 92 = .ok (.iadd, 1) := by decide +kernel
theorem dX9_share_93 : decode cX9_share 93 = .ok (.invokevirtual 205, 3) := by decide +kernel
theorem dX9_share_96 : decode cX9_share 96 = .ok (.ireturn, 1) := by decide +kernel
theorem dX9_owed_0 : decode cX9_owed 0 = .ok (.iload_n 1, 1) := by decide +kernel
theorem dX9_owed_1 : decode cX9_owed 1 = .ok (.invokestatic 87, 3) := by decide +kernel
theorem dX9_owed_4 : decode cX9_owed 4 = .ok (.ifCond .ne 7, 3) := by decide +kernel
theorem dX9_owed_7 : decode cX9_owed 7 = .ok (.ldc2_w 208, 3) := by decide +kernel
theorem dX9_owed_10 : decode cX9_owed 10 = .ok (.lreturn, 1) := by decide +kernel
theorem dX9_owed_11 : decode cX9_owed 11 = .ok (.aload_n 0, 1) := by decide +kernel
theorem dX9_owed_12 : decode cX9_owed 12 = .ok (.getfield 33, 3) := by decide +kernel
theorem dX9_owed_15 : decode cX9_owed 15 = .ok (.aload_n 0, 1) := by decide +kernel
theorem dX9_owed_16 : decode cX9_owed 16 = .ok (.getfield 10, 3) := by decide +kernel
theorem dX9_owed_19 : decode cX9_owed 19 = .ok (.invokevirtual 183, 3) := by decide +kernel
theorem dX9_owed_22 : decode cX9_owed 22 = .ok (.lconst 0, 1) := by decide +kernel
theorem dX9_owed_23 : decode cX9_owed 23 = .ok (.lstore_n 2, 1) := by decide +kernel
theorem dX9_owed_24 : decode cX9_owed 24 = .ok (.iconst 0, 1) := by decide +kernel
theorem dX9_owed_25 : decode cX9_owed 25 = .ok (.istore 4, 2) := by decide +kernel
theorem dX9_owed_27 : decode cX9_owed 27 = .ok (.iload 4, 2) := by decide +kernel
theorem dX9_owed_29 : decode cX9_owed 29 = .ok (.aload_n 0, 1) := by decide +kernel
theorem dX9_owed_30 : decode cX9_owed 30 = .ok (.getfield 10, 3) := by decide +kernel
theorem dX9_owed_33 : decode cX9_owed 33 = .ok (.getfield 93, 3) := by decide +kernel
theorem dX9_owed_36 : decode cX9_owed 36 = .ok (.if_icmp .ge 67, 3) := by decide +kernel
theorem dX9_owed_39 : decode cX9_owed 39 = .ok (.aload_n 0, 1) := by decide +kernel
theorem dX9_owed_40 : decode cX9_owed 40 = .ok (.getfield 10, 3) := by decide +kernel
theorem dX9_owed_43 : decode cX9_owed 43 = .ok (.getfield 96, 3) := by decide +kernel
theorem dX9_owed_46 : decode cX9_owed 46 = .ok (.iload 4, 2) := by decide +kernel
theorem dX9_owed_48 : decode cX9_owed 48 = .ok (.aaload, 1) := by decide +kernel
theorem dX9_owed_49 : decode cX9_owed 49 = .ok (.astore 5, 2) := by decide +kernel
theorem dX9_owed_51 : decode cX9_owed 51 = .ok (.aload_n 0, 1) := by decide +kernel
theorem dX9_owed_52 : decode cX9_owed 52 = .ok (.getfield 33, 3) := by decide +kernel
theorem dX9_owed_55 : decode cX9_owed 55 = .ok (.getfield 187, 3) := by decide +kernel
theorem dX9_owed_58 : decode cX9_owed 58 = .ok (.iload 4, 2) := by decide +kernel
theorem dX9_owed_60 : decode cX9_owed 60 = .ok (.aaload, 1) := by decide +kernel
theorem dX9_owed_61 : decode cX9_owed 61 = .ok (.aload 5, 2) := by decide +kernel
theorem dX9_owed_63 : decode cX9_owed 63 = .ok (.getfield 109, 3) := by decide +kernel
theorem dX9_owed_66 : decode cX9_owed 66 = .ok (.iconst 1, 1) := by decide +kernel
theorem dX9_owed_67 : decode cX9_owed 67 = .ok (.iload_n 1, 1) := by decide +kernel
theorem dX9_owed_68 : decode cX9_owed 68 = .ok (.iadd, 1) := by decide +kernel
theorem dX9_owed_69 : decode cX9_owed 69 = .ok (.invokevirtual 210, 3) := by decide +kernel
theorem dX9_owed_72 : decode cX9_owed 72 = .ok (.lstore 6, 2) := by decide +kernel
theorem dX9_owed_74 : decode cX9_owed 74 = .ok (.lload_n 2, 1) := by decide +kernel
theorem dX9_owed_75 : decode cX9_owed 75 = .ok (.lload 6, 2) := by decide +kernel
theorem dX9_owed_77 : decode cX9_owed 77 = .ok (.aload_n 0, 1) := by decide +kernel
theorem dX9_owed_78 : decode cX9_owed 78 = .ok (.getfield 10, 3) := by decide +kernel
theorem dX9_owed_81 : decode cX9_owed 81 = .ok (.getfield 159, 3) := by decide +kernel
theorem dX9_owed_84 : decode cX9_owed 84 = .ok (.aload 5, 2) := by decide +kernel
theorem dX9_owed_86 : decode cX9_owed 86 = .ok (.getfield 214, 3) := by decide +kernel
theorem dX9_owed_89 : decode cX9_owed 89 = .ok (.aaload, 1) := by decide +kernel
theorem dX9_owed_90 : decode cX9_owed 90 = .ok (.getfield 217, 3) := by decide +kernel
theorem dX9_owed_93 : decode cX9_owed 93 = .ok (.i2l, 1) := by decide +kernel
theorem dX9_owed_94 : decode cX9_owed 94 = .ok (.lmul, 1) := by decide +kernel
theorem dX9_owed_95 : decode cX9_owed 95 = .ok (.ladd, 1) := by decide +kernel
theorem dX9_owed_96 : decode cX9_owed 96 = .ok (.lstore_n 2, 1) := by decide +kernel
theorem dX9_owed_97 : decode cX9_owed 97 = .ok (.iinc 4 1, 3) := by decide +kernel
theorem dX9_owed_100 : decode cX9_owed 100 = .ok (.goto (-73), 3) := by decide +kernel
theorem dX9_owed_103 : decode cX9_owed 103 = .ok (.lload_n 2, 1) := by decide +kernel
theorem dX9_owed_104 : decode cX9_owed 104 = .ok (.lreturn, 1) := by decide +kernel
theorem dX9_first_0 : decode cX9_first 0 = .ok (.iload_n 1, 1) := by decide +kernel
theorem dX9_first_1 : decode cX9_first 1 = .ok (.iload_n 2, 1) := by decide +kernel
theorem dX9_first_2 : decode cX9_first 2 = .ok (.invokestatic 52, 3) := by decide +kernel
theorem dX9_first_5 : decode cX9_first 5 = .ok (.ifCond .eq 10, 3) := by decide +kernel
theorem dX9_first_8 : decode cX9_first 8 = .ok (.iload_n 3, 1) := by decide +kernel
theorem dX9_first_9 : decode cX9_first 9 = .ok (.invokestatic 220, 3) := by decide +kernel
theorem dX9_first_12 : decode cX9_first 12 = .ok (.ifCond .ne 5, 3) := by decide +kernel
theorem dX9_first_15 : decode cX9_first 15 = .ok (.iconst (-1), 1) := by decide +kernel
theorem dX9_first_16 : decode cX9_first 16 = .ok (.ireturn, 1) := by decide +kernel
theorem dX9_first_17 : decode cX9_first 17 = .ok (.iload 4, 2) := by decide +kernel
theorem dX9_first_19 : decode cX9_first 19 = .ok (.ifCond .eq 14, 3) := by decide +kernel
theorem dX9_first_22 : decode cX9_first 22 = .ok (.aload_n 0, 1) := by decide +kernel
theorem dX9_first_23 : decode cX9_first 23 = .ok (.getfield 33, 3) := by decide +kernel
theorem dX9_first_26 : decode cX9_first 26 = .ok (.aload_n 0, 1) := by decide +kernel
theorem dX9_first_27 : decode cX9_first 27 = .ok (.getfield 10, 3) := by decide +kernel
theorem dX9_first_30 : decode cX9_first 30 = .ok (.invokevirtual 183, 3) := by decide +kernel
theorem dX9_first_33 : decode cX9_first 33 = .ok (.aload_n 0, 1) := by decide +kernel
theorem dX9_first_34 : decode cX9_first 34 = .ok (.getfield 40, 3) := by decide +kernel
theorem dX9_first_37 : decode cX9_first 37 = .ok (.aload_n 0, 1) := by decide +kernel
theorem dX9_first_38 : decode cX9_first 38 = .ok (.getfield 10, 3) := by decide +kernel
theorem dX9_first_41 : decode cX9_first 41 = .ok (.aload_n 0, 1) := by decide +kernel
theorem dX9_first_42 : decode cX9_first 42 = .ok (.getfield 33, 3) := by decide +kernel
theorem dX9_first_45 : decode cX9_first 45 = .ok (.iload 4, 2) := by decide +kernel
theorem dX9_first_47 : decode cX9_first 47 = .ok (.invokevirtual 223, 3) := by decide +kernel
theorem dX9_first_50 : decode cX9_first 50 = .ok (.aload_n 0, 1) := by decide +kernel
theorem dX9_first_51 : decode cX9_first 51 = .ok (.getfield 40, 3) := by decide +kernel
theorem dX9_first_54 : decode cX9_first 54 = .ok (.aload_n 0, 1) := by decide +kernel
theorem dX9_first_55 : decode cX9_first 55 = .ok (.getfield 10, 3) := by decide +kernel
theorem dX9_first_58 : decode cX9_first 58 = .ok (.iload_n 1, 1) := by decide +kernel
theorem dX9_first_59 : decode cX9_first 59 = .ok (.iload_n 2, 1) := by decide +kernel
theorem dX9_first_60 : decode cX9_first 60 = .ok (.iload_n 3, 1) := by decide +kernel
theorem dX9_first_61 : decode cX9_first 61 = .ok (.invokevirtual 227, 3) := by decide +kernel
theorem dX9_first_64 : decode cX9_first 64 = .ok (.istore 5, 2) := by decide +kernel
theorem dX9_first_66 : decode cX9_first 66 = .ok (.iload 5, 2) := by decide +kernel
theorem dX9_first_68 : decode cX9_first 68 = .ok (.iconst (-1), 1) := by decide +kernel
theorem dX9_first_69 : decode cX9_first 69 = .ok (.if_icmp .eq 33, 3) := by decide +kernel
theorem dX9_first_72 : decode cX9_first 72 = .ok (.aload_n 0, 1) := by decide +kernel
theorem dX9_first_73 : decode cX9_first 73 = .ok (.getfield 40, 3) := by decide +kernel
theorem dX9_first_76 : decode cX9_first 76 = .ok (.aload_n 0, 1) := by decide +kernel
theorem dX9_first_77 : decode cX9_first 77 = .ok (.getfield 10, 3) := by decide +kernel
theorem dX9_first_80 : decode cX9_first 80 = .ok (.iload_n 2, 1) := by decide +kernel
theorem dX9_first_81 : decode cX9_first 81 = .ok (.iload 5, 2) := by decide +kernel
theorem dX9_first_83 : decode cX9_first 83 = .ok (.invokevirtual 231, 3) := by decide +kernel
theorem dX9_first_86 : decode cX9_first 86 = .ok (.aload_n 0, 1) := by decide +kernel
theorem dX9_first_87 : decode cX9_first 87 = .ok (.getfield 40, 3) := by decide +kernel
theorem dX9_first_90 : decode cX9_first 90 = .ok (.aload_n 0, 1) := by decide +kernel
theorem dX9_first_91 : decode cX9_first 91 = .ok (.getfield 10, 3) := by decide +kernel
theorem dX9_first_94 : decode cX9_first 94 = .ok (.iload_n 1, 1) := by decide +kernel
theorem dX9_first_95 : decode cX9_first 95 = .ok (.iload_n 2, 1) := by decide +kernel
theorem dX9_first_96 : decode cX9_first 96 = .ok (.iload_n 3, 1) := by decide +kernel
theorem dX9_first_97 : decode cX9_first 97 = .ok (.iload 5, 2) := by decide +kernel
theorem dX9_first_99 : decode cX9_first 99 = .ok (.invokevirtual 235, 3) := by decide +kernel
theorem dX9_first_102 : decode cX9_first 102 = .ok (.iload 5, 2) := by decide +kernel
theorem dX9_first_104 : decode cX9_first 104 = .ok (.ireturn, 1) := by decide +kernel
theorem dX9_last_0 : decode cX9_last 0 = .ok (.iload_n 1, 1) := by decide +kernel
theorem dX9_last_1 : decode cX9_last 1 = .ok (.iload_n 2, 1) := by decide +kernel
theorem dX9_last_2 : decode cX9_last 2 = .ok (.invokestatic 52, 3) := by decide +kernel
theorem dX9_last_5 : decode cX9_last 5 = .ok (.ifCond .eq 10, 3) := by decide +kernel
theorem dX9_last_8 : decode cX9_last 8 = .ok (.iload_n 3, 1) := by decide +kernel
theorem dX9_last_9 : decode cX9_last 9 = .ok (.invokestatic 220, 3) := by decide +kernel
theorem dX9_last_12 : decode cX9_last 12 = .ok (.ifCond .ne 5, 3) := by decide +kernel
theorem dX9_last_15 : decode cX9_last 15 = .ok (.iconst (-1), 1) := by decide +kernel
theorem dX9_last_16 : decode cX9_last 16 = .ok (.ireturn, 1) := by decide +kernel
theorem dX9_last_17 : decode cX9_last 17 = .ok (.iload 4, 2) := by decide +kernel
theorem dX9_last_19 : decode cX9_last 19 = .ok (.ifCond .eq 14, 3) := by decide +kernel
theorem dX9_last_22 : decode cX9_last 22 = .ok (.aload_n 0, 1) := by decide +kernel
theorem dX9_last_23 : decode cX9_last 23 = .ok (.getfield 33, 3) := by decide +kernel
theorem dX9_last_26 : decode cX9_last 26 = .ok (.aload_n 0, 1) := by decide +kernel
theorem dX9_last_27 : decode cX9_last 27 = .ok (.getfield 10, 3) := by decide +kernel
theorem dX9_last_30 : decode cX9_last 30 = .ok (.invokevirtual 183, 3) := by decide +kernel
theorem dX9_last_33 : decode cX9_last 33 = .ok (.aload_n 0, 1) := by decide +kernel
theorem dX9_last_34 : decode cX9_last 34 = .ok (.getfield 40, 3) := by decide +kernel
theorem dX9_last_37 : decode cX9_last 37 = .ok (.aload_n 0, 1) := by decide +kernel
theorem dX9_last_38 : decode cX9_last 38 = .ok (.getfield 10, 3) := by decide +kernel
theorem dX9_last_41 : decode cX9_last 41 = .ok (.aload_n 0, 1) := by decide +kernel
theorem dX9_last_42 : decode cX9_last 42 = .ok (.getfield 33, 3) := by decide +kernel
theorem dX9_last_45 : decode cX9_last 45 = .ok (.iload 4, 2) := by decide +kernel
theorem dX9_last_47 : decode cX9_last 47 = .ok (.invokevirtual 223, 3) := by decide +kernel
theorem dX9_last_50 : decode cX9_last 50 = .ok (.aload_n 0, 1) := by decide +kernel
theorem dX9_last_51 : decode cX9_last 51 = .ok (.getfield 40, 3) := by decide +kernel
theorem dX9_last_54 : decode cX9_last 54 = .ok (.aload_n 0, 1) := by decide +kernel
theorem dX9_last_55 : decode cX9_last 55 = .ok (.getfield 10, 3) := by decide +kernel
theorem dX9_last_58 : decode cX9_last 58 = .ok (.iload_n 2, 1) := by decide +kernel
theorem dX9_last_59 : decode cX9_last 59 = .ok (.iload_n 3, 1) := by decide +kernel
theorem dX9_last_60 : decode cX9_last 60 = .ok (.invokevirtual 231, 3) := by decide +kernel
theorem dX9_last_63 : decode cX9_last 63 = .ok (.aload_n 0, 1) := by decide +kernel
theorem dX9_last_64 : decode cX9_last 64 = .ok (.getfield 40, 3) := by decide +kernel
theorem dX9_last_67 : decode cX9_last 67 = .ok (.iload_n 1, 1) := by decide +kernel
theorem dX9_last_68 : decode cX9_last 68 = .ok (.aload_n 0, 1) := by decide +kernel
theorem dX9_last_69 : decode cX9_last 69 = .ok (.getfield 40, 3) := by decide +kernel
theorem dX9_last_72 : decode cX9_last 72 = .ok (.getfield 239, 3) := by decide +kernel
theorem dX9_last_75 : decode cX9_last 75 = .ok (.invokevirtual 242, 3) := by decide +kernel
theorem dX9_last_78 : decode cX9_last 78 = .ok (.ireturn, 1) := by decide +kernel
theorem dX9_ride_0 : decode cX9_ride 0 = .ok (.iload_n 1, 1) := by decide +kernel
theorem dX9_ride_1 : decode cX9_ride 1 = .ok (.ifCond .lt 23, 3) := by decide +kernel
theorem dX9_ride_4 : decode cX9_ride 4 = .ok (.iload_n 1, 1) := by decide +kernel
theorem dX9_ride_5 : decode cX9_ride 5 = .ok (.aload_n 0, 1) := by decide +kernel
theorem dX9_ride_6 : decode cX9_ride 6 = .ok (.getfield 40, 3) := by decide +kernel
theorem dX9_ride_9 : decode cX9_ride 9 = .ok (.getfield 245, 3) := by decide +kernel
theorem dX9_ride_12 : decode cX9_ride 12 = .ok (.if_icmp .ge 12, 3) := by decide +kernel
theorem dX9_ride_15 : decode cX9_ride 15 = .ok (.iload_n 2, 1) := by decide +kernel
theorem dX9_ride_16 : decode cX9_ride 16 = .ok (.ifCond .lt 8, 3) := by decide +kernel
theorem dX9_ride_19 : decode cX9_ride 19 = .ok (.iload_n 2, 1) := by decide +kernel
theorem dX9_ride_20 : decode cX9_ride 20 = .ok (.iconst 3, 1) := by decide +kernel
theorem dX9_ride_21 : decode cX9_ride 21 = .ok (.if_icmp .lt 5, 3) := by decide +kernel
theorem dX9_ride_24 : decode cX9_ride 24 = .ok (.iconst (-1), 1) := by decide +kernel
theorem dX9_ride_25 : decode cX9_ride 25 = .ok (.ireturn, 1) := by decide +kernel
theorem dX9_ride_26 : decode cX9_ride 26 = .ok (.aload_n 0, 1) := by decide +kernel
theorem dX9_ride_27 : decode cX9_ride 27 = .ok (.getfield 40, 3) := by decide +kernel
theorem dX9_ride_30 : decode cX9_ride 30 = .ok (.getfield 248, 3) := by decide +kernel
theorem dX9_ride_33 : decode cX9_ride 33 = .ok (.iload_n 1, 1) := by decide +kernel
theorem dX9_ride_34 : decode cX9_ride 34 = .ok (.iconst 3, 1) := by decide +kernel
theorem dX9_ride_35 : decode cX9_ride 35 = .ok (.imul, 1) := by decide +kernel
theorem dX9_ride_36 : decode cX9_ride 36 = .ok (.iload_n 2, 1) := by decide +kernel
theorem dX9_ride_37 : decode cX9_ride 37 = .ok (.iadd, 1) := by decide +kernel
theorem dX9_ride_38 : decode cX9_ride 38 = .ok (.iaload, 1) := by decide +kernel
theorem dX9_ride_39 : decode cX9_ride 39 = .ok (.ireturn, 1) := by decide +kernel
theorem dX9_look_0 : decode cX9_look 0 = .ok (.aload_n 0, 1) := by decide +kernel
theorem dX9_look_1 : decode cX9_look 1 = .ok (.getfield 10, 3) := by decide +kernel
theorem dX9_look_4 : decode cX9_look 4 = .ok (.iload_n 1, 1) := by decide +kernel
theorem dX9_look_5 : decode cX9_look 5 = .ok (.invokevirtual 106, 3) := by decide +kernel
theorem dX9_look_8 : decode cX9_look 8 = .ok (.ifCond .ne 5, 3) := by decide +kernel
theorem dX9_look_11 : decode cX9_look 11 = .ok (.iconst (-1), 1) := by decide +kernel
theorem dX9_look_12 : decode cX9_look 12 = .ok (.ireturn, 1) := by decide +kernel
theorem dX9_look_13 : decode cX9_look 13 = .ok (.aload_n 0, 1) := by decide +kernel
theorem dX9_look_14 : decode cX9_look 14 = .ok (.getfield 10, 3) := by decide +kernel
theorem dX9_look_17 : decode cX9_look 17 = .ok (.getfield 96, 3) := by decide +kernel
theorem dX9_look_20 : decode cX9_look 20 = .ok (.iload_n 1, 1) := by decide +kernel
theorem dX9_look_21 : decode cX9_look 21 = .ok (.aaload, 1) := by decide +kernel
theorem dX9_look_22 : decode cX9_look 22 = .ok (.astore_n 3, 1) := by decide +kernel
theorem dX9_look_23 : decode cX9_look 23 = .ok (.iload_n 2, 1) := by decide +kernel
theorem dX9_look_24 : decode cX9_look 24 = .ok (.tableswitch 70 0 5 #[40, 45, 50, 55, 60, 65], 40) := by decide +kernel
theorem dX9_look_64 : decode cX9_look 64 = .ok (.aload_n 3, 1) := by decide +kernel
theorem dX9_look_65 : decode cX9_look 65 = .ok (.getfield 214, 3) := by decide +kernel
theorem dX9_look_68 : decode cX9_look 68 = .ok (.ireturn, 1) := by decide +kernel
theorem dX9_look_69 : decode cX9_look 69 = .ok (.aload_n 3, 1) := by decide +kernel
theorem dX9_look_70 : decode cX9_look 70 = .ok (.getfield 251, 3) := by decide +kernel
theorem dX9_look_73 : decode cX9_look 73 = .ok (.ireturn, 1) := by decide +kernel
theorem dX9_look_74 : decode cX9_look 74 = .ok (.aload_n 3, 1) := by decide +kernel
theorem dX9_look_75 : decode cX9_look 75 = .ok (.getfield 254, 3) := by decide +kernel
theorem dX9_look_78 : decode cX9_look 78 = .ok (.ireturn, 1) := by decide +kernel
theorem dX9_look_79 : decode cX9_look 79 = .ok (.aload_n 3, 1) := by decide +kernel
theorem dX9_look_80 : decode cX9_look 80 = .ok (.getfield 257, 3) := by decide +kernel
theorem dX9_look_83 : decode cX9_look 83 = .ok (.ireturn, 1) := by decide +kernel
theorem dX9_look_84 : decode cX9_look 84 = .ok (.aload_n 3, 1) := by decide +kernel
theorem dX9_look_85 : decode cX9_look 85 = .ok (.getfield 109, 3) := by decide +kernel
theorem dX9_look_88 : decode cX9_look 88 = .ok (.ireturn, 1) := by decide +kernel
theorem dX9_look_89 : decode cX9_look 89 = .ok (.aload_n 3, 1) := by decide +kernel
theorem dX9_look_90 : decode cX9_look 90 = .ok (.invokevirtual 112, 3) := by decide +kernel
theorem dX9_look_93 : decode cX9_look 93 = .ok (.ireturn, 1) := by decide +kernel
theorem dX9_look_94 : decode cX9_look 94 = .ok (.iload_n 2, 1) := by decide +kernel
theorem dX9_look_95 : decode cX9_look 95 = .ok (.bipush 10, 2) := by decide +kernel
theorem dX9_look_97 : decode cX9_look 97 = .ok (.if_icmp .lt 26, 3) := by decide +kernel
theorem dX9_look_100 : decode cX9_look 100 = .ok (.aload_n 3, 1) := by decide +kernel
theorem dX9_look_101 : decode cX9_look 101 = .ok (.iload_n 2, 1) := by decide +kernel
theorem dX9_look_102 : decode cX9_look 102 = .ok (.bipush 10, 2) := by decide +kernel
theorem dX9_look_104 : decode cX9_look 104 = .ok (.isub, 1) := by decide +kernel
theorem dX9_look_105 : decode cX9_look 105 = .ok (.invokevirtual 180, 3) := by decide +kernel
theorem dX9_look_108 : decode cX9_look 108 = .ok (.ifCond .eq 15, 3) := by decide +kernel
theorem dX9_look_111 : decode cX9_look 111 = .ok (.aload_n 3, 1) := by decide +kernel
theorem dX9_look_112 : decode cX9_look 112 = .ok (.getfield 139, 3) := by decide +kernel
theorem dX9_look_115 : decode cX9_look 115 = .ok (.iload_n 2, 1) := by decide +kernel
theorem dX9_look_116 : decode cX9_look 116 = .ok (.bipush 10, 2) := by decide +kernel
theorem dX9_look_118 : decode cX9_look 118 = .ok (.isub, 1) := by decide +kernel
theorem dX9_look_119 : decode cX9_look 119 = .ok (.iaload, 1) := by decide +kernel
theorem dX9_look_120 : decode cX9_look 120 = .ok (.goto 4, 3) := by decide +kernel
theorem dX9_look_123 : decode cX9_look 123 = .ok (.iconst (-1), 1) := by decide +kernel
theorem dX9_look_124 : decode cX9_look 124 = .ok (.ireturn, 1) := by decide +kernel
theorem dX9_count_0 : decode cX9_count 0 = .ok (.iload_n 1, 1) := by decide +kernel
theorem dX9_count_1 : decode cX9_count 1 = .ok (.tableswitch 66 0 3 #[31, 42, 50, 58], 31) := by decide +kernel
theorem dX9_count_32 : decode cX9_count 32 = .ok (.aload_n 0, 1) := by decide +kernel
theorem dX9_count_33 : decode cX9_count 33 = .ok (.getfield 10, 3) := by decide +kernel
theorem dX9_count_36 : decode cX9_count 36 = .ok (.getfield 56, 3) := by decide +kernel
theorem dX9_count_39 : decode cX9_count 39 = .ok (.getfield 60, 3) := by decide +kernel
theorem dX9_count_42 : decode cX9_count 42 = .ok (.ireturn, 1) := by decide +kernel
theorem dX9_count_43 : decode cX9_count 43 = .ok (.aload_n 0, 1) := by decide +kernel
theorem dX9_count_44 : decode cX9_count 44 = .ok (.getfield 10, 3) := by decide +kernel
theorem dX9_count_47 : decode cX9_count 47 = .ok (.getfield 93, 3) := by decide +kernel
theorem dX9_count_50 : decode cX9_count 50 = .ok (.ireturn, 1) := by decide +kernel
theorem dX9_count_51 : decode cX9_count 51 = .ok (.aload_n 0, 1) := by decide +kernel
theorem dX9_count_52 : decode cX9_count 52 = .ok (.getfield 10, 3) := by decide +kernel
theorem dX9_count_55 : decode cX9_count 55 = .ok (.getfield 133, 3) := by decide +kernel
theorem dX9_count_58 : decode cX9_count 58 = .ok (.ireturn, 1) := by decide +kernel
theorem dX9_count_59 : decode cX9_count 59 = .ok (.aload_n 0, 1) := by decide +kernel
theorem dX9_count_60 : decode cX9_count 60 = .ok (.getfield 19, 3) := by decide +kernel
theorem dX9_count_63 : decode cX9_count 63 = .ok (.getfield 44, 3) := by decide +kernel
theorem dX9_count_66 : decode cX9_count 66 = .ok (.ireturn, 1) := by decide +kernel
theorem dX9_count_67 : decode cX9_count 67 = .ok (.iload_n 1, 1) := by decide +kernel
theorem dX9_count_68 : decode cX9_count 68 = .ok (.bipush 10, 2) := by decide +kernel
theorem dX9_count_70 : decode cX9_count 70 = .ok (.if_icmp .lt 29, 3) := by decide +kernel
theorem dX9_count_73 : decode cX9_count 73 = .ok (.iload_n 1, 1) := by decide +kernel
theorem dX9_count_74 : decode cX9_count 74 = .ok (.bipush 10, 2) := by decide +kernel
theorem dX9_count_76 : decode cX9_count 76 = .ok (.isub, 1) := by decide +kernel
theorem dX9_count_77 : decode cX9_count 77 = .ok (.invokestatic 87, 3) := by decide +kernel
theorem dX9_count_80 : decode cX9_count 80 = .ok (.ifCond .eq 19, 3) := by decide +kernel
theorem dX9_count_83 : decode cX9_count 83 = .ok (.aload_n 0, 1) := by decide +kernel
theorem dX9_count_84 : decode cX9_count 84 = .ok (.getfield 10, 3) := by decide +kernel
theorem dX9_count_87 : decode cX9_count 87 = .ok (.getfield 159, 3) := by decide +kernel
theorem dX9_count_90 : decode cX9_count 90 = .ok (.iload_n 1, 1) := by decide +kernel
theorem dX9_count_91 : decode cX9_count 91 = .ok (.bipush 10, 2) := by decide +kernel
theorem dX9_count_93 : decode cX9_count 93 = .ok (.isub, 1) := by decide +kernel
theorem dX9_count_94 : decode cX9_count 94 = .ok (.aaload, 1) := by decide +kernel
theorem dX9_count_95 : decode cX9_count 95 = .ok (.getfield 217, 3) := by decide +kernel
theorem dX9_count_98 : decode cX9_count 98 = .ok (.ireturn, 1) := by decide +kernel
theorem dX9_count_99 : decode cX9_count 99 = .ok (.iload_n 1, 1) := by decide +kernel
theorem dX9_count_100 : decode cX9_count 100 = .ok (.bipush 100, 2) := by decide +kernel
theorem dX9_count_102 : decode cX9_count 102 = .ok (.if_icmp .lt 43, 3) := by decide +kernel
theorem dX9_count_105 : decode cX9_count 105 = .ok (.aload_n 0, 1) := by decide +kernel
theorem dX9_count_106 : decode cX9_count 106 = .ok (.getfield 10, 3) := by decide +kernel
theorem dX9_count_109 : decode cX9_count 109 = .ok (.getfield 56, 3) := by decide +kernel
theorem dX9_count_112 : decode cX9_count 112 = .ok (.iload_n 1, 1) := by decide +kernel
theorem dX9_count_113 : decode cX9_count 113 = .ok (.bipush 100, 2) := by decide +kernel
theorem dX9_count_115 : decode cX9_count 115 = .ok (.isub, 1) := by decide +kernel
theorem dX9_count_116 : decode cX9_count 116 = .ok (.bipush 12, 2) := by decide +kernel
theorem dX9_count_118 : decode cX9_count 118 = .ok (.idiv, 1) := by decide +kernel
theorem dX9_count_119 : decode cX9_count 119 = .ok (.invokevirtual 67, 3) := by decide +kernel
theorem dX9_count_122 : decode cX9_count 122 = .ok (.ifCond .eq 23, 3) := by decide +kernel
theorem dX9_count_125 : decode cX9_count 125 = .ok (.aload_n 0, 1) := by decide +kernel
theorem dX9_count_126 : decode cX9_count 126 = .ok (.getfield 10, 3) := by decide +kernel
theorem dX9_count_129 : decode cX9_count 129 = .ok (.getfield 56, 3) := by decide +kernel
theorem dX9_count_132 : decode cX9_count 132 = .ok (.getfield 75, 3) := by decide +kernel
theorem dX9_count_135 : decode cX9_count 135 = .ok (.iload_n 1, 1) := by decide +kernel
theorem dX9_count_136 : decode cX9_count 136 = .ok (.bipush 100, 2) := by decide +kernel
theorem dX9_count_138 : decode cX9_count 138 = .ok (.isub, 1) := by decide +kernel
theorem dX9_count_139 : decode cX9_count 139 = .ok (.iaload, 1) := by decide +kernel
theorem dX9_count_140 : decode cX9_count 140 = .ok (.sipush 1000, 3) := by decide +kernel
theorem dX9_count_143 : decode cX9_count 143 = .ok (.iadd, 1) := by decide +kernel
theorem dX9_count_144 : decode cX9_count 144 = .ok (.ireturn, 1) := by decide +kernel
theorem dX9_count_145 : decode cX9_count 145 = .ok (.iconst (-1), 1) := by decide +kernel
theorem dX9_count_146 : decode cX9_count 146 = .ok (.ireturn, 1) := by decide +kernel
theorem dX9_isPort_0 : decode cX9_isPort 0 = .ok (.iload_n 0, 1) := by decide +kernel
theorem dX9_isPort_1 : decode cX9_isPort 1 = .ok (.ifCond .lt 13, 3) := by decide +kernel
theorem dX9_isPort_4 : decode cX9_isPort 4 = .ok (.iload_n 0, 1) := by decide +kernel
theorem dX9_isPort_5 : decode cX9_isPort 5 = .ok (.bipush 8, 2) := by decide +kernel
theorem dX9_isPort_7 : decode cX9_isPort 7 = .ok (.if_icmp .ge 7, 3) := by decide +kernel
theorem dX9_isPort_10 : decode cX9_isPort 10 = .ok (.iconst 1, 1) := by decide +kernel
theorem dX9_isPort_11 : decode cX9_isPort 11 = .ok (.goto 4, 3) := by decide +kernel
theorem dX9_isPort_14 : decode cX9_isPort 14 = .ok (.iconst 0, 1) := by decide +kernel
theorem dX9_isPort_15 : decode cX9_isPort 15 = .ok (.ireturn, 1) := by decide +kernel
theorem dX9_areTwoPorts_0 : decode cX9_areTwoPorts 0 = .ok (.iload_n 0, 1) := by decide +kernel
theorem dX9_areTwoPorts_1 : decode cX9_areTwoPorts 1 = .ok (.invokestatic 90, 3) := by decide +kernel
theorem dX9_areTwoPorts_4 : decode cX9_areTwoPorts 4 = .ok (.ifCond .eq 19, 3) := by decide +kernel
theorem dX9_areTwoPorts_7 : decode cX9_areTwoPorts 7 = .ok (.iload_n 1, 1) := by decide +kernel
theorem dX9_areTwoPorts_8 : decode cX9_areTwoPorts 8 = .ok (.invokestatic 90, 3) := by decide +kernel
theorem dX9_areTwoPorts_11 : decode cX9_areTwoPorts 11 = .ok (.ifCond .eq 12, 3) := by decide +kernel
theorem dX9_areTwoPorts_14 : decode cX9_areTwoPorts 14 = .ok (.iload_n 0, 1) := by decide +kernel
theorem dX9_areTwoPorts_15 : decode cX9_areTwoPorts 15 = .ok (.iload_n 1, 1) := by decide +kernel
theorem dX9_areTwoPorts_16 : decode cX9_areTwoPorts 16 = .ok (.if_icmp .eq 7, 3) := by decide +kernel
theorem dX9_areTwoPorts_19 : decode cX9_areTwoPorts 19 = .ok (.iconst 1, 1) := by decide +kernel
theorem dX9_areTwoPorts_20 : decode cX9_areTwoPorts 20 = .ok (.goto 4, 3) := by decide +kernel
theorem dX9_areTwoPorts_23 : decode cX9_areTwoPorts 23 = .ok (.iconst 0, 1) := by decide +kernel
theorem dX9_areTwoPorts_24 : decode cX9_areTwoPorts 24 = .ok (.ireturn, 1) := by decide +kernel
theorem dX9_isLine_0 : decode cX9_isLine 0 = .ok (.iload_n 0, 1) := by decide +kernel
theorem dX9_isLine_1 : decode cX9_isLine 1 = .ok (.ifCond .lt 12, 3) := by decide +kernel
theorem dX9_isLine_4 : decode cX9_isLine 4 = .ok (.iload_n 0, 1) := by decide +kernel
theorem dX9_isLine_5 : decode cX9_isLine 5 = .ok (.iconst 4, 1) := by decide +kernel
theorem dX9_isLine_6 : decode cX9_isLine 6 = .ok (.if_icmp .ge 7, 3) := by decide +kernel
theorem dX9_isLine_9 : decode cX9_isLine 9 = .ok (.iconst 1, 1) := by decide +kernel
theorem dX9_isLine_10 : decode cX9_isLine 10 = .ok (.goto 4, 3) := by decide +kernel
theorem dX9_isLine_13 : decode cX9_isLine 13 = .ok (.iconst 0, 1) := by decide +kernel
theorem dX9_isLine_14 : decode cX9_isLine 14 = .ok (.ireturn, 1) := by decide +kernel
theorem dX9_isAskedHour_0 : decode cX9_isAskedHour 0 = .ok (.iload_n 0, 1) := by decide +kernel
theorem dX9_isAskedHour_1 : decode cX9_isAskedHour 1 = .ok (.ifCond .lt 14, 3) := by decide +kernel
theorem dX9_isAskedHour_4 : decode cX9_isAskedHour 4 = .ok (.iload_n 0, 1) := by decide +kernel
theorem dX9_isAskedHour_5 : decode cX9_isAskedHour 5 = .ok (.sipush 20000, 3) := by decide +kernel
theorem dX9_isAskedHour_8 : decode cX9_isAskedHour 8 = .ok (.if_icmp .gt 7, 3) := by decide +kernel
theorem dX9_isAskedHour_11 : decode cX9_isAskedHour 11 = .ok (.iconst 1, 1) := by decide +kernel
theorem dX9_isAskedHour_12 : decode cX9_isAskedHour 12 = .ok (.goto 4, 3) := by decide +kernel
theorem dX9_isAskedHour_15 : decode cX9_isAskedHour 15 = .ok (.iconst 0, 1) := by decide +kernel
theorem dX9_isAskedHour_16 : decode cX9_isAskedHour 16 = .ok (.ireturn, 1) := by decide +kernel
theorem dX9_monthOf_0 : decode cX9_monthOf 0 = .ok (.iload_n 0, 1) := by decide +kernel
theorem dX9_monthOf_1 : decode cX9_monthOf 1 = .ok (.sipush 720, 3) := by decide +kernel
theorem dX9_monthOf_4 : decode cX9_monthOf 4 = .ok (.idiv, 1) := by decide +kernel
theorem dX9_monthOf_5 : decode cX9_monthOf 5 = .ok (.bipush 12, 2) := by decide +kernel
theorem dX9_monthOf_7 : decode cX9_monthOf 7 = .ok (.irem, 1) := by decide +kernel
theorem dX9_monthOf_8 : decode cX9_monthOf 8 = .ok (.ireturn, 1) := by decide +kernel
theorem dX9_roundedDown_0 : decode cX9_roundedDown 0 = .ok (.dload_n 0, 1) := by decide +kernel
theorem dX9_roundedDown_1 : decode cX9_roundedDown 1 = .ok (.d2i, 1) := by decide +kernel
theorem dX9_roundedDown_2 : decode cX9_roundedDown 2 = .ok (.istore_n 2, 1) := by decide +kernel
theorem dX9_roundedDown_3 : decode cX9_roundedDown 3 = .ok (.iload_n 2, 1) := by decide +kernel
theorem dX9_roundedDown_4 : decode cX9_roundedDown 4 = .ok (.i2d, 1) := by decide +kernel
theorem dX9_roundedDown_5 : decode cX9_roundedDown 5 = .ok (.dload_n 0, 1) := by decide +kernel
theorem dX9_roundedDown_6 : decode cX9_roundedDown 6 = .ok (.dcmp .l, 1) := by decide +kernel
theorem dX9_roundedDown_7 : decode cX9_roundedDown 7 = .ok (.ifCond .le 9, 3) := by decide +kernel
theorem dX9_roundedDown_10 : decode cX9_roundedDown 10 = .ok (.iload_n 2, 1) := by decide +kernel
theorem dX9_roundedDown_11 : decode cX9_roundedDown 11 = .ok (.iconst 1, 1) := by decide +kernel
theorem dX9_roundedDown_12 : decode cX9_roundedDown 12 = .ok (.isub, 1) := by decide +kernel
theorem dX9_roundedDown_13 : decode cX9_roundedDown 13 = .ok (.goto 4, 3) := by decide +kernel
theorem dX9_roundedDown_16 : decode cX9_roundedDown 16 = .ok (.iload_n 2, 1) := by decide +kernel
theorem dX9_roundedDown_17 : decode cX9_roundedDown 17 = .ok (.ireturn, 1) := by decide +kernel
theorem dX9_hoursFor_0 : decode cX9_hoursFor 0 = .ok (.iload_n 1, 1) := by decide +kernel
theorem dX9_hoursFor_1 : decode cX9_hoursFor 1 = .ok (.ifCond .le 13, 3) := by decide +kernel
theorem dX9_hoursFor_4 : decode cX9_hoursFor 4 = .ok (.iload_n 0, 1) := by decide +kernel
theorem dX9_hoursFor_5 : decode cX9_hoursFor 5 = .ok (.iload_n 1, 1) := by decide +kernel
theorem dX9_hoursFor_6 : decode cX9_hoursFor 6 = .ok (.iadd, 1) := by decide +kernel
theorem dX9_hoursFor_7 : decode cX9_hoursFor 7 = .ok (.iconst 1, 1) := by decide +kernel
theorem dX9_hoursFor_8 : decode cX9_hoursFor 8 = .ok (.isub, 1) := by decide +kernel
theorem dX9_hoursFor_9 : decode cX9_hoursFor 9 = .ok (.iload_n 1, 1) := by decide +kernel
theorem dX9_hoursFor_10 : decode cX9_hoursFor 10 = .ok (.idiv, 1) := by decide +kernel
theorem dX9_hoursFor_11 : decode cX9_hoursFor 11 = .ok (.goto 6, 3) := by decide +kernel
theorem dX9_hoursFor_14 : decode cX9_hoursFor 14 = .ok (.ldc_w 260, 3) := by decide +kernel
theorem dX9_hoursFor_17 : decode cX9_hoursFor 17 = .ok (.ireturn, 1) := by decide +kernel
theorem dJ9_max_7cf53_0 : decode cJ9_max_7cf53 0 = .ok (.iload_n 0, 1) := by decide +kernel
theorem dJ9_max_7cf53_1 : decode cJ9_max_7cf53 1 = .ok (.iload_n 1, 1) := by decide +kernel
theorem dJ9_max_7cf53_2 : decode cJ9_max_7cf53 2 = .ok (.if_icmp .lt 7, 3) := by decide +kernel
theorem dJ9_max_7cf53_5 : decode cJ9_max_7cf53 5 = .ok (.iload_n 0, 1) := by decide +kernel
theorem dJ9_max_7cf53_6 : decode cJ9_max_7cf53 6 = .ok (.goto 4, 3) := by decide +kernel
theorem dJ9_max_7cf53_9 : decode cJ9_max_7cf53 9 = .ok (.iload_n 1, 1) := by decide +kernel
theorem dJ9_max_7cf53_10 : decode cJ9_max_7cf53 10 = .ok (.ireturn, 1) := by decide +kernel
theorem dJ9_min_7cf53_0 : decode cJ9_min_7cf53 0 = .ok (.iload_n 0, 1) := by decide +kernel
theorem dJ9_min_7cf53_1 : decode cJ9_min_7cf53 1 = .ok (.iload_n 1, 1) := by decide +kernel
theorem dJ9_min_7cf53_2 : decode cJ9_min_7cf53 2 = .ok (.if_icmp .gt 7, 3) := by decide +kernel
theorem dJ9_min_7cf53_5 : decode cJ9_min_7cf53 5 = .ok (.iload_n 0, 1) := by decide +kernel
theorem dJ9_min_7cf53_6 : decode cJ9_min_7cf53 6 = .ok (.goto 4, 3) := by decide +kernel
theorem dJ9_min_7cf53_9 : decode cJ9_min_7cf53 9 = .ok (.iload_n 1, 1) := by decide +kernel
theorem dJ9_min_7cf53_10 : decode cJ9_min_7cf53 10 = .ok (.ireturn, 1) := by decide +kernel
theorem dJ7_fill_53178_0 : decode cJ7_fill_53178 0 = .ok (.iconst 0, 1) := by decide +kernel
theorem dJ7_fill_53178_1 : decode cJ7_fill_53178 1 = .ok (.istore_n 2, 1) := by decide +kernel
theorem dJ7_fill_53178_2 : decode cJ7_fill_53178 2 = .ok (.aload_n 0, 1) := by decide +kernel
theorem dJ7_fill_53178_3 : decode cJ7_fill_53178 3 = .ok (.arraylength, 1) := by decide +kernel
theorem dJ7_fill_53178_4 : decode cJ7_fill_53178 4 = .ok (.istore_n 3, 1) := by decide +kernel
theorem dJ7_fill_53178_5 : decode cJ7_fill_53178 5 = .ok (.iload_n 2, 1) := by decide +kernel
theorem dJ7_fill_53178_6 : decode cJ7_fill_53178 6 = .ok (.iload_n 3, 1) := by decide +kernel
theorem dJ7_fill_53178_7 : decode cJ7_fill_53178 7 = .ok (.if_icmp .ge 13, 3) := by decide +kernel
theorem dJ7_fill_53178_10 : decode cJ7_fill_53178 10 = .ok (.aload_n 0, 1) := by decide +kernel
theorem dJ7_fill_53178_11 : decode cJ7_fill_53178 11 = .ok (.iload_n 2, 1) := by decide +kernel
theorem dJ7_fill_53178_12 : decode cJ7_fill_53178 12 = .ok (.iload_n 1, 1) := by decide +kernel
theorem dJ7_fill_53178_13 : decode cJ7_fill_53178 13 = .ok (.iastore, 1) := by decide +kernel
theorem dJ7_fill_53178_14 : decode cJ7_fill_53178 14 = .ok (.iinc 2 1, 3) := by decide +kernel
theorem dJ7_fill_53178_17 : decode cJ7_fill_53178 17 = .ok (.goto (-12), 3) := by decide +kernel
theorem dJ7_fill_53178_20 : decode cJ7_fill_53178 20 = .ok (.return_, 1) := by decide +kernel
end
section
theorem dX10_init_0 : decode cX10_init 0 = .ok (.aload_n 0, 1) := by decide +kernel
theorem dX10_init_1 : decode cX10_init 1 = .ok (.invokespecial 1, 3) := by decide +kernel
theorem dX10_init_4 : decode cX10_init 4 = .ok (.aload_n 0, 1) := by decide +kernel
theorem dX10_init_5 : decode cX10_init 5 = .ok (.bipush 12, 2) := by decide +kernel
theorem dX10_init_7 : decode cX10_init 7 = .ok (.newarray .int, 2) := by decide +kernel
theorem dX10_init_9 : decode cX10_init 9 = .ok (.putfield 7, 3) := by decide +kernel
theorem dX10_init_12 : decode cX10_init 12 = .ok (.aload_n 0, 1) := by decide +kernel
theorem dX10_init_13 : decode cX10_init 13 = .ok (.bipush 12, 2) := by decide +kernel
theorem dX10_init_15 : decode cX10_init 15 = .ok (.newarray .int, 2) := by decide +kernel
theorem dX10_init_17 : decode cX10_init 17 = .ok (.putfield 13, 3) := by decide +kernel
theorem dX10_init_20 : decode cX10_init 20 = .ok (.aload_n 0, 1) := by decide +kernel
theorem dX10_init_21 : decode cX10_init 21 = .ok (.bipush 12, 2) := by decide +kernel
theorem dX10_init_23 : decode cX10_init 23 = .ok (.newarray .int, 2) := by decide +kernel
theorem dX10_init_25 : decode cX10_init 25 = .ok (.putfield 16, 3) := by decide +kernel
theorem dX10_init_28 : decode cX10_init 28 = .ok (.aload_n 0, 1) := by decide +kernel
theorem dX10_init_29 : decode cX10_init 29 = .ok (.sipush 144, 3) := by decide +kernel
theorem dX10_init_32 : decode cX10_init 32 = .ok (.newarray .int, 2) := by decide +kernel
theorem dX10_init_34 : decode cX10_init 34 = .ok (.putfield 19, 3) := by decide +kernel
theorem dX10_init_37 : decode cX10_init 37 = .ok (.aload_n 0, 1) := by decide +kernel
theorem dX10_init_38 : decode cX10_init 38 = .ok (.bipush 10, 2) := by decide +kernel
theorem dX10_init_40 : decode cX10_init 40 = .ok (.newarray .int, 2) := by decide +kernel
theorem dX10_init_42 : decode cX10_init 42 = .ok (.putfield 22, 3) := by decide +kernel
theorem dX10_init_45 : decode cX10_init 45 = .ok (.aload_n 0, 1) := by decide +kernel
theorem dX10_init_46 : decode cX10_init 46 = .ok (.bipush 10, 2) := by decide +kernel
theorem dX10_init_48 : decode cX10_init 48 = .ok (.newarray .int, 2) := by decide +kernel
theorem dX10_init_50 : decode cX10_init 50 = .ok (.putfield 25, 3) := by decide +kernel
theorem dX10_init_53 : decode cX10_init 53 = .ok (.aload_n 0, 1) := by decide +kernel
theorem dX10_init_54 : decode cX10_init 54 = .ok (.bipush 10, 2) := by decide +kernel
theorem dX10_init_56 : decode cX10_init 56 = .ok (.newarray .int, 2) := by decide +kernel
theorem dX10_init_58 : decode cX10_init 58 = .ok (.putfield 28, 3) := by decide +kernel
theorem dX10_init_61 : decode cX10_init 61 = .ok (.aload_n 0, 1) := by decide +kernel
theorem dX10_init_62 : decode cX10_init 62 = .ok (.bipush 10, 2) := by decide +kernel
theorem dX10_init_64 : decode cX10_init 64 = .ok (.newarray .int, 2) := by decide +kernel
theorem dX10_init_66 : decode cX10_init 66 = .ok (.putfield 31, 3) := by decide +kernel
theorem dX10_init_69 : decode cX10_init 69 = .ok (.aload_n 0, 1) := by decide +kernel
theorem dX10_init_70 : decode cX10_init 70 = .ok (.bipush 10, 2) := by decide +kernel
theorem dX10_init_72 : decode cX10_init 72 = .ok (.newarray .int, 2) := by decide +kernel
theorem dX10_init_74 : decode cX10_init 74 = .ok (.putfield 34, 3) := by decide +kernel
theorem dX10_init_77 : decode cX10_init 77 = .ok (.aload_n 0, 1) := by decide +kernel
theorem dX10_init_78 : decode cX10_init 78 = .ok (.bipush 60, 2) := by decide +kernel
theorem dX10_init_80 : decode cX10_init 80 = .ok (.newarray .int, 2) := by decide +kernel
theorem dX10_init_82 : decode cX10_init 82 = .ok (.putfield 37, 3) := by decide +kernel
theorem dX10_init_85 : decode cX10_init 85 = .ok (.aload_n 0, 1) := by decide +kernel
theorem dX10_init_86 : decode cX10_init 86 = .ok (.bipush 60, 2) := by decide +kernel
theorem dX10_init_88 : decode cX10_init 88 = .ok (.newarray .int, 2) := by decide +kernel
theorem dX10_init_90 : decode cX10_init 90 = .ok (.putfield 40, 3) := by decide +kernel
theorem dX10_init_93 : decode cX10_init 93 = .ok (.aload_n 0, 1) := by decide +kernel
theorem dX10_init_94 : decode cX10_init 94 = .ok (.bipush 70, 2) := by decide +kernel
theorem dX10_init_96 : decode cX10_init 96 = .ok (.newarray .int, 2) := by decide +kernel
theorem dX10_init_98 : decode cX10_init 98 = .ok (.putfield 43, 3) := by decide +kernel
theorem dX10_init_101 : decode cX10_init 101 = .ok (.aload_n 0, 1) := by decide +kernel
theorem dX10_init_102 : decode cX10_init 102 = .ok (.bipush 20, 2) := by decide +kernel
theorem dX10_init_104 : decode cX10_init 104 = .ok (.newarray .int, 2) := by decide +kernel
theorem dX10_init_106 : decode cX10_init 106 = .ok (.putfield 46, 3) := by decide +kernel
theorem dX10_init_109 : decode cX10_init 109 = .ok (.aload_n 0, 1) := by decide +kernel
theorem dX10_init_110 : decode cX10_init 110 = .ok (.bipush 20, 2) := by decide +kernel
theorem dX10_init_112 : decode cX10_init 112 = .ok (.newarray .int, 2) := by decide +kernel
theorem dX10_init_114 : decode cX10_init 114 = .ok (.putfield 49, 3) := by decide +kernel
theorem dX10_init_117 : decode cX10_init 117 = .ok (.aload_n 0, 1) := by decide +kernel
theorem dX10_init_118 : decode cX10_init 118 = .ok (.bipush 20, 2) := by decide +kernel
theorem dX10_init_120 : decode cX10_init 120 = .ok (.newarray .int, 2) := by decide +kernel
theorem dX10_init_122 : decode cX10_init 122 = .ok (.putfield 52, 3) := by decide +kernel
theorem dX10_init_125 : decode cX10_init 125 = .ok (.aload_n 0, 1) := by decide +kernel
theorem dX10_init_126 : decode cX10_init 126 = .ok (.bipush 20, 2) := by decide +kernel
theorem dX10_init_128 : decode cX10_init 128 = .ok (.newarray .int, 2) := by decide +kernel
theorem dX10_init_130 : decode cX10_init 130 = .ok (.putfield 55, 3) := by decide +kernel
theorem dX10_init_133 : decode cX10_init 133 = .ok (.aload_n 0, 1) := by decide +kernel
theorem dX10_init_134 : decode cX10_init 134 = .ok (.sipush 200, 3) := by decide +kernel
theorem dX10_init_137 : decode cX10_init 137 = .ok (.newarray .byte, 2) := by decide +kernel
theorem dX10_init_139 : decode cX10_init 139 = .ok (.putfield 58, 3) := by decide +kernel
theorem dX10_init_142 : decode cX10_init 142 = .ok (.aload_n 0, 1) := by decide +kernel
theorem dX10_init_143 : decode cX10_init 143 = .ok (.iconst (-1), 1) := by decide +kernel
theorem dX10_init_144 : decode cX10_init 144 = .ok (.putfield 62, 3) := by decide +kernel
theorem dX10_init_147 : decode cX10_init 147 = .ok (.aload_n 0, 1) := by decide +kernel
theorem dX10_init_148 : decode cX10_init 148 = .ok (.iconst 5, 1) := by decide +kernel
theorem dX10_init_149 : decode cX10_init 149 = .ok (.newarray .int, 2) := by decide +kernel
theorem dX10_init_151 : decode cX10_init 151 = .ok (.putfield 66, 3) := by decide +kernel
theorem dX10_init_154 : decode cX10_init 154 = .ok (.aload_n 0, 1) := by decide +kernel
theorem dX10_init_155 : decode cX10_init 155 = .ok (.iconst 5, 1) := by decide +kernel
theorem dX10_init_156 : decode cX10_init 156 = .ok (.newarray .int, 2) := by decide +kernel
theorem dX10_init_158 : decode cX10_init 158 = .ok (.putfield 69, 3) := by decide +kernel
theorem dX10_init_161 : decode cX10_init 161 = .ok (.aload_n 0, 1) := by decide +kernel
theorem dX10_init_162 : decode cX10_init 162 = .ok (.iconst 5, 1) := by decide +kernel
theorem dX10_init_163 : decode cX10_init 163 = .ok (.newarray .int, 2) := by decide +kernel
theorem dX10_init_165 : decode cX10_init 165 = .ok (.putfield 72, 3) := by decide +kernel
theorem dX10_init_168 : decode cX10_init 168 = .ok (.aload_n 0, 1) := by decide +kernel
theorem dX10_init_169 : decode cX10_init 169 = .ok (.bipush 60, 2) := by decide +kernel
theorem dX10_init_171 : decode cX10_init 171 = .ok (.newarray .int, 2) := by decide +kernel
theorem dX10_init_173 : decode cX10_init 173 = .ok (.putfield 75, 3) := by decide +kernel
theorem dX10_init_176 : decode cX10_init 176 = .ok (.aload_n 0, 1) := by decide +kernel
theorem dX10_init_177 : decode cX10_init 177 = .ok (.bipush 60, 2) := by decide +kernel
theorem dX10_init_179 : decode cX10_init 179 = .ok (.newarray .int, 2) := by decide +kernel
theorem dX10_init_181 : decode cX10_init 181 = .ok (.putfield 78, 3) := by decide +kernel
theorem dX10_init_184 : decode cX10_init 184 = .ok (.aload_n 0, 1) := by decide +kernel
theorem dX10_init_185 : decode cX10_init 185 = .ok (.bipush 60, 2) := by decide +kernel
theorem dX10_init_187 : decode cX10_init 187 = .ok (.newarray .int, 2) := by decide +kernel
theorem dX10_init_189 : decode cX10_init 189 = .ok (.putfield 81, 3) := by decide +kernel
theorem dX10_init_192 : decode cX10_init 192 = .ok (.aload_n 0, 1) := by decide +kernel
theorem dX10_init_193 : decode cX10_init 193 = .ok (.bipush 60, 2) := by decide +kernel
theorem dX10_init_195 : decode cX10_init 195 = .ok (.newarray .int, 2) := by decide +kernel
theorem dX10_init_197 : decode cX10_init 197 = .ok (.putfield 84, 3) := by decide +kernel
theorem dX10_init_200 : decode cX10_init 200 = .ok (.aload_n 0, 1) := by decide +kernel
theorem dX10_init_201 : decode cX10_init 201 = .ok (.sipush 1000, 3) := by decide +kernel
theorem dX10_init_204 : decode cX10_init 204 = .ok (.newarray .int, 2) := by decide +kernel
theorem dX10_init_206 : decode cX10_init 206 = .ok (.putfield 87, 3) := by decide +kernel
theorem dX10_init_209 : decode cX10_init 209 = .ok (.aload_n 0, 1) := by decide +kernel
theorem dX10_init_210 : decode cX10_init 210 = .ok (.sipush 1000, 3) := by decide +kernel
theorem dX10_init_213 : decode cX10_init 213 = .ok (.newarray .int, 2) := by decide +kernel
theorem dX10_init_215 : decode cX10_init 215 = .ok (.putfield 90, 3) := by decide +kernel
theorem dX10_init_218 : decode cX10_init 218 = .ok (.aload_n 0, 1) := by decide +kernel
theorem dX10_init_219 : decode cX10_init 219 = .ok (.sipush 1000, 3) := by decide +kernel
theorem dX10_init_222 : decode cX10_init 222 = .ok (.newarray .int, 2) := by decide +kernel
theorem dX10_init_224 : decode cX10_init 224 = .ok (.putfield 93, 3) := by decide +kernel
theorem dX10_init_227 : decode cX10_init 227 = .ok (.aload_n 0, 1) := by decide +kernel
theorem dX10_init_228 : decode cX10_init 228 = .ok (.sipush 1000, 3) := by decide +kernel
theorem dX10_init_231 : decode cX10_init 231 = .ok (.newarray .int, 2) := by decide +kernel
theorem dX10_init_233 : decode cX10_init 233 = .ok (.putfield 96, 3) := by decide +kernel
theorem dX10_init_236 : decode cX10_init 236 = .ok (.aload_n 0, 1) := by decide +kernel
theorem dX10_init_237 : decode cX10_init 237 = .ok (.sipush 200, 3) := by decide +kernel
theorem dX10_init_240 : decode cX10_init 240 = .ok (.newarray .int, 2) := by decide +kernel
theorem dX10_init_242 : decode cX10_init 242 = .ok (.putfield 99, 3) := by decide +kernel
theorem dX10_init_245 : decode cX10_init 245 = .ok (.aload_n 0, 1) := by decide +kernel
theorem dX10_init_246 : decode cX10_init 246 = .ok (.iconst 5, 1) := by decide +kernel
theorem dX10_init_247 : decode cX10_init 247 = .ok (.newarray .int, 2) := by decide +kernel
theorem dX10_init_249 : decode cX10_init 249 = .ok (.putfield 102, 3) := by decide +kernel
theorem dX10_init_252 : decode cX10_init 252 = .ok (.aload_n 0, 1) := by decide +kernel
theorem dX10_init_253 : decode cX10_init 253 = .ok (.sipush 200, 3) := by decide +kernel
theorem dX10_init_256 : decode cX10_init 256 = .ok (.newarray .boolean, 2) := by decide +kernel
theorem dX10_init_258 : decode cX10_init 258 = .ok (.putfield 105, 3) := by decide +kernel
theorem dX10_init_261 : decode cX10_init 261 = .ok (.aload_n 0, 1) := by decide +kernel
theorem dX10_init_262 : decode cX10_init 262 = .ok (.bipush 70, 2) := by decide +kernel
theorem dX10_init_264 : decode cX10_init 264 = .ok (.newarray .int, 2) := by decide +kernel
theorem dX10_init_266 : decode cX10_init 266 = .ok (.putfield 109, 3) := by decide +kernel
theorem dX10_init_269 : decode cX10_init 269 = .ok (.aload_n 0, 1) := by decide +kernel
theorem dX10_init_270 : decode cX10_init 270 = .ok (.bipush 70, 2) := by decide +kernel
theorem dX10_init_272 : decode cX10_init 272 = .ok (.newarray .int, 2) := by decide +kernel
theorem dX10_init_274 : decode cX10_init 274 = .ok (.putfield 112, 3) := by decide +kernel
theorem dX10_init_277 : decode cX10_init 277 = .ok (.aload_n 0, 1) := by decide +kernel
theorem dX10_init_278 : decode cX10_init 278 = .ok (.bipush 70, 2) := by decide +kernel
theorem dX10_init_280 : decode cX10_init 280 = .ok (.newarray .int, 2) := by decide +kernel
theorem dX10_init_282 : decode cX10_init 282 = .ok (.putfield 115, 3) := by decide +kernel
theorem dX10_init_285 : decode cX10_init 285 = .ok (.aload_n 0, 1) := by decide +kernel
theorem dX10_init_286 : decode cX10_init 286 = .ok (.bipush 70, 2) := by decide +kernel
theorem dX10_init_288 : decode cX10_init 288 = .ok (.newarray .int, 2) := by decide +kernel
theorem dX10_init_290 : decode cX10_init 290 = .ok (.putfield 118, 3) := by decide +kernel
theorem dX10_init_293 : decode cX10_init 293 = .ok (.aload_n 0, 1) := by decide +kernel
theorem dX10_init_294 : decode cX10_init 294 = .ok (.sipush 280, 3) := by decide +kernel
theorem dX10_init_297 : decode cX10_init 297 = .ok (.newarray .int, 2) := by decide +kernel
theorem dX10_init_299 : decode cX10_init 299 = .ok (.putfield 121, 3) := by decide +kernel
theorem dX10_init_302 : decode cX10_init 302 = .ok (.aload_n 0, 1) := by decide +kernel
theorem dX10_init_303 : decode cX10_init 303 = .ok (.bipush 10, 2) := by decide +kernel
theorem dX10_init_305 : decode cX10_init 305 = .ok (.newarray .int, 2) := by decide +kernel
theorem dX10_init_307 : decode cX10_init 307 = .ok (.putfield 124, 3) := by decide +kernel
theorem dX10_init_310 : decode cX10_init 310 = .ok (.aload_n 0, 1) := by decide +kernel
theorem dX10_init_311 : decode cX10_init 311 = .ok (.bipush 10, 2) := by decide +kernel
theorem dX10_init_313 : decode cX10_init 313 = .ok (.newarray .int, 2) := by decide +kernel
theorem dX10_init_315 : decode cX10_init 315 = .ok (.putfield 127, 3) := by decide +kernel
theorem dX10_init_318 : decode cX10_init 318 = .ok (.aload_n 0, 1) := by decide +kernel
theorem dX10_init_319 : decode cX10_init 319 = .ok (.bipush 10, 2) := by decide +kernel
theorem dX10_init_321 : decode cX10_init 321 = .ok (.newarray .int, 2) := by decide +kernel
theorem dX10_init_323 : decode cX10_init 323 = .ok (.putfield 130, 3) := by decide +kernel
theorem dX10_init_326 : decode cX10_init 326 = .ok (.aload_n 0, 1) := by decide +kernel
theorem dX10_init_327 : decode cX10_init 327 = .ok (.bipush 10, 2) := by decide +kernel
theorem dX10_init_329 : decode cX10_init 329 = .ok (.newarray .boolean, 2) := by decide +kernel
theorem dX10_init_331 : decode cX10_init 331 = .ok (.putfield 133, 3) := by decide +kernel
theorem dX10_init_334 : decode cX10_init 334 = .ok (.aload_n 0, 1) := by decide +kernel
theorem dX10_init_335 : decode cX10_init 335 = .ok (.bipush 8, 2) := by decide +kernel
theorem dX10_init_337 : decode cX10_init 337 = .ok (.newarray .int, 2) := by decide +kernel
theorem dX10_init_339 : decode cX10_init 339 = .ok (.putfield 136, 3) := by decide +kernel
theorem dX10_init_342 : decode cX10_init 342 = .ok (.aload_n 0, 1) := by decide +kernel
theorem dX10_init_343 : decode cX10_init 343 = .ok (.bipush 8, 2) := by decide +kernel
theorem dX10_init_345 : decode cX10_init 345 = .ok (.newarray .int, 2) := by decide +kernel
theorem dX10_init_347 : decode cX10_init 347 = .ok (.putfield 139, 3) := by decide +kernel
theorem dX10_init_350 : decode cX10_init 350 = .ok (.aload_n 0, 1) := by decide +kernel
theorem dX10_init_351 : decode cX10_init 351 = .ok (.bipush 8, 2) := by decide +kernel
theorem dX10_init_353 : decode cX10_init 353 = .ok (.newarray .int, 2) := by decide +kernel
theorem dX10_init_355 : decode cX10_init 355 = .ok (.putfield 142, 3) := by decide +kernel
theorem dX10_init_358 : decode cX10_init 358 = .ok (.aload_n 0, 1) := by decide +kernel
theorem dX10_init_359 : decode cX10_init 359 = .ok (.bipush 8, 2) := by decide +kernel
theorem dX10_init_361 : decode cX10_init 361 = .ok (.newarray .int, 2) := by decide +kernel
theorem dX10_init_363 : decode cX10_init 363 = .ok (.putfield 145, 3) := by decide +kernel
theorem dX10_init_366 : decode cX10_init 366 = .ok (.aload_n 0, 1) := by decide +kernel
theorem dX10_init_367 : decode cX10_init 367 = .ok (.bipush 8, 2) := by decide +kernel
theorem dX10_init_369 : decode cX10_init 369 = .ok (.newarray .int, 2) := by decide +kernel
theorem dX10_init_371 : decode cX10_init 371 = .ok (.putfield 148, 3) := by decide +kernel
theorem dX10_init_374 : decode cX10_init 374 = .ok (.return_, 1) := by decide +kernel
theorem dX10_isPort_0 : decode cX10_isPort 0 = .ok (.iload_n 0, 1) := by decide +kernel
theorem dX10_isPort_1 : decode cX10_isPort 1 = .ok (.ifCond .lt 13, 3) := by decide +kernel
theorem dX10_isPort_4 : decode cX10_isPort 4 = .ok (.iload_n 0, 1) := by decide +kernel
theorem dX10_isPort_5 : decode cX10_isPort 5 = .ok (.bipush 8, 2) := by decide +kernel
theorem dX10_isPort_7 : decode cX10_isPort 7 = .ok (.if_icmp .ge 7, 3) := by decide +kernel
theorem dX10_isPort_10 : decode cX10_isPort 10 = .ok (.iconst 1, 1) := by decide +kernel
theorem dX10_isPort_11 : decode cX10_isPort 11 = .ok (.goto 4, 3) := by decide +kernel
theorem dX10_isPort_14 : decode cX10_isPort 14 = .ok (.iconst 0, 1) := by decide +kernel
theorem dX10_isPort_15 : decode cX10_isPort 15 = .ok (.ireturn, 1) := by decide +kernel
theorem dX10_isVoyage_0 : decode cX10_isVoyage 0 = .ok (.iload_n 1, 1) := by decide +kernel
theorem dX10_isVoyage_1 : decode cX10_isVoyage 1 = .ok (.ifCond .lt 15, 3) := by decide +kernel
theorem dX10_isVoyage_4 : decode cX10_isVoyage 4 = .ok (.iload_n 1, 1) := by decide +kernel
theorem dX10_isVoyage_5 : decode cX10_isVoyage 5 = .ok (.aload_n 0, 1) := by decide +kernel
theorem dX10_isVoyage_6 : decode cX10_isVoyage 6 = .ok (.getfield 151, 3) := by decide +kernel
theorem dX10_isVoyage_9 : decode cX10_isVoyage 9 = .ok (.if_icmp .ge 7, 3) := by decide +kernel
theorem dX10_isVoyage_12 : decode cX10_isVoyage 12 = .ok (.iconst 1, 1) := by decide +kernel
theorem dX10_isVoyage_13 : decode cX10_isVoyage 13 = .ok (.goto 4, 3) := by decide +kernel
theorem dX10_isVoyage_16 : decode cX10_isVoyage 16 = .ok (.iconst 0, 1) := by decide +kernel
theorem dX10_isVoyage_17 : decode cX10_isVoyage 17 = .ok (.ireturn, 1) := by decide +kernel
theorem dX10_passage_0 : decode cX10_passage 0 = .ok (.iload_n 1, 1) := by decide +kernel
theorem dX10_passage_1 : decode cX10_passage 1 = .ok (.invokestatic 154, 3) := by decide +kernel
theorem dX10_passage_4 : decode cX10_passage 4 = .ok (.ifCond .eq 36, 3) := by decide +kernel
theorem dX10_passage_7 : decode cX10_passage 7 = .ok (.iload_n 2, 1) := by decide +kernel
theorem dX10_passage_8 : decode cX10_passage 8 = .ok (.invokestatic 154, 3) := by decide +kernel
theorem dX10_passage_11 : decode cX10_passage 11 = .ok (.ifCond .eq 29, 3) := by decide +kernel
theorem dX10_passage_14 : decode cX10_passage 14 = .ok (.iload_n 1, 1) := by decide +kernel
theorem dX10_passage_15 : decode cX10_passage 15 = .ok (.iload_n 2, 1) := by decide +kernel
theorem dX10_passage_16 : decode cX10_passage 16 = .ok (.if_icmp .eq 24, 3) := by decide +kernel
theorem dX10_passage_19 : decode cX10_passage 19 = .ok (.iload_n 3, 1) := by decide +kernel
theorem dX10_passage_20 : decode cX10_passage 20 = .ok (.iconst 1, 1) := by decide +kernel
theorem dX10_passage_21 : decode cX10_passage 21 = .ok (.if_icmp .lt 19, 3) := by decide +kernel
theorem dX10_passage_24 : decode cX10_passage 24 = .ok (.iload_n 3, 1) := by decide +kernel
theorem dX10_passage_25 : decode cX10_passage 25 = .ok (.sipush 9999, 3) := by decide +kernel
theorem dX10_passage_28 : decode cX10_passage 28 = .ok (.if_icmp .gt 12, 3) := by decide +kernel
theorem dX10_passage_31 : decode cX10_passage 31 = .ok (.aload_n 0, 1) := by decide +kernel
theorem dX10_passage_32 : decode cX10_passage 32 = .ok (.getfield 158, 3) := by decide +kernel
theorem dX10_passage_35 : decode cX10_passage 35 = .ok (.bipush 12, 2) := by decide +kernel
theorem dX10_passage_37 : decode cX10_passage 37 = .ok (.if_icmp .ne 5, 3) := by decide +kernel
theorem dX10_passage_40 : decode cX10_passage 40 = .ok (.iconst (-1), 1) := by decide +kernel
theorem dX10_passage_41 : decode cX10_passage 41 = .ok (.ireturn, 1) := by decide +kernel
theorem dX10_passage_42 : decode cX10_passage 42 = .ok (.aload_n 0, 1) := by decide +kernel
theorem dX10_passage_43 : decode cX10_passage 43 = .ok (.getfield 7, 3) := by decide +kernel
theorem dX10_passage_46 : decode cX10_passage 46 = .ok (.aload_n 0, 1) := by decide +kernel
theorem dX10_passage_47 : decode cX10_passage 47 = .ok (.getfield 158, 3) := by decide +kernel
theorem dX10_passage_50 : decode cX10_passage 50 = .ok (.iload_n 1, 1) := by decide +kernel
theorem dX10_passage_51 : decode cX10_passage 51 = .ok (.iastore, 1) := by decide +kernel
theorem dX10_passage_52 : decode cX10_passage 52 = .ok (.aload_n 0, 1) := by decide +kernel
theorem dX10_passage_53 : decode cX10_passage 53 = .ok (.getfield 13, 3) := by decide +kernel
theorem dX10_passage_56 : decode cX10_passage 56 = .ok (.aload_n 0, 1) := by decide +kernel
theorem dX10_passage_57 : decode cX10_passage 57 = .ok (.getfield 158, 3) := by decide +kernel
theorem dX10_passage_60 : decode cX10_passage 60 = .ok (.iload_n 2, 1) := by decide +kernel
theorem dX10_passage_61 : decode cX10_passage 61 = .ok (.iastore, 1) := by decide +kernel
theorem dX10_passage_62 : decode cX10_passage 62 = .ok (.aload_n 0, 1) := by decide +kernel
theorem dX10_passage_63 : decode cX10_passage 63 = .ok (.getfield 16, 3) := by decide +kernel
theorem dX10_passage_66 : decode cX10_passage 66 = .ok (.aload_n 0, 1) := by decide +kernel
theorem dX10_passage_67 : decode cX10_passage 67 = .ok (.getfield 158, 3) := by decide +kernel
theorem dX10_passage_70 : decode cX10_passage 70 = .ok (.iload_n 3, 1) := by decide +kernel
theorem dX10_passage_71 : decode cX10_passage 71 = .ok (.iastore, 1) := by decide +kernel
theorem dX10_passage_72 : decode cX10_passage 72 = .ok (.aload_n 0, 1) := by decide +kernel
theorem dX10_passage_73 : decode cX10_passage 73 = .ok (.aload_n 0, 1) := by decide +kernel
theorem dX10_passage_74 : decode cX10_passage 74 = .ok (.getfield 158, 3) := by decide +kernel
theorem dX10_passage_77 : decode cX10_passage 77 = .ok (.iconst 1, 1) := by decide +kernel
theorem dX10_passage_78 : decode cX10_passage 78 = .ok (.iadd, 1) := by decide +kernel
theorem dX10_passage_79 : decode cX10_passage 79 = .ok (.putfield 158, 3) := by decide +kernel
theorem dX10_passage_82 : decode cX10_passage 82 = .ok (.aload_n 0, 1) := by decide +kernel
theorem dX10_passage_83 : decode cX10_passage 83 = .ok (.getfield 158, 3) := by decide +kernel
theorem dX10_passage_86 : decode cX10_passage 86 = .ok (.iconst 1, 1) := by decide +kernel
theorem dX10_passage_87 : decode cX10_passage 87 = .ok (.isub, 1) := by decide +kernel
theorem dX10_passage_88 : decode cX10_passage 88 = .ok (.ireturn, 1) := by decide +kernel
theorem dX10_wind_0 : decode cX10_wind 0 = .ok (.iload_n 1, 1) := by decide +kernel
theorem dX10_wind_1 : decode cX10_wind 1 = .ok (.ifCond .lt 21, 3) := by decide +kernel
theorem dX10_wind_4 : decode cX10_wind 4 = .ok (.iload_n 1, 1) := by decide +kernel
theorem dX10_wind_5 : decode cX10_wind 5 = .ok (.aload_n 0, 1) := by decide +kernel
theorem dX10_wind_6 : decode cX10_wind 6 = .ok (.getfield 158, 3) := by decide +kernel
theorem dX10_wind_9 : decode cX10_wind 9 = .ok (.if_icmp .ge 13, 3) := by decide +kernel
theorem dX10_wind_12 : decode cX10_wind 12 = .ok (.iload_n 2, 1) := by decide +kernel
theorem dX10_wind_13 : decode cX10_wind 13 = .ok (.ifCond .lt 9, 3) := by decide +kernel
theorem dX10_wind_16 : decode cX10_wind 16 = .ok (.iload_n 2, 1) := by decide +kernel
theorem dX10_wind_17 : decode cX10_wind 17 = .ok (.bipush 11, 2) := by decide +kernel
theorem dX10_wind_19 : decode cX10_wind 19 = .ok (.if_icmp .le 5, 3) := by decide +kernel
theorem dX10_wind_22 : decode cX10_wind 22 = .ok (.iconst 0, 1) := by decide +kernel
theorem dX10_wind_23 : decode cX10_wind 23 = .ok (.ireturn, 1) := by decide +kernel
theorem dX10_wind_24 : decode cX10_wind 24 = .ok (.dload_n 3, 1) := by decide +kernel
theorem dX10_wind_25 : decode cX10_wind 25 = .ok (.ldc2_w 161, 3) := by decide +kernel
theorem dX10_wind_28 : decode cX10_wind 28 = .ok (.dcmp .g, 1) := by decide +kernel
theorem dX10_wind_29 : decode cX10_wind 29 = .ok (.ifCond .lt 11, 3) := by decide +kernel
theorem dX10_wind_32 : decode cX10_wind 32 = .ok (.dload_n 3, 1) := by decide +kernel
theorem dX10_wind_33 : decode cX10_wind 33 = .ok (.ldc2_w 163, 3) := by decide +kernel
theorem dX10_wind_36 : decode cX10_wind 36 = .ok (.dcmp .l, 1) := by decide +kernel
theorem dX10_wind_37 : decode cX10_wind 37 = .ok (.ifCond .lt 5, 3) := by decide +kernel
theorem dX10_wind_40 : decode cX10_wind 40 = .ok (.iconst 0, 1) := by decide +kernel
theorem dX10_wind_41 : decode cX10_wind 41 = .ok (.ireturn, 1) := by decide +kernel
theorem dX10_wind_42 : decode cX10_wind 42 = .ok (.dload_n 3, 1) := by decide +kernel
theorem dX10_wind_43 : decode cX10_wind 43 = .ok (.d2i, 1) := by decide +kernel
theorem dX10_wind_44 : decode cX10_wind 44 = .ok (.istore 5, 2) := by decide +kernel
theorem dX10_wind_46 : decode cX10_wind 46 = .ok (.dload_n 3, 1) := by decide +kernel
theorem dX10_wind_47 : decode cX10_wind 47 = .ok (.iload 5, 2) := by decide +kernel
theorem dX10_wind_49 : decode cX10_wind 49 = .ok (.i2d, 1) := by decide +kernel
theorem dX10_wind_50 : decode cX10_wind 50 = .ok (.dcmp .g, 1) := by decide +kernel
theorem dX10_wind_51 : decode cX10_wind 51 = .ok (.ifCond .ge 9, 3) := by decide +kernel
theorem dX10_wind_54 : decode cX10_wind 54 = .ok (.iload 5, 2) := by decide +kernel
theorem dX10_wind_56 : decode cX10_wind 56 = .ok (.iconst 1, 1) := by decide +kernel
theorem dX10_wind_57 : decode cX10_wind 57 = .ok (.isub, 1) := by decide +kernel
theorem dX10_wind_58 : decode cX10_wind 58 = .ok (.istore 5, 2) := by decide +kernel
theorem dX10_wind_60 : decode cX10_wind 60 = .ok (.aload_n 0, 1) := by decide +kernel
theorem dX10_wind_61 : decode cX10_wind 61 = .ok (.getfield 19, 3) := by decide +kernel
theorem dX10_wind_64 : decode cX10_wind 64 = .ok (.bipush 12, 2) := by decide +kernel
theorem dX10_wind_66 : decode cX10_wind 66 = .ok (.iload_n 1, 1) := by decide +kernel
theorem dX10_wind_67 : decode cX10_wind 67 = .ok (.imul, 1) := by decide +kernel
theorem dX10_wind_68 : decode cX10_wind 68 = .ok (.iload_n 2, 1) := by decide +kernel
theorem dX10_wind_69 : decode cX10_wind 69 = .ok (.iadd, 1) := by decide +kernel
theorem dX10_wind_70 : decode cX10_wind 70 = .ok (.iload 5, 2) := by decide +kernel
theorem dX10_wind_72 : decode cX10_wind 72 = .ok (.iastore, 1) := by decide +kernel
theorem dX10_wind_73 : decode cX10_wind 73 = .ok (.aload_n 0, 1) := by decide +kernel
theorem dX10_wind_74 : decode cX10_wind 74 = .ok (.iconst 0, 1) := by decide +kernel
theorem dX10_wind_75 : decode cX10_wind 75 = .ok (.putfield 165, 3) := by decide +kernel
theorem dX10_wind_78 : decode cX10_wind 78 = .ok (.iconst 1, 1) := by decide +kernel
theorem dX10_wind_79 : decode cX10_wind 79 = .ok (.ireturn, 1) := by decide +kernel
theorem dX10_voyage_0 : decode cX10_voyage 0 = .ok (.iload_n 1, 1) := by decide +kernel
theorem dX10_voyage_1 : decode cX10_voyage 1 = .ok (.ifCond .lt 61, 3) := by decide +kernel
theorem dX10_voyage_4 : decode cX10_voyage 4 = .ok (.iload_n 1, 1) := by decide +kernel
theorem dX10_voyage_5 : decode cX10_voyage 5 = .ok (.iconst 4, 1) := by decide +kernel
theorem dX10_voyage_6 : decode cX10_voyage 6 = .ok (.if_icmp .ge 56, 3) := by decide +kernel
theorem dX10_voyage_9 : decode cX10_voyage 9 = .ok (.iload_n 2, 1) := by decide +kernel
theorem dX10_voyage_10 : decode cX10_voyage 10 = .ok (.invokestatic 154, 3) := by decide +kernel
theorem dX10_voyage_13 : decode cX10_voyage 13 = .ok (.ifCond .eq 49, 3) := by decide +kernel
theorem dX10_voyage_16 : decode cX10_voyage 16 = .ok (.iload_n 3, 1) := by decide +kernel
theorem dX10_voyage_17 : decode cX10_voyage 17 = .ok (.iconst 1, 1) := by decide +kernel
theorem dX10_voyage_18 : decode cX10_voyage 18 = .ok (.if_icmp .lt 44, 3) := by decide +kernel
theorem dX10_voyage_21 : decode cX10_voyage 21 = .ok (.iload_n 3, 1) := by decide +kernel
theorem dX10_voyage_22 : decode cX10_voyage 22 = .ok (.bipush 30, 2) := by decide +kernel
theorem dX10_voyage_24 : decode cX10_voyage 24 = .ok (.if_icmp .gt 38, 3) := by decide +kernel
theorem dX10_voyage_27 : decode cX10_voyage 27 = .ok (.iload 4, 2) := by decide +kernel
theorem dX10_voyage_29 : decode cX10_voyage 29 = .ok (.iconst 1, 1) := by decide +kernel
theorem dX10_voyage_30 : decode cX10_voyage 30 = .ok (.if_icmp .lt 32, 3) := by decide +kernel
theorem dX10_voyage_33 : decode cX10_voyage 33 = .ok (.iload 4, 2) := by decide +kernel
theorem dX10_voyage_35 : decode cX10_voyage 35 = .ok (.bipush 48, 2) := by decide +kernel
theorem dX10_voyage_37 : decode cX10_voyage 37 = .ok (.if_icmp .gt 25, 3) := by decide +kernel
theorem dX10_voyage_40 : decode cX10_voyage 40 = .ok (.iload 5, 2) := by decide +kernel
theorem dX10_voyage_42 : decode cX10_voyage 42 = .ok (.ifCond .lt 20, 3) := by decide +kernel
theorem dX10_voyage_45 : decode cX10_voyage 45 = .ok (.iload 5, 2) := by decide +kernel
theorem dX10_voyage_47 : decode cX10_voyage 47 = .ok (.sipush 5000, 3) := by decide +kernel
theorem dX10_voyage_50 : decode cX10_voyage 50 = .ok (.if_icmp .gt 12, 3) := by decide +kernel
theorem dX10_voyage_53 : decode cX10_voyage 53 = .ok (.aload_n 0, 1) := by decide +kernel
theorem dX10_voyage_54 : decode cX10_voyage 54 = .ok (.getfield 151, 3) := by decide +kernel
theorem dX10_voyage_57 : decode cX10_voyage 57 = .ok (.bipush 10, 2) := by decide +kernel
theorem dX10_voyage_59 : decode cX10_voyage 59 = .ok (.if_icmp .ne 5, 3) := by decide +kernel
theorem dX10_voyage_62 : decode cX10_voyage 62 = .ok (.iconst (-1), 1) := by decide +kernel
theorem dX10_voyage_63 : decode cX10_voyage 63 = .ok (.ireturn, 1) := by decide +kernel
theorem dX10_voyage_64 : decode cX10_voyage 64 = .ok (.aload_n 0, 1) := by decide +kernel
theorem dX10_voyage_65 : decode cX10_voyage 65 = .ok (.getfield 22, 3) := by decide +kernel
theorem dX10_voyage_68 : decode cX10_voyage 68 = .ok (.aload_n 0, 1) := by decide +kernel
theorem dX10_voyage_69 : decode cX10_voyage 69 = .ok (.getfield 151, 3) := by decide +kernel
theorem dX10_voyage_72 : decode cX10_voyage 72 = .ok (.iload_n 1, 1) := by decide +kernel
theorem dX10_voyage_73 : decode cX10_voyage 73 = .ok (.iastore, 1) := by decide +kernel
theorem dX10_voyage_74 : decode cX10_voyage 74 = .ok (.aload_n 0, 1) := by decide +kernel
theorem dX10_voyage_75 : decode cX10_voyage 75 = .ok (.getfield 25, 3) := by decide +kernel
theorem dX10_voyage_78 : decode cX10_voyage 78 = .ok (.aload_n 0, 1) := by decide +kernel
theorem dX10_voyage_79 : decode cX10_voyage 79 = .ok (.getfield 151, 3) := by decide +kernel
theorem dX10_voyage_82 : decode cX10_voyage 82 = .ok (.iload_n 3, 1) := by decide +kernel
theorem dX10_voyage_83 : decode cX10_voyage 83 = .ok (.iastore, 1) := by decide +kernel
theorem dX10_voyage_84 : decode cX10_voyage 84 = .ok (.aload_n 0, 1) := by decide +kernel
theorem dX10_voyage_85 : decode cX10_voyage 85 = .ok (.getfield 28, 3) := by decide +kernel
theorem dX10_voyage_88 : decode cX10_voyage 88 = .ok (.aload_n 0, 1) := by decide +kernel
theorem dX10_voyage_89 : decode cX10_voyage 89 = .ok (.getfield 151, 3) := by decide +kernel
theorem dX10_voyage_92 : decode cX10_voyage 92 = .ok (.iload 4, 2) := by decide +kernel
theorem dX10_voyage_94 : decode cX10_voyage 94 = .ok (.iastore, 1) := by decide +kernel
theorem dX10_voyage_95 : decode cX10_voyage 95 = .ok (.aload_n 0, 1) := by decide +kernel
theorem dX10_voyage_96 : decode cX10_voyage 96 = .ok (.getfield 31, 3) := by decide +kernel
theorem dX10_voyage_99 : decode cX10_voyage 99 = .ok (.aload_n 0, 1) := by decide +kernel
theorem dX10_voyage_100 : decode cX10_voyage 100 = .ok (.getfield 151, 3) := by decide +kernel
theorem dX10_voyage_103 : decode cX10_voyage 103 = .ok (.iload 5, 2) := by decide +kernel
theorem dX10_voyage_105 : decode cX10_voyage 105 = .ok (.iastore, 1) := by decide +kernel
theorem dX10_voyage_106 : decode cX10_voyage 106 = .ok (.aload_n 0, 1) := by decide +kernel
theorem dX10_voyage_107 : decode cX10_voyage 107 = .ok (.getfield 34, 3) := by decide +kernel
theorem dX10_voyage_110 : decode cX10_voyage 110 = .ok (.aload_n 0, 1) := by decide +kernel
theorem dX10_voyage_111 : decode cX10_voyage 111 = .ok (.getfield 151, 3) := by decide +kernel
theorem dX10_voyage_114 : decode cX10_voyage 114 = .ok (.iconst 0, 1) := by decide +kernel
theorem dX10_voyage_115 : decode cX10_voyage 115 = .ok (.iastore, 1) := by decide +kernel
theorem dX10_voyage_116 : decode cX10_voyage 116 = .ok (.aload_n 0, 1) := by decide +kernel
theorem dX10_voyage_117 : decode cX10_voyage 117 = .ok (.getfield 43, 3) := by decide +kernel
theorem dX10_voyage_120 : decode cX10_voyage 120 = .ok (.bipush 7, 2) := by decide +kernel
theorem dX10_voyage_122 : decode cX10_voyage 122 = .ok (.aload_n 0, 1) := by decide +kernel
theorem dX10_voyage_123 : decode cX10_voyage 123 = .ok (.getfield 151, 3) := by decide +kernel
theorem dX10_voyage_126 : decode cX10_voyage 126 = .ok (.imul, 1) := by decide +kernel
theorem dX10_voyage_127 : decode cX10_voyage 127 = .ok (.iload_n 2, 1) := by decide +kernel
theorem dX10_voyage_128 : decode cX10_voyage 128 = .ok (.iastore, 1) := by decide +kernel
theorem dX10_voyage_129 : decode cX10_voyage 129 = .ok (.aload_n 0, 1) := by decide +kernel
theorem dX10_voyage_130 : decode cX10_voyage 130 = .ok (.aload_n 0, 1) := by decide +kernel
theorem dX10_voyage_131 : decode cX10_voyage 131 = .ok (.getfield 151, 3) := by decide +kernel
theorem dX10_voyage_134 : decode cX10_voyage 134 = .ok (.iconst 1, 1) := by decide +kernel
theorem dX10_voyage_135 : decode cX10_voyage 135 = .ok (.iadd, 1) := by decide +kernel
theorem dX10_voyage_136 : decode cX10_voyage 136 = .ok (.putfield 151, 3) := by decide +kernel
theorem dX10_voyage_139 : decode cX10_voyage 139 = .ok (.aload_n 0, 1) := by decide +kernel
theorem dX10_voyage_140 : decode cX10_voyage 140 = .ok (.iconst 0, 1) := by decide +kernel
theorem dX10_voyage_141 : decode cX10_voyage 141 = .ok (.putfield 165, 3) := by decide +kernel
theorem dX10_voyage_144 : decode cX10_voyage 144 = .ok (.aload_n 0, 1) := by decide +kernel
theorem dX10_voyage_145 : decode cX10_voyage 145 = .ok (.getfield 151, 3) := by decide +kernel
theorem dX10_voyage_148 : decode cX10_voyage 148 = .ok (.iconst 1, 1) := by decide +kernel
theorem dX10_voyage_149 : decode cX10_voyage 149 = .ok (.isub, 1) := by decide +kernel
theorem dX10_voyage_150 : decode cX10_voyage 150 = .ok (.ireturn, 1) := by decide +kernel
theorem dX10_leg_0 : decode cX10_leg 0 = .ok (.aload_n 0, 1) := by decide +kernel
theorem dX10_leg_1 : decode cX10_leg 1 = .ok (.iload_n 1, 1) := by decide +kernel
theorem dX10_leg_2 : decode cX10_leg 2 = .ok (.invokevirtual 169, 3) := by decide +kernel
theorem dX10_leg_5 : decode cX10_leg 5 = .ok (.ifCond .eq 26, 3) := by decide +kernel
theorem dX10_leg_8 : decode cX10_leg 8 = .ok (.iload_n 2, 1) := by decide +kernel
theorem dX10_leg_9 : decode cX10_leg 9 = .ok (.ifCond .lt 22, 3) := by decide +kernel
theorem dX10_leg_12 : decode cX10_leg 12 = .ok (.iload_n 2, 1) := by decide +kernel
theorem dX10_leg_13 : decode cX10_leg 13 = .ok (.aload_n 0, 1) := by decide +kernel
theorem dX10_leg_14 : decode cX10_leg 14 = .ok (.getfield 158, 3) := by decide +kernel
theorem dX10_leg_17 : decode cX10_leg 17 = .ok (.if_icmp .ge 14, 3) := by decide +kernel
theorem dX10_leg_20 : decode cX10_leg 20 = .ok (.aload_n 0, 1) := by decide +kernel
theorem dX10_leg_21 : decode cX10_leg 21 = .ok (.getfield 34, 3) := by decide +kernel
theorem dX10_leg_24 : decode cX10_leg 24 = .ok (.iload_n 1, 1) := by decide +kernel
theorem dX10_leg_25 : decode cX10_leg 25 = .ok (.iaload, 1) := by decide +kernel
theorem dX10_leg_26 : decode cX10_leg 26 = .ok (.bipush 6, 2) := by decide +kernel
theorem dX10_leg_28 : decode cX10_leg 28 = .ok (.if_icmp .ne 5, 3) := by decide +kernel
theorem dX10_leg_31 : decode cX10_leg 31 = .ok (.iconst (-1), 1) := by decide +kernel
theorem dX10_leg_32 : decode cX10_leg 32 = .ok (.ireturn, 1) := by decide +kernel
theorem dX10_leg_33 : decode cX10_leg 33 = .ok (.aload_n 0, 1) := by decide +kernel
theorem dX10_leg_34 : decode cX10_leg 34 = .ok (.getfield 43, 3) := by decide +kernel
theorem dX10_leg_37 : decode cX10_leg 37 = .ok (.bipush 7, 2) := by decide +kernel
theorem dX10_leg_39 : decode cX10_leg 39 = .ok (.iload_n 1, 1) := by decide +kernel
theorem dX10_leg_40 : decode cX10_leg 40 = .ok (.imul, 1) := by decide +kernel
theorem dX10_leg_41 : decode cX10_leg 41 = .ok (.aload_n 0, 1) := by decide +kernel
theorem dX10_leg_42 : decode cX10_leg 42 = .ok (.getfield 34, 3) := by decide +kernel
theorem dX10_leg_45 : decode cX10_leg 45 = .ok (.iload_n 1, 1) := by decide +kernel
theorem dX10_leg_46 : decode cX10_leg 46 = .ok (.iaload, 1) := by decide +kernel
theorem dX10_leg_47 : decode cX10_leg 47 = .ok (.iadd, 1) := by decide +kernel
theorem dX10_leg_48 : decode cX10_leg 48 = .ok (.iaload, 1) := by decide +kernel
theorem dX10_leg_49 : decode cX10_leg 49 = .ok (.istore_n 3, 1) := by decide +kernel
theorem dX10_leg_50 : decode cX10_leg 50 = .ok (.aload_n 0, 1) := by decide +kernel
theorem dX10_leg_51 : decode cX10_leg 51 = .ok (.getfield 7, 3) := by decide +kernel
theorem dX10_leg_54 : decode cX10_leg 54 = .ok (.iload_n 2, 1) := by decide +kernel
theorem dX10_leg_55 : decode cX10_leg 55 = .ok (.iaload, 1) := by decide +kernel
theorem dX10_leg_56 : decode cX10_leg 56 = .ok (.iload_n 3, 1) := by decide +kernel
theorem dX10_leg_57 : decode cX10_leg 57 = .ok (.if_icmp .eq 15, 3) := by decide +kernel
theorem dX10_leg_60 : decode cX10_leg 60 = .ok (.aload_n 0, 1) := by decide +kernel
theorem dX10_leg_61 : decode cX10_leg 61 = .ok (.getfield 13, 3) := by decide +kernel
theorem dX10_leg_64 : decode cX10_leg 64 = .ok (.iload_n 2, 1) := by decide +kernel
theorem dX10_leg_65 : decode cX10_leg 65 = .ok (.iaload, 1) := by decide +kernel
theorem dX10_leg_66 : decode cX10_leg 66 = .ok (.iload_n 3, 1) := by decide +kernel
theorem dX10_leg_67 : decode cX10_leg 67 = .ok (.if_icmp .eq 5, 3) := by decide +kernel
theorem dX10_leg_70 : decode cX10_leg 70 = .ok (.iconst (-1), 1) := by decide +kernel
theorem dX10_leg_71 : decode cX10_leg 71 = .ok (.ireturn, 1) := by decide +kernel
theorem dX10_leg_72 : decode cX10_leg 72 = .ok (.aload_n 0, 1) := by decide +kernel
theorem dX10_leg_73 : decode cX10_leg 73 = .ok (.getfield 37, 3) := by decide +kernel
theorem dX10_leg_76 : decode cX10_leg 76 = .ok (.bipush 6, 2) := by decide +kernel
theorem dX10_leg_78 : decode cX10_leg 78 = .ok (.iload_n 1, 1) := by decide +kernel
theorem dX10_leg_79 : decode cX10_leg 79 = .ok (.imul, 1) := by decide +kernel
theorem dX10_leg_80 : decode cX10_leg 80 = .ok (.aload_n 0, 1) := by decide +kernel
theorem dX10_leg_81 : decode cX10_leg 81 = .ok (.getfield 34, 3) := by decide +kernel
theorem dX10_leg_84 : decode cX10_leg 84 = .ok (.iload_n 1, 1) := by decide +kernel
theorem dX10_leg_85 : decode cX10_leg 85 = .ok (.iaload, 1) := by decide +kernel
theorem dX10_leg_86 : decode cX10_leg 86 = .ok (.iadd, 1) := by decide +kernel
theorem dX10_leg_87 : decode cX10_leg 87 = .ok (.iload_n 2, 1) := by decide +kernel
theorem dX10_leg_88 : decode cX10_leg 88 = .ok (.iastore, 1) := by decide +kernel
theorem dX10_leg_89 : decode cX10_leg 89 = .ok (.aload_n 0, 1) := by decide +kernel
theorem dX10_leg_90 : decode cX10_leg 90 = .ok (.getfield 40, 3) := by decide +kernel
theorem dX10_leg_93 : decode cX10_leg 93 = .ok (.bipush 6, 2) := by decide +kernel
theorem dX10_leg_95 : decode cX10_leg 95 = .ok (.iload_n 1, 1) := by decide +kernel
theorem dX10_leg_96 : decode cX10_leg 96 = .ok (.imul, 1) := by decide +kernel
theorem dX10_leg_97 : decode cX10_leg 97 = .ok (.aload_n 0, 1) := by decide +kernel
theorem dX10_leg_98 : decode cX10_leg 98 = .ok (.getfield 34, 3) := by decide +kernel
theorem dX10_leg_101 : decode cX10_leg 101 = .ok (.iload_n 1, 1) := by decide +kernel
theorem dX10_leg_102 : decode cX10_leg 102 = .ok (.iaload, 1) := by decide +kernel
theorem dX10_leg_103 : decode cX10_leg 103 = .ok (.iadd, 1) := by decide +kernel
theorem dX10_leg_104 : decode cX10_leg 104 = .ok (.iconst 0, 1) := by decide +kernel
theorem dX10_leg_105 : decode cX10_leg 105 = .ok (.iastore, 1) := by decide +kernel
theorem dX10_leg_106 : decode cX10_leg 106 = .ok (.aload_n 0, 1) := by decide +kernel
theorem dX10_leg_107 : decode cX10_leg 107 = .ok (.getfield 34, 3) := by decide +kernel
theorem dX10_leg_110 : decode cX10_leg 110 = .ok (.iload_n 1, 1) := by decide +kernel
theorem dX10_leg_111 : decode cX10_leg 111 = .ok (.aload_n 0, 1) := by decide +kernel
theorem dX10_leg_112 : decode cX10_leg 112 = .ok (.getfield 34, 3) := by decide +kernel
theorem dX10_leg_115 : decode cX10_leg 115 = .ok (.iload_n 1, 1) := by decide +kernel
theorem dX10_leg_116 : decode cX10_leg 116 = .ok (.iaload, 1) := by decide +kernel
theorem dX10_leg_117 : decode cX10_leg 117 = .ok (.iconst 1, 1) := by decide +kernel
theorem dX10_leg_118 : decode cX10_leg 118 = .ok (.iadd, 1) := by decide +kernel
theorem dX10_leg_119 : decode cX10_leg 119 = .ok (.iastore, 1) := by decide +kernel
theorem dX10_leg_120 : decode cX10_leg 120 = .ok (.aload_n 0, 1) := by decide +kernel
theorem dX10_leg_121 : decode cX10_leg 121 = .ok (.getfield 43, 3) := by decide +kernel
theorem dX10_leg_124 : decode cX10_leg 124 = .ok (.bipush 7, 2) := by decide +kernel
theorem dX10_leg_126 : decode cX10_leg 126 = .ok (.iload_n 1, 1) := by decide +kernel
theorem dX10_leg_127 : decode cX10_leg 127 = .ok (.imul, 1) := by decide +kernel
theorem dX10_leg_128 : decode cX10_leg 128 = .ok (.aload_n 0, 1) := by decide +kernel
theorem dX10_leg_129 : decode cX10_leg 129 = .ok (.getfield 34, 3) := by decide +kernel
theorem dX10_leg_132 : decode cX10_leg 132 = .ok (.iload_n 1, 1) := by decide +kernel
theorem dX10_leg_133 : decode cX10_leg 133 = .ok (.iaload, 1) := by decide +kernel
theorem dX10_leg_134 : decode cX10_leg 134 = .ok (.iadd, 1) := by decide +kernel
theorem dX10_leg_135 : decode cX10_leg 135 = .ok (.aload_n 0, 1) := by decide +kernel
theorem dX10_leg_136 : decode cX10_leg 136 = .ok (.getfield 7, 3) := by decide +kernel
theorem dX10_leg_139 : decode cX10_leg 139 = .ok (.iload_n 2, 1) := by decide +kernel
theorem dX10_leg_140 : decode cX10_leg 140 = .ok (.iaload, 1) := by decide +kernel
theorem dX10_leg_141 : decode cX10_leg 141 = .ok (.iload_n 3, 1) := by decide +kernel
theorem dX10_leg_142 : decode cX10_leg 142 = .ok (.if_icmp .ne 12, 3) := by decide +kernel
theorem dX10_leg_145 : decode cX10_leg 145 = .ok (.aload_n 0, 1) := by decide +kernel
theorem dX10_leg_146 : decode cX10_leg 146 = .ok (.getfield 13, 3) := by decide +kernel
theorem dX10_leg_149 : decode cX10_leg 149 = .ok (.iload_n 2, 1) := by decide +kernel
theorem dX10_leg_150 : decode cX10_leg 150 = .ok (.iaload, 1) := by decide +kernel
theorem dX10_leg_151 : decode cX10_leg 151 = .ok (.goto 9, 3) := by decide +kernel
theorem dX10_leg_154 : decode cX10_leg 154 = .ok (.aload_n 0, 1) := by decide +kernel
theorem dX10_leg_155 : decode cX10_leg 155 = .ok (.getfield 7, 3) := by decide +kernel
theorem dX10_leg_158 : decode cX10_leg 158 = .ok (.iload_n 2, 1) := by decide +kernel
theorem dX10_leg_159 : decode cX10_leg 159 = .ok (.iaload, 1) := by decide +kernel
theorem dX10_leg_160 : decode cX10_leg 160 = .ok (.iastore, 1) := by decide +kernel
theorem dX10_leg_161 : decode cX10_leg 161 = .ok (.aload_n 0, 1) := by decide +kernel
theorem dX10_leg_162 : decode cX10_leg 162 = .ok (.iconst 0, 1) := by decide +kernel
theorem dX10_leg_163 : decode cX10_leg 163 = .ok (.putfield 165, 3) := by decide +kernel
theorem dX10_leg_166 : decode cX10_leg 166 = .ok (.aload_n 0, 1) := by decide +kernel
theorem dX10_leg_167 : decode cX10_leg 167 = .ok (.getfield 34, 3) := by decide +kernel
theorem dX10_leg_170 : decode cX10_leg 170 = .ok (.iload_n 1, 1) := by decide +kernel
theorem dX10_leg_171 : decode cX10_leg 171 = .ok (.iaload, 1) := by decide +kernel
theorem dX10_leg_172 : decode cX10_leg 172 = .ok (.ireturn, 1) := by decide +kernel
theorem dX10_broken_0 : decode cX10_broken 0 = .ok (.aload_n 0, 1) := by decide +kernel
theorem dX10_broken_1 : decode cX10_broken 1 = .ok (.iload_n 1, 1) := by decide +kernel
theorem dX10_broken_2 : decode cX10_broken 2 = .ok (.invokevirtual 169, 3) := by decide +kernel
theorem dX10_broken_5 : decode cX10_broken 5 = .ok (.ifCond .eq 28, 3) := by decide +kernel
theorem dX10_broken_8 : decode cX10_broken 8 = .ok (.iload_n 2, 1) := by decide +kernel
theorem dX10_broken_9 : decode cX10_broken 9 = .ok (.ifCond .lt 24, 3) := by decide +kernel
theorem dX10_broken_12 : decode cX10_broken 12 = .ok (.iload_n 2, 1) := by decide +kernel
theorem dX10_broken_13 : decode cX10_broken 13 = .ok (.aload_n 0, 1) := by decide +kernel
theorem dX10_broken_14 : decode cX10_broken 14 = .ok (.getfield 34, 3) := by decide +kernel
theorem dX10_broken_17 : decode cX10_broken 17 = .ok (.iload_n 1, 1) := by decide +kernel
theorem dX10_broken_18 : decode cX10_broken 18 = .ok (.iaload, 1) := by decide +kernel
theorem dX10_broken_19 : decode cX10_broken 19 = .ok (.if_icmp .ge 14, 3) := by decide +kernel
theorem dX10_broken_22 : decode cX10_broken 22 = .ok (.iload_n 3, 1) := by decide +kernel
theorem dX10_broken_23 : decode cX10_broken 23 = .ok (.ifCond .lt 10, 3) := by decide +kernel
theorem dX10_broken_26 : decode cX10_broken 26 = .ok (.iload_n 3, 1) := by decide +kernel
theorem dX10_broken_27 : decode cX10_broken 27 = .ok (.sipush 500, 3) := by decide +kernel
theorem dX10_broken_30 : decode cX10_broken 30 = .ok (.if_icmp .le 5, 3) := by decide +kernel
theorem dX10_broken_33 : decode cX10_broken 33 = .ok (.iconst 0, 1) := by decide +kernel
theorem dX10_broken_34 : decode cX10_broken 34 = .ok (.ireturn, 1) := by decide +kernel
theorem dX10_broken_35 : decode cX10_broken 35 = .ok (.aload_n 0, 1) := by decide +kernel
theorem dX10_broken_36 : decode cX10_broken 36 = .ok (.getfield 40, 3) := by decide +kernel
theorem dX10_broken_39 : decode cX10_broken 39 = .ok (.bipush 6, 2) := by decide +kernel
theorem dX10_broken_41 : decode cX10_broken 41 = .ok (.iload_n 1, 1) := by decide +kernel
theorem dX10_broken_42 : decode cX10_broken 42 = .ok (.imul, 1) := by decide +kernel
theorem dX10_broken_43 : decode cX10_broken 43 = .ok (.iload_n 2, 1) := by decide +kernel
theorem dX10_broken_44 : decode cX10_broken 44 = .ok (.iadd, 1) := by decide +kernel
theorem dX10_broken_45 : decode cX10_broken 45 = .ok (.iload_n 3, 1) := by decide +kernel
theorem dX10_broken_46 : decode cX10_broken 46 = .ok (.iastore, 1) := by decide +kernel
theorem dX10_broken_47 : decode cX10_broken 47 = .ok (.aload_n 0, 1) := by decide +kernel
theorem dX10_broken_48 : decode cX10_broken 48 = .ok (.iconst 0, 1) := by decide +kernel
theorem dX10_broken_49 : decode cX10_broken 49 = .ok (.putfield 165, 3) := by decide +kernel
theorem dX10_broken_52 : decode cX10_broken 52 = .ok (.iconst 1, 1) := by decide +kernel
theorem dX10_broken_53 : decode cX10_broken 53 = .ok (.ireturn, 1) := by decide +kernel
theorem dX10_meeting_0 : decode cX10_meeting 0 = .ok (.iconst 0, 1) := by decide +kernel
theorem dX10_meeting_1 : decode cX10_meeting 1 = .ok (.istore_n 3, 1) := by decide +kernel
theorem dX10_meeting_2 : decode cX10_meeting 2 = .ok (.iload_n 3, 1) := by decide +kernel
theorem dX10_meeting_3 : decode cX10_meeting 3 = .ok (.aload_n 0, 1) := by decide +kernel
theorem dX10_meeting_4 : decode cX10_meeting 4 = .ok (.getfield 172, 3) := by decide +kernel
theorem dX10_meeting_7 : decode cX10_meeting 7 = .ok (.if_icmp .ge 31, 3) := by decide +kernel
theorem dX10_meeting_10 : decode cX10_meeting 10 = .ok (.aload_n 0, 1) := by decide +kernel
theorem dX10_meeting_11 : decode cX10_meeting 11 = .ok (.getfield 46, 3) := by decide +kernel
theorem dX10_meeting_14 : decode cX10_meeting 14 = .ok (.iload_n 3, 1) := by decide +kernel
theorem dX10_meeting_15 : decode cX10_meeting 15 = .ok (.iaload, 1) := by decide +kernel
theorem dX10_meeting_16 : decode cX10_meeting 16 = .ok (.iload_n 1, 1) := by decide +kernel
theorem dX10_meeting_17 : decode cX10_meeting 17 = .ok (.if_icmp .ne 15, 3) := by decide +kernel
theorem dX10_meeting_20 : decode cX10_meeting 20 = .ok (.aload_n 0, 1) := by decide +kernel
theorem dX10_meeting_21 : decode cX10_meeting 21 = .ok (.getfield 49, 3) := by decide +kernel
theorem dX10_meeting_24 : decode cX10_meeting 24 = .ok (.iload_n 3, 1) := by decide +kernel
theorem dX10_meeting_25 : decode cX10_meeting 25 = .ok (.iaload, 1) := by decide +kernel
theorem dX10_meeting_26 : decode cX10_meeting 26 = .ok (.iload_n 2, 1) := by decide +kernel
theorem dX10_meeting_27 : decode cX10_meeting 27 = .ok (.if_icmp .ne 5, 3) := by decide +kernel
theorem dX10_meeting_30 : decode cX10_meeting 30 = .ok (.iload_n 3, 1) := by decide +kernel
theorem dX10_meeting_31 : decode cX10_meeting 31 = .ok (.ireturn, 1) := by decide +kernel
theorem dX10_meeting_32 : decode cX10_meeting 32 = .ok (.iinc 3 1, 3) := by decide +kernel
theorem dX10_meeting_35 : decode cX10_meeting 35 = .ok (.goto (-33), 3) := by decide +kernel
theorem dX10_meeting_38 : decode cX10_meeting 38 = .ok (.iconst (-1), 1) := by decide +kernel
theorem dX10_meeting_39 : decode cX10_meeting 39 = .ok (.ireturn, 1) := by decide +kernel
theorem dX10_meet_0 : decode cX10_meet 0 = .ok (.aload_n 0, 1) := by decide +kernel
theorem dX10_meet_1 : decode cX10_meet 1 = .ok (.iload_n 1, 1) := by decide +kernel
theorem dX10_meet_2 : decode cX10_meet 2 = .ok (.invokevirtual 169, 3) := by decide +kernel
theorem dX10_meet_5 : decode cX10_meet 5 = .ok (.ifCond .eq 56, 3) := by decide +kernel
theorem dX10_meet_8 : decode cX10_meet 8 = .ok (.aload_n 0, 1) := by decide +kernel
theorem dX10_meet_9 : decode cX10_meet 9 = .ok (.iload_n 3, 1) := by decide +kernel
theorem dX10_meet_10 : decode cX10_meet 10 = .ok (.invokevirtual 169, 3) := by decide +kernel
theorem dX10_meet_13 : decode cX10_meet 13 = .ok (.ifCond .eq 48, 3) := by decide +kernel
theorem dX10_meet_16 : decode cX10_meet 16 = .ok (.iload_n 1, 1) := by decide +kernel
theorem dX10_meet_17 : decode cX10_meet 17 = .ok (.iload_n 3, 1) := by decide +kernel
theorem dX10_meet_18 : decode cX10_meet 18 = .ok (.if_icmp .eq 43, 3) := by decide +kernel
theorem dX10_meet_21 : decode cX10_meet 21 = .ok (.iload_n 2, 1) := by decide +kernel
theorem dX10_meet_22 : decode cX10_meet 22 = .ok (.ifCond .lt 39, 3) := by decide +kernel
theorem dX10_meet_25 : decode cX10_meet 25 = .ok (.iload_n 2, 1) := by decide +kernel
theorem dX10_meet_26 : decode cX10_meet 26 = .ok (.aload_n 0, 1) := by decide +kernel
theorem dX10_meet_27 : decode cX10_meet 27 = .ok (.getfield 34, 3) := by decide +kernel
theorem dX10_meet_30 : decode cX10_meet 30 = .ok (.iload_n 1, 1) := by decide +kernel
theorem dX10_meet_31 : decode cX10_meet 31 = .ok (.iaload, 1) := by decide +kernel
theorem dX10_meet_32 : decode cX10_meet 32 = .ok (.if_icmp .ge 29, 3) := by decide +kernel
theorem dX10_meet_35 : decode cX10_meet 35 = .ok (.iload 4, 2) := by decide +kernel
theorem dX10_meet_37 : decode cX10_meet 37 = .ok (.iconst 1, 1) := by decide +kernel
theorem dX10_meet_38 : decode cX10_meet 38 = .ok (.if_icmp .lt 23, 3) := by decide +kernel
theorem dX10_meet_41 : decode cX10_meet 41 = .ok (.iload 4, 2) := by decide +kernel
theorem dX10_meet_43 : decode cX10_meet 43 = .ok (.aload_n 0, 1) := by decide +kernel
theorem dX10_meet_44 : decode cX10_meet 44 = .ok (.getfield 34, 3) := by decide +kernel
theorem dX10_meet_47 : decode cX10_meet 47 = .ok (.iload_n 3, 1) := by decide +kernel
theorem dX10_meet_48 : decode cX10_meet 48 = .ok (.iaload, 1) := by decide +kernel
theorem dX10_meet_49 : decode cX10_meet 49 = .ok (.if_icmp .gt 12, 3) := by decide +kernel
theorem dX10_meet_52 : decode cX10_meet 52 = .ok (.aload_n 0, 1) := by decide +kernel
theorem dX10_meet_53 : decode cX10_meet 53 = .ok (.getfield 172, 3) := by decide +kernel
theorem dX10_meet_56 : decode cX10_meet 56 = .ok (.bipush 20, 2) := by decide +kernel
theorem dX10_meet_58 : decode cX10_meet 58 = .ok (.if_icmp .ne 5, 3) := by decide +kernel
theorem dX10_meet_61 : decode cX10_meet 61 = .ok (.iconst 0, 1) := by decide +kernel
theorem dX10_meet_62 : decode cX10_meet 62 = .ok (.ireturn, 1) := by decide +kernel
theorem dX10_meet_63 : decode cX10_meet 63 = .ok (.aload_n 0, 1) := by decide +kernel
theorem dX10_meet_64 : decode cX10_meet 64 = .ok (.getfield 43, 3) := by decide +kernel
theorem dX10_meet_67 : decode cX10_meet 67 = .ok (.bipush 7, 2) := by decide +kernel
theorem dX10_meet_69 : decode cX10_meet 69 = .ok (.iload_n 1, 1) := by decide +kernel
theorem dX10_meet_70 : decode cX10_meet 70 = .ok (.imul, 1) := by decide +kernel
theorem dX10_meet_71 : decode cX10_meet 71 = .ok (.iload_n 2, 1) := by decide +kernel
theorem dX10_meet_72 : decode cX10_meet 72 = .ok (.iadd, 1) := by decide +kernel
theorem dX10_meet_73 : decode cX10_meet 73 = .ok (.iaload, 1) := by decide +kernel
theorem dX10_meet_74 : decode cX10_meet 74 = .ok (.aload_n 0, 1) := by decide +kernel
theorem dX10_meet_75 : decode cX10_meet 75 = .ok (.getfield 43, 3) := by decide +kernel
theorem dX10_meet_78 : decode cX10_meet 78 = .ok (.bipush 7, 2) := by decide +kernel
theorem dX10_meet_80 : decode cX10_meet 80 = .ok (.iload_n 3, 1) := by decide +kernel
theorem dX10_meet_81 : decode cX10_meet 81 = .ok (.imul, 1) := by decide +kernel
theorem dX10_meet_82 : decode cX10_meet 82 = .ok (.iload 4, 2) := by decide +kernel
theorem dX10_meet_84 : decode cX10_meet 84 = .ok (.iadd, 1) := by decide +kernel
theorem dX10_meet_85 : decode cX10_meet 85 = .ok (.iaload, 1) := by decide +kernel
theorem dX10_meet_86 : decode cX10_meet 86 = .ok (.if_icmp .ne 13, 3) := by decide +kernel
theorem dX10_meet_89 : decode cX10_meet 89 = .ok (.aload_n 0, 1) := by decide +kernel
theorem dX10_meet_90 : decode cX10_meet 90 = .ok (.iload_n 1, 1) := by decide +kernel
theorem dX10_meet_91 : decode cX10_meet 91 = .ok (.iload_n 2, 1) := by decide +kernel
theorem dX10_meet_92 : decode cX10_meet 92 = .ok (.invokevirtual 175, 3) := by decide +kernel
theorem dX10_meet_95 : decode cX10_meet 95 = .ok (.iconst (-1), 1) := by decide +kernel
theorem dX10_meet_96 : decode cX10_meet 96 = .ok (.if_icmp .eq 5, 3) := by decide +kernel
theorem dX10_meet_99 : decode cX10_meet 99 = .ok (.iconst 0, 1) := by decide +kernel
theorem dX10_meet_100 : decode cX10_meet 100 = .ok (.ireturn, 1) := by decide +kernel
theorem dX10_meet_101 : decode cX10_meet 101 = .ok (.aload_n 0, 1) := by decide +kernel
theorem dX10_meet_102 : decode cX10_meet 102 = .ok (.getfield 46, 3) := by decide +kernel
theorem dX10_meet_105 : decode cX10_meet 105 = .ok (.aload_n 0, 1) := by decide +kernel
theorem dX10_meet_106 : decode cX10_meet 106 = .ok (.getfield 172, 3) := by decide +kernel
theorem dX10_meet_109 : decode cX10_meet 109 = .ok (.iload_n 1, 1) := by decide +kernel
theorem dX10_meet_110 : decode cX10_meet 110 = .ok (.iastore, 1) := by decide +kernel
theorem dX10_meet_111 : decode cX10_meet 111 = .ok (.aload_n 0, 1) := by decide +kernel
theorem dX10_meet_112 : decode cX10_meet 112 = .ok (.getfield 49, 3) := by decide +kernel
theorem dX10_meet_115 : decode cX10_meet 115 = .ok (.aload_n 0, 1) := by decide +kernel
theorem dX10_meet_116 : decode cX10_meet 116 = .ok (.getfield 172, 3) := by decide +kernel
theorem dX10_meet_119 : decode cX10_meet 119 = .ok (.iload_n 2, 1) := by decide +kernel
theorem dX10_meet_120 : decode cX10_meet 120 = .ok (.iastore, 1) := by decide +kernel
theorem dX10_meet_121 : decode cX10_meet 121 = .ok (.aload_n 0, 1) := by decide +kernel
theorem dX10_meet_122 : decode cX10_meet 122 = .ok (.getfield 52, 3) := by decide +kernel
theorem dX10_meet_125 : decode cX10_meet 125 = .ok (.aload_n 0, 1) := by decide +kernel
theorem dX10_meet_126 : decode cX10_meet 126 = .ok (.getfield 172, 3) := by decide +kernel
theorem dX10_meet_129 : decode cX10_meet 129 = .ok (.iload_n 3, 1) := by decide +kernel
theorem dX10_meet_130 : decode cX10_meet 130 = .ok (.iastore, 1) := by decide +kernel
theorem dX10_meet_131 : decode cX10_meet 131 = .ok (.aload_n 0, 1) := by decide +kernel
theorem dX10_meet_132 : decode cX10_meet 132 = .ok (.getfield 55, 3) := by decide +kernel
theorem dX10_meet_135 : decode cX10_meet 135 = .ok (.aload_n 0, 1) := by decide +kernel
theorem dX10_meet_136 : decode cX10_meet 136 = .ok (.getfield 172, 3) := by decide +kernel
theorem dX10_meet_139 : decode cX10_meet 139 = .ok (.iload 4, 2) := by decide +kernel
theorem dX10_meet_141 : decode cX10_meet 141 = .ok (.iastore, 1) := by decide +kernel
theorem dX10_meet_142 : decode cX10_meet 142 = .ok (.aload_n 0, 1) := by decide +kernel
theorem dX10_meet_143 : decode cX10_meet 143 = .ok (.aload_n 0, 1) := by decide +kernel
theorem dX10_meet_144 : decode cX10_meet 144 = .ok (.getfield 172, 3) := by decide +kernel
theorem dX10_meet_147 : decode cX10_meet 147 = .ok (.iconst 1, 1) := by decide +kernel
theorem dX10_meet_148 : decode cX10_meet 148 = .ok (.iadd, 1) := by decide +kernel
theorem dX10_meet_149 : decode cX10_meet 149 = .ok (.putfield 172, 3) := by decide +kernel
theorem dX10_meet_152 : decode cX10_meet 152 = .ok (.aload_n 0, 1) := by decide +kernel
theorem dX10_meet_153 : decode cX10_meet 153 = .ok (.iconst 0, 1) := by decide +kernel
theorem dX10_meet_154 : decode cX10_meet 154 = .ok (.putfield 165, 3) := by decide +kernel
theorem dX10_meet_157 : decode cX10_meet 157 = .ok (.iconst 1, 1) := by decide +kernel
theorem dX10_meet_158 : decode cX10_meet 158 = .ok (.ireturn, 1) := by decide +kernel
theorem dX10_types_0 : decode cX10_types 0 = .ok (.iconst 3, 1) := by decide +kernel
theorem dX10_types_1 : decode cX10_types 1 = .ok (.istore_n 2, 1) := by decide +kernel
theorem dX10_types_2 : decode cX10_types 2 = .ok (.iload_n 2, 1) := by decide +kernel
theorem dX10_types_3 : decode cX10_types 3 = .ok (.ifCond .lt 35, 3) := by decide +kernel
theorem dX10_types_6 : decode cX10_types 6 = .ok (.aload_n 0, 1) := by decide +kernel
theorem dX10_types_7 : decode cX10_types 7 = .ok (.getfield 58, 3) := by decide +kernel
theorem dX10_types_10 : decode cX10_types 10 = .ok (.aload_n 0, 1) := by decide +kernel
theorem dX10_types_11 : decode cX10_types 11 = .ok (.getfield 179, 3) := by decide +kernel
theorem dX10_types_14 : decode cX10_types 14 = .ok (.iload_n 1, 1) := by decide +kernel
theorem dX10_types_15 : decode cX10_types 15 = .ok (.bipush 8, 2) := by decide +kernel
theorem dX10_types_17 : decode cX10_types 17 = .ok (.iload_n 2, 1) := by decide +kernel
theorem dX10_types_18 : decode cX10_types 18 = .ok (.imul, 1) := by decide +kernel
theorem dX10_types_19 : decode cX10_types 19 = .ok (.ishr, 1) := by decide +kernel
theorem dX10_types_20 : decode cX10_types 20 = .ok (.i2b, 1) := by decide +kernel
theorem dX10_types_21 : decode cX10_types 21 = .ok (.bastore, 1) := by decide +kernel
theorem dX10_types_22 : decode cX10_types 22 = .ok (.aload_n 0, 1) := by decide +kernel
theorem dX10_types_23 : decode cX10_types 23 = .ok (.aload_n 0, 1) := by decide +kernel
theorem dX10_types_24 : decode cX10_types 24 = .ok (.getfield 179, 3) := by decide +kernel
theorem dX10_types_27 : decode cX10_types 27 = .ok (.iconst 1, 1) := by decide +kernel
theorem dX10_types_28 : decode cX10_types 28 = .ok (.iadd, 1) := by decide +kernel
theorem dX10_types_29 : decode cX10_types 29 = .ok (.putfield 179, 3) := by decide +kernel
theorem dX10_types_32 : decode cX10_types 32 = .ok (.iinc 2 (-1), 3) := by decide +kernel
theorem dX10_types_35 : decode cX10_types 35 = .ok (.goto (-33), 3) := by decide +kernel
theorem dX10_types_38 : decode cX10_types 38 = .ok (.return_, 1) := by decide +kernel
theorem dX10_feed_0 : decode cX10_feed 0 = .ok (.aload_n 0, 1) := by decide +kernel
theorem dX10_feed_1 : decode cX10_feed 1 = .ok (.getfield 179, 3) := by decide +kernel
theorem dX10_feed_4 : decode cX10_feed 4 = .ok (.bipush 20, 2) := by decide +kernel
theorem dX10_feed_6 : decode cX10_feed 6 = .ok (.iadd, 1) := by decide +kernel
theorem dX10_feed_7 : decode cX10_feed 7 = .ok (.sipush 200, 3) := by decide +kernel
theorem dX10_feed_10 : decode cX10_feed 10 = .ok (.if_icmp .le 5, 3) := by decide +kernel
theorem dX10_feed_13 : decode cX10_feed 13 = .ok (.iconst (-1), 1) := by decide +kernel
theorem dX10_feed_14 : decode cX10_feed 14 = .ok (.ireturn, 1) := by decide +kernel
theorem dX10_feed_15 : decode cX10_feed 15 = .ok (.aload_n 0, 1) := by decide +kernel
theorem dX10_feed_16 : decode cX10_feed 16 = .ok (.iload_n 1, 1) := by decide +kernel
theorem dX10_feed_17 : decode cX10_feed 17 = .ok (.invokevirtual 182, 3) := by decide +kernel
theorem dX10_feed_20 : decode cX10_feed 20 = .ok (.aload_n 0, 1) := by decide +kernel
theorem dX10_feed_21 : decode cX10_feed 21 = .ok (.iload_n 2, 1) := by decide +kernel
theorem dX10_feed_22 : decode cX10_feed 22 = .ok (.invokevirtual 182, 3) := by decide +kernel
theorem dX10_feed_25 : decode cX10_feed 25 = .ok (.aload_n 0, 1) := by decide +kernel
theorem dX10_feed_26 : decode cX10_feed 26 = .ok (.iload_n 3, 1) := by decide +kernel
theorem dX10_feed_27 : decode cX10_feed 27 = .ok (.invokevirtual 182, 3) := by decide +kernel
theorem dX10_feed_30 : decode cX10_feed 30 = .ok (.aload_n 0, 1) := by decide +kernel
theorem dX10_feed_31 : decode cX10_feed 31 = .ok (.iload 4, 2) := by decide +kernel
theorem dX10_feed_33 : decode cX10_feed 33 = .ok (.invokevirtual 182, 3) := by decide +kernel
theorem dX10_feed_36 : decode cX10_feed 36 = .ok (.aload_n 0, 1) := by decide +kernel
theorem dX10_feed_37 : decode cX10_feed 37 = .ok (.iload 5, 2) := by decide +kernel
theorem dX10_feed_39 : decode cX10_feed 39 = .ok (.invokevirtual 182, 3) := by decide +kernel
theorem dX10_feed_42 : decode cX10_feed 42 = .ok (.aload_n 0, 1) := by decide +kernel
theorem dX10_feed_43 : decode cX10_feed 43 = .ok (.getfield 179, 3) := by decide +kernel
theorem dX10_feed_46 : decode cX10_feed 46 = .ok (.ireturn, 1) := by decide +kernel
theorem dX10_here_0 : decode cX10_here 0 = .ok (.aload_n 0, 1) := by decide +kernel
theorem dX10_here_1 : decode cX10_here 1 = .ok (.getfield 186, 3) := by decide +kernel
theorem dX10_here_4 : decode cX10_here 4 = .ok (.aload_n 0, 1) := by decide +kernel
theorem dX10_here_5 : decode cX10_here 5 = .ok (.getfield 189, 3) := by decide +kernel
theorem dX10_here_8 : decode cX10_here 8 = .ok (.if_icmp .ge 19, 3) := by decide +kernel
theorem dX10_here_11 : decode cX10_here 11 = .ok (.aload_n 0, 1) := by decide +kernel
theorem dX10_here_12 : decode cX10_here 12 = .ok (.getfield 58, 3) := by decide +kernel
theorem dX10_here_15 : decode cX10_here 15 = .ok (.aload_n 0, 1) := by decide +kernel
theorem dX10_here_16 : decode cX10_here 16 = .ok (.getfield 186, 3) := by decide +kernel
theorem dX10_here_19 : decode cX10_here 19 = .ok (.baload, 1) := by decide +kernel
theorem dX10_here_20 : decode cX10_here 20 = .ok (.sipush 255, 3) := by decide +kernel
theorem dX10_here_23 : decode cX10_here 23 = .ok (.iand, 1) := by decide +kernel
theorem dX10_here_24 : decode cX10_here 24 = .ok (.goto 4, 3) := by decide +kernel
theorem dX10_here_27 : decode cX10_here 27 = .ok (.iconst 0, 1) := by decide +kernel
theorem dX10_here_28 : decode cX10_here 28 = .ok (.ireturn, 1) := by decide +kernel
theorem dX10_wrong_0 : decode cX10_wrong 0 = .ok (.aload_n 0, 1) := by decide +kernel
theorem dX10_wrong_1 : decode cX10_wrong 1 = .ok (.iload_n 1, 1) := by decide +kernel
theorem dX10_wrong_2 : decode cX10_wrong 2 = .ok (.putfield 192, 3) := by decide +kernel
theorem dX10_wrong_5 : decode cX10_wrong 5 = .ok (.aload_n 0, 1) := by decide +kernel
theorem dX10_wrong_6 : decode cX10_wrong 6 = .ok (.aload_n 0, 1) := by decide +kernel
theorem dX10_wrong_7 : decode cX10_wrong 7 = .ok (.getfield 186, 3) := by decide +kernel
theorem dX10_wrong_10 : decode cX10_wrong 10 = .ok (.putfield 62, 3) := by decide +kernel
theorem dX10_wrong_13 : decode cX10_wrong 13 = .ok (.iconst 0, 1) := by decide +kernel
theorem dX10_wrong_14 : decode cX10_wrong 14 = .ok (.ireturn, 1) := by decide +kernel
theorem dX10_reads_0 : decode cX10_reads 0 = .ok (.aload_n 0, 1) := by decide +kernel
theorem dX10_reads_1 : decode cX10_reads 1 = .ok (.getfield 186, 3) := by decide +kernel
theorem dX10_reads_4 : decode cX10_reads 4 = .ok (.istore_n 1, 1) := by decide +kernel
theorem dX10_reads_5 : decode cX10_reads 5 = .ok (.aload_n 0, 1) := by decide +kernel
theorem dX10_reads_6 : decode cX10_reads 6 = .ok (.iconst 0, 1) := by decide +kernel
theorem dX10_reads_7 : decode cX10_reads 7 = .ok (.putfield 195, 3) := by decide +kernel
theorem dX10_reads_10 : decode cX10_reads 10 = .ok (.aload_n 0, 1) := by decide +kernel
theorem dX10_reads_11 : decode cX10_reads 11 = .ok (.invokevirtual 198, 3) := by decide +kernel
theorem dX10_reads_14 : decode cX10_reads 14 = .ok (.bipush 48, 2) := by decide +kernel
theorem dX10_reads_16 : decode cX10_reads 16 = .ok (.if_icmp .lt 60, 3) := by decide +kernel
theorem dX10_reads_19 : decode cX10_reads 19 = .ok (.aload_n 0, 1) := by decide +kernel
theorem dX10_reads_20 : decode cX10_reads 20 = .ok (.invokevirtual 198, 3) := by decide +kernel
theorem dX10_reads_23 : decode cX10_reads 23 = .ok (.bipush 57, 2) := by decide +kernel
theorem dX10_reads_25 : decode cX10_reads 25 = .ok (.if_icmp .gt 51, 3) := by decide +kernel
theorem dX10_reads_28 : decode cX10_reads 28 = .ok (.aload_n 0, 1) := by decide +kernel
theorem dX10_reads_29 : decode cX10_reads 29 = .ok (.getfield 186, 3) := by decide +kernel
theorem dX10_reads_32 : decode cX10_reads 32 = .ok (.iload_n 1, 1) := by decide +kernel
theorem dX10_reads_33 : decode cX10_reads 33 = .ok (.iconst 4, 1) := by decide +kernel
theorem dX10_reads_34 : decode cX10_reads 34 = .ok (.iadd, 1) := by decide +kernel
theorem dX10_reads_35 : decode cX10_reads 35 = .ok (.if_icmp .ne 9, 3) := by decide +kernel
theorem dX10_reads_38 : decode cX10_reads 38 = .ok (.aload_n 0, 1) := by decide +kernel
theorem dX10_reads_39 : decode cX10_reads 39 = .ok (.iconst 1, 1) := by decide +kernel
theorem dX10_reads_40 : decode cX10_reads 40 = .ok (.invokevirtual 202, 3) := by decide +kernel
theorem dX10_reads_43 : decode cX10_reads 43 = .ok (.ireturn, 1) := by decide +kernel
theorem dX10_reads_44 : decode cX10_reads 44 = .ok (.aload_n 0, 1) := by decide +kernel
theorem dX10_reads_45 : decode cX10_reads 45 = .ok (.bipush 10, 2) := by decide +kernel
theorem dX10_reads_47 : decode cX10_reads 47 = .ok (.aload_n 0, 1) := by decide +kernel
theorem dX10_reads_48 : decode cX10_reads 48 = .ok (.getfield 195, 3) := by decide +kernel
theorem dX10_reads_51 : decode cX10_reads 51 = .ok (.imul, 1) := by decide +kernel
theorem dX10_reads_52 : decode cX10_reads 52 = .ok (.aload_n 0, 1) := by decide +kernel
theorem dX10_reads_53 : decode cX10_reads 53 = .ok (.invokevirtual 198, 3) := by decide +kernel
theorem dX10_reads_56 : decode cX10_reads 56 = .ok (.iadd, 1) := by decide +kernel
theorem dX10_reads_57 : decode cX10_reads 57 = .ok (.bipush 48, 2) := by decide +kernel
theorem dX10_reads_59 : decode cX10_reads 59 = .ok (.isub, 1) := by decide +kernel
theorem dX10_reads_60 : decode cX10_reads 60 = .ok (.putfield 195, 3) := by decide +kernel
theorem dX10_reads_63 : decode cX10_reads 63 = .ok (.aload_n 0, 1) := by decide +kernel
theorem dX10_reads_64 : decode cX10_reads 64 = .ok (.aload_n 0, 1) := by decide +kernel
theorem dX10_reads_65 : decode cX10_reads 65 = .ok (.getfield 186, 3) := by decide +kernel
theorem dX10_reads_68 : decode cX10_reads 68 = .ok (.iconst 1, 1) := by decide +kernel
theorem dX10_reads_69 : decode cX10_reads 69 = .ok (.iadd, 1) := by decide +kernel
theorem dX10_reads_70 : decode cX10_reads 70 = .ok (.putfield 186, 3) := by decide +kernel
theorem dX10_reads_73 : decode cX10_reads 73 = .ok (.goto (-63), 3) := by decide +kernel
theorem dX10_reads_76 : decode cX10_reads 76 = .ok (.aload_n 0, 1) := by decide +kernel
theorem dX10_reads_77 : decode cX10_reads 77 = .ok (.getfield 186, 3) := by decide +kernel
theorem dX10_reads_80 : decode cX10_reads 80 = .ok (.iload_n 1, 1) := by decide +kernel
theorem dX10_reads_81 : decode cX10_reads 81 = .ok (.if_icmp .gt 11, 3) := by decide +kernel
theorem dX10_reads_84 : decode cX10_reads 84 = .ok (.aload_n 0, 1) := by decide +kernel
theorem dX10_reads_85 : decode cX10_reads 85 = .ok (.iconst 1, 1) := by decide +kernel
theorem dX10_reads_86 : decode cX10_reads 86 = .ok (.invokevirtual 202, 3) := by decide +kernel
theorem dX10_reads_89 : decode cX10_reads 89 = .ok (.ifCond .eq 7, 3) := by decide +kernel
theorem dX10_reads_92 : decode cX10_reads 92 = .ok (.iconst 1, 1) := by decide +kernel
theorem dX10_reads_93 : decode cX10_reads 93 = .ok (.goto 4, 3) := by decide +kernel
theorem dX10_reads_96 : decode cX10_reads 96 = .ok (.iconst 0, 1) := by decide +kernel
theorem dX10_reads_97 : decode cX10_reads 97 = .ok (.ireturn, 1) := by decide +kernel
theorem dX10_code_0 : decode cX10_code 0 = .ok (.sipush 800, 3) := by decide +kernel
theorem dX10_code_3 : decode cX10_code 3 = .ok (.aload_n 0, 1) := by decide +kernel
theorem dX10_code_4 : decode cX10_code 4 = .ok (.getfield 69, 3) := by decide +kernel
theorem dX10_code_7 : decode cX10_code 7 = .ok (.iconst 4, 1) := by decide +kernel
theorem dX10_code_8 : decode cX10_code 8 = .ok (.iaload, 1) := by decide +kernel
theorem dX10_code_9 : decode cX10_code 9 = .ok (.iadd, 1) := by decide +kernel
theorem dX10_code_10 : decode cX10_code 10 = .ok (.istore 5, 2) := by decide +kernel
theorem dX10_code_12 : decode cX10_code 12 = .ok (.aload_n 0, 1) := by decide +kernel
theorem dX10_code_13 : decode cX10_code 13 = .ok (.getfield 87, 3) := by decide +kernel
theorem dX10_code_16 : decode cX10_code 16 = .ok (.iload 5, 2) := by decide +kernel
theorem dX10_code_18 : decode cX10_code 18 = .ok (.iload_n 1, 1) := by decide +kernel
theorem dX10_code_19 : decode cX10_code 19 = .ok (.iastore, 1) := by decide +kernel
theorem dX10_code_20 : decode cX10_code 20 = .ok (.aload_n 0, 1) := by decide +kernel
theorem dX10_code_21 : decode cX10_code 21 = .ok (.getfield 90, 3) := by decide +kernel
theorem dX10_code_24 : decode cX10_code 24 = .ok (.iload 5, 2) := by decide +kernel
theorem dX10_code_26 : decode cX10_code 26 = .ok (.iload_n 2, 1) := by decide +kernel
theorem dX10_code_27 : decode cX10_code 27 = .ok (.iastore, 1) := by decide +kernel
theorem dX10_code_28 : decode cX10_code 28 = .ok (.aload_n 0, 1) := by decide +kernel
theorem dX10_code_29 : decode cX10_code 29 = .ok (.getfield 93, 3) := by decide +kernel
theorem dX10_code_32 : decode cX10_code 32 = .ok (.iload 5, 2) := by decide +kernel
theorem dX10_code_34 : decode cX10_code 34 = .ok (.iload_n 3, 1) := by decide +kernel
theorem dX10_code_35 : decode cX10_code 35 = .ok (.iastore, 1) := by decide +kernel
theorem dX10_code_36 : decode cX10_code 36 = .ok (.aload_n 0, 1) := by decide +kernel
theorem dX10_code_37 : decode cX10_code 37 = .ok (.getfield 96, 3) := by decide +kernel
theorem dX10_code_40 : decode cX10_code 40 = .ok (.iload 5, 2) := by decide +kernel
theorem dX10_code_42 : decode cX10_code 42 = .ok (.iload 4, 2) := by decide +kernel
theorem dX10_code_44 : decode cX10_code 44 = .ok (.iastore, 1) := by decide +kernel
theorem dX10_code_45 : decode cX10_code 45 = .ok (.aload_n 0, 1) := by decide +kernel
theorem dX10_code_46 : decode cX10_code 46 = .ok (.getfield 69, 3) := by decide +kernel
theorem dX10_code_49 : decode cX10_code 49 = .ok (.iconst 4, 1) := by decide +kernel
theorem dX10_code_50 : decode cX10_code 50 = .ok (.aload_n 0, 1) := by decide +kernel
theorem dX10_code_51 : decode cX10_code 51 = .ok (.getfield 69, 3) := by decide +kernel
theorem dX10_code_54 : decode cX10_code 54 = .ok (.iconst 4, 1) := by decide +kernel
theorem dX10_code_55 : decode cX10_code 55 = .ok (.iaload, 1) := by decide +kernel
theorem dX10_code_56 : decode cX10_code 56 = .ok (.iconst 1, 1) := by decide +kernel
theorem dX10_code_57 : decode cX10_code 57 = .ok (.iadd, 1) := by decide +kernel
theorem dX10_code_58 : decode cX10_code 58 = .ok (.iastore, 1) := by decide +kernel
theorem dX10_code_59 : decode cX10_code 59 = .ok (.return_, 1) := by decide +kernel
theorem dX10_isTop_0 : decode cX10_isTop 0 = .ok (.aload_n 0, 1) := by decide +kernel
theorem dX10_isTop_1 : decode cX10_isTop 1 = .ok (.getfield 205, 3) := by decide +kernel
theorem dX10_isTop_4 : decode cX10_isTop 4 = .ok (.ifCond .le 22, 3) := by decide +kernel
theorem dX10_isTop_7 : decode cX10_isTop 7 = .ok (.aload_n 0, 1) := by decide +kernel
theorem dX10_isTop_8 : decode cX10_isTop 8 = .ok (.getfield 99, 3) := by decide +kernel
theorem dX10_isTop_11 : decode cX10_isTop 11 = .ok (.aload_n 0, 1) := by decide +kernel
theorem dX10_isTop_12 : decode cX10_isTop 12 = .ok (.getfield 205, 3) := by decide +kernel
theorem dX10_isTop_15 : decode cX10_isTop 15 = .ok (.iconst 1, 1) := by decide +kernel
theorem dX10_isTop_16 : decode cX10_isTop 16 = .ok (.isub, 1) := by decide +kernel
theorem dX10_isTop_17 : decode cX10_isTop 17 = .ok (.iaload, 1) := by decide +kernel
theorem dX10_isTop_18 : decode cX10_isTop 18 = .ok (.iload_n 1, 1) := by decide +kernel
theorem dX10_isTop_19 : decode cX10_isTop 19 = .ok (.if_icmp .ne 7, 3) := by decide +kernel
theorem dX10_isTop_22 : decode cX10_isTop 22 = .ok (.iconst 1, 1) := by decide +kernel
theorem dX10_isTop_23 : decode cX10_isTop 23 = .ok (.goto 4, 3) := by decide +kernel
theorem dX10_isTop_26 : decode cX10_isTop 26 = .ok (.iconst 0, 1) := by decide +kernel
theorem dX10_isTop_27 : decode cX10_isTop 27 = .ok (.ireturn, 1) := by decide +kernel
theorem dX10_pops_0 : decode cX10_pops 0 = .ok (.aload_n 0, 1) := by decide +kernel
theorem dX10_pops_1 : decode cX10_pops 1 = .ok (.aload_n 0, 1) := by decide +kernel
theorem dX10_pops_2 : decode cX10_pops 2 = .ok (.getfield 205, 3) := by decide +kernel
theorem dX10_pops_5 : decode cX10_pops 5 = .ok (.iconst 1, 1) := by decide +kernel
theorem dX10_pops_6 : decode cX10_pops 6 = .ok (.isub, 1) := by decide +kernel
theorem dX10_pops_7 : decode cX10_pops 7 = .ok (.putfield 205, 3) := by decide +kernel
theorem dX10_pops_10 : decode cX10_pops 10 = .ok (.aload_n 0, 1) := by decide +kernel
theorem dX10_pops_11 : decode cX10_pops 11 = .ok (.getfield 99, 3) := by decide +kernel
theorem dX10_pops_14 : decode cX10_pops 14 = .ok (.aload_n 0, 1) := by decide +kernel
theorem dX10_pops_15 : decode cX10_pops 15 = .ok (.getfield 205, 3) := by decide +kernel
theorem dX10_pops_18 : decode cX10_pops 18 = .ok (.iaload, 1) := by decide +kernel
theorem dX10_pops_19 : decode cX10_pops 19 = .ok (.istore_n 1, 1) := by decide +kernel
theorem dX10_pops_20 : decode cX10_pops 20 = .ok (.aload_n 0, 1) := by decide +kernel
theorem dX10_pops_21 : decode cX10_pops 21 = .ok (.iload_n 1, 1) := by decide +kernel
theorem dX10_pops_22 : decode cX10_pops 22 = .ok (.bipush 33, 2) := by decide +kernel
theorem dX10_pops_24 : decode cX10_pops 24 = .ok (.if_icmp .ne 7, 3) := by decide +kernel
theorem dX10_pops_27 : decode cX10_pops 27 = .ok (.iconst 1, 1) := by decide +kernel
theorem dX10_pops_28 : decode cX10_pops 28 = .ok (.goto 14, 3) := by decide +kernel
theorem dX10_pops_31 : decode cX10_pops 31 = .ok (.iload_n 1, 1) := by decide +kernel
theorem dX10_pops_32 : decode cX10_pops 32 = .ok (.bipush 38, 2) := by decide +kernel
theorem dX10_pops_34 : decode cX10_pops 34 = .ok (.if_icmp .ne 7, 3) := by decide +kernel
theorem dX10_pops_37 : decode cX10_pops 37 = .ok (.iconst 2, 1) := by decide +kernel
theorem dX10_pops_38 : decode cX10_pops 38 = .ok (.goto 4, 3) := by decide +kernel
theorem dX10_pops_41 : decode cX10_pops 41 = .ok (.iconst 3, 1) := by decide +kernel
theorem dX10_pops_42 : decode cX10_pops 42 = .ok (.iconst 0, 1) := by decide +kernel
theorem dX10_pops_43 : decode cX10_pops 43 = .ok (.iconst 0, 1) := by decide +kernel
theorem dX10_pops_44 : decode cX10_pops 44 = .ok (.iconst 0, 1) := by decide +kernel
theorem dX10_pops_45 : decode cX10_pops 45 = .ok (.invokevirtual 208, 3) := by decide +kernel
theorem dX10_pops_48 : decode cX10_pops 48 = .ok (.return_, 1) := by decide +kernel
theorem dX10_pushes_0 : decode cX10_pushes 0 = .ok (.aload_n 0, 1) := by decide +kernel
theorem dX10_pushes_1 : decode cX10_pushes 1 = .ok (.getfield 99, 3) := by decide +kernel
theorem dX10_pushes_4 : decode cX10_pushes 4 = .ok (.aload_n 0, 1) := by decide +kernel
theorem dX10_pushes_5 : decode cX10_pushes 5 = .ok (.getfield 205, 3) := by decide +kernel
theorem dX10_pushes_8 : decode cX10_pushes 8 = .ok (.iload_n 1, 1) := by decide +kernel
theorem dX10_pushes_9 : decode cX10_pushes 9 = .ok (.iastore, 1) := by decide +kernel
theorem dX10_pushes_10 : decode cX10_pushes 10 = .ok (.aload_n 0, 1) := by decide +kernel
theorem dX10_pushes_11 : decode cX10_pushes 11 = .ok (.aload_n 0, 1) := by decide +kernel
theorem dX10_pushes_12 : decode cX10_pushes 12 = .ok (.getfield 205, 3) := by decide +kernel
theorem dX10_pushes_15 : decode cX10_pushes 15 = .ok (.iconst 1, 1) := by decide +kernel
theorem dX10_pushes_16 : decode cX10_pushes 16 = .ok (.iadd, 1) := by decide +kernel
theorem dX10_pushes_17 : decode cX10_pushes 17 = .ok (.putfield 205, 3) := by decide +kernel
theorem dX10_pushes_20 : decode cX10_pushes 20 = .ok (.return_, 1) := by decide +kernel
theorem dX10_ends_0 : decode cX10_ends 0 = .ok (.aload_n 0, 1) := by decide +kernel
theorem dX10_ends_1 : decode cX10_ends 1 = .ok (.bipush 33, 2) := by decide +kernel
theorem dX10_ends_3 : decode cX10_ends 3 = .ok (.invokevirtual 212, 3) := by decide +kernel
theorem dX10_ends_6 : decode cX10_ends 6 = .ok (.ifCond .eq 20, 3) := by decide +kernel
theorem dX10_ends_9 : decode cX10_ends 9 = .ok (.aload_n 0, 1) := by decide +kernel
theorem dX10_ends_10 : decode cX10_ends 10 = .ok (.invokevirtual 215, 3) := by decide +kernel
theorem dX10_ends_13 : decode cX10_ends 13 = .ok (.aload_n 0, 1) := by decide +kernel
theorem dX10_ends_14 : decode cX10_ends 14 = .ok (.aload_n 0, 1) := by decide +kernel
theorem dX10_ends_15 : decode cX10_ends 15 = .ok (.getfield 218, 3) := by decide +kernel
theorem dX10_ends_18 : decode cX10_ends 18 = .ok (.iconst 1, 1) := by decide +kernel
theorem dX10_ends_19 : decode cX10_ends 19 = .ok (.isub, 1) := by decide +kernel
theorem dX10_ends_20 : decode cX10_ends 20 = .ok (.putfield 218, 3) := by decide +kernel
theorem dX10_ends_23 : decode cX10_ends 23 = .ok (.goto (-23), 3) := by decide +kernel
theorem dX10_ends_26 : decode cX10_ends 26 = .ok (.return_, 1) := by decide +kernel
theorem dX10_hasOpen_0 : decode cX10_hasOpen 0 = .ok (.iconst 0, 1) := by decide +kernel
theorem dX10_hasOpen_1 : decode cX10_hasOpen 1 = .ok (.istore_n 1, 1) := by decide +kernel
theorem dX10_hasOpen_2 : decode cX10_hasOpen 2 = .ok (.iconst 0, 1) := by decide +kernel
theorem dX10_hasOpen_3 : decode cX10_hasOpen 3 = .ok (.istore_n 2, 1) := by decide +kernel
theorem dX10_hasOpen_4 : decode cX10_hasOpen 4 = .ok (.iload_n 2, 1) := by decide +kernel
theorem dX10_hasOpen_5 : decode cX10_hasOpen 5 = .ok (.aload_n 0, 1) := by decide +kernel
theorem dX10_hasOpen_6 : decode cX10_hasOpen 6 = .ok (.getfield 205, 3) := by decide +kernel
theorem dX10_hasOpen_9 : decode cX10_hasOpen 9 = .ok (.if_icmp .ge 30, 3) := by decide +kernel
theorem dX10_hasOpen_12 : decode cX10_hasOpen 12 = .ok (.iload_n 1, 1) := by decide +kernel
theorem dX10_hasOpen_13 : decode cX10_hasOpen 13 = .ok (.ifCond .ne 14, 3) := by decide +kernel
theorem dX10_hasOpen_16 : decode cX10_hasOpen 16 = .ok (.aload_n 0, 1) := by decide +kernel
theorem dX10_hasOpen_17 : decode cX10_hasOpen 17 = .ok (.getfield 99, 3) := by decide +kernel
theorem dX10_hasOpen_20 : decode cX10_hasOpen 20 = .ok (.iload_n 2, 1) := by decide +kernel
theorem dX10_hasOpen_21 : decode cX10_hasOpen 21 = .ok (.iaload, 1) := by decide +kernel
theorem dX10_hasOpen_22 : decode cX10_hasOpen 22 = .ok (.bipush 40, 2) := by decide +kernel
theorem dX10_hasOpen_24 : decode cX10_hasOpen 24 = .ok (.if_icmp .ne 7, 3) := by decide +kernel
theorem dX10_hasOpen_27 : decode cX10_hasOpen 27 = .ok (.iconst 1, 1) := by decide +kernel
theorem dX10_hasOpen_28 : decode cX10_hasOpen 28 = .ok (.goto 4, 3) := by decide +kernel
theorem dX10_hasOpen_31 : decode cX10_hasOpen 31 = .ok (.iconst 0, 1) := by decide +kernel
theorem dX10_hasOpen_32 : decode cX10_hasOpen 32 = .ok (.istore_n 1, 1) := by decide +kernel
theorem dX10_hasOpen_33 : decode cX10_hasOpen 33 = .ok (.iinc 2 1, 3) := by decide +kernel
theorem dX10_hasOpen_36 : decode cX10_hasOpen 36 = .ok (.goto (-32), 3) := by decide +kernel
theorem dX10_hasOpen_39 : decode cX10_hasOpen 39 = .ok (.iload_n 1, 1) := by decide +kernel
theorem dX10_hasOpen_40 : decode cX10_hasOpen 40 = .ok (.ireturn, 1) := by decide +kernel
theorem dX10_letterOf_0 : decode cX10_letterOf 0 = .ok (.iload_n 0, 1) := by decide +kernel
theorem dX10_letterOf_1 : decode cX10_letterOf 1 = .ok (.bipush 108, 2) := by decide +kernel
theorem dX10_letterOf_3 : decode cX10_letterOf 3 = .ok (.if_icmp .ne 7, 3) := by decide +kernel
theorem dX10_letterOf_6 : decode cX10_letterOf 6 = .ok (.iconst 0, 1) := by decide +kernel
theorem dX10_letterOf_7 : decode cX10_letterOf 7 = .ok (.goto 44, 3) := by decide +kernel
theorem dX10_letterOf_10 : decode cX10_letterOf 10 = .ok (.iload_n 0, 1) := by decide +kernel
theorem dX10_letterOf_11 : decode cX10_letterOf 11 = .ok (.bipush 116, 2) := by decide +kernel
theorem dX10_letterOf_13 : decode cX10_letterOf 13 = .ok (.if_icmp .ne 7, 3) := by decide +kernel
theorem dX10_letterOf_16 : decode cX10_letterOf 16 = .ok (.iconst 1, 1) := by decide +kernel
theorem dX10_letterOf_17 : decode cX10_letterOf 17 = .ok (.goto 34, 3) := by decide +kernel
theorem dX10_letterOf_20 : decode cX10_letterOf 20 = .ok (.iload_n 0, 1) := by decide +kernel
theorem dX10_letterOf_21 : decode cX10_letterOf 21 = .ok (.bipush 119, 2) := by decide +kernel
theorem dX10_letterOf_23 : decode cX10_letterOf 23 = .ok (.if_icmp .ne 7, 3) := by decide +kernel
theorem dX10_letterOf_26 : decode cX10_letterOf 26 = .ok (.iconst 2, 1) := by decide +kernel
theorem dX10_letterOf_27 : decode cX10_letterOf 27 = .ok (.goto 24, 3) := by decide +kernel
theorem dX10_letterOf_30 : decode cX10_letterOf 30 = .ok (.iload_n 0, 1) := by decide +kernel
theorem dX10_letterOf_31 : decode cX10_letterOf 31 = .ok (.bipush 107, 2) := by decide +kernel
theorem dX10_letterOf_33 : decode cX10_letterOf 33 = .ok (.if_icmp .ne 7, 3) := by decide +kernel
theorem dX10_letterOf_36 : decode cX10_letterOf 36 = .ok (.iconst 3, 1) := by decide +kernel
theorem dX10_letterOf_37 : decode cX10_letterOf 37 = .ok (.goto 14, 3) := by decide +kernel
theorem dX10_letterOf_40 : decode cX10_letterOf 40 = .ok (.iload_n 0, 1) := by decide +kernel
theorem dX10_letterOf_41 : decode cX10_letterOf 41 = .ok (.bipush 109, 2) := by decide +kernel
theorem dX10_letterOf_43 : decode cX10_letterOf 43 = .ok (.if_icmp .ne 7, 3) := by decide +kernel
theorem dX10_letterOf_46 : decode cX10_letterOf 46 = .ok (.iconst 4, 1) := by decide +kernel
theorem dX10_letterOf_47 : decode cX10_letterOf 47 = .ok (.goto 4, 3) := by decide +kernel
theorem dX10_letterOf_50 : decode cX10_letterOf 50 = .ok (.iconst (-1), 1) := by decide +kernel
theorem dX10_letterOf_51 : decode cX10_letterOf 51 = .ok (.ireturn, 1) := by decide +kernel
theorem dX10_readsFactor_0 : decode cX10_readsFactor 0 = .ok (.aload_n 0, 1) := by decide +kernel
theorem dX10_readsFactor_1 : decode cX10_readsFactor 1 = .ok (.invokevirtual 198, 3) := by decide +kernel
theorem dX10_readsFactor_4 : decode cX10_readsFactor 4 = .ok (.bipush 33, 2) := by decide +kernel
theorem dX10_readsFactor_6 : decode cX10_readsFactor 6 = .ok (.if_icmp .eq 12, 3) := by decide +kernel
theorem dX10_readsFactor_9 : decode cX10_readsFactor 9 = .ok (.aload_n 0, 1) := by decide +kernel
theorem dX10_readsFactor_10 : decode cX10_readsFactor 10 = .ok (.invokevirtual 198, 3) := by decide +kernel
theorem dX10_readsFactor_13 : decode cX10_readsFactor 13 = .ok (.bipush 40, 2) := by decide +kernel
theorem dX10_readsFactor_15 : decode cX10_readsFactor 15 = .ok (.if_icmp .ne 49, 3) := by decide +kernel
theorem dX10_readsFactor_18 : decode cX10_readsFactor 18 = .ok (.aload_n 0, 1) := by decide +kernel
theorem dX10_readsFactor_19 : decode cX10_readsFactor 19 = .ok (.getfield 218, 3) := by decide +kernel
theorem dX10_readsFactor_22 : decode cX10_readsFactor 22 = .ok (.bipush 8, 2) := by decide +kernel
theorem dX10_readsFactor_24 : decode cX10_readsFactor 24 = .ok (.if_icmp .ne 9, 3) := by decide +kernel
theorem dX10_readsFactor_27 : decode cX10_readsFactor 27 = .ok (.aload_n 0, 1) := by decide +kernel
theorem dX10_readsFactor_28 : decode cX10_readsFactor 28 = .ok (.iconst 3, 1) := by decide +kernel
theorem dX10_readsFactor_29 : decode cX10_readsFactor 29 = .ok (.invokevirtual 202, 3) := by decide +kernel
theorem dX10_readsFactor_32 : decode cX10_readsFactor 32 = .ok (.ireturn, 1) := by decide +kernel
theorem dX10_readsFactor_33 : decode cX10_readsFactor 33 = .ok (.aload_n 0, 1) := by decide +kernel
theorem dX10_readsFactor_34 : decode cX10_readsFactor 34 = .ok (.aload_n 0, 1) := by decide +kernel
theorem dX10_readsFactor_35 : decode cX10_readsFactor 35 = .ok (.getfield 218, 3) := by decide +kernel
theorem dX10_readsFactor_38 : decode cX10_readsFactor 38 = .ok (.iconst 1, 1) := by decide +kernel
theorem dX10_readsFactor_39 : decode cX10_readsFactor 39 = .ok (.iadd, 1) := by decide +kernel
theorem dX10_readsFactor_40 : decode cX10_readsFactor 40 = .ok (.putfield 218, 3) := by decide +kernel
theorem dX10_readsFactor_43 : decode cX10_readsFactor 43 = .ok (.aload_n 0, 1) := by decide +kernel
theorem dX10_readsFactor_44 : decode cX10_readsFactor 44 = .ok (.aload_n 0, 1) := by decide +kernel
theorem dX10_readsFactor_45 : decode cX10_readsFactor 45 = .ok (.invokevirtual 198, 3) := by decide +kernel
theorem dX10_readsFactor_48 : decode cX10_readsFactor 48 = .ok (.invokevirtual 221, 3) := by decide +kernel
theorem dX10_readsFactor_51 : decode cX10_readsFactor 51 = .ok (.aload_n 0, 1) := by decide +kernel
theorem dX10_readsFactor_52 : decode cX10_readsFactor 52 = .ok (.aload_n 0, 1) := by decide +kernel
theorem dX10_readsFactor_53 : decode cX10_readsFactor 53 = .ok (.getfield 186, 3) := by decide +kernel
theorem dX10_readsFactor_56 : decode cX10_readsFactor 56 = .ok (.iconst 1, 1) := by decide +kernel
theorem dX10_readsFactor_57 : decode cX10_readsFactor 57 = .ok (.iadd, 1) := by decide +kernel
theorem dX10_readsFactor_58 : decode cX10_readsFactor 58 = .ok (.putfield 186, 3) := by decide +kernel
theorem dX10_readsFactor_61 : decode cX10_readsFactor 61 = .ok (.goto (-61), 3) := by decide +kernel
theorem dX10_readsFactor_64 : decode cX10_readsFactor 64 = .ok (.aload_n 0, 1) := by decide +kernel
theorem dX10_readsFactor_65 : decode cX10_readsFactor 65 = .ok (.invokevirtual 198, 3) := by decide +kernel
theorem dX10_readsFactor_68 : decode cX10_readsFactor 68 = .ok (.invokestatic 224, 3) := by decide +kernel
theorem dX10_readsFactor_71 : decode cX10_readsFactor 71 = .ok (.istore_n 1, 1) := by decide +kernel
theorem dX10_readsFactor_72 : decode cX10_readsFactor 72 = .ok (.iload_n 1, 1) := by decide +kernel
theorem dX10_readsFactor_73 : decode cX10_readsFactor 73 = .ok (.iconst (-1), 1) := by decide +kernel
theorem dX10_readsFactor_74 : decode cX10_readsFactor 74 = .ok (.if_icmp .ne 9, 3) := by decide +kernel
theorem dX10_readsFactor_77 : decode cX10_readsFactor 77 = .ok (.aload_n 0, 1) := by decide +kernel
theorem dX10_readsFactor_78 : decode cX10_readsFactor 78 = .ok (.iconst 1, 1) := by decide +kernel
theorem dX10_readsFactor_79 : decode cX10_readsFactor 79 = .ok (.invokevirtual 202, 3) := by decide +kernel
theorem dX10_readsFactor_82 : decode cX10_readsFactor 82 = .ok (.ireturn, 1) := by decide +kernel
theorem dX10_readsFactor_83 : decode cX10_readsFactor 83 = .ok (.aload_n 0, 1) := by decide +kernel
theorem dX10_readsFactor_84 : decode cX10_readsFactor 84 = .ok (.aload_n 0, 1) := by decide +kernel
theorem dX10_readsFactor_85 : decode cX10_readsFactor 85 = .ok (.getfield 186, 3) := by decide +kernel
theorem dX10_readsFactor_88 : decode cX10_readsFactor 88 = .ok (.iconst 1, 1) := by decide +kernel
theorem dX10_readsFactor_89 : decode cX10_readsFactor 89 = .ok (.iadd, 1) := by decide +kernel
theorem dX10_readsFactor_90 : decode cX10_readsFactor 90 = .ok (.putfield 186, 3) := by decide +kernel
theorem dX10_readsFactor_93 : decode cX10_readsFactor 93 = .ok (.aload_n 0, 1) := by decide +kernel
theorem dX10_readsFactor_94 : decode cX10_readsFactor 94 = .ok (.invokevirtual 198, 3) := by decide +kernel
theorem dX10_readsFactor_97 : decode cX10_readsFactor 97 = .ok (.istore_n 2, 1) := by decide +kernel
theorem dX10_readsFactor_98 : decode cX10_readsFactor 98 = .ok (.iload_n 2, 1) := by decide +kernel
theorem dX10_readsFactor_99 : decode cX10_readsFactor 99 = .ok (.bipush 60, 2) := by decide +kernel
theorem dX10_readsFactor_101 : decode cX10_readsFactor 101 = .ok (.if_icmp .eq 21, 3) := by decide +kernel
theorem dX10_readsFactor_104 : decode cX10_readsFactor 104 = .ok (.iload_n 2, 1) := by decide +kernel
theorem dX10_readsFactor_105 : decode cX10_readsFactor 105 = .ok (.bipush 61, 2) := by decide +kernel
theorem dX10_readsFactor_107 : decode cX10_readsFactor 107 = .ok (.if_icmp .eq 15, 3) := by decide +kernel
theorem dX10_readsFactor_110 : decode cX10_readsFactor 110 = .ok (.iload_n 2, 1) := by decide +kernel
theorem dX10_readsFactor_111 : decode cX10_readsFactor 111 = .ok (.bipush 62, 2) := by decide +kernel
theorem dX10_readsFactor_113 : decode cX10_readsFactor 113 = .ok (.if_icmp .eq 9, 3) := by decide +kernel
theorem dX10_readsFactor_116 : decode cX10_readsFactor 116 = .ok (.aload_n 0, 1) := by decide +kernel
theorem dX10_readsFactor_117 : decode cX10_readsFactor 117 = .ok (.iconst 1, 1) := by decide +kernel
theorem dX10_readsFactor_118 : decode cX10_readsFactor 118 = .ok (.invokevirtual 202, 3) := by decide +kernel
theorem dX10_readsFactor_121 : decode cX10_readsFactor 121 = .ok (.ireturn, 1) := by decide +kernel
theorem dX10_readsFactor_122 : decode cX10_readsFactor 122 = .ok (.aload_n 0, 1) := by decide +kernel
theorem dX10_readsFactor_123 : decode cX10_readsFactor 123 = .ok (.aload_n 0, 1) := by decide +kernel
theorem dX10_readsFactor_124 : decode cX10_readsFactor 124 = .ok (.getfield 186, 3) := by decide +kernel
theorem dX10_readsFactor_127 : decode cX10_readsFactor 127 = .ok (.iconst 1, 1) := by decide +kernel
theorem dX10_readsFactor_128 : decode cX10_readsFactor 128 = .ok (.iadd, 1) := by decide +kernel
theorem dX10_readsFactor_129 : decode cX10_readsFactor 129 = .ok (.putfield 186, 3) := by decide +kernel
theorem dX10_readsFactor_132 : decode cX10_readsFactor 132 = .ok (.aload_n 0, 1) := by decide +kernel
theorem dX10_readsFactor_133 : decode cX10_readsFactor 133 = .ok (.invokevirtual 198, 3) := by decide +kernel
theorem dX10_readsFactor_136 : decode cX10_readsFactor 136 = .ok (.bipush 45, 2) := by decide +kernel
theorem dX10_readsFactor_138 : decode cX10_readsFactor 138 = .ok (.if_icmp .ne 7, 3) := by decide +kernel
theorem dX10_readsFactor_141 : decode cX10_readsFactor 141 = .ok (.iconst 1, 1) := by decide +kernel
theorem dX10_readsFactor_142 : decode cX10_readsFactor 142 = .ok (.goto 4, 3) := by decide +kernel
theorem dX10_readsFactor_145 : decode cX10_readsFactor 145 = .ok (.iconst 0, 1) := by decide +kernel
theorem dX10_readsFactor_146 : decode cX10_readsFactor 146 = .ok (.istore_n 3, 1) := by decide +kernel
theorem dX10_readsFactor_147 : decode cX10_readsFactor 147 = .ok (.iload_n 3, 1) := by decide +kernel
theorem dX10_readsFactor_148 : decode cX10_readsFactor 148 = .ok (.ifCond .eq 13, 3) := by decide +kernel
theorem dX10_readsFactor_151 : decode cX10_readsFactor 151 = .ok (.aload_n 0, 1) := by decide +kernel
theorem dX10_readsFactor_152 : decode cX10_readsFactor 152 = .ok (.aload_n 0, 1) := by decide +kernel
theorem dX10_readsFactor_153 : decode cX10_readsFactor 153 = .ok (.getfield 186, 3) := by decide +kernel
theorem dX10_readsFactor_156 : decode cX10_readsFactor 156 = .ok (.iconst 1, 1) := by decide +kernel
theorem dX10_readsFactor_157 : decode cX10_readsFactor 157 = .ok (.iadd, 1) := by decide +kernel
theorem dX10_readsFactor_158 : decode cX10_readsFactor 158 = .ok (.putfield 186, 3) := by decide +kernel
theorem dX10_readsFactor_161 : decode cX10_readsFactor 161 = .ok (.aload_n 0, 1) := by decide +kernel
theorem dX10_readsFactor_162 : decode cX10_readsFactor 162 = .ok (.invokevirtual 228, 3) := by decide +kernel
theorem dX10_readsFactor_165 : decode cX10_readsFactor 165 = .ok (.ifCond .ne 5, 3) := by decide +kernel
theorem dX10_readsFactor_168 : decode cX10_readsFactor 168 = .ok (.iconst 0, 1) := by decide +kernel
theorem dX10_readsFactor_169 : decode cX10_readsFactor 169 = .ok (.ireturn, 1) := by decide +kernel
theorem dX10_readsFactor_170 : decode cX10_readsFactor 170 = .ok (.aload_n 0, 1) := by decide +kernel
theorem dX10_readsFactor_171 : decode cX10_readsFactor 171 = .ok (.iconst 0, 1) := by decide +kernel
theorem dX10_readsFactor_172 : decode cX10_readsFactor 172 = .ok (.iload_n 1, 1) := by decide +kernel
theorem dX10_readsFactor_173 : decode cX10_readsFactor 173 = .ok (.iload_n 2, 1) := by decide +kernel
theorem dX10_readsFactor_174 : decode cX10_readsFactor 174 = .ok (.iload_n 3, 1) := by decide +kernel
theorem dX10_readsFactor_175 : decode cX10_readsFactor 175 = .ok (.ifCond .eq 11, 3) := by decide +kernel
theorem dX10_readsFactor_178 : decode cX10_readsFactor 178 = .ok (.aload_n 0, 1) := by decide +kernel
theorem dX10_readsFactor_179 : decode cX10_readsFactor 179 = .ok (.getfield 195, 3) := by decide +kernel
theorem dX10_readsFactor_182 : decode cX10_readsFactor 182 = .ok (.ineg, 1) := by decide +kernel
theorem dX10_readsFactor_183 : decode cX10_readsFactor 183 = .ok (.goto 7, 3) := by decide +kernel
theorem dX10_readsFactor_186 : decode cX10_readsFactor 186 = .ok (.aload_n 0, 1) := by decide +kernel
theorem dX10_readsFactor_187 : decode cX10_readsFactor 187 = .ok (.getfield 195, 3) := by decide +kernel
theorem dX10_readsFactor_190 : decode cX10_readsFactor 190 = .ok (.invokevirtual 208, 3) := by decide +kernel
theorem dX10_readsFactor_193 : decode cX10_readsFactor 193 = .ok (.aload_n 0, 1) := by decide +kernel
theorem dX10_readsFactor_194 : decode cX10_readsFactor 194 = .ok (.invokevirtual 232, 3) := by decide +kernel
theorem dX10_readsFactor_197 : decode cX10_readsFactor 197 = .ok (.iconst 1, 1) := by decide +kernel
theorem dX10_readsFactor_198 : decode cX10_readsFactor 198 = .ok (.ireturn, 1) := by decide +kernel
theorem dX10_readsTest_0 : decode cX10_readsTest 0 = .ok (.aload_n 0, 1) := by decide +kernel
theorem dX10_readsTest_1 : decode cX10_readsTest 1 = .ok (.iconst 0, 1) := by decide +kernel
theorem dX10_readsTest_2 : decode cX10_readsTest 2 = .ok (.putfield 205, 3) := by decide +kernel
theorem dX10_readsTest_5 : decode cX10_readsTest 5 = .ok (.aload_n 0, 1) := by decide +kernel
theorem dX10_readsTest_6 : decode cX10_readsTest 6 = .ok (.iconst 0, 1) := by decide +kernel
theorem dX10_readsTest_7 : decode cX10_readsTest 7 = .ok (.putfield 218, 3) := by decide +kernel
theorem dX10_readsTest_10 : decode cX10_readsTest 10 = .ok (.iconst 1, 1) := by decide +kernel
theorem dX10_readsTest_11 : decode cX10_readsTest 11 = .ok (.istore_n 1, 1) := by decide +kernel
theorem dX10_readsTest_12 : decode cX10_readsTest 12 = .ok (.iload_n 1, 1) := by decide +kernel
theorem dX10_readsTest_13 : decode cX10_readsTest 13 = .ok (.ifCond .eq 167, 3) := by decide +kernel
theorem dX10_readsTest_16 : decode cX10_readsTest 16 = .ok (.aload_n 0, 1) := by decide +kernel
theorem dX10_readsTest_17 : decode cX10_readsTest 17 = .ok (.invokevirtual 235, 3) := by decide +kernel
theorem dX10_readsTest_20 : decode cX10_readsTest 20 = .ok (.ifCond .ne 5, 3) := by decide +kernel
theorem dX10_readsTest_23 : decode cX10_readsTest 23 = .ok (.iconst 0, 1) := by decide +kernel
theorem dX10_readsTest_24 : decode cX10_readsTest 24 = .ok (.ireturn, 1) := by decide +kernel
theorem dX10_readsTest_25 : decode cX10_readsTest 25 = .ok (.aload_n 0, 1) := by decide +kernel
theorem dX10_readsTest_26 : decode cX10_readsTest 26 = .ok (.invokevirtual 198, 3) := by decide +kernel
theorem dX10_readsTest_29 : decode cX10_readsTest 29 = .ok (.bipush 41, 2) := by decide +kernel
theorem dX10_readsTest_31 : decode cX10_readsTest 31 = .ok (.if_icmp .ne 63, 3) := by decide +kernel
theorem dX10_readsTest_34 : decode cX10_readsTest 34 = .ok (.aload_n 0, 1) := by decide +kernel
theorem dX10_readsTest_35 : decode cX10_readsTest 35 = .ok (.invokevirtual 238, 3) := by decide +kernel
theorem dX10_readsTest_38 : decode cX10_readsTest 38 = .ok (.ifCond .eq 56, 3) := by decide +kernel
theorem dX10_readsTest_41 : decode cX10_readsTest 41 = .ok (.aload_n 0, 1) := by decide +kernel
theorem dX10_readsTest_42 : decode cX10_readsTest 42 = .ok (.bipush 40, 2) := by decide +kernel
theorem dX10_readsTest_44 : decode cX10_readsTest 44 = .ok (.invokevirtual 212, 3) := by decide +kernel
theorem dX10_readsTest_47 : decode cX10_readsTest 47 = .ok (.ifCond .ne 10, 3) := by decide +kernel
theorem dX10_readsTest_50 : decode cX10_readsTest 50 = .ok (.aload_n 0, 1) := by decide +kernel
theorem dX10_readsTest_51 : decode cX10_readsTest 51 = .ok (.invokevirtual 215, 3) := by decide +kernel
theorem dX10_readsTest_54 : decode cX10_readsTest 54 = .ok (.goto (-13), 3) := by decide +kernel
theorem dX10_readsTest_57 : decode cX10_readsTest 57 = .ok (.aload_n 0, 1) := by decide +kernel
theorem dX10_readsTest_58 : decode cX10_readsTest 58 = .ok (.aload_n 0, 1) := by decide +kernel
theorem dX10_readsTest_59 : decode cX10_readsTest 59 = .ok (.getfield 205, 3) := by decide +kernel
theorem dX10_readsTest_62 : decode cX10_readsTest 62 = .ok (.iconst 1, 1) := by decide +kernel
theorem dX10_readsTest_63 : decode cX10_readsTest 63 = .ok (.isub, 1) := by decide +kernel
theorem dX10_readsTest_64 : decode cX10_readsTest 64 = .ok (.putfield 205, 3) := by decide +kernel
theorem dX10_readsTest_67 : decode cX10_readsTest 67 = .ok (.aload_n 0, 1) := by decide +kernel
theorem dX10_readsTest_68 : decode cX10_readsTest 68 = .ok (.aload_n 0, 1) := by decide +kernel
theorem dX10_readsTest_69 : decode cX10_readsTest 69 = .ok (.getfield 218, 3) := by decide +kernel
theorem dX10_readsTest_72 : decode cX10_readsTest 72 = .ok (.iconst 1, 1) := by decide +kernel
theorem dX10_readsTest_73 : decode cX10_readsTest 73 = .ok (.isub, 1) := by decide +kernel
theorem dX10_readsTest_74 : decode cX10_readsTest 74 = .ok (.putfield 218, 3) := by decide +kernel
theorem dX10_readsTest_77 : decode cX10_readsTest 77 = .ok (.aload_n 0, 1) := by decide +kernel
theorem dX10_readsTest_78 : decode cX10_readsTest 78 = .ok (.aload_n 0, 1) := by decide +kernel
theorem dX10_readsTest_79 : decode cX10_readsTest 79 = .ok (.getfield 186, 3) := by decide +kernel
theorem dX10_readsTest_82 : decode cX10_readsTest 82 = .ok (.iconst 1, 1) := by decide +kernel
theorem dX10_readsTest_83 : decode cX10_readsTest 83 = .ok (.iadd, 1) := by decide +kernel
theorem dX10_readsTest_84 : decode cX10_readsTest 84 = .ok (.putfield 186, 3) := by decide +kernel
theorem dX10_readsTest_87 : decode cX10_readsTest 87 = .ok (.aload_n 0, 1) := by decide +kernel
theorem dX10_readsTest_88 : decode cX10_readsTest 88 = .ok (.invokevirtual 232, 3) := by decide +kernel
theorem dX10_readsTest_91 : decode cX10_readsTest 91 = .ok (.goto (-66), 3) := by decide +kernel
theorem dX10_readsTest_94 : decode cX10_readsTest 94 = .ok (.aload_n 0, 1) := by decide +kernel
theorem dX10_readsTest_95 : decode cX10_readsTest 95 = .ok (.invokevirtual 198, 3) := by decide +kernel
theorem dX10_readsTest_98 : decode cX10_readsTest 98 = .ok (.bipush 38, 2) := by decide +kernel
theorem dX10_readsTest_100 : decode cX10_readsTest 100 = .ok (.if_icmp .eq 12, 3) := by decide +kernel
theorem dX10_readsTest_103 : decode cX10_readsTest 103 = .ok (.aload_n 0, 1) := by decide +kernel
theorem dX10_readsTest_104 : decode cX10_readsTest 104 = .ok (.invokevirtual 198, 3) := by decide +kernel
theorem dX10_readsTest_107 : decode cX10_readsTest 107 = .ok (.bipush 124, 2) := by decide +kernel
theorem dX10_readsTest_109 : decode cX10_readsTest 109 = .ok (.if_icmp .ne 7, 3) := by decide +kernel
theorem dX10_readsTest_112 : decode cX10_readsTest 112 = .ok (.iconst 1, 1) := by decide +kernel
theorem dX10_readsTest_113 : decode cX10_readsTest 113 = .ok (.goto 4, 3) := by decide +kernel
theorem dX10_readsTest_116 : decode cX10_readsTest 116 = .ok (.iconst 0, 1) := by decide +kernel
theorem dX10_readsTest_117 : decode cX10_readsTest 117 = .ok (.istore_n 1, 1) := by decide +kernel
theorem dX10_readsTest_118 : decode cX10_readsTest 118 = .ok (.iload_n 1, 1) := by decide +kernel
theorem dX10_readsTest_119 : decode cX10_readsTest 119 = .ok (.ifCond .ne 6, 3) := by decide +kernel
theorem dX10_readsTest_122 : decode cX10_readsTest 122 = .ok (.goto (-110), 3) := by decide +kernel
theorem dX10_readsTest_125 : decode cX10_readsTest 125 = .ok (.aload_n 0, 1) := by decide +kernel
theorem dX10_readsTest_126 : decode cX10_readsTest 126 = .ok (.bipush 38, 2) := by decide +kernel
theorem dX10_readsTest_128 : decode cX10_readsTest 128 = .ok (.invokevirtual 212, 3) := by decide +kernel
theorem dX10_readsTest_131 : decode cX10_readsTest 131 = .ok (.ifCond .ne 21, 3) := by decide +kernel
theorem dX10_readsTest_134 : decode cX10_readsTest 134 = .ok (.aload_n 0, 1) := by decide +kernel
theorem dX10_readsTest_135 : decode cX10_readsTest 135 = .ok (.invokevirtual 198, 3) := by decide +kernel
theorem dX10_readsTest_138 : decode cX10_readsTest 138 = .ok (.bipush 124, 2) := by decide +kernel
theorem dX10_readsTest_140 : decode cX10_readsTest 140 = .ok (.if_icmp .ne 19, 3) := by decide +kernel
theorem dX10_readsTest_143 : decode cX10_readsTest 143 = .ok (.aload_n 0, 1) := by decide +kernel
theorem dX10_readsTest_144 : decode cX10_readsTest 144 = .ok (.bipush 124, 2) := by decide +kernel
theorem dX10_readsTest_146 : decode cX10_readsTest 146 = .ok (.invokevirtual 212, 3) := by decide +kernel
theorem dX10_readsTest_149 : decode cX10_readsTest 149 = .ok (.ifCond .eq 10, 3) := by decide +kernel
theorem dX10_readsTest_152 : decode cX10_readsTest 152 = .ok (.aload_n 0, 1) := by decide +kernel
theorem dX10_readsTest_153 : decode cX10_readsTest 153 = .ok (.invokevirtual 215, 3) := by decide +kernel
theorem dX10_readsTest_156 : decode cX10_readsTest 156 = .ok (.goto (-31), 3) := by decide +kernel
theorem dX10_readsTest_159 : decode cX10_readsTest 159 = .ok (.aload_n 0, 1) := by decide +kernel
theorem dX10_readsTest_160 : decode cX10_readsTest 160 = .ok (.aload_n 0, 1) := by decide +kernel
theorem dX10_readsTest_161 : decode cX10_readsTest 161 = .ok (.invokevirtual 198, 3) := by decide +kernel
theorem dX10_readsTest_164 : decode cX10_readsTest 164 = .ok (.invokevirtual 221, 3) := by decide +kernel
theorem dX10_readsTest_167 : decode cX10_readsTest 167 = .ok (.aload_n 0, 1) := by decide +kernel
theorem dX10_readsTest_168 : decode cX10_readsTest 168 = .ok (.aload_n 0, 1) := by decide +kernel
theorem dX10_readsTest_169 : decode cX10_readsTest 169 = .ok (.getfield 186, 3) := by decide +kernel
theorem dX10_readsTest_172 : decode cX10_readsTest 172 = .ok (.iconst 1, 1) := by decide +kernel
theorem dX10_readsTest_173 : decode cX10_readsTest 173 = .ok (.iadd, 1) := by decide +kernel
theorem dX10_readsTest_174 : decode cX10_readsTest 174 = .ok (.putfield 186, 3) := by decide +kernel
theorem dX10_readsTest_177 : decode cX10_readsTest 177 = .ok (.goto (-165), 3) := by decide +kernel
theorem dX10_readsTest_180 : decode cX10_readsTest 180 = .ok (.aload_n 0, 1) := by decide +kernel
theorem dX10_readsTest_181 : decode cX10_readsTest 181 = .ok (.invokevirtual 238, 3) := by decide +kernel
theorem dX10_readsTest_184 : decode cX10_readsTest 184 = .ok (.ifCond .eq 9, 3) := by decide +kernel
theorem dX10_readsTest_187 : decode cX10_readsTest 187 = .ok (.aload_n 0, 1) := by decide +kernel
theorem dX10_readsTest_188 : decode cX10_readsTest 188 = .ok (.iconst 1, 1) := by decide +kernel
theorem dX10_readsTest_189 : decode cX10_readsTest 189 = .ok (.invokevirtual 202, 3) := by decide +kernel
theorem dX10_readsTest_192 : decode cX10_readsTest 192 = .ok (.ireturn, 1) := by decide +kernel
theorem dX10_readsTest_193 : decode cX10_readsTest 193 = .ok (.aload_n 0, 1) := by decide +kernel
theorem dX10_readsTest_194 : decode cX10_readsTest 194 = .ok (.getfield 205, 3) := by decide +kernel
theorem dX10_readsTest_197 : decode cX10_readsTest 197 = .ok (.ifCond .le 10, 3) := by decide +kernel
theorem dX10_readsTest_200 : decode cX10_readsTest 200 = .ok (.aload_n 0, 1) := by decide +kernel
theorem dX10_readsTest_201 : decode cX10_readsTest 201 = .ok (.invokevirtual 215, 3) := by decide +kernel
theorem dX10_readsTest_204 : decode cX10_readsTest 204 = .ok (.goto (-11), 3) := by decide +kernel
theorem dX10_readsTest_207 : decode cX10_readsTest 207 = .ok (.iconst 1, 1) := by decide +kernel
theorem dX10_readsTest_208 : decode cX10_readsTest 208 = .ok (.ireturn, 1) := by decide +kernel
theorem dX10_readsClause_0 : decode cX10_readsClause 0 = .ok (.aload_n 0, 1) := by decide +kernel
theorem dX10_readsClause_1 : decode cX10_readsClause 1 = .ok (.invokevirtual 198, 3) := by decide +kernel
theorem dX10_readsClause_4 : decode cX10_readsClause 4 = .ok (.istore_n 1, 1) := by decide +kernel
theorem dX10_readsClause_5 : decode cX10_readsClause 5 = .ok (.iload_n 1, 1) := by decide +kernel
theorem dX10_readsClause_6 : decode cX10_readsClause 6 = .ok (.bipush 87, 2) := by decide +kernel
theorem dX10_readsClause_8 : decode cX10_readsClause 8 = .ok (.if_icmp .eq 21, 3) := by decide +kernel
theorem dX10_readsClause_11 : decode cX10_readsClause 11 = .ok (.iload_n 1, 1) := by decide +kernel
theorem dX10_readsClause_12 : decode cX10_readsClause 12 = .ok (.bipush 88, 2) := by decide +kernel
theorem dX10_readsClause_14 : decode cX10_readsClause 14 = .ok (.if_icmp .eq 15, 3) := by decide +kernel
theorem dX10_readsClause_17 : decode cX10_readsClause 17 = .ok (.iload_n 1, 1) := by decide +kernel
theorem dX10_readsClause_18 : decode cX10_readsClause 18 = .ok (.bipush 80, 2) := by decide +kernel
theorem dX10_readsClause_20 : decode cX10_readsClause 20 = .ok (.if_icmp .eq 9, 3) := by decide +kernel
theorem dX10_readsClause_23 : decode cX10_readsClause 23 = .ok (.aload_n 0, 1) := by decide +kernel
theorem dX10_readsClause_24 : decode cX10_readsClause 24 = .ok (.iconst 1, 1) := by decide +kernel
theorem dX10_readsClause_25 : decode cX10_readsClause 25 = .ok (.invokevirtual 202, 3) := by decide +kernel
theorem dX10_readsClause_28 : decode cX10_readsClause 28 = .ok (.ireturn, 1) := by decide +kernel
theorem dX10_readsClause_29 : decode cX10_readsClause 29 = .ok (.aload_n 0, 1) := by decide +kernel
theorem dX10_readsClause_30 : decode cX10_readsClause 30 = .ok (.getfield 66, 3) := by decide +kernel
theorem dX10_readsClause_33 : decode cX10_readsClause 33 = .ok (.iconst 4, 1) := by decide +kernel
theorem dX10_readsClause_34 : decode cX10_readsClause 34 = .ok (.iaload, 1) := by decide +kernel
theorem dX10_readsClause_35 : decode cX10_readsClause 35 = .ok (.bipush 12, 2) := by decide +kernel
theorem dX10_readsClause_37 : decode cX10_readsClause 37 = .ok (.if_icmp .ne 9, 3) := by decide +kernel
theorem dX10_readsClause_40 : decode cX10_readsClause 40 = .ok (.aload_n 0, 1) := by decide +kernel
theorem dX10_readsClause_41 : decode cX10_readsClause 41 = .ok (.iconst 2, 1) := by decide +kernel
theorem dX10_readsClause_42 : decode cX10_readsClause 42 = .ok (.invokevirtual 202, 3) := by decide +kernel
theorem dX10_readsClause_45 : decode cX10_readsClause 45 = .ok (.ireturn, 1) := by decide +kernel
theorem dX10_readsClause_46 : decode cX10_readsClause 46 = .ok (.aload_n 0, 1) := by decide +kernel
theorem dX10_readsClause_47 : decode cX10_readsClause 47 = .ok (.aload_n 0, 1) := by decide +kernel
theorem dX10_readsClause_48 : decode cX10_readsClause 48 = .ok (.getfield 186, 3) := by decide +kernel
theorem dX10_readsClause_51 : decode cX10_readsClause 51 = .ok (.iconst 1, 1) := by decide +kernel
theorem dX10_readsClause_52 : decode cX10_readsClause 52 = .ok (.iadd, 1) := by decide +kernel
theorem dX10_readsClause_53 : decode cX10_readsClause 53 = .ok (.putfield 186, 3) := by decide +kernel
theorem dX10_readsClause_56 : decode cX10_readsClause 56 = .ok (.aload_n 0, 1) := by decide +kernel
theorem dX10_readsClause_57 : decode cX10_readsClause 57 = .ok (.iconst 0, 1) := by decide +kernel
theorem dX10_readsClause_58 : decode cX10_readsClause 58 = .ok (.putfield 195, 3) := by decide +kernel
theorem dX10_readsClause_61 : decode cX10_readsClause 61 = .ok (.iload_n 1, 1) := by decide +kernel
theorem dX10_readsClause_62 : decode cX10_readsClause 62 = .ok (.bipush 88, 2) := by decide +kernel
theorem dX10_readsClause_64 : decode cX10_readsClause 64 = .ok (.if_icmp .eq 12, 3) := by decide +kernel
theorem dX10_readsClause_67 : decode cX10_readsClause 67 = .ok (.aload_n 0, 1) := by decide +kernel
theorem dX10_readsClause_68 : decode cX10_readsClause 68 = .ok (.invokevirtual 228, 3) := by decide +kernel
theorem dX10_readsClause_71 : decode cX10_readsClause 71 = .ok (.ifCond .ne 5, 3) := by decide +kernel
theorem dX10_readsClause_74 : decode cX10_readsClause 74 = .ok (.iconst 0, 1) := by decide +kernel
theorem dX10_readsClause_75 : decode cX10_readsClause 75 = .ok (.ireturn, 1) := by decide +kernel
theorem dX10_readsClause_76 : decode cX10_readsClause 76 = .ok (.aload_n 0, 1) := by decide +kernel
theorem dX10_readsClause_77 : decode cX10_readsClause 77 = .ok (.getfield 195, 3) := by decide +kernel
theorem dX10_readsClause_80 : decode cX10_readsClause 80 = .ok (.istore_n 2, 1) := by decide +kernel
theorem dX10_readsClause_81 : decode cX10_readsClause 81 = .ok (.aload_n 0, 1) := by decide +kernel
theorem dX10_readsClause_82 : decode cX10_readsClause 82 = .ok (.getfield 69, 3) := by decide +kernel
theorem dX10_readsClause_85 : decode cX10_readsClause 85 = .ok (.iconst 4, 1) := by decide +kernel
theorem dX10_readsClause_86 : decode cX10_readsClause 86 = .ok (.iaload, 1) := by decide +kernel
theorem dX10_readsClause_87 : decode cX10_readsClause 87 = .ok (.istore_n 3, 1) := by decide +kernel
theorem dX10_readsClause_88 : decode cX10_readsClause 88 = .ok (.iload_n 1, 1) := by decide +kernel
theorem dX10_readsClause_89 : decode cX10_readsClause 89 = .ok (.bipush 80, 2) := by decide +kernel
theorem dX10_readsClause_91 : decode cX10_readsClause 91 = .ok (.if_icmp .eq 37, 3) := by decide +kernel
theorem dX10_readsClause_94 : decode cX10_readsClause 94 = .ok (.aload_n 0, 1) := by decide +kernel
theorem dX10_readsClause_95 : decode cX10_readsClause 95 = .ok (.invokevirtual 198, 3) := by decide +kernel
theorem dX10_readsClause_98 : decode cX10_readsClause 98 = .ok (.bipush 58, 2) := by decide +kernel
theorem dX10_readsClause_100 : decode cX10_readsClause 100 = .ok (.if_icmp .eq 9, 3) := by decide +kernel
theorem dX10_readsClause_103 : decode cX10_readsClause 103 = .ok (.aload_n 0, 1) := by decide +kernel
theorem dX10_readsClause_104 : decode cX10_readsClause 104 = .ok (.iconst 1, 1) := by decide +kernel
theorem dX10_readsClause_105 : decode cX10_readsClause 105 = .ok (.invokevirtual 202, 3) := by decide +kernel
theorem dX10_readsClause_108 : decode cX10_readsClause 108 = .ok (.ireturn, 1) := by decide +kernel
theorem dX10_readsClause_109 : decode cX10_readsClause 109 = .ok (.aload_n 0, 1) := by decide +kernel
theorem dX10_readsClause_110 : decode cX10_readsClause 110 = .ok (.aload_n 0, 1) := by decide +kernel
theorem dX10_readsClause_111 : decode cX10_readsClause 111 = .ok (.getfield 186, 3) := by decide +kernel
theorem dX10_readsClause_114 : decode cX10_readsClause 114 = .ok (.iconst 1, 1) := by decide +kernel
theorem dX10_readsClause_115 : decode cX10_readsClause 115 = .ok (.iadd, 1) := by decide +kernel
theorem dX10_readsClause_116 : decode cX10_readsClause 116 = .ok (.putfield 186, 3) := by decide +kernel
theorem dX10_readsClause_119 : decode cX10_readsClause 119 = .ok (.aload_n 0, 1) := by decide +kernel
theorem dX10_readsClause_120 : decode cX10_readsClause 120 = .ok (.invokevirtual 241, 3) := by decide +kernel
theorem dX10_readsClause_123 : decode cX10_readsClause 123 = .ok (.ifCond .ne 12, 3) := by decide +kernel
theorem dX10_readsClause_126 : decode cX10_readsClause 126 = .ok (.iconst 0, 1) := by decide +kernel
theorem dX10_readsClause_127 : decode cX10_readsClause 127 = .ok (.ireturn, 1) := by decide +kernel
theorem dX10_readsClause_128 : decode cX10_readsClause 128 = .ok (.aload_n 0, 1) := by decide +kernel
theorem dX10_readsClause_129 : decode cX10_readsClause 129 = .ok (.getfield 72, 3) := by decide +kernel
theorem dX10_readsClause_132 : decode cX10_readsClause 132 = .ok (.iconst 4, 1) := by decide +kernel
theorem dX10_readsClause_133 : decode cX10_readsClause 133 = .ok (.iload_n 2, 1) := by decide +kernel
theorem dX10_readsClause_134 : decode cX10_readsClause 134 = .ok (.iastore, 1) := by decide +kernel
theorem dX10_readsClause_135 : decode cX10_readsClause 135 = .ok (.bipush 48, 2) := by decide +kernel
theorem dX10_readsClause_137 : decode cX10_readsClause 137 = .ok (.aload_n 0, 1) := by decide +kernel
theorem dX10_readsClause_138 : decode cX10_readsClause 138 = .ok (.getfield 66, 3) := by decide +kernel
theorem dX10_readsClause_141 : decode cX10_readsClause 141 = .ok (.iconst 4, 1) := by decide +kernel
theorem dX10_readsClause_142 : decode cX10_readsClause 142 = .ok (.iaload, 1) := by decide +kernel
theorem dX10_readsClause_143 : decode cX10_readsClause 143 = .ok (.iadd, 1) := by decide +kernel
theorem dX10_readsClause_144 : decode cX10_readsClause 144 = .ok (.istore 4, 2) := by decide +kernel
theorem dX10_readsClause_146 : decode cX10_readsClause 146 = .ok (.aload_n 0, 1) := by decide +kernel
theorem dX10_readsClause_147 : decode cX10_readsClause 147 = .ok (.getfield 75, 3) := by decide +kernel
theorem dX10_readsClause_150 : decode cX10_readsClause 150 = .ok (.iload 4, 2) := by decide +kernel
theorem dX10_readsClause_152 : decode cX10_readsClause 152 = .ok (.iload_n 1, 1) := by decide +kernel
theorem dX10_readsClause_153 : decode cX10_readsClause 153 = .ok (.iastore, 1) := by decide +kernel
theorem dX10_readsClause_154 : decode cX10_readsClause 154 = .ok (.aload_n 0, 1) := by decide +kernel
theorem dX10_readsClause_155 : decode cX10_readsClause 155 = .ok (.getfield 78, 3) := by decide +kernel
theorem dX10_readsClause_158 : decode cX10_readsClause 158 = .ok (.iload 4, 2) := by decide +kernel
theorem dX10_readsClause_160 : decode cX10_readsClause 160 = .ok (.iload_n 2, 1) := by decide +kernel
theorem dX10_readsClause_161 : decode cX10_readsClause 161 = .ok (.iastore, 1) := by decide +kernel
theorem dX10_readsClause_162 : decode cX10_readsClause 162 = .ok (.aload_n 0, 1) := by decide +kernel
theorem dX10_readsClause_163 : decode cX10_readsClause 163 = .ok (.getfield 81, 3) := by decide +kernel
theorem dX10_readsClause_166 : decode cX10_readsClause 166 = .ok (.iload 4, 2) := by decide +kernel
theorem dX10_readsClause_168 : decode cX10_readsClause 168 = .ok (.iload_n 3, 1) := by decide +kernel
theorem dX10_readsClause_169 : decode cX10_readsClause 169 = .ok (.iastore, 1) := by decide +kernel
theorem dX10_readsClause_170 : decode cX10_readsClause 170 = .ok (.aload_n 0, 1) := by decide +kernel
theorem dX10_readsClause_171 : decode cX10_readsClause 171 = .ok (.getfield 84, 3) := by decide +kernel
theorem dX10_readsClause_174 : decode cX10_readsClause 174 = .ok (.iload 4, 2) := by decide +kernel
theorem dX10_readsClause_176 : decode cX10_readsClause 176 = .ok (.aload_n 0, 1) := by decide +kernel
theorem dX10_readsClause_177 : decode cX10_readsClause 177 = .ok (.getfield 69, 3) := by decide +kernel
theorem dX10_readsClause_180 : decode cX10_readsClause 180 = .ok (.iconst 4, 1) := by decide +kernel
theorem dX10_readsClause_181 : decode cX10_readsClause 181 = .ok (.iaload, 1) := by decide +kernel
theorem dX10_readsClause_182 : decode cX10_readsClause 182 = .ok (.iastore, 1) := by decide +kernel
theorem dX10_readsClause_183 : decode cX10_readsClause 183 = .ok (.aload_n 0, 1) := by decide +kernel
theorem dX10_readsClause_184 : decode cX10_readsClause 184 = .ok (.getfield 66, 3) := by decide +kernel
theorem dX10_readsClause_187 : decode cX10_readsClause 187 = .ok (.iconst 4, 1) := by decide +kernel
theorem dX10_readsClause_188 : decode cX10_readsClause 188 = .ok (.aload_n 0, 1) := by decide +kernel
theorem dX10_readsClause_189 : decode cX10_readsClause 189 = .ok (.getfield 66, 3) := by decide +kernel
theorem dX10_readsClause_192 : decode cX10_readsClause 192 = .ok (.iconst 4, 1) := by decide +kernel
theorem dX10_readsClause_193 : decode cX10_readsClause 193 = .ok (.iaload, 1) := by decide +kernel
theorem dX10_readsClause_194 : decode cX10_readsClause 194 = .ok (.iconst 1, 1) := by decide +kernel
theorem dX10_readsClause_195 : decode cX10_readsClause 195 = .ok (.iadd, 1) := by decide +kernel
theorem dX10_readsClause_196 : decode cX10_readsClause 196 = .ok (.iastore, 1) := by decide +kernel
theorem dX10_readsClause_197 : decode cX10_readsClause 197 = .ok (.iconst 1, 1) := by decide +kernel
theorem dX10_readsClause_198 : decode cX10_readsClause 198 = .ok (.ireturn, 1) := by decide +kernel
theorem dX10_readsText_0 : decode cX10_readsText 0 = .ok (.aload_n 0, 1) := by decide +kernel
theorem dX10_readsText_1 : decode cX10_readsText 1 = .ok (.iconst 0, 1) := by decide +kernel
theorem dX10_readsText_2 : decode cX10_readsText 2 = .ok (.putfield 186, 3) := by decide +kernel
theorem dX10_readsText_5 : decode cX10_readsText 5 = .ok (.aload_n 0, 1) := by decide +kernel
theorem dX10_readsText_6 : decode cX10_readsText 6 = .ok (.iload_n 1, 1) := by decide +kernel
theorem dX10_readsText_7 : decode cX10_readsText 7 = .ok (.putfield 189, 3) := by decide +kernel
theorem dX10_readsText_10 : decode cX10_readsText 10 = .ok (.aload_n 0, 1) := by decide +kernel
theorem dX10_readsText_11 : decode cX10_readsText 11 = .ok (.getfield 66, 3) := by decide +kernel
theorem dX10_readsText_14 : decode cX10_readsText 14 = .ok (.iconst 4, 1) := by decide +kernel
theorem dX10_readsText_15 : decode cX10_readsText 15 = .ok (.iconst 0, 1) := by decide +kernel
theorem dX10_readsText_16 : decode cX10_readsText 16 = .ok (.iastore, 1) := by decide +kernel
theorem dX10_readsText_17 : decode cX10_readsText 17 = .ok (.aload_n 0, 1) := by decide +kernel
theorem dX10_readsText_18 : decode cX10_readsText 18 = .ok (.getfield 69, 3) := by decide +kernel
theorem dX10_readsText_21 : decode cX10_readsText 21 = .ok (.iconst 4, 1) := by decide +kernel
theorem dX10_readsText_22 : decode cX10_readsText 22 = .ok (.iconst 0, 1) := by decide +kernel
theorem dX10_readsText_23 : decode cX10_readsText 23 = .ok (.iastore, 1) := by decide +kernel
theorem dX10_readsText_24 : decode cX10_readsText 24 = .ok (.aload_n 0, 1) := by decide +kernel
theorem dX10_readsText_25 : decode cX10_readsText 25 = .ok (.getfield 72, 3) := by decide +kernel
theorem dX10_readsText_28 : decode cX10_readsText 28 = .ok (.iconst 4, 1) := by decide +kernel
theorem dX10_readsText_29 : decode cX10_readsText 29 = .ok (.iconst 0, 1) := by decide +kernel
theorem dX10_readsText_30 : decode cX10_readsText 30 = .ok (.iastore, 1) := by decide +kernel
theorem dX10_readsText_31 : decode cX10_readsText 31 = .ok (.iload_n 1, 1) := by decide +kernel
theorem dX10_readsText_32 : decode cX10_readsText 32 = .ok (.ifCond .ne 5, 3) := by decide +kernel
theorem dX10_readsText_35 : decode cX10_readsText 35 = .ok (.iconst 1, 1) := by decide +kernel
theorem dX10_readsText_36 : decode cX10_readsText 36 = .ok (.ireturn, 1) := by decide +kernel
theorem dX10_readsText_37 : decode cX10_readsText 37 = .ok (.iconst 1, 1) := by decide +kernel
theorem dX10_readsText_38 : decode cX10_readsText 38 = .ok (.istore_n 2, 1) := by decide +kernel
theorem dX10_readsText_39 : decode cX10_readsText 39 = .ok (.iload_n 2, 1) := by decide +kernel
theorem dX10_readsText_40 : decode cX10_readsText 40 = .ok (.ifCond .eq 61, 3) := by decide +kernel
theorem dX10_readsText_43 : decode cX10_readsText 43 = .ok (.aload_n 0, 1) := by decide +kernel
theorem dX10_readsText_44 : decode cX10_readsText 44 = .ok (.invokevirtual 244, 3) := by decide +kernel
theorem dX10_readsText_47 : decode cX10_readsText 47 = .ok (.ifCond .ne 5, 3) := by decide +kernel
theorem dX10_readsText_50 : decode cX10_readsText 50 = .ok (.iconst 0, 1) := by decide +kernel
theorem dX10_readsText_51 : decode cX10_readsText 51 = .ok (.ireturn, 1) := by decide +kernel
theorem dX10_readsText_52 : decode cX10_readsText 52 = .ok (.aload_n 0, 1) := by decide +kernel
theorem dX10_readsText_53 : decode cX10_readsText 53 = .ok (.getfield 186, 3) := by decide +kernel
theorem dX10_readsText_56 : decode cX10_readsText 56 = .ok (.aload_n 0, 1) := by decide +kernel
theorem dX10_readsText_57 : decode cX10_readsText 57 = .ok (.getfield 189, 3) := by decide +kernel
theorem dX10_readsText_60 : decode cX10_readsText 60 = .ok (.if_icmp .ge 7, 3) := by decide +kernel
theorem dX10_readsText_63 : decode cX10_readsText 63 = .ok (.iconst 1, 1) := by decide +kernel
theorem dX10_readsText_64 : decode cX10_readsText 64 = .ok (.goto 4, 3) := by decide +kernel
theorem dX10_readsText_67 : decode cX10_readsText 67 = .ok (.iconst 0, 1) := by decide +kernel
theorem dX10_readsText_68 : decode cX10_readsText 68 = .ok (.istore_n 2, 1) := by decide +kernel
theorem dX10_readsText_69 : decode cX10_readsText 69 = .ok (.iload_n 2, 1) := by decide +kernel
theorem dX10_readsText_70 : decode cX10_readsText 70 = .ok (.ifCond .eq 18, 3) := by decide +kernel
theorem dX10_readsText_73 : decode cX10_readsText 73 = .ok (.aload_n 0, 1) := by decide +kernel
theorem dX10_readsText_74 : decode cX10_readsText 74 = .ok (.invokevirtual 198, 3) := by decide +kernel
theorem dX10_readsText_77 : decode cX10_readsText 77 = .ok (.bipush 59, 2) := by decide +kernel
theorem dX10_readsText_79 : decode cX10_readsText 79 = .ok (.if_icmp .eq 9, 3) := by decide +kernel
theorem dX10_readsText_82 : decode cX10_readsText 82 = .ok (.aload_n 0, 1) := by decide +kernel
theorem dX10_readsText_83 : decode cX10_readsText 83 = .ok (.iconst 1, 1) := by decide +kernel
theorem dX10_readsText_84 : decode cX10_readsText 84 = .ok (.invokevirtual 202, 3) := by decide +kernel
theorem dX10_readsText_87 : decode cX10_readsText 87 = .ok (.ireturn, 1) := by decide +kernel
theorem dX10_readsText_88 : decode cX10_readsText 88 = .ok (.aload_n 0, 1) := by decide +kernel
theorem dX10_readsText_89 : decode cX10_readsText 89 = .ok (.aload_n 0, 1) := by decide +kernel
theorem dX10_readsText_90 : decode cX10_readsText 90 = .ok (.getfield 186, 3) := by decide +kernel
theorem dX10_readsText_93 : decode cX10_readsText 93 = .ok (.iconst 1, 1) := by decide +kernel
theorem dX10_readsText_94 : decode cX10_readsText 94 = .ok (.iadd, 1) := by decide +kernel
theorem dX10_readsText_95 : decode cX10_readsText 95 = .ok (.putfield 186, 3) := by decide +kernel
theorem dX10_readsText_98 : decode cX10_readsText 98 = .ok (.goto (-59), 3) := by decide +kernel
theorem dX10_readsText_101 : decode cX10_readsText 101 = .ok (.iconst 1, 1) := by decide +kernel
theorem dX10_readsText_102 : decode cX10_readsText 102 = .ok (.ireturn, 1) := by decide +kernel
theorem dX10_contract_0 : decode cX10_contract 0 = .ok (.iload_n 1, 1) := by decide +kernel
theorem dX10_contract_1 : decode cX10_contract 1 = .ok (.ifCond .lt 20, 3) := by decide +kernel
theorem dX10_contract_4 : decode cX10_contract 4 = .ok (.iload_n 1, 1) := by decide +kernel
theorem dX10_contract_5 : decode cX10_contract 5 = .ok (.iconst 4, 1) := by decide +kernel
theorem dX10_contract_6 : decode cX10_contract 6 = .ok (.if_icmp .ge 15, 3) := by decide +kernel
theorem dX10_contract_9 : decode cX10_contract 9 = .ok (.iload_n 2, 1) := by decide +kernel
theorem dX10_contract_10 : decode cX10_contract 10 = .ok (.ifCond .lt 11, 3) := by decide +kernel
theorem dX10_contract_13 : decode cX10_contract 13 = .ok (.iload_n 2, 1) := by decide +kernel
theorem dX10_contract_14 : decode cX10_contract 14 = .ok (.aload_n 0, 1) := by decide +kernel
theorem dX10_contract_15 : decode cX10_contract 15 = .ok (.getfield 179, 3) := by decide +kernel
theorem dX10_contract_18 : decode cX10_contract 18 = .ok (.if_icmp .le 5, 3) := by decide +kernel
theorem dX10_contract_21 : decode cX10_contract 21 = .ok (.iconst (-1), 1) := by decide +kernel
theorem dX10_contract_22 : decode cX10_contract 22 = .ok (.ireturn, 1) := by decide +kernel
theorem dX10_contract_23 : decode cX10_contract 23 = .ok (.aload_n 0, 1) := by decide +kernel
theorem dX10_contract_24 : decode cX10_contract 24 = .ok (.iconst 0, 1) := by decide +kernel
theorem dX10_contract_25 : decode cX10_contract 25 = .ok (.putfield 192, 3) := by decide +kernel
theorem dX10_contract_28 : decode cX10_contract 28 = .ok (.aload_n 0, 1) := by decide +kernel
theorem dX10_contract_29 : decode cX10_contract 29 = .ok (.iconst (-1), 1) := by decide +kernel
theorem dX10_contract_30 : decode cX10_contract 30 = .ok (.putfield 62, 3) := by decide +kernel
theorem dX10_contract_33 : decode cX10_contract 33 = .ok (.aload_n 0, 1) := by decide +kernel
theorem dX10_contract_34 : decode cX10_contract 34 = .ok (.iload_n 2, 1) := by decide +kernel
theorem dX10_contract_35 : decode cX10_contract 35 = .ok (.invokevirtual 247, 3) := by decide +kernel
theorem dX10_contract_38 : decode cX10_contract 38 = .ok (.istore_n 3, 1) := by decide +kernel
theorem dX10_contract_39 : decode cX10_contract 39 = .ok (.aload_n 0, 1) := by decide +kernel
theorem dX10_contract_40 : decode cX10_contract 40 = .ok (.iconst 0, 1) := by decide +kernel
theorem dX10_contract_41 : decode cX10_contract 41 = .ok (.putfield 179, 3) := by decide +kernel
theorem dX10_contract_44 : decode cX10_contract 44 = .ok (.iload_n 3, 1) := by decide +kernel
theorem dX10_contract_45 : decode cX10_contract 45 = .ok (.ifCond .ne 6, 3) := by decide +kernel
theorem dX10_contract_48 : decode cX10_contract 48 = .ok (.bipush (-2), 2) := by decide +kernel
theorem dX10_contract_50 : decode cX10_contract 50 = .ok (.ireturn, 1) := by decide +kernel
theorem dX10_contract_51 : decode cX10_contract 51 = .ok (.aload_n 0, 1) := by decide +kernel
theorem dX10_contract_52 : decode cX10_contract 52 = .ok (.getfield 66, 3) := by decide +kernel
theorem dX10_contract_55 : decode cX10_contract 55 = .ok (.iload_n 1, 1) := by decide +kernel
theorem dX10_contract_56 : decode cX10_contract 56 = .ok (.aload_n 0, 1) := by decide +kernel
theorem dX10_contract_57 : decode cX10_contract 57 = .ok (.getfield 66, 3) := by decide +kernel
theorem dX10_contract_60 : decode cX10_contract 60 = .ok (.iconst 4, 1) := by decide +kernel
theorem dX10_contract_61 : decode cX10_contract 61 = .ok (.iaload, 1) := by decide +kernel
theorem dX10_contract_62 : decode cX10_contract 62 = .ok (.iastore, 1) := by decide +kernel
theorem dX10_contract_63 : decode cX10_contract 63 = .ok (.aload_n 0, 1) := by decide +kernel
theorem dX10_contract_64 : decode cX10_contract 64 = .ok (.getfield 69, 3) := by decide +kernel
theorem dX10_contract_67 : decode cX10_contract 67 = .ok (.iload_n 1, 1) := by decide +kernel
theorem dX10_contract_68 : decode cX10_contract 68 = .ok (.aload_n 0, 1) := by decide +kernel
theorem dX10_contract_69 : decode cX10_contract 69 = .ok (.getfield 69, 3) := by decide +kernel
theorem dX10_contract_72 : decode cX10_contract 72 = .ok (.iconst 4, 1) := by decide +kernel
theorem dX10_contract_73 : decode cX10_contract 73 = .ok (.iaload, 1) := by decide +kernel
theorem dX10_contract_74 : decode cX10_contract 74 = .ok (.iastore, 1) := by decide +kernel
theorem dX10_contract_75 : decode cX10_contract 75 = .ok (.aload_n 0, 1) := by decide +kernel
theorem dX10_contract_76 : decode cX10_contract 76 = .ok (.getfield 72, 3) := by decide +kernel
theorem dX10_contract_79 : decode cX10_contract 79 = .ok (.iload_n 1, 1) := by decide +kernel
theorem dX10_contract_80 : decode cX10_contract 80 = .ok (.aload_n 0, 1) := by decide +kernel
theorem dX10_contract_81 : decode cX10_contract 81 = .ok (.getfield 72, 3) := by decide +kernel
theorem dX10_contract_84 : decode cX10_contract 84 = .ok (.iconst 4, 1) := by decide +kernel
theorem dX10_contract_85 : decode cX10_contract 85 = .ok (.iaload, 1) := by decide +kernel
theorem dX10_contract_86 : decode cX10_contract 86 = .ok (.iastore, 1) := by decide +kernel
theorem dX10_contract_87 : decode cX10_contract 87 = .ok (.iconst 0, 1) := by decide +kernel
theorem dX10_contract_88 : decode cX10_contract 88 = .ok (.istore 4, 2) := by decide +kernel
theorem dX10_contract_90 : decode cX10_contract 90 = .ok (.iload 4, 2) := by decide +kernel
theorem dX10_contract_92 : decode cX10_contract 92 = .ok (.bipush 12, 2) := by decide +kernel
theorem dX10_contract_94 : decode cX10_contract 94 = .ok (.if_icmp .ge 97, 3) := by decide +kernel
theorem dX10_contract_97 : decode cX10_contract 97 = .ok (.aload_n 0, 1) := by decide +kernel
theorem dX10_contract_98 : decode cX10_contract 98 = .ok (.getfield 75, 3) := by decide +kernel
theorem dX10_contract_101 : decode cX10_contract 101 = .ok (.bipush 12, 2) := by decide +kernel
theorem dX10_contract_103 : decode cX10_contract 103 = .ok (.iload_n 1, 1) := by decide +kernel
theorem dX10_contract_104 : decode cX10_contract 104 = .ok (.imul, 1) := by decide +kernel
theorem dX10_contract_105 : decode cX10_contract 105 = .ok (.iload 4, 2) := by decide +kernel
theorem dX10_contract_107 : decode cX10_contract 107 = .ok (.iadd, 1) := by decide +kernel
theorem dX10_contract_108 : decode cX10_contract 108 = .ok (.aload_n 0, 1) := by decide +kernel
theorem dX10_contract_109 : decode cX10_contract 109 = .ok (.getfield 75, 3) := by decide +kernel
theorem dX10_contract_112 : decode cX10_contract 112 = .ok (.bipush 48, 2) := by decide +kernel
theorem dX10_contract_114 : decode cX10_contract 114 = .ok (.iload 4, 2) := by decide +kernel
theorem dX10_contract_116 : decode cX10_contract 116 = .ok (.iadd, 1) := by decide +kernel
theorem dX10_contract_117 : decode cX10_contract 117 = .ok (.iaload, 1) := by decide +kernel
theorem dX10_contract_118 : decode cX10_contract 118 = .ok (.iastore, 1) := by decide +kernel
theorem dX10_contract_119 : decode cX10_contract 119 = .ok (.aload_n 0, 1) := by decide +kernel
theorem dX10_contract_120 : decode cX10_contract 120 = .ok (.getfield 78, 3) := by decide +kernel
theorem dX10_contract_123 : decode cX10_contract 123 = .ok (.bipush 12, 2) := by decide +kernel
theorem dX10_contract_125 : decode cX10_contract 125 = .ok (.iload_n 1, 1) := by decide +kernel
theorem dX10_contract_126 : decode cX10_contract 126 = .ok (.imul, 1) := by decide +kernel
theorem dX10_contract_127 : decode cX10_contract 127 = .ok (.iload 4, 2) := by decide +kernel
theorem dX10_contract_129 : decode cX10_contract 129 = .ok (.iadd, 1) := by decide +kernel
theorem dX10_contract_130 : decode cX10_contract 130 = .ok (.aload_n 0, 1) := by decide +kernel
theorem dX10_contract_131 : decode cX10_contract 131 = .ok (.getfield 78, 3) := by decide +kernel
theorem dX10_contract_134 : decode cX10_contract 134 = .ok (.bipush 48, 2) := by decide +kernel
theorem dX10_contract_136 : decode cX10_contract 136 = .ok (.iload 4, 2) := by decide +kernel
theorem dX10_contract_138 : decode cX10_contract 138 = .ok (.iadd, 1) := by decide +kernel
theorem dX10_contract_139 : decode cX10_contract 139 = .ok (.iaload, 1) := by decide +kernel
theorem dX10_contract_140 : decode cX10_contract 140 = .ok (.iastore, 1) := by decide +kernel
theorem dX10_contract_141 : decode cX10_contract 141 = .ok (.aload_n 0, 1) := by decide +kernel
theorem dX10_contract_142 : decode cX10_contract 142 = .ok (.getfield 81, 3) := by decide +kernel
theorem dX10_contract_145 : decode cX10_contract 145 = .ok (.bipush 12, 2) := by decide +kernel
theorem dX10_contract_147 : decode cX10_contract 147 = .ok (.iload_n 1, 1) := by decide +kernel
theorem dX10_contract_148 : decode cX10_contract 148 = .ok (.imul, 1) := by decide +kernel
theorem dX10_contract_149 : decode cX10_contract 149 = .ok (.iload 4, 2) := by decide +kernel
theorem dX10_contract_151 : decode cX10_contract 151 = .ok (.iadd, 1) := by decide +kernel
theorem dX10_contract_152 : decode cX10_contract 152 = .ok (.aload_n 0, 1) := by decide +kernel
theorem dX10_contract_153 : decode cX10_contract 153 = .ok (.getfield 81, 3) := by decide +kernel
theorem dX10_contract_156 : decode cX10_contract 156 = .ok (.bipush 48, 2) := by decide +kernel
theorem dX10_contract_158 : decode cX10_contract 158 = .ok (.iload 4, 2) := by decide +kernel
theorem dX10_contract_160 : decode cX10_contract 160 = .ok (.iadd, 1) := by decide +kernel
theorem dX10_contract_161 : decode cX10_contract 161 = .ok (.iaload, 1) := by decide +kernel
theorem dX10_contract_162 : decode cX10_contract 162 = .ok (.iastore, 1) := by decide +kernel
theorem dX10_contract_163 : decode cX10_contract 163 = .ok (.aload_n 0, 1) := by decide +kernel
theorem dX10_contract_164 : decode cX10_contract 164 = .ok (.getfield 84, 3) := by decide +kernel
theorem dX10_contract_167 : decode cX10_contract 167 = .ok (.bipush 12, 2) := by decide +kernel
theorem dX10_contract_169 : decode cX10_contract 169 = .ok (.iload_n 1, 1) := by decide +kernel
theorem dX10_contract_170 : decode cX10_contract 170 = .ok (.imul, 1) := by decide +kernel
theorem dX10_contract_171 : decode cX10_contract 171 = .ok (.iload 4, 2) := by decide +kernel
theorem dX10_contract_173 : decode cX10_contract 173 = .ok (.iadd, 1) := by decide +kernel
theorem dX10_contract_174 : decode cX10_contract 174 = .ok (.aload_n 0, 1) := by decide +kernel
theorem dX10_contract_175 : decode cX10_contract 175 = .ok (.getfield 84, 3) := by decide +kernel
theorem dX10_contract_178 : decode cX10_contract 178 = .ok (.bipush 48, 2) := by decide +kernel
theorem dX10_contract_180 : decode cX10_contract 180 = .ok (.iload 4, 2) := by decide +kernel
theorem dX10_contract_182 : decode cX10_contract 182 = .ok (.iadd, 1) := by decide +kernel
theorem dX10_contract_183 : decode cX10_contract 183 = .ok (.iaload, 1) := by decide +kernel
theorem dX10_contract_184 : decode cX10_contract 184 = .ok (.iastore, 1) := by decide +kernel
theorem dX10_contract_185 : decode cX10_contract 185 = .ok (.iinc 4 1, 3) := by decide +kernel
theorem dX10_contract_188 : decode cX10_contract 188 = .ok (.goto (-98), 3) := by decide +kernel
theorem dX10_contract_191 : decode cX10_contract 191 = .ok (.iconst 0, 1) := by decide +kernel
theorem dX10_contract_192 : decode cX10_contract 192 = .ok (.istore 4, 2) := by decide +kernel
theorem dX10_contract_194 : decode cX10_contract 194 = .ok (.iload 4, 2) := by decide +kernel
theorem dX10_contract_196 : decode cX10_contract 196 = .ok (.sipush 200, 3) := by decide +kernel
theorem dX10_contract_199 : decode cX10_contract 199 = .ok (.if_icmp .ge 105, 3) := by decide +kernel
theorem dX10_contract_202 : decode cX10_contract 202 = .ok (.aload_n 0, 1) := by decide +kernel
theorem dX10_contract_203 : decode cX10_contract 203 = .ok (.getfield 87, 3) := by decide +kernel
theorem dX10_contract_206 : decode cX10_contract 206 = .ok (.sipush 200, 3) := by decide +kernel
theorem dX10_contract_209 : decode cX10_contract 209 = .ok (.iload_n 1, 1) := by decide +kernel
theorem dX10_contract_210 : decode cX10_contract 210 = .ok (.imul, 1) := by decide +kernel
theorem dX10_contract_211 : decode cX10_contract 211 = .ok (.iload 4, 2) := by decide +kernel
theorem dX10_contract_213 : decode cX10_contract 213 = .ok (.iadd, 1) := by decide +kernel
theorem dX10_contract_214 : decode cX10_contract 214 = .ok (.aload_n 0, 1) := by decide +kernel
theorem dX10_contract_215 : decode cX10_contract 215 = .ok (.getfield 87, 3) := by decide +kernel
theorem dX10_contract_218 : decode cX10_contract 218 = .ok (.sipush 800, 3) := by decide +kernel
theorem dX10_contract_221 : decode cX10_contract 221 = .ok (.iload 4, 2) := by decide +kernel
theorem dX10_contract_223 : decode cX10_contract 223 = .ok (.iadd, 1) := by decide +kernel
theorem dX10_contract_224 : decode cX10_contract 224 = .ok (.iaload, 1) := by decide +kernel
theorem dX10_contract_225 : decode cX10_contract 225 = .ok (.iastore, 1) := by decide +kernel
theorem dX10_contract_226 : decode cX10_contract 226 = .ok (.aload_n 0, 1) := by decide +kernel
theorem dX10_contract_227 : decode cX10_contract 227 = .ok (.getfield 90, 3) := by decide +kernel
theorem dX10_contract_230 : decode cX10_contract 230 = .ok (.sipush 200, 3) := by decide +kernel
theorem dX10_contract_233 : decode cX10_contract 233 = .ok (.iload_n 1, 1) := by decide +kernel
theorem dX10_contract_234 : decode cX10_contract 234 = .ok (.imul, 1) := by decide +kernel
theorem dX10_contract_235 : decode cX10_contract 235 = .ok (.iload 4, 2) := by decide +kernel
theorem dX10_contract_237 : decode cX10_contract 237 = .ok (.iadd, 1) := by decide +kernel
theorem dX10_contract_238 : decode cX10_contract 238 = .ok (.aload_n 0, 1) := by decide +kernel
theorem dX10_contract_239 : decode cX10_contract 239 = .ok (.getfield 90, 3) := by decide +kernel
theorem dX10_contract_242 : decode cX10_contract 242 = .ok (.sipush 800, 3) := by decide +kernel
theorem dX10_contract_245 : decode cX10_contract 245 = .ok (.iload 4, 2) := by decide +kernel
theorem dX10_contract_247 : decode cX10_contract 247 = .ok (.iadd, 1) := by decide +kernel
theorem dX10_contract_248 : decode cX10_contract 248 = .ok (.iaload, 1) := by decide +kernel
theorem dX10_contract_249 : decode cX10_contract 249 = .ok (.iastore, 1) := by decide +kernel
theorem dX10_contract_250 : decode cX10_contract 250 = .ok (.aload_n 0, 1) := by decide +kernel
theorem dX10_contract_251 : decode cX10_contract 251 = .ok (.getfield 93, 3) := by decide +kernel
theorem dX10_contract_254 : decode cX10_contract 254 = .ok (.sipush 200, 3) := by decide +kernel
theorem dX10_contract_257 : decode cX10_contract 257 = .ok (.iload_n 1, 1) := by decide +kernel
theorem dX10_contract_258 : decode cX10_contract 258 = .ok (.imul, 1) := by decide +kernel
theorem dX10_contract_259 : decode cX10_contract 259 = .ok (.iload 4, 2) := by decide +kernel
theorem dX10_contract_261 : decode cX10_contract 261 = .ok (.iadd, 1) := by decide +kernel
theorem dX10_contract_262 : decode cX10_contract 262 = .ok (.aload_n 0, 1) := by decide +kernel
theorem dX10_contract_263 : decode cX10_contract 263 = .ok (.getfield 93, 3) := by decide +kernel
theorem dX10_contract_266 : decode cX10_contract 266 = .ok (.sipush 800, 3) := by decide +kernel
theorem dX10_contract_269 : decode cX10_contract 269 = .ok (.iload 4, 2) := by decide +kernel
theorem dX10_contract_271 : decode cX10_contract 271 = .ok (.iadd, 1) := by decide +kernel
theorem dX10_contract_272 : decode cX10_contract 272 = .ok (.iaload, 1) := by decide +kernel
theorem dX10_contract_273 : decode cX10_contract 273 = .ok (.iastore, 1) := by decide +kernel
theorem dX10_contract_274 : decode cX10_contract 274 = .ok (.aload_n 0, 1) := by decide +kernel
theorem dX10_contract_275 : decode cX10_contract 275 = .ok (.getfield 96, 3) := by decide +kernel
theorem dX10_contract_278 : decode cX10_contract 278 = .ok (.sipush 200, 3) := by decide +kernel
theorem dX10_contract_281 : decode cX10_contract 281 = .ok (.iload_n 1, 1) := by decide +kernel
theorem dX10_contract_282 : decode cX10_contract 282 = .ok (.imul, 1) := by decide +kernel
theorem dX10_contract_283 : decode cX10_contract 283 = .ok (.iload 4, 2) := by decide +kernel
theorem dX10_contract_285 : decode cX10_contract 285 = .ok (.iadd, 1) := by decide +kernel
theorem dX10_contract_286 : decode cX10_contract 286 = .ok (.aload_n 0, 1) := by decide +kernel
theorem dX10_contract_287 : decode cX10_contract 287 = .ok (.getfield 96, 3) := by decide +kernel
theorem dX10_contract_290 : decode cX10_contract 290 = .ok (.sipush 800, 3) := by decide +kernel
theorem dX10_contract_293 : decode cX10_contract 293 = .ok (.iload 4, 2) := by decide +kernel
theorem dX10_contract_295 : decode cX10_contract 295 = .ok (.iadd, 1) := by decide +kernel
theorem dX10_contract_296 : decode cX10_contract 296 = .ok (.iaload, 1) := by decide +kernel
theorem dX10_contract_297 : decode cX10_contract 297 = .ok (.iastore, 1) := by decide +kernel
theorem dX10_contract_298 : decode cX10_contract 298 = .ok (.iinc 4 1, 3) := by decide +kernel
theorem dX10_contract_301 : decode cX10_contract 301 = .ok (.goto (-107), 3) := by decide +kernel
theorem dX10_contract_304 : decode cX10_contract 304 = .ok (.aload_n 0, 1) := by decide +kernel
theorem dX10_contract_305 : decode cX10_contract 305 = .ok (.iconst 0, 1) := by decide +kernel
theorem dX10_contract_306 : decode cX10_contract 306 = .ok (.putfield 165, 3) := by decide +kernel
theorem dX10_contract_309 : decode cX10_contract 309 = .ok (.aload_n 0, 1) := by decide +kernel
theorem dX10_contract_310 : decode cX10_contract 310 = .ok (.getfield 66, 3) := by decide +kernel
theorem dX10_contract_313 : decode cX10_contract 313 = .ok (.iload_n 1, 1) := by decide +kernel
theorem dX10_contract_314 : decode cX10_contract 314 = .ok (.iaload, 1) := by decide +kernel
theorem dX10_contract_315 : decode cX10_contract 315 = .ok (.ireturn, 1) := by decide +kernel
theorem dX10_fault_0 : decode cX10_fault 0 = .ok (.iload_n 1, 1) := by decide +kernel
theorem dX10_fault_1 : decode cX10_fault 1 = .ok (.ifCond .ne 10, 3) := by decide +kernel
theorem dX10_fault_4 : decode cX10_fault 4 = .ok (.aload_n 0, 1) := by decide +kernel
theorem dX10_fault_5 : decode cX10_fault 5 = .ok (.getfield 192, 3) := by decide +kernel
theorem dX10_fault_8 : decode cX10_fault 8 = .ok (.goto 16, 3) := by decide +kernel
theorem dX10_fault_11 : decode cX10_fault 11 = .ok (.iload_n 1, 1) := by decide +kernel
theorem dX10_fault_12 : decode cX10_fault 12 = .ok (.iconst 1, 1) := by decide +kernel
theorem dX10_fault_13 : decode cX10_fault 13 = .ok (.if_icmp .ne 10, 3) := by decide +kernel
theorem dX10_fault_16 : decode cX10_fault 16 = .ok (.aload_n 0, 1) := by decide +kernel
theorem dX10_fault_17 : decode cX10_fault 17 = .ok (.getfield 62, 3) := by decide +kernel
theorem dX10_fault_20 : decode cX10_fault 20 = .ok (.goto 4, 3) := by decide +kernel
theorem dX10_fault_23 : decode cX10_fault 23 = .ok (.iconst (-1), 1) := by decide +kernel
theorem dX10_fault_24 : decode cX10_fault 24 = .ok (.ireturn, 1) := by decide +kernel
theorem dX10_holds_0 : decode cX10_holds 0 = .ok (.iconst 0, 1) := by decide +kernel
theorem dX10_holds_1 : decode cX10_holds 1 = .ok (.istore 4, 2) := by decide +kernel
theorem dX10_holds_3 : decode cX10_holds 3 = .ok (.sipush 200, 3) := by decide +kernel
theorem dX10_holds_6 : decode cX10_holds 6 = .ok (.iload_n 1, 1) := by decide +kernel
theorem dX10_holds_7 : decode cX10_holds 7 = .ok (.imul, 1) := by decide +kernel
theorem dX10_holds_8 : decode cX10_holds 8 = .ok (.iload_n 2, 1) := by decide +kernel
theorem dX10_holds_9 : decode cX10_holds 9 = .ok (.iadd, 1) := by decide +kernel
theorem dX10_holds_10 : decode cX10_holds 10 = .ok (.istore 5, 2) := by decide +kernel
theorem dX10_holds_12 : decode cX10_holds 12 = .ok (.iload 5, 2) := by decide +kernel
theorem dX10_holds_14 : decode cX10_holds 14 = .ok (.sipush 200, 3) := by decide +kernel
theorem dX10_holds_17 : decode cX10_holds 17 = .ok (.iload_n 1, 1) := by decide +kernel
theorem dX10_holds_18 : decode cX10_holds 18 = .ok (.imul, 1) := by decide +kernel
theorem dX10_holds_19 : decode cX10_holds 19 = .ok (.iload_n 3, 1) := by decide +kernel
theorem dX10_holds_20 : decode cX10_holds 20 = .ok (.iadd, 1) := by decide +kernel
theorem dX10_holds_21 : decode cX10_holds 21 = .ok (.if_icmp .ge 268, 3) := by decide +kernel
theorem dX10_holds_24 : decode cX10_holds 24 = .ok (.aload_n 0, 1) := by decide +kernel
theorem dX10_holds_25 : decode cX10_holds 25 = .ok (.getfield 87, 3) := by decide +kernel
theorem dX10_holds_28 : decode cX10_holds 28 = .ok (.iload 5, 2) := by decide +kernel
theorem dX10_holds_30 : decode cX10_holds 30 = .ok (.iaload, 1) := by decide +kernel
theorem dX10_holds_31 : decode cX10_holds 31 = .ok (.tableswitch 210 0 2 #[25, 136, 165], 25) := by decide +kernel
theorem dX10_holds_56 : decode cX10_holds 56 = .ok (.aload_n 0, 1) := by decide +kernel
theorem dX10_holds_57 : decode cX10_holds 57 = .ok (.getfield 102, 3) := by decide +kernel
theorem dX10_holds_60 : decode cX10_holds 60 = .ok (.aload_n 0, 1) := by decide +kernel
theorem dX10_holds_61 : decode cX10_holds 61 = .ok (.getfield 90, 3) := by decide +kernel
theorem dX10_holds_64 : decode cX10_holds 64 = .ok (.iload 5, 2) := by decide +kernel
theorem dX10_holds_66 : decode cX10_holds 66 = .ok (.iaload, 1) := by decide +kernel
theorem dX10_holds_67 : decode cX10_holds 67 = .ok (.iaload, 1) := by decide +kernel
theorem dX10_holds_68 : decode cX10_holds 68 = .ok (.istore 6, 2) := by decide +kernel
theorem dX10_holds_70 : decode cX10_holds 70 = .ok (.aload_n 0, 1) := by decide +kernel
theorem dX10_holds_71 : decode cX10_holds 71 = .ok (.getfield 105, 3) := by decide +kernel
theorem dX10_holds_74 : decode cX10_holds 74 = .ok (.iload 4, 2) := by decide +kernel
theorem dX10_holds_76 : decode cX10_holds 76 = .ok (.aload_n 0, 1) := by decide +kernel
theorem dX10_holds_77 : decode cX10_holds 77 = .ok (.getfield 93, 3) := by decide +kernel
theorem dX10_holds_80 : decode cX10_holds 80 = .ok (.iload 5, 2) := by decide +kernel
theorem dX10_holds_82 : decode cX10_holds 82 = .ok (.iaload, 1) := by decide +kernel
theorem dX10_holds_83 : decode cX10_holds 83 = .ok (.bipush 60, 2) := by decide +kernel
theorem dX10_holds_85 : decode cX10_holds 85 = .ok (.if_icmp .ne 23, 3) := by decide +kernel
theorem dX10_holds_88 : decode cX10_holds 88 = .ok (.iload 6, 2) := by decide +kernel
theorem dX10_holds_90 : decode cX10_holds 90 = .ok (.aload_n 0, 1) := by decide +kernel
theorem dX10_holds_91 : decode cX10_holds 91 = .ok (.getfield 96, 3) := by decide +kernel
theorem dX10_holds_94 : decode cX10_holds 94 = .ok (.iload 5, 2) := by decide +kernel
theorem dX10_holds_96 : decode cX10_holds 96 = .ok (.iaload, 1) := by decide +kernel
theorem dX10_holds_97 : decode cX10_holds 97 = .ok (.if_icmp .ge 7, 3) := by decide +kernel
theorem dX10_holds_100 : decode cX10_holds 100 = .ok (.iconst 1, 1) := by decide +kernel
theorem dX10_holds_101 : decode cX10_holds 101 = .ok (.goto 56, 3) := by decide +kernel
theorem dX10_holds_104 : decode cX10_holds 104 = .ok (.iconst 0, 1) := by decide +kernel
theorem dX10_holds_105 : decode cX10_holds 105 = .ok (.goto 52, 3) := by decide +kernel
theorem dX10_holds_108 : decode cX10_holds 108 = .ok (.aload_n 0, 1) := by decide +kernel
theorem dX10_holds_109 : decode cX10_holds 109 = .ok (.getfield 93, 3) := by decide +kernel
theorem dX10_holds_112 : decode cX10_holds 112 = .ok (.iload 5, 2) := by decide +kernel
theorem dX10_holds_114 : decode cX10_holds 114 = .ok (.iaload, 1) := by decide +kernel
theorem dX10_holds_115 : decode cX10_holds 115 = .ok (.bipush 62, 2) := by decide +kernel
theorem dX10_holds_117 : decode cX10_holds 117 = .ok (.if_icmp .ne 23, 3) := by decide +kernel
theorem dX10_holds_120 : decode cX10_holds 120 = .ok (.iload 6, 2) := by decide +kernel
theorem dX10_holds_122 : decode cX10_holds 122 = .ok (.aload_n 0, 1) := by decide +kernel
theorem dX10_holds_123 : decode cX10_holds 123 = .ok (.getfield 96, 3) := by decide +kernel
theorem dX10_holds_126 : decode cX10_holds 126 = .ok (.iload 5, 2) := by decide +kernel
theorem dX10_holds_128 : decode cX10_holds 128 = .ok (.iaload, 1) := by decide +kernel
theorem dX10_holds_129 : decode cX10_holds 129 = .ok (.if_icmp .le 7, 3) := by decide +kernel
theorem dX10_holds_132 : decode cX10_holds 132 = .ok (.iconst 1, 1) := by decide +kernel
theorem dX10_holds_133 : decode cX10_holds 133 = .ok (.goto 24, 3) := by decide +kernel
theorem dX10_holds_136 : decode cX10_holds 136 = .ok (.iconst 0, 1) := by decide +kernel
theorem dX10_holds_137 : decode cX10_holds 137 = .ok (.goto 20, 3) := by decide +kernel
theorem dX10_holds_140 : decode cX10_holds 140 = .ok (.iload 6, 2) := by decide +kernel
theorem dX10_holds_142 : decode cX10_holds 142 = .ok (.aload_n 0, 1) := by decide +kernel
theorem dX10_holds_143 : decode cX10_holds 143 = .ok (.getfield 96, 3) := by decide +kernel
theorem dX10_holds_146 : decode cX10_holds 146 = .ok (.iload 5, 2) := by decide +kernel
theorem dX10_holds_148 : decode cX10_holds 148 = .ok (.iaload, 1) := by decide +kernel
theorem dX10_holds_149 : decode cX10_holds 149 = .ok (.if_icmp .ne 7, 3) := by decide +kernel
theorem dX10_holds_152 : decode cX10_holds 152 = .ok (.iconst 1, 1) := by decide +kernel
theorem dX10_holds_153 : decode cX10_holds 153 = .ok (.goto 4, 3) := by decide +kernel
theorem dX10_holds_156 : decode cX10_holds 156 = .ok (.iconst 0, 1) := by decide +kernel
theorem dX10_holds_157 : decode cX10_holds 157 = .ok (.bastore, 1) := by decide +kernel
theorem dX10_holds_158 : decode cX10_holds 158 = .ok (.iload 4, 2) := by decide +kernel
theorem dX10_holds_160 : decode cX10_holds 160 = .ok (.iconst 1, 1) := by decide +kernel
theorem dX10_holds_161 : decode cX10_holds 161 = .ok (.iadd, 1) := by decide +kernel
theorem dX10_holds_162 : decode cX10_holds 162 = .ok (.istore 4, 2) := by decide +kernel
theorem dX10_holds_164 : decode cX10_holds 164 = .ok (.goto 119, 3) := by decide +kernel
theorem dX10_holds_167 : decode cX10_holds 167 = .ok (.aload_n 0, 1) := by decide +kernel
theorem dX10_holds_168 : decode cX10_holds 168 = .ok (.getfield 105, 3) := by decide +kernel
theorem dX10_holds_171 : decode cX10_holds 171 = .ok (.iload 4, 2) := by decide +kernel
theorem dX10_holds_173 : decode cX10_holds 173 = .ok (.iconst 1, 1) := by decide +kernel
theorem dX10_holds_174 : decode cX10_holds 174 = .ok (.isub, 1) := by decide +kernel
theorem dX10_holds_175 : decode cX10_holds 175 = .ok (.aload_n 0, 1) := by decide +kernel
theorem dX10_holds_176 : decode cX10_holds 176 = .ok (.getfield 105, 3) := by decide +kernel
theorem dX10_holds_179 : decode cX10_holds 179 = .ok (.iload 4, 2) := by decide +kernel
theorem dX10_holds_181 : decode cX10_holds 181 = .ok (.iconst 1, 1) := by decide +kernel
theorem dX10_holds_182 : decode cX10_holds 182 = .ok (.isub, 1) := by decide +kernel
theorem dX10_holds_183 : decode cX10_holds 183 = .ok (.baload, 1) := by decide +kernel
theorem dX10_holds_184 : decode cX10_holds 184 = .ok (.ifCond .ne 7, 3) := by decide +kernel
theorem dX10_holds_187 : decode cX10_holds 187 = .ok (.iconst 1, 1) := by decide +kernel
theorem dX10_holds_188 : decode cX10_holds 188 = .ok (.goto 4, 3) := by decide +kernel
theorem dX10_holds_191 : decode cX10_holds 191 = .ok (.iconst 0, 1) := by decide +kernel
theorem dX10_holds_192 : decode cX10_holds 192 = .ok (.bastore, 1) := by decide +kernel
theorem dX10_holds_193 : decode cX10_holds 193 = .ok (.goto 90, 3) := by decide +kernel
theorem dX10_holds_196 : decode cX10_holds 196 = .ok (.iload 4, 2) := by decide +kernel
theorem dX10_holds_198 : decode cX10_holds 198 = .ok (.iconst 1, 1) := by decide +kernel
theorem dX10_holds_199 : decode cX10_holds 199 = .ok (.isub, 1) := by decide +kernel
theorem dX10_holds_200 : decode cX10_holds 200 = .ok (.istore 4, 2) := by decide +kernel
theorem dX10_holds_202 : decode cX10_holds 202 = .ok (.aload_n 0, 1) := by decide +kernel
theorem dX10_holds_203 : decode cX10_holds 203 = .ok (.getfield 105, 3) := by decide +kernel
theorem dX10_holds_206 : decode cX10_holds 206 = .ok (.iload 4, 2) := by decide +kernel
theorem dX10_holds_208 : decode cX10_holds 208 = .ok (.iconst 1, 1) := by decide +kernel
theorem dX10_holds_209 : decode cX10_holds 209 = .ok (.isub, 1) := by decide +kernel
theorem dX10_holds_210 : decode cX10_holds 210 = .ok (.aload_n 0, 1) := by decide +kernel
theorem dX10_holds_211 : decode cX10_holds 211 = .ok (.getfield 105, 3) := by decide +kernel
theorem dX10_holds_214 : decode cX10_holds 214 = .ok (.iload 4, 2) := by decide +kernel
theorem dX10_holds_216 : decode cX10_holds 216 = .ok (.iconst 1, 1) := by decide +kernel
theorem dX10_holds_217 : decode cX10_holds 217 = .ok (.isub, 1) := by decide +kernel
theorem dX10_holds_218 : decode cX10_holds 218 = .ok (.baload, 1) := by decide +kernel
theorem dX10_holds_219 : decode cX10_holds 219 = .ok (.ifCond .eq 17, 3) := by decide +kernel
theorem dX10_holds_222 : decode cX10_holds 222 = .ok (.aload_n 0, 1) := by decide +kernel
theorem dX10_holds_223 : decode cX10_holds 223 = .ok (.getfield 105, 3) := by decide +kernel
theorem dX10_holds_226 : decode cX10_holds 226 = .ok (.iload 4, 2) := by decide +kernel
theorem dX10_holds_228 : decode cX10_holds 228 = .ok (.baload, 1) := by decide +kernel
theorem dX10_holds_229 : decode cX10_holds 229 = .ok (.ifCond .eq 7, 3) := by decide +kernel
theorem dX10_holds_232 : decode cX10_holds 232 = .ok (.iconst 1, 1) := by decide +kernel
theorem dX10_holds_233 : decode cX10_holds 233 = .ok (.goto 4, 3) := by decide +kernel
theorem dX10_holds_236 : decode cX10_holds 236 = .ok (.iconst 0, 1) := by decide +kernel
theorem dX10_holds_237 : decode cX10_holds 237 = .ok (.bastore, 1) := by decide +kernel
theorem dX10_holds_238 : decode cX10_holds 238 = .ok (.goto 45, 3) := by decide +kernel
theorem dX10_holds_241 : decode cX10_holds 241 = .ok (.iload 4, 2) := by decide +kernel
theorem dX10_holds_243 : decode cX10_holds 243 = .ok (.iconst 1, 1) := by decide +kernel
theorem dX10_holds_244 : decode cX10_holds 244 = .ok (.isub, 1) := by decide +kernel
theorem dX10_holds_245 : decode cX10_holds 245 = .ok (.istore 4, 2) := by decide +kernel
theorem dX10_holds_247 : decode cX10_holds 247 = .ok (.aload_n 0, 1) := by decide +kernel
theorem dX10_holds_248 : decode cX10_holds 248 = .ok (.getfield 105, 3) := by decide +kernel
theorem dX10_holds_251 : decode cX10_holds 251 = .ok (.iload 4, 2) := by decide +kernel
theorem dX10_holds_253 : decode cX10_holds 253 = .ok (.iconst 1, 1) := by decide +kernel
theorem dX10_holds_254 : decode cX10_holds 254 = .ok (.isub, 1) := by decide +kernel
theorem dX10_holds_255 : decode cX10_holds 255 = .ok (.aload_n 0, 1) := by decide +kernel
theorem dX10_holds_256 : decode cX10_holds 256 = .ok (.getfield 105, 3) := by decide +kernel
theorem dX10_holds_259 : decode cX10_holds 259 = .ok (.iload 4, 2) := by decide +kernel
theorem dX10_holds_261 : decode cX10_holds 261 = .ok (.iconst 1, 1) := by decide +kernel
theorem dX10_holds_262 : decode cX10_holds 262 = .ok (.isub, 1) := by decide +kernel
theorem dX10_holds_263 : decode cX10_holds 263 = .ok (.baload, 1) := by decide +kernel
theorem dX10_holds_264 : decode cX10_holds 264 = .ok (.ifCond .ne 13, 3) := by decide +kernel
theorem dX10_holds_267 : decode cX10_holds 267 = .ok (.aload_n 0, 1) := by decide +kernel
theorem dX10_holds_268 : decode cX10_holds 268 = .ok (.getfield 105, 3) := by decide +kernel
theorem dX10_holds_271 : decode cX10_holds 271 = .ok (.iload 4, 2) := by decide +kernel
theorem dX10_holds_273 : decode cX10_holds 273 = .ok (.baload, 1) := by decide +kernel
theorem dX10_holds_274 : decode cX10_holds 274 = .ok (.ifCond .eq 7, 3) := by decide +kernel
theorem dX10_holds_277 : decode cX10_holds 277 = .ok (.iconst 1, 1) := by decide +kernel
theorem dX10_holds_278 : decode cX10_holds 278 = .ok (.goto 4, 3) := by decide +kernel
theorem dX10_holds_281 : decode cX10_holds 281 = .ok (.iconst 0, 1) := by decide +kernel
theorem dX10_holds_282 : decode cX10_holds 282 = .ok (.bastore, 1) := by decide +kernel
theorem dX10_holds_283 : decode cX10_holds 283 = .ok (.iinc 5 1, 3) := by decide +kernel
theorem dX10_holds_286 : decode cX10_holds 286 = .ok (.goto (-274), 3) := by decide +kernel
theorem dX10_holds_289 : decode cX10_holds 289 = .ok (.aload_n 0, 1) := by decide +kernel
theorem dX10_holds_290 : decode cX10_holds 290 = .ok (.getfield 105, 3) := by decide +kernel
theorem dX10_holds_293 : decode cX10_holds 293 = .ok (.iconst 0, 1) := by decide +kernel
theorem dX10_holds_294 : decode cX10_holds 294 = .ok (.baload, 1) := by decide +kernel
theorem dX10_holds_295 : decode cX10_holds 295 = .ok (.ireturn, 1) := by decide +kernel
theorem dX10_up_0 : decode cX10_up 0 = .ok (.iload_n 0, 1) := by decide +kernel
theorem dX10_up_1 : decode cX10_up 1 = .ok (.iload_n 1, 1) := by decide +kernel
theorem dX10_up_2 : decode cX10_up 2 = .ok (.iadd, 1) := by decide +kernel
theorem dX10_up_3 : decode cX10_up 3 = .ok (.iconst 1, 1) := by decide +kernel
theorem dX10_up_4 : decode cX10_up 4 = .ok (.isub, 1) := by decide +kernel
theorem dX10_up_5 : decode cX10_up 5 = .ok (.iload_n 1, 1) := by decide +kernel
theorem dX10_up_6 : decode cX10_up 6 = .ok (.idiv, 1) := by decide +kernel
theorem dX10_up_7 : decode cX10_up 7 = .ok (.ireturn, 1) := by decide +kernel
theorem dX10_tableHours_0 : decode cX10_tableHours 0 = .ok (.aload_n 0, 1) := by decide +kernel
theorem dX10_tableHours_1 : decode cX10_tableHours 1 = .ok (.getfield 16, 3) := by decide +kernel
theorem dX10_tableHours_4 : decode cX10_tableHours 4 = .ok (.aload_n 0, 1) := by decide +kernel
theorem dX10_tableHours_5 : decode cX10_tableHours 5 = .ok (.getfield 37, 3) := by decide +kernel
theorem dX10_tableHours_8 : decode cX10_tableHours 8 = .ok (.bipush 6, 2) := by decide +kernel
theorem dX10_tableHours_10 : decode cX10_tableHours 10 = .ok (.iload_n 1, 1) := by decide +kernel
theorem dX10_tableHours_11 : decode cX10_tableHours 11 = .ok (.imul, 1) := by decide +kernel
theorem dX10_tableHours_12 : decode cX10_tableHours 12 = .ok (.iload_n 2, 1) := by decide +kernel
theorem dX10_tableHours_13 : decode cX10_tableHours 13 = .ok (.iadd, 1) := by decide +kernel
theorem dX10_tableHours_14 : decode cX10_tableHours 14 = .ok (.iaload, 1) := by decide +kernel
theorem dX10_tableHours_15 : decode cX10_tableHours 15 = .ok (.iaload, 1) := by decide +kernel
theorem dX10_tableHours_16 : decode cX10_tableHours 16 = .ok (.aload_n 0, 1) := by decide +kernel
theorem dX10_tableHours_17 : decode cX10_tableHours 17 = .ok (.getfield 25, 3) := by decide +kernel
theorem dX10_tableHours_20 : decode cX10_tableHours 20 = .ok (.iload_n 1, 1) := by decide +kernel
theorem dX10_tableHours_21 : decode cX10_tableHours 21 = .ok (.iaload, 1) := by decide +kernel
theorem dX10_tableHours_22 : decode cX10_tableHours 22 = .ok (.invokestatic 250, 3) := by decide +kernel
theorem dX10_tableHours_25 : decode cX10_tableHours 25 = .ok (.ireturn, 1) := by decide +kernel
theorem dX10_dueLeave_0 : decode cX10_dueLeave 0 = .ok (.aload_n 0, 1) := by decide +kernel
theorem dX10_dueLeave_1 : decode cX10_dueLeave 1 = .ok (.getfield 31, 3) := by decide +kernel
theorem dX10_dueLeave_4 : decode cX10_dueLeave 4 = .ok (.iload_n 1, 1) := by decide +kernel
theorem dX10_dueLeave_5 : decode cX10_dueLeave 5 = .ok (.iaload, 1) := by decide +kernel
theorem dX10_dueLeave_6 : decode cX10_dueLeave 6 = .ok (.istore_n 3, 1) := by decide +kernel
theorem dX10_dueLeave_7 : decode cX10_dueLeave 7 = .ok (.iconst 0, 1) := by decide +kernel
theorem dX10_dueLeave_8 : decode cX10_dueLeave 8 = .ok (.istore 4, 2) := by decide +kernel
theorem dX10_dueLeave_10 : decode cX10_dueLeave 10 = .ok (.iload 4, 2) := by decide +kernel
theorem dX10_dueLeave_12 : decode cX10_dueLeave 12 = .ok (.iload_n 2, 1) := by decide +kernel
theorem dX10_dueLeave_13 : decode cX10_dueLeave 13 = .ok (.if_icmp .ge 26, 3) := by decide +kernel
theorem dX10_dueLeave_16 : decode cX10_dueLeave 16 = .ok (.iload_n 3, 1) := by decide +kernel
theorem dX10_dueLeave_17 : decode cX10_dueLeave 17 = .ok (.aload_n 0, 1) := by decide +kernel
theorem dX10_dueLeave_18 : decode cX10_dueLeave 18 = .ok (.iload_n 1, 1) := by decide +kernel
theorem dX10_dueLeave_19 : decode cX10_dueLeave 19 = .ok (.iload 4, 2) := by decide +kernel
theorem dX10_dueLeave_21 : decode cX10_dueLeave 21 = .ok (.invokevirtual 253, 3) := by decide +kernel
theorem dX10_dueLeave_24 : decode cX10_dueLeave 24 = .ok (.iadd, 1) := by decide +kernel
theorem dX10_dueLeave_25 : decode cX10_dueLeave 25 = .ok (.aload_n 0, 1) := by decide +kernel
theorem dX10_dueLeave_26 : decode cX10_dueLeave 26 = .ok (.getfield 28, 3) := by decide +kernel
theorem dX10_dueLeave_29 : decode cX10_dueLeave 29 = .ok (.iload_n 1, 1) := by decide +kernel
theorem dX10_dueLeave_30 : decode cX10_dueLeave 30 = .ok (.iaload, 1) := by decide +kernel
theorem dX10_dueLeave_31 : decode cX10_dueLeave 31 = .ok (.iadd, 1) := by decide +kernel
theorem dX10_dueLeave_32 : decode cX10_dueLeave 32 = .ok (.istore_n 3, 1) := by decide +kernel
theorem dX10_dueLeave_33 : decode cX10_dueLeave 33 = .ok (.iinc 4 1, 3) := by decide +kernel
theorem dX10_dueLeave_36 : decode cX10_dueLeave 36 = .ok (.goto (-26), 3) := by decide +kernel
theorem dX10_dueLeave_39 : decode cX10_dueLeave 39 = .ok (.iload_n 3, 1) := by decide +kernel
theorem dX10_dueLeave_40 : decode cX10_dueLeave 40 = .ok (.ireturn, 1) := by decide +kernel
theorem dX10_dueCome_0 : decode cX10_dueCome 0 = .ok (.aload_n 0, 1) := by decide +kernel
theorem dX10_dueCome_1 : decode cX10_dueCome 1 = .ok (.iload_n 1, 1) := by decide +kernel
theorem dX10_dueCome_2 : decode cX10_dueCome 2 = .ok (.iload_n 2, 1) := by decide +kernel
theorem dX10_dueCome_3 : decode cX10_dueCome 3 = .ok (.iconst 1, 1) := by decide +kernel
theorem dX10_dueCome_4 : decode cX10_dueCome 4 = .ok (.isub, 1) := by decide +kernel
theorem dX10_dueCome_5 : decode cX10_dueCome 5 = .ok (.invokevirtual 256, 3) := by decide +kernel
theorem dX10_dueCome_8 : decode cX10_dueCome 8 = .ok (.aload_n 0, 1) := by decide +kernel
theorem dX10_dueCome_9 : decode cX10_dueCome 9 = .ok (.iload_n 1, 1) := by decide +kernel
theorem dX10_dueCome_10 : decode cX10_dueCome 10 = .ok (.iload_n 2, 1) := by decide +kernel
theorem dX10_dueCome_11 : decode cX10_dueCome 11 = .ok (.iconst 1, 1) := by decide +kernel
theorem dX10_dueCome_12 : decode cX10_dueCome 12 = .ok (.isub, 1) := by decide +kernel
theorem dX10_dueCome_13 : decode cX10_dueCome 13 = .ok (.invokevirtual 253, 3) := by decide +kernel
theorem dX10_dueCome_16 : decode cX10_dueCome 16 = .ok (.iadd, 1) := by decide +kernel
theorem dX10_dueCome_17 : decode cX10_dueCome 17 = .ok (.ireturn, 1) := by decide +kernel
theorem dX10_due_0 : decode cX10_due 0 = .ok (.aload_n 0, 1) := by decide +kernel
theorem dX10_due_1 : decode cX10_due 1 = .ok (.iload_n 1, 1) := by decide +kernel
theorem dX10_due_2 : decode cX10_due 2 = .ok (.invokevirtual 169, 3) := by decide +kernel
theorem dX10_due_5 : decode cX10_due 5 = .ok (.ifCond .eq 17, 3) := by decide +kernel
theorem dX10_due_8 : decode cX10_due 8 = .ok (.iload_n 2, 1) := by decide +kernel
theorem dX10_due_9 : decode cX10_due 9 = .ok (.ifCond .lt 13, 3) := by decide +kernel
theorem dX10_due_12 : decode cX10_due 12 = .ok (.iload_n 2, 1) := by decide +kernel
theorem dX10_due_13 : decode cX10_due 13 = .ok (.aload_n 0, 1) := by decide +kernel
end
section
theorem dX10_due_14 : decode cX10_due 14 = .ok (.getfield 34, 3) := by decide +kernel
theorem dX10_due_17 : decode cX10_due 17 = .ok (.iload_n 1, 1) := by decide +kernel
theorem dX10_due_18 : decode cX10_due 18 = .ok (.iaload, 1) := by decide +kernel
theorem dX10_due_19 : decode cX10_due 19 = .ok (.if_icmp .le 5, 3) := by decide +kernel
theorem dX10_due_22 : decode cX10_due 22 = .ok (.iconst (-1), 1) := by decide +kernel
theorem dX10_due_23 : decode cX10_due 23 = .ok (.ireturn, 1) := by decide +kernel
theorem dX10_due_24 : decode cX10_due 24 = .ok (.iload_n 3, 1) := by decide +kernel
theorem dX10_due_25 : decode cX10_due 25 = .ok (.ifCond .ne 18, 3) := by decide +kernel
theorem dX10_due_28 : decode cX10_due 28 = .ok (.iload_n 2, 1) := by decide +kernel
theorem dX10_due_29 : decode cX10_due 29 = .ok (.ifCond .ne 7, 3) := by decide +kernel
theorem dX10_due_32 : decode cX10_due 32 = .ok (.iconst (-1), 1) := by decide +kernel
theorem dX10_due_33 : decode cX10_due 33 = .ok (.goto 9, 3) := by decide +kernel
theorem dX10_due_36 : decode cX10_due 36 = .ok (.aload_n 0, 1) := by decide +kernel
theorem dX10_due_37 : decode cX10_due 37 = .ok (.iload_n 1, 1) := by decide +kernel
theorem dX10_due_38 : decode cX10_due 38 = .ok (.iload_n 2, 1) := by decide +kernel
theorem dX10_due_39 : decode cX10_due 39 = .ok (.invokevirtual 259, 3) := by decide +kernel
theorem dX10_due_42 : decode cX10_due 42 = .ok (.ireturn, 1) := by decide +kernel
theorem dX10_due_43 : decode cX10_due 43 = .ok (.iload_n 3, 1) := by decide +kernel
theorem dX10_due_44 : decode cX10_due 44 = .ok (.iconst 1, 1) := by decide +kernel
theorem dX10_due_45 : decode cX10_due 45 = .ok (.if_icmp .ne 22, 3) := by decide +kernel
theorem dX10_due_48 : decode cX10_due 48 = .ok (.iload_n 2, 1) := by decide +kernel
theorem dX10_due_49 : decode cX10_due 49 = .ok (.aload_n 0, 1) := by decide +kernel
theorem dX10_due_50 : decode cX10_due 50 = .ok (.getfield 34, 3) := by decide +kernel
theorem dX10_due_53 : decode cX10_due 53 = .ok (.iload_n 1, 1) := by decide +kernel
theorem dX10_due_54 : decode cX10_due 54 = .ok (.iaload, 1) := by decide +kernel
theorem dX10_due_55 : decode cX10_due 55 = .ok (.if_icmp .ge 12, 3) := by decide +kernel
theorem dX10_due_58 : decode cX10_due 58 = .ok (.aload_n 0, 1) := by decide +kernel
theorem dX10_due_59 : decode cX10_due 59 = .ok (.iload_n 1, 1) := by decide +kernel
theorem dX10_due_60 : decode cX10_due 60 = .ok (.iload_n 2, 1) := by decide +kernel
theorem dX10_due_61 : decode cX10_due 61 = .ok (.invokevirtual 256, 3) := by decide +kernel
theorem dX10_due_64 : decode cX10_due 64 = .ok (.goto 4, 3) := by decide +kernel
theorem dX10_due_67 : decode cX10_due 67 = .ok (.iconst (-1), 1) := by decide +kernel
theorem dX10_due_68 : decode cX10_due 68 = .ok (.ireturn, 1) := by decide +kernel
theorem dX10_month_0 : decode cX10_month 0 = .ok (.iload_n 0, 1) := by decide +kernel
theorem dX10_month_1 : decode cX10_month 1 = .ok (.sipush 720, 3) := by decide +kernel
theorem dX10_month_4 : decode cX10_month 4 = .ok (.idiv, 1) := by decide +kernel
theorem dX10_month_5 : decode cX10_month 5 = .ok (.bipush 12, 2) := by decide +kernel
theorem dX10_month_7 : decode cX10_month 7 = .ok (.irem, 1) := by decide +kernel
theorem dX10_month_8 : decode cX10_month 8 = .ok (.ireturn, 1) := by decide +kernel
theorem dX10_windIn_0 : decode cX10_windIn 0 = .ok (.aload_n 0, 1) := by decide +kernel
theorem dX10_windIn_1 : decode cX10_windIn 1 = .ok (.getfield 19, 3) := by decide +kernel
theorem dX10_windIn_4 : decode cX10_windIn 4 = .ok (.bipush 12, 2) := by decide +kernel
theorem dX10_windIn_6 : decode cX10_windIn 6 = .ok (.aload_n 0, 1) := by decide +kernel
theorem dX10_windIn_7 : decode cX10_windIn 7 = .ok (.getfield 37, 3) := by decide +kernel
theorem dX10_windIn_10 : decode cX10_windIn 10 = .ok (.bipush 6, 2) := by decide +kernel
theorem dX10_windIn_12 : decode cX10_windIn 12 = .ok (.iload_n 1, 1) := by decide +kernel
theorem dX10_windIn_13 : decode cX10_windIn 13 = .ok (.imul, 1) := by decide +kernel
theorem dX10_windIn_14 : decode cX10_windIn 14 = .ok (.iload_n 2, 1) := by decide +kernel
theorem dX10_windIn_15 : decode cX10_windIn 15 = .ok (.iadd, 1) := by decide +kernel
theorem dX10_windIn_16 : decode cX10_windIn 16 = .ok (.iaload, 1) := by decide +kernel
theorem dX10_windIn_17 : decode cX10_windIn 17 = .ok (.imul, 1) := by decide +kernel
theorem dX10_windIn_18 : decode cX10_windIn 18 = .ok (.iload_n 3, 1) := by decide +kernel
theorem dX10_windIn_19 : decode cX10_windIn 19 = .ok (.invokestatic 262, 3) := by decide +kernel
theorem dX10_windIn_22 : decode cX10_windIn 22 = .ok (.iadd, 1) := by decide +kernel
theorem dX10_windIn_23 : decode cX10_windIn 23 = .ok (.iaload, 1) := by decide +kernel
theorem dX10_windIn_24 : decode cX10_windIn 24 = .ok (.ireturn, 1) := by decide +kernel
theorem dX10_waits_0 : decode cX10_waits 0 = .ok (.aload_n 0, 1) := by decide +kernel
theorem dX10_waits_1 : decode cX10_waits 1 = .ok (.iload_n 1, 1) := by decide +kernel
theorem dX10_waits_2 : decode cX10_waits 2 = .ok (.aload_n 0, 1) := by decide +kernel
theorem dX10_waits_3 : decode cX10_waits 3 = .ok (.getfield 124, 3) := by decide +kernel
theorem dX10_waits_6 : decode cX10_waits 6 = .ok (.iload_n 1, 1) := by decide +kernel
theorem dX10_waits_7 : decode cX10_waits 7 = .ok (.iaload, 1) := by decide +kernel
theorem dX10_waits_8 : decode cX10_waits 8 = .ok (.invokevirtual 175, 3) := by decide +kernel
theorem dX10_waits_11 : decode cX10_waits 11 = .ok (.istore_n 3, 1) := by decide +kernel
theorem dX10_waits_12 : decode cX10_waits 12 = .ok (.iload_n 3, 1) := by decide +kernel
theorem dX10_waits_13 : decode cX10_waits 13 = .ok (.iconst (-1), 1) := by decide +kernel
theorem dX10_waits_14 : decode cX10_waits 14 = .ok (.if_icmp .ne 5, 3) := by decide +kernel
theorem dX10_waits_17 : decode cX10_waits 17 = .ok (.iconst 0, 1) := by decide +kernel
theorem dX10_waits_18 : decode cX10_waits 18 = .ok (.ireturn, 1) := by decide +kernel
theorem dX10_waits_19 : decode cX10_waits 19 = .ok (.aload_n 0, 1) := by decide +kernel
theorem dX10_waits_20 : decode cX10_waits 20 = .ok (.getfield 52, 3) := by decide +kernel
theorem dX10_waits_23 : decode cX10_waits 23 = .ok (.iload_n 3, 1) := by decide +kernel
theorem dX10_waits_24 : decode cX10_waits 24 = .ok (.iaload, 1) := by decide +kernel
theorem dX10_waits_25 : decode cX10_waits 25 = .ok (.istore 4, 2) := by decide +kernel
theorem dX10_waits_27 : decode cX10_waits 27 = .ok (.aload_n 0, 1) := by decide +kernel
theorem dX10_waits_28 : decode cX10_waits 28 = .ok (.getfield 109, 3) := by decide +kernel
theorem dX10_waits_31 : decode cX10_waits 31 = .ok (.bipush 7, 2) := by decide +kernel
theorem dX10_waits_33 : decode cX10_waits 33 = .ok (.iload 4, 2) := by decide +kernel
theorem dX10_waits_35 : decode cX10_waits 35 = .ok (.imul, 1) := by decide +kernel
theorem dX10_waits_36 : decode cX10_waits 36 = .ok (.aload_n 0, 1) := by decide +kernel
theorem dX10_waits_37 : decode cX10_waits 37 = .ok (.getfield 55, 3) := by decide +kernel
theorem dX10_waits_40 : decode cX10_waits 40 = .ok (.iload_n 3, 1) := by decide +kernel
theorem dX10_waits_41 : decode cX10_waits 41 = .ok (.iaload, 1) := by decide +kernel
theorem dX10_waits_42 : decode cX10_waits 42 = .ok (.iadd, 1) := by decide +kernel
theorem dX10_waits_43 : decode cX10_waits 43 = .ok (.iaload, 1) := by decide +kernel
theorem dX10_waits_44 : decode cX10_waits 44 = .ok (.istore 5, 2) := by decide +kernel
theorem dX10_waits_46 : decode cX10_waits 46 = .ok (.iload 5, 2) := by decide +kernel
theorem dX10_waits_48 : decode cX10_waits 48 = .ok (.iconst (-1), 1) := by decide +kernel
theorem dX10_waits_49 : decode cX10_waits 49 = .ok (.if_icmp .eq 11, 3) := by decide +kernel
theorem dX10_waits_52 : decode cX10_waits 52 = .ok (.iload 5, 2) := by decide +kernel
theorem dX10_waits_54 : decode cX10_waits 54 = .ok (.iload_n 2, 1) := by decide +kernel
theorem dX10_waits_55 : decode cX10_waits 55 = .ok (.if_icmp .gt 5, 3) := by decide +kernel
theorem dX10_waits_58 : decode cX10_waits 58 = .ok (.iconst 0, 1) := by decide +kernel
theorem dX10_waits_59 : decode cX10_waits 59 = .ok (.ireturn, 1) := by decide +kernel
theorem dX10_waits_60 : decode cX10_waits 60 = .ok (.aload_n 0, 1) := by decide +kernel
theorem dX10_waits_61 : decode cX10_waits 61 = .ok (.getfield 102, 3) := by decide +kernel
theorem dX10_waits_64 : decode cX10_waits 64 = .ok (.iconst 0, 1) := by decide +kernel
theorem dX10_waits_65 : decode cX10_waits 65 = .ok (.iload_n 2, 1) := by decide +kernel
theorem dX10_waits_66 : decode cX10_waits 66 = .ok (.aload_n 0, 1) := by decide +kernel
theorem dX10_waits_67 : decode cX10_waits 67 = .ok (.iload 4, 2) := by decide +kernel
theorem dX10_waits_69 : decode cX10_waits 69 = .ok (.aload_n 0, 1) := by decide +kernel
theorem dX10_waits_70 : decode cX10_waits 70 = .ok (.getfield 55, 3) := by decide +kernel
theorem dX10_waits_73 : decode cX10_waits 73 = .ok (.iload_n 3, 1) := by decide +kernel
theorem dX10_waits_74 : decode cX10_waits 74 = .ok (.iaload, 1) := by decide +kernel
theorem dX10_waits_75 : decode cX10_waits 75 = .ok (.invokevirtual 259, 3) := by decide +kernel
theorem dX10_waits_78 : decode cX10_waits 78 = .ok (.isub, 1) := by decide +kernel
theorem dX10_waits_79 : decode cX10_waits 79 = .ok (.iastore, 1) := by decide +kernel
theorem dX10_waits_80 : decode cX10_waits 80 = .ok (.aload_n 0, 1) := by decide +kernel
theorem dX10_waits_81 : decode cX10_waits 81 = .ok (.getfield 102, 3) := by decide +kernel
theorem dX10_waits_84 : decode cX10_waits 84 = .ok (.iconst 1, 1) := by decide +kernel
theorem dX10_waits_85 : decode cX10_waits 85 = .ok (.iload_n 2, 1) := by decide +kernel
theorem dX10_waits_86 : decode cX10_waits 86 = .ok (.aload_n 0, 1) := by decide +kernel
theorem dX10_waits_87 : decode cX10_waits 87 = .ok (.getfield 127, 3) := by decide +kernel
theorem dX10_waits_90 : decode cX10_waits 90 = .ok (.iload_n 1, 1) := by decide +kernel
theorem dX10_waits_91 : decode cX10_waits 91 = .ok (.iaload, 1) := by decide +kernel
theorem dX10_waits_92 : decode cX10_waits 92 = .ok (.isub, 1) := by decide +kernel
theorem dX10_waits_93 : decode cX10_waits 93 = .ok (.iastore, 1) := by decide +kernel
theorem dX10_waits_94 : decode cX10_waits 94 = .ok (.aload_n 0, 1) := by decide +kernel
theorem dX10_waits_95 : decode cX10_waits 95 = .ok (.getfield 102, 3) := by decide +kernel
theorem dX10_waits_98 : decode cX10_waits 98 = .ok (.iconst 2, 1) := by decide +kernel
theorem dX10_waits_99 : decode cX10_waits 99 = .ok (.aload_n 0, 1) := by decide +kernel
theorem dX10_waits_100 : decode cX10_waits 100 = .ok (.iload_n 1, 1) := by decide +kernel
theorem dX10_waits_101 : decode cX10_waits 101 = .ok (.aload_n 0, 1) := by decide +kernel
theorem dX10_waits_102 : decode cX10_waits 102 = .ok (.getfield 124, 3) := by decide +kernel
theorem dX10_waits_105 : decode cX10_waits 105 = .ok (.iload_n 1, 1) := by decide +kernel
theorem dX10_waits_106 : decode cX10_waits 106 = .ok (.iaload, 1) := by decide +kernel
theorem dX10_waits_107 : decode cX10_waits 107 = .ok (.iload_n 2, 1) := by decide +kernel
theorem dX10_waits_108 : decode cX10_waits 108 = .ok (.invokevirtual 265, 3) := by decide +kernel
theorem dX10_waits_111 : decode cX10_waits 111 = .ok (.iastore, 1) := by decide +kernel
theorem dX10_waits_112 : decode cX10_waits 112 = .ok (.aload_n 0, 1) := by decide +kernel
theorem dX10_waits_113 : decode cX10_waits 113 = .ok (.getfield 102, 3) := by decide +kernel
theorem dX10_waits_116 : decode cX10_waits 116 = .ok (.iconst 3, 1) := by decide +kernel
theorem dX10_waits_117 : decode cX10_waits 117 = .ok (.aload_n 0, 1) := by decide +kernel
theorem dX10_waits_118 : decode cX10_waits 118 = .ok (.getfield 40, 3) := by decide +kernel
theorem dX10_waits_121 : decode cX10_waits 121 = .ok (.bipush 6, 2) := by decide +kernel
theorem dX10_waits_123 : decode cX10_waits 123 = .ok (.iload_n 1, 1) := by decide +kernel
theorem dX10_waits_124 : decode cX10_waits 124 = .ok (.imul, 1) := by decide +kernel
theorem dX10_waits_125 : decode cX10_waits 125 = .ok (.aload_n 0, 1) := by decide +kernel
theorem dX10_waits_126 : decode cX10_waits 126 = .ok (.getfield 124, 3) := by decide +kernel
theorem dX10_waits_129 : decode cX10_waits 129 = .ok (.iload_n 1, 1) := by decide +kernel
theorem dX10_waits_130 : decode cX10_waits 130 = .ok (.iaload, 1) := by decide +kernel
theorem dX10_waits_131 : decode cX10_waits 131 = .ok (.iadd, 1) := by decide +kernel
theorem dX10_waits_132 : decode cX10_waits 132 = .ok (.iaload, 1) := by decide +kernel
theorem dX10_waits_133 : decode cX10_waits 133 = .ok (.iastore, 1) := by decide +kernel
theorem dX10_waits_134 : decode cX10_waits 134 = .ok (.aload_n 0, 1) := by decide +kernel
theorem dX10_waits_135 : decode cX10_waits 135 = .ok (.getfield 102, 3) := by decide +kernel
theorem dX10_waits_138 : decode cX10_waits 138 = .ok (.iconst 4, 1) := by decide +kernel
theorem dX10_waits_139 : decode cX10_waits 139 = .ok (.iload_n 2, 1) := by decide +kernel
theorem dX10_waits_140 : decode cX10_waits 140 = .ok (.invokestatic 262, 3) := by decide +kernel
theorem dX10_waits_143 : decode cX10_waits 143 = .ok (.iastore, 1) := by decide +kernel
theorem dX10_waits_144 : decode cX10_waits 144 = .ok (.aload_n 0, 1) := by decide +kernel
theorem dX10_waits_145 : decode cX10_waits 145 = .ok (.getfield 22, 3) := by decide +kernel
theorem dX10_waits_148 : decode cX10_waits 148 = .ok (.iload_n 1, 1) := by decide +kernel
theorem dX10_waits_149 : decode cX10_waits 149 = .ok (.iaload, 1) := by decide +kernel
theorem dX10_waits_150 : decode cX10_waits 150 = .ok (.istore 6, 2) := by decide +kernel
theorem dX10_waits_152 : decode cX10_waits 152 = .ok (.bipush 12, 2) := by decide +kernel
theorem dX10_waits_154 : decode cX10_waits 154 = .ok (.iload 6, 2) := by decide +kernel
theorem dX10_waits_156 : decode cX10_waits 156 = .ok (.imul, 1) := by decide +kernel
theorem dX10_waits_157 : decode cX10_waits 157 = .ok (.istore 7, 2) := by decide +kernel
theorem dX10_waits_159 : decode cX10_waits 159 = .ok (.iload 7, 2) := by decide +kernel
theorem dX10_waits_161 : decode cX10_waits 161 = .ok (.bipush 12, 2) := by decide +kernel
theorem dX10_waits_163 : decode cX10_waits 163 = .ok (.iload 6, 2) := by decide +kernel
theorem dX10_waits_165 : decode cX10_waits 165 = .ok (.imul, 1) := by decide +kernel
theorem dX10_waits_166 : decode cX10_waits 166 = .ok (.aload_n 0, 1) := by decide +kernel
theorem dX10_waits_167 : decode cX10_waits 167 = .ok (.getfield 66, 3) := by decide +kernel
theorem dX10_waits_170 : decode cX10_waits 170 = .ok (.iload 6, 2) := by decide +kernel
theorem dX10_waits_172 : decode cX10_waits 172 = .ok (.iaload, 1) := by decide +kernel
theorem dX10_waits_173 : decode cX10_waits 173 = .ok (.iadd, 1) := by decide +kernel
theorem dX10_waits_174 : decode cX10_waits 174 = .ok (.if_icmp .ge 62, 3) := by decide +kernel
theorem dX10_waits_177 : decode cX10_waits 177 = .ok (.aload_n 0, 1) := by decide +kernel
theorem dX10_waits_178 : decode cX10_waits 178 = .ok (.getfield 75, 3) := by decide +kernel
theorem dX10_waits_181 : decode cX10_waits 181 = .ok (.iload 7, 2) := by decide +kernel
theorem dX10_waits_183 : decode cX10_waits 183 = .ok (.iaload, 1) := by decide +kernel
theorem dX10_waits_184 : decode cX10_waits 184 = .ok (.bipush 87, 2) := by decide +kernel
theorem dX10_waits_186 : decode cX10_waits 186 = .ok (.if_icmp .ne 44, 3) := by decide +kernel
theorem dX10_waits_189 : decode cX10_waits 189 = .ok (.aload_n 0, 1) := by decide +kernel
theorem dX10_waits_190 : decode cX10_waits 190 = .ok (.getfield 78, 3) := by decide +kernel
theorem dX10_waits_193 : decode cX10_waits 193 = .ok (.iload 7, 2) := by decide +kernel
theorem dX10_waits_195 : decode cX10_waits 195 = .ok (.iaload, 1) := by decide +kernel
theorem dX10_waits_196 : decode cX10_waits 196 = .ok (.aload_n 0, 1) := by decide +kernel
theorem dX10_waits_197 : decode cX10_waits 197 = .ok (.getfield 102, 3) := by decide +kernel
theorem dX10_waits_200 : decode cX10_waits 200 = .ok (.iconst 1, 1) := by decide +kernel
theorem dX10_waits_201 : decode cX10_waits 201 = .ok (.iaload, 1) := by decide +kernel
theorem dX10_waits_202 : decode cX10_waits 202 = .ok (.if_icmp .le 28, 3) := by decide +kernel
theorem dX10_waits_205 : decode cX10_waits 205 = .ok (.aload_n 0, 1) := by decide +kernel
theorem dX10_waits_206 : decode cX10_waits 206 = .ok (.iload 6, 2) := by decide +kernel
theorem dX10_waits_208 : decode cX10_waits 208 = .ok (.aload_n 0, 1) := by decide +kernel
theorem dX10_waits_209 : decode cX10_waits 209 = .ok (.getfield 81, 3) := by decide +kernel
theorem dX10_waits_212 : decode cX10_waits 212 = .ok (.iload 7, 2) := by decide +kernel
theorem dX10_waits_214 : decode cX10_waits 214 = .ok (.iaload, 1) := by decide +kernel
theorem dX10_waits_215 : decode cX10_waits 215 = .ok (.aload_n 0, 1) := by decide +kernel
theorem dX10_waits_216 : decode cX10_waits 216 = .ok (.getfield 84, 3) := by decide +kernel
theorem dX10_waits_219 : decode cX10_waits 219 = .ok (.iload 7, 2) := by decide +kernel
theorem dX10_waits_221 : decode cX10_waits 221 = .ok (.iaload, 1) := by decide +kernel
theorem dX10_waits_222 : decode cX10_waits 222 = .ok (.invokevirtual 269, 3) := by decide +kernel
theorem dX10_waits_225 : decode cX10_waits 225 = .ok (.ifCond .eq 5, 3) := by decide +kernel
theorem dX10_waits_228 : decode cX10_waits 228 = .ok (.iconst 1, 1) := by decide +kernel
theorem dX10_waits_229 : decode cX10_waits 229 = .ok (.ireturn, 1) := by decide +kernel
theorem dX10_waits_230 : decode cX10_waits 230 = .ok (.iinc 7 1, 3) := by decide +kernel
theorem dX10_waits_233 : decode cX10_waits 233 = .ok (.goto (-74), 3) := by decide +kernel
theorem dX10_waits_236 : decode cX10_waits 236 = .ok (.iconst 0, 1) := by decide +kernel
theorem dX10_waits_237 : decode cX10_waits 237 = .ok (.ireturn, 1) := by decide +kernel
theorem dX10_sails_0 : decode cX10_sails 0 = .ok (.bipush 7, 2) := by decide +kernel
theorem dX10_sails_2 : decode cX10_sails 2 = .ok (.iload_n 1, 1) := by decide +kernel
theorem dX10_sails_3 : decode cX10_sails 3 = .ok (.imul, 1) := by decide +kernel
theorem dX10_sails_4 : decode cX10_sails 4 = .ok (.aload_n 0, 1) := by decide +kernel
theorem dX10_sails_5 : decode cX10_sails 5 = .ok (.getfield 124, 3) := by decide +kernel
theorem dX10_sails_8 : decode cX10_sails 8 = .ok (.iload_n 1, 1) := by decide +kernel
theorem dX10_sails_9 : decode cX10_sails 9 = .ok (.iaload, 1) := by decide +kernel
theorem dX10_sails_10 : decode cX10_sails 10 = .ok (.iadd, 1) := by decide +kernel
theorem dX10_sails_11 : decode cX10_sails 11 = .ok (.istore_n 3, 1) := by decide +kernel
theorem dX10_sails_12 : decode cX10_sails 12 = .ok (.aload_n 0, 1) := by decide +kernel
theorem dX10_sails_13 : decode cX10_sails 13 = .ok (.getfield 112, 3) := by decide +kernel
theorem dX10_sails_16 : decode cX10_sails 16 = .ok (.iload_n 3, 1) := by decide +kernel
theorem dX10_sails_17 : decode cX10_sails 17 = .ok (.iload_n 2, 1) := by decide +kernel
theorem dX10_sails_18 : decode cX10_sails 18 = .ok (.iastore, 1) := by decide +kernel
theorem dX10_sails_19 : decode cX10_sails 19 = .ok (.aload_n 0, 1) := by decide +kernel
theorem dX10_sails_20 : decode cX10_sails 20 = .ok (.getfield 115, 3) := by decide +kernel
theorem dX10_sails_23 : decode cX10_sails 23 = .ok (.iload_n 3, 1) := by decide +kernel
theorem dX10_sails_24 : decode cX10_sails 24 = .ok (.iload_n 2, 1) := by decide +kernel
theorem dX10_sails_25 : decode cX10_sails 25 = .ok (.aload_n 0, 1) := by decide +kernel
theorem dX10_sails_26 : decode cX10_sails 26 = .ok (.getfield 127, 3) := by decide +kernel
theorem dX10_sails_29 : decode cX10_sails 29 = .ok (.iload_n 1, 1) := by decide +kernel
theorem dX10_sails_30 : decode cX10_sails 30 = .ok (.iaload, 1) := by decide +kernel
theorem dX10_sails_31 : decode cX10_sails 31 = .ok (.isub, 1) := by decide +kernel
theorem dX10_sails_32 : decode cX10_sails 32 = .ok (.iastore, 1) := by decide +kernel
theorem dX10_sails_33 : decode cX10_sails 33 = .ok (.aload_n 0, 1) := by decide +kernel
theorem dX10_sails_34 : decode cX10_sails 34 = .ok (.getfield 133, 3) := by decide +kernel
theorem dX10_sails_37 : decode cX10_sails 37 = .ok (.iload_n 1, 1) := by decide +kernel
theorem dX10_sails_38 : decode cX10_sails 38 = .ok (.iconst 1, 1) := by decide +kernel
theorem dX10_sails_39 : decode cX10_sails 39 = .ok (.bastore, 1) := by decide +kernel
theorem dX10_sails_40 : decode cX10_sails 40 = .ok (.aload_n 0, 1) := by decide +kernel
theorem dX10_sails_41 : decode cX10_sails 41 = .ok (.getfield 25, 3) := by decide +kernel
theorem dX10_sails_44 : decode cX10_sails 44 = .ok (.iload_n 1, 1) := by decide +kernel
theorem dX10_sails_45 : decode cX10_sails 45 = .ok (.iaload, 1) := by decide +kernel
theorem dX10_sails_46 : decode cX10_sails 46 = .ok (.bipush 100, 2) := by decide +kernel
theorem dX10_sails_48 : decode cX10_sails 48 = .ok (.aload_n 0, 1) := by decide +kernel
theorem dX10_sails_49 : decode cX10_sails 49 = .ok (.iload_n 1, 1) := by decide +kernel
theorem dX10_sails_50 : decode cX10_sails 50 = .ok (.aload_n 0, 1) := by decide +kernel
theorem dX10_sails_51 : decode cX10_sails 51 = .ok (.getfield 124, 3) := by decide +kernel
theorem dX10_sails_54 : decode cX10_sails 54 = .ok (.iload_n 1, 1) := by decide +kernel
theorem dX10_sails_55 : decode cX10_sails 55 = .ok (.iaload, 1) := by decide +kernel
theorem dX10_sails_56 : decode cX10_sails 56 = .ok (.iload_n 2, 1) := by decide +kernel
theorem dX10_sails_57 : decode cX10_sails 57 = .ok (.invokevirtual 265, 3) := by decide +kernel
theorem dX10_sails_60 : decode cX10_sails 60 = .ok (.iadd, 1) := by decide +kernel
theorem dX10_sails_61 : decode cX10_sails 61 = .ok (.imul, 1) := by decide +kernel
theorem dX10_sails_62 : decode cX10_sails 62 = .ok (.istore 4, 2) := by decide +kernel
theorem dX10_sails_64 : decode cX10_sails 64 = .ok (.aload_n 0, 1) := by decide +kernel
theorem dX10_sails_65 : decode cX10_sails 65 = .ok (.getfield 130, 3) := by decide +kernel
theorem dX10_sails_68 : decode cX10_sails 68 = .ok (.iload_n 1, 1) := by decide +kernel
theorem dX10_sails_69 : decode cX10_sails 69 = .ok (.iload_n 2, 1) := by decide +kernel
theorem dX10_sails_70 : decode cX10_sails 70 = .ok (.bipush 100, 2) := by decide +kernel
theorem dX10_sails_72 : decode cX10_sails 72 = .ok (.aload_n 0, 1) := by decide +kernel
theorem dX10_sails_73 : decode cX10_sails 73 = .ok (.getfield 16, 3) := by decide +kernel
theorem dX10_sails_76 : decode cX10_sails 76 = .ok (.aload_n 0, 1) := by decide +kernel
theorem dX10_sails_77 : decode cX10_sails 77 = .ok (.getfield 37, 3) := by decide +kernel
theorem dX10_sails_80 : decode cX10_sails 80 = .ok (.bipush 6, 2) := by decide +kernel
theorem dX10_sails_82 : decode cX10_sails 82 = .ok (.iload_n 1, 1) := by decide +kernel
theorem dX10_sails_83 : decode cX10_sails 83 = .ok (.imul, 1) := by decide +kernel
theorem dX10_sails_84 : decode cX10_sails 84 = .ok (.aload_n 0, 1) := by decide +kernel
theorem dX10_sails_85 : decode cX10_sails 85 = .ok (.getfield 124, 3) := by decide +kernel
theorem dX10_sails_88 : decode cX10_sails 88 = .ok (.iload_n 1, 1) := by decide +kernel
theorem dX10_sails_89 : decode cX10_sails 89 = .ok (.iaload, 1) := by decide +kernel
theorem dX10_sails_90 : decode cX10_sails 90 = .ok (.iadd, 1) := by decide +kernel
theorem dX10_sails_91 : decode cX10_sails 91 = .ok (.iaload, 1) := by decide +kernel
theorem dX10_sails_92 : decode cX10_sails 92 = .ok (.iaload, 1) := by decide +kernel
theorem dX10_sails_93 : decode cX10_sails 93 = .ok (.imul, 1) := by decide +kernel
theorem dX10_sails_94 : decode cX10_sails 94 = .ok (.iload 4, 2) := by decide +kernel
theorem dX10_sails_96 : decode cX10_sails 96 = .ok (.invokestatic 250, 3) := by decide +kernel
theorem dX10_sails_99 : decode cX10_sails 99 = .ok (.iadd, 1) := by decide +kernel
theorem dX10_sails_100 : decode cX10_sails 100 = .ok (.aload_n 0, 1) := by decide +kernel
theorem dX10_sails_101 : decode cX10_sails 101 = .ok (.getfield 40, 3) := by decide +kernel
theorem dX10_sails_104 : decode cX10_sails 104 = .ok (.bipush 6, 2) := by decide +kernel
theorem dX10_sails_106 : decode cX10_sails 106 = .ok (.iload_n 1, 1) := by decide +kernel
theorem dX10_sails_107 : decode cX10_sails 107 = .ok (.imul, 1) := by decide +kernel
theorem dX10_sails_108 : decode cX10_sails 108 = .ok (.aload_n 0, 1) := by decide +kernel
theorem dX10_sails_109 : decode cX10_sails 109 = .ok (.getfield 124, 3) := by decide +kernel
theorem dX10_sails_112 : decode cX10_sails 112 = .ok (.iload_n 1, 1) := by decide +kernel
theorem dX10_sails_113 : decode cX10_sails 113 = .ok (.iaload, 1) := by decide +kernel
theorem dX10_sails_114 : decode cX10_sails 114 = .ok (.iadd, 1) := by decide +kernel
theorem dX10_sails_115 : decode cX10_sails 115 = .ok (.iaload, 1) := by decide +kernel
theorem dX10_sails_116 : decode cX10_sails 116 = .ok (.iadd, 1) := by decide +kernel
theorem dX10_sails_117 : decode cX10_sails 117 = .ok (.iastore, 1) := by decide +kernel
theorem dX10_sails_118 : decode cX10_sails 118 = .ok (.return_, 1) := by decide +kernel
theorem dX10_isExcused_0 : decode cX10_isExcused 0 = .ok (.bipush 7, 2) := by decide +kernel
theorem dX10_isExcused_2 : decode cX10_isExcused 2 = .ok (.iload_n 1, 1) := by decide +kernel
theorem dX10_isExcused_3 : decode cX10_isExcused 3 = .ok (.imul, 1) := by decide +kernel
theorem dX10_isExcused_4 : decode cX10_isExcused 4 = .ok (.iload_n 2, 1) := by decide +kernel
theorem dX10_isExcused_5 : decode cX10_isExcused 5 = .ok (.iadd, 1) := by decide +kernel
theorem dX10_isExcused_6 : decode cX10_isExcused 6 = .ok (.iconst 1, 1) := by decide +kernel
theorem dX10_isExcused_7 : decode cX10_isExcused 7 = .ok (.isub, 1) := by decide +kernel
theorem dX10_isExcused_8 : decode cX10_isExcused 8 = .ok (.istore 4, 2) := by decide +kernel
theorem dX10_isExcused_10 : decode cX10_isExcused 10 = .ok (.iload_n 3, 1) := by decide +kernel
theorem dX10_isExcused_11 : decode cX10_isExcused 11 = .ok (.aload_n 0, 1) := by decide +kernel
theorem dX10_isExcused_12 : decode cX10_isExcused 12 = .ok (.iload_n 1, 1) := by decide +kernel
theorem dX10_isExcused_13 : decode cX10_isExcused 13 = .ok (.iload_n 2, 1) := by decide +kernel
theorem dX10_isExcused_14 : decode cX10_isExcused 14 = .ok (.invokevirtual 259, 3) := by decide +kernel
theorem dX10_isExcused_17 : decode cX10_isExcused 17 = .ok (.isub, 1) := by decide +kernel
theorem dX10_isExcused_18 : decode cX10_isExcused 18 = .ok (.istore 5, 2) := by decide +kernel
theorem dX10_isExcused_20 : decode cX10_isExcused 20 = .ok (.aload_n 0, 1) := by decide +kernel
theorem dX10_isExcused_21 : decode cX10_isExcused 21 = .ok (.getfield 102, 3) := by decide +kernel
theorem dX10_isExcused_24 : decode cX10_isExcused 24 = .ok (.iconst 0, 1) := by decide +kernel
theorem dX10_isExcused_25 : decode cX10_isExcused 25 = .ok (.iload 5, 2) := by decide +kernel
theorem dX10_isExcused_27 : decode cX10_isExcused 27 = .ok (.ifCond .le 8, 3) := by decide +kernel
theorem dX10_isExcused_30 : decode cX10_isExcused 30 = .ok (.iload 5, 2) := by decide +kernel
theorem dX10_isExcused_32 : decode cX10_isExcused 32 = .ok (.goto 4, 3) := by decide +kernel
theorem dX10_isExcused_35 : decode cX10_isExcused 35 = .ok (.iconst 0, 1) := by decide +kernel
theorem dX10_isExcused_36 : decode cX10_isExcused 36 = .ok (.iastore, 1) := by decide +kernel
theorem dX10_isExcused_37 : decode cX10_isExcused 37 = .ok (.aload_n 0, 1) := by decide +kernel
theorem dX10_isExcused_38 : decode cX10_isExcused 38 = .ok (.getfield 102, 3) := by decide +kernel
theorem dX10_isExcused_41 : decode cX10_isExcused 41 = .ok (.iconst 1, 1) := by decide +kernel
theorem dX10_isExcused_42 : decode cX10_isExcused 42 = .ok (.aload_n 0, 1) := by decide +kernel
theorem dX10_isExcused_43 : decode cX10_isExcused 43 = .ok (.getfield 115, 3) := by decide +kernel
theorem dX10_isExcused_46 : decode cX10_isExcused 46 = .ok (.iload 4, 2) := by decide +kernel
theorem dX10_isExcused_48 : decode cX10_isExcused 48 = .ok (.iaload, 1) := by decide +kernel
theorem dX10_isExcused_49 : decode cX10_isExcused 49 = .ok (.iastore, 1) := by decide +kernel
theorem dX10_isExcused_50 : decode cX10_isExcused 50 = .ok (.aload_n 0, 1) := by decide +kernel
theorem dX10_isExcused_51 : decode cX10_isExcused 51 = .ok (.getfield 102, 3) := by decide +kernel
theorem dX10_isExcused_54 : decode cX10_isExcused 54 = .ok (.iconst 2, 1) := by decide +kernel
theorem dX10_isExcused_55 : decode cX10_isExcused 55 = .ok (.aload_n 0, 1) := by decide +kernel
theorem dX10_isExcused_56 : decode cX10_isExcused 56 = .ok (.iload_n 1, 1) := by decide +kernel
theorem dX10_isExcused_57 : decode cX10_isExcused 57 = .ok (.iload_n 2, 1) := by decide +kernel
theorem dX10_isExcused_58 : decode cX10_isExcused 58 = .ok (.iconst 1, 1) := by decide +kernel
theorem dX10_isExcused_59 : decode cX10_isExcused 59 = .ok (.isub, 1) := by decide +kernel
theorem dX10_isExcused_60 : decode cX10_isExcused 60 = .ok (.aload_n 0, 1) := by decide +kernel
theorem dX10_isExcused_61 : decode cX10_isExcused 61 = .ok (.getfield 112, 3) := by decide +kernel
theorem dX10_isExcused_64 : decode cX10_isExcused 64 = .ok (.iload 4, 2) := by decide +kernel
theorem dX10_isExcused_66 : decode cX10_isExcused 66 = .ok (.iaload, 1) := by decide +kernel
theorem dX10_isExcused_67 : decode cX10_isExcused 67 = .ok (.invokevirtual 265, 3) := by decide +kernel
theorem dX10_isExcused_70 : decode cX10_isExcused 70 = .ok (.iastore, 1) := by decide +kernel
theorem dX10_isExcused_71 : decode cX10_isExcused 71 = .ok (.aload_n 0, 1) := by decide +kernel
theorem dX10_isExcused_72 : decode cX10_isExcused 72 = .ok (.getfield 102, 3) := by decide +kernel
theorem dX10_isExcused_75 : decode cX10_isExcused 75 = .ok (.iconst 3, 1) := by decide +kernel
theorem dX10_isExcused_76 : decode cX10_isExcused 76 = .ok (.aload_n 0, 1) := by decide +kernel
theorem dX10_isExcused_77 : decode cX10_isExcused 77 = .ok (.getfield 40, 3) := by decide +kernel
theorem dX10_isExcused_80 : decode cX10_isExcused 80 = .ok (.bipush 6, 2) := by decide +kernel
theorem dX10_isExcused_82 : decode cX10_isExcused 82 = .ok (.iload_n 1, 1) := by decide +kernel
theorem dX10_isExcused_83 : decode cX10_isExcused 83 = .ok (.imul, 1) := by decide +kernel
theorem dX10_isExcused_84 : decode cX10_isExcused 84 = .ok (.iload_n 2, 1) := by decide +kernel
theorem dX10_isExcused_85 : decode cX10_isExcused 85 = .ok (.iadd, 1) := by decide +kernel
theorem dX10_isExcused_86 : decode cX10_isExcused 86 = .ok (.iconst 1, 1) := by decide +kernel
theorem dX10_isExcused_87 : decode cX10_isExcused 87 = .ok (.isub, 1) := by decide +kernel
theorem dX10_isExcused_88 : decode cX10_isExcused 88 = .ok (.iaload, 1) := by decide +kernel
theorem dX10_isExcused_89 : decode cX10_isExcused 89 = .ok (.iastore, 1) := by decide +kernel
theorem dX10_isExcused_90 : decode cX10_isExcused 90 = .ok (.aload_n 0, 1) := by decide +kernel
theorem dX10_isExcused_91 : decode cX10_isExcused 91 = .ok (.getfield 102, 3) := by decide +kernel
theorem dX10_isExcused_94 : decode cX10_isExcused 94 = .ok (.iconst 4, 1) := by decide +kernel
theorem dX10_isExcused_95 : decode cX10_isExcused 95 = .ok (.iload_n 3, 1) := by decide +kernel
theorem dX10_isExcused_96 : decode cX10_isExcused 96 = .ok (.invokestatic 262, 3) := by decide +kernel
theorem dX10_isExcused_99 : decode cX10_isExcused 99 = .ok (.iastore, 1) := by decide +kernel
theorem dX10_isExcused_100 : decode cX10_isExcused 100 = .ok (.aload_n 0, 1) := by decide +kernel
theorem dX10_isExcused_101 : decode cX10_isExcused 101 = .ok (.getfield 22, 3) := by decide +kernel
theorem dX10_isExcused_104 : decode cX10_isExcused 104 = .ok (.iload_n 1, 1) := by decide +kernel
theorem dX10_isExcused_105 : decode cX10_isExcused 105 = .ok (.iaload, 1) := by decide +kernel
theorem dX10_isExcused_106 : decode cX10_isExcused 106 = .ok (.istore 6, 2) := by decide +kernel
theorem dX10_isExcused_108 : decode cX10_isExcused 108 = .ok (.bipush 12, 2) := by decide +kernel
theorem dX10_isExcused_110 : decode cX10_isExcused 110 = .ok (.iload 6, 2) := by decide +kernel
theorem dX10_isExcused_112 : decode cX10_isExcused 112 = .ok (.imul, 1) := by decide +kernel
theorem dX10_isExcused_113 : decode cX10_isExcused 113 = .ok (.istore 7, 2) := by decide +kernel
theorem dX10_isExcused_115 : decode cX10_isExcused 115 = .ok (.iload 7, 2) := by decide +kernel
theorem dX10_isExcused_117 : decode cX10_isExcused 117 = .ok (.bipush 12, 2) := by decide +kernel
theorem dX10_isExcused_119 : decode cX10_isExcused 119 = .ok (.iload 6, 2) := by decide +kernel
theorem dX10_isExcused_121 : decode cX10_isExcused 121 = .ok (.imul, 1) := by decide +kernel
theorem dX10_isExcused_122 : decode cX10_isExcused 122 = .ok (.aload_n 0, 1) := by decide +kernel
theorem dX10_isExcused_123 : decode cX10_isExcused 123 = .ok (.getfield 66, 3) := by decide +kernel
theorem dX10_isExcused_126 : decode cX10_isExcused 126 = .ok (.iload 6, 2) := by decide +kernel
theorem dX10_isExcused_128 : decode cX10_isExcused 128 = .ok (.iaload, 1) := by decide +kernel
theorem dX10_isExcused_129 : decode cX10_isExcused 129 = .ok (.iadd, 1) := by decide +kernel
theorem dX10_isExcused_130 : decode cX10_isExcused 130 = .ok (.if_icmp .ge 46, 3) := by decide +kernel
theorem dX10_isExcused_133 : decode cX10_isExcused 133 = .ok (.aload_n 0, 1) := by decide +kernel
theorem dX10_isExcused_134 : decode cX10_isExcused 134 = .ok (.getfield 75, 3) := by decide +kernel
theorem dX10_isExcused_137 : decode cX10_isExcused 137 = .ok (.iload 7, 2) := by decide +kernel
theorem dX10_isExcused_139 : decode cX10_isExcused 139 = .ok (.iaload, 1) := by decide +kernel
theorem dX10_isExcused_140 : decode cX10_isExcused 140 = .ok (.bipush 88, 2) := by decide +kernel
theorem dX10_isExcused_142 : decode cX10_isExcused 142 = .ok (.if_icmp .ne 28, 3) := by decide +kernel
theorem dX10_isExcused_145 : decode cX10_isExcused 145 = .ok (.aload_n 0, 1) := by decide +kernel
theorem dX10_isExcused_146 : decode cX10_isExcused 146 = .ok (.iload 6, 2) := by decide +kernel
theorem dX10_isExcused_148 : decode cX10_isExcused 148 = .ok (.aload_n 0, 1) := by decide +kernel
theorem dX10_isExcused_149 : decode cX10_isExcused 149 = .ok (.getfield 81, 3) := by decide +kernel
theorem dX10_isExcused_152 : decode cX10_isExcused 152 = .ok (.iload 7, 2) := by decide +kernel
theorem dX10_isExcused_154 : decode cX10_isExcused 154 = .ok (.iaload, 1) := by decide +kernel
theorem dX10_isExcused_155 : decode cX10_isExcused 155 = .ok (.aload_n 0, 1) := by decide +kernel
theorem dX10_isExcused_156 : decode cX10_isExcused 156 = .ok (.getfield 84, 3) := by decide +kernel
theorem dX10_isExcused_159 : decode cX10_isExcused 159 = .ok (.iload 7, 2) := by decide +kernel
theorem dX10_isExcused_161 : decode cX10_isExcused 161 = .ok (.iaload, 1) := by decide +kernel
theorem dX10_isExcused_162 : decode cX10_isExcused 162 = .ok (.invokevirtual 269, 3) := by decide +kernel
theorem dX10_isExcused_165 : decode cX10_isExcused 165 = .ok (.ifCond .eq 5, 3) := by decide +kernel
theorem dX10_isExcused_168 : decode cX10_isExcused 168 = .ok (.iconst 1, 1) := by decide +kernel
theorem dX10_isExcused_169 : decode cX10_isExcused 169 = .ok (.ireturn, 1) := by decide +kernel
theorem dX10_isExcused_170 : decode cX10_isExcused 170 = .ok (.iinc 7 1, 3) := by decide +kernel
theorem dX10_isExcused_173 : decode cX10_isExcused 173 = .ok (.goto (-58), 3) := by decide +kernel
theorem dX10_isExcused_176 : decode cX10_isExcused 176 = .ok (.iconst 0, 1) := by decide +kernel
theorem dX10_isExcused_177 : decode cX10_isExcused 177 = .ok (.ireturn, 1) := by decide +kernel
theorem dX10_sharesAt_0 : decode cX10_sharesAt 0 = .ok (.bipush 7, 2) := by decide +kernel
theorem dX10_sharesAt_2 : decode cX10_sharesAt 2 = .ok (.iload_n 1, 1) := by decide +kernel
theorem dX10_sharesAt_3 : decode cX10_sharesAt 3 = .ok (.imul, 1) := by decide +kernel
theorem dX10_sharesAt_4 : decode cX10_sharesAt 4 = .ok (.iload_n 2, 1) := by decide +kernel
theorem dX10_sharesAt_5 : decode cX10_sharesAt 5 = .ok (.iadd, 1) := by decide +kernel
theorem dX10_sharesAt_6 : decode cX10_sharesAt 6 = .ok (.iconst 1, 1) := by decide +kernel
theorem dX10_sharesAt_7 : decode cX10_sharesAt 7 = .ok (.isub, 1) := by decide +kernel
theorem dX10_sharesAt_8 : decode cX10_sharesAt 8 = .ok (.istore 4, 2) := by decide +kernel
theorem dX10_sharesAt_10 : decode cX10_sharesAt 10 = .ok (.iload 4, 2) := by decide +kernel
theorem dX10_sharesAt_12 : decode cX10_sharesAt 12 = .ok (.iconst 1, 1) := by decide +kernel
theorem dX10_sharesAt_13 : decode cX10_sharesAt 13 = .ok (.iadd, 1) := by decide +kernel
theorem dX10_sharesAt_14 : decode cX10_sharesAt 14 = .ok (.istore 5, 2) := by decide +kernel
theorem dX10_sharesAt_16 : decode cX10_sharesAt 16 = .ok (.aload_n 0, 1) := by decide +kernel
theorem dX10_sharesAt_17 : decode cX10_sharesAt 17 = .ok (.getfield 118, 3) := by decide +kernel
theorem dX10_sharesAt_20 : decode cX10_sharesAt 20 = .ok (.iload 5, 2) := by decide +kernel
theorem dX10_sharesAt_22 : decode cX10_sharesAt 22 = .ok (.aload_n 0, 1) := by decide +kernel
theorem dX10_sharesAt_23 : decode cX10_sharesAt 23 = .ok (.getfield 118, 3) := by decide +kernel
theorem dX10_sharesAt_26 : decode cX10_sharesAt 26 = .ok (.iload 4, 2) := by decide +kernel
theorem dX10_sharesAt_28 : decode cX10_sharesAt 28 = .ok (.iaload, 1) := by decide +kernel
theorem dX10_sharesAt_29 : decode cX10_sharesAt 29 = .ok (.iastore, 1) := by decide +kernel
theorem dX10_sharesAt_30 : decode cX10_sharesAt 30 = .ok (.iconst 0, 1) := by decide +kernel
theorem dX10_sharesAt_31 : decode cX10_sharesAt 31 = .ok (.istore 6, 2) := by decide +kernel
theorem dX10_sharesAt_33 : decode cX10_sharesAt 33 = .ok (.iload 6, 2) := by decide +kernel
theorem dX10_sharesAt_35 : decode cX10_sharesAt 35 = .ok (.iconst 4, 1) := by decide +kernel
theorem dX10_sharesAt_36 : decode cX10_sharesAt 36 = .ok (.if_icmp .ge 33, 3) := by decide +kernel
theorem dX10_sharesAt_39 : decode cX10_sharesAt 39 = .ok (.aload_n 0, 1) := by decide +kernel
theorem dX10_sharesAt_40 : decode cX10_sharesAt 40 = .ok (.getfield 121, 3) := by decide +kernel
theorem dX10_sharesAt_43 : decode cX10_sharesAt 43 = .ok (.iconst 4, 1) := by decide +kernel
theorem dX10_sharesAt_44 : decode cX10_sharesAt 44 = .ok (.iload 5, 2) := by decide +kernel
theorem dX10_sharesAt_46 : decode cX10_sharesAt 46 = .ok (.imul, 1) := by decide +kernel
theorem dX10_sharesAt_47 : decode cX10_sharesAt 47 = .ok (.iload 6, 2) := by decide +kernel
theorem dX10_sharesAt_49 : decode cX10_sharesAt 49 = .ok (.iadd, 1) := by decide +kernel
theorem dX10_sharesAt_50 : decode cX10_sharesAt 50 = .ok (.aload_n 0, 1) := by decide +kernel
theorem dX10_sharesAt_51 : decode cX10_sharesAt 51 = .ok (.getfield 121, 3) := by decide +kernel
theorem dX10_sharesAt_54 : decode cX10_sharesAt 54 = .ok (.iconst 4, 1) := by decide +kernel
theorem dX10_sharesAt_55 : decode cX10_sharesAt 55 = .ok (.iload 4, 2) := by decide +kernel
theorem dX10_sharesAt_57 : decode cX10_sharesAt 57 = .ok (.imul, 1) := by decide +kernel
theorem dX10_sharesAt_58 : decode cX10_sharesAt 58 = .ok (.iload 6, 2) := by decide +kernel
theorem dX10_sharesAt_60 : decode cX10_sharesAt 60 = .ok (.iadd, 1) := by decide +kernel
theorem dX10_sharesAt_61 : decode cX10_sharesAt 61 = .ok (.iaload, 1) := by decide +kernel
theorem dX10_sharesAt_62 : decode cX10_sharesAt 62 = .ok (.iastore, 1) := by decide +kernel
theorem dX10_sharesAt_63 : decode cX10_sharesAt 63 = .ok (.iinc 6 1, 3) := by decide +kernel
theorem dX10_sharesAt_66 : decode cX10_sharesAt 66 = .ok (.goto (-33), 3) := by decide +kernel
theorem dX10_sharesAt_69 : decode cX10_sharesAt 69 = .ok (.aload_n 0, 1) := by decide +kernel
theorem dX10_sharesAt_70 : decode cX10_sharesAt 70 = .ok (.iload_n 1, 1) := by decide +kernel
theorem dX10_sharesAt_71 : decode cX10_sharesAt 71 = .ok (.iload_n 2, 1) := by decide +kernel
theorem dX10_sharesAt_72 : decode cX10_sharesAt 72 = .ok (.iconst 1, 1) := by decide +kernel
theorem dX10_sharesAt_73 : decode cX10_sharesAt 73 = .ok (.isub, 1) := by decide +kernel
theorem dX10_sharesAt_74 : decode cX10_sharesAt 74 = .ok (.invokevirtual 175, 3) := by decide +kernel
theorem dX10_sharesAt_77 : decode cX10_sharesAt 77 = .ok (.istore 6, 2) := by decide +kernel
theorem dX10_sharesAt_79 : decode cX10_sharesAt 79 = .ok (.iload 6, 2) := by decide +kernel
theorem dX10_sharesAt_81 : decode cX10_sharesAt 81 = .ok (.iconst (-1), 1) := by decide +kernel
theorem dX10_sharesAt_82 : decode cX10_sharesAt 82 = .ok (.if_icmp .eq 44, 3) := by decide +kernel
theorem dX10_sharesAt_85 : decode cX10_sharesAt 85 = .ok (.iconst 4, 1) := by decide +kernel
theorem dX10_sharesAt_86 : decode cX10_sharesAt 86 = .ok (.iload 5, 2) := by decide +kernel
theorem dX10_sharesAt_88 : decode cX10_sharesAt 88 = .ok (.imul, 1) := by decide +kernel
theorem dX10_sharesAt_89 : decode cX10_sharesAt 89 = .ok (.aload_n 0, 1) := by decide +kernel
theorem dX10_sharesAt_90 : decode cX10_sharesAt 90 = .ok (.getfield 22, 3) := by decide +kernel
theorem dX10_sharesAt_93 : decode cX10_sharesAt 93 = .ok (.aload_n 0, 1) := by decide +kernel
theorem dX10_sharesAt_94 : decode cX10_sharesAt 94 = .ok (.getfield 52, 3) := by decide +kernel
theorem dX10_sharesAt_97 : decode cX10_sharesAt 97 = .ok (.iload 6, 2) := by decide +kernel
theorem dX10_sharesAt_99 : decode cX10_sharesAt 99 = .ok (.iaload, 1) := by decide +kernel
theorem dX10_sharesAt_100 : decode cX10_sharesAt 100 = .ok (.iaload, 1) := by decide +kernel
theorem dX10_sharesAt_101 : decode cX10_sharesAt 101 = .ok (.iadd, 1) := by decide +kernel
theorem dX10_sharesAt_102 : decode cX10_sharesAt 102 = .ok (.istore 7, 2) := by decide +kernel
theorem dX10_sharesAt_104 : decode cX10_sharesAt 104 = .ok (.aload_n 0, 1) := by decide +kernel
theorem dX10_sharesAt_105 : decode cX10_sharesAt 105 = .ok (.getfield 121, 3) := by decide +kernel
theorem dX10_sharesAt_108 : decode cX10_sharesAt 108 = .ok (.iload 7, 2) := by decide +kernel
theorem dX10_sharesAt_110 : decode cX10_sharesAt 110 = .ok (.aload_n 0, 1) := by decide +kernel
theorem dX10_sharesAt_111 : decode cX10_sharesAt 111 = .ok (.getfield 121, 3) := by decide +kernel
theorem dX10_sharesAt_114 : decode cX10_sharesAt 114 = .ok (.iload 7, 2) := by decide +kernel
theorem dX10_sharesAt_116 : decode cX10_sharesAt 116 = .ok (.iaload, 1) := by decide +kernel
theorem dX10_sharesAt_117 : decode cX10_sharesAt 117 = .ok (.aload_n 0, 1) := by decide +kernel
theorem dX10_sharesAt_118 : decode cX10_sharesAt 118 = .ok (.getfield 115, 3) := by decide +kernel
theorem dX10_sharesAt_121 : decode cX10_sharesAt 121 = .ok (.iload 4, 2) := by decide +kernel
theorem dX10_sharesAt_123 : decode cX10_sharesAt 123 = .ok (.iaload, 1) := by decide +kernel
theorem dX10_sharesAt_124 : decode cX10_sharesAt 124 = .ok (.iadd, 1) := by decide +kernel
theorem dX10_sharesAt_125 : decode cX10_sharesAt 125 = .ok (.iastore, 1) := by decide +kernel
theorem dX10_sharesAt_126 : decode cX10_sharesAt 126 = .ok (.iload_n 3, 1) := by decide +kernel
theorem dX10_sharesAt_127 : decode cX10_sharesAt 127 = .ok (.aload_n 0, 1) := by decide +kernel
theorem dX10_sharesAt_128 : decode cX10_sharesAt 128 = .ok (.getfield 112, 3) := by decide +kernel
theorem dX10_sharesAt_131 : decode cX10_sharesAt 131 = .ok (.iload 4, 2) := by decide +kernel
theorem dX10_sharesAt_133 : decode cX10_sharesAt 133 = .ok (.iaload, 1) := by decide +kernel
theorem dX10_sharesAt_134 : decode cX10_sharesAt 134 = .ok (.isub, 1) := by decide +kernel
theorem dX10_sharesAt_135 : decode cX10_sharesAt 135 = .ok (.aload_n 0, 1) := by decide +kernel
theorem dX10_sharesAt_136 : decode cX10_sharesAt 136 = .ok (.iload_n 1, 1) := by decide +kernel
theorem dX10_sharesAt_137 : decode cX10_sharesAt 137 = .ok (.iload_n 2, 1) := by decide +kernel
theorem dX10_sharesAt_138 : decode cX10_sharesAt 138 = .ok (.iconst 1, 1) := by decide +kernel
theorem dX10_sharesAt_139 : decode cX10_sharesAt 139 = .ok (.isub, 1) := by decide +kernel
theorem dX10_sharesAt_140 : decode cX10_sharesAt 140 = .ok (.invokevirtual 253, 3) := by decide +kernel
theorem dX10_sharesAt_143 : decode cX10_sharesAt 143 = .ok (.isub, 1) := by decide +kernel
theorem dX10_sharesAt_144 : decode cX10_sharesAt 144 = .ok (.istore 7, 2) := by decide +kernel
theorem dX10_sharesAt_146 : decode cX10_sharesAt 146 = .ok (.iload 7, 2) := by decide +kernel
theorem dX10_sharesAt_148 : decode cX10_sharesAt 148 = .ok (.ifCond .le 68, 3) := by decide +kernel
theorem dX10_sharesAt_151 : decode cX10_sharesAt 151 = .ok (.aload_n 0, 1) := by decide +kernel
theorem dX10_sharesAt_152 : decode cX10_sharesAt 152 = .ok (.iload_n 1, 1) := by decide +kernel
theorem dX10_sharesAt_153 : decode cX10_sharesAt 153 = .ok (.iload_n 2, 1) := by decide +kernel
theorem dX10_sharesAt_154 : decode cX10_sharesAt 154 = .ok (.iload_n 3, 1) := by decide +kernel
theorem dX10_sharesAt_155 : decode cX10_sharesAt 155 = .ok (.invokevirtual 273, 3) := by decide +kernel
theorem dX10_sharesAt_158 : decode cX10_sharesAt 158 = .ok (.ifCond .eq 23, 3) := by decide +kernel
theorem dX10_sharesAt_161 : decode cX10_sharesAt 161 = .ok (.aload_n 0, 1) := by decide +kernel
theorem dX10_sharesAt_162 : decode cX10_sharesAt 162 = .ok (.getfield 118, 3) := by decide +kernel
theorem dX10_sharesAt_165 : decode cX10_sharesAt 165 = .ok (.iload 5, 2) := by decide +kernel
theorem dX10_sharesAt_167 : decode cX10_sharesAt 167 = .ok (.aload_n 0, 1) := by decide +kernel
theorem dX10_sharesAt_168 : decode cX10_sharesAt 168 = .ok (.getfield 118, 3) := by decide +kernel
theorem dX10_sharesAt_171 : decode cX10_sharesAt 171 = .ok (.iload 5, 2) := by decide +kernel
theorem dX10_sharesAt_173 : decode cX10_sharesAt 173 = .ok (.iaload, 1) := by decide +kernel
theorem dX10_sharesAt_174 : decode cX10_sharesAt 174 = .ok (.iload 7, 2) := by decide +kernel
theorem dX10_sharesAt_176 : decode cX10_sharesAt 176 = .ok (.iadd, 1) := by decide +kernel
theorem dX10_sharesAt_177 : decode cX10_sharesAt 177 = .ok (.iastore, 1) := by decide +kernel
theorem dX10_sharesAt_178 : decode cX10_sharesAt 178 = .ok (.goto 38, 3) := by decide +kernel
theorem dX10_sharesAt_181 : decode cX10_sharesAt 181 = .ok (.aload_n 0, 1) := by decide +kernel
theorem dX10_sharesAt_182 : decode cX10_sharesAt 182 = .ok (.getfield 121, 3) := by decide +kernel
theorem dX10_sharesAt_185 : decode cX10_sharesAt 185 = .ok (.iconst 4, 1) := by decide +kernel
theorem dX10_sharesAt_186 : decode cX10_sharesAt 186 = .ok (.iload 5, 2) := by decide +kernel
theorem dX10_sharesAt_188 : decode cX10_sharesAt 188 = .ok (.imul, 1) := by decide +kernel
theorem dX10_sharesAt_189 : decode cX10_sharesAt 189 = .ok (.aload_n 0, 1) := by decide +kernel
theorem dX10_sharesAt_190 : decode cX10_sharesAt 190 = .ok (.getfield 22, 3) := by decide +kernel
theorem dX10_sharesAt_193 : decode cX10_sharesAt 193 = .ok (.iload_n 1, 1) := by decide +kernel
theorem dX10_sharesAt_194 : decode cX10_sharesAt 194 = .ok (.iaload, 1) := by decide +kernel
theorem dX10_sharesAt_195 : decode cX10_sharesAt 195 = .ok (.iadd, 1) := by decide +kernel
theorem dX10_sharesAt_196 : decode cX10_sharesAt 196 = .ok (.aload_n 0, 1) := by decide +kernel
theorem dX10_sharesAt_197 : decode cX10_sharesAt 197 = .ok (.getfield 121, 3) := by decide +kernel
theorem dX10_sharesAt_200 : decode cX10_sharesAt 200 = .ok (.iconst 4, 1) := by decide +kernel
theorem dX10_sharesAt_201 : decode cX10_sharesAt 201 = .ok (.iload 5, 2) := by decide +kernel
theorem dX10_sharesAt_203 : decode cX10_sharesAt 203 = .ok (.imul, 1) := by decide +kernel
theorem dX10_sharesAt_204 : decode cX10_sharesAt 204 = .ok (.aload_n 0, 1) := by decide +kernel
theorem dX10_sharesAt_205 : decode cX10_sharesAt 205 = .ok (.getfield 22, 3) := by decide +kernel
theorem dX10_sharesAt_208 : decode cX10_sharesAt 208 = .ok (.iload_n 1, 1) := by decide +kernel
theorem dX10_sharesAt_209 : decode cX10_sharesAt 209 = .ok (.iaload, 1) := by decide +kernel
theorem dX10_sharesAt_210 : decode cX10_sharesAt 210 = .ok (.iadd, 1) := by decide +kernel
theorem dX10_sharesAt_211 : decode cX10_sharesAt 211 = .ok (.iaload, 1) := by decide +kernel
theorem dX10_sharesAt_212 : decode cX10_sharesAt 212 = .ok (.iload 7, 2) := by decide +kernel
theorem dX10_sharesAt_214 : decode cX10_sharesAt 214 = .ok (.iadd, 1) := by decide +kernel
theorem dX10_sharesAt_215 : decode cX10_sharesAt 215 = .ok (.iastore, 1) := by decide +kernel
theorem dX10_sharesAt_216 : decode cX10_sharesAt 216 = .ok (.iload 7, 2) := by decide +kernel
theorem dX10_sharesAt_218 : decode cX10_sharesAt 218 = .ok (.ifCond .ge 9, 3) := by decide +kernel
theorem dX10_sharesAt_221 : decode cX10_sharesAt 221 = .ok (.iload 7, 2) := by decide +kernel
theorem dX10_sharesAt_223 : decode cX10_sharesAt 223 = .ok (.ineg, 1) := by decide +kernel
theorem dX10_sharesAt_224 : decode cX10_sharesAt 224 = .ok (.goto 4, 3) := by decide +kernel
theorem dX10_sharesAt_227 : decode cX10_sharesAt 227 = .ok (.iconst 0, 1) := by decide +kernel
theorem dX10_sharesAt_228 : decode cX10_sharesAt 228 = .ok (.istore 8, 2) := by decide +kernel
theorem dX10_sharesAt_230 : decode cX10_sharesAt 230 = .ok (.iload 8, 2) := by decide +kernel
theorem dX10_sharesAt_232 : decode cX10_sharesAt 232 = .ok (.aload_n 0, 1) := by decide +kernel
theorem dX10_sharesAt_233 : decode cX10_sharesAt 233 = .ok (.getfield 118, 3) := by decide +kernel
theorem dX10_sharesAt_236 : decode cX10_sharesAt 236 = .ok (.iload 5, 2) := by decide +kernel
theorem dX10_sharesAt_238 : decode cX10_sharesAt 238 = .ok (.iaload, 1) := by decide +kernel
theorem dX10_sharesAt_239 : decode cX10_sharesAt 239 = .ok (.if_icmp .ge 8, 3) := by decide +kernel
theorem dX10_sharesAt_242 : decode cX10_sharesAt 242 = .ok (.iload 8, 2) := by decide +kernel
theorem dX10_sharesAt_244 : decode cX10_sharesAt 244 = .ok (.goto 10, 3) := by decide +kernel
theorem dX10_sharesAt_247 : decode cX10_sharesAt 247 = .ok (.aload_n 0, 1) := by decide +kernel
theorem dX10_sharesAt_248 : decode cX10_sharesAt 248 = .ok (.getfield 118, 3) := by decide +kernel
theorem dX10_sharesAt_251 : decode cX10_sharesAt 251 = .ok (.iload 5, 2) := by decide +kernel
theorem dX10_sharesAt_253 : decode cX10_sharesAt 253 = .ok (.iaload, 1) := by decide +kernel
theorem dX10_sharesAt_254 : decode cX10_sharesAt 254 = .ok (.istore 9, 2) := by decide +kernel
theorem dX10_sharesAt_256 : decode cX10_sharesAt 256 = .ok (.aload_n 0, 1) := by decide +kernel
theorem dX10_sharesAt_257 : decode cX10_sharesAt 257 = .ok (.getfield 118, 3) := by decide +kernel
theorem dX10_sharesAt_260 : decode cX10_sharesAt 260 = .ok (.iload 5, 2) := by decide +kernel
theorem dX10_sharesAt_262 : decode cX10_sharesAt 262 = .ok (.aload_n 0, 1) := by decide +kernel
theorem dX10_sharesAt_263 : decode cX10_sharesAt 263 = .ok (.getfield 118, 3) := by decide +kernel
theorem dX10_sharesAt_266 : decode cX10_sharesAt 266 = .ok (.iload 5, 2) := by decide +kernel
theorem dX10_sharesAt_268 : decode cX10_sharesAt 268 = .ok (.iaload, 1) := by decide +kernel
theorem dX10_sharesAt_269 : decode cX10_sharesAt 269 = .ok (.iload 9, 2) := by decide +kernel
theorem dX10_sharesAt_271 : decode cX10_sharesAt 271 = .ok (.isub, 1) := by decide +kernel
theorem dX10_sharesAt_272 : decode cX10_sharesAt 272 = .ok (.iastore, 1) := by decide +kernel
theorem dX10_sharesAt_273 : decode cX10_sharesAt 273 = .ok (.iload 8, 2) := by decide +kernel
theorem dX10_sharesAt_275 : decode cX10_sharesAt 275 = .ok (.iload 9, 2) := by decide +kernel
theorem dX10_sharesAt_277 : decode cX10_sharesAt 277 = .ok (.isub, 1) := by decide +kernel
theorem dX10_sharesAt_278 : decode cX10_sharesAt 278 = .ok (.istore 8, 2) := by decide +kernel
theorem dX10_sharesAt_280 : decode cX10_sharesAt 280 = .ok (.iconst (-1), 1) := by decide +kernel
theorem dX10_sharesAt_281 : decode cX10_sharesAt 281 = .ok (.istore 10, 2) := by decide +kernel
theorem dX10_sharesAt_283 : decode cX10_sharesAt 283 = .ok (.iload 10, 2) := by decide +kernel
theorem dX10_sharesAt_285 : decode cX10_sharesAt 285 = .ok (.iconst 4, 1) := by decide +kernel
theorem dX10_sharesAt_286 : decode cX10_sharesAt 286 = .ok (.if_icmp .ge 83, 3) := by decide +kernel
theorem dX10_sharesAt_289 : decode cX10_sharesAt 289 = .ok (.iconst 4, 1) := by decide +kernel
theorem dX10_sharesAt_290 : decode cX10_sharesAt 290 = .ok (.iload 5, 2) := by decide +kernel
theorem dX10_sharesAt_292 : decode cX10_sharesAt 292 = .ok (.imul, 1) := by decide +kernel
theorem dX10_sharesAt_293 : decode cX10_sharesAt 293 = .ok (.iload 10, 2) := by decide +kernel
theorem dX10_sharesAt_295 : decode cX10_sharesAt 295 = .ok (.iconst (-1), 1) := by decide +kernel
theorem dX10_sharesAt_296 : decode cX10_sharesAt 296 = .ok (.if_icmp .ne 12, 3) := by decide +kernel
theorem dX10_sharesAt_299 : decode cX10_sharesAt 299 = .ok (.aload_n 0, 1) := by decide +kernel
theorem dX10_sharesAt_300 : decode cX10_sharesAt 300 = .ok (.getfield 22, 3) := by decide +kernel
theorem dX10_sharesAt_303 : decode cX10_sharesAt 303 = .ok (.iload_n 1, 1) := by decide +kernel
theorem dX10_sharesAt_304 : decode cX10_sharesAt 304 = .ok (.iaload, 1) := by decide +kernel
theorem dX10_sharesAt_305 : decode cX10_sharesAt 305 = .ok (.goto 5, 3) := by decide +kernel
theorem dX10_sharesAt_308 : decode cX10_sharesAt 308 = .ok (.iload 10, 2) := by decide +kernel
theorem dX10_sharesAt_310 : decode cX10_sharesAt 310 = .ok (.iadd, 1) := by decide +kernel
theorem dX10_sharesAt_311 : decode cX10_sharesAt 311 = .ok (.istore 11, 2) := by decide +kernel
theorem dX10_sharesAt_313 : decode cX10_sharesAt 313 = .ok (.iload 8, 2) := by decide +kernel
theorem dX10_sharesAt_315 : decode cX10_sharesAt 315 = .ok (.aload_n 0, 1) := by decide +kernel
theorem dX10_sharesAt_316 : decode cX10_sharesAt 316 = .ok (.getfield 121, 3) := by decide +kernel
theorem dX10_sharesAt_319 : decode cX10_sharesAt 319 = .ok (.iload 11, 2) := by decide +kernel
theorem dX10_sharesAt_321 : decode cX10_sharesAt 321 = .ok (.iaload, 1) := by decide +kernel
theorem dX10_sharesAt_322 : decode cX10_sharesAt 322 = .ok (.if_icmp .ge 8, 3) := by decide +kernel
theorem dX10_sharesAt_325 : decode cX10_sharesAt 325 = .ok (.iload 8, 2) := by decide +kernel
theorem dX10_sharesAt_327 : decode cX10_sharesAt 327 = .ok (.goto 10, 3) := by decide +kernel
theorem dX10_sharesAt_330 : decode cX10_sharesAt 330 = .ok (.aload_n 0, 1) := by decide +kernel
theorem dX10_sharesAt_331 : decode cX10_sharesAt 331 = .ok (.getfield 121, 3) := by decide +kernel
theorem dX10_sharesAt_334 : decode cX10_sharesAt 334 = .ok (.iload 11, 2) := by decide +kernel
theorem dX10_sharesAt_336 : decode cX10_sharesAt 336 = .ok (.iaload, 1) := by decide +kernel
theorem dX10_sharesAt_337 : decode cX10_sharesAt 337 = .ok (.istore 9, 2) := by decide +kernel
theorem dX10_sharesAt_339 : decode cX10_sharesAt 339 = .ok (.aload_n 0, 1) := by decide +kernel
theorem dX10_sharesAt_340 : decode cX10_sharesAt 340 = .ok (.getfield 121, 3) := by decide +kernel
theorem dX10_sharesAt_343 : decode cX10_sharesAt 343 = .ok (.iload 11, 2) := by decide +kernel
theorem dX10_sharesAt_345 : decode cX10_sharesAt 345 = .ok (.aload_n 0, 1) := by decide +kernel
theorem dX10_sharesAt_346 : decode cX10_sharesAt 346 = .ok (.getfield 121, 3) := by decide +kernel
theorem dX10_sharesAt_349 : decode cX10_sharesAt 349 = .ok (.iload 11, 2) := by decide +kernel
theorem dX10_sharesAt_351 : decode cX10_sharesAt 351 = .ok (.iaload, 1) := by decide +kernel
theorem dX10_sharesAt_352 : decode cX10_sharesAt 352 = .ok (.iload 9, 2) := by decide +kernel
theorem dX10_sharesAt_354 : decode cX10_sharesAt 354 = .ok (.isub, 1) := by decide +kernel
theorem dX10_sharesAt_355 : decode cX10_sharesAt 355 = .ok (.iastore, 1) := by decide +kernel
theorem dX10_sharesAt_356 : decode cX10_sharesAt 356 = .ok (.iload 8, 2) := by decide +kernel
theorem dX10_sharesAt_358 : decode cX10_sharesAt 358 = .ok (.iload 9, 2) := by decide +kernel
theorem dX10_sharesAt_360 : decode cX10_sharesAt 360 = .ok (.isub, 1) := by decide +kernel
theorem dX10_sharesAt_361 : decode cX10_sharesAt 361 = .ok (.istore 8, 2) := by decide +kernel
theorem dX10_sharesAt_363 : decode cX10_sharesAt 363 = .ok (.iinc 10 1, 3) := by decide +kernel
theorem dX10_sharesAt_366 : decode cX10_sharesAt 366 = .ok (.goto (-83), 3) := by decide +kernel
theorem dX10_sharesAt_369 : decode cX10_sharesAt 369 = .ok (.return_, 1) := by decide +kernel
theorem dX10_runs_0 : decode cX10_runs 0 = .ok (.aload_n 0, 1) := by decide +kernel
theorem dX10_runs_1 : decode cX10_runs 1 = .ok (.getfield 165, 3) := by decide +kernel
theorem dX10_runs_4 : decode cX10_runs 4 = .ok (.ifCond .eq 4, 3) := by decide +kernel
theorem dX10_runs_7 : decode cX10_runs 7 = .ok (.return_, 1) := by decide +kernel
theorem dX10_runs_8 : decode cX10_runs 8 = .ok (.aload_n 0, 1) := by decide +kernel
theorem dX10_runs_9 : decode cX10_runs 9 = .ok (.iconst 1, 1) := by decide +kernel
theorem dX10_runs_10 : decode cX10_runs 10 = .ok (.putfield 165, 3) := by decide +kernel
theorem dX10_runs_13 : decode cX10_runs 13 = .ok (.iconst 0, 1) := by decide +kernel
theorem dX10_runs_14 : decode cX10_runs 14 = .ok (.istore_n 1, 1) := by decide +kernel
theorem dX10_runs_15 : decode cX10_runs 15 = .ok (.iload_n 1, 1) := by decide +kernel
theorem dX10_runs_16 : decode cX10_runs 16 = .ok (.aload_n 0, 1) := by decide +kernel
theorem dX10_runs_17 : decode cX10_runs 17 = .ok (.getfield 151, 3) := by decide +kernel
theorem dX10_runs_20 : decode cX10_runs 20 = .ok (.if_icmp .ge 111, 3) := by decide +kernel
theorem dX10_runs_23 : decode cX10_runs 23 = .ok (.aload_n 0, 1) := by decide +kernel
theorem dX10_runs_24 : decode cX10_runs 24 = .ok (.getfield 124, 3) := by decide +kernel
theorem dX10_runs_27 : decode cX10_runs 27 = .ok (.iload_n 1, 1) := by decide +kernel
theorem dX10_runs_28 : decode cX10_runs 28 = .ok (.iconst 0, 1) := by decide +kernel
theorem dX10_runs_29 : decode cX10_runs 29 = .ok (.iastore, 1) := by decide +kernel
theorem dX10_runs_30 : decode cX10_runs 30 = .ok (.aload_n 0, 1) := by decide +kernel
theorem dX10_runs_31 : decode cX10_runs 31 = .ok (.getfield 127, 3) := by decide +kernel
theorem dX10_runs_34 : decode cX10_runs 34 = .ok (.iload_n 1, 1) := by decide +kernel
theorem dX10_runs_35 : decode cX10_runs 35 = .ok (.aload_n 0, 1) := by decide +kernel
theorem dX10_runs_36 : decode cX10_runs 36 = .ok (.getfield 31, 3) := by decide +kernel
theorem dX10_runs_39 : decode cX10_runs 39 = .ok (.iload_n 1, 1) := by decide +kernel
theorem dX10_runs_40 : decode cX10_runs 40 = .ok (.iaload, 1) := by decide +kernel
theorem dX10_runs_41 : decode cX10_runs 41 = .ok (.iastore, 1) := by decide +kernel
theorem dX10_runs_42 : decode cX10_runs 42 = .ok (.aload_n 0, 1) := by decide +kernel
theorem dX10_runs_43 : decode cX10_runs 43 = .ok (.getfield 133, 3) := by decide +kernel
theorem dX10_runs_46 : decode cX10_runs 46 = .ok (.iload_n 1, 1) := by decide +kernel
theorem dX10_runs_47 : decode cX10_runs 47 = .ok (.iconst 0, 1) := by decide +kernel
theorem dX10_runs_48 : decode cX10_runs 48 = .ok (.bastore, 1) := by decide +kernel
theorem dX10_runs_49 : decode cX10_runs 49 = .ok (.iconst 0, 1) := by decide +kernel
theorem dX10_runs_50 : decode cX10_runs 50 = .ok (.istore_n 2, 1) := by decide +kernel
theorem dX10_runs_51 : decode cX10_runs 51 = .ok (.iload_n 2, 1) := by decide +kernel
theorem dX10_runs_52 : decode cX10_runs 52 = .ok (.bipush 7, 2) := by decide +kernel
theorem dX10_runs_54 : decode cX10_runs 54 = .ok (.if_icmp .ge 71, 3) := by decide +kernel
theorem dX10_runs_57 : decode cX10_runs 57 = .ok (.bipush 7, 2) := by decide +kernel
theorem dX10_runs_59 : decode cX10_runs 59 = .ok (.iload_n 1, 1) := by decide +kernel
theorem dX10_runs_60 : decode cX10_runs 60 = .ok (.imul, 1) := by decide +kernel
theorem dX10_runs_61 : decode cX10_runs 61 = .ok (.iload_n 2, 1) := by decide +kernel
theorem dX10_runs_62 : decode cX10_runs 62 = .ok (.iadd, 1) := by decide +kernel
theorem dX10_runs_63 : decode cX10_runs 63 = .ok (.istore_n 3, 1) := by decide +kernel
theorem dX10_runs_64 : decode cX10_runs 64 = .ok (.aload_n 0, 1) := by decide +kernel
theorem dX10_runs_65 : decode cX10_runs 65 = .ok (.getfield 109, 3) := by decide +kernel
theorem dX10_runs_68 : decode cX10_runs 68 = .ok (.iload_n 3, 1) := by decide +kernel
theorem dX10_runs_69 : decode cX10_runs 69 = .ok (.iconst (-1), 1) := by decide +kernel
theorem dX10_runs_70 : decode cX10_runs 70 = .ok (.iastore, 1) := by decide +kernel
theorem dX10_runs_71 : decode cX10_runs 71 = .ok (.aload_n 0, 1) := by decide +kernel
theorem dX10_runs_72 : decode cX10_runs 72 = .ok (.getfield 112, 3) := by decide +kernel
theorem dX10_runs_75 : decode cX10_runs 75 = .ok (.iload_n 3, 1) := by decide +kernel
theorem dX10_runs_76 : decode cX10_runs 76 = .ok (.iconst (-1), 1) := by decide +kernel
theorem dX10_runs_77 : decode cX10_runs 77 = .ok (.iastore, 1) := by decide +kernel
theorem dX10_runs_78 : decode cX10_runs 78 = .ok (.aload_n 0, 1) := by decide +kernel
theorem dX10_runs_79 : decode cX10_runs 79 = .ok (.getfield 115, 3) := by decide +kernel
theorem dX10_runs_82 : decode cX10_runs 82 = .ok (.iload_n 3, 1) := by decide +kernel
theorem dX10_runs_83 : decode cX10_runs 83 = .ok (.iconst 0, 1) := by decide +kernel
theorem dX10_runs_84 : decode cX10_runs 84 = .ok (.iastore, 1) := by decide +kernel
theorem dX10_runs_85 : decode cX10_runs 85 = .ok (.aload_n 0, 1) := by decide +kernel
theorem dX10_runs_86 : decode cX10_runs 86 = .ok (.getfield 118, 3) := by decide +kernel
theorem dX10_runs_89 : decode cX10_runs 89 = .ok (.iload_n 3, 1) := by decide +kernel
theorem dX10_runs_90 : decode cX10_runs 90 = .ok (.iconst 0, 1) := by decide +kernel
theorem dX10_runs_91 : decode cX10_runs 91 = .ok (.iastore, 1) := by decide +kernel
theorem dX10_runs_92 : decode cX10_runs 92 = .ok (.iconst 0, 1) := by decide +kernel
theorem dX10_runs_93 : decode cX10_runs 93 = .ok (.istore 4, 2) := by decide +kernel
theorem dX10_runs_95 : decode cX10_runs 95 = .ok (.iload 4, 2) := by decide +kernel
theorem dX10_runs_97 : decode cX10_runs 97 = .ok (.iconst 4, 1) := by decide +kernel
theorem dX10_runs_98 : decode cX10_runs 98 = .ok (.if_icmp .ge 21, 3) := by decide +kernel
theorem dX10_runs_101 : decode cX10_runs 101 = .ok (.aload_n 0, 1) := by decide +kernel
theorem dX10_runs_102 : decode cX10_runs 102 = .ok (.getfield 121, 3) := by decide +kernel
theorem dX10_runs_105 : decode cX10_runs 105 = .ok (.iconst 4, 1) := by decide +kernel
theorem dX10_runs_106 : decode cX10_runs 106 = .ok (.iload_n 3, 1) := by decide +kernel
theorem dX10_runs_107 : decode cX10_runs 107 = .ok (.imul, 1) := by decide +kernel
theorem dX10_runs_108 : decode cX10_runs 108 = .ok (.iload 4, 2) := by decide +kernel
theorem dX10_runs_110 : decode cX10_runs 110 = .ok (.iadd, 1) := by decide +kernel
theorem dX10_runs_111 : decode cX10_runs 111 = .ok (.iconst 0, 1) := by decide +kernel
theorem dX10_runs_112 : decode cX10_runs 112 = .ok (.iastore, 1) := by decide +kernel
theorem dX10_runs_113 : decode cX10_runs 113 = .ok (.iinc 4 1, 3) := by decide +kernel
theorem dX10_runs_116 : decode cX10_runs 116 = .ok (.goto (-21), 3) := by decide +kernel
theorem dX10_runs_119 : decode cX10_runs 119 = .ok (.iinc 2 1, 3) := by decide +kernel
theorem dX10_runs_122 : decode cX10_runs 122 = .ok (.goto (-71), 3) := by decide +kernel
theorem dX10_runs_125 : decode cX10_runs 125 = .ok (.iinc 1 1, 3) := by decide +kernel
theorem dX10_runs_128 : decode cX10_runs 128 = .ok (.goto (-113), 3) := by decide +kernel
theorem dX10_runs_131 : decode cX10_runs 131 = .ok (.iconst 0, 1) := by decide +kernel
theorem dX10_runs_132 : decode cX10_runs 132 = .ok (.istore_n 1, 1) := by decide +kernel
theorem dX10_runs_133 : decode cX10_runs 133 = .ok (.iload_n 1, 1) := by decide +kernel
theorem dX10_runs_134 : decode cX10_runs 134 = .ok (.sipush 20000, 3) := by decide +kernel
theorem dX10_runs_137 : decode cX10_runs 137 = .ok (.if_icmp .gt 225, 3) := by decide +kernel
theorem dX10_runs_140 : decode cX10_runs 140 = .ok (.iconst 0, 1) := by decide +kernel
theorem dX10_runs_141 : decode cX10_runs 141 = .ok (.istore_n 2, 1) := by decide +kernel
theorem dX10_runs_142 : decode cX10_runs 142 = .ok (.iload_n 2, 1) := by decide +kernel
theorem dX10_runs_143 : decode cX10_runs 143 = .ok (.aload_n 0, 1) := by decide +kernel
theorem dX10_runs_144 : decode cX10_runs 144 = .ok (.getfield 151, 3) := by decide +kernel
theorem dX10_runs_147 : decode cX10_runs 147 = .ok (.if_icmp .ge 144, 3) := by decide +kernel
theorem dX10_runs_150 : decode cX10_runs 150 = .ok (.aload_n 0, 1) := by decide +kernel
theorem dX10_runs_151 : decode cX10_runs 151 = .ok (.getfield 133, 3) := by decide +kernel
theorem dX10_runs_154 : decode cX10_runs 154 = .ok (.iload_n 2, 1) := by decide +kernel
theorem dX10_runs_155 : decode cX10_runs 155 = .ok (.baload, 1) := by decide +kernel
theorem dX10_runs_156 : decode cX10_runs 156 = .ok (.ifCond .eq 129, 3) := by decide +kernel
theorem dX10_runs_159 : decode cX10_runs 159 = .ok (.aload_n 0, 1) := by decide +kernel
theorem dX10_runs_160 : decode cX10_runs 160 = .ok (.getfield 130, 3) := by decide +kernel
theorem dX10_runs_163 : decode cX10_runs 163 = .ok (.iload_n 2, 1) := by decide +kernel
theorem dX10_runs_164 : decode cX10_runs 164 = .ok (.iaload, 1) := by decide +kernel
theorem dX10_runs_165 : decode cX10_runs 165 = .ok (.iload_n 1, 1) := by decide +kernel
theorem dX10_runs_166 : decode cX10_runs 166 = .ok (.if_icmp .eq 6, 3) := by decide +kernel
theorem dX10_runs_169 : decode cX10_runs 169 = .ok (.goto 116, 3) := by decide +kernel
theorem dX10_runs_172 : decode cX10_runs 172 = .ok (.aload_n 0, 1) := by decide +kernel
theorem dX10_runs_173 : decode cX10_runs 173 = .ok (.getfield 133, 3) := by decide +kernel
theorem dX10_runs_176 : decode cX10_runs 176 = .ok (.iload_n 2, 1) := by decide +kernel
theorem dX10_runs_177 : decode cX10_runs 177 = .ok (.iconst 0, 1) := by decide +kernel
theorem dX10_runs_178 : decode cX10_runs 178 = .ok (.bastore, 1) := by decide +kernel
theorem dX10_runs_179 : decode cX10_runs 179 = .ok (.aload_n 0, 1) := by decide +kernel
theorem dX10_runs_180 : decode cX10_runs 180 = .ok (.getfield 124, 3) := by decide +kernel
theorem dX10_runs_183 : decode cX10_runs 183 = .ok (.iload_n 2, 1) := by decide +kernel
theorem dX10_runs_184 : decode cX10_runs 184 = .ok (.aload_n 0, 1) := by decide +kernel
theorem dX10_runs_185 : decode cX10_runs 185 = .ok (.getfield 124, 3) := by decide +kernel
theorem dX10_runs_188 : decode cX10_runs 188 = .ok (.iload_n 2, 1) := by decide +kernel
theorem dX10_runs_189 : decode cX10_runs 189 = .ok (.iaload, 1) := by decide +kernel
theorem dX10_runs_190 : decode cX10_runs 190 = .ok (.iconst 1, 1) := by decide +kernel
theorem dX10_runs_191 : decode cX10_runs 191 = .ok (.iadd, 1) := by decide +kernel
theorem dX10_runs_192 : decode cX10_runs 192 = .ok (.iastore, 1) := by decide +kernel
theorem dX10_runs_193 : decode cX10_runs 193 = .ok (.aload_n 0, 1) := by decide +kernel
theorem dX10_runs_194 : decode cX10_runs 194 = .ok (.getfield 124, 3) := by decide +kernel
theorem dX10_runs_197 : decode cX10_runs 197 = .ok (.iload_n 2, 1) := by decide +kernel
theorem dX10_runs_198 : decode cX10_runs 198 = .ok (.iaload, 1) := by decide +kernel
theorem dX10_runs_199 : decode cX10_runs 199 = .ok (.istore_n 3, 1) := by decide +kernel
theorem dX10_runs_200 : decode cX10_runs 200 = .ok (.aload_n 0, 1) := by decide +kernel
theorem dX10_runs_201 : decode cX10_runs 201 = .ok (.getfield 109, 3) := by decide +kernel
theorem dX10_runs_204 : decode cX10_runs 204 = .ok (.bipush 7, 2) := by decide +kernel
theorem dX10_runs_206 : decode cX10_runs 206 = .ok (.iload_n 2, 1) := by decide +kernel
theorem dX10_runs_207 : decode cX10_runs 207 = .ok (.imul, 1) := by decide +kernel
theorem dX10_runs_208 : decode cX10_runs 208 = .ok (.iload_n 3, 1) := by decide +kernel
theorem dX10_runs_209 : decode cX10_runs 209 = .ok (.iadd, 1) := by decide +kernel
theorem dX10_runs_210 : decode cX10_runs 210 = .ok (.iload_n 1, 1) := by decide +kernel
theorem dX10_runs_211 : decode cX10_runs 211 = .ok (.iastore, 1) := by decide +kernel
theorem dX10_runs_212 : decode cX10_runs 212 = .ok (.aload_n 0, 1) := by decide +kernel
theorem dX10_runs_213 : decode cX10_runs 213 = .ok (.iload_n 2, 1) := by decide +kernel
theorem dX10_runs_214 : decode cX10_runs 214 = .ok (.iload_n 3, 1) := by decide +kernel
theorem dX10_runs_215 : decode cX10_runs 215 = .ok (.iload_n 1, 1) := by decide +kernel
theorem dX10_runs_216 : decode cX10_runs 216 = .ok (.invokevirtual 276, 3) := by decide +kernel
theorem dX10_runs_219 : decode cX10_runs 219 = .ok (.aload_n 0, 1) := by decide +kernel
theorem dX10_runs_220 : decode cX10_runs 220 = .ok (.iload_n 2, 1) := by decide +kernel
theorem dX10_runs_221 : decode cX10_runs 221 = .ok (.iload_n 3, 1) := by decide +kernel
theorem dX10_runs_222 : decode cX10_runs 222 = .ok (.aload_n 0, 1) := by decide +kernel
theorem dX10_runs_223 : decode cX10_runs 223 = .ok (.getfield 34, 3) := by decide +kernel
theorem dX10_runs_226 : decode cX10_runs 226 = .ok (.iload_n 2, 1) := by decide +kernel
theorem dX10_runs_227 : decode cX10_runs 227 = .ok (.iaload, 1) := by decide +kernel
theorem dX10_runs_228 : decode cX10_runs 228 = .ok (.if_icmp .ge 7, 3) := by decide +kernel
theorem dX10_runs_231 : decode cX10_runs 231 = .ok (.iload_n 3, 1) := by decide +kernel
theorem dX10_runs_232 : decode cX10_runs 232 = .ok (.goto 6, 3) := by decide +kernel
theorem dX10_runs_235 : decode cX10_runs 235 = .ok (.iload_n 3, 1) := by decide +kernel
theorem dX10_runs_236 : decode cX10_runs 236 = .ok (.iconst 1, 1) := by decide +kernel
theorem dX10_runs_237 : decode cX10_runs 237 = .ok (.isub, 1) := by decide +kernel
theorem dX10_runs_238 : decode cX10_runs 238 = .ok (.invokevirtual 256, 3) := by decide +kernel
theorem dX10_runs_241 : decode cX10_runs 241 = .ok (.istore 4, 2) := by decide +kernel
theorem dX10_runs_243 : decode cX10_runs 243 = .ok (.aload_n 0, 1) := by decide +kernel
theorem dX10_runs_244 : decode cX10_runs 244 = .ok (.getfield 127, 3) := by decide +kernel
theorem dX10_runs_247 : decode cX10_runs 247 = .ok (.iload_n 2, 1) := by decide +kernel
theorem dX10_runs_248 : decode cX10_runs 248 = .ok (.iload_n 3, 1) := by decide +kernel
theorem dX10_runs_249 : decode cX10_runs 249 = .ok (.aload_n 0, 1) := by decide +kernel
theorem dX10_runs_250 : decode cX10_runs 250 = .ok (.getfield 34, 3) := by decide +kernel
theorem dX10_runs_253 : decode cX10_runs 253 = .ok (.iload_n 2, 1) := by decide +kernel
theorem dX10_runs_254 : decode cX10_runs 254 = .ok (.iaload, 1) := by decide +kernel
theorem dX10_runs_255 : decode cX10_runs 255 = .ok (.if_icmp .ge 21, 3) := by decide +kernel
theorem dX10_runs_258 : decode cX10_runs 258 = .ok (.iload 4, 2) := by decide +kernel
theorem dX10_runs_260 : decode cX10_runs 260 = .ok (.iload_n 1, 1) := by decide +kernel
theorem dX10_runs_261 : decode cX10_runs 261 = .ok (.aload_n 0, 1) := by decide +kernel
theorem dX10_runs_262 : decode cX10_runs 262 = .ok (.getfield 28, 3) := by decide +kernel
theorem dX10_runs_265 : decode cX10_runs 265 = .ok (.iload_n 2, 1) := by decide +kernel
theorem dX10_runs_266 : decode cX10_runs 266 = .ok (.iaload, 1) := by decide +kernel
theorem dX10_runs_267 : decode cX10_runs 267 = .ok (.iadd, 1) := by decide +kernel
theorem dX10_runs_268 : decode cX10_runs 268 = .ok (.if_icmp .le 8, 3) := by decide +kernel
theorem dX10_runs_271 : decode cX10_runs 271 = .ok (.iload 4, 2) := by decide +kernel
theorem dX10_runs_273 : decode cX10_runs 273 = .ok (.goto 11, 3) := by decide +kernel
theorem dX10_runs_276 : decode cX10_runs 276 = .ok (.iload_n 1, 1) := by decide +kernel
theorem dX10_runs_277 : decode cX10_runs 277 = .ok (.aload_n 0, 1) := by decide +kernel
theorem dX10_runs_278 : decode cX10_runs 278 = .ok (.getfield 28, 3) := by decide +kernel
theorem dX10_runs_281 : decode cX10_runs 281 = .ok (.iload_n 2, 1) := by decide +kernel
theorem dX10_runs_282 : decode cX10_runs 282 = .ok (.iaload, 1) := by decide +kernel
theorem dX10_runs_283 : decode cX10_runs 283 = .ok (.iadd, 1) := by decide +kernel
theorem dX10_runs_284 : decode cX10_runs 284 = .ok (.iastore, 1) := by decide +kernel
theorem dX10_runs_285 : decode cX10_runs 285 = .ok (.iinc 2 1, 3) := by decide +kernel
theorem dX10_runs_288 : decode cX10_runs 288 = .ok (.goto (-146), 3) := by decide +kernel
theorem dX10_runs_291 : decode cX10_runs 291 = .ok (.iconst 0, 1) := by decide +kernel
theorem dX10_runs_292 : decode cX10_runs 292 = .ok (.istore_n 2, 1) := by decide +kernel
theorem dX10_runs_293 : decode cX10_runs 293 = .ok (.iload_n 2, 1) := by decide +kernel
theorem dX10_runs_294 : decode cX10_runs 294 = .ok (.aload_n 0, 1) := by decide +kernel
theorem dX10_runs_295 : decode cX10_runs 295 = .ok (.getfield 151, 3) := by decide +kernel
theorem dX10_runs_298 : decode cX10_runs 298 = .ok (.if_icmp .ge 58, 3) := by decide +kernel
theorem dX10_runs_301 : decode cX10_runs 301 = .ok (.aload_n 0, 1) := by decide +kernel
theorem dX10_runs_302 : decode cX10_runs 302 = .ok (.getfield 133, 3) := by decide +kernel
theorem dX10_runs_305 : decode cX10_runs 305 = .ok (.iload_n 2, 1) := by decide +kernel
theorem dX10_runs_306 : decode cX10_runs 306 = .ok (.baload, 1) := by decide +kernel
theorem dX10_runs_307 : decode cX10_runs 307 = .ok (.ifCond .ne 43, 3) := by decide +kernel
theorem dX10_runs_310 : decode cX10_runs 310 = .ok (.aload_n 0, 1) := by decide +kernel
theorem dX10_runs_311 : decode cX10_runs 311 = .ok (.getfield 124, 3) := by decide +kernel
theorem dX10_runs_314 : decode cX10_runs 314 = .ok (.iload_n 2, 1) := by decide +kernel
theorem dX10_runs_315 : decode cX10_runs 315 = .ok (.iaload, 1) := by decide +kernel
theorem dX10_runs_316 : decode cX10_runs 316 = .ok (.aload_n 0, 1) := by decide +kernel
theorem dX10_runs_317 : decode cX10_runs 317 = .ok (.getfield 34, 3) := by decide +kernel
theorem dX10_runs_320 : decode cX10_runs 320 = .ok (.iload_n 2, 1) := by decide +kernel
theorem dX10_runs_321 : decode cX10_runs 321 = .ok (.iaload, 1) := by decide +kernel
theorem dX10_runs_322 : decode cX10_runs 322 = .ok (.if_icmp .ge 28, 3) := by decide +kernel
theorem dX10_runs_325 : decode cX10_runs 325 = .ok (.iload_n 1, 1) := by decide +kernel
theorem dX10_runs_326 : decode cX10_runs 326 = .ok (.aload_n 0, 1) := by decide +kernel
theorem dX10_runs_327 : decode cX10_runs 327 = .ok (.getfield 127, 3) := by decide +kernel
theorem dX10_runs_330 : decode cX10_runs 330 = .ok (.iload_n 2, 1) := by decide +kernel
theorem dX10_runs_331 : decode cX10_runs 331 = .ok (.iaload, 1) := by decide +kernel
theorem dX10_runs_332 : decode cX10_runs 332 = .ok (.if_icmp .lt 18, 3) := by decide +kernel
theorem dX10_runs_335 : decode cX10_runs 335 = .ok (.aload_n 0, 1) := by decide +kernel
theorem dX10_runs_336 : decode cX10_runs 336 = .ok (.iload_n 2, 1) := by decide +kernel
theorem dX10_runs_337 : decode cX10_runs 337 = .ok (.iload_n 1, 1) := by decide +kernel
theorem dX10_runs_338 : decode cX10_runs 338 = .ok (.invokevirtual 280, 3) := by decide +kernel
theorem dX10_runs_341 : decode cX10_runs 341 = .ok (.ifCond .ne 9, 3) := by decide +kernel
theorem dX10_runs_344 : decode cX10_runs 344 = .ok (.aload_n 0, 1) := by decide +kernel
theorem dX10_runs_345 : decode cX10_runs 345 = .ok (.iload_n 2, 1) := by decide +kernel
theorem dX10_runs_346 : decode cX10_runs 346 = .ok (.iload_n 1, 1) := by decide +kernel
theorem dX10_runs_347 : decode cX10_runs 347 = .ok (.invokevirtual 284, 3) := by decide +kernel
theorem dX10_runs_350 : decode cX10_runs 350 = .ok (.iinc 2 1, 3) := by decide +kernel
theorem dX10_runs_353 : decode cX10_runs 353 = .ok (.goto (-60), 3) := by decide +kernel
theorem dX10_runs_356 : decode cX10_runs 356 = .ok (.iinc 1 1, 3) := by decide +kernel
theorem dX10_runs_359 : decode cX10_runs 359 = .ok (.goto (-226), 3) := by decide +kernel
theorem dX10_runs_362 : decode cX10_runs 362 = .ok (.return_, 1) := by decide +kernel
theorem dX10_truth_0 : decode cX10_truth 0 = .ok (.aload_n 0, 1) := by decide +kernel
theorem dX10_truth_1 : decode cX10_truth 1 = .ok (.iload_n 1, 1) := by decide +kernel
theorem dX10_truth_2 : decode cX10_truth 2 = .ok (.invokevirtual 169, 3) := by decide +kernel
theorem dX10_truth_5 : decode cX10_truth 5 = .ok (.ifCond .eq 17, 3) := by decide +kernel
theorem dX10_truth_8 : decode cX10_truth 8 = .ok (.iload_n 2, 1) := by decide +kernel
theorem dX10_truth_9 : decode cX10_truth 9 = .ok (.ifCond .lt 13, 3) := by decide +kernel
theorem dX10_truth_12 : decode cX10_truth 12 = .ok (.iload_n 2, 1) := by decide +kernel
theorem dX10_truth_13 : decode cX10_truth 13 = .ok (.aload_n 0, 1) := by decide +kernel
theorem dX10_truth_14 : decode cX10_truth 14 = .ok (.getfield 34, 3) := by decide +kernel
theorem dX10_truth_17 : decode cX10_truth 17 = .ok (.iload_n 1, 1) := by decide +kernel
theorem dX10_truth_18 : decode cX10_truth 18 = .ok (.iaload, 1) := by decide +kernel
theorem dX10_truth_19 : decode cX10_truth 19 = .ok (.if_icmp .le 5, 3) := by decide +kernel
theorem dX10_truth_22 : decode cX10_truth 22 = .ok (.iconst (-1), 1) := by decide +kernel
theorem dX10_truth_23 : decode cX10_truth 23 = .ok (.ireturn, 1) := by decide +kernel
theorem dX10_truth_24 : decode cX10_truth 24 = .ok (.aload_n 0, 1) := by decide +kernel
theorem dX10_truth_25 : decode cX10_truth 25 = .ok (.invokevirtual 288, 3) := by decide +kernel
theorem dX10_truth_28 : decode cX10_truth 28 = .ok (.bipush 7, 2) := by decide +kernel
theorem dX10_truth_30 : decode cX10_truth 30 = .ok (.iload_n 1, 1) := by decide +kernel
theorem dX10_truth_31 : decode cX10_truth 31 = .ok (.imul, 1) := by decide +kernel
theorem dX10_truth_32 : decode cX10_truth 32 = .ok (.iload_n 2, 1) := by decide +kernel
theorem dX10_truth_33 : decode cX10_truth 33 = .ok (.iadd, 1) := by decide +kernel
theorem dX10_truth_34 : decode cX10_truth 34 = .ok (.istore 4, 2) := by decide +kernel
theorem dX10_truth_36 : decode cX10_truth 36 = .ok (.iload_n 3, 1) := by decide +kernel
theorem dX10_truth_37 : decode cX10_truth 37 = .ok (.tableswitch 120 0 3 #[31, 39, 47, 70], 31) := by decide +kernel
theorem dX10_truth_68 : decode cX10_truth 68 = .ok (.aload_n 0, 1) := by decide +kernel
theorem dX10_truth_69 : decode cX10_truth 69 = .ok (.getfield 109, 3) := by decide +kernel
theorem dX10_truth_72 : decode cX10_truth 72 = .ok (.iload 4, 2) := by decide +kernel
theorem dX10_truth_74 : decode cX10_truth 74 = .ok (.iaload, 1) := by decide +kernel
theorem dX10_truth_75 : decode cX10_truth 75 = .ok (.ireturn, 1) := by decide +kernel
theorem dX10_truth_76 : decode cX10_truth 76 = .ok (.aload_n 0, 1) := by decide +kernel
theorem dX10_truth_77 : decode cX10_truth 77 = .ok (.getfield 112, 3) := by decide +kernel
theorem dX10_truth_80 : decode cX10_truth 80 = .ok (.iload 4, 2) := by decide +kernel
theorem dX10_truth_82 : decode cX10_truth 82 = .ok (.iaload, 1) := by decide +kernel
theorem dX10_truth_83 : decode cX10_truth 83 = .ok (.ireturn, 1) := by decide +kernel
theorem dX10_truth_84 : decode cX10_truth 84 = .ok (.aload_n 0, 1) := by decide +kernel
theorem dX10_truth_85 : decode cX10_truth 85 = .ok (.getfield 112, 3) := by decide +kernel
theorem dX10_truth_88 : decode cX10_truth 88 = .ok (.iload 4, 2) := by decide +kernel
theorem dX10_truth_90 : decode cX10_truth 90 = .ok (.iaload, 1) := by decide +kernel
theorem dX10_truth_91 : decode cX10_truth 91 = .ok (.iconst (-1), 1) := by decide +kernel
theorem dX10_truth_92 : decode cX10_truth 92 = .ok (.if_icmp .ne 7, 3) := by decide +kernel
theorem dX10_truth_95 : decode cX10_truth 95 = .ok (.iconst (-1), 1) := by decide +kernel
theorem dX10_truth_96 : decode cX10_truth 96 = .ok (.goto 10, 3) := by decide +kernel
theorem dX10_truth_99 : decode cX10_truth 99 = .ok (.aload_n 0, 1) := by decide +kernel
theorem dX10_truth_100 : decode cX10_truth 100 = .ok (.getfield 115, 3) := by decide +kernel
theorem dX10_truth_103 : decode cX10_truth 103 = .ok (.iload 4, 2) := by decide +kernel
theorem dX10_truth_105 : decode cX10_truth 105 = .ok (.iaload, 1) := by decide +kernel
theorem dX10_truth_106 : decode cX10_truth 106 = .ok (.ireturn, 1) := by decide +kernel
theorem dX10_truth_107 : decode cX10_truth 107 = .ok (.aload_n 0, 1) := by decide +kernel
theorem dX10_truth_108 : decode cX10_truth 108 = .ok (.getfield 109, 3) := by decide +kernel
theorem dX10_truth_111 : decode cX10_truth 111 = .ok (.iload 4, 2) := by decide +kernel
theorem dX10_truth_113 : decode cX10_truth 113 = .ok (.iaload, 1) := by decide +kernel
theorem dX10_truth_114 : decode cX10_truth 114 = .ok (.iconst (-1), 1) := by decide +kernel
theorem dX10_truth_115 : decode cX10_truth 115 = .ok (.if_icmp .ne 7, 3) := by decide +kernel
theorem dX10_truth_118 : decode cX10_truth 118 = .ok (.iconst (-1), 1) := by decide +kernel
theorem dX10_truth_119 : decode cX10_truth 119 = .ok (.goto 37, 3) := by decide +kernel
theorem dX10_truth_122 : decode cX10_truth 122 = .ok (.aload_n 0, 1) := by decide +kernel
theorem dX10_truth_123 : decode cX10_truth 123 = .ok (.getfield 109, 3) := by decide +kernel
theorem dX10_truth_126 : decode cX10_truth 126 = .ok (.iload 4, 2) := by decide +kernel
theorem dX10_truth_128 : decode cX10_truth 128 = .ok (.iaload, 1) := by decide +kernel
theorem dX10_truth_129 : decode cX10_truth 129 = .ok (.aload_n 0, 1) := by decide +kernel
theorem dX10_truth_130 : decode cX10_truth 130 = .ok (.iload_n 1, 1) := by decide +kernel
theorem dX10_truth_131 : decode cX10_truth 131 = .ok (.iload_n 2, 1) := by decide +kernel
theorem dX10_truth_132 : decode cX10_truth 132 = .ok (.invokevirtual 259, 3) := by decide +kernel
theorem dX10_truth_135 : decode cX10_truth 135 = .ok (.if_icmp .le 20, 3) := by decide +kernel
theorem dX10_truth_138 : decode cX10_truth 138 = .ok (.aload_n 0, 1) := by decide +kernel
theorem dX10_truth_139 : decode cX10_truth 139 = .ok (.getfield 109, 3) := by decide +kernel
theorem dX10_truth_142 : decode cX10_truth 142 = .ok (.iload 4, 2) := by decide +kernel
theorem dX10_truth_144 : decode cX10_truth 144 = .ok (.iaload, 1) := by decide +kernel
theorem dX10_truth_145 : decode cX10_truth 145 = .ok (.aload_n 0, 1) := by decide +kernel
theorem dX10_truth_146 : decode cX10_truth 146 = .ok (.iload_n 1, 1) := by decide +kernel
theorem dX10_truth_147 : decode cX10_truth 147 = .ok (.iload_n 2, 1) := by decide +kernel
theorem dX10_truth_148 : decode cX10_truth 148 = .ok (.invokevirtual 259, 3) := by decide +kernel
theorem dX10_truth_151 : decode cX10_truth 151 = .ok (.isub, 1) := by decide +kernel
theorem dX10_truth_152 : decode cX10_truth 152 = .ok (.goto 4, 3) := by decide +kernel
theorem dX10_truth_155 : decode cX10_truth 155 = .ok (.iconst 0, 1) := by decide +kernel
theorem dX10_truth_156 : decode cX10_truth 156 = .ok (.ireturn, 1) := by decide +kernel
theorem dX10_truth_157 : decode cX10_truth 157 = .ok (.iconst (-1), 1) := by decide +kernel
theorem dX10_truth_158 : decode cX10_truth 158 = .ok (.ireturn, 1) := by decide +kernel
theorem dX10_share_0 : decode cX10_share 0 = .ok (.aload_n 0, 1) := by decide +kernel
theorem dX10_share_1 : decode cX10_share 1 = .ok (.iload_n 1, 1) := by decide +kernel
theorem dX10_share_2 : decode cX10_share 2 = .ok (.invokevirtual 169, 3) := by decide +kernel
theorem dX10_share_5 : decode cX10_share 5 = .ok (.ifCond .eq 28, 3) := by decide +kernel
theorem dX10_share_8 : decode cX10_share 8 = .ok (.iload_n 2, 1) := by decide +kernel
theorem dX10_share_9 : decode cX10_share 9 = .ok (.iconst 1, 1) := by decide +kernel
theorem dX10_share_10 : decode cX10_share 10 = .ok (.if_icmp .lt 23, 3) := by decide +kernel
theorem dX10_share_13 : decode cX10_share 13 = .ok (.iload_n 2, 1) := by decide +kernel
theorem dX10_share_14 : decode cX10_share 14 = .ok (.aload_n 0, 1) := by decide +kernel
theorem dX10_share_15 : decode cX10_share 15 = .ok (.getfield 34, 3) := by decide +kernel
theorem dX10_share_18 : decode cX10_share 18 = .ok (.iload_n 1, 1) := by decide +kernel
theorem dX10_share_19 : decode cX10_share 19 = .ok (.iaload, 1) := by decide +kernel
theorem dX10_share_20 : decode cX10_share 20 = .ok (.if_icmp .gt 13, 3) := by decide +kernel
theorem dX10_share_23 : decode cX10_share 23 = .ok (.iload_n 3, 1) := by decide +kernel
theorem dX10_share_24 : decode cX10_share 24 = .ok (.iconst (-1), 1) := by decide +kernel
theorem dX10_share_25 : decode cX10_share 25 = .ok (.if_icmp .lt 8, 3) := by decide +kernel
theorem dX10_share_28 : decode cX10_share 28 = .ok (.iload_n 3, 1) := by decide +kernel
theorem dX10_share_29 : decode cX10_share 29 = .ok (.iconst 4, 1) := by decide +kernel
theorem dX10_share_30 : decode cX10_share 30 = .ok (.if_icmp .lt 5, 3) := by decide +kernel
theorem dX10_share_33 : decode cX10_share 33 = .ok (.iconst (-1), 1) := by decide +kernel
theorem dX10_share_34 : decode cX10_share 34 = .ok (.ireturn, 1) := by decide +kernel
theorem dX10_share_35 : decode cX10_share 35 = .ok (.aload_n 0, 1) := by decide +kernel
theorem dX10_share_36 : decode cX10_share 36 = .ok (.invokevirtual 288, 3) := by decide +kernel
theorem dX10_share_39 : decode cX10_share 39 = .ok (.bipush 7, 2) := by decide +kernel
theorem dX10_share_41 : decode cX10_share 41 = .ok (.iload_n 1, 1) := by decide +kernel
theorem dX10_share_42 : decode cX10_share 42 = .ok (.imul, 1) := by decide +kernel
theorem dX10_share_43 : decode cX10_share 43 = .ok (.iload_n 2, 1) := by decide +kernel
theorem dX10_share_44 : decode cX10_share 44 = .ok (.iadd, 1) := by decide +kernel
theorem dX10_share_45 : decode cX10_share 45 = .ok (.istore 4, 2) := by decide +kernel
theorem dX10_share_47 : decode cX10_share 47 = .ok (.aload_n 0, 1) := by decide +kernel
theorem dX10_share_48 : decode cX10_share 48 = .ok (.getfield 109, 3) := by decide +kernel
theorem dX10_share_51 : decode cX10_share 51 = .ok (.iload 4, 2) := by decide +kernel
theorem dX10_share_53 : decode cX10_share 53 = .ok (.iaload, 1) := by decide +kernel
theorem dX10_share_54 : decode cX10_share 54 = .ok (.iconst (-1), 1) := by decide +kernel
theorem dX10_share_55 : decode cX10_share 55 = .ok (.if_icmp .ne 5, 3) := by decide +kernel
theorem dX10_share_58 : decode cX10_share 58 = .ok (.iconst (-1), 1) := by decide +kernel
theorem dX10_share_59 : decode cX10_share 59 = .ok (.ireturn, 1) := by decide +kernel
theorem dX10_share_60 : decode cX10_share 60 = .ok (.iload_n 3, 1) := by decide +kernel
theorem dX10_share_61 : decode cX10_share 61 = .ok (.iconst (-1), 1) := by decide +kernel
theorem dX10_share_62 : decode cX10_share 62 = .ok (.if_icmp .ne 13, 3) := by decide +kernel
theorem dX10_share_65 : decode cX10_share 65 = .ok (.aload_n 0, 1) := by decide +kernel
theorem dX10_share_66 : decode cX10_share 66 = .ok (.getfield 118, 3) := by decide +kernel
theorem dX10_share_69 : decode cX10_share 69 = .ok (.iload 4, 2) := by decide +kernel
theorem dX10_share_71 : decode cX10_share 71 = .ok (.iaload, 1) := by decide +kernel
theorem dX10_share_72 : decode cX10_share 72 = .ok (.goto 14, 3) := by decide +kernel
theorem dX10_share_75 : decode cX10_share 75 = .ok (.aload_n 0, 1) := by decide +kernel
theorem dX10_share_76 : decode cX10_share 76 = .ok (.getfield 121, 3) := by decide +kernel
theorem dX10_share_79 : decode cX10_share 79 = .ok (.iconst 4, 1) := by decide +kernel
theorem dX10_share_80 : decode cX10_share 80 = .ok (.iload 4, 2) := by decide +kernel
theorem dX10_share_82 : decode cX10_share 82 = .ok (.imul, 1) := by decide +kernel
theorem dX10_share_83 : decode cX10_share 83 = .ok (.iload_n 3, 1) := by decide +kernel
theorem dX10_share_84 : decode cX10_share 84 = .ok (.iadd, 1) := by decide +kernel
theorem dX10_share_85 : decode cX10_share 85 = .ok (.iaload, 1) := by decide +kernel
theorem dX10_share_86 : decode cX10_share 86 = .ok (.ireturn, 1) := by decide +kernel
theorem dX10_owed_0 : decode cX10_owed 0 = .ok (.iload_n 1, 1) := by decide +kernel
theorem dX10_owed_1 : decode cX10_owed 1 = .ok (.ifCond .lt 8, 3) := by decide +kernel
theorem dX10_owed_4 : decode cX10_owed 4 = .ok (.iload_n 1, 1) := by decide +kernel
theorem dX10_owed_5 : decode cX10_owed 5 = .ok (.iconst 4, 1) := by decide +kernel
theorem dX10_owed_6 : decode cX10_owed 6 = .ok (.if_icmp .lt 7, 3) := by decide +kernel
theorem dX10_owed_9 : decode cX10_owed 9 = .ok (.ldc2_w 291, 3) := by decide +kernel
theorem dX10_owed_12 : decode cX10_owed 12 = .ok (.lreturn, 1) := by decide +kernel
theorem dX10_owed_13 : decode cX10_owed 13 = .ok (.aload_n 0, 1) := by decide +kernel
theorem dX10_owed_14 : decode cX10_owed 14 = .ok (.invokevirtual 288, 3) := by decide +kernel
theorem dX10_owed_17 : decode cX10_owed 17 = .ok (.lconst 0, 1) := by decide +kernel
theorem dX10_owed_18 : decode cX10_owed 18 = .ok (.lstore_n 2, 1) := by decide +kernel
theorem dX10_owed_19 : decode cX10_owed 19 = .ok (.iconst 0, 1) := by decide +kernel
theorem dX10_owed_20 : decode cX10_owed 20 = .ok (.istore 4, 2) := by decide +kernel
theorem dX10_owed_22 : decode cX10_owed 22 = .ok (.iload 4, 2) := by decide +kernel
theorem dX10_owed_24 : decode cX10_owed 24 = .ok (.aload_n 0, 1) := by decide +kernel
theorem dX10_owed_25 : decode cX10_owed 25 = .ok (.getfield 151, 3) := by decide +kernel
theorem dX10_owed_28 : decode cX10_owed 28 = .ok (.if_icmp .ge 80, 3) := by decide +kernel
theorem dX10_owed_31 : decode cX10_owed 31 = .ok (.iconst 1, 1) := by decide +kernel
theorem dX10_owed_32 : decode cX10_owed 32 = .ok (.istore 5, 2) := by decide +kernel
theorem dX10_owed_34 : decode cX10_owed 34 = .ok (.iload 5, 2) := by decide +kernel
theorem dX10_owed_36 : decode cX10_owed 36 = .ok (.aload_n 0, 1) := by decide +kernel
theorem dX10_owed_37 : decode cX10_owed 37 = .ok (.getfield 34, 3) := by decide +kernel
theorem dX10_owed_40 : decode cX10_owed 40 = .ok (.iload 4, 2) := by decide +kernel
theorem dX10_owed_42 : decode cX10_owed 42 = .ok (.iaload, 1) := by decide +kernel
theorem dX10_owed_43 : decode cX10_owed 43 = .ok (.if_icmp .gt 59, 3) := by decide +kernel
theorem dX10_owed_46 : decode cX10_owed 46 = .ok (.bipush 7, 2) := by decide +kernel
theorem dX10_owed_48 : decode cX10_owed 48 = .ok (.iload 4, 2) := by decide +kernel
theorem dX10_owed_50 : decode cX10_owed 50 = .ok (.imul, 1) := by decide +kernel
theorem dX10_owed_51 : decode cX10_owed 51 = .ok (.iload 5, 2) := by decide +kernel
theorem dX10_owed_53 : decode cX10_owed 53 = .ok (.iadd, 1) := by decide +kernel
theorem dX10_owed_54 : decode cX10_owed 54 = .ok (.istore 6, 2) := by decide +kernel
theorem dX10_owed_56 : decode cX10_owed 56 = .ok (.aload_n 0, 1) := by decide +kernel
theorem dX10_owed_57 : decode cX10_owed 57 = .ok (.getfield 109, 3) := by decide +kernel
theorem dX10_owed_60 : decode cX10_owed 60 = .ok (.iload 6, 2) := by decide +kernel
theorem dX10_owed_62 : decode cX10_owed 62 = .ok (.iaload, 1) := by decide +kernel
theorem dX10_owed_63 : decode cX10_owed 63 = .ok (.iconst (-1), 1) := by decide +kernel
theorem dX10_owed_64 : decode cX10_owed 64 = .ok (.if_icmp .eq 32, 3) := by decide +kernel
theorem dX10_owed_67 : decode cX10_owed 67 = .ok (.lload_n 2, 1) := by decide +kernel
theorem dX10_owed_68 : decode cX10_owed 68 = .ok (.aload_n 0, 1) := by decide +kernel
theorem dX10_owed_69 : decode cX10_owed 69 = .ok (.getfield 121, 3) := by decide +kernel
theorem dX10_owed_72 : decode cX10_owed 72 = .ok (.iconst 4, 1) := by decide +kernel
theorem dX10_owed_73 : decode cX10_owed 73 = .ok (.iload 6, 2) := by decide +kernel
theorem dX10_owed_75 : decode cX10_owed 75 = .ok (.imul, 1) := by decide +kernel
theorem dX10_owed_76 : decode cX10_owed 76 = .ok (.iload_n 1, 1) := by decide +kernel
theorem dX10_owed_77 : decode cX10_owed 77 = .ok (.iadd, 1) := by decide +kernel
theorem dX10_owed_78 : decode cX10_owed 78 = .ok (.iaload, 1) := by decide +kernel
theorem dX10_owed_79 : decode cX10_owed 79 = .ok (.i2l, 1) := by decide +kernel
theorem dX10_owed_80 : decode cX10_owed 80 = .ok (.aload_n 0, 1) := by decide +kernel
theorem dX10_owed_81 : decode cX10_owed 81 = .ok (.getfield 72, 3) := by decide +kernel
theorem dX10_owed_84 : decode cX10_owed 84 = .ok (.aload_n 0, 1) := by decide +kernel
theorem dX10_owed_85 : decode cX10_owed 85 = .ok (.getfield 22, 3) := by decide +kernel
theorem dX10_owed_88 : decode cX10_owed 88 = .ok (.iload 4, 2) := by decide +kernel
theorem dX10_owed_90 : decode cX10_owed 90 = .ok (.iaload, 1) := by decide +kernel
theorem dX10_owed_91 : decode cX10_owed 91 = .ok (.iaload, 1) := by decide +kernel
theorem dX10_owed_92 : decode cX10_owed 92 = .ok (.i2l, 1) := by decide +kernel
theorem dX10_owed_93 : decode cX10_owed 93 = .ok (.lmul, 1) := by decide +kernel
theorem dX10_owed_94 : decode cX10_owed 94 = .ok (.ladd, 1) := by decide +kernel
theorem dX10_owed_95 : decode cX10_owed 95 = .ok (.lstore_n 2, 1) := by decide +kernel
theorem dX10_owed_96 : decode cX10_owed 96 = .ok (.iinc 5 1, 3) := by decide +kernel
theorem dX10_owed_99 : decode cX10_owed 99 = .ok (.goto (-65), 3) := by decide +kernel
theorem dX10_owed_102 : decode cX10_owed 102 = .ok (.iinc 4 1, 3) := by decide +kernel
theorem dX10_owed_105 : decode cX10_owed 105 = .ok (.goto (-83), 3) := by decide +kernel
theorem dX10_owed_108 : decode cX10_owed 108 = .ok (.lload_n 2, 1) := by decide +kernel
theorem dX10_owed_109 : decode cX10_owed 109 = .ok (.lreturn, 1) := by decide +kernel
theorem dX10_leaving_0 : decode cX10_leaving 0 = .ok (.aload_n 0, 1) := by decide +kernel
theorem dX10_leaving_1 : decode cX10_leaving 1 = .ok (.getfield 293, 3) := by decide +kernel
theorem dX10_leaving_4 : decode cX10_leaving 4 = .ok (.ifCond .eq 17, 3) := by decide +kernel
theorem dX10_leaving_7 : decode cX10_leaving 7 = .ok (.aload_n 0, 1) := by decide +kernel
theorem dX10_leaving_8 : decode cX10_leaving 8 = .ok (.getfield 112, 3) := by decide +kernel
theorem dX10_leaving_11 : decode cX10_leaving 11 = .ok (.bipush 7, 2) := by decide +kernel
theorem dX10_leaving_13 : decode cX10_leaving 13 = .ok (.iload_n 1, 1) := by decide +kernel
theorem dX10_leaving_14 : decode cX10_leaving 14 = .ok (.imul, 1) := by decide +kernel
theorem dX10_leaving_15 : decode cX10_leaving 15 = .ok (.iload_n 2, 1) := by decide +kernel
theorem dX10_leaving_16 : decode cX10_leaving 16 = .ok (.iadd, 1) := by decide +kernel
theorem dX10_leaving_17 : decode cX10_leaving 17 = .ok (.iaload, 1) := by decide +kernel
theorem dX10_leaving_18 : decode cX10_leaving 18 = .ok (.goto 23, 3) := by decide +kernel
theorem dX10_leaving_21 : decode cX10_leaving 21 = .ok (.iload_n 2, 1) := by decide +kernel
theorem dX10_leaving_22 : decode cX10_leaving 22 = .ok (.aload_n 0, 1) := by decide +kernel
theorem dX10_leaving_23 : decode cX10_leaving 23 = .ok (.getfield 34, 3) := by decide +kernel
theorem dX10_leaving_26 : decode cX10_leaving 26 = .ok (.iload_n 1, 1) := by decide +kernel
theorem dX10_leaving_27 : decode cX10_leaving 27 = .ok (.iaload, 1) := by decide +kernel
theorem dX10_leaving_28 : decode cX10_leaving 28 = .ok (.if_icmp .ge 12, 3) := by decide +kernel
theorem dX10_leaving_31 : decode cX10_leaving 31 = .ok (.aload_n 0, 1) := by decide +kernel
theorem dX10_leaving_32 : decode cX10_leaving 32 = .ok (.iload_n 1, 1) := by decide +kernel
theorem dX10_leaving_33 : decode cX10_leaving 33 = .ok (.iload_n 2, 1) := by decide +kernel
theorem dX10_leaving_34 : decode cX10_leaving 34 = .ok (.invokevirtual 256, 3) := by decide +kernel
theorem dX10_leaving_37 : decode cX10_leaving 37 = .ok (.goto 4, 3) := by decide +kernel
theorem dX10_leaving_40 : decode cX10_leaving 40 = .ok (.iconst (-1), 1) := by decide +kernel
theorem dX10_leaving_41 : decode cX10_leaving 41 = .ok (.ireturn, 1) := by decide +kernel
theorem dX10_coming_0 : decode cX10_coming 0 = .ok (.aload_n 0, 1) := by decide +kernel
theorem dX10_coming_1 : decode cX10_coming 1 = .ok (.getfield 293, 3) := by decide +kernel
theorem dX10_coming_4 : decode cX10_coming 4 = .ok (.ifCond .eq 17, 3) := by decide +kernel
theorem dX10_coming_7 : decode cX10_coming 7 = .ok (.aload_n 0, 1) := by decide +kernel
theorem dX10_coming_8 : decode cX10_coming 8 = .ok (.getfield 109, 3) := by decide +kernel
theorem dX10_coming_11 : decode cX10_coming 11 = .ok (.bipush 7, 2) := by decide +kernel
theorem dX10_coming_13 : decode cX10_coming 13 = .ok (.iload_n 1, 1) := by decide +kernel
theorem dX10_coming_14 : decode cX10_coming 14 = .ok (.imul, 1) := by decide +kernel
theorem dX10_coming_15 : decode cX10_coming 15 = .ok (.iload_n 2, 1) := by decide +kernel
theorem dX10_coming_16 : decode cX10_coming 16 = .ok (.iadd, 1) := by decide +kernel
theorem dX10_coming_17 : decode cX10_coming 17 = .ok (.iaload, 1) := by decide +kernel
theorem dX10_coming_18 : decode cX10_coming 18 = .ok (.goto 9, 3) := by decide +kernel
theorem dX10_coming_21 : decode cX10_coming 21 = .ok (.aload_n 0, 1) := by decide +kernel
theorem dX10_coming_22 : decode cX10_coming 22 = .ok (.iload_n 1, 1) := by decide +kernel
theorem dX10_coming_23 : decode cX10_coming 23 = .ok (.iload_n 2, 1) := by decide +kernel
theorem dX10_coming_24 : decode cX10_coming 24 = .ok (.invokevirtual 259, 3) := by decide +kernel
theorem dX10_coming_27 : decode cX10_coming 27 = .ok (.ireturn, 1) := by decide +kernel
theorem dX10_earliest_0 : decode cX10_earliest 0 = .ok (.ldc_w 296, 3) := by decide +kernel
theorem dX10_earliest_3 : decode cX10_earliest 3 = .ok (.istore 5, 2) := by decide +kernel
theorem dX10_earliest_5 : decode cX10_earliest 5 = .ok (.iconst 0, 1) := by decide +kernel
theorem dX10_earliest_6 : decode cX10_earliest 6 = .ok (.istore 6, 2) := by decide +kernel
theorem dX10_earliest_8 : decode cX10_earliest 8 = .ok (.iload 6, 2) := by decide +kernel
theorem dX10_earliest_10 : decode cX10_earliest 10 = .ok (.bipush 8, 2) := by decide +kernel
theorem dX10_earliest_12 : decode cX10_earliest 12 = .ok (.if_icmp .ge 29, 3) := by decide +kernel
theorem dX10_earliest_15 : decode cX10_earliest 15 = .ok (.aload_n 0, 1) := by decide +kernel
theorem dX10_earliest_16 : decode cX10_earliest 16 = .ok (.getfield 136, 3) := by decide +kernel
theorem dX10_earliest_19 : decode cX10_earliest 19 = .ok (.iload 6, 2) := by decide +kernel
theorem dX10_earliest_21 : decode cX10_earliest 21 = .ok (.iload 6, 2) := by decide +kernel
theorem dX10_earliest_23 : decode cX10_earliest 23 = .ok (.iload_n 1, 1) := by decide +kernel
theorem dX10_earliest_24 : decode cX10_earliest 24 = .ok (.if_icmp .ne 7, 3) := by decide +kernel
theorem dX10_earliest_27 : decode cX10_earliest 27 = .ok (.iload_n 2, 1) := by decide +kernel
theorem dX10_earliest_28 : decode cX10_earliest 28 = .ok (.goto 6, 3) := by decide +kernel
theorem dX10_earliest_31 : decode cX10_earliest 31 = .ok (.ldc_w 296, 3) := by decide +kernel
theorem dX10_earliest_34 : decode cX10_earliest 34 = .ok (.iastore, 1) := by decide +kernel
theorem dX10_earliest_35 : decode cX10_earliest 35 = .ok (.iinc 6 1, 3) := by decide +kernel
theorem dX10_earliest_38 : decode cX10_earliest 38 = .ok (.goto (-30), 3) := by decide +kernel
theorem dX10_earliest_41 : decode cX10_earliest 41 = .ok (.iconst 0, 1) := by decide +kernel
theorem dX10_earliest_42 : decode cX10_earliest 42 = .ok (.istore 6, 2) := by decide +kernel
theorem dX10_earliest_44 : decode cX10_earliest 44 = .ok (.iload 6, 2) := by decide +kernel
theorem dX10_earliest_46 : decode cX10_earliest 46 = .ok (.iload 4, 2) := by decide +kernel
theorem dX10_earliest_48 : decode cX10_earliest 48 = .ok (.if_icmp .ge 250, 3) := by decide +kernel
theorem dX10_earliest_51 : decode cX10_earliest 51 = .ok (.iconst 0, 1) := by decide +kernel
theorem dX10_earliest_52 : decode cX10_earliest 52 = .ok (.istore 7, 2) := by decide +kernel
theorem dX10_earliest_54 : decode cX10_earliest 54 = .ok (.iload 7, 2) := by decide +kernel
theorem dX10_earliest_56 : decode cX10_earliest 56 = .ok (.bipush 8, 2) := by decide +kernel
theorem dX10_earliest_58 : decode cX10_earliest 58 = .ok (.if_icmp .ge 23, 3) := by decide +kernel
theorem dX10_earliest_61 : decode cX10_earliest 61 = .ok (.aload_n 0, 1) := by decide +kernel
theorem dX10_earliest_62 : decode cX10_earliest 62 = .ok (.getfield 139, 3) := by decide +kernel
theorem dX10_earliest_65 : decode cX10_earliest 65 = .ok (.iload 7, 2) := by decide +kernel
theorem dX10_earliest_67 : decode cX10_earliest 67 = .ok (.aload_n 0, 1) := by decide +kernel
theorem dX10_earliest_68 : decode cX10_earliest 68 = .ok (.getfield 136, 3) := by decide +kernel
theorem dX10_earliest_71 : decode cX10_earliest 71 = .ok (.iload 7, 2) := by decide +kernel
theorem dX10_earliest_73 : decode cX10_earliest 73 = .ok (.iaload, 1) := by decide +kernel
theorem dX10_earliest_74 : decode cX10_earliest 74 = .ok (.iastore, 1) := by decide +kernel
theorem dX10_earliest_75 : decode cX10_earliest 75 = .ok (.iinc 7 1, 3) := by decide +kernel
theorem dX10_earliest_78 : decode cX10_earliest 78 = .ok (.goto (-24), 3) := by decide +kernel
theorem dX10_earliest_81 : decode cX10_earliest 81 = .ok (.iconst 0, 1) := by decide +kernel
theorem dX10_earliest_82 : decode cX10_earliest 82 = .ok (.istore 7, 2) := by decide +kernel
theorem dX10_earliest_84 : decode cX10_earliest 84 = .ok (.iload 7, 2) := by decide +kernel
theorem dX10_earliest_86 : decode cX10_earliest 86 = .ok (.aload_n 0, 1) := by decide +kernel
theorem dX10_earliest_87 : decode cX10_earliest 87 = .ok (.getfield 151, 3) := by decide +kernel
theorem dX10_earliest_90 : decode cX10_earliest 90 = .ok (.if_icmp .ge 172, 3) := by decide +kernel
theorem dX10_earliest_93 : decode cX10_earliest 93 = .ok (.iconst 0, 1) := by decide +kernel
theorem dX10_earliest_94 : decode cX10_earliest 94 = .ok (.istore 8, 2) := by decide +kernel
theorem dX10_earliest_96 : decode cX10_earliest 96 = .ok (.iload 8, 2) := by decide +kernel
theorem dX10_earliest_98 : decode cX10_earliest 98 = .ok (.aload_n 0, 1) := by decide +kernel
theorem dX10_earliest_99 : decode cX10_earliest 99 = .ok (.getfield 34, 3) := by decide +kernel
theorem dX10_earliest_102 : decode cX10_earliest 102 = .ok (.iload 7, 2) := by decide +kernel
theorem dX10_earliest_104 : decode cX10_earliest 104 = .ok (.iaload, 1) := by decide +kernel
theorem dX10_earliest_105 : decode cX10_earliest 105 = .ok (.if_icmp .ge 151, 3) := by decide +kernel
theorem dX10_earliest_108 : decode cX10_earliest 108 = .ok (.aload_n 0, 1) := by decide +kernel
theorem dX10_earliest_109 : decode cX10_earliest 109 = .ok (.iload 7, 2) := by decide +kernel
theorem dX10_earliest_111 : decode cX10_earliest 111 = .ok (.iload 8, 2) := by decide +kernel
theorem dX10_earliest_113 : decode cX10_earliest 113 = .ok (.invokevirtual 297, 3) := by decide +kernel
theorem dX10_earliest_116 : decode cX10_earliest 116 = .ok (.istore 9, 2) := by decide +kernel
theorem dX10_earliest_118 : decode cX10_earliest 118 = .ok (.iload 9, 2) := by decide +kernel
theorem dX10_earliest_120 : decode cX10_earliest 120 = .ok (.iconst (-1), 1) := by decide +kernel
theorem dX10_earliest_121 : decode cX10_earliest 121 = .ok (.if_icmp .eq 129, 3) := by decide +kernel
theorem dX10_earliest_124 : decode cX10_earliest 124 = .ok (.iload 9, 2) := by decide +kernel
theorem dX10_earliest_126 : decode cX10_earliest 126 = .ok (.aload_n 0, 1) := by decide +kernel
theorem dX10_earliest_127 : decode cX10_earliest 127 = .ok (.getfield 136, 3) := by decide +kernel
theorem dX10_earliest_130 : decode cX10_earliest 130 = .ok (.aload_n 0, 1) := by decide +kernel
theorem dX10_earliest_131 : decode cX10_earliest 131 = .ok (.getfield 43, 3) := by decide +kernel
theorem dX10_earliest_134 : decode cX10_earliest 134 = .ok (.bipush 7, 2) := by decide +kernel
theorem dX10_earliest_136 : decode cX10_earliest 136 = .ok (.iload 7, 2) := by decide +kernel
theorem dX10_earliest_138 : decode cX10_earliest 138 = .ok (.imul, 1) := by decide +kernel
theorem dX10_earliest_139 : decode cX10_earliest 139 = .ok (.iload 8, 2) := by decide +kernel
theorem dX10_earliest_141 : decode cX10_earliest 141 = .ok (.iadd, 1) := by decide +kernel
theorem dX10_earliest_142 : decode cX10_earliest 142 = .ok (.iaload, 1) := by decide +kernel
theorem dX10_earliest_143 : decode cX10_earliest 143 = .ok (.iaload, 1) := by decide +kernel
theorem dX10_earliest_144 : decode cX10_earliest 144 = .ok (.if_icmp .ge 6, 3) := by decide +kernel
theorem dX10_earliest_147 : decode cX10_earliest 147 = .ok (.goto 103, 3) := by decide +kernel
theorem dX10_earliest_150 : decode cX10_earliest 150 = .ok (.iload 8, 2) := by decide +kernel
theorem dX10_earliest_152 : decode cX10_earliest 152 = .ok (.iconst 1, 1) := by decide +kernel
theorem dX10_earliest_153 : decode cX10_earliest 153 = .ok (.iadd, 1) := by decide +kernel
theorem dX10_earliest_154 : decode cX10_earliest 154 = .ok (.istore 10, 2) := by decide +kernel
theorem dX10_earliest_156 : decode cX10_earliest 156 = .ok (.iload 10, 2) := by decide +kernel
theorem dX10_earliest_158 : decode cX10_earliest 158 = .ok (.aload_n 0, 1) := by decide +kernel
theorem dX10_earliest_159 : decode cX10_earliest 159 = .ok (.getfield 34, 3) := by decide +kernel
theorem dX10_earliest_162 : decode cX10_earliest 162 = .ok (.iload 7, 2) := by decide +kernel
theorem dX10_earliest_164 : decode cX10_earliest 164 = .ok (.iaload, 1) := by decide +kernel
theorem dX10_earliest_165 : decode cX10_earliest 165 = .ok (.if_icmp .gt 85, 3) := by decide +kernel
theorem dX10_earliest_168 : decode cX10_earliest 168 = .ok (.aload_n 0, 1) := by decide +kernel
theorem dX10_earliest_169 : decode cX10_earliest 169 = .ok (.iload 7, 2) := by decide +kernel
theorem dX10_earliest_171 : decode cX10_earliest 171 = .ok (.iload 10, 2) := by decide +kernel
theorem dX10_earliest_173 : decode cX10_earliest 173 = .ok (.invokevirtual 300, 3) := by decide +kernel
theorem dX10_earliest_176 : decode cX10_earliest 176 = .ok (.istore 11, 2) := by decide +kernel
theorem dX10_earliest_178 : decode cX10_earliest 178 = .ok (.aload_n 0, 1) := by decide +kernel
theorem dX10_earliest_179 : decode cX10_earliest 179 = .ok (.getfield 43, 3) := by decide +kernel
theorem dX10_earliest_182 : decode cX10_earliest 182 = .ok (.bipush 7, 2) := by decide +kernel
theorem dX10_earliest_184 : decode cX10_earliest 184 = .ok (.iload 7, 2) := by decide +kernel
theorem dX10_earliest_186 : decode cX10_earliest 186 = .ok (.imul, 1) := by decide +kernel
theorem dX10_earliest_187 : decode cX10_earliest 187 = .ok (.iload 10, 2) := by decide +kernel
theorem dX10_earliest_189 : decode cX10_earliest 189 = .ok (.iadd, 1) := by decide +kernel
theorem dX10_earliest_190 : decode cX10_earliest 190 = .ok (.iaload, 1) := by decide +kernel
theorem dX10_earliest_191 : decode cX10_earliest 191 = .ok (.istore 12, 2) := by decide +kernel
theorem dX10_earliest_193 : decode cX10_earliest 193 = .ok (.iload 11, 2) := by decide +kernel
theorem dX10_earliest_195 : decode cX10_earliest 195 = .ok (.iconst (-1), 1) := by decide +kernel
theorem dX10_earliest_196 : decode cX10_earliest 196 = .ok (.if_icmp .ne 6, 3) := by decide +kernel
theorem dX10_earliest_199 : decode cX10_earliest 199 = .ok (.goto 45, 3) := by decide +kernel
theorem dX10_earliest_202 : decode cX10_earliest 202 = .ok (.iload 12, 2) := by decide +kernel
theorem dX10_earliest_204 : decode cX10_earliest 204 = .ok (.iload_n 3, 1) := by decide +kernel
theorem dX10_earliest_205 : decode cX10_earliest 205 = .ok (.if_icmp .ne 14, 3) := by decide +kernel
theorem dX10_earliest_208 : decode cX10_earliest 208 = .ok (.iload 11, 2) := by decide +kernel
theorem dX10_earliest_210 : decode cX10_earliest 210 = .ok (.iload 5, 2) := by decide +kernel
theorem dX10_earliest_212 : decode cX10_earliest 212 = .ok (.if_icmp .ge 7, 3) := by decide +kernel
theorem dX10_earliest_215 : decode cX10_earliest 215 = .ok (.iload 11, 2) := by decide +kernel
theorem dX10_earliest_217 : decode cX10_earliest 217 = .ok (.istore 5, 2) := by decide +kernel
theorem dX10_earliest_219 : decode cX10_earliest 219 = .ok (.iload 11, 2) := by decide +kernel
theorem dX10_earliest_221 : decode cX10_earliest 221 = .ok (.iconst 1, 1) := by decide +kernel
theorem dX10_earliest_222 : decode cX10_earliest 222 = .ok (.iadd, 1) := by decide +kernel
theorem dX10_earliest_223 : decode cX10_earliest 223 = .ok (.aload_n 0, 1) := by decide +kernel
theorem dX10_earliest_224 : decode cX10_earliest 224 = .ok (.getfield 139, 3) := by decide +kernel
theorem dX10_earliest_227 : decode cX10_earliest 227 = .ok (.iload 12, 2) := by decide +kernel
theorem dX10_earliest_229 : decode cX10_earliest 229 = .ok (.iaload, 1) := by decide +kernel
theorem dX10_earliest_230 : decode cX10_earliest 230 = .ok (.if_icmp .ge 14, 3) := by decide +kernel
theorem dX10_earliest_233 : decode cX10_earliest 233 = .ok (.aload_n 0, 1) := by decide +kernel
theorem dX10_earliest_234 : decode cX10_earliest 234 = .ok (.getfield 139, 3) := by decide +kernel
theorem dX10_earliest_237 : decode cX10_earliest 237 = .ok (.iload 12, 2) := by decide +kernel
theorem dX10_earliest_239 : decode cX10_earliest 239 = .ok (.iload 11, 2) := by decide +kernel
theorem dX10_earliest_241 : decode cX10_earliest 241 = .ok (.iconst 1, 1) := by decide +kernel
theorem dX10_earliest_242 : decode cX10_earliest 242 = .ok (.iadd, 1) := by decide +kernel
theorem dX10_earliest_243 : decode cX10_earliest 243 = .ok (.iastore, 1) := by decide +kernel
theorem dX10_earliest_244 : decode cX10_earliest 244 = .ok (.iinc 10 1, 3) := by decide +kernel
theorem dX10_earliest_247 : decode cX10_earliest 247 = .ok (.goto (-91), 3) := by decide +kernel
theorem dX10_earliest_250 : decode cX10_earliest 250 = .ok (.iinc 8 1, 3) := by decide +kernel
theorem dX10_earliest_253 : decode cX10_earliest 253 = .ok (.goto (-157), 3) := by decide +kernel
theorem dX10_earliest_256 : decode cX10_earliest 256 = .ok (.iinc 7 1, 3) := by decide +kernel
theorem dX10_earliest_259 : decode cX10_earliest 259 = .ok (.goto (-175), 3) := by decide +kernel
theorem dX10_earliest_262 : decode cX10_earliest 262 = .ok (.iconst 0, 1) := by decide +kernel
theorem dX10_earliest_263 : decode cX10_earliest 263 = .ok (.istore 7, 2) := by decide +kernel
theorem dX10_earliest_265 : decode cX10_earliest 265 = .ok (.iload 7, 2) := by decide +kernel
theorem dX10_earliest_267 : decode cX10_earliest 267 = .ok (.bipush 8, 2) := by decide +kernel
theorem dX10_earliest_269 : decode cX10_earliest 269 = .ok (.if_icmp .ge 23, 3) := by decide +kernel
theorem dX10_earliest_272 : decode cX10_earliest 272 = .ok (.aload_n 0, 1) := by decide +kernel
theorem dX10_earliest_273 : decode cX10_earliest 273 = .ok (.getfield 136, 3) := by decide +kernel
theorem dX10_earliest_276 : decode cX10_earliest 276 = .ok (.iload 7, 2) := by decide +kernel
theorem dX10_earliest_278 : decode cX10_earliest 278 = .ok (.aload_n 0, 1) := by decide +kernel
theorem dX10_earliest_279 : decode cX10_earliest 279 = .ok (.getfield 139, 3) := by decide +kernel
theorem dX10_earliest_282 : decode cX10_earliest 282 = .ok (.iload 7, 2) := by decide +kernel
theorem dX10_earliest_284 : decode cX10_earliest 284 = .ok (.iaload, 1) := by decide +kernel
theorem dX10_earliest_285 : decode cX10_earliest 285 = .ok (.iastore, 1) := by decide +kernel
theorem dX10_earliest_286 : decode cX10_earliest 286 = .ok (.iinc 7 1, 3) := by decide +kernel
theorem dX10_earliest_289 : decode cX10_earliest 289 = .ok (.goto (-24), 3) := by decide +kernel
theorem dX10_earliest_292 : decode cX10_earliest 292 = .ok (.iinc 6 1, 3) := by decide +kernel
theorem dX10_earliest_295 : decode cX10_earliest 295 = .ok (.goto (-251), 3) := by decide +kernel
theorem dX10_earliest_298 : decode cX10_earliest 298 = .ok (.iload 5, 2) := by decide +kernel
theorem dX10_earliest_300 : decode cX10_earliest 300 = .ok (.ireturn, 1) := by decide +kernel
theorem dX10_isRide_0 : decode cX10_isRide 0 = .ok (.aload_n 0, 1) := by decide +kernel
theorem dX10_isRide_1 : decode cX10_isRide 1 = .ok (.iload_n 1, 1) := by decide +kernel
theorem dX10_isRide_2 : decode cX10_isRide 2 = .ok (.iload_n 2, 1) := by decide +kernel
theorem dX10_isRide_3 : decode cX10_isRide 3 = .ok (.invokevirtual 297, 3) := by decide +kernel
theorem dX10_isRide_6 : decode cX10_isRide 6 = .ok (.istore 9, 2) := by decide +kernel
theorem dX10_isRide_8 : decode cX10_isRide 8 = .ok (.aload_n 0, 1) := by decide +kernel
theorem dX10_isRide_9 : decode cX10_isRide 9 = .ok (.getfield 43, 3) := by decide +kernel
theorem dX10_isRide_12 : decode cX10_isRide 12 = .ok (.bipush 7, 2) := by decide +kernel
theorem dX10_isRide_14 : decode cX10_isRide 14 = .ok (.iload_n 1, 1) := by decide +kernel
theorem dX10_isRide_15 : decode cX10_isRide 15 = .ok (.imul, 1) := by decide +kernel
theorem dX10_isRide_16 : decode cX10_isRide 16 = .ok (.iload_n 2, 1) := by decide +kernel
theorem dX10_isRide_17 : decode cX10_isRide 17 = .ok (.iadd, 1) := by decide +kernel
theorem dX10_isRide_18 : decode cX10_isRide 18 = .ok (.iaload, 1) := by decide +kernel
theorem dX10_isRide_19 : decode cX10_isRide 19 = .ok (.iload 4, 2) := by decide +kernel
theorem dX10_isRide_21 : decode cX10_isRide 21 = .ok (.if_icmp .ne 26, 3) := by decide +kernel
theorem dX10_isRide_24 : decode cX10_isRide 24 = .ok (.iload 9, 2) := by decide +kernel
theorem dX10_isRide_26 : decode cX10_isRide 26 = .ok (.iconst (-1), 1) := by decide +kernel
theorem dX10_isRide_27 : decode cX10_isRide 27 = .ok (.if_icmp .eq 20, 3) := by decide +kernel
theorem dX10_isRide_30 : decode cX10_isRide 30 = .ok (.iload 9, 2) := by decide +kernel
theorem dX10_isRide_32 : decode cX10_isRide 32 = .ok (.iload 5, 2) := by decide +kernel
theorem dX10_isRide_34 : decode cX10_isRide 34 = .ok (.if_icmp .lt 13, 3) := by decide +kernel
theorem dX10_isRide_37 : decode cX10_isRide 37 = .ok (.aload_n 0, 1) := by decide +kernel
theorem dX10_isRide_38 : decode cX10_isRide 38 = .ok (.iload_n 1, 1) := by decide +kernel
theorem dX10_isRide_39 : decode cX10_isRide 39 = .ok (.iload_n 3, 1) := by decide +kernel
theorem dX10_isRide_40 : decode cX10_isRide 40 = .ok (.invokevirtual 300, 3) := by decide +kernel
theorem dX10_isRide_43 : decode cX10_isRide 43 = .ok (.iconst (-1), 1) := by decide +kernel
theorem dX10_isRide_44 : decode cX10_isRide 44 = .ok (.if_icmp .ne 5, 3) := by decide +kernel
theorem dX10_isRide_47 : decode cX10_isRide 47 = .ok (.iconst 0, 1) := by decide +kernel
theorem dX10_isRide_48 : decode cX10_isRide 48 = .ok (.ireturn, 1) := by decide +kernel
theorem dX10_isRide_49 : decode cX10_isRide 49 = .ok (.aload_n 0, 1) := by decide +kernel
theorem dX10_isRide_50 : decode cX10_isRide 50 = .ok (.getfield 43, 3) := by decide +kernel
theorem dX10_isRide_53 : decode cX10_isRide 53 = .ok (.bipush 7, 2) := by decide +kernel
theorem dX10_isRide_55 : decode cX10_isRide 55 = .ok (.iload_n 1, 1) := by decide +kernel
theorem dX10_isRide_56 : decode cX10_isRide 56 = .ok (.imul, 1) := by decide +kernel
theorem dX10_isRide_57 : decode cX10_isRide 57 = .ok (.iload_n 3, 1) := by decide +kernel
theorem dX10_isRide_58 : decode cX10_isRide 58 = .ok (.iadd, 1) := by decide +kernel
theorem dX10_isRide_59 : decode cX10_isRide 59 = .ok (.iaload, 1) := by decide +kernel
theorem dX10_isRide_60 : decode cX10_isRide 60 = .ok (.istore 10, 2) := by decide +kernel
theorem dX10_isRide_62 : decode cX10_isRide 62 = .ok (.iload 8, 2) := by decide +kernel
theorem dX10_isRide_64 : decode cX10_isRide 64 = .ok (.ifCond .ne 27, 3) := by decide +kernel
theorem dX10_isRide_67 : decode cX10_isRide 67 = .ok (.iload 10, 2) := by decide +kernel
theorem dX10_isRide_69 : decode cX10_isRide 69 = .ok (.iload 6, 2) := by decide +kernel
theorem dX10_isRide_71 : decode cX10_isRide 71 = .ok (.if_icmp .ne 18, 3) := by decide +kernel
theorem dX10_isRide_74 : decode cX10_isRide 74 = .ok (.aload_n 0, 1) := by decide +kernel
theorem dX10_isRide_75 : decode cX10_isRide 75 = .ok (.iload_n 1, 1) := by decide +kernel
theorem dX10_isRide_76 : decode cX10_isRide 76 = .ok (.iload_n 3, 1) := by decide +kernel
theorem dX10_isRide_77 : decode cX10_isRide 77 = .ok (.invokevirtual 300, 3) := by decide +kernel
theorem dX10_isRide_80 : decode cX10_isRide 80 = .ok (.iload 7, 2) := by decide +kernel
theorem dX10_isRide_82 : decode cX10_isRide 82 = .ok (.if_icmp .ne 7, 3) := by decide +kernel
theorem dX10_isRide_85 : decode cX10_isRide 85 = .ok (.iconst 1, 1) := by decide +kernel
theorem dX10_isRide_86 : decode cX10_isRide 86 = .ok (.goto 4, 3) := by decide +kernel
theorem dX10_isRide_89 : decode cX10_isRide 89 = .ok (.iconst 0, 1) := by decide +kernel
theorem dX10_isRide_90 : decode cX10_isRide 90 = .ok (.ireturn, 1) := by decide +kernel
theorem dX10_isRide_91 : decode cX10_isRide 91 = .ok (.aload_n 0, 1) := by decide +kernel
theorem dX10_isRide_92 : decode cX10_isRide 92 = .ok (.iload 10, 2) := by decide +kernel
theorem dX10_isRide_94 : decode cX10_isRide 94 = .ok (.aload_n 0, 1) := by decide +kernel
theorem dX10_isRide_95 : decode cX10_isRide 95 = .ok (.iload_n 1, 1) := by decide +kernel
theorem dX10_isRide_96 : decode cX10_isRide 96 = .ok (.iload_n 3, 1) := by decide +kernel
theorem dX10_isRide_97 : decode cX10_isRide 97 = .ok (.invokevirtual 300, 3) := by decide +kernel
theorem dX10_isRide_100 : decode cX10_isRide 100 = .ok (.iconst 1, 1) := by decide +kernel
theorem dX10_isRide_101 : decode cX10_isRide 101 = .ok (.iadd, 1) := by decide +kernel
theorem dX10_isRide_102 : decode cX10_isRide 102 = .ok (.iload 6, 2) := by decide +kernel
theorem dX10_isRide_104 : decode cX10_isRide 104 = .ok (.iload 8, 2) := by decide +kernel
theorem dX10_isRide_106 : decode cX10_isRide 106 = .ok (.invokevirtual 303, 3) := by decide +kernel
theorem dX10_isRide_109 : decode cX10_isRide 109 = .ok (.iload 7, 2) := by decide +kernel
theorem dX10_isRide_111 : decode cX10_isRide 111 = .ok (.if_icmp .ne 7, 3) := by decide +kernel
theorem dX10_isRide_114 : decode cX10_isRide 114 = .ok (.iconst 1, 1) := by decide +kernel
theorem dX10_isRide_115 : decode cX10_isRide 115 = .ok (.goto 4, 3) := by decide +kernel
theorem dX10_isRide_118 : decode cX10_isRide 118 = .ok (.iconst 0, 1) := by decide +kernel
theorem dX10_isRide_119 : decode cX10_isRide 119 = .ok (.ireturn, 1) := by decide +kernel
theorem dX10_findsRide_0 : decode cX10_findsRide 0 = .ok (.iconst 0, 1) := by decide +kernel
theorem dX10_findsRide_1 : decode cX10_findsRide 1 = .ok (.istore 7, 2) := by decide +kernel
theorem dX10_findsRide_3 : decode cX10_findsRide 3 = .ok (.iload 7, 2) := by decide +kernel
theorem dX10_findsRide_5 : decode cX10_findsRide 5 = .ok (.aload_n 0, 1) := by decide +kernel
theorem dX10_findsRide_6 : decode cX10_findsRide 6 = .ok (.getfield 151, 3) := by decide +kernel
theorem dX10_findsRide_9 : decode cX10_findsRide 9 = .ok (.if_icmp .ge 104, 3) := by decide +kernel
theorem dX10_findsRide_12 : decode cX10_findsRide 12 = .ok (.iconst 0, 1) := by decide +kernel
theorem dX10_findsRide_13 : decode cX10_findsRide 13 = .ok (.istore 8, 2) := by decide +kernel
theorem dX10_findsRide_15 : decode cX10_findsRide 15 = .ok (.iload 8, 2) := by decide +kernel
theorem dX10_findsRide_17 : decode cX10_findsRide 17 = .ok (.aload_n 0, 1) := by decide +kernel
theorem dX10_findsRide_18 : decode cX10_findsRide 18 = .ok (.getfield 34, 3) := by decide +kernel
theorem dX10_findsRide_21 : decode cX10_findsRide 21 = .ok (.iload 7, 2) := by decide +kernel
theorem dX10_findsRide_23 : decode cX10_findsRide 23 = .ok (.iaload, 1) := by decide +kernel
theorem dX10_findsRide_24 : decode cX10_findsRide 24 = .ok (.if_icmp .ge 83, 3) := by decide +kernel
theorem dX10_findsRide_27 : decode cX10_findsRide 27 = .ok (.iload 8, 2) := by decide +kernel
theorem dX10_findsRide_29 : decode cX10_findsRide 29 = .ok (.iconst 1, 1) := by decide +kernel
theorem dX10_findsRide_30 : decode cX10_findsRide 30 = .ok (.iadd, 1) := by decide +kernel
theorem dX10_findsRide_31 : decode cX10_findsRide 31 = .ok (.istore 9, 2) := by decide +kernel
theorem dX10_findsRide_33 : decode cX10_findsRide 33 = .ok (.iload 9, 2) := by decide +kernel
theorem dX10_findsRide_35 : decode cX10_findsRide 35 = .ok (.aload_n 0, 1) := by decide +kernel
theorem dX10_findsRide_36 : decode cX10_findsRide 36 = .ok (.getfield 34, 3) := by decide +kernel
theorem dX10_findsRide_39 : decode cX10_findsRide 39 = .ok (.iload 7, 2) := by decide +kernel
theorem dX10_findsRide_41 : decode cX10_findsRide 41 = .ok (.iaload, 1) := by decide +kernel
theorem dX10_findsRide_42 : decode cX10_findsRide 42 = .ok (.if_icmp .gt 59, 3) := by decide +kernel
theorem dX10_findsRide_45 : decode cX10_findsRide 45 = .ok (.aload_n 0, 1) := by decide +kernel
theorem dX10_findsRide_46 : decode cX10_findsRide 46 = .ok (.iload 7, 2) := by decide +kernel
theorem dX10_findsRide_48 : decode cX10_findsRide 48 = .ok (.iload 8, 2) := by decide +kernel
theorem dX10_findsRide_50 : decode cX10_findsRide 50 = .ok (.iload 9, 2) := by decide +kernel
theorem dX10_findsRide_52 : decode cX10_findsRide 52 = .ok (.iload_n 2, 1) := by decide +kernel
theorem dX10_findsRide_53 : decode cX10_findsRide 53 = .ok (.iload_n 3, 1) := by decide +kernel
theorem dX10_findsRide_54 : decode cX10_findsRide 54 = .ok (.iload 4, 2) := by decide +kernel
theorem dX10_findsRide_56 : decode cX10_findsRide 56 = .ok (.iload 5, 2) := by decide +kernel
theorem dX10_findsRide_58 : decode cX10_findsRide 58 = .ok (.iload 6, 2) := by decide +kernel
theorem dX10_findsRide_60 : decode cX10_findsRide 60 = .ok (.invokevirtual 307, 3) := by decide +kernel
theorem dX10_findsRide_63 : decode cX10_findsRide 63 = .ok (.ifCond .ne 6, 3) := by decide +kernel
theorem dX10_findsRide_66 : decode cX10_findsRide 66 = .ok (.goto 29, 3) := by decide +kernel
theorem dX10_findsRide_69 : decode cX10_findsRide 69 = .ok (.aload_n 0, 1) := by decide +kernel
theorem dX10_findsRide_70 : decode cX10_findsRide 70 = .ok (.getfield 142, 3) := by decide +kernel
theorem dX10_findsRide_73 : decode cX10_findsRide 73 = .ok (.iload_n 1, 1) := by decide +kernel
theorem dX10_findsRide_74 : decode cX10_findsRide 74 = .ok (.iload 7, 2) := by decide +kernel
theorem dX10_findsRide_76 : decode cX10_findsRide 76 = .ok (.iastore, 1) := by decide +kernel
theorem dX10_findsRide_77 : decode cX10_findsRide 77 = .ok (.aload_n 0, 1) := by decide +kernel
theorem dX10_findsRide_78 : decode cX10_findsRide 78 = .ok (.getfield 145, 3) := by decide +kernel
theorem dX10_findsRide_81 : decode cX10_findsRide 81 = .ok (.iload_n 1, 1) := by decide +kernel
theorem dX10_findsRide_82 : decode cX10_findsRide 82 = .ok (.iload 8, 2) := by decide +kernel
theorem dX10_findsRide_84 : decode cX10_findsRide 84 = .ok (.iastore, 1) := by decide +kernel
theorem dX10_findsRide_85 : decode cX10_findsRide 85 = .ok (.aload_n 0, 1) := by decide +kernel
theorem dX10_findsRide_86 : decode cX10_findsRide 86 = .ok (.getfield 148, 3) := by decide +kernel
theorem dX10_findsRide_89 : decode cX10_findsRide 89 = .ok (.iload_n 1, 1) := by decide +kernel
theorem dX10_findsRide_90 : decode cX10_findsRide 90 = .ok (.iload 9, 2) := by decide +kernel
theorem dX10_findsRide_92 : decode cX10_findsRide 92 = .ok (.iastore, 1) := by decide +kernel
theorem dX10_findsRide_93 : decode cX10_findsRide 93 = .ok (.iconst 1, 1) := by decide +kernel
theorem dX10_findsRide_94 : decode cX10_findsRide 94 = .ok (.ireturn, 1) := by decide +kernel
theorem dX10_findsRide_95 : decode cX10_findsRide 95 = .ok (.iinc 9 1, 3) := by decide +kernel
theorem dX10_findsRide_98 : decode cX10_findsRide 98 = .ok (.goto (-65), 3) := by decide +kernel
theorem dX10_findsRide_101 : decode cX10_findsRide 101 = .ok (.iinc 8 1, 3) := by decide +kernel
theorem dX10_findsRide_104 : decode cX10_findsRide 104 = .ok (.goto (-89), 3) := by decide +kernel
theorem dX10_findsRide_107 : decode cX10_findsRide 107 = .ok (.iinc 7 1, 3) := by decide +kernel
theorem dX10_findsRide_110 : decode cX10_findsRide 110 = .ok (.goto (-107), 3) := by decide +kernel
theorem dX10_findsRide_113 : decode cX10_findsRide 113 = .ok (.iconst 0, 1) := by decide +kernel
theorem dX10_findsRide_114 : decode cX10_findsRide 114 = .ok (.ireturn, 1) := by decide +kernel
theorem dX10_areAsked_0 : decode cX10_areAsked 0 = .ok (.iload_n 0, 1) := by decide +kernel
theorem dX10_areAsked_1 : decode cX10_areAsked 1 = .ok (.invokestatic 154, 3) := by decide +kernel
theorem dX10_areAsked_4 : decode cX10_areAsked 4 = .ok (.ifCond .eq 30, 3) := by decide +kernel
theorem dX10_areAsked_7 : decode cX10_areAsked 7 = .ok (.iload_n 1, 1) := by decide +kernel
theorem dX10_areAsked_8 : decode cX10_areAsked 8 = .ok (.invokestatic 154, 3) := by decide +kernel
theorem dX10_areAsked_11 : decode cX10_areAsked 11 = .ok (.ifCond .eq 23, 3) := by decide +kernel
theorem dX10_areAsked_14 : decode cX10_areAsked 14 = .ok (.iload_n 0, 1) := by decide +kernel
theorem dX10_areAsked_15 : decode cX10_areAsked 15 = .ok (.iload_n 1, 1) := by decide +kernel
theorem dX10_areAsked_16 : decode cX10_areAsked 16 = .ok (.if_icmp .eq 18, 3) := by decide +kernel
theorem dX10_areAsked_19 : decode cX10_areAsked 19 = .ok (.iload_n 2, 1) := by decide +kernel
theorem dX10_areAsked_20 : decode cX10_areAsked 20 = .ok (.ifCond .lt 14, 3) := by decide +kernel
theorem dX10_areAsked_23 : decode cX10_areAsked 23 = .ok (.iload_n 2, 1) := by decide +kernel
theorem dX10_areAsked_24 : decode cX10_areAsked 24 = .ok (.sipush 20000, 3) := by decide +kernel
theorem dX10_areAsked_27 : decode cX10_areAsked 27 = .ok (.if_icmp .gt 7, 3) := by decide +kernel
theorem dX10_areAsked_30 : decode cX10_areAsked 30 = .ok (.iconst 1, 1) := by decide +kernel
theorem dX10_areAsked_31 : decode cX10_areAsked 31 = .ok (.goto 4, 3) := by decide +kernel
theorem dX10_areAsked_34 : decode cX10_areAsked 34 = .ok (.iconst 0, 1) := by decide +kernel
theorem dX10_areAsked_35 : decode cX10_areAsked 35 = .ok (.ireturn, 1) := by decide +kernel
theorem dX10_first_0 : decode cX10_first 0 = .ok (.iload_n 1, 1) := by decide +kernel
theorem dX10_first_1 : decode cX10_first 1 = .ok (.iload_n 2, 1) := by decide +kernel
theorem dX10_first_2 : decode cX10_first 2 = .ok (.iload_n 3, 1) := by decide +kernel
theorem dX10_first_3 : decode cX10_first 3 = .ok (.invokestatic 311, 3) := by decide +kernel
theorem dX10_first_6 : decode cX10_first 6 = .ok (.ifCond .ne 5, 3) := by decide +kernel
theorem dX10_first_9 : decode cX10_first 9 = .ok (.iconst (-1), 1) := by decide +kernel
theorem dX10_first_10 : decode cX10_first 10 = .ok (.ireturn, 1) := by decide +kernel
theorem dX10_first_11 : decode cX10_first 11 = .ok (.aload_n 0, 1) := by decide +kernel
theorem dX10_first_12 : decode cX10_first 12 = .ok (.invokevirtual 288, 3) := by decide +kernel
theorem dX10_first_15 : decode cX10_first 15 = .ok (.aload_n 0, 1) := by decide +kernel
theorem dX10_first_16 : decode cX10_first 16 = .ok (.iload 4, 2) := by decide +kernel
theorem dX10_first_18 : decode cX10_first 18 = .ok (.putfield 293, 3) := by decide +kernel
theorem dX10_first_21 : decode cX10_first 21 = .ok (.aload_n 0, 1) := by decide +kernel
theorem dX10_first_22 : decode cX10_first 22 = .ok (.iload_n 1, 1) := by decide +kernel
theorem dX10_first_23 : decode cX10_first 23 = .ok (.iload_n 3, 1) := by decide +kernel
theorem dX10_first_24 : decode cX10_first 24 = .ok (.iload_n 2, 1) := by decide +kernel
theorem dX10_first_25 : decode cX10_first 25 = .ok (.bipush 8, 2) := by decide +kernel
theorem dX10_first_27 : decode cX10_first 27 = .ok (.invokevirtual 303, 3) := by decide +kernel
theorem dX10_first_30 : decode cX10_first 30 = .ok (.istore 5, 2) := by decide +kernel
theorem dX10_first_32 : decode cX10_first 32 = .ok (.iload 5, 2) := by decide +kernel
theorem dX10_first_34 : decode cX10_first 34 = .ok (.ldc_w 296, 3) := by decide +kernel
theorem dX10_first_37 : decode cX10_first 37 = .ok (.if_icmp .ne 5, 3) := by decide +kernel
theorem dX10_first_40 : decode cX10_first 40 = .ok (.iconst (-1), 1) := by decide +kernel
theorem dX10_first_41 : decode cX10_first 41 = .ok (.ireturn, 1) := by decide +kernel
theorem dX10_first_42 : decode cX10_first 42 = .ok (.iconst 1, 1) := by decide +kernel
theorem dX10_first_43 : decode cX10_first 43 = .ok (.istore 6, 2) := by decide +kernel
theorem dX10_first_45 : decode cX10_first 45 = .ok (.aload_n 0, 1) := by decide +kernel
theorem dX10_first_46 : decode cX10_first 46 = .ok (.iload_n 1, 1) := by decide +kernel
theorem dX10_first_47 : decode cX10_first 47 = .ok (.iload_n 3, 1) := by decide +kernel
theorem dX10_first_48 : decode cX10_first 48 = .ok (.iload_n 2, 1) := by decide +kernel
theorem dX10_first_49 : decode cX10_first 49 = .ok (.iload 6, 2) := by decide +kernel
theorem dX10_first_51 : decode cX10_first 51 = .ok (.invokevirtual 303, 3) := by decide +kernel
theorem dX10_first_54 : decode cX10_first 54 = .ok (.iload 5, 2) := by decide +kernel
theorem dX10_first_56 : decode cX10_first 56 = .ok (.if_icmp .eq 12, 3) := by decide +kernel
theorem dX10_first_59 : decode cX10_first 59 = .ok (.iload 6, 2) := by decide +kernel
theorem dX10_first_61 : decode cX10_first 61 = .ok (.iconst 1, 1) := by decide +kernel
theorem dX10_first_62 : decode cX10_first 62 = .ok (.iadd, 1) := by decide +kernel
theorem dX10_first_63 : decode cX10_first 63 = .ok (.istore 6, 2) := by decide +kernel
theorem dX10_first_65 : decode cX10_first 65 = .ok (.goto (-20), 3) := by decide +kernel
theorem dX10_first_68 : decode cX10_first 68 = .ok (.aload_n 0, 1) := by decide +kernel
theorem dX10_first_69 : decode cX10_first 69 = .ok (.iload 6, 2) := by decide +kernel
theorem dX10_first_71 : decode cX10_first 71 = .ok (.putfield 314, 3) := by decide +kernel
theorem dX10_first_74 : decode cX10_first 74 = .ok (.iload_n 1, 1) := by decide +kernel
theorem dX10_first_75 : decode cX10_first 75 = .ok (.istore 7, 2) := by decide +kernel
theorem dX10_first_77 : decode cX10_first 77 = .ok (.iload_n 3, 1) := by decide +kernel
theorem dX10_first_78 : decode cX10_first 78 = .ok (.istore 8, 2) := by decide +kernel
theorem dX10_first_80 : decode cX10_first 80 = .ok (.iconst 0, 1) := by decide +kernel
theorem dX10_first_81 : decode cX10_first 81 = .ok (.istore 9, 2) := by decide +kernel
theorem dX10_first_83 : decode cX10_first 83 = .ok (.iload 9, 2) := by decide +kernel
theorem dX10_first_85 : decode cX10_first 85 = .ok (.iload 6, 2) := by decide +kernel
theorem dX10_first_87 : decode cX10_first 87 = .ok (.if_icmp .ge 77, 3) := by decide +kernel
theorem dX10_first_90 : decode cX10_first 90 = .ok (.aload_n 0, 1) := by decide +kernel
theorem dX10_first_91 : decode cX10_first 91 = .ok (.iload 9, 2) := by decide +kernel
theorem dX10_first_93 : decode cX10_first 93 = .ok (.iload 7, 2) := by decide +kernel
theorem dX10_first_95 : decode cX10_first 95 = .ok (.iload 8, 2) := by decide +kernel
theorem dX10_first_97 : decode cX10_first 97 = .ok (.iload_n 2, 1) := by decide +kernel
theorem dX10_first_98 : decode cX10_first 98 = .ok (.iload 5, 2) := by decide +kernel
theorem dX10_first_100 : decode cX10_first 100 = .ok (.iload 6, 2) := by decide +kernel
theorem dX10_first_102 : decode cX10_first 102 = .ok (.iconst 1, 1) := by decide +kernel
theorem dX10_first_103 : decode cX10_first 103 = .ok (.isub, 1) := by decide +kernel
theorem dX10_first_104 : decode cX10_first 104 = .ok (.iload 9, 2) := by decide +kernel
theorem dX10_first_106 : decode cX10_first 106 = .ok (.isub, 1) := by decide +kernel
theorem dX10_first_107 : decode cX10_first 107 = .ok (.invokevirtual 317, 3) := by decide +kernel
theorem dX10_first_110 : decode cX10_first 110 = .ok (.pop, 1) := by decide +kernel
theorem dX10_first_111 : decode cX10_first 111 = .ok (.aload_n 0, 1) := by decide +kernel
theorem dX10_first_112 : decode cX10_first 112 = .ok (.getfield 43, 3) := by decide +kernel
theorem dX10_first_115 : decode cX10_first 115 = .ok (.bipush 7, 2) := by decide +kernel
theorem dX10_first_117 : decode cX10_first 117 = .ok (.aload_n 0, 1) := by decide +kernel
theorem dX10_first_118 : decode cX10_first 118 = .ok (.getfield 142, 3) := by decide +kernel
theorem dX10_first_121 : decode cX10_first 121 = .ok (.iload 9, 2) := by decide +kernel
theorem dX10_first_123 : decode cX10_first 123 = .ok (.iaload, 1) := by decide +kernel
theorem dX10_first_124 : decode cX10_first 124 = .ok (.imul, 1) := by decide +kernel
theorem dX10_first_125 : decode cX10_first 125 = .ok (.aload_n 0, 1) := by decide +kernel
theorem dX10_first_126 : decode cX10_first 126 = .ok (.getfield 148, 3) := by decide +kernel
theorem dX10_first_129 : decode cX10_first 129 = .ok (.iload 9, 2) := by decide +kernel
theorem dX10_first_131 : decode cX10_first 131 = .ok (.iaload, 1) := by decide +kernel
theorem dX10_first_132 : decode cX10_first 132 = .ok (.iadd, 1) := by decide +kernel
theorem dX10_first_133 : decode cX10_first 133 = .ok (.iaload, 1) := by decide +kernel
theorem dX10_first_134 : decode cX10_first 134 = .ok (.istore 7, 2) := by decide +kernel
theorem dX10_first_136 : decode cX10_first 136 = .ok (.aload_n 0, 1) := by decide +kernel
theorem dX10_first_137 : decode cX10_first 137 = .ok (.aload_n 0, 1) := by decide +kernel
theorem dX10_first_138 : decode cX10_first 138 = .ok (.getfield 142, 3) := by decide +kernel
theorem dX10_first_141 : decode cX10_first 141 = .ok (.iload 9, 2) := by decide +kernel
theorem dX10_first_143 : decode cX10_first 143 = .ok (.iaload, 1) := by decide +kernel
theorem dX10_first_144 : decode cX10_first 144 = .ok (.aload_n 0, 1) := by decide +kernel
theorem dX10_first_145 : decode cX10_first 145 = .ok (.getfield 148, 3) := by decide +kernel
theorem dX10_first_148 : decode cX10_first 148 = .ok (.iload 9, 2) := by decide +kernel
theorem dX10_first_150 : decode cX10_first 150 = .ok (.iaload, 1) := by decide +kernel
theorem dX10_first_151 : decode cX10_first 151 = .ok (.invokevirtual 300, 3) := by decide +kernel
theorem dX10_first_154 : decode cX10_first 154 = .ok (.iconst 1, 1) := by decide +kernel
theorem dX10_first_155 : decode cX10_first 155 = .ok (.iadd, 1) := by decide +kernel
theorem dX10_first_156 : decode cX10_first 156 = .ok (.istore 8, 2) := by decide +kernel
theorem dX10_first_158 : decode cX10_first 158 = .ok (.iinc 9 1, 3) := by decide +kernel
theorem dX10_first_161 : decode cX10_first 161 = .ok (.goto (-78), 3) := by decide +kernel
theorem dX10_first_164 : decode cX10_first 164 = .ok (.iload 5, 2) := by decide +kernel
theorem dX10_first_166 : decode cX10_first 166 = .ok (.ireturn, 1) := by decide +kernel
theorem dX10_last_0 : decode cX10_last 0 = .ok (.iload_n 1, 1) := by decide +kernel
theorem dX10_last_1 : decode cX10_last 1 = .ok (.iload_n 2, 1) := by decide +kernel
theorem dX10_last_2 : decode cX10_last 2 = .ok (.iload_n 3, 1) := by decide +kernel
theorem dX10_last_3 : decode cX10_last 3 = .ok (.invokestatic 311, 3) := by decide +kernel
theorem dX10_last_6 : decode cX10_last 6 = .ok (.ifCond .ne 5, 3) := by decide +kernel
theorem dX10_last_9 : decode cX10_last 9 = .ok (.iconst (-1), 1) := by decide +kernel
theorem dX10_last_10 : decode cX10_last 10 = .ok (.ireturn, 1) := by decide +kernel
theorem dX10_last_11 : decode cX10_last 11 = .ok (.aload_n 0, 1) := by decide +kernel
theorem dX10_last_12 : decode cX10_last 12 = .ok (.invokevirtual 288, 3) := by decide +kernel
theorem dX10_last_15 : decode cX10_last 15 = .ok (.aload_n 0, 1) := by decide +kernel
theorem dX10_last_16 : decode cX10_last 16 = .ok (.iload 4, 2) := by decide +kernel
theorem dX10_last_18 : decode cX10_last 18 = .ok (.putfield 293, 3) := by decide +kernel
theorem dX10_last_21 : decode cX10_last 21 = .ok (.iconst 0, 1) := by decide +kernel
theorem dX10_last_22 : decode cX10_last 22 = .ok (.istore 5, 2) := by decide +kernel
theorem dX10_last_24 : decode cX10_last 24 = .ok (.iload 5, 2) := by decide +kernel
theorem dX10_last_26 : decode cX10_last 26 = .ok (.bipush 8, 2) := by decide +kernel
theorem dX10_last_28 : decode cX10_last 28 = .ok (.if_icmp .ge 17, 3) := by decide +kernel
theorem dX10_last_31 : decode cX10_last 31 = .ok (.aload_n 0, 1) := by decide +kernel
theorem dX10_last_32 : decode cX10_last 32 = .ok (.getfield 136, 3) := by decide +kernel
theorem dX10_last_35 : decode cX10_last 35 = .ok (.iload 5, 2) := by decide +kernel
theorem dX10_last_37 : decode cX10_last 37 = .ok (.iconst (-1), 1) := by decide +kernel
theorem dX10_last_38 : decode cX10_last 38 = .ok (.iastore, 1) := by decide +kernel
theorem dX10_last_39 : decode cX10_last 39 = .ok (.iinc 5 1, 3) := by decide +kernel
theorem dX10_last_42 : decode cX10_last 42 = .ok (.goto (-18), 3) := by decide +kernel
theorem dX10_last_45 : decode cX10_last 45 = .ok (.iconst 1, 1) := by decide +kernel
theorem dX10_last_46 : decode cX10_last 46 = .ok (.istore 5, 2) := by decide +kernel
theorem dX10_last_48 : decode cX10_last 48 = .ok (.iload 5, 2) := by decide +kernel
theorem dX10_last_50 : decode cX10_last 50 = .ok (.ifCond .eq 225, 3) := by decide +kernel
theorem dX10_last_53 : decode cX10_last 53 = .ok (.iconst 0, 1) := by decide +kernel
theorem dX10_last_54 : decode cX10_last 54 = .ok (.istore 5, 2) := by decide +kernel
theorem dX10_last_56 : decode cX10_last 56 = .ok (.iconst 0, 1) := by decide +kernel
theorem dX10_last_57 : decode cX10_last 57 = .ok (.istore 6, 2) := by decide +kernel
theorem dX10_last_59 : decode cX10_last 59 = .ok (.iload 6, 2) := by decide +kernel
theorem dX10_last_61 : decode cX10_last 61 = .ok (.aload_n 0, 1) := by decide +kernel
theorem dX10_last_62 : decode cX10_last 62 = .ok (.getfield 151, 3) := by decide +kernel
theorem dX10_last_65 : decode cX10_last 65 = .ok (.if_icmp .ge 207, 3) := by decide +kernel
theorem dX10_last_68 : decode cX10_last 68 = .ok (.iconst 0, 1) := by decide +kernel
theorem dX10_last_69 : decode cX10_last 69 = .ok (.istore 7, 2) := by decide +kernel
theorem dX10_last_71 : decode cX10_last 71 = .ok (.iload 7, 2) := by decide +kernel
theorem dX10_last_73 : decode cX10_last 73 = .ok (.aload_n 0, 1) := by decide +kernel
theorem dX10_last_74 : decode cX10_last 74 = .ok (.getfield 34, 3) := by decide +kernel
theorem dX10_last_77 : decode cX10_last 77 = .ok (.iload 6, 2) := by decide +kernel
theorem dX10_last_79 : decode cX10_last 79 = .ok (.iaload, 1) := by decide +kernel
theorem dX10_last_80 : decode cX10_last 80 = .ok (.if_icmp .ge 186, 3) := by decide +kernel
theorem dX10_last_83 : decode cX10_last 83 = .ok (.aload_n 0, 1) := by decide +kernel
theorem dX10_last_84 : decode cX10_last 84 = .ok (.iload 6, 2) := by decide +kernel
theorem dX10_last_86 : decode cX10_last 86 = .ok (.iload 7, 2) := by decide +kernel
theorem dX10_last_88 : decode cX10_last 88 = .ok (.invokevirtual 297, 3) := by decide +kernel
theorem dX10_last_91 : decode cX10_last 91 = .ok (.istore 8, 2) := by decide +kernel
theorem dX10_last_93 : decode cX10_last 93 = .ok (.aload_n 0, 1) := by decide +kernel
theorem dX10_last_94 : decode cX10_last 94 = .ok (.getfield 43, 3) := by decide +kernel
theorem dX10_last_97 : decode cX10_last 97 = .ok (.bipush 7, 2) := by decide +kernel
theorem dX10_last_99 : decode cX10_last 99 = .ok (.iload 6, 2) := by decide +kernel
theorem dX10_last_101 : decode cX10_last 101 = .ok (.imul, 1) := by decide +kernel
theorem dX10_last_102 : decode cX10_last 102 = .ok (.iload 7, 2) := by decide +kernel
theorem dX10_last_104 : decode cX10_last 104 = .ok (.iadd, 1) := by decide +kernel
theorem dX10_last_105 : decode cX10_last 105 = .ok (.iaload, 1) := by decide +kernel
theorem dX10_last_106 : decode cX10_last 106 = .ok (.istore 9, 2) := by decide +kernel
theorem dX10_last_108 : decode cX10_last 108 = .ok (.iload 8, 2) := by decide +kernel
theorem dX10_last_110 : decode cX10_last 110 = .ok (.iconst (-1), 1) := by decide +kernel
theorem dX10_last_111 : decode cX10_last 111 = .ok (.if_icmp .eq 149, 3) := by decide +kernel
theorem dX10_last_114 : decode cX10_last 114 = .ok (.iload 8, 2) := by decide +kernel
theorem dX10_last_116 : decode cX10_last 116 = .ok (.aload_n 0, 1) := by decide +kernel
theorem dX10_last_117 : decode cX10_last 117 = .ok (.getfield 136, 3) := by decide +kernel
theorem dX10_last_120 : decode cX10_last 120 = .ok (.iload 9, 2) := by decide +kernel
theorem dX10_last_122 : decode cX10_last 122 = .ok (.iaload, 1) := by decide +kernel
theorem dX10_last_123 : decode cX10_last 123 = .ok (.if_icmp .gt 6, 3) := by decide +kernel
theorem dX10_last_126 : decode cX10_last 126 = .ok (.goto 134, 3) := by decide +kernel
theorem dX10_last_129 : decode cX10_last 129 = .ok (.iload 7, 2) := by decide +kernel
theorem dX10_last_131 : decode cX10_last 131 = .ok (.iconst 1, 1) := by decide +kernel
theorem dX10_last_132 : decode cX10_last 132 = .ok (.iadd, 1) := by decide +kernel
theorem dX10_last_133 : decode cX10_last 133 = .ok (.istore 10, 2) := by decide +kernel
theorem dX10_last_135 : decode cX10_last 135 = .ok (.iload 10, 2) := by decide +kernel
theorem dX10_last_137 : decode cX10_last 137 = .ok (.aload_n 0, 1) := by decide +kernel
theorem dX10_last_138 : decode cX10_last 138 = .ok (.getfield 34, 3) := by decide +kernel
theorem dX10_last_141 : decode cX10_last 141 = .ok (.iload 6, 2) := by decide +kernel
theorem dX10_last_143 : decode cX10_last 143 = .ok (.iaload, 1) := by decide +kernel
theorem dX10_last_144 : decode cX10_last 144 = .ok (.if_icmp .gt 116, 3) := by decide +kernel
theorem dX10_last_147 : decode cX10_last 147 = .ok (.aload_n 0, 1) := by decide +kernel
theorem dX10_last_148 : decode cX10_last 148 = .ok (.iload 6, 2) := by decide +kernel
theorem dX10_last_150 : decode cX10_last 150 = .ok (.iload 10, 2) := by decide +kernel
theorem dX10_last_152 : decode cX10_last 152 = .ok (.invokevirtual 300, 3) := by decide +kernel
theorem dX10_last_155 : decode cX10_last 155 = .ok (.istore 11, 2) := by decide +kernel
theorem dX10_last_157 : decode cX10_last 157 = .ok (.aload_n 0, 1) := by decide +kernel
theorem dX10_last_158 : decode cX10_last 158 = .ok (.getfield 43, 3) := by decide +kernel
theorem dX10_last_161 : decode cX10_last 161 = .ok (.bipush 7, 2) := by decide +kernel
theorem dX10_last_163 : decode cX10_last 163 = .ok (.iload 6, 2) := by decide +kernel
theorem dX10_last_165 : decode cX10_last 165 = .ok (.imul, 1) := by decide +kernel
theorem dX10_last_166 : decode cX10_last 166 = .ok (.iload 10, 2) := by decide +kernel
theorem dX10_last_168 : decode cX10_last 168 = .ok (.iadd, 1) := by decide +kernel
theorem dX10_last_169 : decode cX10_last 169 = .ok (.iaload, 1) := by decide +kernel
theorem dX10_last_170 : decode cX10_last 170 = .ok (.istore 12, 2) := by decide +kernel
theorem dX10_last_172 : decode cX10_last 172 = .ok (.iload 11, 2) := by decide +kernel
theorem dX10_last_174 : decode cX10_last 174 = .ok (.iconst (-1), 1) := by decide +kernel
theorem dX10_last_175 : decode cX10_last 175 = .ok (.if_icmp .eq 44, 3) := by decide +kernel
theorem dX10_last_178 : decode cX10_last 178 = .ok (.iload 12, 2) := by decide +kernel
theorem dX10_last_180 : decode cX10_last 180 = .ok (.iload_n 2, 1) := by decide +kernel
theorem dX10_last_181 : decode cX10_last 181 = .ok (.if_icmp .ne 9, 3) := by decide +kernel
theorem dX10_last_184 : decode cX10_last 184 = .ok (.iload 11, 2) := by decide +kernel
theorem dX10_last_186 : decode cX10_last 186 = .ok (.iload_n 3, 1) := by decide +kernel
theorem dX10_last_187 : decode cX10_last 187 = .ok (.if_icmp .le 28, 3) := by decide +kernel
theorem dX10_last_190 : decode cX10_last 190 = .ok (.aload_n 0, 1) := by decide +kernel
theorem dX10_last_191 : decode cX10_last 191 = .ok (.getfield 136, 3) := by decide +kernel
theorem dX10_last_194 : decode cX10_last 194 = .ok (.iload 12, 2) := by decide +kernel
theorem dX10_last_196 : decode cX10_last 196 = .ok (.iaload, 1) := by decide +kernel
theorem dX10_last_197 : decode cX10_last 197 = .ok (.iconst (-1), 1) := by decide +kernel
theorem dX10_last_198 : decode cX10_last 198 = .ok (.if_icmp .eq 21, 3) := by decide +kernel
theorem dX10_last_201 : decode cX10_last 201 = .ok (.iload 11, 2) := by decide +kernel
theorem dX10_last_203 : decode cX10_last 203 = .ok (.iconst 1, 1) := by decide +kernel
theorem dX10_last_204 : decode cX10_last 204 = .ok (.iadd, 1) := by decide +kernel
theorem dX10_last_205 : decode cX10_last 205 = .ok (.aload_n 0, 1) := by decide +kernel
theorem dX10_last_206 : decode cX10_last 206 = .ok (.getfield 136, 3) := by decide +kernel
theorem dX10_last_209 : decode cX10_last 209 = .ok (.iload 12, 2) := by decide +kernel
theorem dX10_last_211 : decode cX10_last 211 = .ok (.iaload, 1) := by decide +kernel
theorem dX10_last_212 : decode cX10_last 212 = .ok (.if_icmp .gt 7, 3) := by decide +kernel
theorem dX10_last_215 : decode cX10_last 215 = .ok (.iconst 1, 1) := by decide +kernel
theorem dX10_last_216 : decode cX10_last 216 = .ok (.goto 4, 3) := by decide +kernel
theorem dX10_last_219 : decode cX10_last 219 = .ok (.iconst 0, 1) := by decide +kernel
theorem dX10_last_220 : decode cX10_last 220 = .ok (.istore 13, 2) := by decide +kernel
theorem dX10_last_222 : decode cX10_last 222 = .ok (.iload 13, 2) := by decide +kernel
theorem dX10_last_224 : decode cX10_last 224 = .ok (.ifCond .eq 30, 3) := by decide +kernel
theorem dX10_last_227 : decode cX10_last 227 = .ok (.iload 8, 2) := by decide +kernel
theorem dX10_last_229 : decode cX10_last 229 = .ok (.aload_n 0, 1) := by decide +kernel
theorem dX10_last_230 : decode cX10_last 230 = .ok (.getfield 136, 3) := by decide +kernel
theorem dX10_last_233 : decode cX10_last 233 = .ok (.iload 9, 2) := by decide +kernel
theorem dX10_last_235 : decode cX10_last 235 = .ok (.iaload, 1) := by decide +kernel
theorem dX10_last_236 : decode cX10_last 236 = .ok (.if_icmp .gt 6, 3) := by decide +kernel
theorem dX10_last_239 : decode cX10_last 239 = .ok (.goto 15, 3) := by decide +kernel
theorem dX10_last_242 : decode cX10_last 242 = .ok (.aload_n 0, 1) := by decide +kernel
theorem dX10_last_243 : decode cX10_last 243 = .ok (.getfield 136, 3) := by decide +kernel
theorem dX10_last_246 : decode cX10_last 246 = .ok (.iload 9, 2) := by decide +kernel
theorem dX10_last_248 : decode cX10_last 248 = .ok (.iload 8, 2) := by decide +kernel
theorem dX10_last_250 : decode cX10_last 250 = .ok (.iastore, 1) := by decide +kernel
theorem dX10_last_251 : decode cX10_last 251 = .ok (.iconst 1, 1) := by decide +kernel
theorem dX10_last_252 : decode cX10_last 252 = .ok (.istore 5, 2) := by decide +kernel
theorem dX10_last_254 : decode cX10_last 254 = .ok (.iinc 10 1, 3) := by decide +kernel
theorem dX10_last_257 : decode cX10_last 257 = .ok (.goto (-122), 3) := by decide +kernel
theorem dX10_last_260 : decode cX10_last 260 = .ok (.iinc 7 1, 3) := by decide +kernel
theorem dX10_last_263 : decode cX10_last 263 = .ok (.goto (-192), 3) := by decide +kernel
theorem dX10_last_266 : decode cX10_last 266 = .ok (.iinc 6 1, 3) := by decide +kernel
theorem dX10_last_269 : decode cX10_last 269 = .ok (.goto (-210), 3) := by decide +kernel
theorem dX10_last_272 : decode cX10_last 272 = .ok (.goto (-224), 3) := by decide +kernel
theorem dX10_last_275 : decode cX10_last 275 = .ok (.aload_n 0, 1) := by decide +kernel
theorem dX10_last_276 : decode cX10_last 276 = .ok (.getfield 136, 3) := by decide +kernel
theorem dX10_last_279 : decode cX10_last 279 = .ok (.iload_n 1, 1) := by decide +kernel
theorem dX10_last_280 : decode cX10_last 280 = .ok (.iaload, 1) := by decide +kernel
theorem dX10_last_281 : decode cX10_last 281 = .ok (.ireturn, 1) := by decide +kernel
theorem dX10_ride_0 : decode cX10_ride 0 = .ok (.iload_n 1, 1) := by decide +kernel
theorem dX10_ride_1 : decode cX10_ride 1 = .ok (.ifCond .lt 11, 3) := by decide +kernel
theorem dX10_ride_4 : decode cX10_ride 4 = .ok (.iload_n 1, 1) := by decide +kernel
theorem dX10_ride_5 : decode cX10_ride 5 = .ok (.aload_n 0, 1) := by decide +kernel
theorem dX10_ride_6 : decode cX10_ride 6 = .ok (.getfield 314, 3) := by decide +kernel
theorem dX10_ride_9 : decode cX10_ride 9 = .ok (.if_icmp .lt 5, 3) := by decide +kernel
theorem dX10_ride_12 : decode cX10_ride 12 = .ok (.iconst (-1), 1) := by decide +kernel
theorem dX10_ride_13 : decode cX10_ride 13 = .ok (.ireturn, 1) := by decide +kernel
theorem dX10_ride_14 : decode cX10_ride 14 = .ok (.iload_n 2, 1) := by decide +kernel
theorem dX10_ride_15 : decode cX10_ride 15 = .ok (.ifCond .ne 12, 3) := by decide +kernel
theorem dX10_ride_18 : decode cX10_ride 18 = .ok (.aload_n 0, 1) := by decide +kernel
theorem dX10_ride_19 : decode cX10_ride 19 = .ok (.getfield 142, 3) := by decide +kernel
theorem dX10_ride_22 : decode cX10_ride 22 = .ok (.iload_n 1, 1) := by decide +kernel
theorem dX10_ride_23 : decode cX10_ride 23 = .ok (.iaload, 1) := by decide +kernel
theorem dX10_ride_24 : decode cX10_ride 24 = .ok (.goto 32, 3) := by decide +kernel
theorem dX10_ride_27 : decode cX10_ride 27 = .ok (.iload_n 2, 1) := by decide +kernel
theorem dX10_ride_28 : decode cX10_ride 28 = .ok (.iconst 1, 1) := by decide +kernel
theorem dX10_ride_29 : decode cX10_ride 29 = .ok (.if_icmp .ne 12, 3) := by decide +kernel
theorem dX10_ride_32 : decode cX10_ride 32 = .ok (.aload_n 0, 1) := by decide +kernel
theorem dX10_ride_33 : decode cX10_ride 33 = .ok (.getfield 145, 3) := by decide +kernel
theorem dX10_ride_36 : decode cX10_ride 36 = .ok (.iload_n 1, 1) := by decide +kernel
theorem dX10_ride_37 : decode cX10_ride 37 = .ok (.iaload, 1) := by decide +kernel
theorem dX10_ride_38 : decode cX10_ride 38 = .ok (.goto 18, 3) := by decide +kernel
theorem dX10_ride_41 : decode cX10_ride 41 = .ok (.iload_n 2, 1) := by decide +kernel
theorem dX10_ride_42 : decode cX10_ride 42 = .ok (.iconst 2, 1) := by decide +kernel
theorem dX10_ride_43 : decode cX10_ride 43 = .ok (.if_icmp .ne 12, 3) := by decide +kernel
theorem dX10_ride_46 : decode cX10_ride 46 = .ok (.aload_n 0, 1) := by decide +kernel
theorem dX10_ride_47 : decode cX10_ride 47 = .ok (.getfield 148, 3) := by decide +kernel
theorem dX10_ride_50 : decode cX10_ride 50 = .ok (.iload_n 1, 1) := by decide +kernel
theorem dX10_ride_51 : decode cX10_ride 51 = .ok (.iaload, 1) := by decide +kernel
theorem dX10_ride_52 : decode cX10_ride 52 = .ok (.goto 4, 3) := by decide +kernel
theorem dX10_ride_55 : decode cX10_ride 55 = .ok (.iconst (-1), 1) := by decide +kernel
theorem dX10_ride_56 : decode cX10_ride 56 = .ok (.ireturn, 1) := by decide +kernel
theorem dX10_look_0 : decode cX10_look 0 = .ok (.aload_n 0, 1) := by decide +kernel
theorem dX10_look_1 : decode cX10_look 1 = .ok (.iload_n 1, 1) := by decide +kernel
theorem dX10_look_2 : decode cX10_look 2 = .ok (.invokevirtual 169, 3) := by decide +kernel
theorem dX10_look_5 : decode cX10_look 5 = .ok (.ifCond .ne 5, 3) := by decide +kernel
theorem dX10_look_8 : decode cX10_look 8 = .ok (.iconst (-1), 1) := by decide +kernel
theorem dX10_look_9 : decode cX10_look 9 = .ok (.ireturn, 1) := by decide +kernel
theorem dX10_look_10 : decode cX10_look 10 = .ok (.iload_n 2, 1) := by decide +kernel
theorem dX10_look_11 : decode cX10_look 11 = .ok (.tableswitch 89 0 5 #[37, 44, 51, 58, 65, 72], 37) := by decide +kernel
theorem dX10_look_48 : decode cX10_look 48 = .ok (.aload_n 0, 1) := by decide +kernel
theorem dX10_look_49 : decode cX10_look 49 = .ok (.getfield 22, 3) := by decide +kernel
theorem dX10_look_52 : decode cX10_look 52 = .ok (.iload_n 1, 1) := by decide +kernel
theorem dX10_look_53 : decode cX10_look 53 = .ok (.iaload, 1) := by decide +kernel
theorem dX10_look_54 : decode cX10_look 54 = .ok (.ireturn, 1) := by decide +kernel
theorem dX10_look_55 : decode cX10_look 55 = .ok (.aload_n 0, 1) := by decide +kernel
theorem dX10_look_56 : decode cX10_look 56 = .ok (.getfield 25, 3) := by decide +kernel
theorem dX10_look_59 : decode cX10_look 59 = .ok (.iload_n 1, 1) := by decide +kernel
theorem dX10_look_60 : decode cX10_look 60 = .ok (.iaload, 1) := by decide +kernel
theorem dX10_look_61 : decode cX10_look 61 = .ok (.ireturn, 1) := by decide +kernel
theorem dX10_look_62 : decode cX10_look 62 = .ok (.aload_n 0, 1) := by decide +kernel
theorem dX10_look_63 : decode cX10_look 63 = .ok (.getfield 28, 3) := by decide +kernel
theorem dX10_look_66 : decode cX10_look 66 = .ok (.iload_n 1, 1) := by decide +kernel
theorem dX10_look_67 : decode cX10_look 67 = .ok (.iaload, 1) := by decide +kernel
theorem dX10_look_68 : decode cX10_look 68 = .ok (.ireturn, 1) := by decide +kernel
theorem dX10_look_69 : decode cX10_look 69 = .ok (.aload_n 0, 1) := by decide +kernel
theorem dX10_look_70 : decode cX10_look 70 = .ok (.getfield 31, 3) := by decide +kernel
theorem dX10_look_73 : decode cX10_look 73 = .ok (.iload_n 1, 1) := by decide +kernel
theorem dX10_look_74 : decode cX10_look 74 = .ok (.iaload, 1) := by decide +kernel
theorem dX10_look_75 : decode cX10_look 75 = .ok (.ireturn, 1) := by decide +kernel
theorem dX10_look_76 : decode cX10_look 76 = .ok (.aload_n 0, 1) := by decide +kernel
theorem dX10_look_77 : decode cX10_look 77 = .ok (.getfield 34, 3) := by decide +kernel
theorem dX10_look_80 : decode cX10_look 80 = .ok (.iload_n 1, 1) := by decide +kernel
theorem dX10_look_81 : decode cX10_look 81 = .ok (.iaload, 1) := by decide +kernel
theorem dX10_look_82 : decode cX10_look 82 = .ok (.ireturn, 1) := by decide +kernel
theorem dX10_look_83 : decode cX10_look 83 = .ok (.aload_n 0, 1) := by decide +kernel
theorem dX10_look_84 : decode cX10_look 84 = .ok (.getfield 43, 3) := by decide +kernel
theorem dX10_look_87 : decode cX10_look 87 = .ok (.bipush 7, 2) := by decide +kernel
theorem dX10_look_89 : decode cX10_look 89 = .ok (.iload_n 1, 1) := by decide +kernel
theorem dX10_look_90 : decode cX10_look 90 = .ok (.imul, 1) := by decide +kernel
theorem dX10_look_91 : decode cX10_look 91 = .ok (.aload_n 0, 1) := by decide +kernel
theorem dX10_look_92 : decode cX10_look 92 = .ok (.getfield 34, 3) := by decide +kernel
theorem dX10_look_95 : decode cX10_look 95 = .ok (.iload_n 1, 1) := by decide +kernel
theorem dX10_look_96 : decode cX10_look 96 = .ok (.iaload, 1) := by decide +kernel
theorem dX10_look_97 : decode cX10_look 97 = .ok (.iadd, 1) := by decide +kernel
theorem dX10_look_98 : decode cX10_look 98 = .ok (.iaload, 1) := by decide +kernel
theorem dX10_look_99 : decode cX10_look 99 = .ok (.ireturn, 1) := by decide +kernel
theorem dX10_look_100 : decode cX10_look 100 = .ok (.iload_n 2, 1) := by decide +kernel
theorem dX10_look_101 : decode cX10_look 101 = .ok (.bipush 10, 2) := by decide +kernel
theorem dX10_look_103 : decode cX10_look 103 = .ok (.if_icmp .lt 33, 3) := by decide +kernel
theorem dX10_look_106 : decode cX10_look 106 = .ok (.iload_n 2, 1) := by decide +kernel
theorem dX10_look_107 : decode cX10_look 107 = .ok (.bipush 10, 2) := by decide +kernel
theorem dX10_look_109 : decode cX10_look 109 = .ok (.aload_n 0, 1) := by decide +kernel
theorem dX10_look_110 : decode cX10_look 110 = .ok (.getfield 34, 3) := by decide +kernel
theorem dX10_look_113 : decode cX10_look 113 = .ok (.iload_n 1, 1) := by decide +kernel
theorem dX10_look_114 : decode cX10_look 114 = .ok (.iaload, 1) := by decide +kernel
theorem dX10_look_115 : decode cX10_look 115 = .ok (.iadd, 1) := by decide +kernel
theorem dX10_look_116 : decode cX10_look 116 = .ok (.if_icmp .gt 20, 3) := by decide +kernel
theorem dX10_look_119 : decode cX10_look 119 = .ok (.aload_n 0, 1) := by decide +kernel
theorem dX10_look_120 : decode cX10_look 120 = .ok (.getfield 43, 3) := by decide +kernel
theorem dX10_look_123 : decode cX10_look 123 = .ok (.bipush 7, 2) := by decide +kernel
theorem dX10_look_125 : decode cX10_look 125 = .ok (.iload_n 1, 1) := by decide +kernel
theorem dX10_look_126 : decode cX10_look 126 = .ok (.imul, 1) := by decide +kernel
theorem dX10_look_127 : decode cX10_look 127 = .ok (.iload_n 2, 1) := by decide +kernel
theorem dX10_look_128 : decode cX10_look 128 = .ok (.iadd, 1) := by decide +kernel
theorem dX10_look_129 : decode cX10_look 129 = .ok (.bipush 10, 2) := by decide +kernel
theorem dX10_look_131 : decode cX10_look 131 = .ok (.isub, 1) := by decide +kernel
theorem dX10_look_132 : decode cX10_look 132 = .ok (.iaload, 1) := by decide +kernel
theorem dX10_look_133 : decode cX10_look 133 = .ok (.goto 4, 3) := by decide +kernel
theorem dX10_look_136 : decode cX10_look 136 = .ok (.iconst (-1), 1) := by decide +kernel
theorem dX10_look_137 : decode cX10_look 137 = .ok (.ireturn, 1) := by decide +kernel
theorem dX10_count_0 : decode cX10_count 0 = .ok (.iload_n 1, 1) := by decide +kernel
theorem dX10_count_1 : decode cX10_count 1 = .ok (.tableswitch 51 0 3 #[31, 36, 41, 46], 31) := by decide +kernel
theorem dX10_count_32 : decode cX10_count 32 = .ok (.aload_n 0, 1) := by decide +kernel
theorem dX10_count_33 : decode cX10_count 33 = .ok (.getfield 158, 3) := by decide +kernel
theorem dX10_count_36 : decode cX10_count 36 = .ok (.ireturn, 1) := by decide +kernel
theorem dX10_count_37 : decode cX10_count 37 = .ok (.aload_n 0, 1) := by decide +kernel
theorem dX10_count_38 : decode cX10_count 38 = .ok (.getfield 151, 3) := by decide +kernel
theorem dX10_count_41 : decode cX10_count 41 = .ok (.ireturn, 1) := by decide +kernel
theorem dX10_count_42 : decode cX10_count 42 = .ok (.aload_n 0, 1) := by decide +kernel
theorem dX10_count_43 : decode cX10_count 43 = .ok (.getfield 172, 3) := by decide +kernel
theorem dX10_count_46 : decode cX10_count 46 = .ok (.ireturn, 1) := by decide +kernel
theorem dX10_count_47 : decode cX10_count 47 = .ok (.aload_n 0, 1) := by decide +kernel
theorem dX10_count_48 : decode cX10_count 48 = .ok (.getfield 179, 3) := by decide +kernel
theorem dX10_count_51 : decode cX10_count 51 = .ok (.ireturn, 1) := by decide +kernel
theorem dX10_count_52 : decode cX10_count 52 = .ok (.iload_n 1, 1) := by decide +kernel
theorem dX10_count_53 : decode cX10_count 53 = .ok (.bipush 10, 2) := by decide +kernel
theorem dX10_count_55 : decode cX10_count 55 = .ok (.if_icmp .lt 19, 3) := by decide +kernel
theorem dX10_count_58 : decode cX10_count 58 = .ok (.iload_n 1, 1) := by decide +kernel
theorem dX10_count_59 : decode cX10_count 59 = .ok (.bipush 14, 2) := by decide +kernel
theorem dX10_count_61 : decode cX10_count 61 = .ok (.if_icmp .ge 13, 3) := by decide +kernel
theorem dX10_count_64 : decode cX10_count 64 = .ok (.aload_n 0, 1) := by decide +kernel
theorem dX10_count_65 : decode cX10_count 65 = .ok (.getfield 72, 3) := by decide +kernel
theorem dX10_count_68 : decode cX10_count 68 = .ok (.iload_n 1, 1) := by decide +kernel
theorem dX10_count_69 : decode cX10_count 69 = .ok (.bipush 10, 2) := by decide +kernel
theorem dX10_count_71 : decode cX10_count 71 = .ok (.isub, 1) := by decide +kernel
theorem dX10_count_72 : decode cX10_count 72 = .ok (.iaload, 1) := by decide +kernel
theorem dX10_count_73 : decode cX10_count 73 = .ok (.ireturn, 1) := by decide +kernel
theorem dX10_count_74 : decode cX10_count 74 = .ok (.iload_n 1, 1) := by decide +kernel
theorem dX10_count_75 : decode cX10_count 75 = .ok (.bipush 100, 2) := by decide +kernel
theorem dX10_count_77 : decode cX10_count 77 = .ok (.if_icmp .lt 33, 3) := by decide +kernel
theorem dX10_count_80 : decode cX10_count 80 = .ok (.iload_n 1, 1) := by decide +kernel
theorem dX10_count_81 : decode cX10_count 81 = .ok (.bipush 100, 2) := by decide +kernel
theorem dX10_count_83 : decode cX10_count 83 = .ok (.bipush 12, 2) := by decide +kernel
theorem dX10_count_85 : decode cX10_count 85 = .ok (.aload_n 0, 1) := by decide +kernel
theorem dX10_count_86 : decode cX10_count 86 = .ok (.getfield 158, 3) := by decide +kernel
theorem dX10_count_89 : decode cX10_count 89 = .ok (.imul, 1) := by decide +kernel
theorem dX10_count_90 : decode cX10_count 90 = .ok (.iadd, 1) := by decide +kernel
theorem dX10_count_91 : decode cX10_count 91 = .ok (.if_icmp .ge 19, 3) := by decide +kernel
theorem dX10_count_94 : decode cX10_count 94 = .ok (.aload_n 0, 1) := by decide +kernel
theorem dX10_count_95 : decode cX10_count 95 = .ok (.getfield 19, 3) := by decide +kernel
theorem dX10_count_98 : decode cX10_count 98 = .ok (.iload_n 1, 1) := by decide +kernel
theorem dX10_count_99 : decode cX10_count 99 = .ok (.bipush 100, 2) := by decide +kernel
theorem dX10_count_101 : decode cX10_count 101 = .ok (.isub, 1) := by decide +kernel
theorem dX10_count_102 : decode cX10_count 102 = .ok (.iaload, 1) := by decide +kernel
theorem dX10_count_103 : decode cX10_count 103 = .ok (.sipush 1000, 3) := by decide +kernel
theorem dX10_count_106 : decode cX10_count 106 = .ok (.iadd, 1) := by decide +kernel
theorem dX10_count_107 : decode cX10_count 107 = .ok (.goto 4, 3) := by decide +kernel
theorem dX10_count_110 : decode cX10_count 110 = .ok (.iconst (-1), 1) := by decide +kernel
theorem dX10_count_111 : decode cX10_count 111 = .ok (.ireturn, 1) := by decide +kernel
end
section
theorem dL_law_0 : decode cL_law 0 = .ok (.new 7, 3) := by decide +kernel
theorem dL_law_3 : decode cL_law 3 = .ok (.dup, 1) := by decide +kernel
theorem dL_law_4 : decode cL_law 4 = .ok (.invokespecial 9, 3) := by decide +kernel
theorem dL_law_7 : decode cL_law 7 = .ok (.astore_n 1, 1) := by decide +kernel
theorem dL_law_8 : decode cL_law 8 = .ok (.new 10, 3) := by decide +kernel
theorem dL_law_11 : decode cL_law 11 = .ok (.dup, 1) := by decide +kernel
theorem dL_law_12 : decode cL_law 12 = .ok (.invokespecial 12, 3) := by decide +kernel
theorem dL_law_15 : decode cL_law 15 = .ok (.astore_n 2, 1) := by decide +kernel
theorem dL_law_16 : decode cL_law 16 = .ok (.iconst 0, 1) := by decide +kernel
theorem dL_law_17 : decode cL_law 17 = .ok (.istore_n 3, 1) := by decide +kernel
theorem dL_law_18 : decode cL_law 18 = .ok (.iload_n 3, 1) := by decide +kernel
theorem dL_law_19 : decode cL_law 19 = .ok (.aload_n 0, 1) := by decide +kernel
theorem dL_law_20 : decode cL_law 20 = .ok (.arraylength, 1) := by decide +kernel
theorem dL_law_21 : decode cL_law 21 = .ok (.bipush 6, 2) := by decide +kernel
theorem dL_law_23 : decode cL_law 23 = .ok (.isub, 1) := by decide +kernel
theorem dL_law_24 : decode cL_law 24 = .ok (.if_icmp .gt 889, 3) := by decide +kernel
theorem dL_law_27 : decode cL_law 27 = .ok (.aload_n 0, 1) := by decide +kernel
theorem dL_law_28 : decode cL_law 28 = .ok (.iload_n 3, 1) := by decide +kernel
theorem dL_law_29 : decode cL_law 29 = .ok (.iaload, 1) := by decide +kernel
theorem dL_law_30 : decode cL_law 30 = .ok (.bipush 31, 2) := by decide +kernel
theorem dL_law_32 : decode cL_law 32 = .ok (.iand, 1) := by decide +kernel
theorem dL_law_33 : decode cL_law 33 = .ok (.tableswitch 874 0 17 #[87, 150, 193, 246, 309, 342, 385, 438, 471, 494, 537, 580, 623, 647, 716, 785, 818, 851], 87) := by decide +kernel
theorem dL_law_120 : decode cL_law 120 = .ok (.aload_n 1, 1) := by decide +kernel
theorem dL_law_121 : decode cL_law 121 = .ok (.aload_n 0, 1) := by decide +kernel
theorem dL_law_122 : decode cL_law 122 = .ok (.iload_n 3, 1) := by decide +kernel
theorem dL_law_123 : decode cL_law 123 = .ok (.iconst 1, 1) := by decide +kernel
theorem dL_law_124 : decode cL_law 124 = .ok (.iadd, 1) := by decide +kernel
theorem dL_law_125 : decode cL_law 125 = .ok (.iaload, 1) := by decide +kernel
theorem dL_law_126 : decode cL_law 126 = .ok (.aload_n 0, 1) := by decide +kernel
theorem dL_law_127 : decode cL_law 127 = .ok (.iload_n 3, 1) := by decide +kernel
theorem dL_law_128 : decode cL_law 128 = .ok (.iconst 2, 1) := by decide +kernel
theorem dL_law_129 : decode cL_law 129 = .ok (.iadd, 1) := by decide +kernel
theorem dL_law_130 : decode cL_law 130 = .ok (.iaload, 1) := by decide +kernel
theorem dL_law_131 : decode cL_law 131 = .ok (.aload_n 0, 1) := by decide +kernel
theorem dL_law_132 : decode cL_law 132 = .ok (.iload_n 3, 1) := by decide +kernel
theorem dL_law_133 : decode cL_law 133 = .ok (.iconst 3, 1) := by decide +kernel
theorem dL_law_134 : decode cL_law 134 = .ok (.iadd, 1) := by decide +kernel
theorem dL_law_135 : decode cL_law 135 = .ok (.iaload, 1) := by decide +kernel
theorem dL_law_136 : decode cL_law 136 = .ok (.aload_n 0, 1) := by decide +kernel
theorem dL_law_137 : decode cL_law 137 = .ok (.iload_n 3, 1) := by decide +kernel
theorem dL_law_138 : decode cL_law 138 = .ok (.iconst 4, 1) := by decide +kernel
theorem dL_law_139 : decode cL_law 139 = .ok (.iadd, 1) := by decide +kernel
theorem dL_law_140 : decode cL_law 140 = .ok (.iaload, 1) := by decide +kernel
theorem dL_law_141 : decode cL_law 141 = .ok (.aload_n 0, 1) := by decide +kernel
theorem dL_law_142 : decode cL_law 142 = .ok (.iload_n 3, 1) := by decide +kernel
theorem dL_law_143 : decode cL_law 143 = .ok (.iconst 5, 1) := by decide +kernel
theorem dL_law_144 : decode cL_law 144 = .ok (.iadd, 1) := by decide +kernel
theorem dL_law_145 : decode cL_law 145 = .ok (.iaload, 1) := by decide +kernel
theorem dL_law_146 : decode cL_law 146 = .ok (.invokevirtual 13, 3) := by decide +kernel
theorem dL_law_149 : decode cL_law 149 = .ok (.aload_n 2, 1) := by decide +kernel
theorem dL_law_150 : decode cL_law 150 = .ok (.aload_n 0, 1) := by decide +kernel
theorem dL_law_151 : decode cL_law 151 = .ok (.iload_n 3, 1) := by decide +kernel
theorem dL_law_152 : decode cL_law 152 = .ok (.iconst 1, 1) := by decide +kernel
theorem dL_law_153 : decode cL_law 153 = .ok (.iadd, 1) := by decide +kernel
theorem dL_law_154 : decode cL_law 154 = .ok (.iaload, 1) := by decide +kernel
theorem dL_law_155 : decode cL_law 155 = .ok (.aload_n 0, 1) := by decide +kernel
theorem dL_law_156 : decode cL_law 156 = .ok (.iload_n 3, 1) := by decide +kernel
theorem dL_law_157 : decode cL_law 157 = .ok (.iconst 2, 1) := by decide +kernel
theorem dL_law_158 : decode cL_law 158 = .ok (.iadd, 1) := by decide +kernel
theorem dL_law_159 : decode cL_law 159 = .ok (.iaload, 1) := by decide +kernel
theorem dL_law_160 : decode cL_law 160 = .ok (.aload_n 0, 1) := by decide +kernel
theorem dL_law_161 : decode cL_law 161 = .ok (.iload_n 3, 1) := by decide +kernel
theorem dL_law_162 : decode cL_law 162 = .ok (.iconst 3, 1) := by decide +kernel
theorem dL_law_163 : decode cL_law 163 = .ok (.iadd, 1) := by decide +kernel
theorem dL_law_164 : decode cL_law 164 = .ok (.iaload, 1) := by decide +kernel
theorem dL_law_165 : decode cL_law 165 = .ok (.aload_n 0, 1) := by decide +kernel
theorem dL_law_166 : decode cL_law 166 = .ok (.iload_n 3, 1) := by decide +kernel
theorem dL_law_167 : decode cL_law 167 = .ok (.iconst 4, 1) := by decide +kernel
theorem dL_law_168 : decode cL_law 168 = .ok (.iadd, 1) := by decide +kernel
theorem dL_law_169 : decode cL_law 169 = .ok (.iaload, 1) := by decide +kernel
theorem dL_law_170 : decode cL_law 170 = .ok (.aload_n 0, 1) := by decide +kernel
theorem dL_law_171 : decode cL_law 171 = .ok (.iload_n 3, 1) := by decide +kernel
theorem dL_law_172 : decode cL_law 172 = .ok (.iconst 5, 1) := by decide +kernel
theorem dL_law_173 : decode cL_law 173 = .ok (.iadd, 1) := by decide +kernel
theorem dL_law_174 : decode cL_law 174 = .ok (.iaload, 1) := by decide +kernel
theorem dL_law_175 : decode cL_law 175 = .ok (.invokevirtual 17, 3) := by decide +kernel
theorem dL_law_178 : decode cL_law 178 = .ok (.if_icmp .eq 729, 3) := by decide +kernel
theorem dL_law_181 : decode cL_law 181 = .ok (.iconst 0, 1) := by decide +kernel
theorem dL_law_182 : decode cL_law 182 = .ok (.ireturn, 1) := by decide +kernel
theorem dL_law_183 : decode cL_law 183 = .ok (.aload_n 1, 1) := by decide +kernel
theorem dL_law_184 : decode cL_law 184 = .ok (.aload_n 0, 1) := by decide +kernel
theorem dL_law_185 : decode cL_law 185 = .ok (.iload_n 3, 1) := by decide +kernel
theorem dL_law_186 : decode cL_law 186 = .ok (.iconst 1, 1) := by decide +kernel
theorem dL_law_187 : decode cL_law 187 = .ok (.iadd, 1) := by decide +kernel
theorem dL_law_188 : decode cL_law 188 = .ok (.iaload, 1) := by decide +kernel
theorem dL_law_189 : decode cL_law 189 = .ok (.aload_n 0, 1) := by decide +kernel
theorem dL_law_190 : decode cL_law 190 = .ok (.iload_n 3, 1) := by decide +kernel
theorem dL_law_191 : decode cL_law 191 = .ok (.iconst 2, 1) := by decide +kernel
theorem dL_law_192 : decode cL_law 192 = .ok (.iadd, 1) := by decide +kernel
theorem dL_law_193 : decode cL_law 193 = .ok (.iaload, 1) := by decide +kernel
theorem dL_law_194 : decode cL_law 194 = .ok (.aload_n 0, 1) := by decide +kernel
theorem dL_law_195 : decode cL_law 195 = .ok (.iload_n 3, 1) := by decide +kernel
theorem dL_law_196 : decode cL_law 196 = .ok (.iconst 3, 1) := by decide +kernel
theorem dL_law_197 : decode cL_law 197 = .ok (.iadd, 1) := by decide +kernel
theorem dL_law_198 : decode cL_law 198 = .ok (.iaload, 1) := by decide +kernel
theorem dL_law_199 : decode cL_law 199 = .ok (.invokevirtual 18, 3) := by decide +kernel
theorem dL_law_202 : decode cL_law 202 = .ok (.aload_n 2, 1) := by decide +kernel
theorem dL_law_203 : decode cL_law 203 = .ok (.aload_n 0, 1) := by decide +kernel
theorem dL_law_204 : decode cL_law 204 = .ok (.iload_n 3, 1) := by decide +kernel
theorem dL_law_205 : decode cL_law 205 = .ok (.iconst 1, 1) := by decide +kernel
theorem dL_law_206 : decode cL_law 206 = .ok (.iadd, 1) := by decide +kernel
theorem dL_law_207 : decode cL_law 207 = .ok (.iaload, 1) := by decide +kernel
theorem dL_law_208 : decode cL_law 208 = .ok (.aload_n 0, 1) := by decide +kernel
theorem dL_law_209 : decode cL_law 209 = .ok (.iload_n 3, 1) := by decide +kernel
theorem dL_law_210 : decode cL_law 210 = .ok (.iconst 2, 1) := by decide +kernel
theorem dL_law_211 : decode cL_law 211 = .ok (.iadd, 1) := by decide +kernel
theorem dL_law_212 : decode cL_law 212 = .ok (.iaload, 1) := by decide +kernel
theorem dL_law_213 : decode cL_law 213 = .ok (.aload_n 0, 1) := by decide +kernel
theorem dL_law_214 : decode cL_law 214 = .ok (.iload_n 3, 1) := by decide +kernel
theorem dL_law_215 : decode cL_law 215 = .ok (.iconst 3, 1) := by decide +kernel
theorem dL_law_216 : decode cL_law 216 = .ok (.iadd, 1) := by decide +kernel
theorem dL_law_217 : decode cL_law 217 = .ok (.iaload, 1) := by decide +kernel
theorem dL_law_218 : decode cL_law 218 = .ok (.invokevirtual 22, 3) := by decide +kernel
theorem dL_law_221 : decode cL_law 221 = .ok (.if_icmp .eq 686, 3) := by decide +kernel
theorem dL_law_224 : decode cL_law 224 = .ok (.iconst 0, 1) := by decide +kernel
theorem dL_law_225 : decode cL_law 225 = .ok (.ireturn, 1) := by decide +kernel
theorem dL_law_226 : decode cL_law 226 = .ok (.aload_n 1, 1) := by decide +kernel
theorem dL_law_227 : decode cL_law 227 = .ok (.aload_n 0, 1) := by decide +kernel
theorem dL_law_228 : decode cL_law 228 = .ok (.iload_n 3, 1) := by decide +kernel
theorem dL_law_229 : decode cL_law 229 = .ok (.iconst 1, 1) := by decide +kernel
theorem dL_law_230 : decode cL_law 230 = .ok (.iadd, 1) := by decide +kernel
theorem dL_law_231 : decode cL_law 231 = .ok (.iaload, 1) := by decide +kernel
theorem dL_law_232 : decode cL_law 232 = .ok (.aload_n 0, 1) := by decide +kernel
theorem dL_law_233 : decode cL_law 233 = .ok (.iload_n 3, 1) := by decide +kernel
theorem dL_law_234 : decode cL_law 234 = .ok (.iconst 2, 1) := by decide +kernel
theorem dL_law_235 : decode cL_law 235 = .ok (.iadd, 1) := by decide +kernel
theorem dL_law_236 : decode cL_law 236 = .ok (.iaload, 1) := by decide +kernel
theorem dL_law_237 : decode cL_law 237 = .ok (.aload_n 0, 1) := by decide +kernel
theorem dL_law_238 : decode cL_law 238 = .ok (.iload_n 3, 1) := by decide +kernel
theorem dL_law_239 : decode cL_law 239 = .ok (.iconst 3, 1) := by decide +kernel
theorem dL_law_240 : decode cL_law 240 = .ok (.iadd, 1) := by decide +kernel
theorem dL_law_241 : decode cL_law 241 = .ok (.iaload, 1) := by decide +kernel
theorem dL_law_242 : decode cL_law 242 = .ok (.i2d, 1) := by decide +kernel
theorem dL_law_243 : decode cL_law 243 = .ok (.ldc2_w 23, 3) := by decide +kernel
theorem dL_law_246 : decode cL_law 246 = .ok (.dmul, 1) := by decide +kernel
theorem dL_law_247 : decode cL_law 247 = .ok (.invokevirtual 25, 3) := by decide +kernel
theorem dL_law_250 : decode cL_law 250 = .ok (.aload_n 2, 1) := by decide +kernel
theorem dL_law_251 : decode cL_law 251 = .ok (.aload_n 0, 1) := by decide +kernel
theorem dL_law_252 : decode cL_law 252 = .ok (.iload_n 3, 1) := by decide +kernel
theorem dL_law_253 : decode cL_law 253 = .ok (.iconst 1, 1) := by decide +kernel
theorem dL_law_254 : decode cL_law 254 = .ok (.iadd, 1) := by decide +kernel
theorem dL_law_255 : decode cL_law 255 = .ok (.iaload, 1) := by decide +kernel
theorem dL_law_256 : decode cL_law 256 = .ok (.aload_n 0, 1) := by decide +kernel
theorem dL_law_257 : decode cL_law 257 = .ok (.iload_n 3, 1) := by decide +kernel
theorem dL_law_258 : decode cL_law 258 = .ok (.iconst 2, 1) := by decide +kernel
theorem dL_law_259 : decode cL_law 259 = .ok (.iadd, 1) := by decide +kernel
theorem dL_law_260 : decode cL_law 260 = .ok (.iaload, 1) := by decide +kernel
theorem dL_law_261 : decode cL_law 261 = .ok (.aload_n 0, 1) := by decide +kernel
theorem dL_law_262 : decode cL_law 262 = .ok (.iload_n 3, 1) := by decide +kernel
theorem dL_law_263 : decode cL_law 263 = .ok (.iconst 3, 1) := by decide +kernel
theorem dL_law_264 : decode cL_law 264 = .ok (.iadd, 1) := by decide +kernel
theorem dL_law_265 : decode cL_law 265 = .ok (.iaload, 1) := by decide +kernel
theorem dL_law_266 : decode cL_law 266 = .ok (.i2d, 1) := by decide +kernel
theorem dL_law_267 : decode cL_law 267 = .ok (.ldc2_w 23, 3) := by decide +kernel
theorem dL_law_270 : decode cL_law 270 = .ok (.dmul, 1) := by decide +kernel
theorem dL_law_271 : decode cL_law 271 = .ok (.invokevirtual 29, 3) := by decide +kernel
theorem dL_law_274 : decode cL_law 274 = .ok (.if_icmp .eq 633, 3) := by decide +kernel
theorem dL_law_277 : decode cL_law 277 = .ok (.iconst 0, 1) := by decide +kernel
theorem dL_law_278 : decode cL_law 278 = .ok (.ireturn, 1) := by decide +kernel
theorem dL_law_279 : decode cL_law 279 = .ok (.aload_n 1, 1) := by decide +kernel
theorem dL_law_280 : decode cL_law 280 = .ok (.aload_n 0, 1) := by decide +kernel
theorem dL_law_281 : decode cL_law 281 = .ok (.iload_n 3, 1) := by decide +kernel
theorem dL_law_282 : decode cL_law 282 = .ok (.iconst 1, 1) := by decide +kernel
theorem dL_law_283 : decode cL_law 283 = .ok (.iadd, 1) := by decide +kernel
theorem dL_law_284 : decode cL_law 284 = .ok (.iaload, 1) := by decide +kernel
theorem dL_law_285 : decode cL_law 285 = .ok (.aload_n 0, 1) := by decide +kernel
theorem dL_law_286 : decode cL_law 286 = .ok (.iload_n 3, 1) := by decide +kernel
theorem dL_law_287 : decode cL_law 287 = .ok (.iconst 2, 1) := by decide +kernel
theorem dL_law_288 : decode cL_law 288 = .ok (.iadd, 1) := by decide +kernel
theorem dL_law_289 : decode cL_law 289 = .ok (.iaload, 1) := by decide +kernel
theorem dL_law_290 : decode cL_law 290 = .ok (.aload_n 0, 1) := by decide +kernel
theorem dL_law_291 : decode cL_law 291 = .ok (.iload_n 3, 1) := by decide +kernel
theorem dL_law_292 : decode cL_law 292 = .ok (.iconst 3, 1) := by decide +kernel
theorem dL_law_293 : decode cL_law 293 = .ok (.iadd, 1) := by decide +kernel
theorem dL_law_294 : decode cL_law 294 = .ok (.iaload, 1) := by decide +kernel
theorem dL_law_295 : decode cL_law 295 = .ok (.aload_n 0, 1) := by decide +kernel
theorem dL_law_296 : decode cL_law 296 = .ok (.iload_n 3, 1) := by decide +kernel
theorem dL_law_297 : decode cL_law 297 = .ok (.iconst 4, 1) := by decide +kernel
theorem dL_law_298 : decode cL_law 298 = .ok (.iadd, 1) := by decide +kernel
theorem dL_law_299 : decode cL_law 299 = .ok (.iaload, 1) := by decide +kernel
theorem dL_law_300 : decode cL_law 300 = .ok (.aload_n 0, 1) := by decide +kernel
theorem dL_law_301 : decode cL_law 301 = .ok (.iload_n 3, 1) := by decide +kernel
theorem dL_law_302 : decode cL_law 302 = .ok (.iconst 5, 1) := by decide +kernel
theorem dL_law_303 : decode cL_law 303 = .ok (.iadd, 1) := by decide +kernel
theorem dL_law_304 : decode cL_law 304 = .ok (.iaload, 1) := by decide +kernel
theorem dL_law_305 : decode cL_law 305 = .ok (.invokevirtual 30, 3) := by decide +kernel
theorem dL_law_308 : decode cL_law 308 = .ok (.aload_n 2, 1) := by decide +kernel
theorem dL_law_309 : decode cL_law 309 = .ok (.aload_n 0, 1) := by decide +kernel
theorem dL_law_310 : decode cL_law 310 = .ok (.iload_n 3, 1) := by decide +kernel
theorem dL_law_311 : decode cL_law 311 = .ok (.iconst 1, 1) := by decide +kernel
theorem dL_law_312 : decode cL_law 312 = .ok (.iadd, 1) := by decide +kernel
theorem dL_law_313 : decode cL_law 313 = .ok (.iaload, 1) := by decide +kernel
theorem dL_law_314 : decode cL_law 314 = .ok (.aload_n 0, 1) := by decide +kernel
theorem dL_law_315 : decode cL_law 315 = .ok (.iload_n 3, 1) := by decide +kernel
theorem dL_law_316 : decode cL_law 316 = .ok (.iconst 2, 1) := by decide +kernel
theorem dL_law_317 : decode cL_law 317 = .ok (.iadd, 1) := by decide +kernel
theorem dL_law_318 : decode cL_law 318 = .ok (.iaload, 1) := by decide +kernel
theorem dL_law_319 : decode cL_law 319 = .ok (.aload_n 0, 1) := by decide +kernel
theorem dL_law_320 : decode cL_law 320 = .ok (.iload_n 3, 1) := by decide +kernel
theorem dL_law_321 : decode cL_law 321 = .ok (.iconst 3, 1) := by decide +kernel
theorem dL_law_322 : decode cL_law 322 = .ok (.iadd, 1) := by decide +kernel
theorem dL_law_323 : decode cL_law 323 = .ok (.iaload, 1) := by decide +kernel
theorem dL_law_324 : decode cL_law 324 = .ok (.aload_n 0, 1) := by decide +kernel
theorem dL_law_325 : decode cL_law 325 = .ok (.iload_n 3, 1) := by decide +kernel
theorem dL_law_326 : decode cL_law 326 = .ok (.iconst 4, 1) := by decide +kernel
theorem dL_law_327 : decode cL_law 327 = .ok (.iadd, 1) := by decide +kernel
theorem dL_law_328 : decode cL_law 328 = .ok (.iaload, 1) := by decide +kernel
theorem dL_law_329 : decode cL_law 329 = .ok (.aload_n 0, 1) := by decide +kernel
theorem dL_law_330 : decode cL_law 330 = .ok (.iload_n 3, 1) := by decide +kernel
theorem dL_law_331 : decode cL_law 331 = .ok (.iconst 5, 1) := by decide +kernel
theorem dL_law_332 : decode cL_law 332 = .ok (.iadd, 1) := by decide +kernel
theorem dL_law_333 : decode cL_law 333 = .ok (.iaload, 1) := by decide +kernel
theorem dL_law_334 : decode cL_law 334 = .ok (.invokevirtual 33, 3) := by decide +kernel
theorem dL_law_337 : decode cL_law 337 = .ok (.if_icmp .eq 570, 3) := by decide +kernel
theorem dL_law_340 : decode cL_law 340 = .ok (.iconst 0, 1) := by decide +kernel
theorem dL_law_341 : decode cL_law 341 = .ok (.ireturn, 1) := by decide +kernel
theorem dL_law_342 : decode cL_law 342 = .ok (.aload_n 1, 1) := by decide +kernel
theorem dL_law_343 : decode cL_law 343 = .ok (.aload_n 0, 1) := by decide +kernel
theorem dL_law_344 : decode cL_law 344 = .ok (.iload_n 3, 1) := by decide +kernel
theorem dL_law_345 : decode cL_law 345 = .ok (.iconst 1, 1) := by decide +kernel
theorem dL_law_346 : decode cL_law 346 = .ok (.iadd, 1) := by decide +kernel
theorem dL_law_347 : decode cL_law 347 = .ok (.iaload, 1) := by decide +kernel
theorem dL_law_348 : decode cL_law 348 = .ok (.aload_n 0, 1) := by decide +kernel
theorem dL_law_349 : decode cL_law 349 = .ok (.iload_n 3, 1) := by decide +kernel
theorem dL_law_350 : decode cL_law 350 = .ok (.iconst 2, 1) := by decide +kernel
theorem dL_law_351 : decode cL_law 351 = .ok (.iadd, 1) := by decide +kernel
theorem dL_law_352 : decode cL_law 352 = .ok (.iaload, 1) := by decide +kernel
theorem dL_law_353 : decode cL_law 353 = .ok (.invokevirtual 34, 3) := by decide +kernel
theorem dL_law_356 : decode cL_law 356 = .ok (.aload_n 2, 1) := by decide +kernel
theorem dL_law_357 : decode cL_law 357 = .ok (.aload_n 0, 1) := by decide +kernel
theorem dL_law_358 : decode cL_law 358 = .ok (.iload_n 3, 1) := by decide +kernel
theorem dL_law_359 : decode cL_law 359 = .ok (.iconst 1, 1) := by decide +kernel
theorem dL_law_360 : decode cL_law 360 = .ok (.iadd, 1) := by decide +kernel
theorem dL_law_361 : decode cL_law 361 = .ok (.iaload, 1) := by decide +kernel
theorem dL_law_362 : decode cL_law 362 = .ok (.aload_n 0, 1) := by decide +kernel
theorem dL_law_363 : decode cL_law 363 = .ok (.iload_n 3, 1) := by decide +kernel
theorem dL_law_364 : decode cL_law 364 = .ok (.iconst 2, 1) := by decide +kernel
theorem dL_law_365 : decode cL_law 365 = .ok (.iadd, 1) := by decide +kernel
theorem dL_law_366 : decode cL_law 366 = .ok (.iaload, 1) := by decide +kernel
theorem dL_law_367 : decode cL_law 367 = .ok (.invokevirtual 38, 3) := by decide +kernel
theorem dL_law_370 : decode cL_law 370 = .ok (.if_icmp .eq 537, 3) := by decide +kernel
theorem dL_law_373 : decode cL_law 373 = .ok (.iconst 0, 1) := by decide +kernel
theorem dL_law_374 : decode cL_law 374 = .ok (.ireturn, 1) := by decide +kernel
theorem dL_law_375 : decode cL_law 375 = .ok (.aload_n 1, 1) := by decide +kernel
theorem dL_law_376 : decode cL_law 376 = .ok (.aload_n 0, 1) := by decide +kernel
theorem dL_law_377 : decode cL_law 377 = .ok (.iload_n 3, 1) := by decide +kernel
theorem dL_law_378 : decode cL_law 378 = .ok (.iconst 1, 1) := by decide +kernel
theorem dL_law_379 : decode cL_law 379 = .ok (.iadd, 1) := by decide +kernel
theorem dL_law_380 : decode cL_law 380 = .ok (.iaload, 1) := by decide +kernel
theorem dL_law_381 : decode cL_law 381 = .ok (.aload_n 0, 1) := by decide +kernel
theorem dL_law_382 : decode cL_law 382 = .ok (.iload_n 3, 1) := by decide +kernel
theorem dL_law_383 : decode cL_law 383 = .ok (.iconst 2, 1) := by decide +kernel
theorem dL_law_384 : decode cL_law 384 = .ok (.iadd, 1) := by decide +kernel
theorem dL_law_385 : decode cL_law 385 = .ok (.iaload, 1) := by decide +kernel
theorem dL_law_386 : decode cL_law 386 = .ok (.aload_n 0, 1) := by decide +kernel
theorem dL_law_387 : decode cL_law 387 = .ok (.iload_n 3, 1) := by decide +kernel
theorem dL_law_388 : decode cL_law 388 = .ok (.iconst 3, 1) := by decide +kernel
theorem dL_law_389 : decode cL_law 389 = .ok (.iadd, 1) := by decide +kernel
theorem dL_law_390 : decode cL_law 390 = .ok (.iaload, 1) := by decide +kernel
theorem dL_law_391 : decode cL_law 391 = .ok (.invokevirtual 39, 3) := by decide +kernel
theorem dL_law_394 : decode cL_law 394 = .ok (.aload_n 2, 1) := by decide +kernel
theorem dL_law_395 : decode cL_law 395 = .ok (.aload_n 0, 1) := by decide +kernel
theorem dL_law_396 : decode cL_law 396 = .ok (.iload_n 3, 1) := by decide +kernel
theorem dL_law_397 : decode cL_law 397 = .ok (.iconst 1, 1) := by decide +kernel
theorem dL_law_398 : decode cL_law 398 = .ok (.iadd, 1) := by decide +kernel
theorem dL_law_399 : decode cL_law 399 = .ok (.iaload, 1) := by decide +kernel
theorem dL_law_400 : decode cL_law 400 = .ok (.aload_n 0, 1) := by decide +kernel
theorem dL_law_401 : decode cL_law 401 = .ok (.iload_n 3, 1) := by decide +kernel
theorem dL_law_402 : decode cL_law 402 = .ok (.iconst 2, 1) := by decide +kernel
theorem dL_law_403 : decode cL_law 403 = .ok (.iadd, 1) := by decide +kernel
theorem dL_law_404 : decode cL_law 404 = .ok (.iaload, 1) := by decide +kernel
theorem dL_law_405 : decode cL_law 405 = .ok (.aload_n 0, 1) := by decide +kernel
theorem dL_law_406 : decode cL_law 406 = .ok (.iload_n 3, 1) := by decide +kernel
theorem dL_law_407 : decode cL_law 407 = .ok (.iconst 3, 1) := by decide +kernel
theorem dL_law_408 : decode cL_law 408 = .ok (.iadd, 1) := by decide +kernel
theorem dL_law_409 : decode cL_law 409 = .ok (.iaload, 1) := by decide +kernel
theorem dL_law_410 : decode cL_law 410 = .ok (.invokevirtual 43, 3) := by decide +kernel
theorem dL_law_413 : decode cL_law 413 = .ok (.if_icmp .eq 494, 3) := by decide +kernel
theorem dL_law_416 : decode cL_law 416 = .ok (.iconst 0, 1) := by decide +kernel
theorem dL_law_417 : decode cL_law 417 = .ok (.ireturn, 1) := by decide +kernel
theorem dL_law_418 : decode cL_law 418 = .ok (.aload_n 1, 1) := by decide +kernel
theorem dL_law_419 : decode cL_law 419 = .ok (.aload_n 0, 1) := by decide +kernel
theorem dL_law_420 : decode cL_law 420 = .ok (.iload_n 3, 1) := by decide +kernel
theorem dL_law_421 : decode cL_law 421 = .ok (.iconst 1, 1) := by decide +kernel
theorem dL_law_422 : decode cL_law 422 = .ok (.iadd, 1) := by decide +kernel
theorem dL_law_423 : decode cL_law 423 = .ok (.iaload, 1) := by decide +kernel
theorem dL_law_424 : decode cL_law 424 = .ok (.aload_n 0, 1) := by decide +kernel
theorem dL_law_425 : decode cL_law 425 = .ok (.iload_n 3, 1) := by decide +kernel
theorem dL_law_426 : decode cL_law 426 = .ok (.iconst 2, 1) := by decide +kernel
theorem dL_law_427 : decode cL_law 427 = .ok (.iadd, 1) := by decide +kernel
theorem dL_law_428 : decode cL_law 428 = .ok (.iaload, 1) := by decide +kernel
theorem dL_law_429 : decode cL_law 429 = .ok (.aload_n 0, 1) := by decide +kernel
theorem dL_law_430 : decode cL_law 430 = .ok (.iload_n 3, 1) := by decide +kernel
theorem dL_law_431 : decode cL_law 431 = .ok (.iconst 3, 1) := by decide +kernel
theorem dL_law_432 : decode cL_law 432 = .ok (.iadd, 1) := by decide +kernel
theorem dL_law_433 : decode cL_law 433 = .ok (.iaload, 1) := by decide +kernel
theorem dL_law_434 : decode cL_law 434 = .ok (.aload_n 0, 1) := by decide +kernel
theorem dL_law_435 : decode cL_law 435 = .ok (.iload_n 3, 1) := by decide +kernel
theorem dL_law_436 : decode cL_law 436 = .ok (.iconst 4, 1) := by decide +kernel
theorem dL_law_437 : decode cL_law 437 = .ok (.iadd, 1) := by decide +kernel
theorem dL_law_438 : decode cL_law 438 = .ok (.iaload, 1) := by decide +kernel
theorem dL_law_439 : decode cL_law 439 = .ok (.invokevirtual 44, 3) := by decide +kernel
theorem dL_law_442 : decode cL_law 442 = .ok (.aload_n 2, 1) := by decide +kernel
theorem dL_law_443 : decode cL_law 443 = .ok (.aload_n 0, 1) := by decide +kernel
theorem dL_law_444 : decode cL_law 444 = .ok (.iload_n 3, 1) := by decide +kernel
theorem dL_law_445 : decode cL_law 445 = .ok (.iconst 1, 1) := by decide +kernel
theorem dL_law_446 : decode cL_law 446 = .ok (.iadd, 1) := by decide +kernel
theorem dL_law_447 : decode cL_law 447 = .ok (.iaload, 1) := by decide +kernel
theorem dL_law_448 : decode cL_law 448 = .ok (.aload_n 0, 1) := by decide +kernel
theorem dL_law_449 : decode cL_law 449 = .ok (.iload_n 3, 1) := by decide +kernel
theorem dL_law_450 : decode cL_law 450 = .ok (.iconst 2, 1) := by decide +kernel
theorem dL_law_451 : decode cL_law 451 = .ok (.iadd, 1) := by decide +kernel
theorem dL_law_452 : decode cL_law 452 = .ok (.iaload, 1) := by decide +kernel
theorem dL_law_453 : decode cL_law 453 = .ok (.aload_n 0, 1) := by decide +kernel
theorem dL_law_454 : decode cL_law 454 = .ok (.iload_n 3, 1) := by decide +kernel
theorem dL_law_455 : decode cL_law 455 = .ok (.iconst 3, 1) := by decide +kernel
theorem dL_law_456 : decode cL_law 456 = .ok (.iadd, 1) := by decide +kernel
theorem dL_law_457 : decode cL_law 457 = .ok (.iaload, 1) := by decide +kernel
theorem dL_law_458 : decode cL_law 458 = .ok (.aload_n 0, 1) := by decide +kernel
theorem dL_law_459 : decode cL_law 459 = .ok (.iload_n 3, 1) := by decide +kernel
theorem dL_law_460 : decode cL_law 460 = .ok (.iconst 4, 1) := by decide +kernel
theorem dL_law_461 : decode cL_law 461 = .ok (.iadd, 1) := by decide +kernel
theorem dL_law_462 : decode cL_law 462 = .ok (.iaload, 1) := by decide +kernel
theorem dL_law_463 : decode cL_law 463 = .ok (.invokevirtual 48, 3) := by decide +kernel
theorem dL_law_466 : decode cL_law 466 = .ok (.if_icmp .eq 441, 3) := by decide +kernel
theorem dL_law_469 : decode cL_law 469 = .ok (.iconst 0, 1) := by decide +kernel
theorem dL_law_470 : decode cL_law 470 = .ok (.ireturn, 1) := by decide +kernel
theorem dL_law_471 : decode cL_law 471 = .ok (.aload_n 1, 1) := by decide +kernel
theorem dL_law_472 : decode cL_law 472 = .ok (.aload_n 0, 1) := by decide +kernel
theorem dL_law_473 : decode cL_law 473 = .ok (.iload_n 3, 1) := by decide +kernel
theorem dL_law_474 : decode cL_law 474 = .ok (.iconst 1, 1) := by decide +kernel
theorem dL_law_475 : decode cL_law 475 = .ok (.iadd, 1) := by decide +kernel
theorem dL_law_476 : decode cL_law 476 = .ok (.iaload, 1) := by decide +kernel
theorem dL_law_477 : decode cL_law 477 = .ok (.aload_n 0, 1) := by decide +kernel
theorem dL_law_478 : decode cL_law 478 = .ok (.iload_n 3, 1) := by decide +kernel
theorem dL_law_479 : decode cL_law 479 = .ok (.iconst 2, 1) := by decide +kernel
theorem dL_law_480 : decode cL_law 480 = .ok (.iadd, 1) := by decide +kernel
theorem dL_law_481 : decode cL_law 481 = .ok (.iaload, 1) := by decide +kernel
theorem dL_law_482 : decode cL_law 482 = .ok (.invokevirtual 49, 3) := by decide +kernel
theorem dL_law_485 : decode cL_law 485 = .ok (.aload_n 2, 1) := by decide +kernel
theorem dL_law_486 : decode cL_law 486 = .ok (.aload_n 0, 1) := by decide +kernel
theorem dL_law_487 : decode cL_law 487 = .ok (.iload_n 3, 1) := by decide +kernel
theorem dL_law_488 : decode cL_law 488 = .ok (.iconst 1, 1) := by decide +kernel
theorem dL_law_489 : decode cL_law 489 = .ok (.iadd, 1) := by decide +kernel
theorem dL_law_490 : decode cL_law 490 = .ok (.iaload, 1) := by decide +kernel
theorem dL_law_491 : decode cL_law 491 = .ok (.aload_n 0, 1) := by decide +kernel
theorem dL_law_492 : decode cL_law 492 = .ok (.iload_n 3, 1) := by decide +kernel
theorem dL_law_493 : decode cL_law 493 = .ok (.iconst 2, 1) := by decide +kernel
theorem dL_law_494 : decode cL_law 494 = .ok (.iadd, 1) := by decide +kernel
theorem dL_law_495 : decode cL_law 495 = .ok (.iaload, 1) := by decide +kernel
theorem dL_law_496 : decode cL_law 496 = .ok (.invokevirtual 52, 3) := by decide +kernel
theorem dL_law_499 : decode cL_law 499 = .ok (.if_icmp .eq 408, 3) := by decide +kernel
theorem dL_law_502 : decode cL_law 502 = .ok (.iconst 0, 1) := by decide +kernel
theorem dL_law_503 : decode cL_law 503 = .ok (.ireturn, 1) := by decide +kernel
theorem dL_law_504 : decode cL_law 504 = .ok (.aload_n 1, 1) := by decide +kernel
theorem dL_law_505 : decode cL_law 505 = .ok (.aload_n 0, 1) := by decide +kernel
theorem dL_law_506 : decode cL_law 506 = .ok (.iload_n 3, 1) := by decide +kernel
theorem dL_law_507 : decode cL_law 507 = .ok (.iconst 1, 1) := by decide +kernel
theorem dL_law_508 : decode cL_law 508 = .ok (.iadd, 1) := by decide +kernel
theorem dL_law_509 : decode cL_law 509 = .ok (.iaload, 1) := by decide +kernel
theorem dL_law_510 : decode cL_law 510 = .ok (.invokevirtual 53, 3) := by decide +kernel
theorem dL_law_513 : decode cL_law 513 = .ok (.aload_n 2, 1) := by decide +kernel
theorem dL_law_514 : decode cL_law 514 = .ok (.aload_n 0, 1) := by decide +kernel
theorem dL_law_515 : decode cL_law 515 = .ok (.iload_n 3, 1) := by decide +kernel
theorem dL_law_516 : decode cL_law 516 = .ok (.iconst 1, 1) := by decide +kernel
theorem dL_law_517 : decode cL_law 517 = .ok (.iadd, 1) := by decide +kernel
theorem dL_law_518 : decode cL_law 518 = .ok (.iaload, 1) := by decide +kernel
theorem dL_law_519 : decode cL_law 519 = .ok (.invokevirtual 57, 3) := by decide +kernel
theorem dL_law_522 : decode cL_law 522 = .ok (.if_icmp .eq 385, 3) := by decide +kernel
theorem dL_law_525 : decode cL_law 525 = .ok (.iconst 0, 1) := by decide +kernel
theorem dL_law_526 : decode cL_law 526 = .ok (.ireturn, 1) := by decide +kernel
theorem dL_law_527 : decode cL_law 527 = .ok (.aload_n 1, 1) := by decide +kernel
theorem dL_law_528 : decode cL_law 528 = .ok (.aload_n 0, 1) := by decide +kernel
theorem dL_law_529 : decode cL_law 529 = .ok (.iload_n 3, 1) := by decide +kernel
theorem dL_law_530 : decode cL_law 530 = .ok (.iconst 1, 1) := by decide +kernel
theorem dL_law_531 : decode cL_law 531 = .ok (.iadd, 1) := by decide +kernel
theorem dL_law_532 : decode cL_law 532 = .ok (.iaload, 1) := by decide +kernel
theorem dL_law_533 : decode cL_law 533 = .ok (.aload_n 0, 1) := by decide +kernel
theorem dL_law_534 : decode cL_law 534 = .ok (.iload_n 3, 1) := by decide +kernel
theorem dL_law_535 : decode cL_law 535 = .ok (.iconst 2, 1) := by decide +kernel
theorem dL_law_536 : decode cL_law 536 = .ok (.iadd, 1) := by decide +kernel
theorem dL_law_537 : decode cL_law 537 = .ok (.iaload, 1) := by decide +kernel
theorem dL_law_538 : decode cL_law 538 = .ok (.aload_n 0, 1) := by decide +kernel
theorem dL_law_539 : decode cL_law 539 = .ok (.iload_n 3, 1) := by decide +kernel
theorem dL_law_540 : decode cL_law 540 = .ok (.iconst 3, 1) := by decide +kernel
theorem dL_law_541 : decode cL_law 541 = .ok (.iadd, 1) := by decide +kernel
theorem dL_law_542 : decode cL_law 542 = .ok (.iaload, 1) := by decide +kernel
theorem dL_law_543 : decode cL_law 543 = .ok (.invokevirtual 58, 3) := by decide +kernel
theorem dL_law_546 : decode cL_law 546 = .ok (.aload_n 2, 1) := by decide +kernel
theorem dL_law_547 : decode cL_law 547 = .ok (.aload_n 0, 1) := by decide +kernel
theorem dL_law_548 : decode cL_law 548 = .ok (.iload_n 3, 1) := by decide +kernel
theorem dL_law_549 : decode cL_law 549 = .ok (.iconst 1, 1) := by decide +kernel
theorem dL_law_550 : decode cL_law 550 = .ok (.iadd, 1) := by decide +kernel
theorem dL_law_551 : decode cL_law 551 = .ok (.iaload, 1) := by decide +kernel
theorem dL_law_552 : decode cL_law 552 = .ok (.aload_n 0, 1) := by decide +kernel
theorem dL_law_553 : decode cL_law 553 = .ok (.iload_n 3, 1) := by decide +kernel
theorem dL_law_554 : decode cL_law 554 = .ok (.iconst 2, 1) := by decide +kernel
theorem dL_law_555 : decode cL_law 555 = .ok (.iadd, 1) := by decide +kernel
theorem dL_law_556 : decode cL_law 556 = .ok (.iaload, 1) := by decide +kernel
theorem dL_law_557 : decode cL_law 557 = .ok (.aload_n 0, 1) := by decide +kernel
theorem dL_law_558 : decode cL_law 558 = .ok (.iload_n 3, 1) := by decide +kernel
theorem dL_law_559 : decode cL_law 559 = .ok (.iconst 3, 1) := by decide +kernel
theorem dL_law_560 : decode cL_law 560 = .ok (.iadd, 1) := by decide +kernel
theorem dL_law_561 : decode cL_law 561 = .ok (.iaload, 1) := by decide +kernel
theorem dL_law_562 : decode cL_law 562 = .ok (.invokevirtual 61, 3) := by decide +kernel
theorem dL_law_565 : decode cL_law 565 = .ok (.if_icmp .eq 342, 3) := by decide +kernel
theorem dL_law_568 : decode cL_law 568 = .ok (.iconst 0, 1) := by decide +kernel
theorem dL_law_569 : decode cL_law 569 = .ok (.ireturn, 1) := by decide +kernel
theorem dL_law_570 : decode cL_law 570 = .ok (.aload_n 1, 1) := by decide +kernel
theorem dL_law_571 : decode cL_law 571 = .ok (.aload_n 0, 1) := by decide +kernel
theorem dL_law_572 : decode cL_law 572 = .ok (.iload_n 3, 1) := by decide +kernel
theorem dL_law_573 : decode cL_law 573 = .ok (.iconst 1, 1) := by decide +kernel
theorem dL_law_574 : decode cL_law 574 = .ok (.iadd, 1) := by decide +kernel
theorem dL_law_575 : decode cL_law 575 = .ok (.iaload, 1) := by decide +kernel
theorem dL_law_576 : decode cL_law 576 = .ok (.aload_n 0, 1) := by decide +kernel
theorem dL_law_577 : decode cL_law 577 = .ok (.iload_n 3, 1) := by decide +kernel
theorem dL_law_578 : decode cL_law 578 = .ok (.iconst 2, 1) := by decide +kernel
theorem dL_law_579 : decode cL_law 579 = .ok (.iadd, 1) := by decide +kernel
theorem dL_law_580 : decode cL_law 580 = .ok (.iaload, 1) := by decide +kernel
theorem dL_law_581 : decode cL_law 581 = .ok (.aload_n 0, 1) := by decide +kernel
theorem dL_law_582 : decode cL_law 582 = .ok (.iload_n 3, 1) := by decide +kernel
theorem dL_law_583 : decode cL_law 583 = .ok (.iconst 3, 1) := by decide +kernel
theorem dL_law_584 : decode cL_law 584 = .ok (.iadd, 1) := by decide +kernel
theorem dL_law_585 : decode cL_law 585 = .ok (.iaload, 1) := by decide +kernel
theorem dL_law_586 : decode cL_law 586 = .ok (.invokevirtual 62, 3) := by decide +kernel
theorem dL_law_589 : decode cL_law 589 = .ok (.aload_n 2, 1) := by decide +kernel
theorem dL_law_590 : decode cL_law 590 = .ok (.aload_n 0, 1) := by decide +kernel
theorem dL_law_591 : decode cL_law 591 = .ok (.iload_n 3, 1) := by decide +kernel
theorem dL_law_592 : decode cL_law 592 = .ok (.iconst 1, 1) := by decide +kernel
theorem dL_law_593 : decode cL_law 593 = .ok (.iadd, 1) := by decide +kernel
theorem dL_law_594 : decode cL_law 594 = .ok (.iaload, 1) := by decide +kernel
theorem dL_law_595 : decode cL_law 595 = .ok (.aload_n 0, 1) := by decide +kernel
theorem dL_law_596 : decode cL_law 596 = .ok (.iload_n 3, 1) := by decide +kernel
theorem dL_law_597 : decode cL_law 597 = .ok (.iconst 2, 1) := by decide +kernel
theorem dL_law_598 : decode cL_law 598 = .ok (.iadd, 1) := by decide +kernel
theorem dL_law_599 : decode cL_law 599 = .ok (.iaload, 1) := by decide +kernel
theorem dL_law_600 : decode cL_law 600 = .ok (.aload_n 0, 1) := by decide +kernel
theorem dL_law_601 : decode cL_law 601 = .ok (.iload_n 3, 1) := by decide +kernel
theorem dL_law_602 : decode cL_law 602 = .ok (.iconst 3, 1) := by decide +kernel
theorem dL_law_603 : decode cL_law 603 = .ok (.iadd, 1) := by decide +kernel
theorem dL_law_604 : decode cL_law 604 = .ok (.iaload, 1) := by decide +kernel
theorem dL_law_605 : decode cL_law 605 = .ok (.invokevirtual 65, 3) := by decide +kernel
theorem dL_law_608 : decode cL_law 608 = .ok (.if_icmp .eq 299, 3) := by decide +kernel
theorem dL_law_611 : decode cL_law 611 = .ok (.iconst 0, 1) := by decide +kernel
theorem dL_law_612 : decode cL_law 612 = .ok (.ireturn, 1) := by decide +kernel
theorem dL_law_613 : decode cL_law 613 = .ok (.aload_n 1, 1) := by decide +kernel
theorem dL_law_614 : decode cL_law 614 = .ok (.aload_n 0, 1) := by decide +kernel
theorem dL_law_615 : decode cL_law 615 = .ok (.iload_n 3, 1) := by decide +kernel
theorem dL_law_616 : decode cL_law 616 = .ok (.iconst 1, 1) := by decide +kernel
theorem dL_law_617 : decode cL_law 617 = .ok (.iadd, 1) := by decide +kernel
theorem dL_law_618 : decode cL_law 618 = .ok (.iaload, 1) := by decide +kernel
theorem dL_law_619 : decode cL_law 619 = .ok (.aload_n 0, 1) := by decide +kernel
theorem dL_law_620 : decode cL_law 620 = .ok (.iload_n 3, 1) := by decide +kernel
theorem dL_law_621 : decode cL_law 621 = .ok (.iconst 2, 1) := by decide +kernel
theorem dL_law_622 : decode cL_law 622 = .ok (.iadd, 1) := by decide +kernel
theorem dL_law_623 : decode cL_law 623 = .ok (.iaload, 1) := by decide +kernel
theorem dL_law_624 : decode cL_law 624 = .ok (.aload_n 0, 1) := by decide +kernel
theorem dL_law_625 : decode cL_law 625 = .ok (.iload_n 3, 1) := by decide +kernel
theorem dL_law_626 : decode cL_law 626 = .ok (.iconst 3, 1) := by decide +kernel
theorem dL_law_627 : decode cL_law 627 = .ok (.iadd, 1) := by decide +kernel
theorem dL_law_628 : decode cL_law 628 = .ok (.iaload, 1) := by decide +kernel
theorem dL_law_629 : decode cL_law 629 = .ok (.invokevirtual 66, 3) := by decide +kernel
theorem dL_law_632 : decode cL_law 632 = .ok (.aload_n 2, 1) := by decide +kernel
theorem dL_law_633 : decode cL_law 633 = .ok (.aload_n 0, 1) := by decide +kernel
theorem dL_law_634 : decode cL_law 634 = .ok (.iload_n 3, 1) := by decide +kernel
theorem dL_law_635 : decode cL_law 635 = .ok (.iconst 1, 1) := by decide +kernel
theorem dL_law_636 : decode cL_law 636 = .ok (.iadd, 1) := by decide +kernel
theorem dL_law_637 : decode cL_law 637 = .ok (.iaload, 1) := by decide +kernel
theorem dL_law_638 : decode cL_law 638 = .ok (.aload_n 0, 1) := by decide +kernel
theorem dL_law_639 : decode cL_law 639 = .ok (.iload_n 3, 1) := by decide +kernel
theorem dL_law_640 : decode cL_law 640 = .ok (.iconst 2, 1) := by decide +kernel
theorem dL_law_641 : decode cL_law 641 = .ok (.iadd, 1) := by decide +kernel
theorem dL_law_642 : decode cL_law 642 = .ok (.iaload, 1) := by decide +kernel
theorem dL_law_643 : decode cL_law 643 = .ok (.aload_n 0, 1) := by decide +kernel
theorem dL_law_644 : decode cL_law 644 = .ok (.iload_n 3, 1) := by decide +kernel
theorem dL_law_645 : decode cL_law 645 = .ok (.iconst 3, 1) := by decide +kernel
theorem dL_law_646 : decode cL_law 646 = .ok (.iadd, 1) := by decide +kernel
theorem dL_law_647 : decode cL_law 647 = .ok (.iaload, 1) := by decide +kernel
theorem dL_law_648 : decode cL_law 648 = .ok (.invokevirtual 69, 3) := by decide +kernel
theorem dL_law_651 : decode cL_law 651 = .ok (.if_icmp .eq 256, 3) := by decide +kernel
theorem dL_law_654 : decode cL_law 654 = .ok (.iconst 0, 1) := by decide +kernel
theorem dL_law_655 : decode cL_law 655 = .ok (.ireturn, 1) := by decide +kernel
theorem dL_law_656 : decode cL_law 656 = .ok (.aload_n 1, 1) := by decide +kernel
theorem dL_law_657 : decode cL_law 657 = .ok (.aload_n 0, 1) := by decide +kernel
theorem dL_law_658 : decode cL_law 658 = .ok (.iload_n 3, 1) := by decide +kernel
theorem dL_law_659 : decode cL_law 659 = .ok (.iconst 1, 1) := by decide +kernel
theorem dL_law_660 : decode cL_law 660 = .ok (.iadd, 1) := by decide +kernel
theorem dL_law_661 : decode cL_law 661 = .ok (.iaload, 1) := by decide +kernel
theorem dL_law_662 : decode cL_law 662 = .ok (.invokevirtual 70, 3) := by decide +kernel
theorem dL_law_665 : decode cL_law 665 = .ok (.aload_n 2, 1) := by decide +kernel
theorem dL_law_666 : decode cL_law 666 = .ok (.aload_n 0, 1) := by decide +kernel
theorem dL_law_667 : decode cL_law 667 = .ok (.iload_n 3, 1) := by decide +kernel
theorem dL_law_668 : decode cL_law 668 = .ok (.iconst 1, 1) := by decide +kernel
theorem dL_law_669 : decode cL_law 669 = .ok (.iadd, 1) := by decide +kernel
theorem dL_law_670 : decode cL_law 670 = .ok (.iaload, 1) := by decide +kernel
theorem dL_law_671 : decode cL_law 671 = .ok (.invokevirtual 74, 3) := by decide +kernel
theorem dL_law_674 : decode cL_law 674 = .ok (.lcmp, 1) := by decide +kernel
theorem dL_law_675 : decode cL_law 675 = .ok (.ifCond .eq 232, 3) := by decide +kernel
theorem dL_law_678 : decode cL_law 678 = .ok (.iconst 0, 1) := by decide +kernel
theorem dL_law_679 : decode cL_law 679 = .ok (.ireturn, 1) := by decide +kernel
theorem dL_law_680 : decode cL_law 680 = .ok (.aload_n 1, 1) := by decide +kernel
theorem dL_law_681 : decode cL_law 681 = .ok (.aload_n 0, 1) := by decide +kernel
theorem dL_law_682 : decode cL_law 682 = .ok (.iload_n 3, 1) := by decide +kernel
theorem dL_law_683 : decode cL_law 683 = .ok (.iconst 1, 1) := by decide +kernel
theorem dL_law_684 : decode cL_law 684 = .ok (.iadd, 1) := by decide +kernel
theorem dL_law_685 : decode cL_law 685 = .ok (.iaload, 1) := by decide +kernel
theorem dL_law_686 : decode cL_law 686 = .ok (.aload_n 0, 1) := by decide +kernel
theorem dL_law_687 : decode cL_law 687 = .ok (.iload_n 3, 1) := by decide +kernel
theorem dL_law_688 : decode cL_law 688 = .ok (.iconst 2, 1) := by decide +kernel
theorem dL_law_689 : decode cL_law 689 = .ok (.iadd, 1) := by decide +kernel
theorem dL_law_690 : decode cL_law 690 = .ok (.iaload, 1) := by decide +kernel
theorem dL_law_691 : decode cL_law 691 = .ok (.aload_n 0, 1) := by decide +kernel
theorem dL_law_692 : decode cL_law 692 = .ok (.iload_n 3, 1) := by decide +kernel
theorem dL_law_693 : decode cL_law 693 = .ok (.iconst 3, 1) := by decide +kernel
theorem dL_law_694 : decode cL_law 694 = .ok (.iadd, 1) := by decide +kernel
theorem dL_law_695 : decode cL_law 695 = .ok (.iaload, 1) := by decide +kernel
theorem dL_law_696 : decode cL_law 696 = .ok (.aload_n 0, 1) := by decide +kernel
theorem dL_law_697 : decode cL_law 697 = .ok (.iload_n 3, 1) := by decide +kernel
theorem dL_law_698 : decode cL_law 698 = .ok (.iconst 4, 1) := by decide +kernel
theorem dL_law_699 : decode cL_law 699 = .ok (.iadd, 1) := by decide +kernel
theorem dL_law_700 : decode cL_law 700 = .ok (.iaload, 1) := by decide +kernel
theorem dL_law_701 : decode cL_law 701 = .ok (.ifCond .eq 7, 3) := by decide +kernel
theorem dL_law_704 : decode cL_law 704 = .ok (.iconst 1, 1) := by decide +kernel
theorem dL_law_705 : decode cL_law 705 = .ok (.goto 4, 3) := by decide +kernel
theorem dL_law_708 : decode cL_law 708 = .ok (.iconst 0, 1) := by decide +kernel
theorem dL_law_709 : decode cL_law 709 = .ok (.invokevirtual 75, 3) := by decide +kernel
theorem dL_law_712 : decode cL_law 712 = .ok (.aload_n 2, 1) := by decide +kernel
theorem dL_law_713 : decode cL_law 713 = .ok (.aload_n 0, 1) := by decide +kernel
theorem dL_law_714 : decode cL_law 714 = .ok (.iload_n 3, 1) := by decide +kernel
theorem dL_law_715 : decode cL_law 715 = .ok (.iconst 1, 1) := by decide +kernel
theorem dL_law_716 : decode cL_law 716 = .ok (.iadd, 1) := by decide +kernel
theorem dL_law_717 : decode cL_law 717 = .ok (.iaload, 1) := by decide +kernel
theorem dL_law_718 : decode cL_law 718 = .ok (.aload_n 0, 1) := by decide +kernel
theorem dL_law_719 : decode cL_law 719 = .ok (.iload_n 3, 1) := by decide +kernel
theorem dL_law_720 : decode cL_law 720 = .ok (.iconst 2, 1) := by decide +kernel
theorem dL_law_721 : decode cL_law 721 = .ok (.iadd, 1) := by decide +kernel
theorem dL_law_722 : decode cL_law 722 = .ok (.iaload, 1) := by decide +kernel
theorem dL_law_723 : decode cL_law 723 = .ok (.aload_n 0, 1) := by decide +kernel
theorem dL_law_724 : decode cL_law 724 = .ok (.iload_n 3, 1) := by decide +kernel
theorem dL_law_725 : decode cL_law 725 = .ok (.iconst 3, 1) := by decide +kernel
theorem dL_law_726 : decode cL_law 726 = .ok (.iadd, 1) := by decide +kernel
theorem dL_law_727 : decode cL_law 727 = .ok (.iaload, 1) := by decide +kernel
theorem dL_law_728 : decode cL_law 728 = .ok (.aload_n 0, 1) := by decide +kernel
theorem dL_law_729 : decode cL_law 729 = .ok (.iload_n 3, 1) := by decide +kernel
theorem dL_law_730 : decode cL_law 730 = .ok (.iconst 4, 1) := by decide +kernel
theorem dL_law_731 : decode cL_law 731 = .ok (.iadd, 1) := by decide +kernel
theorem dL_law_732 : decode cL_law 732 = .ok (.iaload, 1) := by decide +kernel
theorem dL_law_733 : decode cL_law 733 = .ok (.ifCond .eq 7, 3) := by decide +kernel
theorem dL_law_736 : decode cL_law 736 = .ok (.iconst 1, 1) := by decide +kernel
theorem dL_law_737 : decode cL_law 737 = .ok (.goto 4, 3) := by decide +kernel
theorem dL_law_740 : decode cL_law 740 = .ok (.iconst 0, 1) := by decide +kernel
theorem dL_law_741 : decode cL_law 741 = .ok (.invokevirtual 79, 3) := by decide +kernel
theorem dL_law_744 : decode cL_law 744 = .ok (.if_icmp .eq 163, 3) := by decide +kernel
theorem dL_law_747 : decode cL_law 747 = .ok (.iconst 0, 1) := by decide +kernel
theorem dL_law_748 : decode cL_law 748 = .ok (.ireturn, 1) := by decide +kernel
theorem dL_law_749 : decode cL_law 749 = .ok (.aload_n 1, 1) := by decide +kernel
theorem dL_law_750 : decode cL_law 750 = .ok (.aload_n 0, 1) := by decide +kernel
theorem dL_law_751 : decode cL_law 751 = .ok (.iload_n 3, 1) := by decide +kernel
theorem dL_law_752 : decode cL_law 752 = .ok (.iconst 1, 1) := by decide +kernel
theorem dL_law_753 : decode cL_law 753 = .ok (.iadd, 1) := by decide +kernel
theorem dL_law_754 : decode cL_law 754 = .ok (.iaload, 1) := by decide +kernel
theorem dL_law_755 : decode cL_law 755 = .ok (.aload_n 0, 1) := by decide +kernel
theorem dL_law_756 : decode cL_law 756 = .ok (.iload_n 3, 1) := by decide +kernel
theorem dL_law_757 : decode cL_law 757 = .ok (.iconst 2, 1) := by decide +kernel
theorem dL_law_758 : decode cL_law 758 = .ok (.iadd, 1) := by decide +kernel
theorem dL_law_759 : decode cL_law 759 = .ok (.iaload, 1) := by decide +kernel
theorem dL_law_760 : decode cL_law 760 = .ok (.aload_n 0, 1) := by decide +kernel
theorem dL_law_761 : decode cL_law 761 = .ok (.iload_n 3, 1) := by decide +kernel
theorem dL_law_762 : decode cL_law 762 = .ok (.iconst 3, 1) := by decide +kernel
theorem dL_law_763 : decode cL_law 763 = .ok (.iadd, 1) := by decide +kernel
theorem dL_law_764 : decode cL_law 764 = .ok (.iaload, 1) := by decide +kernel
theorem dL_law_765 : decode cL_law 765 = .ok (.aload_n 0, 1) := by decide +kernel
theorem dL_law_766 : decode cL_law 766 = .ok (.iload_n 3, 1) := by decide +kernel
theorem dL_law_767 : decode cL_law 767 = .ok (.iconst 4, 1) := by decide +kernel
theorem dL_law_768 : decode cL_law 768 = .ok (.iadd, 1) := by decide +kernel
theorem dL_law_769 : decode cL_law 769 = .ok (.iaload, 1) := by decide +kernel
theorem dL_law_770 : decode cL_law 770 = .ok (.ifCond .eq 7, 3) := by decide +kernel
theorem dL_law_773 : decode cL_law 773 = .ok (.iconst 1, 1) := by decide +kernel
theorem dL_law_774 : decode cL_law 774 = .ok (.goto 4, 3) := by decide +kernel
theorem dL_law_777 : decode cL_law 777 = .ok (.iconst 0, 1) := by decide +kernel
theorem dL_law_778 : decode cL_law 778 = .ok (.invokevirtual 80, 3) := by decide +kernel
theorem dL_law_781 : decode cL_law 781 = .ok (.aload_n 2, 1) := by decide +kernel
theorem dL_law_782 : decode cL_law 782 = .ok (.aload_n 0, 1) := by decide +kernel
theorem dL_law_783 : decode cL_law 783 = .ok (.iload_n 3, 1) := by decide +kernel
theorem dL_law_784 : decode cL_law 784 = .ok (.iconst 1, 1) := by decide +kernel
theorem dL_law_785 : decode cL_law 785 = .ok (.iadd, 1) := by decide +kernel
theorem dL_law_786 : decode cL_law 786 = .ok (.iaload, 1) := by decide +kernel
theorem dL_law_787 : decode cL_law 787 = .ok (.aload_n 0, 1) := by decide +kernel
theorem dL_law_788 : decode cL_law 788 = .ok (.iload_n 3, 1) := by decide +kernel
theorem dL_law_789 : decode cL_law 789 = .ok (.iconst 2, 1) := by decide +kernel
theorem dL_law_790 : decode cL_law 790 = .ok (.iadd, 1) := by decide +kernel
theorem dL_law_791 : decode cL_law 791 = .ok (.iaload, 1) := by decide +kernel
theorem dL_law_792 : decode cL_law 792 = .ok (.aload_n 0, 1) := by decide +kernel
theorem dL_law_793 : decode cL_law 793 = .ok (.iload_n 3, 1) := by decide +kernel
theorem dL_law_794 : decode cL_law 794 = .ok (.iconst 3, 1) := by decide +kernel
theorem dL_law_795 : decode cL_law 795 = .ok (.iadd, 1) := by decide +kernel
theorem dL_law_796 : decode cL_law 796 = .ok (.iaload, 1) := by decide +kernel
theorem dL_law_797 : decode cL_law 797 = .ok (.aload_n 0, 1) := by decide +kernel
theorem dL_law_798 : decode cL_law 798 = .ok (.iload_n 3, 1) := by decide +kernel
theorem dL_law_799 : decode cL_law 799 = .ok (.iconst 4, 1) := by decide +kernel
theorem dL_law_800 : decode cL_law 800 = .ok (.iadd, 1) := by decide +kernel
theorem dL_law_801 : decode cL_law 801 = .ok (.iaload, 1) := by decide +kernel
theorem dL_law_802 : decode cL_law 802 = .ok (.ifCond .eq 7, 3) := by decide +kernel
theorem dL_law_805 : decode cL_law 805 = .ok (.iconst 1, 1) := by decide +kernel
theorem dL_law_806 : decode cL_law 806 = .ok (.goto 4, 3) := by decide +kernel
theorem dL_law_809 : decode cL_law 809 = .ok (.iconst 0, 1) := by decide +kernel
theorem dL_law_810 : decode cL_law 810 = .ok (.invokevirtual 83, 3) := by decide +kernel
theorem dL_law_813 : decode cL_law 813 = .ok (.if_icmp .eq 94, 3) := by decide +kernel
theorem dL_law_816 : decode cL_law 816 = .ok (.iconst 0, 1) := by decide +kernel
theorem dL_law_817 : decode cL_law 817 = .ok (.ireturn, 1) := by decide +kernel
theorem dL_law_818 : decode cL_law 818 = .ok (.aload_n 1, 1) := by decide +kernel
theorem dL_law_819 : decode cL_law 819 = .ok (.aload_n 0, 1) := by decide +kernel
theorem dL_law_820 : decode cL_law 820 = .ok (.iload_n 3, 1) := by decide +kernel
theorem dL_law_821 : decode cL_law 821 = .ok (.iconst 1, 1) := by decide +kernel
theorem dL_law_822 : decode cL_law 822 = .ok (.iadd, 1) := by decide +kernel
theorem dL_law_823 : decode cL_law 823 = .ok (.iaload, 1) := by decide +kernel
theorem dL_law_824 : decode cL_law 824 = .ok (.aload_n 0, 1) := by decide +kernel
theorem dL_law_825 : decode cL_law 825 = .ok (.iload_n 3, 1) := by decide +kernel
theorem dL_law_826 : decode cL_law 826 = .ok (.iconst 2, 1) := by decide +kernel
theorem dL_law_827 : decode cL_law 827 = .ok (.iadd, 1) := by decide +kernel
theorem dL_law_828 : decode cL_law 828 = .ok (.iaload, 1) := by decide +kernel
theorem dL_law_829 : decode cL_law 829 = .ok (.invokevirtual 84, 3) := by decide +kernel
theorem dL_law_832 : decode cL_law 832 = .ok (.aload_n 2, 1) := by decide +kernel
theorem dL_law_833 : decode cL_law 833 = .ok (.aload_n 0, 1) := by decide +kernel
theorem dL_law_834 : decode cL_law 834 = .ok (.iload_n 3, 1) := by decide +kernel
theorem dL_law_835 : decode cL_law 835 = .ok (.iconst 1, 1) := by decide +kernel
theorem dL_law_836 : decode cL_law 836 = .ok (.iadd, 1) := by decide +kernel
theorem dL_law_837 : decode cL_law 837 = .ok (.iaload, 1) := by decide +kernel
theorem dL_law_838 : decode cL_law 838 = .ok (.aload_n 0, 1) := by decide +kernel
theorem dL_law_839 : decode cL_law 839 = .ok (.iload_n 3, 1) := by decide +kernel
theorem dL_law_840 : decode cL_law 840 = .ok (.iconst 2, 1) := by decide +kernel
theorem dL_law_841 : decode cL_law 841 = .ok (.iadd, 1) := by decide +kernel
theorem dL_law_842 : decode cL_law 842 = .ok (.iaload, 1) := by decide +kernel
theorem dL_law_843 : decode cL_law 843 = .ok (.invokevirtual 87, 3) := by decide +kernel
theorem dL_law_846 : decode cL_law 846 = .ok (.if_icmp .eq 61, 3) := by decide +kernel
theorem dL_law_849 : decode cL_law 849 = .ok (.iconst 0, 1) := by decide +kernel
theorem dL_law_850 : decode cL_law 850 = .ok (.ireturn, 1) := by decide +kernel
theorem dL_law_851 : decode cL_law 851 = .ok (.aload_n 1, 1) := by decide +kernel
theorem dL_law_852 : decode cL_law 852 = .ok (.aload_n 0, 1) := by decide +kernel
theorem dL_law_853 : decode cL_law 853 = .ok (.iload_n 3, 1) := by decide +kernel
theorem dL_law_854 : decode cL_law 854 = .ok (.iconst 1, 1) := by decide +kernel
theorem dL_law_855 : decode cL_law 855 = .ok (.iadd, 1) := by decide +kernel
theorem dL_law_856 : decode cL_law 856 = .ok (.iaload, 1) := by decide +kernel
theorem dL_law_857 : decode cL_law 857 = .ok (.aload_n 0, 1) := by decide +kernel
theorem dL_law_858 : decode cL_law 858 = .ok (.iload_n 3, 1) := by decide +kernel
theorem dL_law_859 : decode cL_law 859 = .ok (.iconst 2, 1) := by decide +kernel
theorem dL_law_860 : decode cL_law 860 = .ok (.iadd, 1) := by decide +kernel
theorem dL_law_861 : decode cL_law 861 = .ok (.iaload, 1) := by decide +kernel
theorem dL_law_862 : decode cL_law 862 = .ok (.invokevirtual 88, 3) := by decide +kernel
theorem dL_law_865 : decode cL_law 865 = .ok (.aload_n 2, 1) := by decide +kernel
theorem dL_law_866 : decode cL_law 866 = .ok (.aload_n 0, 1) := by decide +kernel
theorem dL_law_867 : decode cL_law 867 = .ok (.iload_n 3, 1) := by decide +kernel
theorem dL_law_868 : decode cL_law 868 = .ok (.iconst 1, 1) := by decide +kernel
theorem dL_law_869 : decode cL_law 869 = .ok (.iadd, 1) := by decide +kernel
theorem dL_law_870 : decode cL_law 870 = .ok (.iaload, 1) := by decide +kernel
theorem dL_law_871 : decode cL_law 871 = .ok (.aload_n 0, 1) := by decide +kernel
theorem dL_law_872 : decode cL_law 872 = .ok (.iload_n 3, 1) := by decide +kernel
theorem dL_law_873 : decode cL_law 873 = .ok (.iconst 2, 1) := by decide +kernel
theorem dL_law_874 : decode cL_law 874 = .ok (.iadd, 1) := by decide +kernel
theorem dL_law_875 : decode cL_law 875 = .ok (.iaload, 1) := by decide +kernel
theorem dL_law_876 : decode cL_law 876 = .ok (.invokevirtual 91, 3) := by decide +kernel
theorem dL_law_879 : decode cL_law 879 = .ok (.if_icmp .eq 28, 3) := by decide +kernel
theorem dL_law_882 : decode cL_law 882 = .ok (.iconst 0, 1) := by decide +kernel
theorem dL_law_883 : decode cL_law 883 = .ok (.ireturn, 1) := by decide +kernel
theorem dL_law_884 : decode cL_law 884 = .ok (.aload_n 1, 1) := by decide +kernel
theorem dL_law_885 : decode cL_law 885 = .ok (.aload_n 0, 1) := by decide +kernel
theorem dL_law_886 : decode cL_law 886 = .ok (.iload_n 3, 1) := by decide +kernel
theorem dL_law_887 : decode cL_law 887 = .ok (.iconst 1, 1) := by decide +kernel
theorem dL_law_888 : decode cL_law 888 = .ok (.iadd, 1) := by decide +kernel
theorem dL_law_889 : decode cL_law 889 = .ok (.iaload, 1) := by decide +kernel
theorem dL_law_890 : decode cL_law 890 = .ok (.invokevirtual 92, 3) := by decide +kernel
theorem dL_law_893 : decode cL_law 893 = .ok (.aload_n 2, 1) := by decide +kernel
theorem dL_law_894 : decode cL_law 894 = .ok (.aload_n 0, 1) := by decide +kernel
theorem dL_law_895 : decode cL_law 895 = .ok (.iload_n 3, 1) := by decide +kernel
theorem dL_law_896 : decode cL_law 896 = .ok (.iconst 1, 1) := by decide +kernel
theorem dL_law_897 : decode cL_law 897 = .ok (.iadd, 1) := by decide +kernel
theorem dL_law_898 : decode cL_law 898 = .ok (.iaload, 1) := by decide +kernel
theorem dL_law_899 : decode cL_law 899 = .ok (.invokevirtual 95, 3) := by decide +kernel
theorem dL_law_902 : decode cL_law 902 = .ok (.if_icmp .eq 5, 3) := by decide +kernel
theorem dL_law_905 : decode cL_law 905 = .ok (.iconst 0, 1) := by decide +kernel
theorem dL_law_906 : decode cL_law 906 = .ok (.ireturn, 1) := by decide +kernel
theorem dL_law_907 : decode cL_law 907 = .ok (.iinc 3 6, 3) := by decide +kernel
theorem dL_law_910 : decode cL_law 910 = .ok (.goto (-892), 3) := by decide +kernel
theorem dL_law_913 : decode cL_law 913 = .ok (.iconst 1, 1) := by decide +kernel
theorem dL_law_914 : decode cL_law 914 = .ok (.ireturn, 1) := by decide +kernel
end
section
/-! The one world of class and reference: kinds, cells, what each holds as a function of the state. Written by wip/gen/mkbase.py. -/
abbrev Sg : Type := Nat → Nat → Nat → Int32
abbrev GT : Type := va_G × (Nat → Nat → Nat) × (Nat → ClassId)
def row3 (σ : Sg) (k i : Nat) (f : Nat → Int32) : Sg := fun a b => if a = k ∧ b = i then f else σ a b
def up3 (σ : Sg) (k i j : Nat) (x : Int32) : Sg := fun a b c => if a = k ∧ b = i ∧ c = j then x else σ a b c
theorem up3_row (σ : Sg) (k i j : Nat) (x : Int32) : up3 σ k i j x = row3 σ k i (upd (σ k i) j x) := by
  funext a b c
  unfold up3 row3 upd
  by_cases h : a = k ∧ b = i
  · obtain ⟨rfl, rfl⟩ := h
    simp
  · rw [if_neg h, if_neg (fun q => h ⟨q.1, q.2.1⟩)]
def cntL : List Nat := [1, 1, 5, 1, 1, 1, 10, 1, 10, 1, 1, 1, 1, 1, 1, 1, 1, 1, 5, 5, 5, 5, 5, 5, 1, 1, 1, 1, 1, 1, 10, 10, 10, 10, 10, 1, 10, 10, 10, 10, 10, 10, 10, 10, 1, 1, 1, 1, 1, 1, 1, 1, 1, 1, 1, 1, 1, 1, 1, 1, 1, 1, 1, 1, 1, 1, 1, 1, 1, 1, 1, 1, 1, 1, 1, 1, 1, 1, 1, 1, 1, 1, 1, 1, 1, 1, 1, 1, 1]
def nfL : List Nat := [6, 5, 9, 3, 7, 9, 9, 2, 13, 5, 59]
def aLL : List Nat := [0, 0, 0, 0, 0, 0, 0, 0, 0, 0, 0, 0, 0, 0, 12, 12, 12, 144, 12, 12, 12, 200, 200, 200, 5, 70, 70, 8, 88, 30, 7, 7, 7, 35, 5, 200, 7, 6, 6, 6, 6, 6, 7, 7, 12, 12, 12, 144, 10, 10, 10, 10, 10, 60, 60, 70, 20, 20, 20, 20, 200, 5, 5, 5, 60, 60, 60, 60, 1000, 1000, 1000, 1000, 200, 5, 200, 70, 70, 70, 70, 280, 10, 10, 10, 10, 8, 8, 8, 8, 8]
def aTL : List Nat := [0, 0, 0, 0, 0, 0, 0, 0, 0, 0, 0, 0, 0, 0, 0, 0, 0, 0, 0, 0, 0, 0, 0, 0, 0, 0, 0, 0, 0, 0, 0, 0, 0, 0, 0, 0, 0, 0, 0, 0, 0, 0, 0, 0, 0, 0, 0, 0, 0, 0, 0, 0, 0, 0, 0, 0, 0, 0, 0, 0, 1, 0, 0, 0, 0, 0, 0, 0, 0, 0, 0, 0, 0, 0, 2, 0, 0, 0, 0, 0, 0, 0, 0, 2, 0, 0, 0, 0, 0]
def cnt (k : Nat) : Nat := cntL.getD k 0
def nf (k : Nat) : Nat := nfL.getD k 0
def aL (k : Nat) : Nat := aLL.getD k 0
def aT (k : Nat) : Nat := aTL.getD k 0
def fv0 (g : GT) (i j : Nat) (x : Int32) : Value := match j with
  | 0 => .ref (g.2.1 1 0)
  | 1 => .ref (g.2.1 11 i)
  | 4 => .ref (g.2.1 12 i)
  | 5 => .ref (g.2.1 2 x.toNatClampNeg)
  | _ => .int x
def fv1 (g : GT) (i j : Nat) (x : Int32) : Value := match j with
  | 0 => .ref (g.2.1 14 i)
  | 1 => .ref (g.2.1 15 i)
  | 2 => .ref (g.2.1 16 i)
  | 3 => .ref (g.2.1 17 i)
  | _ => .int x
def fv2 (g : GT) (i j : Nat) (x : Int32) : Value := match j with
  | 2 => .ref (g.2.1 18 i)
  | 3 => .ref (g.2.1 19 i)
  | 4 => .ref (g.2.1 20 i)
  | 6 => .ref (g.2.1 21 i)
  | 7 => .ref (g.2.1 22 i)
  | 8 => .ref (g.2.1 23 i)
  | _ => .int x
def fv3 (g : GT) (i j : Nat) (x : Int32) : Value := match j with
  | 0 => .ref (g.2.1 13 i)
  | 1 => .ref (g.2.1 24 i)
  | _ => .int x
def fv4 (g : GT) (i j : Nat) (x : Int32) : Value := match j with
  | 0 => .ref (g.2.1 25 i)
  | 1 => .ref (g.2.1 26 i)
  | 2 => .ref (g.2.1 27 i)
  | 3 => .ref (g.2.1 28 i)
  | 5 => .ref (g.2.1 29 i)
  | _ => .int x
def fv5 (g : GT) (i j : Nat) (x : Int32) : Value := match j with
  | 0 => if x = 0 then .null else .ref (g.2.1 35 0)
  | 3 => if x = 0 then .null else .ref (g.2.1 2 (x.toNatClampNeg - 1))
  | _ => .int x
def fv6 (g : GT) (i j : Nat) (x : Int32) : Value := match j with
  | 0 => .ref (g.2.1 30 i)
  | 1 => .ref (g.2.1 31 i)
  | 2 => .ref (g.2.1 32 i)
  | 3 => .ref (g.2.1 33 i)
  | 4 => .ref (g.2.1 34 i)
  | _ => .int x
def fv7 (g : GT) (i j : Nat) (x : Int32) : Value := match j with
  | 0 => .ref (g.2.1 35 i)
  | _ => .int x
def fv8 (g : GT) (i j : Nat) (x : Int32) : Value := match j with
  | 5 => .ref (g.2.1 36 i)
  | 6 => .ref (g.2.1 37 i)
  | 7 => .ref (g.2.1 38 i)
  | 8 => .ref (g.2.1 39 i)
  | 9 => .ref (g.2.1 40 i)
  | 10 => .ref (g.2.1 41 i)
  | 11 => .ref (g.2.1 42 i)
  | 12 => .ref (g.2.1 43 i)
  | _ => .int x
def fv9 (g : GT) (i j : Nat) (x : Int32) : Value := match j with
  | 0 => .ref (g.2.1 0 0)
  | 1 => .ref (g.2.1 7 0)
  | 2 => .ref (g.2.1 5 0)
  | 3 => .ref (g.2.1 3 0)
  | 4 => .ref (g.2.1 4 0)
  | _ => .int x
def fv10 (g : GT) (i j : Nat) (x : Int32) : Value := match j with
  | 3 => .ref (g.2.1 44 i)
  | 4 => .ref (g.2.1 45 i)
  | 5 => .ref (g.2.1 46 i)
  | 6 => .ref (g.2.1 47 i)
  | 7 => .ref (g.2.1 48 i)
  | 8 => .ref (g.2.1 49 i)
  | 9 => .ref (g.2.1 50 i)
  | 10 => .ref (g.2.1 51 i)
  | 11 => .ref (g.2.1 52 i)
  | 12 => .ref (g.2.1 53 i)
  | 13 => .ref (g.2.1 54 i)
  | 14 => .ref (g.2.1 55 i)
  | 15 => .ref (g.2.1 56 i)
  | 16 => .ref (g.2.1 57 i)
  | 17 => .ref (g.2.1 58 i)
  | 18 => .ref (g.2.1 59 i)
  | 20 => .ref (g.2.1 60 i)
  | 24 => .ref (g.2.1 61 i)
  | 25 => .ref (g.2.1 62 i)
  | 26 => .ref (g.2.1 63 i)
  | 27 => .ref (g.2.1 64 i)
  | 28 => .ref (g.2.1 65 i)
  | 29 => .ref (g.2.1 66 i)
  | 30 => .ref (g.2.1 67 i)
  | 31 => .ref (g.2.1 68 i)
  | 32 => .ref (g.2.1 69 i)
  | 33 => .ref (g.2.1 70 i)
  | 34 => .ref (g.2.1 71 i)
  | 35 => .ref (g.2.1 72 i)
  | 41 => .ref (g.2.1 73 i)
  | 42 => .ref (g.2.1 74 i)
  | 43 => .ref (g.2.1 75 i)
  | 44 => .ref (g.2.1 76 i)
  | 45 => .ref (g.2.1 77 i)
  | 46 => .ref (g.2.1 78 i)
  | 47 => .ref (g.2.1 79 i)
  | 48 => .ref (g.2.1 80 i)
  | 49 => .ref (g.2.1 81 i)
  | 50 => .ref (g.2.1 82 i)
  | 51 => .ref (g.2.1 83 i)
  | 53 => .ref (g.2.1 84 i)
  | 54 => .ref (g.2.1 85 i)
  | 56 => .ref (g.2.1 86 i)
  | 57 => .ref (g.2.1 87 i)
  | 58 => .ref (g.2.1 88 i)
  | _ => .int x
def fvA (g : GT) (k i j : Nat) (x : Int32) : Value := match k with
  | 0 => fv0 g i j x
  | 1 => fv1 g i j x
  | 2 => fv2 g i j x
  | 3 => fv3 g i j x
  | 4 => fv4 g i j x
  | 5 => fv5 g i j x
  | 6 => fv6 g i j x
  | 7 => fv7 g i j x
  | 8 => fv8 g i j x
  | 9 => fv9 g i j x
  | _ => fv10 g i j x
def refA (f : Nat → Option Nat) : vp_A := (0, .inr (.inr (.inr (.inr f))))
def GE (g : GT) (k i : Nat) (r : Nat → Int32) : va_E :=
  if k < 11 then .inr (k, (List.range (nf k)).map (fun j => fvA g k i j (r j)))
  else if k = 11 then .inl (g.2.2 3, 10, .inr (.inr (.inr (.inr (fun j => some (g.2.1 8 j))))))
  else if k = 12 then .inl (g.2.2 5, 4, .inr (.inr (.inr (.inr (fun j => some (g.2.1 2 (r j).toNatClampNeg))))))
  else if k = 13 then .inl (g.2.2 4, 10, .inr (.inr (.inr (.inr (fun j => some (g.2.1 6 j))))))
  else .inl (g.2.2 (aT k), aL k, .inl r)
theorem GE_obj (g : GT) {k : Nat} (i : Nat) (r : Nat → Int32) (h : k < 11) : GE g k i r = .inr (k, (List.range (nf k)).map (fun j => fvA g k i j (r j))) := if_pos h
theorem GE_arr (g : GT) {k : Nat} (i : Nat) (r : Nat → Int32) (h : 14 ≤ k) : GE g k i r = .inl (g.2.2 (aT k), aL k, .inl r) := by
  unfold GE
  rw [if_neg (by omega), if_neg (by omega), if_neg (by omega), if_neg (by omega)]
def allc : List (Nat × Nat) := (List.range 89).flatMap (fun k => (List.range (cnt k)).map (fun i => (k, i)))
theorem allc_nd : allc.Nodup := by decide +kernel
theorem cnt_out {k : Nat} (h : 89 ≤ k) : cnt k = 0 := by
  unfold cnt
  rw [List.getD_eq_getElem?_getD, List.getElem?_eq_none (by simpa [cntL] using h)]
  rfl
theorem allc_mem {k i : Nat} (h : i < cnt k) : (k, i) ∈ allc := by
  have hk : k < 89 := Nat.lt_of_not_le fun q => by rw [cnt_out q] at h; omega
  exact List.mem_flatMap.mpr ⟨k, List.mem_range.mpr hk, List.mem_map.mpr ⟨i, List.mem_range.mpr h, rfl⟩⟩
theorem allc_lt {k i : Nat} (h : (k, i) ∈ allc) : i < cnt k := by
  obtain ⟨k', -, h⟩ := List.mem_flatMap.mp h
  obtain ⟨i', h1, h2⟩ := List.mem_map.mp h
  cases h2
  exact List.mem_range.mp h1
def tys (g : GT) : List (ClassId × FieldType) := [(g.2.2 0, .int), (g.2.2 1, .byte), (g.2.2 2, .boolean), (g.2.2 3, .object "OceanMail$Voyage"), (g.2.2 4, .object "OceanMail$Sailing"), (g.2.2 5, .object "OceanMail$Contract")]
def ws (g : GT) (σ : Sg) : va_W := allc.map (fun c => (g.2.1 c.1 c.2, GE g c.1 c.2 (σ c.1 c.2)))
def GI (g : GT) : Prop := ∀ c d : Nat × Nat, c ∈ allc → d ∈ allc → g.2.1 c.1 c.2 = g.2.1 d.1 d.2 → c = d
def GA (g : GT) : Nat → Prop := fun q => ∃ c : Nat × Nat, c ∈ allc ∧ q = g.2.1 c.1 c.2
def nests : List (String × Nat × MethodName × String) := [("OceanMail$Voyage", 58, ⟨"OceanMail", "hoursFor", "(II)I"⟩, "OceanMail"), ("OceanMail$Reader", 98, ⟨"OceanMail$Contract", "isComparison", "(I)Z"⟩, "OceanMail"), ("OceanMail$Chart", 28, ⟨"OceanMail", "monthOf", "(I)I"⟩, "OceanMail"), ("OceanMail$Course", 140, ⟨"OceanMail", "monthOf", "(I)I"⟩, "OceanMail"), ("OceanMail$Course", 182, ⟨"OceanMail", "hoursFor", "(II)I"⟩, "OceanMail")]
def NW (U : State) : Prop := ∀ q ∈ nests, va_Nw (.methodLinkNest q.1 q.2.1 q.2.2.1 q.2.2.2) U
theorem NW.warm {s U : State} (hW : s.WarmedH U.vm) (h : NW s) : NW U := fun q hq => va_Nw.warmM hW (h q hq)
theorem NW.same {s U : State} (e : s.vm = U.vm) (h : NW s) : NW U := fun q hq => va_Nw.same rfl e (h q hq)
def GW (g : GT) (σ : Sg) (U : State) : Prop := va_P g.1 vwCl (ws g σ) U.heap ∧ va_K g.1 vwCl (tys g) U ∧ NW U
theorem ws_at (g : GT) (σ : Sg) {k i : Nat} (h : i < cnt k) : ∃ n : Nat, (ws g σ)[n]? = some (g.2.1 k i, GE g k i (σ k i)) ∧ allc[n]? = some (k, i) := by
  obtain ⟨n, hn⟩ := List.getElem?_of_mem (allc_mem h)
  exact ⟨n, by unfold ws; rw [List.getElem?_map, hn]; rfl, hn⟩
theorem nd_pos {α : Type} : ∀ {l : List α}, l.Nodup → ∀ {a b : Nat} {x : α}, l[a]? = some x → l[b]? = some x → a = b := by
  intro l
  induction l with
  | nil => intro _ a b x h; simp at h
  | cons y t ih =>
    intro hn a b x h1 h2
    rw [List.nodup_cons] at hn
    cases a with
    | zero =>
      cases b with
      | zero => rfl
      | succ b =>
        simp at h1 h2
        subst h1
        exact absurd (List.mem_of_getElem? h2) hn.1
    | succ a =>
      cases b with
      | zero =>
        simp at h1 h2
        subst h2
        exact absurd (List.mem_of_getElem? h1) hn.1
      | succ b =>
        simp at h1 h2
        rw [ih hn.2 h1 h2]
theorem ws_set (g : GT) (σ : Sg) {k i n : Nat} (hn : allc[n]? = some (k, i)) (f : Nat → Int32) : (ws g σ).set n (g.2.1 k i, GE g k i f) = ws g (row3 σ k i f) := by
  unfold ws
  apply List.ext_getElem?
  intro j
  rw [List.getElem?_set, List.getElem?_map, List.getElem?_map]
  by_cases hj : n = j
  · subst hj
    have hl : n < allc.length := (List.getElem?_eq_some_iff.mp hn).1
    rw [if_pos rfl, if_pos (by rw [List.length_map]; exact hl), hn]
    simp [row3]
  · rw [if_neg hj]
    cases hc : allc[j]? with
    | none => rfl
    | some c =>
      have hne : ¬ (c.1 = k ∧ c.2 = i) := by
        rintro ⟨h1, h2⟩
        apply hj
        refine nd_pos allc_nd hn ?_
        rw [hc, ← h1, ← h2]
      show some (_, GE g c.1 c.2 (σ c.1 c.2)) = some (_, GE g c.1 c.2 (row3 σ k i f c.1 c.2))
      rw [show row3 σ k i f c.1 c.2 = σ c.1 c.2 from if_neg hne]
theorem ws_D {g : GT} {A : Nat → Prop} (hI : GI g) (hA : ∀ q, GA g q → A q) (σ : Sg) : va_D A (ws g σ) := by
  have key : ∀ (n : Nat) (p : Nat × va_E), (ws g σ)[n]? = some p → ∃ c, allc[n]? = some c ∧ p.1 = g.2.1 c.1 c.2 := by
    intro n p h
    unfold ws at h
    rw [List.getElem?_map] at h
    cases hc : allc[n]? with
    | none => rw [hc] at h; cases h
    | some c => rw [hc] at h; cases h; exact ⟨c, rfl, rfl⟩
  refine ⟨fun i j p q h1 h2 e => ?_, fun n p h => ?_⟩
  · obtain ⟨c, c1, c2⟩ := key i p h1
    obtain ⟨d, d1, d2⟩ := key j q h2
    have hcd : c = d := hI c d (List.mem_of_getElem? c1) (List.mem_of_getElem? d1) (by rw [← c2, ← d2]; exact e)
    subst hcd
    exact nd_pos allc_nd c1 d1
  · obtain ⟨c, c1, c2⟩ := key n p h
    exact hA _ ⟨c, List.mem_of_getElem? c1, c2⟩
def gtb : List Cond := lw_tbl.filter goodWord
theorem tbl_good : GoodIn gtb gtb := fun w hw => ⟨hw, good_of_word (List.mem_filter.mp hw).2⟩
theorem gtb_in : ∀ w ∈ gtb, w ∈ lw_tbl := fun w hw => (List.mem_filter.mp hw).1
theorem in_tbl (n : Nat) {w : Cond} (h : tables_1[n]? = some w) (hg : goodWord w = true) : w ∈ gtb := List.mem_filter.mpr ⟨List.mem_append_right _ (List.mem_of_getElem? h), hg⟩
theorem in_prv (n : Nat) {w : Cond} (h : (k2_sels lw_privs)[n]? = some w) (hg : goodWord w = true) : w ∈ gtb := List.mem_filter.mpr ⟨List.mem_append_left _ (List.mem_of_getElem? h), hg⟩
def gi (x : Int32) (n : Nat) : Bool := decide (¬ x < 0) && decide (x.toNatClampNeg < n)
def chk {ρ : Type} (b : Bool) (o : Option ρ) : Option ρ := if b = true then o else none
theorem chk_some {ρ : Type} {b : Bool} {o : Option ρ} {r : ρ} (h : chk b o = some r) : b = true ∧ o = some r := by
  unfold chk at h
  by_cases hb : b = true
  · rw [if_pos hb] at h; exact ⟨hb, h⟩
  · rw [if_neg hb] at h; cases h
theorem gi_in {x : Int32} {n : Nat} (h : gi x n = true) : vp_in x n := by
  unfold gi at h
  simp only [Bool.and_eq_true, decide_eq_true_eq] at h
  rintro (q | q)
  · exact h.1 q
  · omega
theorem gi_lt {x : Int32} {n : Nat} (h : gi x n = true) : x.toNatClampNeg < n := by
  unfold gi at h
  simp only [Bool.and_eq_true, decide_eq_true_eq] at h
  exact h.2
end
section
/-! The judgement Im: a machine configuration carries out the computation o; a rule an instruction. -/
abbrev Cx : Type := Program × Launch × Env × Room × State × MethodId × Array Value × List Frame × Method × Code × (Nat → Prop) × Nat × Nat
def Fx (X : Cx) (g : GT) (own : String) (cc : ByteArray) (nL fr lo : Nat) : Prop := match X with
  | (p, _, _, R, s, m, args, _, _, c, A, cells, slots) => (p.tables.exec = Jvm.exec ∧ c.code = cc ∧ c.maxLocals = nL ∧ s.vm.findClass own = some m.cls ∧ ∀ w ∈ gtb, w.before args s = true) ∧ (fr ≤ R.frames ∧ lo ≤ R.locals ∧ cells ≤ R.cells ∧ slots ≤ R.slots) ∧ GI g ∧ (∀ q, GA g q → A q) ∧ va_K g.1 vwCl (tys g) s ∧ NW s
def Im {ρ : Type} (X : Cx) (g : GT) (nL : Nat) (Qz : ρ → State → Prop) (σ : Sg) (pc : Nat) (lv : List (Nat × Value)) (st : List Value) (o : Option ρ) : Prop := match X with
  | (p, l, e, R, s, m, args, below, meth, c, A, cells, slots) => ∀ r : ρ, o = some r → ∀ (H : Heap) (locs : List Loc) (ls : Array Slot), va_P g.1 vwCl (ws g σ) H → va_S A s.heap H locs → lv_has ls nL lv → W p l e R s m args below meth c H locs cells slots (Qz r) (F0 m pc ls st)
section RULES
variable {ρ : Type} {X : Cx} {g : GT} {own : String} {cc : ByteArray} {nL fr lo : Nat} {Qz : ρ → State → Prop} {σ : Sg} {pc : Nat} {lv : List (Nat × Value)} {st : List Value} {o oa ob : Option ρ}
theorem im_none : Im X g nL Qz σ pc lv st (none : Option ρ) := by
  obtain ⟨p, l, e, R, s, m, args, below, meth, c, A, cells, slots⟩ := X
  intro r hr
  cases hr
theorem im_chk {b : Bool} (k : b = true → Im X g nL Qz σ pc lv st o) : Im X g nL Qz σ pc lv st (chk b o) := by
  obtain ⟨p, l, e, R, s, m, args, below, meth, c, A, cells, slots⟩ := X
  intro r hr
  obtain ⟨hb, ho⟩ := chk_some hr
  exact k hb r ho
theorem im_ite {P : Prop} [Decidable P] (kt : P → Im X g nL Qz σ pc lv st oa) (kf : ¬ P → Im X g nL Qz σ pc lv st ob) : Im X g nL Qz σ pc lv st (if P then oa else ob) := by
  by_cases h : P
  · rw [if_pos h]; exact kt h
  · rw [if_neg h]; exact kf h
theorem im_sub {lv' : List (Nat × Value)} (ks : List Nat) (hl : lv_pick lv ks = lv') (k : Im X g nL Qz σ pc lv' st o) : Im X g nL Qz σ pc lv st o := by
  obtain ⟨p, l, e, R, s, m, args, below, meth, c, A, cells, slots⟩ := X
  intro r hr H locs ls hP hS h
  exact k r hr H locs ls hP hS (lv_sub h ks hl)
theorem im_iconst (hF : Fx X g own cc nL fr lo) {n : Int} {v : Int32} (d : decode cc pc = .ok (.iconst n, 1)) (hv : Int32.ofInt n = v) (k : Im X g nL Qz σ (pc + 1) lv (.int v :: st) o) : Im X g nL Qz σ pc lv (st) o := by
  obtain ⟨p, l, e, R, s, m, args, below, meth, c, A, cells, slots⟩ := X
  obtain ⟨⟨hx, hb, hml, hown, hts⟩, hR, hI, hA, hK, hN⟩ := hF
  intro r hr H locs ls hP hS hl
  exact lv_iconst hx hb d hv (k r hr H locs ls hP hS hl)
theorem im_bipush (hF : Fx X g own cc nL fr lo) {n : Int} {v : Int32} (d : decode cc pc = .ok (.bipush n, 2)) (hv : (Int8.ofInt n).toInt32 = v) (k : Im X g nL Qz σ (pc + 2) lv (.int v :: st) o) : Im X g nL Qz σ pc lv (st) o := by
  obtain ⟨p, l, e, R, s, m, args, below, meth, c, A, cells, slots⟩ := X
  obtain ⟨⟨hx, hb, hml, hown, hts⟩, hR, hI, hA, hK, hN⟩ := hF
  intro r hr H locs ls hP hS hl
  exact lv_bipush hx hb d hv (k r hr H locs ls hP hS hl)
theorem im_sipush (hF : Fx X g own cc nL fr lo) {n : Int} {v : Int32} (d : decode cc pc = .ok (.sipush n, 3)) (hv : (Int16.ofInt n).toInt32 = v) (k : Im X g nL Qz σ (pc + 3) lv (.int v :: st) o) : Im X g nL Qz σ pc lv (st) o := by
  obtain ⟨p, l, e, R, s, m, args, below, meth, c, A, cells, slots⟩ := X
  obtain ⟨⟨hx, hb, hml, hown, hts⟩, hR, hI, hA, hK, hN⟩ := hF
  intro r hr H locs ls hP hS hl
  exact lv_sipush hx hb d hv (k r hr H locs ls hP hS hl)
theorem im_lconst (hF : Fx X g own cc nL fr lo) {n : Fin 2} {v : Int64} (d : decode cc pc = .ok (.lconst n, 1)) (hv : Int64.ofNat (n : Nat) = v) (k : Im X g nL Qz σ (pc + 1) lv (.long v :: st) o) : Im X g nL Qz σ pc lv (st) o := by
  obtain ⟨p, l, e, R, s, m, args, below, meth, c, A, cells, slots⟩ := X
  obtain ⟨⟨hx, hb, hml, hown, hts⟩, hR, hI, hA, hK, hN⟩ := hF
  intro r hr H locs ls hP hS hl
  exact lv_lconst hx hb d hv (k r hr H locs ls hP hS hl)
theorem im_dconst0 (hF : Fx X g own cc nL fr lo)  (d : decode cc pc = .ok (.dconst 0, 1))  (k : Im X g nL Qz σ (pc + 1) lv (.double FP.dconst0 :: st) o) : Im X g nL Qz σ pc lv (st) o := by
  obtain ⟨p, l, e, R, s, m, args, below, meth, c, A, cells, slots⟩ := X
  obtain ⟨⟨hx, hb, hml, hown, hts⟩, hR, hI, hA, hK, hN⟩ := hF
  intro r hr H locs ls hP hS hl
  exact lv_dconst0 hx hb d  (k r hr H locs ls hP hS hl)
theorem im_iload_n (hF : Fx X g own cc nL fr lo) {kf : Fin 4} {x : Int32} (d : decode cc pc = .ok (.iload_n kf, 1)) (q : Nat) (hq : lv[q]? = some ((kf : Nat), .int x)) (k : Im X g nL Qz σ (pc + 1) lv (.int x :: st) o) : Im X g nL Qz σ pc lv (st) o := by
  obtain ⟨p, l, e, R, s, m, args, below, meth, c, A, cells, slots⟩ := X
  obtain ⟨⟨hx, hb, hml, hown, hts⟩, hR, hI, hA, hK, hN⟩ := hF
  intro r hr H locs ls hP hS hl
  exact lv_iload_n hx hb d rfl (lv_at hl q hq) (k r hr H locs ls hP hS hl)
theorem im_iload (hF : Fx X g own cc nL fr lo) {i : Nat} {x : Int32} (d : decode cc pc = .ok (.iload i, 2)) (q : Nat) (hq : lv[q]? = some (i, .int x)) (k : Im X g nL Qz σ (pc + 2) lv (.int x :: st) o) : Im X g nL Qz σ pc lv (st) o := by
  obtain ⟨p, l, e, R, s, m, args, below, meth, c, A, cells, slots⟩ := X
  obtain ⟨⟨hx, hb, hml, hown, hts⟩, hR, hI, hA, hK, hN⟩ := hF
  intro r hr H locs ls hP hS hl
  exact lv_iload hx hb d (lv_at hl q hq) (k r hr H locs ls hP hS hl)
theorem im_lload_n (hF : Fx X g own cc nL fr lo) {kf : Fin 4} {x : Int64} (d : decode cc pc = .ok (.lload_n kf, 1)) (q : Nat) (hq : lv[q]? = some ((kf : Nat), .long x)) (k : Im X g nL Qz σ (pc + 1) lv (.long x :: st) o) : Im X g nL Qz σ pc lv (st) o := by
  obtain ⟨p, l, e, R, s, m, args, below, meth, c, A, cells, slots⟩ := X
  obtain ⟨⟨hx, hb, hml, hown, hts⟩, hR, hI, hA, hK, hN⟩ := hF
  intro r hr H locs ls hP hS hl
  exact lv_lload_n hx hb d rfl (lv_at hl q hq) (k r hr H locs ls hP hS hl)
theorem im_lload (hF : Fx X g own cc nL fr lo) {i : Nat} {x : Int64} (d : decode cc pc = .ok (.lload i, 2)) (q : Nat) (hq : lv[q]? = some (i, .long x)) (k : Im X g nL Qz σ (pc + 2) lv (.long x :: st) o) : Im X g nL Qz σ pc lv (st) o := by
  obtain ⟨p, l, e, R, s, m, args, below, meth, c, A, cells, slots⟩ := X
  obtain ⟨⟨hx, hb, hml, hown, hts⟩, hR, hI, hA, hK, hN⟩ := hF
  intro r hr H locs ls hP hS hl
  exact lv_lload hx hb d (lv_at hl q hq) (k r hr H locs ls hP hS hl)
theorem im_dload_n (hF : Fx X g own cc nL fr lo) {kf : Fin 4} {x : UInt64} (d : decode cc pc = .ok (.dload_n kf, 1)) (q : Nat) (hq : lv[q]? = some ((kf : Nat), .double x)) (k : Im X g nL Qz σ (pc + 1) lv (.double x :: st) o) : Im X g nL Qz σ pc lv (st) o := by
  obtain ⟨p, l, e, R, s, m, args, below, meth, c, A, cells, slots⟩ := X
  obtain ⟨⟨hx, hb, hml, hown, hts⟩, hR, hI, hA, hK, hN⟩ := hF
  intro r hr H locs ls hP hS hl
  exact lv_dload_n hx hb d rfl (lv_at hl q hq) (k r hr H locs ls hP hS hl)
theorem im_dload (hF : Fx X g own cc nL fr lo) {i : Nat} {x : UInt64} (d : decode cc pc = .ok (.dload i, 2)) (q : Nat) (hq : lv[q]? = some (i, .double x)) (k : Im X g nL Qz σ (pc + 2) lv (.double x :: st) o) : Im X g nL Qz σ pc lv (st) o := by
  obtain ⟨p, l, e, R, s, m, args, below, meth, c, A, cells, slots⟩ := X
  obtain ⟨⟨hx, hb, hml, hown, hts⟩, hR, hI, hA, hK, hN⟩ := hF
  intro r hr H locs ls hP hS hl
  exact lv_dload hx hb d (lv_at hl q hq) (k r hr H locs ls hP hS hl)
theorem im_aload_n (hF : Fx X g own cc nL fr lo) {kf : Fin 4} {x : Nat} (d : decode cc pc = .ok (.aload_n kf, 1)) (q : Nat) (hq : lv[q]? = some ((kf : Nat), .ref x)) (k : Im X g nL Qz σ (pc + 1) lv (.ref x :: st) o) : Im X g nL Qz σ pc lv (st) o := by
  obtain ⟨p, l, e, R, s, m, args, below, meth, c, A, cells, slots⟩ := X
  obtain ⟨⟨hx, hb, hml, hown, hts⟩, hR, hI, hA, hK, hN⟩ := hF
  intro r hr H locs ls hP hS hl
  exact lv_aload_n hx hb d rfl (lv_at hl q hq) (k r hr H locs ls hP hS hl)
theorem im_aload (hF : Fx X g own cc nL fr lo) {i : Nat} {x : Nat} (d : decode cc pc = .ok (.aload i, 2)) (q : Nat) (hq : lv[q]? = some (i, .ref x)) (k : Im X g nL Qz σ (pc + 2) lv (.ref x :: st) o) : Im X g nL Qz σ pc lv (st) o := by
  obtain ⟨p, l, e, R, s, m, args, below, meth, c, A, cells, slots⟩ := X
  obtain ⟨⟨hx, hb, hml, hown, hts⟩, hR, hI, hA, hK, hN⟩ := hF
  intro r hr H locs ls hP hS hl
  exact lv_aload hx hb d (lv_at hl q hq) (k r hr H locs ls hP hS hl)
theorem im_istore_n (hF : Fx X g own cc nL fr lo) {kf : Fin 4} {i : Nat} {x : Int32} {lv' : List (Nat × Value)} (d : decode cc pc = .ok (.istore_n kf, 1)) (hi : (kf : Nat) = i) (hn : i < nL) (hl : (i, Value.int x) :: lv.filter (fun q => !(q.1 == i) && !(q.1 + 1 == i && q.2.category == 2)) = lv') (k : Im X g nL Qz σ (pc + 1) lv' st o) : Im X g nL Qz σ pc lv (.int x :: st) o := by
  obtain ⟨p, l, e, R, s, m, args, below, meth, c, A, cells, slots⟩ := X
  obtain ⟨⟨hx, hb, hml, hown, hts⟩, hR, hI, hA, hK, hN⟩ := hF
  intro r hr H locs ls hP hS h9
  exact lv_istore_n hx hb d hi h9 hn hl (fun ls hl => k r hr H locs ls hP hS hl)
theorem im_istore (hF : Fx X g own cc nL fr lo) {i : Nat} {x : Int32} {lv' : List (Nat × Value)} (d : decode cc pc = .ok (.istore i, 2)) (hn : i < nL) (hl : (i, Value.int x) :: lv.filter (fun q => !(q.1 == i) && !(q.1 + 1 == i && q.2.category == 2)) = lv') (k : Im X g nL Qz σ (pc + 2) lv' st o) : Im X g nL Qz σ pc lv (.int x :: st) o := by
  obtain ⟨p, l, e, R, s, m, args, below, meth, c, A, cells, slots⟩ := X
  obtain ⟨⟨hx, hb, hml, hown, hts⟩, hR, hI, hA, hK, hN⟩ := hF
  intro r hr H locs ls hP hS h9
  exact lv_istore hx hb d h9 hn hl (fun ls hl => k r hr H locs ls hP hS hl)
theorem im_astore_n (hF : Fx X g own cc nL fr lo) {kf : Fin 4} {i : Nat} {x : Nat} {lv' : List (Nat × Value)} (d : decode cc pc = .ok (.astore_n kf, 1)) (hi : (kf : Nat) = i) (hn : i < nL) (hl : (i, Value.ref x) :: lv.filter (fun q => !(q.1 == i) && !(q.1 + 1 == i && q.2.category == 2)) = lv') (k : Im X g nL Qz σ (pc + 1) lv' st o) : Im X g nL Qz σ pc lv (.ref x :: st) o := by
  obtain ⟨p, l, e, R, s, m, args, below, meth, c, A, cells, slots⟩ := X
  obtain ⟨⟨hx, hb, hml, hown, hts⟩, hR, hI, hA, hK, hN⟩ := hF
  intro r hr H locs ls hP hS h9
  exact lv_astore_n hx hb d hi h9 hn hl (fun ls hl => k r hr H locs ls hP hS hl)
theorem im_astore (hF : Fx X g own cc nL fr lo) {i : Nat} {x : Nat} {lv' : List (Nat × Value)} (d : decode cc pc = .ok (.astore i, 2)) (hn : i < nL) (hl : (i, Value.ref x) :: lv.filter (fun q => !(q.1 == i) && !(q.1 + 1 == i && q.2.category == 2)) = lv') (k : Im X g nL Qz σ (pc + 2) lv' st o) : Im X g nL Qz σ pc lv (.ref x :: st) o := by
  obtain ⟨p, l, e, R, s, m, args, below, meth, c, A, cells, slots⟩ := X
  obtain ⟨⟨hx, hb, hml, hown, hts⟩, hR, hI, hA, hK, hN⟩ := hF
  intro r hr H locs ls hP hS h9
  exact lv_astore hx hb d h9 hn hl (fun ls hl => k r hr H locs ls hP hS hl)
theorem im_lstore_n (hF : Fx X g own cc nL fr lo) {kf : Fin 4} {i : Nat} {x : Int64} {lv' : List (Nat × Value)} (d : decode cc pc = .ok (.lstore_n kf, 1)) (hi : (kf : Nat) = i) (hn : i + 1 < nL) (hl : (i, Value.long x) :: lv.filter (fun q => !(q.1 == i) && (!(q.1 == i + 1) && !(q.1 + 1 == i && q.2.category == 2))) = lv') (k : Im X g nL Qz σ (pc + 1) lv' st o) : Im X g nL Qz σ pc lv (.long x :: st) o := by
  obtain ⟨p, l, e, R, s, m, args, below, meth, c, A, cells, slots⟩ := X
  obtain ⟨⟨hx, hb, hml, hown, hts⟩, hR, hI, hA, hK, hN⟩ := hF
  intro r hr H locs ls hP hS h9
  exact lv_lstore_n hx hb d hi h9 hn hl (fun ls hl => k r hr H locs ls hP hS hl)
theorem im_lstore (hF : Fx X g own cc nL fr lo) {i : Nat} {x : Int64} {lv' : List (Nat × Value)} (d : decode cc pc = .ok (.lstore i, 2)) (hn : i + 1 < nL) (hl : (i, Value.long x) :: lv.filter (fun q => !(q.1 == i) && (!(q.1 == i + 1) && !(q.1 + 1 == i && q.2.category == 2))) = lv') (k : Im X g nL Qz σ (pc + 2) lv' st o) : Im X g nL Qz σ pc lv (.long x :: st) o := by
  obtain ⟨p, l, e, R, s, m, args, below, meth, c, A, cells, slots⟩ := X
  obtain ⟨⟨hx, hb, hml, hown, hts⟩, hR, hI, hA, hK, hN⟩ := hF
  intro r hr H locs ls hP hS h9
  exact lv_lstore hx hb d h9 hn hl (fun ls hl => k r hr H locs ls hP hS hl)
theorem im_dstore (hF : Fx X g own cc nL fr lo) {i : Nat} {x : UInt64} {lv' : List (Nat × Value)} (d : decode cc pc = .ok (.dstore i, 2)) (hn : i + 1 < nL) (hl : (i, Value.double x) :: lv.filter (fun q => !(q.1 == i) && (!(q.1 == i + 1) && !(q.1 + 1 == i && q.2.category == 2))) = lv') (k : Im X g nL Qz σ (pc + 2) lv' st o) : Im X g nL Qz σ pc lv (.double x :: st) o := by
  obtain ⟨p, l, e, R, s, m, args, below, meth, c, A, cells, slots⟩ := X
  obtain ⟨⟨hx, hb, hml, hown, hts⟩, hR, hI, hA, hK, hN⟩ := hF
  intro r hr H locs ls hP hS h9
  exact lv_dstore hx hb d h9 hn hl (fun ls hl => k r hr H locs ls hP hS hl)
theorem im_iinc (hF : Fx X g own cc nL fr lo) {i : Nat} {n : Int} {x v : Int32} {lv' : List (Nat × Value)} (d : decode cc pc = .ok (.iinc i n, 3)) (q : Nat) (hq : lv[q]? = some (i, .int x)) (hv : x + Int32.ofInt n = v) (hn : i < nL) (hl : (i, Value.int v) :: lv.filter (fun q => !(q.1 == i) && !(q.1 + 1 == i && q.2.category == 2)) = lv') (k : Im X g nL Qz σ (pc + 3) lv' st o) : Im X g nL Qz σ pc lv st o := by
  obtain ⟨p, l, e, R, s, m, args, below, meth, c, A, cells, slots⟩ := X
  obtain ⟨⟨hx, hb, hml, hown, hts⟩, hR, hI, hA, hK, hN⟩ := hF
  intro r hr H locs ls hP hS h9
  exact lv_iinc hx hb d h9 hq hv hn hl (fun ls hl => k r hr H locs ls hP hS hl)
theorem im_iadd (hF : Fx X g own cc nL fr lo) {a b : Int32} (d : decode cc pc = .ok (.iadd, 1))  (k : Im X g nL Qz σ (pc + 1) lv (.int (a + b) :: st) o) : Im X g nL Qz σ pc lv (.int b :: .int a :: st) o := by
  obtain ⟨p, l, e, R, s, m, args, below, meth, c, A, cells, slots⟩ := X
  obtain ⟨⟨hx, hb, hml, hown, hts⟩, hR, hI, hA, hK, hN⟩ := hF
  intro r hr H locs ls hP hS hl
  exact lv_iadd hx hb d  (k r hr H locs ls hP hS hl)
theorem im_isub (hF : Fx X g own cc nL fr lo) {a b : Int32} (d : decode cc pc = .ok (.isub, 1))  (k : Im X g nL Qz σ (pc + 1) lv (.int (a - b) :: st) o) : Im X g nL Qz σ pc lv (.int b :: .int a :: st) o := by
  obtain ⟨p, l, e, R, s, m, args, below, meth, c, A, cells, slots⟩ := X
  obtain ⟨⟨hx, hb, hml, hown, hts⟩, hR, hI, hA, hK, hN⟩ := hF
  intro r hr H locs ls hP hS hl
  exact lv_isub hx hb d  (k r hr H locs ls hP hS hl)
theorem im_imul (hF : Fx X g own cc nL fr lo) {a b : Int32} (d : decode cc pc = .ok (.imul, 1))  (k : Im X g nL Qz σ (pc + 1) lv (.int (a * b) :: st) o) : Im X g nL Qz σ pc lv (.int b :: .int a :: st) o := by
  obtain ⟨p, l, e, R, s, m, args, below, meth, c, A, cells, slots⟩ := X
  obtain ⟨⟨hx, hb, hml, hown, hts⟩, hR, hI, hA, hK, hN⟩ := hF
  intro r hr H locs ls hP hS hl
  exact lv_imul hx hb d  (k r hr H locs ls hP hS hl)
theorem im_iand (hF : Fx X g own cc nL fr lo) {a b : Int32} (d : decode cc pc = .ok (.iand, 1))  (k : Im X g nL Qz σ (pc + 1) lv (.int (a &&& b) :: st) o) : Im X g nL Qz σ pc lv (.int b :: .int a :: st) o := by
  obtain ⟨p, l, e, R, s, m, args, below, meth, c, A, cells, slots⟩ := X
  obtain ⟨⟨hx, hb, hml, hown, hts⟩, hR, hI, hA, hK, hN⟩ := hF
  intro r hr H locs ls hP hS hl
  exact lv_iand hx hb d  (k r hr H locs ls hP hS hl)
theorem im_ior (hF : Fx X g own cc nL fr lo) {a b : Int32} (d : decode cc pc = .ok (.ior, 1))  (k : Im X g nL Qz σ (pc + 1) lv (.int (a ||| b) :: st) o) : Im X g nL Qz σ pc lv (.int b :: .int a :: st) o := by
  obtain ⟨p, l, e, R, s, m, args, below, meth, c, A, cells, slots⟩ := X
  obtain ⟨⟨hx, hb, hml, hown, hts⟩, hR, hI, hA, hK, hN⟩ := hF
  intro r hr H locs ls hP hS hl
  exact lv_ior hx hb d  (k r hr H locs ls hP hS hl)
theorem im_ixor (hF : Fx X g own cc nL fr lo) {a b : Int32} (d : decode cc pc = .ok (.ixor, 1))  (k : Im X g nL Qz σ (pc + 1) lv (.int (a ^^^ b) :: st) o) : Im X g nL Qz σ pc lv (.int b :: .int a :: st) o := by
  obtain ⟨p, l, e, R, s, m, args, below, meth, c, A, cells, slots⟩ := X
  obtain ⟨⟨hx, hb, hml, hown, hts⟩, hR, hI, hA, hK, hN⟩ := hF
  intro r hr H locs ls hP hS hl
  exact lv_ixor hx hb d  (k r hr H locs ls hP hS hl)
theorem im_ishl (hF : Fx X g own cc nL fr lo) {a b : Int32} (d : decode cc pc = .ok (.ishl, 1))  (k : Im X g nL Qz σ (pc + 1) lv (.int (a <<< (b &&& 31)) :: st) o) : Im X g nL Qz σ pc lv (.int b :: .int a :: st) o := by
  obtain ⟨p, l, e, R, s, m, args, below, meth, c, A, cells, slots⟩ := X
  obtain ⟨⟨hx, hb, hml, hown, hts⟩, hR, hI, hA, hK, hN⟩ := hF
  intro r hr H locs ls hP hS hl
  exact lv_ishl hx hb d  (k r hr H locs ls hP hS hl)
theorem im_ishr (hF : Fx X g own cc nL fr lo) {a b : Int32} (d : decode cc pc = .ok (.ishr, 1))  (k : Im X g nL Qz σ (pc + 1) lv (.int (a >>> (b &&& 31)) :: st) o) : Im X g nL Qz σ pc lv (.int b :: .int a :: st) o := by
  obtain ⟨p, l, e, R, s, m, args, below, meth, c, A, cells, slots⟩ := X
  obtain ⟨⟨hx, hb, hml, hown, hts⟩, hR, hI, hA, hK, hN⟩ := hF
  intro r hr H locs ls hP hS hl
  exact lv_ishr hx hb d  (k r hr H locs ls hP hS hl)
theorem im_iushr (hF : Fx X g own cc nL fr lo) {a b : Int32} (d : decode cc pc = .ok (.iushr, 1))  (k : Im X g nL Qz σ (pc + 1) lv (.int ((a.toUInt32 >>> (b.toUInt32 &&& Int32.toUInt32 31)).toInt32) :: st) o) : Im X g nL Qz σ pc lv (.int b :: .int a :: st) o := by
  obtain ⟨p, l, e, R, s, m, args, below, meth, c, A, cells, slots⟩ := X
  obtain ⟨⟨hx, hb, hml, hown, hts⟩, hR, hI, hA, hK, hN⟩ := hF
  intro r hr H locs ls hP hS hl
  exact lv_iushr hx hb d rfl (k r hr H locs ls hP hS hl)
theorem im_ineg (hF : Fx X g own cc nL fr lo) {a : Int32} (d : decode cc pc = .ok (.ineg, 1))  (k : Im X g nL Qz σ (pc + 1) lv (.int (-a) :: st) o) : Im X g nL Qz σ pc lv (.int a :: st) o := by
  obtain ⟨p, l, e, R, s, m, args, below, meth, c, A, cells, slots⟩ := X
  obtain ⟨⟨hx, hb, hml, hown, hts⟩, hR, hI, hA, hK, hN⟩ := hF
  intro r hr H locs ls hP hS hl
  exact lv_ineg hx hb d  (k r hr H locs ls hP hS hl)
theorem im_idiv (hF : Fx X g own cc nL fr lo) {a b : Int32} (d : decode cc pc = .ok (.idiv, 1)) (hne : ¬ b = 0) (k : Im X g nL Qz σ (pc + 1) lv (.int (a / b) :: st) o) : Im X g nL Qz σ pc lv (.int b :: .int a :: st) o := by
  obtain ⟨p, l, e, R, s, m, args, below, meth, c, A, cells, slots⟩ := X
  obtain ⟨⟨hx, hb, hml, hown, hts⟩, hR, hI, hA, hK, hN⟩ := hF
  intro r hr H locs ls hP hS hl
  exact lv_idiv hx hb d hne (k r hr H locs ls hP hS hl)
theorem im_irem (hF : Fx X g own cc nL fr lo) {a b : Int32} (d : decode cc pc = .ok (.irem, 1)) (hne : ¬ b = 0) (k : Im X g nL Qz σ (pc + 1) lv (.int (a - a / b * b) :: st) o) : Im X g nL Qz σ pc lv (.int b :: .int a :: st) o := by
  obtain ⟨p, l, e, R, s, m, args, below, meth, c, A, cells, slots⟩ := X
  obtain ⟨⟨hx, hb, hml, hown, hts⟩, hR, hI, hA, hK, hN⟩ := hF
  intro r hr H locs ls hP hS hl
  exact lv_irem hx hb d hne (k r hr H locs ls hP hS hl)
theorem im_i2b (hF : Fx X g own cc nL fr lo) {a : Int32} (d : decode cc pc = .ok (.i2b, 1))  (k : Im X g nL Qz σ (pc + 1) lv (.int (a.toInt8.toInt32) :: st) o) : Im X g nL Qz σ pc lv (.int a :: st) o := by
  obtain ⟨p, l, e, R, s, m, args, below, meth, c, A, cells, slots⟩ := X
  obtain ⟨⟨hx, hb, hml, hown, hts⟩, hR, hI, hA, hK, hN⟩ := hF
  intro r hr H locs ls hP hS hl
  exact lv_i2b hx hb d rfl (k r hr H locs ls hP hS hl)
theorem im_i2l (hF : Fx X g own cc nL fr lo) {a : Int32} (d : decode cc pc = .ok (.i2l, 1))  (k : Im X g nL Qz σ (pc + 1) lv (.long (a.toInt64) :: st) o) : Im X g nL Qz σ pc lv (.int a :: st) o := by
  obtain ⟨p, l, e, R, s, m, args, below, meth, c, A, cells, slots⟩ := X
  obtain ⟨⟨hx, hb, hml, hown, hts⟩, hR, hI, hA, hK, hN⟩ := hF
  intro r hr H locs ls hP hS hl
  exact lv_i2l hx hb d rfl (k r hr H locs ls hP hS hl)
theorem im_i2d (hF : Fx X g own cc nL fr lo) {a : Int32} (d : decode cc pc = .ok (.i2d, 1))  (k : Im X g nL Qz σ (pc + 1) lv (.double (FP.i2d a) :: st) o) : Im X g nL Qz σ pc lv (.int a :: st) o := by
  obtain ⟨p, l, e, R, s, m, args, below, meth, c, A, cells, slots⟩ := X
  obtain ⟨⟨hx, hb, hml, hown, hts⟩, hR, hI, hA, hK, hN⟩ := hF
  intro r hr H locs ls hP hS hl
  exact lv_i2d hx hb d  (k r hr H locs ls hP hS hl)
theorem im_d2i (hF : Fx X g own cc nL fr lo) {a : UInt64} (d : decode cc pc = .ok (.d2i, 1))  (k : Im X g nL Qz σ (pc + 1) lv (.int (FP.d2i a) :: st) o) : Im X g nL Qz σ pc lv (.double a :: st) o := by
  obtain ⟨p, l, e, R, s, m, args, below, meth, c, A, cells, slots⟩ := X
  obtain ⟨⟨hx, hb, hml, hown, hts⟩, hR, hI, hA, hK, hN⟩ := hF
  intro r hr H locs ls hP hS hl
  exact lv_d2i hx hb d  (k r hr H locs ls hP hS hl)
theorem im_dmul (hF : Fx X g own cc nL fr lo) {a b : UInt64} (d : decode cc pc = .ok (.dmul, 1)) (hne : vf_n64 (FP.dmul a b)) (k : Im X g nL Qz σ (pc + 1) lv (.double (FP.dmul a b) :: st) o) : Im X g nL Qz σ pc lv (.double b :: .double a :: st) o := by
  obtain ⟨p, l, e, R, s, m, args, below, meth, c, A, cells, slots⟩ := X
  obtain ⟨⟨hx, hb, hml, hown, hts⟩, hR, hI, hA, hK, hN⟩ := hF
  intro r hr H locs ls hP hS hl
  exact lv_dmul hx hb d hne (k r hr H locs ls hP hS hl)
theorem im_dcmp (hF : Fx X g own cc nL fr lo) {a b : UInt64} {op : CmpOp} (d : decode cc pc = .ok (.dcmp op, 1))  (k : Im X g nL Qz σ (pc + 1) lv (.int (Op.cmpValue (FP.dcmp a b) op) :: st) o) : Im X g nL Qz σ pc lv (.double b :: .double a :: st) o := by
  obtain ⟨p, l, e, R, s, m, args, below, meth, c, A, cells, slots⟩ := X
  obtain ⟨⟨hx, hb, hml, hown, hts⟩, hR, hI, hA, hK, hN⟩ := hF
  intro r hr H locs ls hP hS hl
  exact lv_dcmp hx hb d  (k r hr H locs ls hP hS hl)
theorem im_ladd (hF : Fx X g own cc nL fr lo) {a b : Int64} (d : decode cc pc = .ok (.ladd, 1))  (k : Im X g nL Qz σ (pc + 1) lv (.long (a + b) :: st) o) : Im X g nL Qz σ pc lv (.long b :: .long a :: st) o := by
  obtain ⟨p, l, e, R, s, m, args, below, meth, c, A, cells, slots⟩ := X
  obtain ⟨⟨hx, hb, hml, hown, hts⟩, hR, hI, hA, hK, hN⟩ := hF
  intro r hr H locs ls hP hS hl
  exact lv_ladd hx hb d  (k r hr H locs ls hP hS hl)
theorem im_lmul (hF : Fx X g own cc nL fr lo) {a b : Int64} (d : decode cc pc = .ok (.lmul, 1))  (k : Im X g nL Qz σ (pc + 1) lv (.long (a * b) :: st) o) : Im X g nL Qz σ pc lv (.long b :: .long a :: st) o := by
  obtain ⟨p, l, e, R, s, m, args, below, meth, c, A, cells, slots⟩ := X
  obtain ⟨⟨hx, hb, hml, hown, hts⟩, hR, hI, hA, hK, hN⟩ := hF
  intro r hr H locs ls hP hS hl
  exact lv_lmul hx hb d  (k r hr H locs ls hP hS hl)
theorem im_lcmp (hF : Fx X g own cc nL fr lo) {a b : Int64} (d : decode cc pc = .ok (.lcmp, 1))  (k : Im X g nL Qz σ (pc + 1) lv (.int (lg_cmp a b) :: st) o) : Im X g nL Qz σ pc lv (.long b :: .long a :: st) o := by
  obtain ⟨p, l, e, R, s, m, args, below, meth, c, A, cells, slots⟩ := X
  obtain ⟨⟨hx, hb, hml, hown, hts⟩, hR, hI, hA, hK, hN⟩ := hF
  intro r hr H locs ls hP hS hl
  exact W.lcmp hx hb d  (k r hr H locs ls hP hS hl)
theorem im_dup (hF : Fx X g own cc nL fr lo) {v : Value} (d : decode cc pc = .ok (.dup, 1)) (hc : v.category = 1) (k : Im X g nL Qz σ (pc + 1) lv (v :: v :: st) o) : Im X g nL Qz σ pc lv (v :: st) o := by
  obtain ⟨p, l, e, R, s, m, args, below, meth, c, A, cells, slots⟩ := X
  obtain ⟨⟨hx, hb, hml, hown, hts⟩, hR, hI, hA, hK, hN⟩ := hF
  intro r hr H locs ls hP hS hl
  exact lv_dup hx hb d hc (k r hr H locs ls hP hS hl)
theorem im_pop (hF : Fx X g own cc nL fr lo) {v : Value} (d : decode cc pc = .ok (.pop, 1)) (hc : v.category = 1) (k : Im X g nL Qz σ (pc + 1) lv (st) o) : Im X g nL Qz σ pc lv (v :: st) o := by
  obtain ⟨p, l, e, R, s, m, args, below, meth, c, A, cells, slots⟩ := X
  obtain ⟨⟨hx, hb, hml, hown, hts⟩, hR, hI, hA, hK, hN⟩ := hF
  intro r hr H locs ls hP hS hl
  exact lv_pop hx hb d hc (k r hr H locs ls hP hS hl)
theorem im_dup2 (hF : Fx X g own cc nL fr lo) {v w : Value} (d : decode cc pc = .ok (.dup2, 1)) (hc : v.category = 1) (hd : w.category = 1) (k : Im X g nL Qz σ (pc + 1) lv (v :: w :: v :: w :: st) o) : Im X g nL Qz σ pc lv (v :: w :: st) o := by
  obtain ⟨p, l, e, R, s, m, args, below, meth, c, A, cells, slots⟩ := X
  obtain ⟨⟨hx, hb, hml, hown, hts⟩, hR, hI, hA, hK, hN⟩ := hF
  intro r hr H locs ls hP hS hl
  exact lv_dup2_11 hx hb d hc hd (k r hr H locs ls hP hS hl)
theorem im_if_eq (hF : Fx X g own cc nL fr lo) {x : Int32} {off : Int} (tgt : Nat) (d : decode cc pc = .ok (.ifCond .eq off, 3)) (ht : (pc : Int) + off = (tgt : Int)) (kt : x = 0 → Im X g nL Qz σ tgt lv st oa) (kf : ¬ x = 0 → Im X g nL Qz σ (pc + 3) lv st ob) : Im X g nL Qz σ pc lv (.int x :: st) (if x = 0 then oa else ob) := by
  obtain ⟨p, l, e, R, s, m, args, below, meth, c, A, cells, slots⟩ := X
  obtain ⟨⟨hx, hb, hml, hown, hts⟩, hR, hI, hA, hK, hN⟩ := hF
  intro r hr H locs ls hP hS hl
  exact lv_if_eq hx hb d ht (fun h => kt h r (by rw [if_pos h] at hr; exact hr) H locs ls hP hS hl) (fun h => kf h r (by rw [if_neg h] at hr; exact hr) H locs ls hP hS hl)
theorem im_icmp_eq (hF : Fx X g own cc nL fr lo) {x y : Int32} {off : Int} (tgt : Nat) (d : decode cc pc = .ok (.if_icmp .eq off, 3)) (ht : (pc : Int) + off = (tgt : Int)) (kt : x = y → Im X g nL Qz σ tgt lv st oa) (kf : ¬ x = y → Im X g nL Qz σ (pc + 3) lv st ob) : Im X g nL Qz σ pc lv (.int y :: .int x :: st) (if x = y then oa else ob) := by
  obtain ⟨p, l, e, R, s, m, args, below, meth, c, A, cells, slots⟩ := X
  obtain ⟨⟨hx, hb, hml, hown, hts⟩, hR, hI, hA, hK, hN⟩ := hF
  intro r hr H locs ls hP hS hl
  exact lv_icmp_eq hx hb d ht (fun h => kt h r (by rw [if_pos h] at hr; exact hr) H locs ls hP hS hl) (fun h => kf h r (by rw [if_neg h] at hr; exact hr) H locs ls hP hS hl)
theorem im_if_ne (hF : Fx X g own cc nL fr lo) {x : Int32} {off : Int} (tgt : Nat) (d : decode cc pc = .ok (.ifCond .ne off, 3)) (ht : (pc : Int) + off = (tgt : Int)) (kf : x = 0 → Im X g nL Qz σ (pc + 3) lv st oa) (kt : ¬ x = 0 → Im X g nL Qz σ tgt lv st ob) : Im X g nL Qz σ pc lv (.int x :: st) (if x = 0 then oa else ob) := by
  obtain ⟨p, l, e, R, s, m, args, below, meth, c, A, cells, slots⟩ := X
  obtain ⟨⟨hx, hb, hml, hown, hts⟩, hR, hI, hA, hK, hN⟩ := hF
  intro r hr H locs ls hP hS hl
  exact lv_if_ne hx hb d ht (fun h => kt h r (by rw [if_neg h] at hr; exact hr) H locs ls hP hS hl) (fun h => kf h r (by rw [if_pos h] at hr; exact hr) H locs ls hP hS hl)
theorem im_icmp_ne (hF : Fx X g own cc nL fr lo) {x y : Int32} {off : Int} (tgt : Nat) (d : decode cc pc = .ok (.if_icmp .ne off, 3)) (ht : (pc : Int) + off = (tgt : Int)) (kf : x = y → Im X g nL Qz σ (pc + 3) lv st oa) (kt : ¬ x = y → Im X g nL Qz σ tgt lv st ob) : Im X g nL Qz σ pc lv (.int y :: .int x :: st) (if x = y then oa else ob) := by
  obtain ⟨p, l, e, R, s, m, args, below, meth, c, A, cells, slots⟩ := X
  obtain ⟨⟨hx, hb, hml, hown, hts⟩, hR, hI, hA, hK, hN⟩ := hF
  intro r hr H locs ls hP hS hl
  exact lv_icmp_ne hx hb d ht (fun h => kt h r (by rw [if_neg h] at hr; exact hr) H locs ls hP hS hl) (fun h => kf h r (by rw [if_pos h] at hr; exact hr) H locs ls hP hS hl)
theorem im_if_lt (hF : Fx X g own cc nL fr lo) {x : Int32} {off : Int} (tgt : Nat) (d : decode cc pc = .ok (.ifCond .lt off, 3)) (ht : (pc : Int) + off = (tgt : Int)) (kt : x < 0 → Im X g nL Qz σ tgt lv st oa) (kf : ¬ x < 0 → Im X g nL Qz σ (pc + 3) lv st ob) : Im X g nL Qz σ pc lv (.int x :: st) (if x < 0 then oa else ob) := by
  obtain ⟨p, l, e, R, s, m, args, below, meth, c, A, cells, slots⟩ := X
  obtain ⟨⟨hx, hb, hml, hown, hts⟩, hR, hI, hA, hK, hN⟩ := hF
  intro r hr H locs ls hP hS hl
  exact lv_if_lt hx hb d ht (fun h => kt h r (by rw [if_pos h] at hr; exact hr) H locs ls hP hS hl) (fun h => kf h r (by rw [if_neg h] at hr; exact hr) H locs ls hP hS hl)
theorem im_icmp_lt (hF : Fx X g own cc nL fr lo) {x y : Int32} {off : Int} (tgt : Nat) (d : decode cc pc = .ok (.if_icmp .lt off, 3)) (ht : (pc : Int) + off = (tgt : Int)) (kt : x < y → Im X g nL Qz σ tgt lv st oa) (kf : ¬ x < y → Im X g nL Qz σ (pc + 3) lv st ob) : Im X g nL Qz σ pc lv (.int y :: .int x :: st) (if x < y then oa else ob) := by
  obtain ⟨p, l, e, R, s, m, args, below, meth, c, A, cells, slots⟩ := X
  obtain ⟨⟨hx, hb, hml, hown, hts⟩, hR, hI, hA, hK, hN⟩ := hF
  intro r hr H locs ls hP hS hl
  exact lv_icmp_lt hx hb d ht (fun h => kt h r (by rw [if_pos h] at hr; exact hr) H locs ls hP hS hl) (fun h => kf h r (by rw [if_neg h] at hr; exact hr) H locs ls hP hS hl)
theorem im_if_ge (hF : Fx X g own cc nL fr lo) {x : Int32} {off : Int} (tgt : Nat) (d : decode cc pc = .ok (.ifCond .ge off, 3)) (ht : (pc : Int) + off = (tgt : Int)) (kt : 0 ≤ x → Im X g nL Qz σ tgt lv st oa) (kf : ¬ 0 ≤ x → Im X g nL Qz σ (pc + 3) lv st ob) : Im X g nL Qz σ pc lv (.int x :: st) (if 0 ≤ x then oa else ob) := by
  obtain ⟨p, l, e, R, s, m, args, below, meth, c, A, cells, slots⟩ := X
  obtain ⟨⟨hx, hb, hml, hown, hts⟩, hR, hI, hA, hK, hN⟩ := hF
  intro r hr H locs ls hP hS hl
  exact lv_if_ge hx hb d ht (fun h => kt h r (by rw [if_pos h] at hr; exact hr) H locs ls hP hS hl) (fun h => kf h r (by rw [if_neg h] at hr; exact hr) H locs ls hP hS hl)
theorem im_icmp_ge (hF : Fx X g own cc nL fr lo) {x y : Int32} {off : Int} (tgt : Nat) (d : decode cc pc = .ok (.if_icmp .ge off, 3)) (ht : (pc : Int) + off = (tgt : Int)) (kt : y ≤ x → Im X g nL Qz σ tgt lv st oa) (kf : ¬ y ≤ x → Im X g nL Qz σ (pc + 3) lv st ob) : Im X g nL Qz σ pc lv (.int y :: .int x :: st) (if y ≤ x then oa else ob) := by
  obtain ⟨p, l, e, R, s, m, args, below, meth, c, A, cells, slots⟩ := X
  obtain ⟨⟨hx, hb, hml, hown, hts⟩, hR, hI, hA, hK, hN⟩ := hF
  intro r hr H locs ls hP hS hl
  exact lv_icmp_ge hx hb d ht (fun h => kt h r (by rw [if_pos h] at hr; exact hr) H locs ls hP hS hl) (fun h => kf h r (by rw [if_neg h] at hr; exact hr) H locs ls hP hS hl)
theorem im_if_gt (hF : Fx X g own cc nL fr lo) {x : Int32} {off : Int} (tgt : Nat) (d : decode cc pc = .ok (.ifCond .gt off, 3)) (ht : (pc : Int) + off = (tgt : Int)) (kt : 0 < x → Im X g nL Qz σ tgt lv st oa) (kf : ¬ 0 < x → Im X g nL Qz σ (pc + 3) lv st ob) : Im X g nL Qz σ pc lv (.int x :: st) (if 0 < x then oa else ob) := by
  obtain ⟨p, l, e, R, s, m, args, below, meth, c, A, cells, slots⟩ := X
  obtain ⟨⟨hx, hb, hml, hown, hts⟩, hR, hI, hA, hK, hN⟩ := hF
  intro r hr H locs ls hP hS hl
  exact lv_if_gt hx hb d ht (fun h => kt h r (by rw [if_pos h] at hr; exact hr) H locs ls hP hS hl) (fun h => kf h r (by rw [if_neg h] at hr; exact hr) H locs ls hP hS hl)
theorem im_icmp_gt (hF : Fx X g own cc nL fr lo) {x y : Int32} {off : Int} (tgt : Nat) (d : decode cc pc = .ok (.if_icmp .gt off, 3)) (ht : (pc : Int) + off = (tgt : Int)) (kt : y < x → Im X g nL Qz σ tgt lv st oa) (kf : ¬ y < x → Im X g nL Qz σ (pc + 3) lv st ob) : Im X g nL Qz σ pc lv (.int y :: .int x :: st) (if y < x then oa else ob) := by
  obtain ⟨p, l, e, R, s, m, args, below, meth, c, A, cells, slots⟩ := X
  obtain ⟨⟨hx, hb, hml, hown, hts⟩, hR, hI, hA, hK, hN⟩ := hF
  intro r hr H locs ls hP hS hl
  exact lv_icmp_gt hx hb d ht (fun h => kt h r (by rw [if_pos h] at hr; exact hr) H locs ls hP hS hl) (fun h => kf h r (by rw [if_neg h] at hr; exact hr) H locs ls hP hS hl)
theorem im_if_le (hF : Fx X g own cc nL fr lo) {x : Int32} {off : Int} (tgt : Nat) (d : decode cc pc = .ok (.ifCond .le off, 3)) (ht : (pc : Int) + off = (tgt : Int)) (kt : x ≤ 0 → Im X g nL Qz σ tgt lv st oa) (kf : ¬ x ≤ 0 → Im X g nL Qz σ (pc + 3) lv st ob) : Im X g nL Qz σ pc lv (.int x :: st) (if x ≤ 0 then oa else ob) := by
  obtain ⟨p, l, e, R, s, m, args, below, meth, c, A, cells, slots⟩ := X
  obtain ⟨⟨hx, hb, hml, hown, hts⟩, hR, hI, hA, hK, hN⟩ := hF
  intro r hr H locs ls hP hS hl
  exact lv_if_le hx hb d ht (fun h => kt h r (by rw [if_pos h] at hr; exact hr) H locs ls hP hS hl) (fun h => kf h r (by rw [if_neg h] at hr; exact hr) H locs ls hP hS hl)
theorem im_icmp_le (hF : Fx X g own cc nL fr lo) {x y : Int32} {off : Int} (tgt : Nat) (d : decode cc pc = .ok (.if_icmp .le off, 3)) (ht : (pc : Int) + off = (tgt : Int)) (kt : x ≤ y → Im X g nL Qz σ tgt lv st oa) (kf : ¬ x ≤ y → Im X g nL Qz σ (pc + 3) lv st ob) : Im X g nL Qz σ pc lv (.int y :: .int x :: st) (if x ≤ y then oa else ob) := by
  obtain ⟨p, l, e, R, s, m, args, below, meth, c, A, cells, slots⟩ := X
  obtain ⟨⟨hx, hb, hml, hown, hts⟩, hR, hI, hA, hK, hN⟩ := hF
  intro r hr H locs ls hP hS hl
  exact lv_icmp_le hx hb d ht (fun h => kt h r (by rw [if_pos h] at hr; exact hr) H locs ls hP hS hl) (fun h => kf h r (by rw [if_neg h] at hr; exact hr) H locs ls hP hS hl)
theorem im_goto (hF : Fx X g own cc nL fr lo) {off : Int} (tgt : Nat) (d : decode cc pc = .ok (.goto off, 3)) (ht : (pc : Int) + off = (tgt : Int)) (k : Im X g nL Qz σ tgt lv st o) : Im X g nL Qz σ pc lv st o := by
  obtain ⟨p, l, e, R, s, m, args, below, meth, c, A, cells, slots⟩ := X
  obtain ⟨⟨hx, hb, hml, hown, hts⟩, hR, hI, hA, hK, hN⟩ := hF
  intro r hr H locs ls hP hS hl
  exact lv_goto hx hb d ht (k r hr H locs ls hP hS hl)
end RULES
end
section
/-! fields, arrays, returns, calls -/
section HRULES
variable {ρ : Type} {X : Cx} {g : GT} {own : String} {cc : ByteArray} {nL fr lo : Nat} {Qz : ρ → State → Prop} {σ : Sg} {pc : Nat} {lv : List (Nat × Value)} {st : List Value} {o oa ob : Option ρ}
def FL (own : String) (index k j : Nat) : Prop := ∃ (C : String) (T : u_T), vwCl[k]? = some (C, T, nf k) ∧ j < nf k ∧ (∀ w ∈ u_ws C T (nf k), w ∈ gtb) ∧ Cond.fieldLink own index (T j).1 (T j).2.1 (T j).2.2.1 ∈ gtb
def FP (own : String) (index k j : Nat) (ty : FieldType) : Prop := ∃ (C : String) (T : u_T) (ty0 : Nat → FieldType), vwCl[k]? = some (C, T, nf k) ∧ j < nf k ∧ (∀ w ∈ u_ws C T (nf k), w ∈ gtb) ∧ Cond.fieldLink own index (T j).1 (T j).2.1 (T j).2.2.1 ∈ gtb ∧ (∀ k', k' < nf k → parseFieldDescriptor (T k').2.2.1 = some (ty0 k')) ∧ (∀ a, a < nf k → ∀ b, b < nf k → a ≠ b → (T a).2.1 ≠ (T b).2.1) ∧ (T j).2.2.2 = false ∧ parseFieldDescriptor (T j).2.2.1 = some ty
theorem im_get (hF : Fx X g own cc nL fr lo) {index k j i : Nat} {v : Value} (fl : FL own index k j) (hk : k < 11) (hi : i < cnt k) (hv : fvA g k i j (σ k i j) = v) (d : decode cc pc = .ok (.getfield index, 3)) (kk : Im X g nL Qz σ (pc + 3) lv (v :: st) o) : Im X g nL Qz σ pc lv (.ref (g.2.1 k i) :: st) o := by
  obtain ⟨p, l, e, R, s, m, args, below, meth, c, A, cells, slots⟩ := X
  obtain ⟨⟨hx, hb, hml, hown, hts⟩, hR, hI, hA, hK, hN⟩ := hF
  intro r hr H locs ls hP hS hl
  obtain ⟨C, T, h1, h2, h3, h4⟩ := fl
  obtain ⟨n, hn, -⟩ := ws_at g σ hi
  rw [GE_obj g i _ hk] at hn
  exact va_get (D := g.1) hx hb hts h3 hown hK hP n hn h1 j h2 (hts _ h4) (fun _ h => h) (v := v) (by rw [List.getElem?_map, List.getElem?_range h2]; exact congrArg some hv) d (kk r hr H locs ls hP hS hl)
theorem fl_set {N j : Nat} (F : Nat → Int32 → Value) (r : Nat → Int32) (x : Int32) : ((List.range N).map (fun q => F q (r q))).set j (F j x) = (List.range N).map (fun q => F q (upd r j x q)) := by
  apply List.ext_getElem?
  intro q
  rw [List.getElem?_set, List.getElem?_map, List.getElem?_map]
  by_cases hq : j = q
  · subst hq
    rw [if_pos rfl]
    by_cases hl : j < N
    · rw [if_pos (by simpa using hl), List.getElem?_range hl]
      simp [upd]
    · rw [if_neg (by simpa using hl), List.getElem?_eq_none (by simpa using hl)]
      rfl
  · rw [if_neg hq]
    by_cases hl : q < N
    · rw [List.getElem?_range hl]
      simp [upd, Ne.symm hq]
    · rw [List.getElem?_eq_none (by simpa using hl)]
      rfl
theorem im_put (hF : Fx X g own cc nL fr lo) {index k j i : Nat} {ty : FieldType} {v : Value} (x : Int32) (fp : FP own index k j ty) (hk : k < 11) (hi : i < cnt k) (hv : fvA g k i j x = v) (hn : narrow ty v = v) (hfit : fits ty v = true) (d : decode cc pc = .ok (.putfield index, 3)) (kk : Im X g nL Qz (up3 σ k i j x) (pc + 3) lv st o) : Im X g nL Qz σ pc lv (v :: .ref (g.2.1 k i) :: st) o := by
  obtain ⟨p, l, e, R, s, m, args, below, meth, c, A, cells, slots⟩ := X
  obtain ⟨⟨hx, hb, hml, hown, hts⟩, hR, hI, hA, hK, hN⟩ := hF
  intro r hr H locs ls hP hS hl
  obtain ⟨C, T, ty0, h1, h2, h3, h4, h5, h6, h7, h8⟩ := fp
  obtain ⟨n, hq, hq2⟩ := ws_at g σ hi
  rw [GE_obj g i _ hk] at hq
  refine va_put (D := g.1) hx hb hts h3 ty0 h5 h6 hown hK hP (ws_D hI hA σ) hS n hq h1 j h2 (hts _ h4) (fun _ h => h) h7 h8 hn hfit (by simpa using h2) d (fun H1 locs1 hP1 hD1 hS1 => kk r hr H1 locs1 ls ?_ hS1 hl)
  rw [up3_row, ← ws_set g σ hq2, GE_obj g i _ hk, ← fl_set (fun q => fvA g k i q), hv]
  exact hP1
theorem im_iald (hF : Fx X g own cc nL fr lo) {k i n : Nat} {x : Int32} (ha : 14 ≤ k ∧ aT k = 0 ∧ aL k = n) (hi : i < cnt k) (d : decode cc pc = .ok (.iaload, 1)) (kk : gi x n = true → Im X g nL Qz σ (pc + 1) lv (.int (σ k i x.toNatClampNeg) :: st) o) : Im X g nL Qz σ pc lv (.int x :: .ref (g.2.1 k i) :: st) (chk (gi x n) o) := by
  refine im_chk (fun hg => ?_)
  have kk := kk hg
  obtain ⟨p, l, e, R, s, m, args, below, meth, c, A, cells, slots⟩ := X
  obtain ⟨⟨hx, hb, hml, hown, hts⟩, hR, hI, hA, hK, hN⟩ := hF
  intro r hr H locs ls hP hS hl
  obtain ⟨q, hq, -⟩ := ws_at g σ hi
  rw [GE_arr g i _ ha.1, ha.2.1, ha.2.2] at hq
  exact va_iald (D := g.1) hx hb hK hP q 0 hq rfl (gi_in hg) d (kk r hr H locs ls hP hS hl)
theorem im_bald (hF : Fx X g own cc nL fr lo) {k i n : Nat} {x : Int32} (ha : 14 ≤ k ∧ aT k = 1 ∧ aL k = n) (hi : i < cnt k) (d : decode cc pc = .ok (.baload, 1)) (kk : gi x n = true → Im X g nL Qz σ (pc + 1) lv (.int (σ k i x.toNatClampNeg) :: st) o) : Im X g nL Qz σ pc lv (.int x :: .ref (g.2.1 k i) :: st) (chk (gi x n) o) := by
  refine im_chk (fun hg => ?_)
  have kk := kk hg
  obtain ⟨p, l, e, R, s, m, args, below, meth, c, A, cells, slots⟩ := X
  obtain ⟨⟨hx, hb, hml, hown, hts⟩, hR, hI, hA, hK, hN⟩ := hF
  intro r hr H locs ls hP hS hl
  obtain ⟨q, hq, -⟩ := ws_at g σ hi
  rw [GE_arr g i _ ha.1, ha.2.1, ha.2.2] at hq
  exact va_bald (D := g.1) hx hb hK hP q 1 hq rfl (gi_in hg) d (kk r hr H locs ls hP hS hl)
theorem im_zald (hF : Fx X g own cc nL fr lo) {k i n : Nat} {x : Int32} (ha : 14 ≤ k ∧ aT k = 2 ∧ aL k = n) (hi : i < cnt k) (d : decode cc pc = .ok (.baload, 1)) (kk : gi x n = true → Im X g nL Qz σ (pc + 1) lv (.int (σ k i x.toNatClampNeg) :: st) o) : Im X g nL Qz σ pc lv (.int x :: .ref (g.2.1 k i) :: st) (chk (gi x n) o) := by
  refine im_chk (fun hg => ?_)
  have kk := kk hg
  obtain ⟨p, l, e, R, s, m, args, below, meth, c, A, cells, slots⟩ := X
  obtain ⟨⟨hx, hb, hml, hown, hts⟩, hR, hI, hA, hK, hN⟩ := hF
  intro r hr H locs ls hP hS hl
  obtain ⟨q, hq, -⟩ := ws_at g σ hi
  rw [GE_arr g i _ ha.1, ha.2.1, ha.2.2] at hq
  exact va_zald (D := g.1) hx hb hK hP q 2 hq rfl (gi_in hg) d (kk r hr H locs ls hP hS hl)
theorem im_iast (hF : Fx X g own cc nL fr lo) {k i n : Nat} {x v : Int32} (ha : 14 ≤ k ∧ aT k = 0 ∧ aL k = n) (hi : i < cnt k) (d : decode cc pc = .ok (.iastore, 1)) (kk : gi x n = true → Im X g nL Qz (up3 σ k i x.toNatClampNeg v) (pc + 1) lv st o) : Im X g nL Qz σ pc lv (.int v :: .int x :: .ref (g.2.1 k i) :: st) (chk (gi x n) o) := by
  refine im_chk (fun hg => ?_)
  have kk := kk hg
  obtain ⟨p, l, e, R, s, m, args, below, meth, c, A, cells, slots⟩ := X
  obtain ⟨⟨hx, hb, hml, hown, hts⟩, hR, hI, hA, hK, hN⟩ := hF
  intro r hr H locs ls hP hS hl
  obtain ⟨q, hq, hq2⟩ := ws_at g σ hi
  rw [GE_arr g i _ ha.1, ha.2.1, ha.2.2] at hq
  refine va_iast (D := g.1) hx hb hK hP (ws_D hI hA σ) hS q 0 hq rfl (gi_in hg) d (fun H1 locs1 hP1 hD1 hS1 => kk r hr H1 locs1 ls ?_ hS1 hl)
  rw [up3_row, ← ws_set g σ hq2, GE_arr g i _ ha.1, ha.2.1, ha.2.2]
  exact hP1
theorem im_bast (hF : Fx X g own cc nL fr lo) {k i n : Nat} {x v : Int32} (ha : 14 ≤ k ∧ aT k = 1 ∧ aL k = n) (hi : i < cnt k) (d : decode cc pc = .ok (.bastore, 1)) (kk : gi x n = true → Im X g nL Qz (up3 σ k i x.toNatClampNeg (vp_nar .byte v)) (pc + 1) lv st o) : Im X g nL Qz σ pc lv (.int v :: .int x :: .ref (g.2.1 k i) :: st) (chk (gi x n) o) := by
  refine im_chk (fun hg => ?_)
  have kk := kk hg
  obtain ⟨p, l, e, R, s, m, args, below, meth, c, A, cells, slots⟩ := X
  obtain ⟨⟨hx, hb, hml, hown, hts⟩, hR, hI, hA, hK, hN⟩ := hF
  intro r hr H locs ls hP hS hl
  obtain ⟨q, hq, hq2⟩ := ws_at g σ hi
  rw [GE_arr g i _ ha.1, ha.2.1, ha.2.2] at hq
  refine va_bast (D := g.1) hx hb hK hP (ws_D hI hA σ) hS q 1 hq rfl (gi_in hg) d (fun H1 locs1 hP1 hD1 hS1 => kk r hr H1 locs1 ls ?_ hS1 hl)
  rw [up3_row, ← ws_set g σ hq2, GE_arr g i _ ha.1, ha.2.1, ha.2.2]
  exact hP1
theorem im_zast (hF : Fx X g own cc nL fr lo) {k i n : Nat} {x v : Int32} (ha : 14 ≤ k ∧ aT k = 2 ∧ aL k = n) (hi : i < cnt k) (d : decode cc pc = .ok (.bastore, 1)) (kk : gi x n = true → Im X g nL Qz (up3 σ k i x.toNatClampNeg (vp_nar .boolean v)) (pc + 1) lv st o) : Im X g nL Qz σ pc lv (.int v :: .int x :: .ref (g.2.1 k i) :: st) (chk (gi x n) o) := by
  refine im_chk (fun hg => ?_)
  have kk := kk hg
  obtain ⟨p, l, e, R, s, m, args, below, meth, c, A, cells, slots⟩ := X
  obtain ⟨⟨hx, hb, hml, hown, hts⟩, hR, hI, hA, hK, hN⟩ := hF
  intro r hr H locs ls hP hS hl
  obtain ⟨q, hq, hq2⟩ := ws_at g σ hi
  rw [GE_arr g i _ ha.1, ha.2.1, ha.2.2] at hq
  refine va_zast (D := g.1) hx hb hK hP (ws_D hI hA σ) hS q 2 hq rfl (gi_in hg) d (fun H1 locs1 hP1 hD1 hS1 => kk r hr H1 locs1 ls ?_ hS1 hl)
  rw [up3_row, ← ws_set g σ hq2, GE_arr g i _ ha.1, ha.2.1, ha.2.2]
  exact hP1
theorem im_alen (hF : Fx X g own cc nL fr lo) {k i n t : Nat} {v : Int32} (ha : 14 ≤ k ∧ aT k = t ∧ aL k = n) (ht : t < 3) (hi : i < cnt k) (hv : Int32.ofNat n = v) (d : decode cc pc = .ok (.arraylength, 1)) (kk : Im X g nL Qz σ (pc + 1) lv (.int v :: st) o) : Im X g nL Qz σ pc lv (.ref (g.2.1 k i) :: st) o := by
  obtain ⟨p, l, e, R, s, m, args, below, meth, c, A, cells, slots⟩ := X
  obtain ⟨⟨hx, hb, hml, hown, hts⟩, hR, hI, hA, hK, hN⟩ := hF
  intro r hr H locs ls hP hS hl
  obtain ⟨q, hq, -⟩ := ws_at g σ hi
  rw [GE_arr g i _ ha.1, ha.2.1, ha.2.2] at hq
  rcases (show t = 0 ∨ t = 1 ∨ t = 2 by omega) with rfl | rfl | rfl
  · exact va_alen (D := g.1) hx hb hK hP q 0 hq rfl hv d (kk r hr H locs ls hP hS hl)
  · exact va_alen (D := g.1) hx hb hK hP q 1 hq rfl hv d (kk r hr H locs ls hP hS hl)
  · exact va_alen (D := g.1) hx hb hK hP q 2 hq rfl hv d (kk r hr H locs ls hP hS hl)
theorem im_aald11 (hF : Fx X g own cc nL fr lo) {x : Int32} (d : decode cc pc = .ok (.aaload, 1)) (kk : gi x 10 = true → Im X g nL Qz σ (pc + 1) lv (.ref (g.2.1 8 x.toNatClampNeg) :: st) o) : Im X g nL Qz σ pc lv (.int x :: .ref (g.2.1 11 0) :: st) (chk (gi x 10) o) := by
  refine im_chk (fun hg => ?_)
  have kk := kk hg
  obtain ⟨p, l, e, R, s, m, args, below, meth, c, A, cells, slots⟩ := X
  obtain ⟨⟨hx, hb, hml, hown, hts⟩, hR, hI, hA, hK, hN⟩ := hF
  intro r hr H locs ls hP hS hl
  obtain ⟨q, hq, -⟩ := ws_at g σ (k := 11) (i := 0) (by decide)
  exact va_aldq (D := g.1) (f := fun j => some (g.2.1 8 j)) (n := 10) hx hb hK hP q 3 hq rfl (gi_in hg) d (kk r hr H locs ls hP hS hl)
theorem im_aald13 (hF : Fx X g own cc nL fr lo) {x : Int32} (d : decode cc pc = .ok (.aaload, 1)) (kk : gi x 10 = true → Im X g nL Qz σ (pc + 1) lv (.ref (g.2.1 6 x.toNatClampNeg) :: st) o) : Im X g nL Qz σ pc lv (.int x :: .ref (g.2.1 13 0) :: st) (chk (gi x 10) o) := by
  refine im_chk (fun hg => ?_)
  have kk := kk hg
  obtain ⟨p, l, e, R, s, m, args, below, meth, c, A, cells, slots⟩ := X
  obtain ⟨⟨hx, hb, hml, hown, hts⟩, hR, hI, hA, hK, hN⟩ := hF
  intro r hr H locs ls hP hS hl
  obtain ⟨q, hq, -⟩ := ws_at g σ (k := 13) (i := 0) (by decide)
  exact va_aldq (D := g.1) (f := fun j => some (g.2.1 6 j)) (n := 10) hx hb hK hP q 4 hq rfl (gi_in hg) d (kk r hr H locs ls hP hS hl)
theorem im_aald12 (hF : Fx X g own cc nL fr lo) {x : Int32} (d : decode cc pc = .ok (.aaload, 1)) (kk : gi x 4 = true → Im X g nL Qz σ (pc + 1) lv (.ref (g.2.1 2 (σ 12 0 x.toNatClampNeg).toNatClampNeg) :: st) o) : Im X g nL Qz σ pc lv (.int x :: .ref (g.2.1 12 0) :: st) (chk (gi x 4) o) := by
  refine im_chk (fun hg => ?_)
  have kk := kk hg
  obtain ⟨p, l, e, R, s, m, args, below, meth, c, A, cells, slots⟩ := X
  obtain ⟨⟨hx, hb, hml, hown, hts⟩, hR, hI, hA, hK, hN⟩ := hF
  intro r hr H locs ls hP hS hl
  obtain ⟨q, hq, -⟩ := ws_at g σ (k := 12) (i := 0) (by decide)
  exact va_aldq (D := g.1) (f := fun j => some (g.2.1 2 (σ 12 0 j).toNatClampNeg)) (n := 4) hx hb hK hP q 5 hq rfl (gi_in hg) d (kk r hr H locs ls hP hS hl)
theorem im_aast12 (hF : Fx X g own cc nL fr lo) {x : Int32} {i : Nat} (hi : i < 5) (d : decode cc pc = .ok (.aastore, 1)) (kk : gi x 4 = true → Im X g nL Qz (up3 σ 12 0 x.toNatClampNeg (nI i)) (pc + 1) lv st o) : Im X g nL Qz σ pc lv (.ref (g.2.1 2 i) :: .int x :: .ref (g.2.1 12 0) :: st) (chk (gi x 4) o) := by
  refine im_chk (fun hg => ?_)
  have kk := kk hg
  obtain ⟨p, l, e, R, s, m, args, below, meth, c, A, cells, slots⟩ := X
  obtain ⟨⟨hx, hb, hml, hown, hts⟩, hR, hI, hA, hK, hN⟩ := hF
  intro r hr H locs ls hP hS hl
  obtain ⟨q, hq, hq2⟩ := ws_at g σ (k := 12) (i := 0) (by decide)
  obtain ⟨q', hq', -⟩ := ws_at g σ (k := 2) (i := i) hi
  rw [GE_obj g i _ (by decide)] at hq'
  refine va_astq (D := g.1) (f := fun j => some (g.2.1 2 (σ 12 0 j).toNatClampNeg)) (n := 4) hx hb hK hP (ws_D hI hA σ) hS q 5 q' 2 hq rfl hq' (r := (RX2, TX2, 9)) rfl (gi_in hg) d (fun H1 locs1 hP1 hD1 hS1 => kk r hr H1 locs1 ls ?_ hS1 hl)
  rw [up3_row, ← ws_set g σ hq2]
  have e : GE g 12 0 (upd (σ 12 0) x.toNatClampNeg (nI i)) = .inl (g.2.2 5, 4, .inr (.inr (.inr (.inr (va_up (fun j => some (g.2.1 2 (σ 12 0 j).toNatClampNeg)) x.toNatClampNeg (some (g.2.1 2 i))))))) := by
    show (.inl (g.2.2 5, 4, .inr (.inr (.inr (.inr (fun j => some (g.2.1 2 (upd (σ 12 0) x.toNatClampNeg (nI i) j).toNatClampNeg)))))) : va_E) = _
    congr 7
    funext j
    unfold upd va_up
    by_cases hj : j = x.toNatClampNeg
    · rw [if_pos hj, if_pos hj, nI_clamp (by omega)]
    · rw [if_neg hj, if_neg hj]
  rw [e]
  exact hP1
theorem im_ifnull (hF : Fx X g own cc nL fr lo) {b : Nat} {P : Prop} [Decidable P] {off : Int} (tgt : Nat) (d : decode cc pc = .ok (.ifnull off, 3)) (ht : (pc : Int) + off = (tgt : Int)) (kt : P → Im X g nL Qz σ tgt lv st oa) (kf : ¬ P → Im X g nL Qz σ (pc + 3) lv st ob) : Im X g nL Qz σ pc lv ((if P then .null else .ref b) :: st) (if P then oa else ob) := by
  by_cases h : P
  · rw [if_pos h, if_pos h]
    have kt := kt h
    obtain ⟨p, l, e, R, s, m, args, below, meth, c, A, cells, slots⟩ := X
    obtain ⟨⟨hx, hb, hml, hown, hts⟩, hR, hI, hA, hK, hN⟩ := hF
    intro r hr H locs ls hP hS hl
    exact lv_ifnullN hx hb d ht (kt r hr H locs ls hP hS hl)
  · rw [if_neg h, if_neg h]
    have kf := kf h
    obtain ⟨p, l, e, R, s, m, args, below, meth, c, A, cells, slots⟩ := X
    obtain ⟨⟨hx, hb, hml, hown, hts⟩, hR, hI, hA, hK, hN⟩ := hF
    intro r hr H locs ls hP hS hl
    exact lv_ifnull hx hb d (kf r hr H locs ls hP hS hl)
theorem im_ldc (hF : Fx X g own cc nL fr lo) {index : Nat} {v : Int32} (hc : Cond.constant own index v ∈ gtb) (d : decode cc pc = .ok (.ldc index, 2)) (k : Im X g nL Qz σ (pc + 2) lv (.int v :: st) o) : Im X g nL Qz σ pc lv st o := by
  obtain ⟨p, l, e, R, s, m, args, below, meth, c, A, cells, slots⟩ := X
  obtain ⟨⟨hx, hb, hml, hown, hts⟩, hR, hI, hA, hK, hN⟩ := hF
  intro r hr H locs ls hP hS hl
  exact lv_ldc hx hb hown (hts _ hc) d (k r hr H locs ls hP hS hl)
theorem im_ldcw (hF : Fx X g own cc nL fr lo) {index : Nat} {v : Int32} (hc : Cond.constant own index v ∈ gtb) (d : decode cc pc = .ok (.ldc_w index, 3)) (k : Im X g nL Qz σ (pc + 3) lv (.int v :: st) o) : Im X g nL Qz σ pc lv st o := by
  obtain ⟨p, l, e, R, s, m, args, below, meth, c, A, cells, slots⟩ := X
  obtain ⟨⟨hx, hb, hml, hown, hts⟩, hR, hI, hA, hK, hN⟩ := hF
  intro r hr H locs ls hP hS hl
  exact lv_ldcw hx hb hown (hts _ hc) d (k r hr H locs ls hP hS hl)
theorem im_ldc2 (hF : Fx X g own cc nL fr lo) {index : Nat} {v : Int64} (hc : Cond.constantLong own index v ∈ gtb) (d : decode cc pc = .ok (.ldc2_w index, 3)) (k : Im X g nL Qz σ (pc + 3) lv (.long v :: st) o) : Im X g nL Qz σ pc lv st o := by
  obtain ⟨p, l, e, R, s, m, args, below, meth, c, A, cells, slots⟩ := X
  obtain ⟨⟨hx, hb, hml, hown, hts⟩, hR, hI, hA, hK, hN⟩ := hF
  intro r hr H locs ls hP hS hl
  exact lv_ldc2 hx hb hown (hts _ hc) d (k r hr H locs ls hP hS hl)
theorem im_ldc2d (hF : Fx X g own cc nL fr lo) {index : Nat} {v : UInt64} (hc : Cond.constantDouble own index v ∈ gtb) (d : decode cc pc = .ok (.ldc2_w index, 3)) (k : Im X g nL Qz σ (pc + 3) lv (.double v :: st) o) : Im X g nL Qz σ pc lv st o := by
  obtain ⟨p, l, e, R, s, m, args, below, meth, c, A, cells, slots⟩ := X
  obtain ⟨⟨hx, hb, hml, hown, hts⟩, hR, hI, hA, hK, hN⟩ := hF
  intro r hr H locs ls hP hS hl
  exact lv_ldc2d hx hb hown (hts _ hc) d (k r hr H locs ls hP hS hl)
theorem im_tableIn (hF : Fx X g own cc nL fr lo) {dflt a b : Int} {offs : Array Int} {len : Nat} {x : Int32} {off : Int} (tgt : Nat) (d : decode cc pc = .ok (.tableswitch dflt a b offs, len)) (h1 : ¬ x.toInt < a) (h2 : ¬ b < x.toInt) (ho : offs[(x.toInt - a).toNat]? = some off) (ht : (pc : Int) + off = (tgt : Int)) (k : Im X g nL Qz σ tgt lv st o) : Im X g nL Qz σ pc lv (.int x :: st) o := by
  obtain ⟨p, l, e, R, s, m, args, below, meth, c, A, cells, slots⟩ := X
  obtain ⟨⟨hx, hb, hml, hown, hts⟩, hR, hI, hA, hK, hN⟩ := hF
  intro r hr H locs ls hP hS hl
  exact lv_tableIn hx hb d h1 h2 ho ht (k r hr H locs ls hP hS hl)
theorem im_tableOut (hF : Fx X g own cc nL fr lo) {dflt a b : Int} {offs : Array Int} {len : Nat} {x : Int32} (tgt : Nat) (d : decode cc pc = .ok (.tableswitch dflt a b offs, len)) (h : x.toInt < a ∨ b < x.toInt) (ht : (pc : Int) + dflt = (tgt : Int)) (k : Im X g nL Qz σ tgt lv st o) : Im X g nL Qz σ pc lv (.int x :: st) o := by
  obtain ⟨p, l, e, R, s, m, args, below, meth, c, A, cells, slots⟩ := X
  obtain ⟨⟨hx, hb, hml, hown, hts⟩, hR, hI, hA, hK, hN⟩ := hF
  intro r hr H locs ls hP hS hl
  exact lv_tableOut hx hb d h ht (k r hr H locs ls hP hS hl)
theorem im_lookup (hF : Fx X g own cc nL fr lo) {dflt : Int} {ps : Array (Int × Int)} {len : Nat} {x : Int32} {off : Int} (tgt : Nat) (d : decode cc pc = .ok (.lookupswitch dflt ps, len)) (hp : (ps.toList.zip (ps.toList.drop 1)).all (fun (a, next) => a.1 < next.1) = true) (ho : Op.lookupswitch.offset ps.toList dflt x.toInt = off) (ht : (pc : Int) + off = (tgt : Int)) (k : Im X g nL Qz σ tgt lv st o) : Im X g nL Qz σ pc lv (.int x :: st) o := by
  obtain ⟨p, l, e, R, s, m, args, below, meth, c, A, cells, slots⟩ := X
  obtain ⟨⟨hx, hb, hml, hown, hts⟩, hR, hI, hA, hK, hN⟩ := hF
  intro r hr H locs ls hP hS hl
  exact lv_lookup hx hb d hp ho ht (k r hr H locs ls hP hS hl)
/-! returns -/
def Qm (X : Cx) (g : GT) (emb : ρ → Option Value × Sg) : ρ → State → Prop := match X with
  | (_, _, _, _, s, _, args, below, _, _, _, _, _) => fun r => MQ below (fun _ st oc t => oc = .returned (emb r).1 ∧ va_P g.1 vwCl (ws g (emb r).2) t.heap ∧ va_F (GA g) st t) args s 0 0 (GA g)
def FM (X : Cx) (g : GT) (ret : Option FieldType) : Prop := match X with
  | (_, _, _, _, _, _, _, _, meth, _, A, cells, slots) => meth.sig.returnType = ret ∧ meth.locks = false ∧ A = GA g ∧ cells = 0 ∧ slots = 0
def embI (q : Int32 × Sg) : Option Value × Sg := (some (.int q.1), q.2)
def embL (q : Int64 × Sg) : Option Value × Sg := (some (.long q.1), q.2)
def embV (q : Sg) : Option Value × Sg := (none, q)
theorem im_iret (hF : Fx X g own cc nL fr lo) (hM : FM X g (some .int)) {v : Int32} (d : decode cc pc = .ok (.ireturn, 1)) : Im X g nL (Qm X g embI) σ pc lv [.int v] (some (v, σ)) := by
  obtain ⟨p, l, e, R, s, m, args, below, meth, c, A, cells, slots⟩ := X
  obtain ⟨⟨hx, hb, hml, hown, hts⟩, hR, hI, hA, hK, hN⟩ := hF
  obtain ⟨hret, hlocks, rfl, rfl, rfl⟩ := hM
  intro r hr H locs ls hP hS hl
  cases hr
  show W p l e R s m args below meth c H locs 0 0 (MQ below (fun _ st oc t => oc = .returned (embI (v, σ)).1 ∧ va_P g.1 vwCl (ws g (embI (v, σ)).2) t.heap ∧ va_F (GA g) st t) args s 0 0 (GA g)) (F0 m pc ls [.int v])
  exact W.iret hx hb hret (fun t ht hW => ⟨rfl, by rw [ht]; exact hP, hS.F ht⟩) hS.2.2 d hlocks
theorem im_zret (hF : Fx X g own cc nL fr lo) (hM : FM X g (some .boolean)) {v : Int32} (hv : v = 0 ∨ v = 1) (d : decode cc pc = .ok (.ireturn, 1)) : Im X g nL (Qm X g embI) σ pc lv [.int v] (some (v, σ)) := by
  obtain ⟨p, l, e, R, s, m, args, below, meth, c, A, cells, slots⟩ := X
  obtain ⟨⟨hx, hb, hml, hown, hts⟩, hR, hI, hA, hK, hN⟩ := hF
  obtain ⟨hret, hlocks, rfl, rfl, rfl⟩ := hM
  intro r hr H locs ls hP hS hl
  cases hr
  show W p l e R s m args below meth c H locs 0 0 (MQ below (fun _ st oc t => oc = .returned (embI (v, σ)).1 ∧ va_P g.1 vwCl (ws g (embI (v, σ)).2) t.heap ∧ va_F (GA g) st t) args s 0 0 (GA g)) (F0 m pc ls [.int v])
  exact W.zret hx hb hret (by rcases hv with rfl | rfl <;> rfl) (fun t ht hW => ⟨rfl, by rw [ht]; exact hP, hS.F ht⟩) hS.2.2 d hlocks
theorem im_lret (hF : Fx X g own cc nL fr lo) (hM : FM X g (some .long)) {v : Int64} (d : decode cc pc = .ok (.lreturn, 1)) : Im X g nL (Qm X g embL) σ pc lv [.long v] (some (v, σ)) := by
  obtain ⟨p, l, e, R, s, m, args, below, meth, c, A, cells, slots⟩ := X
  obtain ⟨⟨hx, hb, hml, hown, hts⟩, hR, hI, hA, hK, hN⟩ := hF
  obtain ⟨hret, hlocks, rfl, rfl, rfl⟩ := hM
  intro r hr H locs ls hP hS hl
  cases hr
  show W p l e R s m args below meth c H locs 0 0 (MQ below (fun _ st oc t => oc = .returned (embL (v, σ)).1 ∧ va_P g.1 vwCl (ws g (embL (v, σ)).2) t.heap ∧ va_F (GA g) st t) args s 0 0 (GA g)) (F0 m pc ls [.long v])
  exact W.lret hx hb hret (fun t ht hW => ⟨rfl, by rw [ht]; exact hP, hS.F ht⟩) hS.2.2 d hlocks
theorem im_vret (hF : Fx X g own cc nL fr lo) (hM : FM X g none) (d : decode cc pc = .ok (.return_, 1)) : Im X g nL (Qm X g embV) σ pc lv [] (some σ) := by
  obtain ⟨p, l, e, R, s, m, args, below, meth, c, A, cells, slots⟩ := X
  obtain ⟨⟨hx, hb, hml, hown, hts⟩, hR, hI, hA, hK, hN⟩ := hF
  obtain ⟨hret, hlocks, rfl, rfl, rfl⟩ := hM
  intro r hr H locs ls hP hS hl
  cases hr
  show W p l e R s m args below meth c H locs 0 0 (MQ below (fun _ st oc t => oc = .returned (embV σ).1 ∧ va_P g.1 vwCl (ws g (embV σ).2) t.heap ∧ va_F (GA g) st t) args s 0 0 (GA g)) (F0 m pc ls [])
  exact W.vret hx hb hret (fun t ht hW => ⟨rfl, by rw [ht]; exact hP, hS.F ht⟩) hS.2.2 d hlocks
/-! contracts and calls -/
def Ct (l : Launch) (y : MethodName) (cc : ByteArray) (maxL : Nat) (ret : Option FieldType) (fr lo : Nat) (g : GT) (av : List Value) (σ : Sg) (q : Option Value × Sg) : Prop :=
  Met l y (.code y cc maxL ret :: gtb) { frames := fr, cells := 0, slots := 0, locals := lo } (va_Pc av (GW g σ)) (fun _ st oc t => oc = .returned q.1 ∧ va_P g.1 vwCl (ws g q.2) t.heap ∧ va_F (GA g) st t) 0 0 (GA g)
theorem ct_of {emb : ρ → Option Value × Sg} {l : Launch} {y : MethodName} {maxL : Nat} {ret : Option FieldType} {av : List Value} (hy : plainName y.cls = true) (hI : GI g) (hlen : (lg_sl av).length ≤ maxL) (body : ∀ X : Cx, Fx X g y.cls cc maxL fr lo → FM X g ret → Im X g maxL (Qm X g emb) σ 0 (lv_args 0 av) [] o) (r : ρ) (ho : o = some r) : Ct l y cc maxL ret fr lo g av σ (emb r) := by
  refine Met.ofW (cc := cc) (maxL := maxL) (ret := ret) hy rfl ?_
  intro p e s m args below meth c s₁ B hml hv
  obtain ⟨rfl, hP, hK, hN⟩ := hv
  have hts := atoms_spec (ws := Cond.code y cc maxL ret :: gtb) B.pre
  have hown : s.vm.findClass y.cls = some m.cls := findClass_of_methodNamed B.named
  have hl := lv_entry av (n := maxL) hlen
  rw [lg_entry_eq]
  exact body (p, l, e, (headSpec (Cond.code y cc maxL ret :: gtb) { frames := fr, cells := 0, slots := 0, locals := lo }).room, s, m, av.toArray, below, meth, c, GA g, 0, 0) ⟨⟨B.exec, B.bytes, hml, hown, fun w hw => hts w (List.mem_cons_of_mem _ hw)⟩, ⟨Nat.le_refl _, Nat.le_refl _, Nat.le_refl _, Nat.le_refl _⟩, hI, fun _ h => h, hK, hN⟩ ⟨B.returns, B.notSynchronized, rfl, rfl, rfl⟩ r ho s.heap [] _ hP va_S.rf hl
def MY (y : MethodName) (cc : ByteArray) (maxL : Nat) (ret : Option FieldType) (n : Nat) : Prop := Cond.initialized y.cls ∈ gtb ∧ Cond.code y cc maxL ret ∈ gtb ∧ y.cls ≠ "java/lang/invoke/MethodHandle" ∧ y.cls ≠ "java/lang/invoke/VarHandle" ∧ (parseMethodDescriptor y.desc).map (fun d => d.parameters.length) = some n
def MV (y : MethodName) : Prop := Cond.instanceMethod y ∈ gtb ∧ Cond.selects y.cls y y ∈ gtb
theorem gw_blind {av : List Value} : FrameBlind (va_Pc av (GW g σ)) := fun a U gg mk q => ⟨q.1, q.2.1, va_K.moved (u := U) (U := U.calling gg mk a) (Vm.Alike.refl U.vm) q.2.2.1, NW.same (s := U) (U := U.calling gg mk a) rfl q.2.2.2⟩
theorem gd_code {y : MethodName} {cc' : ByteArray} {maxL : Nat} {ret : Option FieldType} (h : Cond.code y cc' maxL ret ∈ gtb) : GoodIn gtb (Cond.code y cc' maxL ret :: gtb) := fun w hw => (List.mem_cons.mp hw).elim (fun e => by rw [e]; exact tbl_good _ h) (fun q => tbl_good w q)
theorem im_callV {ρ' : Type} {emb' : ρ' → Option Value × Sg} {f : Option ρ'} {ko : ρ' → Option ρ} (hF : Fx X g own cc nL fr lo) {y : MethodName} {cc' : ByteArray} {maxL' : Nat} {ret' : Option FieldType} {n fr' lo' index k i : Nat} {As rest : List Value} (my : MY y cc' maxL' ret' n) (mv : MV y) (ml : Cond.methodLink own index y ∈ gtb)
    (hC : ∀ (l : Launch) (r' : ρ'), f = some r' → Ct l y cc' maxL' ret' fr' lo' g (.ref (g.2.1 k i) :: As) σ (emb' r')) (hR : fr' + 1 ≤ fr ∧ 8 + (maxL' + 11) + lo' ≤ lo) (hk : k < 11) (hi : i < cnt k) (hcl : ∃ q : vw_C, vwCl[k]? = some q ∧ q.1 = y.cls) (hn : As.length = n) (hst : st = As.reverse ++ .ref (g.2.1 k i) :: rest) (hw : (rest.map fun v => v.category).sum ≤ 8) (d : decode cc pc = .ok (.invokevirtual index, 3))
    (kk : ∀ r' : ρ', Im X g nL Qz (emb' r').2 (pc + 3) lv ((emb' r').1.toList ++ rest) (ko r')) : Im X g nL Qz σ pc lv st (f.bind ko) := by
  obtain ⟨p, l, e, R, s, m, args, below, meth, c, A, cells, slots⟩ := X
  obtain ⟨⟨hx, hb, hml, hown, hts⟩, hRm, hI, hA, hK, hN⟩ := hF
  intro r hr H locs ls hP hS hl
  obtain ⟨r', hf, hk2⟩ := Option.bind_eq_some_iff.mp hr
  obtain ⟨z, hz1, hz2⟩ := hcl
  obtain ⟨q, hq, -⟩ := ws_at g σ hi
  rw [GE_obj g i _ hk] at hq
  have hrecv := va_recv (D := g.1) hK hP hz1 hq
  rw [hz2] at hrecv
  have cb : CallB R s args own index y cc' maxL' ret' (Cond.code y cc' maxL' ret' :: gtb) { frames := fr', cells := 0, slots := 0, locals := lo' } 0 0 n := callB_of n hts (gd_code my.2.1) rfl rfl rfl (hts _ my.1) (hts _ ml) my.2.2 ⟨Nat.le_trans hR.1 hRm.1, Nat.le_trans hR.2 hRm.2.1⟩
  have run := va_runV (locs := locs) (As := As) (rest := rest) (g := F0 m pc ls st) (p := p) (e := e) (below := below) (meth := meth) (cells := cells) (slots := slots) ⟨hx, hb, hml, hown, hts⟩ (hC l r' hf) (C := y.cls) ⟨cb, hts _ mv.1, hts _ mv.2⟩ ⟨gw_blind, hrecv, fun U hU hW => ⟨rfl, by rw [hU]; exact hP, va_K.moved hW.alike hK, hN.warm hW⟩⟩ rfl hn hl.1 hst (lv_room hw) d ⟨hRm.2.2.1, hRm.2.2.2⟩
  intro T hT XX
  obtain ⟨v, st₀, t, T', L, h0, X', hL, e1, e2, ⟨hv, hW, hz, hkp⟩, stp⟩ := run T hT XX
  cases hv
  rw [h0] at hz hkp
  obtain ⟨t2, a1, b1⟩ := kk r' r hk2 T'.heap (locs ++ L) ls (by rw [e1]; exact hW)
    ⟨Nat.le_trans hS.1 (by rw [e1]; exact hz), fun q h1 h2 => by rw [e1, hkp q (Nat.lt_of_lt_of_le h1 hS.1) (fun z => h2 (hA q z))]; exact hS.2.1 q h1 h2, fun q hq => by
      rcases List.mem_append.mp hq with h | h
      · exact hS.2.2 q h
      · exact hA _ (hL q h)⟩ hl T' rfl X'
  exact ⟨t2, stp t2 a1, b1⟩
theorem im_callS {ρ' : Type} {emb' : ρ' → Option Value × Sg} {f : Option ρ'} {ko : ρ' → Option ρ} (hF : Fx X g own cc nL fr lo) {y : MethodName} {cc' : ByteArray} {maxL' : Nat} {ret' : Option FieldType} {n fr' lo' index : Nat} {As rest : List Value} (my : MY y cc' maxL' ret' n) (ms : Cond.static y ∈ gtb) (ml : Cond.methodLink own index y ∈ gtb)
    (hC : ∀ (l : Launch) (r' : ρ'), f = some r' → Ct l y cc' maxL' ret' fr' lo' g As σ (emb' r')) (hR : fr' + 1 ≤ fr ∧ 8 + (maxL' + 11) + lo' ≤ lo) (hn : As.length = n) (hst : st = As.reverse ++ rest) (hw : (rest.map fun v => v.category).sum ≤ 8) (d : decode cc pc = .ok (.invokestatic index, 3))
    (kk : ∀ r' : ρ', Im X g nL Qz (emb' r').2 (pc + 3) lv ((emb' r').1.toList ++ rest) (ko r')) : Im X g nL Qz σ pc lv st (f.bind ko) := by
  obtain ⟨p, l, e, R, s, m, args, below, meth, c, A, cells, slots⟩ := X
  obtain ⟨⟨hx, hb, hml, hown, hts⟩, hRm, hI, hA, hK, hN⟩ := hF
  intro r hr H locs ls hP hS hl
  obtain ⟨r', hf, hk2⟩ := Option.bind_eq_some_iff.mp hr
  have cb : CallB R s args own index y cc' maxL' ret' (Cond.code y cc' maxL' ret' :: gtb) { frames := fr', cells := 0, slots := 0, locals := lo' } 0 0 n := callB_of n hts (gd_code my.2.1) rfl rfl rfl (hts _ my.1) (hts _ ml) my.2.2 ⟨Nat.le_trans hR.1 hRm.1, Nat.le_trans hR.2 hRm.2.1⟩
  have run := va_runS (locs := locs) (As := As) (rest := rest) (g := F0 m pc ls st) (p := p) (e := e) (below := below) (meth := meth) (cells := cells) (slots := slots) ⟨hx, hb, hml, hown, hts⟩ (hC l r' hf) ⟨cb, hts _ ms⟩ ⟨gw_blind, fun U hU hW => ⟨rfl, by rw [hU]; exact hP, va_K.moved hW.alike hK, hN.warm hW⟩⟩ rfl hn hl.1 hst (lv_room hw) d ⟨hRm.2.2.1, hRm.2.2.2⟩
  intro T hT XX
  obtain ⟨v, st₀, t, T', L, h0, X', hL, e1, e2, ⟨hv, hW, hz, hkp⟩, stp⟩ := run T hT XX
  cases hv
  rw [h0] at hz hkp
  obtain ⟨t2, a1, b1⟩ := kk r' r hk2 T'.heap (locs ++ L) ls (by rw [e1]; exact hW)
    ⟨Nat.le_trans hS.1 (by rw [e1]; exact hz), fun q h1 h2 => by rw [e1, hkp q (Nat.lt_of_lt_of_le h1 hS.1) (fun z => h2 (hA q z))]; exact hS.2.1 q h1 h2, fun q hq => by
      rcases List.mem_append.mp hq with h | h
      · exact hS.2.2 q h
      · exact hA _ (hL q h)⟩ hl T' rfl X'
  exact ⟨t2, stp t2 a1, b1⟩
theorem im_callN {ρ' : Type} {emb' : ρ' → Option Value × Sg} {f : Option ρ'} {ko : ρ' → Option ρ} (hF : Fx X g own cc nL fr lo) {y : MethodName} {cc' : ByteArray} {maxL' : Nat} {ret' : Option FieldType} {n fr' lo' index : Nat} {host : String} {As rest : List Value} (my : MY y cc' maxL' ret' n) (ms : Cond.static y ∈ gtb) (ml : (own, index, y, host) ∈ nests)
    (hC : ∀ (l : Launch) (r' : ρ'), f = some r' → Ct l y cc' maxL' ret' fr' lo' g As σ (emb' r')) (hR : fr' + 1 ≤ fr ∧ 8 + (maxL' + 11) + lo' ≤ lo) (hn : As.length = n) (hst : st = As.reverse ++ rest) (hw : (rest.map fun v => v.category).sum ≤ 8) (d : decode cc pc = .ok (.invokestatic index, 3))
    (kk : ∀ r' : ρ', Im X g nL Qz (emb' r').2 (pc + 3) lv ((emb' r').1.toList ++ rest) (ko r')) : Im X g nL Qz σ pc lv st (f.bind ko) := by
  obtain ⟨p, l, e, R, s, m, args, below, meth, c, A, cells, slots⟩ := X
  obtain ⟨⟨hx, hb, hml, hown, hts⟩, hRm, hI, hA, hK, hN⟩ := hF
  intro r hr H locs ls hP hS hl
  obtain ⟨r', hf, hk2⟩ := Option.bind_eq_some_iff.mp hr
  have cb : va_CN R s args own index y host cc' maxL' ret' (Cond.code y cc' maxL' ret' :: gtb) { frames := fr', cells := 0, slots := 0, locals := lo' } 0 0 n := va_cnB n hts (gd_code my.2.1) rfl rfl rfl (hN _ ml) (hts _ my.1) my.2.2 ⟨Nat.le_trans hR.1 hRm.1, Nat.le_trans hR.2 hRm.2.1⟩
  have run := va_runSN (locs := locs) (As := As) (rest := rest) (g := F0 m pc ls st) (p := p) (e := e) (below := below) (meth := meth) (cells := cells) (slots := slots) ⟨hx, hb, hml, hown, hts⟩ (hC l r' hf) ⟨cb, hts _ ms, trivial⟩ ⟨gw_blind, fun U hU hW => ⟨rfl, by rw [hU]; exact hP, va_K.moved hW.alike hK, hN.warm hW⟩⟩ rfl hn hl.1 hst (lv_room hw) d ⟨hRm.2.2.1, hRm.2.2.2⟩
  intro T hT XX
  obtain ⟨v, st₀, t, T', L, h0, X', hL, e1, e2, ⟨hv, hW, hz, hkp⟩, stp⟩ := run T hT XX
  cases hv
  rw [h0] at hz hkp
  obtain ⟨t2, a1, b1⟩ := kk r' r hk2 T'.heap (locs ++ L) ls (by rw [e1]; exact hW)
    ⟨Nat.le_trans hS.1 (by rw [e1]; exact hz), fun q h1 h2 => by rw [e1, hkp q (Nat.lt_of_lt_of_le h1 hS.1) (fun z => h2 (hA q z))]; exact hS.2.1 q h1 h2, fun q hq => by
      rcases List.mem_append.mp hq with h | h
      · exact hS.2.2 q h
      · exact hA _ (hL q h)⟩ hl T' rfl X'
  exact ⟨t2, stp t2 a1, b1⟩
theorem im_mmin (hF : Fx X g own cc nL fr lo) {index : Nat} {x y : Int32} (hl1 : Cond.methodLink own index Lib.Math.min.name ∈ gtb) (hfr : 1 ≤ fr) (hlo : 21 ≤ lo) (hw : (st.map fun v => v.category).sum ≤ 8) (h2 : Cond.static Lib.Math.min.name ∈ gtb ∧ Cond.initialized "java/lang/Math" ∈ gtb ∧ Cond.code Lib.Math.min.name Lib.Math.min.code 2 (some .int) ∈ gtb) (d : decode cc pc = .ok (.invokestatic index, 3)) (k : Im X g nL Qz σ (pc + 3) lv (.int (if y < x then y else x) :: st) o) : Im X g nL Qz σ pc lv (.int y :: .int x :: st) o := by
  obtain ⟨p, l, e, R, s, m, args, below, meth, c, A, cells, slots⟩ := X
  obtain ⟨⟨hx, hb, hml, hown, hts⟩, hR, hI, hA, hK, hN⟩ := hF
  intro r hr H locs ls hP hS hl
  exact va_mmin hx hb (hml.trans hl.1.symm) hown (hts _ hl1) (hts _ h2.1) (hts _ h2.2.1) (hts _ h2.2.2) (by omega) (by omega) hR.2.2.1 hR.2.2.2 d (k r hr H locs ls hP hS hl)
theorem im_mmax (hF : Fx X g own cc nL fr lo) {index : Nat} {x y : Int32} (hl1 : Cond.methodLink own index Lib.Math.max.name ∈ gtb) (hfr : 1 ≤ fr) (hlo : 21 ≤ lo) (hw : (st.map fun v => v.category).sum ≤ 8) (h2 : Cond.static Lib.Math.max.name ∈ gtb ∧ Cond.initialized "java/lang/Math" ∈ gtb ∧ Cond.code Lib.Math.max.name Lib.Math.max.code 2 (some .int) ∈ gtb) (d : decode cc pc = .ok (.invokestatic index, 3)) (k : Im X g nL Qz σ (pc + 3) lv (.int (if x < y then y else x) :: st) o) : Im X g nL Qz σ pc lv (.int y :: .int x :: st) o := by
  obtain ⟨p, l, e, R, s, m, args, below, meth, c, A, cells, slots⟩ := X
  obtain ⟨⟨hx, hb, hml, hown, hts⟩, hR, hI, hA, hK, hN⟩ := hF
  intro r hr H locs ls hP hS hl
  exact va_mmax hx hb (hml.trans hl.1.symm) hown (hts _ hl1) (hts _ h2.1) (hts _ h2.2.1) (hts _ h2.2.2) (by omega) (by omega) hR.2.2.1 hR.2.2.2 d (k r hr H locs ls hP hS hl)
end HRULES
end

section
-- ===== PART A: goes FIRST, ahead of the names: the tables' words, and 'selects' of the private methods out of them =====
/-- a private method of a class that the tables say can be made, by its rows of tables_1 -/
def lw_okq (q : MethodName × Nat) : Prop := (q.1.cls ≠ "java/lang/invoke/MethodHandle" ∧ q.1.cls ≠ "java/lang/invoke/VarHandle") ∧ Cond.instantiable q.1.cls q.2 ∈ tables_1 ∧ Cond.privateMethod q.1 ∈ tables_1 ∧ Cond.instanceMethod q.1 ∈ tables_1
theorem lw_p0 : lw_okq (⟨"TapeHouse$Text", "addFour", "(I)V"⟩, 6) := ⟨⟨by decide +kernel, by decide +kernel⟩, List.mem_of_getElem? (i := 27) (by decide +kernel), List.mem_of_getElem? (i := 348) (by decide +kernel), List.mem_of_getElem? (i := 349) (by decide +kernel)⟩
theorem lw_p1 : lw_okq (⟨"TapeHouse$Parser", "begin", "()V"⟩, 8) := ⟨⟨by decide +kernel, by decide +kernel⟩, List.mem_of_getElem? (i := 57) (by decide +kernel), List.mem_of_getElem? (i := 375) (by decide +kernel), List.mem_of_getElem? (i := 376) (by decide +kernel)⟩
theorem lw_p2 : lw_okq (⟨"TapeHouse$Text", "takeWord", "()V"⟩, 6) := ⟨⟨by decide +kernel, by decide +kernel⟩, List.mem_of_getElem? (i := 27) (by decide +kernel), List.mem_of_getElem? (i := 397) (by decide +kernel), List.mem_of_getElem? (i := 398) (by decide +kernel)⟩
theorem lw_p3 : lw_okq (⟨"TapeHouse$Text", "wordOf", "(II)I"⟩, 6) := ⟨⟨by decide +kernel, by decide +kernel⟩, List.mem_of_getElem? (i := 27) (by decide +kernel), List.mem_of_getElem? (i := 401) (by decide +kernel), List.mem_of_getElem? (i := 402) (by decide +kernel)⟩
theorem lw_p4 : lw_okq (⟨"TapeHouse$Text", "takeInt", "()V"⟩, 6) := ⟨⟨by decide +kernel, by decide +kernel⟩, List.mem_of_getElem? (i := 27) (by decide +kernel), List.mem_of_getElem? (i := 457) (by decide +kernel), List.mem_of_getElem? (i := 458) (by decide +kernel)⟩
theorem lw_p5 : lw_okq (⟨"TapeHouse$Text", "takeSign", "(I)V"⟩, 6) := ⟨⟨by decide +kernel, by decide +kernel⟩, List.mem_of_getElem? (i := 27) (by decide +kernel), List.mem_of_getElem? (i := 461) (by decide +kernel), List.mem_of_getElem? (i := 462) (by decide +kernel)⟩
theorem lw_p6 : lw_okq (⟨"TapeHouse$Parser", "faultOf", "(III)I"⟩, 8) := ⟨⟨by decide +kernel, by decide +kernel⟩, List.mem_of_getElem? (i := 57) (by decide +kernel), List.mem_of_getElem? (i := 468) (by decide +kernel), List.mem_of_getElem? (i := 469) (by decide +kernel)⟩
theorem lw_p7 : lw_okq (⟨"TapeHouse$Parser", "goesOn", "(I)Z"⟩, 8) := ⟨⟨by decide +kernel, by decide +kernel⟩, List.mem_of_getElem? (i := 57) (by decide +kernel), List.mem_of_getElem? (i := 472) (by decide +kernel), List.mem_of_getElem? (i := 473) (by decide +kernel)⟩
theorem lw_p8 : lw_okq (⟨"TapeHouse$Parser", "endsSide", "(I)Z"⟩, 8) := ⟨⟨by decide +kernel, by decide +kernel⟩, List.mem_of_getElem? (i := 57) (by decide +kernel), List.mem_of_getElem? (i := 491) (by decide +kernel), List.mem_of_getElem? (i := 492) (by decide +kernel)⟩
theorem lw_p9 : lw_okq (⟨"TapeHouse$Parser", "take", "(LTapeHouse$Text;LTapeHouse$Consent;I)V"⟩, 8) := ⟨⟨by decide +kernel, by decide +kernel⟩, List.mem_of_getElem? (i := 57) (by decide +kernel), List.mem_of_getElem? (i := 498) (by decide +kernel), List.mem_of_getElem? (i := 499) (by decide +kernel)⟩
theorem lw_p10 : lw_okq (⟨"TapeHouse$Parser", "takeTopic", "(LTapeHouse$Text;LTapeHouse$Consent;I)V"⟩, 8) := ⟨⟨by decide +kernel, by decide +kernel⟩, List.mem_of_getElem? (i := 57) (by decide +kernel), List.mem_of_getElem? (i := 506) (by decide +kernel), List.mem_of_getElem? (i := 507) (by decide +kernel)⟩
theorem lw_p11 : lw_okq (⟨"TapeHouse$Consent", "firstCell", "(I)I"⟩, 11) := ⟨⟨by decide +kernel, by decide +kernel⟩, List.mem_of_getElem? (i := 256) (by decide +kernel), List.mem_of_getElem? (i := 518) (by decide +kernel), List.mem_of_getElem? (i := 519) (by decide +kernel)⟩
theorem lw_p12 : lw_okq (⟨"TapeHouse$Consent", "hasDay", "(II)Z"⟩, 11) := ⟨⟨by decide +kernel, by decide +kernel⟩, List.mem_of_getElem? (i := 256) (by decide +kernel), List.mem_of_getElem? (i := 522) (by decide +kernel), List.mem_of_getElem? (i := 523) (by decide +kernel)⟩
theorem lw_p13 : lw_okq (⟨"TapeHouse$Parser", "takeBracket", "(ILTapeHouse$Consent;)V"⟩, 8) := ⟨⟨by decide +kernel, by decide +kernel⟩, List.mem_of_getElem? (i := 57) (by decide +kernel), List.mem_of_getElem? (i := 530) (by decide +kernel), List.mem_of_getElem? (i := 531) (by decide +kernel)⟩
theorem lw_p14 : lw_okq (⟨"TapeHouse$Parser", "hold", "(I)V"⟩, 8) := ⟨⟨by decide +kernel, by decide +kernel⟩, List.mem_of_getElem? (i := 57) (by decide +kernel), List.mem_of_getElem? (i := 534) (by decide +kernel), List.mem_of_getElem? (i := 535) (by decide +kernel)⟩
theorem lw_p15 : lw_okq (⟨"TapeHouse$Parser", "unload", "(LTapeHouse$Consent;I)V"⟩, 8) := ⟨⟨by decide +kernel, by decide +kernel⟩, List.mem_of_getElem? (i := 57) (by decide +kernel), List.mem_of_getElem? (i := 538) (by decide +kernel), List.mem_of_getElem? (i := 539) (by decide +kernel)⟩
def lw_privs_1 : List (MethodName × Nat) := [(⟨"TapeHouse$Text", "addFour", "(I)V"⟩, 6), (⟨"TapeHouse$Parser", "begin", "()V"⟩, 8), (⟨"TapeHouse$Text", "takeWord", "()V"⟩, 6), (⟨"TapeHouse$Text", "wordOf", "(II)I"⟩, 6), (⟨"TapeHouse$Text", "takeInt", "()V"⟩, 6), (⟨"TapeHouse$Text", "takeSign", "(I)V"⟩, 6), (⟨"TapeHouse$Parser", "faultOf", "(III)I"⟩, 8), (⟨"TapeHouse$Parser", "goesOn", "(I)Z"⟩, 8), (⟨"TapeHouse$Parser", "endsSide", "(I)Z"⟩, 8), (⟨"TapeHouse$Parser", "take", "(LTapeHouse$Text;LTapeHouse$Consent;I)V"⟩, 8), (⟨"TapeHouse$Parser", "takeTopic", "(LTapeHouse$Text;LTapeHouse$Consent;I)V"⟩, 8), (⟨"TapeHouse$Consent", "firstCell", "(I)I"⟩, 11), (⟨"TapeHouse$Consent", "hasDay", "(II)Z"⟩, 11), (⟨"TapeHouse$Parser", "takeBracket", "(ILTapeHouse$Consent;)V"⟩, 8), (⟨"TapeHouse$Parser", "hold", "(I)V"⟩, 8), (⟨"TapeHouse$Parser", "unload", "(LTapeHouse$Consent;I)V"⟩, 8)]
theorem lw_r1 : ∀ q ∈ lw_privs_1, lw_okq q := List.forall_mem_cons.mpr ⟨lw_p0, List.forall_mem_cons.mpr ⟨lw_p1, List.forall_mem_cons.mpr ⟨lw_p2, List.forall_mem_cons.mpr ⟨lw_p3, List.forall_mem_cons.mpr ⟨lw_p4, List.forall_mem_cons.mpr ⟨lw_p5, List.forall_mem_cons.mpr ⟨lw_p6, List.forall_mem_cons.mpr ⟨lw_p7, List.forall_mem_cons.mpr ⟨lw_p8, List.forall_mem_cons.mpr ⟨lw_p9, List.forall_mem_cons.mpr ⟨lw_p10, List.forall_mem_cons.mpr ⟨lw_p11, List.forall_mem_cons.mpr ⟨lw_p12, List.forall_mem_cons.mpr ⟨lw_p13, List.forall_mem_cons.mpr ⟨lw_p14, List.forall_mem_cons.mpr ⟨lw_p15, fun _ h => absurd h List.not_mem_nil⟩⟩⟩⟩⟩⟩⟩⟩⟩⟩⟩⟩⟩⟩⟩⟩
theorem lw_p16 : lw_okq (⟨"TapeHouse$Parser", "takeLiteralEnd", "(ILTapeHouse$Consent;)V"⟩, 8) := ⟨⟨by decide +kernel, by decide +kernel⟩, List.mem_of_getElem? (i := 57) (by decide +kernel), List.mem_of_getElem? (i := 542) (by decide +kernel), List.mem_of_getElem? (i := 543) (by decide +kernel)⟩
theorem lw_p17 : lw_okq (⟨"TapeHouse", "isQuestion", "(IIII)Z"⟩, 13) := ⟨⟨by decide +kernel, by decide +kernel⟩, List.mem_of_getElem? (i := 19) (by decide +kernel), List.mem_of_getElem? (i := 651) (by decide +kernel), List.mem_of_getElem? (i := 652) (by decide +kernel)⟩
theorem lw_p18 : lw_okq (⟨"TapeHouse", "pose", "(IIII)LTapeHouse$Consent;"⟩, 13) := ⟨⟨by decide +kernel, by decide +kernel⟩, List.mem_of_getElem? (i := 19) (by decide +kernel), List.mem_of_getElem? (i := 656) (by decide +kernel), List.mem_of_getElem? (i := 657) (by decide +kernel)⟩
theorem lw_p19 : lw_okq (⟨"TapeHouse$Consent", "holds", "(ILTapeHouse$Question;)Z"⟩, 11) := ⟨⟨by decide +kernel, by decide +kernel⟩, List.mem_of_getElem? (i := 256) (by decide +kernel), List.mem_of_getElem? (i := 698) (by decide +kernel), List.mem_of_getElem? (i := 699) (by decide +kernel)⟩
theorem lw_p20 : lw_okq (⟨"TapeHouse$Consent", "literalHolds", "(ILTapeHouse$Question;)Z"⟩, 11) := ⟨⟨by decide +kernel, by decide +kernel⟩, List.mem_of_getElem? (i := 256) (by decide +kernel), List.mem_of_getElem? (i := 702) (by decide +kernel), List.mem_of_getElem? (i := 703) (by decide +kernel)⟩
theorem lw_p21 : lw_okq (⟨"TapeHouse$Consent", "testHolds", "(ILTapeHouse$Question;)Z"⟩, 11) := ⟨⟨by decide +kernel, by decide +kernel⟩, List.mem_of_getElem? (i := 256) (by decide +kernel), List.mem_of_getElem? (i := 706) (by decide +kernel), List.mem_of_getElem? (i := 707) (by decide +kernel)⟩
theorem lw_p22 : lw_okq (⟨"TapeHouse$Question", "push", "(I)V"⟩, 7) := ⟨⟨by decide +kernel, by decide +kernel⟩, List.mem_of_getElem? (i := 90) (by decide +kernel), List.mem_of_getElem? (i := 719) (by decide +kernel), List.mem_of_getElem? (i := 720) (by decide +kernel)⟩
theorem lw_p23 : lw_okq (⟨"TapeHouse", "isAsking", "(IIIII)Z"⟩, 13) := ⟨⟨by decide +kernel, by decide +kernel⟩, List.mem_of_getElem? (i := 19) (by decide +kernel), List.mem_of_getElem? (i := 741) (by decide +kernel), List.mem_of_getElem? (i := 742) (by decide +kernel)⟩
theorem lw_p24 : lw_okq (⟨"TapeHouse", "answerTo", "(IIIII)I"⟩, 13) := ⟨⟨by decide +kernel, by decide +kernel⟩, List.mem_of_getElem? (i := 19) (by decide +kernel), List.mem_of_getElem? (i := 750) (by decide +kernel), List.mem_of_getElem? (i := 751) (by decide +kernel)⟩
theorem lw_p25 : lw_okq (⟨"TapeHouse", "wouldUnmask", "(II)Z"⟩, 13) := ⟨⟨by decide +kernel, by decide +kernel⟩, List.mem_of_getElem? (i := 19) (by decide +kernel), List.mem_of_getElem? (i := 759) (by decide +kernel), List.mem_of_getElem? (i := 760) (by decide +kernel)⟩
theorem lw_p26 : lw_okq (⟨"TapeHouse", "knownTraits", "(II)I"⟩, 13) := ⟨⟨by decide +kernel, by decide +kernel⟩, List.mem_of_getElem? (i := 19) (by decide +kernel), List.mem_of_getElem? (i := 763) (by decide +kernel), List.mem_of_getElem? (i := 764) (by decide +kernel)⟩
theorem lw_p27 : lw_okq (⟨"TapeHouse$Town", "areAlike", "(III)Z"⟩, 4) := ⟨⟨by decide +kernel, by decide +kernel⟩, List.mem_of_getElem? (i := 120) (by decide +kernel), List.mem_of_getElem? (i := 775) (by decide +kernel), List.mem_of_getElem? (i := 776) (by decide +kernel)⟩
theorem lw_p28 : lw_okq (⟨"TapeHouse", "knowsByName", "(II)Z"⟩, 13) := ⟨⟨by decide +kernel, by decide +kernel⟩, List.mem_of_getElem? (i := 19) (by decide +kernel), List.mem_of_getElem? (i := 779) (by decide +kernel), List.mem_of_getElem? (i := 780) (by decide +kernel)⟩
theorem lw_p29 : lw_okq (⟨"TapeHouse$Tellings", "findLeftOut", "()I"⟩, 8) := ⟨⟨by decide +kernel, by decide +kernel⟩, List.mem_of_getElem? (i := 224) (by decide +kernel), List.mem_of_getElem? (i := 827) (by decide +kernel), List.mem_of_getElem? (i := 828) (by decide +kernel)⟩
theorem lw_p30 : lw_okq (⟨"TapeHouse$Tellings", "settle", "(IIZ)Z"⟩, 8) := ⟨⟨by decide +kernel, by decide +kernel⟩, List.mem_of_getElem? (i := 224) (by decide +kernel), List.mem_of_getElem? (i := 837) (by decide +kernel), List.mem_of_getElem? (i := 838) (by decide +kernel)⟩
theorem lw_p31 : lw_okq (⟨"TapeHouse$Tellings", "pushDays", "(IZ)Z"⟩, 8) := ⟨⟨by decide +kernel, by decide +kernel⟩, List.mem_of_getElem? (i := 224) (by decide +kernel), List.mem_of_getElem? (i := 844) (by decide +kernel), List.mem_of_getElem? (i := 845) (by decide +kernel)⟩
def lw_privs_2 : List (MethodName × Nat) := [(⟨"TapeHouse$Parser", "takeLiteralEnd", "(ILTapeHouse$Consent;)V"⟩, 8), (⟨"TapeHouse", "isQuestion", "(IIII)Z"⟩, 13), (⟨"TapeHouse", "pose", "(IIII)LTapeHouse$Consent;"⟩, 13), (⟨"TapeHouse$Consent", "holds", "(ILTapeHouse$Question;)Z"⟩, 11), (⟨"TapeHouse$Consent", "literalHolds", "(ILTapeHouse$Question;)Z"⟩, 11), (⟨"TapeHouse$Consent", "testHolds", "(ILTapeHouse$Question;)Z"⟩, 11), (⟨"TapeHouse$Question", "push", "(I)V"⟩, 7), (⟨"TapeHouse", "isAsking", "(IIIII)Z"⟩, 13), (⟨"TapeHouse", "answerTo", "(IIIII)I"⟩, 13), (⟨"TapeHouse", "wouldUnmask", "(II)Z"⟩, 13), (⟨"TapeHouse", "knownTraits", "(II)I"⟩, 13), (⟨"TapeHouse$Town", "areAlike", "(III)Z"⟩, 4), (⟨"TapeHouse", "knowsByName", "(II)Z"⟩, 13), (⟨"TapeHouse$Tellings", "findLeftOut", "()I"⟩, 8), (⟨"TapeHouse$Tellings", "settle", "(IIZ)Z"⟩, 8), (⟨"TapeHouse$Tellings", "pushDays", "(IZ)Z"⟩, 8)]
theorem lw_r2 : ∀ q ∈ lw_privs_2, lw_okq q := List.forall_mem_cons.mpr ⟨lw_p16, List.forall_mem_cons.mpr ⟨lw_p17, List.forall_mem_cons.mpr ⟨lw_p18, List.forall_mem_cons.mpr ⟨lw_p19, List.forall_mem_cons.mpr ⟨lw_p20, List.forall_mem_cons.mpr ⟨lw_p21, List.forall_mem_cons.mpr ⟨lw_p22, List.forall_mem_cons.mpr ⟨lw_p23, List.forall_mem_cons.mpr ⟨lw_p24, List.forall_mem_cons.mpr ⟨lw_p25, List.forall_mem_cons.mpr ⟨lw_p26, List.forall_mem_cons.mpr ⟨lw_p27, List.forall_mem_cons.mpr ⟨lw_p28, List.forall_mem_cons.mpr ⟨lw_p29, List.forall_mem_cons.mpr ⟨lw_p30, List.forall_mem_cons.mpr ⟨lw_p31, fun _ h => absurd h List.not_mem_nil⟩⟩⟩⟩⟩⟩⟩⟩⟩⟩⟩⟩⟩⟩⟩⟩
theorem lw_p32 : lw_okq (⟨"TapeHouse$Tellings", "pushTo", "(II)Z"⟩, 8) := ⟨⟨by decide +kernel, by decide +kernel⟩, List.mem_of_getElem? (i := 224) (by decide +kernel), List.mem_of_getElem? (i := 848) (by decide +kernel), List.mem_of_getElem? (i := 849) (by decide +kernel)⟩
theorem lw_p33 : lw_okq (⟨"TapeHouse$Tellings", "areWithin", "(IIZ)Z"⟩, 8) := ⟨⟨by decide +kernel, by decide +kernel⟩, List.mem_of_getElem? (i := 224) (by decide +kernel), List.mem_of_getElem? (i := 853) (by decide +kernel), List.mem_of_getElem? (i := 854) (by decide +kernel)⟩
theorem lw_p34 : lw_okq (⟨"TapeHouseModel", "put", "(I)V"⟩, 69) := ⟨⟨by decide +kernel, by decide +kernel⟩, List.mem_of_getElem? (i := 888) (by decide +kernel), List.mem_of_getElem? (i := 1113) (by decide +kernel), List.mem_of_getElem? (i := 1114) (by decide +kernel)⟩
theorem lw_p35 : lw_okq (⟨"TapeHouseModel", "isPerson", "(I)Z"⟩, 69) := ⟨⟨by decide +kernel, by decide +kernel⟩, List.mem_of_getElem? (i := 888) (by decide +kernel), List.mem_of_getElem? (i := 1125) (by decide +kernel), List.mem_of_getElem? (i := 1126) (by decide +kernel)⟩
theorem lw_p36 : lw_okq (⟨"TapeHouseModel", "cut", "()V"⟩, 69) := ⟨⟨by decide +kernel, by decide +kernel⟩, List.mem_of_getElem? (i := 888) (by decide +kernel), List.mem_of_getElem? (i := 1129) (by decide +kernel), List.mem_of_getElem? (i := 1130) (by decide +kernel)⟩
theorem lw_p37 : lw_okq (⟨"TapeHouseModel", "at", "(I)I"⟩, 69) := ⟨⟨by decide +kernel, by decide +kernel⟩, List.mem_of_getElem? (i := 888) (by decide +kernel), List.mem_of_getElem? (i := 1133) (by decide +kernel), List.mem_of_getElem? (i := 1134) (by decide +kernel)⟩
theorem lw_p38 : lw_okq (⟨"TapeHouseModel", "token", "(IIIJ)V"⟩, 69) := ⟨⟨by decide +kernel, by decide +kernel⟩, List.mem_of_getElem? (i := 888) (by decide +kernel), List.mem_of_getElem? (i := 1137) (by decide +kernel), List.mem_of_getElem? (i := 1138) (by decide +kernel)⟩
theorem lw_p39 : lw_okq (⟨"TapeHouseModel", "sign", "(III)I"⟩, 69) := ⟨⟨by decide +kernel, by decide +kernel⟩, List.mem_of_getElem? (i := 888) (by decide +kernel), List.mem_of_getElem? (i := 1147) (by decide +kernel), List.mem_of_getElem? (i := 1148) (by decide +kernel)⟩
theorem lw_p40 : lw_okq (⟨"TapeHouseModel", "is", "(I)Z"⟩, 69) := ⟨⟨by decide +kernel, by decide +kernel⟩, List.mem_of_getElem? (i := 888) (by decide +kernel), List.mem_of_getElem? (i := 1151) (by decide +kernel), List.mem_of_getElem? (i := 1152) (by decide +kernel)⟩
theorem lw_p41 : lw_okq (⟨"TapeHouseModel", "tellRule", "()V"⟩, 69) := ⟨⟨by decide +kernel, by decide +kernel⟩, List.mem_of_getElem? (i := 888) (by decide +kernel), List.mem_of_getElem? (i := 1155) (by decide +kernel), List.mem_of_getElem? (i := 1156) (by decide +kernel)⟩
theorem lw_p42 : lw_okq (⟨"TapeHouseModel", "fail", "(I)V"⟩, 69) := ⟨⟨by decide +kernel, by decide +kernel⟩, List.mem_of_getElem? (i := 888) (by decide +kernel), List.mem_of_getElem? (i := 1159) (by decide +kernel), List.mem_of_getElem? (i := 1160) (by decide +kernel)⟩
theorem lw_p43 : lw_okq (⟨"TapeHouseModel", "next", "()V"⟩, 69) := ⟨⟨by decide +kernel, by decide +kernel⟩, List.mem_of_getElem? (i := 888) (by decide +kernel), List.mem_of_getElem? (i := 1163) (by decide +kernel), List.mem_of_getElem? (i := 1164) (by decide +kernel)⟩
theorem lw_p44 : lw_okq (⟨"TapeHouseModel", "literal", "(Z)V"⟩, 69) := ⟨⟨by decide +kernel, by decide +kernel⟩, List.mem_of_getElem? (i := 888) (by decide +kernel), List.mem_of_getElem? (i := 1167) (by decide +kernel), List.mem_of_getElem? (i := 1168) (by decide +kernel)⟩
theorem lw_p45 : lw_okq (⟨"TapeHouseModel", "must", "(I)V"⟩, 69) := ⟨⟨by decide +kernel, by decide +kernel⟩, List.mem_of_getElem? (i := 888) (by decide +kernel), List.mem_of_getElem? (i := 1171) (by decide +kernel), List.mem_of_getElem? (i := 1172) (by decide +kernel)⟩
theorem lw_p46 : lw_okq (⟨"TapeHouseModel", "wrong", "(II)V"⟩, 69) := ⟨⟨by decide +kernel, by decide +kernel⟩, List.mem_of_getElem? (i := 888) (by decide +kernel), List.mem_of_getElem? (i := 1175) (by decide +kernel), List.mem_of_getElem? (i := 1176) (by decide +kernel)⟩
theorem lw_p47 : lw_okq (⟨"TapeHouseModel", "emit", "(II)V"⟩, 69) := ⟨⟨by decide +kernel, by decide +kernel⟩, List.mem_of_getElem? (i := 888) (by decide +kernel), List.mem_of_getElem? (i := 1179) (by decide +kernel), List.mem_of_getElem? (i := 1180) (by decide +kernel)⟩
def lw_privs_3 : List (MethodName × Nat) := [(⟨"TapeHouse$Tellings", "pushTo", "(II)Z"⟩, 8), (⟨"TapeHouse$Tellings", "areWithin", "(IIZ)Z"⟩, 8), (⟨"TapeHouseModel", "put", "(I)V"⟩, 69), (⟨"TapeHouseModel", "isPerson", "(I)Z"⟩, 69), (⟨"TapeHouseModel", "cut", "()V"⟩, 69), (⟨"TapeHouseModel", "at", "(I)I"⟩, 69), (⟨"TapeHouseModel", "token", "(IIIJ)V"⟩, 69), (⟨"TapeHouseModel", "sign", "(III)I"⟩, 69), (⟨"TapeHouseModel", "is", "(I)Z"⟩, 69), (⟨"TapeHouseModel", "tellRule", "()V"⟩, 69), (⟨"TapeHouseModel", "fail", "(I)V"⟩, 69), (⟨"TapeHouseModel", "next", "()V"⟩, 69), (⟨"TapeHouseModel", "literal", "(Z)V"⟩, 69), (⟨"TapeHouseModel", "must", "(I)V"⟩, 69), (⟨"TapeHouseModel", "wrong", "(II)V"⟩, 69), (⟨"TapeHouseModel", "emit", "(II)V"⟩, 69)]
theorem lw_r3 : ∀ q ∈ lw_privs_3, lw_okq q := List.forall_mem_cons.mpr ⟨lw_p32, List.forall_mem_cons.mpr ⟨lw_p33, List.forall_mem_cons.mpr ⟨lw_p34, List.forall_mem_cons.mpr ⟨lw_p35, List.forall_mem_cons.mpr ⟨lw_p36, List.forall_mem_cons.mpr ⟨lw_p37, List.forall_mem_cons.mpr ⟨lw_p38, List.forall_mem_cons.mpr ⟨lw_p39, List.forall_mem_cons.mpr ⟨lw_p40, List.forall_mem_cons.mpr ⟨lw_p41, List.forall_mem_cons.mpr ⟨lw_p42, List.forall_mem_cons.mpr ⟨lw_p43, List.forall_mem_cons.mpr ⟨lw_p44, List.forall_mem_cons.mpr ⟨lw_p45, List.forall_mem_cons.mpr ⟨lw_p46, List.forall_mem_cons.mpr ⟨lw_p47, fun _ h => absurd h List.not_mem_nil⟩⟩⟩⟩⟩⟩⟩⟩⟩⟩⟩⟩⟩⟩⟩⟩
theorem lw_p48 : lw_okq (⟨"TapeHouseModel", "expression", "()V"⟩, 69) := ⟨⟨by decide +kernel, by decide +kernel⟩, List.mem_of_getElem? (i := 888) (by decide +kernel), List.mem_of_getElem? (i := 1183) (by decide +kernel), List.mem_of_getElem? (i := 1184) (by decide +kernel)⟩
theorem lw_p49 : lw_okq (⟨"TapeHouseModel", "comesOut", "(Z)V"⟩, 69) := ⟨⟨by decide +kernel, by decide +kernel⟩, List.mem_of_getElem? (i := 888) (by decide +kernel), List.mem_of_getElem? (i := 1187) (by decide +kernel), List.mem_of_getElem? (i := 1188) (by decide +kernel)⟩
theorem lw_p50 : lw_okq (⟨"TapeHouseModel", "isPiece", "(I)Z"⟩, 69) := ⟨⟨by decide +kernel, by decide +kernel⟩, List.mem_of_getElem? (i := 888) (by decide +kernel), List.mem_of_getElem? (i := 1237) (by decide +kernel), List.mem_of_getElem? (i := 1238) (by decide +kernel)⟩
theorem lw_p51 : lw_okq (⟨"TapeHouseModel", "isAsked", "(IIII)Z"⟩, 69) := ⟨⟨by decide +kernel, by decide +kernel⟩, List.mem_of_getElem? (i := 888) (by decide +kernel), List.mem_of_getElem? (i := 1245) (by decide +kernel), List.mem_of_getElem? (i := 1246) (by decide +kernel)⟩
theorem lw_p52 : lw_okq (⟨"TapeHouseModel", "letBy", "(IIII)I"⟩, 69) := ⟨⟨by decide +kernel, by decide +kernel⟩, List.mem_of_getElem? (i := 888) (by decide +kernel), List.mem_of_getElem? (i := 1249) (by decide +kernel), List.mem_of_getElem? (i := 1250) (by decide +kernel)⟩
theorem lw_p53 : lw_okq (⟨"TapeHouseModel", "asks", "(IIII)V"⟩, 69) := ⟨⟨by decide +kernel, by decide +kernel⟩, List.mem_of_getElem? (i := 888) (by decide +kernel), List.mem_of_getElem? (i := 1253) (by decide +kernel), List.mem_of_getElem? (i := 1254) (by decide +kernel)⟩
theorem lw_p54 : lw_okq (⟨"TapeHouseModel", "holds", "(II)Z"⟩, 69) := ⟨⟨by decide +kernel, by decide +kernel⟩, List.mem_of_getElem? (i := 888) (by decide +kernel), List.mem_of_getElem? (i := 1257) (by decide +kernel), List.mem_of_getElem? (i := 1258) (by decide +kernel)⟩
theorem lw_p55 : lw_okq (⟨"TapeHouseModel", "isTrue", "(I)Z"⟩, 69) := ⟨⟨by decide +kernel, by decide +kernel⟩, List.mem_of_getElem? (i := 888) (by decide +kernel), List.mem_of_getElem? (i := 1261) (by decide +kernel), List.mem_of_getElem? (i := 1262) (by decide +kernel)⟩
theorem lw_p56 : lw_okq (⟨"TapeHouseModel", "value", "(II)I"⟩, 69) := ⟨⟨by decide +kernel, by decide +kernel⟩, List.mem_of_getElem? (i := 888) (by decide +kernel), List.mem_of_getElem? (i := 1265) (by decide +kernel), List.mem_of_getElem? (i := 1266) (by decide +kernel)⟩
theorem lw_p57 : lw_okq (⟨"TapeHouseModel", "maskBy", "(IIII)I"⟩, 69) := ⟨⟨by decide +kernel, by decide +kernel⟩, List.mem_of_getElem? (i := 888) (by decide +kernel), List.mem_of_getElem? (i := 1273) (by decide +kernel), List.mem_of_getElem? (i := 1274) (by decide +kernel)⟩
theorem lw_p58 : lw_okq (⟨"TapeHouseModel", "isAsking", "(IIIII)Z"⟩, 69) := ⟨⟨by decide +kernel, by decide +kernel⟩, List.mem_of_getElem? (i := 888) (by decide +kernel), List.mem_of_getElem? (i := 1285) (by decide +kernel), List.mem_of_getElem? (i := 1286) (by decide +kernel)⟩
theorem lw_p59 : lw_okq (⟨"TapeHouseModel", "isAsker", "(I)Z"⟩, 69) := ⟨⟨by decide +kernel, by decide +kernel⟩, List.mem_of_getElem? (i := 888) (by decide +kernel), List.mem_of_getElem? (i := 1289) (by decide +kernel), List.mem_of_getElem? (i := 1290) (by decide +kernel)⟩
theorem lw_p60 : lw_okq (⟨"TapeHouseModel", "wouldGet", "(IIIII)I"⟩, 69) := ⟨⟨by decide +kernel, by decide +kernel⟩, List.mem_of_getElem? (i := 888) (by decide +kernel), List.mem_of_getElem? (i := 1293) (by decide +kernel), List.mem_of_getElem? (i := 1294) (by decide +kernel)⟩
theorem lw_p61 : lw_okq (⟨"TapeHouseModel", "hasName", "(II)Z"⟩, 69) := ⟨⟨by decide +kernel, by decide +kernel⟩, List.mem_of_getElem? (i := 888) (by decide +kernel), List.mem_of_getElem? (i := 1297) (by decide +kernel), List.mem_of_getElem? (i := 1298) (by decide +kernel)⟩
theorem lw_p62 : lw_okq (⟨"TapeHouseModel", "traitsHeard", "(II)I"⟩, 69) := ⟨⟨by decide +kernel, by decide +kernel⟩, List.mem_of_getElem? (i := 888) (by decide +kernel), List.mem_of_getElem? (i := 1301) (by decide +kernel), List.mem_of_getElem? (i := 1302) (by decide +kernel)⟩
theorem lw_p63 : lw_okq (⟨"TapeHouseModel", "alike", "(II)I"⟩, 69) := ⟨⟨by decide +kernel, by decide +kernel⟩, List.mem_of_getElem? (i := 888) (by decide +kernel), List.mem_of_getElem? (i := 1305) (by decide +kernel), List.mem_of_getElem? (i := 1306) (by decide +kernel)⟩
def lw_privs_4 : List (MethodName × Nat) := [(⟨"TapeHouseModel", "expression", "()V"⟩, 69), (⟨"TapeHouseModel", "comesOut", "(Z)V"⟩, 69), (⟨"TapeHouseModel", "isPiece", "(I)Z"⟩, 69), (⟨"TapeHouseModel", "isAsked", "(IIII)Z"⟩, 69), (⟨"TapeHouseModel", "letBy", "(IIII)I"⟩, 69), (⟨"TapeHouseModel", "asks", "(IIII)V"⟩, 69), (⟨"TapeHouseModel", "holds", "(II)Z"⟩, 69), (⟨"TapeHouseModel", "isTrue", "(I)Z"⟩, 69), (⟨"TapeHouseModel", "value", "(II)I"⟩, 69), (⟨"TapeHouseModel", "maskBy", "(IIII)I"⟩, 69), (⟨"TapeHouseModel", "isAsking", "(IIIII)Z"⟩, 69), (⟨"TapeHouseModel", "isAsker", "(I)Z"⟩, 69), (⟨"TapeHouseModel", "wouldGet", "(IIIII)I"⟩, 69), (⟨"TapeHouseModel", "hasName", "(II)Z"⟩, 69), (⟨"TapeHouseModel", "traitsHeard", "(II)I"⟩, 69), (⟨"TapeHouseModel", "alike", "(II)I"⟩, 69)]
theorem lw_r4 : ∀ q ∈ lw_privs_4, lw_okq q := List.forall_mem_cons.mpr ⟨lw_p48, List.forall_mem_cons.mpr ⟨lw_p49, List.forall_mem_cons.mpr ⟨lw_p50, List.forall_mem_cons.mpr ⟨lw_p51, List.forall_mem_cons.mpr ⟨lw_p52, List.forall_mem_cons.mpr ⟨lw_p53, List.forall_mem_cons.mpr ⟨lw_p54, List.forall_mem_cons.mpr ⟨lw_p55, List.forall_mem_cons.mpr ⟨lw_p56, List.forall_mem_cons.mpr ⟨lw_p57, List.forall_mem_cons.mpr ⟨lw_p58, List.forall_mem_cons.mpr ⟨lw_p59, List.forall_mem_cons.mpr ⟨lw_p60, List.forall_mem_cons.mpr ⟨lw_p61, List.forall_mem_cons.mpr ⟨lw_p62, List.forall_mem_cons.mpr ⟨lw_p63, fun _ h => absurd h List.not_mem_nil⟩⟩⟩⟩⟩⟩⟩⟩⟩⟩⟩⟩⟩⟩⟩⟩
theorem lw_p64 : lw_okq (⟨"TapeHouseModel", "telling", "(IIII)I"⟩, 69) := ⟨⟨by decide +kernel, by decide +kernel⟩, List.mem_of_getElem? (i := 888) (by decide +kernel), List.mem_of_getElem? (i := 1336) (by decide +kernel), List.mem_of_getElem? (i := 1337) (by decide +kernel)⟩
theorem lw_p65 : lw_okq (⟨"TapeHouseModel", "leftOf", "(I)I"⟩, 69) := ⟨⟨by decide +kernel, by decide +kernel⟩, List.mem_of_getElem? (i := 888) (by decide +kernel), List.mem_of_getElem? (i := 1352) (by decide +kernel), List.mem_of_getElem? (i := 1353) (by decide +kernel)⟩
theorem lw_p66 : lw_okq (⟨"TapeHouseModel", "agrees", "(II)Z"⟩, 69) := ⟨⟨by decide +kernel, by decide +kernel⟩, List.mem_of_getElem? (i := 888) (by decide +kernel), List.mem_of_getElem? (i := 1359) (by decide +kernel), List.mem_of_getElem? (i := 1360) (by decide +kernel)⟩
theorem lw_p67 : lw_okq (⟨"TapeHouseModel", "pushes", "(III)V"⟩, 69) := ⟨⟨by decide +kernel, by decide +kernel⟩, List.mem_of_getElem? (i := 888) (by decide +kernel), List.mem_of_getElem? (i := 1363) (by decide +kernel), List.mem_of_getElem? (i := 1364) (by decide +kernel)⟩
def lw_privs_5 : List (MethodName × Nat) := [(⟨"TapeHouseModel", "telling", "(IIII)I"⟩, 69), (⟨"TapeHouseModel", "leftOf", "(I)I"⟩, 69), (⟨"TapeHouseModel", "agrees", "(II)Z"⟩, 69), (⟨"TapeHouseModel", "pushes", "(III)V"⟩, 69)]
theorem lw_r5 : ∀ q ∈ lw_privs_5, lw_okq q := List.forall_mem_cons.mpr ⟨lw_p64, List.forall_mem_cons.mpr ⟨lw_p65, List.forall_mem_cons.mpr ⟨lw_p66, List.forall_mem_cons.mpr ⟨lw_p67, fun _ h => absurd h List.not_mem_nil⟩⟩⟩⟩
def lw_privs : List (MethodName × Nat) := lw_privs_1 ++ (lw_privs_2 ++ (lw_privs_3 ++ (lw_privs_4 ++ (lw_privs_5))))
def lw_tbl : List Cond := k2_sels lw_privs ++ tables_1
theorem lw_privs_ok : ∀ q ∈ lw_privs, lw_okq q := by
  show ∀ q ∈ lw_privs_1 ++ (lw_privs_2 ++ (lw_privs_3 ++ (lw_privs_4 ++ (lw_privs_5)))), lw_okq q
  exact List.forall_mem_append.mpr ⟨lw_r1, List.forall_mem_append.mpr ⟨lw_r2, List.forall_mem_append.mpr ⟨lw_r3, List.forall_mem_append.mpr ⟨lw_r4, lw_r5⟩⟩⟩⟩
end
section
def RX0 : String := "TapeHouse$Askers"
def TX0 : u_T := fun k => match k with
  | 0 => ("TapeHouse$Askers", "kinds", "[I", true)
  | 1 => ("TapeHouse$Askers", "ways", "[B", true)
  | _ => ("TapeHouse$Askers", "size", "I", false)
def tyX0 : Nat → FieldType := fun k => match k with
  | 0 => .array .int
  | 1 => .array .byte
  | _ => .int
abbrev wsX00 : List Cond := u_ws RX0 TX0 3
theorem nmX0 : ∀ a, a < 3 → ∀ b, b < 3 → a ≠ b → (TX0 a).2.1 ≠ (TX0 b).2.1 := by decide +kernel
theorem tyX0_ok : ∀ k, k < 3 → parseFieldDescriptor (TX0 k).2.2.1 = some (tyX0 k) := by decide +kernel
abbrev cX0_init : ByteArray := prog_2_method_1_code
def yX0_init : MethodName := ⟨RX0, "<init>", "()V"⟩
abbrev cX0_has : ByteArray := prog_2_method_2_code
def yX0_has : MethodName := ⟨RX0, "has", "(I)Z"⟩
abbrev cX0_add : ByteArray := prog_2_method_3_code
def yX0_add : MethodName := ⟨RX0, "add", "(I)I"⟩
abbrev cX0_kindOf : ByteArray := prog_2_method_4_code
def yX0_kindOf : MethodName := ⟨RX0, "kindOf", "(I)I"⟩
abbrev cX0_wayOf : ByteArray := prog_2_method_5_code
def yX0_wayOf : MethodName := ⟨RX0, "wayOf", "(II)I"⟩
abbrev cX0_hear : ByteArray := prog_2_method_6_code
def yX0_hear : MethodName := ⟨RX0, "hear", "(III)V"⟩
def RX1 : String := "TapeHouse$Consent"
def TX1 : u_T := fun k => match k with
  | 0 => ("TapeHouse$Consent", "heads", "[B", true)
  | 1 => ("TapeHouse$Consent", "ruleEnds", "[S", true)
  | 2 => ("TapeHouse$Consent", "tests", "[B", true)
  | 3 => ("TapeHouse$Consent", "literalEnds", "[S", true)
  | 4 => ("TapeHouse$Consent", "startsAll", "[Z", true)
  | 5 => ("TapeHouse$Consent", "moves", "[Z", true)
  | 6 => ("TapeHouse$Consent", "cells", "[S", true)
  | 7 => ("TapeHouse$Consent", "rules", "I", false)
  | 8 => ("TapeHouse$Consent", "literals", "I", false)
  | 9 => ("TapeHouse$Consent", "size", "I", false)
  | _ => ("TapeHouse$Consent", "moving", "Z", false)
def tyX1 : Nat → FieldType := fun k => match k with
  | 0 => .array .byte
  | 1 => .array .short
  | 2 => .array .byte
  | 3 => .array .short
  | 4 => .array .boolean
  | 5 => .array .boolean
  | 6 => .array .short
  | 7 => .int
  | 8 => .int
  | 9 => .int
  | _ => .boolean
abbrev wsX10 : List Cond := u_ws RX1 TX1 11
theorem nmX1 : ∀ a, a < 11 → ∀ b, b < 11 → a ≠ b → (TX1 a).2.1 ≠ (TX1 b).2.1 := by decide +kernel
theorem tyX1_ok : ∀ k, k < 11 → parseFieldDescriptor (TX1 k).2.2.1 = some (tyX1 k) := by decide +kernel
abbrev cX1_init : ByteArray := prog_3_method_1_code
def yX1_init : MethodName := ⟨RX1, "<init>", "()V"⟩
abbrev cX1_codeOf : ByteArray := prog_3_method_2_code
def yX1_codeOf : MethodName := ⟨RX1, "codeOf", "(I)I"⟩
abbrev cX1_clear : ByteArray := prog_3_method_3_code
def yX1_clear : MethodName := ⟨RX1, "clear", "()V"⟩
abbrev cX1_addRule : ByteArray := prog_3_method_4_code
def yX1_addRule : MethodName := ⟨RX1, "addRule", "(I)V"⟩
abbrev cX1_addCell : ByteArray := prog_3_method_5_code
def yX1_addCell : MethodName := ⟨RX1, "addCell", "(I)V"⟩
abbrev cX1_addLiteral : ByteArray := prog_3_method_6_code
def yX1_addLiteral : MethodName := ⟨RX1, "addLiteral", "(IZ)V"⟩
abbrev cX1_firstCell : ByteArray := prog_3_method_7_code
def yX1_firstCell : MethodName := ⟨RX1, "firstCell", "(I)I"⟩
abbrev cX1_hasDay : ByteArray := prog_3_method_8_code
def yX1_hasDay : MethodName := ⟨RX1, "hasDay", "(II)Z"⟩
abbrev cX1_letBy : ByteArray := prog_3_method_9_code
def yX1_letBy : MethodName := ⟨RX1, "letBy", "(LTapeHouse$Question;)I"⟩
abbrev cX1_maskedBy : ByteArray := prog_3_method_10_code
def yX1_maskedBy : MethodName := ⟨RX1, "maskedBy", "(LTapeHouse$Question;)I"⟩
abbrev cX1_holds : ByteArray := prog_3_method_11_code
def yX1_holds : MethodName := ⟨RX1, "holds", "(ILTapeHouse$Question;)Z"⟩
abbrev cX1_literalHolds : ByteArray := prog_3_method_12_code
def yX1_literalHolds : MethodName := ⟨RX1, "literalHolds", "(ILTapeHouse$Question;)Z"⟩
abbrev cX1_testHolds : ByteArray := prog_3_method_13_code
def yX1_testHolds : MethodName := ⟨RX1, "testHolds", "(ILTapeHouse$Question;)Z"⟩
def RX2 : String := "TapeHouse$Parser"
def TX2 : u_T := fun k => match k with
  | 0 => ("TapeHouse$Parser", "waiting", "[I", true)
  | 1 => ("TapeHouse$Parser", "waits", "I", false)
  | 2 => ("TapeHouse$Parser", "depth", "I", false)
  | 3 => ("TapeHouse$Parser", "state", "I", false)
  | 4 => ("TapeHouse$Parser", "comparison", "I", false)
  | 5 => ("TapeHouse$Parser", "startsAll", "Z", false)
  | 6 => ("TapeHouse$Parser", "firstBadName", "I", false)
  | _ => ("TapeHouse$Parser", "faultPlace", "I", false)
def tyX2 : Nat → FieldType := fun k => match k with
  | 0 => .array .int
  | 1 => .int
  | 2 => .int
  | 3 => .int
  | 4 => .int
  | 5 => .boolean
  | 6 => .int
  | _ => .int
abbrev wsX20 : List Cond := u_ws RX2 TX2 8
theorem nmX2 : ∀ a, a < 8 → ∀ b, b < 8 → a ≠ b → (TX2 a).2.1 ≠ (TX2 b).2.1 := by decide +kernel
theorem tyX2_ok : ∀ k, k < 8 → parseFieldDescriptor (TX2 k).2.2.1 = some (tyX2 k) := by decide +kernel
abbrev cX2_init : ByteArray := prog_4_method_1_code
def yX2_init : MethodName := ⟨RX2, "<init>", "()V"⟩
abbrev cX2_parse : ByteArray := prog_4_method_2_code
def yX2_parse : MethodName := ⟨RX2, "parse", "(LTapeHouse$Text;LTapeHouse$Consent;I)I"⟩
abbrev cX2_begin : ByteArray := prog_4_method_3_code
def yX2_begin : MethodName := ⟨RX2, "begin", "()V"⟩
abbrev cX2_faultOf : ByteArray := prog_4_method_4_code
def yX2_faultOf : MethodName := ⟨RX2, "faultOf", "(III)I"⟩
abbrev cX2_goesOn : ByteArray := prog_4_method_5_code
def yX2_goesOn : MethodName := ⟨RX2, "goesOn", "(I)Z"⟩
abbrev cX2_endsSide : ByteArray := prog_4_method_6_code
def yX2_endsSide : MethodName := ⟨RX2, "endsSide", "(I)Z"⟩
abbrev cX2_isHead : ByteArray := prog_4_method_7_code
def yX2_isHead : MethodName := ⟨RX2, "isHead", "(I)Z"⟩
abbrev cX2_startsUnit : ByteArray := prog_4_method_8_code
def yX2_startsUnit : MethodName := ⟨RX2, "startsUnit", "(I)Z"⟩
abbrev cX2_isComparison : ByteArray := prog_4_method_9_code
def yX2_isComparison : MethodName := ⟨RX2, "isComparison", "(I)Z"⟩
abbrev cX2_endsLiteral : ByteArray := prog_4_method_10_code
def yX2_endsLiteral : MethodName := ⟨RX2, "endsLiteral", "(I)Z"⟩
abbrev cX2_take : ByteArray := prog_4_method_11_code
def yX2_take : MethodName := ⟨RX2, "take", "(LTapeHouse$Text;LTapeHouse$Consent;I)V"⟩
abbrev cX2_takeTopic : ByteArray := prog_4_method_12_code
def yX2_takeTopic : MethodName := ⟨RX2, "takeTopic", "(LTapeHouse$Text;LTapeHouse$Consent;I)V"⟩
abbrev cX2_takeBracket : ByteArray := prog_4_method_13_code
def yX2_takeBracket : MethodName := ⟨RX2, "takeBracket", "(ILTapeHouse$Consent;)V"⟩
abbrev cX2_takeLiteralEnd : ByteArray := prog_4_method_14_code
def yX2_takeLiteralEnd : MethodName := ⟨RX2, "takeLiteralEnd", "(ILTapeHouse$Consent;)V"⟩
abbrev cX2_hold : ByteArray := prog_4_method_15_code
def yX2_hold : MethodName := ⟨RX2, "hold", "(I)V"⟩
abbrev cX2_unload : ByteArray := prog_4_method_16_code
def yX2_unload : MethodName := ⟨RX2, "unload", "(LTapeHouse$Consent;I)V"⟩
def RX3 : String := "TapeHouse$Question"
def TX3 : u_T := fun k => match k with
  | 0 => ("TapeHouse$Question", "vars", "[I", true)
  | 1 => ("TapeHouse$Question", "stack", "[I", true)
  | 2 => ("TapeHouse$Question", "known", "[B", true)
  | 3 => ("TapeHouse$Question", "top", "I", false)
  | 4 => ("TapeHouse$Question", "topicLine", "I", false)
  | 5 => ("TapeHouse$Question", "madeOn", "I", false)
  | _ => ("TapeHouse$Question", "diedOn", "I", false)
def tyX3 : Nat → FieldType := fun k => match k with
  | 0 => .array .int
  | 1 => .array .int
  | 2 => .array .byte
  | 3 => .int
  | 4 => .int
  | 5 => .int
  | _ => .int
abbrev wsX30 : List Cond := u_ws RX3 TX3 7
theorem nmX3 : ∀ a, a < 7 → ∀ b, b < 7 → a ≠ b → (TX3 a).2.1 ≠ (TX3 b).2.1 := by decide +kernel
theorem tyX3_ok : ∀ k, k < 7 → parseFieldDescriptor (TX3 k).2.2.1 = some (tyX3 k) := by decide +kernel
abbrev cX3_init : ByteArray := prog_5_method_1_code
def yX3_init : MethodName := ⟨RX3, "<init>", "()V"⟩
abbrev cX3_begin : ByteArray := prog_5_method_2_code
def yX3_begin : MethodName := ⟨RX3, "begin", "(III)V"⟩
abbrev cX3_give : ByteArray := prog_5_method_3_code
def yX3_give : MethodName := ⟨RX3, "give", "(II)V"⟩
abbrev cX3_turnTo : ByteArray := prog_5_method_4_code
def yX3_turnTo : MethodName := ⟨RX3, "turnTo", "(I)V"⟩
abbrev cX3_isInTopic : ByteArray := prog_5_method_5_code
def yX3_isInTopic : MethodName := ⟨RX3, "isInTopic", "(I)Z"⟩
abbrev cX3_takeCell : ByteArray := prog_5_method_6_code
def yX3_takeCell : MethodName := ⟨RX3, "takeCell", "(I)V"⟩
abbrev cX3_push : ByteArray := prog_5_method_7_code
def yX3_push : MethodName := ⟨RX3, "push", "(I)V"⟩
abbrev cX3_pop : ByteArray := prog_5_method_8_code
def yX3_pop : MethodName := ⟨RX3, "pop", "()I"⟩
def RX4 : String := "TapeHouse$Shelf"
def TX4 : u_T := fun k => match k with
  | 0 => ("TapeHouse$Shelf", "speakers", "[I", true)
  | 1 => ("TapeHouse$Shelf", "days", "[I", true)
  | 2 => ("TapeHouse$Shelf", "lengths", "[I", true)
  | 3 => ("TapeHouse$Shelf", "tapes", "I", false)
  | 4 => ("TapeHouse$Shelf", "tapeOf", "[I", true)
  | 5 => ("TapeHouse$Shelf", "starts", "[I", true)
  | 6 => ("TapeHouse$Shelf", "ends", "[I", true)
  | 7 => ("TapeHouse$Shelf", "topics", "[I", true)
  | 8 => ("TapeHouse$Shelf", "names", "[I", true)
  | 9 => ("TapeHouse$Shelf", "tells", "[I", true)
  | 10 => ("TapeHouse$Shelf", "takenOn", "[I", true)
  | _ => ("TapeHouse$Shelf", "pieces", "I", false)
def tyX4 : Nat → FieldType := fun k => match k with
  | 0 => .array .int
  | 1 => .array .int
  | 2 => .array .int
  | 3 => .int
  | 4 => .array .int
  | 5 => .array .int
  | 6 => .array .int
  | 7 => .array .int
  | 8 => .array .int
  | 9 => .array .int
  | 10 => .array .int
  | _ => .int
abbrev wsX40 : List Cond := u_ws RX4 TX4 12
theorem nmX4 : ∀ a, a < 12 → ∀ b, b < 12 → a ≠ b → (TX4 a).2.1 ≠ (TX4 b).2.1 := by decide +kernel
theorem tyX4_ok : ∀ k, k < 12 → parseFieldDescriptor (TX4 k).2.2.1 = some (tyX4 k) := by decide +kernel
abbrev cX4_init : ByteArray := prog_6_method_1_code
def yX4_init : MethodName := ⟨RX4, "<init>", "()V"⟩
abbrev cX4_has : ByteArray := prog_6_method_2_code
def yX4_has : MethodName := ⟨RX4, "has", "(I)Z"⟩
abbrev cX4_addTape : ByteArray := prog_6_method_3_code
def yX4_addTape : MethodName := ⟨RX4, "addTape", "(III)I"⟩
abbrev cX4_isFree : ByteArray := prog_6_method_4_code
def yX4_isFree : MethodName := ⟨RX4, "isFree", "(III)Z"⟩
abbrev cX4_addPiece : ByteArray := prog_6_method_5_code
def yX4_addPiece : MethodName := ⟨RX4, "addPiece", "(IIIIII)I"⟩
abbrev cX4_takeBack : ByteArray := prog_6_method_6_code
def yX4_takeBack : MethodName := ⟨RX4, "takeBack", "(II)Z"⟩
abbrev cX4_speakerOf : ByteArray := prog_6_method_7_code
def yX4_speakerOf : MethodName := ⟨RX4, "speakerOf", "(I)I"⟩
abbrev cX4_madeOn : ByteArray := prog_6_method_8_code
def yX4_madeOn : MethodName := ⟨RX4, "madeOn", "(I)I"⟩
abbrev cX4_pieceAt : ByteArray := prog_6_method_9_code
def yX4_pieceAt : MethodName := ⟨RX4, "pieceAt", "(II)I"⟩
def RX5 : String := "TapeHouse$Tellings"
def TX5 : u_T := fun k => match k with
  | 0 => ("TapeHouse$Tellings", "forms", "[I", true)
  | 1 => ("TapeHouse$Tellings", "events", "[I", true)
  | 2 => ("TapeHouse$Tellings", "others", "[I", true)
  | 3 => ("TapeHouse$Tellings", "lows", "[I", true)
  | 4 => ("TapeHouse$Tellings", "highs", "[I", true)
  | 5 => ("TapeHouse$Tellings", "leftOuts", "[I", true)
  | 6 => ("TapeHouse$Tellings", "days", "[I", true)
  | _ => ("TapeHouse$Tellings", "size", "I", false)
def tyX5 : Nat → FieldType := fun k => match k with
  | 0 => .array .int
  | 1 => .array .int
  | 2 => .array .int
  | 3 => .array .int
  | 4 => .array .int
  | 5 => .array .int
  | 6 => .array .int
  | _ => .int
abbrev wsX50 : List Cond := u_ws RX5 TX5 8
theorem nmX5 : ∀ a, a < 8 → ∀ b, b < 8 → a ≠ b → (TX5 a).2.1 ≠ (TX5 b).2.1 := by decide +kernel
theorem tyX5_ok : ∀ k, k < 8 → parseFieldDescriptor (TX5 k).2.2.1 = some (tyX5 k) := by decide +kernel
abbrev cX5_init : ByteArray := prog_7_method_1_code
def yX5_init : MethodName := ⟨RX5, "<init>", "()V"⟩
abbrev cX5_add : ByteArray := prog_7_method_2_code
def yX5_add : MethodName := ⟨RX5, "add", "(IIIII)I"⟩
abbrev cX5_leftOut : ByteArray := prog_7_method_3_code
def yX5_leftOut : MethodName := ⟨RX5, "leftOut", "(I)I"⟩
abbrev cX5_dayOf : ByteArray := prog_7_method_4_code
def yX5_dayOf : MethodName := ⟨RX5, "dayOf", "(IIZ)I"⟩
abbrev cX5_findLeftOut : ByteArray := prog_7_method_5_code
def yX5_findLeftOut : MethodName := ⟨RX5, "findLeftOut", "()I"⟩
abbrev cX5_settle : ByteArray := prog_7_method_6_code
def yX5_settle : MethodName := ⟨RX5, "settle", "(IIZ)Z"⟩
abbrev cX5_pushDays : ByteArray := prog_7_method_7_code
def yX5_pushDays : MethodName := ⟨RX5, "pushDays", "(IZ)Z"⟩
abbrev cX5_pushTo : ByteArray := prog_7_method_8_code
def yX5_pushTo : MethodName := ⟨RX5, "pushTo", "(II)Z"⟩
abbrev cX5_areWithin : ByteArray := prog_7_method_9_code
def yX5_areWithin : MethodName := ⟨RX5, "areWithin", "(IIZ)Z"⟩
def RX6 : String := "TapeHouse$Text"
def TX6 : u_T := fun k => match k with
  | 0 => ("TapeHouse$Text", "bytes", "[B", true)
  | 1 => ("TapeHouse$Text", "size", "I", false)
  | 2 => ("TapeHouse$Text", "next", "I", false)
  | 3 => ("TapeHouse$Text", "token", "I", false)
  | 4 => ("TapeHouse$Text", "tokenPlace", "I", false)
  | _ => ("TapeHouse$Text", "value", "I", false)
def tyX6 : Nat → FieldType := fun k => match k with
  | 0 => .array .byte
  | 1 => .int
  | 2 => .int
  | 3 => .int
  | 4 => .int
  | _ => .int
abbrev wsX60 : List Cond := u_ws RX6 TX6 6
theorem nmX6 : ∀ a, a < 6 → ∀ b, b < 6 → a ≠ b → (TX6 a).2.1 ≠ (TX6 b).2.1 := by decide +kernel
theorem tyX6_ok : ∀ k, k < 6 → parseFieldDescriptor (TX6 k).2.2.1 = some (tyX6 k) := by decide +kernel
abbrev cX6_init : ByteArray := prog_8_method_1_code
def yX6_init : MethodName := ⟨RX6, "<init>", "()V"⟩
abbrev cX6_addTwenty : ByteArray := prog_8_method_2_code
def yX6_addTwenty : MethodName := ⟨RX6, "addTwenty", "(IIIII)I"⟩
abbrev cX6_addFour : ByteArray := prog_8_method_3_code
def yX6_addFour : MethodName := ⟨RX6, "addFour", "(I)V"⟩
abbrev cX6_drop : ByteArray := prog_8_method_4_code
def yX6_drop : MethodName := ⟨RX6, "drop", "(I)I"⟩
abbrev cX6_clear : ByteArray := prog_8_method_5_code
def yX6_clear : MethodName := ⟨RX6, "clear", "()V"⟩
abbrev cX6_rewind : ByteArray := prog_8_method_6_code
def yX6_rewind : MethodName := ⟨RX6, "rewind", "()V"⟩
abbrev cX6_advance : ByteArray := prog_8_method_7_code
def yX6_advance : MethodName := ⟨RX6, "advance", "()V"⟩
abbrev cX6_isBlank : ByteArray := prog_8_method_8_code
def yX6_isBlank : MethodName := ⟨RX6, "isBlank", "(I)Z"⟩
abbrev cX6_isLetter : ByteArray := prog_8_method_9_code
def yX6_isLetter : MethodName := ⟨RX6, "isLetter", "(I)Z"⟩
abbrev cX6_isDigit : ByteArray := prog_8_method_10_code
def yX6_isDigit : MethodName := ⟨RX6, "isDigit", "(I)Z"⟩
abbrev cX6_takeWord : ByteArray := prog_8_method_11_code
def yX6_takeWord : MethodName := ⟨RX6, "takeWord", "()V"⟩
abbrev cX6_wordOf : ByteArray := prog_8_method_12_code
def yX6_wordOf : MethodName := ⟨RX6, "wordOf", "(II)I"⟩
abbrev cX6_takeInt : ByteArray := prog_8_method_13_code
def yX6_takeInt : MethodName := ⟨RX6, "takeInt", "()V"⟩
abbrev cX6_takeSign : ByteArray := prog_8_method_14_code
def yX6_takeSign : MethodName := ⟨RX6, "takeSign", "(I)V"⟩
abbrev cX6_signOf : ByteArray := prog_8_method_15_code
def yX6_signOf : MethodName := ⟨RX6, "signOf", "(IZ)I"⟩
def RX7 : String := "TapeHouse$Topics"
def TX7 : u_T := fun k => match k with
  | 0 => ("TapeHouse$Topics", "lines", "[I", true)
  | _ => ("TapeHouse$Topics", "size", "I", false)
def tyX7 : Nat → FieldType := fun k => match k with
  | 0 => .array .int
  | _ => .int
abbrev wsX70 : List Cond := u_ws RX7 TX7 2
theorem nmX7 : ∀ a, a < 2 → ∀ b, b < 2 → a ≠ b → (TX7 a).2.1 ≠ (TX7 b).2.1 := by decide +kernel
theorem tyX7_ok : ∀ k, k < 2 → parseFieldDescriptor (TX7 k).2.2.1 = some (tyX7 k) := by decide +kernel
abbrev cX7_init : ByteArray := prog_9_method_1_code
def yX7_init : MethodName := ⟨RX7, "<init>", "()V"⟩
abbrev cX7_has : ByteArray := prog_9_method_2_code
def yX7_has : MethodName := ⟨RX7, "has", "(I)Z"⟩
abbrev cX7_add : ByteArray := prog_9_method_3_code
def yX7_add : MethodName := ⟨RX7, "add", "(I)I"⟩
abbrev cX7_lineOf : ByteArray := prog_9_method_4_code
def yX7_lineOf : MethodName := ⟨RX7, "lineOf", "(I)I"⟩
def RX8 : String := "TapeHouse$Town"
def TX8 : u_T := fun k => match k with
  | 0 => ("TapeHouse$Town", "traits", "[I", true)
  | 1 => ("TapeHouse$Town", "deaths", "[I", true)
  | 2 => ("TapeHouse$Town", "consents", "[LTapeHouse$Consent;", true)
  | _ => ("TapeHouse$Town", "size", "I", false)
def tyX8 : Nat → FieldType := fun k => match k with
  | 0 => .array .int
  | 1 => .array .int
  | 2 => .array (.object "TapeHouse$Consent")
  | _ => .int
abbrev wsX80 : List Cond := u_ws RX8 TX8 4
theorem nmX8 : ∀ a, a < 4 → ∀ b, b < 4 → a ≠ b → (TX8 a).2.1 ≠ (TX8 b).2.1 := by decide +kernel
theorem tyX8_ok : ∀ k, k < 4 → parseFieldDescriptor (TX8 k).2.2.1 = some (tyX8 k) := by decide +kernel
abbrev cX8_init : ByteArray := prog_10_method_1_code
def yX8_init : MethodName := ⟨RX8, "<init>", "()V"⟩
abbrev cX8_has : ByteArray := prog_10_method_2_code
def yX8_has : MethodName := ⟨RX8, "has", "(I)Z"⟩
abbrev cX8_add : ByteArray := prog_10_method_3_code
def yX8_add : MethodName := ⟨RX8, "add", "(IIII)I"⟩
abbrev cX8_setDeath : ByteArray := prog_10_method_4_code
def yX8_setDeath : MethodName := ⟨RX8, "setDeath", "(II)Z"⟩
abbrev cX8_deathOf : ByteArray := prog_10_method_5_code
def yX8_deathOf : MethodName := ⟨RX8, "deathOf", "(I)I"⟩
abbrev cX8_consentOf : ByteArray := prog_10_method_6_code
def yX8_consentOf : MethodName := ⟨RX8, "consentOf", "(I)LTapeHouse$Consent;"⟩
abbrev cX8_exchangeConsent : ByteArray := prog_10_method_7_code
def yX8_exchangeConsent : MethodName := ⟨RX8, "exchangeConsent", "(ILTapeHouse$Consent;)LTapeHouse$Consent;"⟩
abbrev cX8_alikeTo : ByteArray := prog_10_method_8_code
def yX8_alikeTo : MethodName := ⟨RX8, "alikeTo", "(II)I"⟩
abbrev cX8_areAlike : ByteArray := prog_10_method_9_code
def yX8_areAlike : MethodName := ⟨RX8, "areAlike", "(III)Z"⟩
def RX9 : String := "TapeHouse"
def TX9 : u_T := fun k => match k with
  | 0 => ("TapeHouse", "text", "LTapeHouse$Text;", true)
  | 1 => ("TapeHouse", "parser", "LTapeHouse$Parser;", true)
  | 2 => ("TapeHouse", "question", "LTapeHouse$Question;", true)
  | 3 => ("TapeHouse", "town", "LTapeHouse$Town;", true)
  | 4 => ("TapeHouse", "topics", "LTapeHouse$Topics;", true)
  | 5 => ("TapeHouse", "shelf", "LTapeHouse$Shelf;", true)
  | 6 => ("TapeHouse", "askers", "LTapeHouse$Askers;", true)
  | 7 => ("TapeHouse", "tellings", "LTapeHouse$Tellings;", true)
  | 8 => ("TapeHouse", "lags", "[I", true)
  | 9 => ("TapeHouse", "copies", "I", false)
  | 10 => ("TapeHouse", "theBound", "I", false)
  | 11 => ("TapeHouse", "faultPlace", "I", false)
  | _ => ("TapeHouse", "spare", "LTapeHouse$Consent;", false)
def tyX9 : Nat → FieldType := fun k => match k with
  | 0 => .object "TapeHouse$Text"
  | 1 => .object "TapeHouse$Parser"
  | 2 => .object "TapeHouse$Question"
  | 3 => .object "TapeHouse$Town"
  | 4 => .object "TapeHouse$Topics"
  | 5 => .object "TapeHouse$Shelf"
  | 6 => .object "TapeHouse$Askers"
  | 7 => .object "TapeHouse$Tellings"
  | 8 => .array .int
  | 9 => .int
  | 10 => .int
  | 11 => .int
  | _ => .object "TapeHouse$Consent"
abbrev wsX90 : List Cond := u_ws RX9 TX9 13
theorem nmX9 : ∀ a, a < 13 → ∀ b, b < 13 → a ≠ b → (TX9 a).2.1 ≠ (TX9 b).2.1 := by decide +kernel
theorem tyX9_ok : ∀ k, k < 13 → parseFieldDescriptor (TX9 k).2.2.1 = some (tyX9 k) := by decide +kernel
abbrev cX9_init : ByteArray := prog_1_method_1_code
def yX9_init : MethodName := ⟨RX9, "<init>", "()V"⟩
abbrev cX9_feed : ByteArray := prog_1_method_2_code
def yX9_feed : MethodName := ⟨RX9, "feed", "(IIIII)I"⟩
abbrev cX9_back : ByteArray := prog_1_method_3_code
def yX9_back : MethodName := ⟨RX9, "back", "(I)I"⟩
abbrev cX9_read : ByteArray := prog_1_method_4_code
def yX9_read : MethodName := ⟨RX9, "read", "(I)I"⟩
abbrev cX9_place : ByteArray := prog_1_method_5_code
def yX9_place : MethodName := ⟨RX9, "place", "()I"⟩
abbrev cX9_person : ByteArray := prog_1_method_6_code
def yX9_person : MethodName := ⟨RX9, "person", "(IIII)I"⟩
abbrev cX9_topic : ByteArray := prog_1_method_7_code
def yX9_topic : MethodName := ⟨RX9, "topic", "(I)I"⟩
abbrev cX9_tape : ByteArray := prog_1_method_8_code
def yX9_tape : MethodName := ⟨RX9, "tape", "(III)I"⟩
abbrev cX9_piece : ByteArray := prog_1_method_9_code
def yX9_piece : MethodName := ⟨RX9, "piece", "(IIIIII)I"⟩
abbrev cX9_asker : ByteArray := prog_1_method_10_code
def yX9_asker : MethodName := ⟨RX9, "asker", "(I)I"⟩
abbrev cX9_copy : ByteArray := prog_1_method_11_code
def yX9_copy : MethodName := ⟨RX9, "copy", "(I)I"⟩
abbrev cX9_bound : ByteArray := prog_1_method_12_code
def yX9_bound : MethodName := ⟨RX9, "bound", "(I)Z"⟩
abbrev cX9_dies : ByteArray := prog_1_method_13_code
def yX9_dies : MethodName := ⟨RX9, "dies", "(II)Z"⟩
abbrev cX9_takes : ByteArray := prog_1_method_14_code
def yX9_takes : MethodName := ⟨RX9, "takes", "(II)Z"⟩
abbrev cX9_let : ByteArray := prog_1_method_15_code
def yX9_let : MethodName := ⟨RX9, "let", "(IIII)I"⟩
abbrev cX9_mask : ByteArray := prog_1_method_16_code
def yX9_mask : MethodName := ⟨RX9, "mask", "(IIII)I"⟩
abbrev cX9_would : ByteArray := prog_1_method_17_code
def yX9_would : MethodName := ⟨RX9, "would", "(IIIII)I"⟩
abbrev cX9_ask : ByteArray := prog_1_method_18_code
def yX9_ask : MethodName := ⟨RX9, "ask", "(IIIII)I"⟩
abbrev cX9_heard : ByteArray := prog_1_method_19_code
def yX9_heard : MethodName := ⟨RX9, "heard", "(II)I"⟩
abbrev cX9_could : ByteArray := prog_1_method_20_code
def yX9_could : MethodName := ⟨RX9, "could", "(II)I"⟩
abbrev cX9_seconds : ByteArray := prog_1_method_21_code
def yX9_seconds : MethodName := ⟨RX9, "seconds", "(II)I"⟩
abbrev cX9_opens : ByteArray := prog_1_method_22_code
def yX9_opens : MethodName := ⟨RX9, "opens", "(IIII)I"⟩
abbrev cX9_at : ByteArray := prog_1_method_23_code
def yX9_at : MethodName := ⟨RX9, "at", "(II)I"⟩
abbrev cX9_span : ByteArray := prog_1_method_24_code
def yX9_span : MethodName := ⟨RX9, "span", "(III)I"⟩
abbrev cX9_behind : ByteArray := prog_1_method_25_code
def yX9_behind : MethodName := ⟨RX9, "behind", "(III)I"⟩
abbrev cX9_same : ByteArray := prog_1_method_26_code
def yX9_same : MethodName := ⟨RX9, "same", "(II)I"⟩
abbrev cX9_left : ByteArray := prog_1_method_27_code
def yX9_left : MethodName := ⟨RX9, "left", "(I)I"⟩
abbrev cX9_when : ByteArray := prog_1_method_28_code
def yX9_when : MethodName := ⟨RX9, "when", "(III)I"⟩
abbrev cX9_count : ByteArray := prog_1_method_29_code
def yX9_count : MethodName := ⟨RX9, "count", "(I)I"⟩
abbrev cX9_isBelow : ByteArray := prog_1_method_30_code
def yX9_isBelow : MethodName := ⟨RX9, "isBelow", "(II)Z"⟩
abbrev cX9_isDay : ByteArray := prog_1_method_31_code
def yX9_isDay : MethodName := ⟨RX9, "isDay", "(I)Z"⟩
abbrev cX9_isEvent : ByteArray := prog_1_method_32_code
def yX9_isEvent : MethodName := ⟨RX9, "isEvent", "(I)Z"⟩
abbrev cX9_isVar : ByteArray := prog_1_method_33_code
def yX9_isVar : MethodName := ⟨RX9, "isVar", "(I)Z"⟩
abbrev cX9_isOperator : ByteArray := prog_1_method_34_code
def yX9_isOperator : MethodName := ⟨RX9, "isOperator", "(I)Z"⟩
abbrev cX9_areTwoEvents : ByteArray := prog_1_method_35_code
def yX9_areTwoEvents : MethodName := ⟨RX9, "areTwoEvents", "(II)Z"⟩
abbrev cX9_isQuestion : ByteArray := prog_1_method_36_code
def yX9_isQuestion : MethodName := ⟨RX9, "isQuestion", "(IIII)Z"⟩
abbrev cX9_isAsking : ByteArray := prog_1_method_37_code
def yX9_isAsking : MethodName := ⟨RX9, "isAsking", "(IIIII)Z"⟩
abbrev cX9_pose : ByteArray := prog_1_method_38_code
def yX9_pose : MethodName := ⟨RX9, "pose", "(IIII)LTapeHouse$Consent;"⟩
abbrev cX9_answerTo : ByteArray := prog_1_method_39_code
def yX9_answerTo : MethodName := ⟨RX9, "answerTo", "(IIIII)I"⟩
abbrev cX9_wouldUnmask : ByteArray := prog_1_method_40_code
def yX9_wouldUnmask : MethodName := ⟨RX9, "wouldUnmask", "(II)Z"⟩
abbrev cX9_knownTraits : ByteArray := prog_1_method_41_code
def yX9_knownTraits : MethodName := ⟨RX9, "knownTraits", "(II)I"⟩
abbrev cX9_knowsByName : ByteArray := prog_1_method_42_code
def yX9_knowsByName : MethodName := ⟨RX9, "knowsByName", "(II)Z"⟩
def RX10 : String := "TapeHouseModel"
def TX10 : u_T := fun k => match k with
  | 0 => ("TapeHouseModel", "thrown", "I", false)
  | 1 => ("TapeHouseModel", "tape", "[B", true)
  | 2 => ("TapeHouseModel", "taped", "I", false)
  | 3 => ("TapeHouseModel", "text", "[B", true)
  | 4 => ("TapeHouseModel", "size", "I", false)
  | 5 => ("TapeHouseModel", "tKind", "[I", true)
  | 6 => ("TapeHouseModel", "tPlace", "[I", true)
  | 7 => ("TapeHouseModel", "tValue", "[I", true)
  | 8 => ("TapeHouseModel", "tName", "[J", true)
  | 9 => ("TapeHouseModel", "keys", "[J", true)
  | 10 => ("TapeHouseModel", "tokens", "I", false)
  | 11 => ("TapeHouseModel", "t", "I", false)
  | 12 => ("TapeHouseModel", "open", "I", false)
  | 13 => ("TapeHouseModel", "fault", "I", false)
  | 14 => ("TapeHouseModel", "faultPlace", "I", false)
  | 15 => ("TapeHouseModel", "worst", "I", false)
  | 16 => ("TapeHouseModel", "worstPlace", "I", false)
  | 17 => ("TapeHouseModel", "place", "I", false)
  | 18 => ("TapeHouseModel", "live", "[I", true)
  | 19 => ("TapeHouseModel", "side", "I", false)
  | 20 => ("TapeHouseModel", "rules", "[I", true)
  | 21 => ("TapeHouseModel", "ruleSort", "[I", true)
  | 22 => ("TapeHouseModel", "litFirst", "[I", true)
  | 23 => ("TapeHouseModel", "litLast", "[I", true)
  | 24 => ("TapeHouseModel", "literals", "[I", true)
  | 25 => ("TapeHouseModel", "litSort", "[I", true)
  | 26 => ("TapeHouseModel", "litLeft", "[I", true)
  | 27 => ("TapeHouseModel", "litRight", "[I", true)
  | 28 => ("TapeHouseModel", "litEnd", "[I", true)
  | 29 => ("TapeHouseModel", "litOr", "[Z", true)
  | 30 => ("TapeHouseModel", "codes", "I", false)
  | 31 => ("TapeHouseModel", "code", "[I", true)
  | 32 => ("TapeHouseModel", "codeInt", "[I", true)
  | 33 => ("TapeHouseModel", "waits", "[I", true)
  | 34 => ("TapeHouseModel", "waiting", "I", false)
  | 35 => ("TapeHouseModel", "persons", "I", false)
  | 36 => ("TapeHouseModel", "trait", "[I", true)
  | 37 => ("TapeHouseModel", "death", "[I", true)
  | 38 => ("TapeHouseModel", "topics", "I", false)
  | 39 => ("TapeHouseModel", "inTopics", "[I", true)
  | 40 => ("TapeHouseModel", "tapes", "I", false)
  | 41 => ("TapeHouseModel", "speaker", "[I", true)
  | 42 => ("TapeHouseModel", "madeOn", "[I", true)
  | 43 => ("TapeHouseModel", "length", "[I", true)
  | 44 => ("TapeHouseModel", "pieces", "I", false)
  | 45 => ("TapeHouseModel", "pieceTape", "[I", true)
  | 46 => ("TapeHouseModel", "pieceFrom", "[I", true)
  | 47 => ("TapeHouseModel", "pieceTo", "[I", true)
  | 48 => ("TapeHouseModel", "pieceTopic", "[I", true)
  | 49 => ("TapeHouseModel", "pieceNames", "[I", true)
  | 50 => ("TapeHouseModel", "pieceTells", "[I", true)
  | 51 => ("TapeHouseModel", "taken", "[I", true)
  | 52 => ("TapeHouseModel", "askers", "I", false)
  | 53 => ("TapeHouseModel", "askerKind", "[I", true)
  | 54 => ("TapeHouseModel", "copies", "I", false)
  | 55 => ("TapeHouseModel", "lag", "[I", true)
  | 56 => ("TapeHouseModel", "bound", "I", false)
  | 57 => ("TapeHouseModel", "variables", "[I", true)
  | 58 => ("TapeHouseModel", "pile", "[I", true)
  | 59 => ("TapeHouseModel", "askedTopics", "I", false)
  | 60 => ("TapeHouseModel", "heard", "[I", true)
  | 61 => ("TapeHouseModel", "tellings", "I", false)
  | 62 => ("TapeHouseModel", "tellSort", "[I", true)
  | 63 => ("TapeHouseModel", "tellOf", "[I", true)
  | 64 => ("TapeHouseModel", "tellA", "[I", true)
  | 65 => ("TapeHouseModel", "tellB", "[I", true)
  | 66 => ("TapeHouseModel", "low", "[I", true)
  | 67 => ("TapeHouseModel", "high", "[I", true)
  | _ => ("TapeHouseModel", "isMoved", "Z", false)
def tyX10 : Nat → FieldType := fun k => match k with
  | 0 => .int
  | 1 => .array .byte
  | 2 => .int
  | 3 => .array .byte
  | 4 => .int
  | 5 => .array .int
  | 6 => .array .int
  | 7 => .array .int
  | 8 => .array .long
  | 9 => .array .long
  | 10 => .int
  | 11 => .int
  | 12 => .int
  | 13 => .int
  | 14 => .int
  | 15 => .int
  | 16 => .int
  | 17 => .int
  | 18 => .array .int
  | 19 => .int
  | 20 => .array .int
  | 21 => .array .int
  | 22 => .array .int
  | 23 => .array .int
  | 24 => .array .int
  | 25 => .array .int
  | 26 => .array .int
  | 27 => .array .int
  | 28 => .array .int
  | 29 => .array .boolean
  | 30 => .int
  | 31 => .array .int
  | 32 => .array .int
  | 33 => .array .int
  | 34 => .int
  | 35 => .int
  | 36 => .array .int
  | 37 => .array .int
  | 38 => .int
  | 39 => .array .int
  | 40 => .int
  | 41 => .array .int
  | 42 => .array .int
  | 43 => .array .int
  | 44 => .int
  | 45 => .array .int
  | 46 => .array .int
  | 47 => .array .int
  | 48 => .array .int
  | 49 => .array .int
  | 50 => .array .int
  | 51 => .array .int
  | 52 => .int
  | 53 => .array .int
  | 54 => .int
  | 55 => .array .int
  | 56 => .int
  | 57 => .array .int
  | 58 => .array .int
  | 59 => .int
  | 60 => .array .int
  | 61 => .int
  | 62 => .array .int
  | 63 => .array .int
  | 64 => .array .int
  | 65 => .array .int
  | 66 => .array .int
  | 67 => .array .int
  | _ => .boolean
abbrev wsX100 : List Cond := u_ws RX10 TX10 69
theorem nmX10 : ∀ a, a < 69 → ∀ b, b < 69 → a ≠ b → (TX10 a).2.1 ≠ (TX10 b).2.1 := by decide +kernel
theorem tyX10_ok : ∀ k, k < 69 → parseFieldDescriptor (TX10 k).2.2.1 = some (tyX10 k) := by decide +kernel
abbrev cX10_init : ByteArray := prog_12_method_2_code
def yX10_init : MethodName := ⟨RX10, "<init>", "()V"⟩
abbrev cX10_feed : ByteArray := prog_12_method_3_code
def yX10_feed : MethodName := ⟨RX10, "feed", "(IIIII)I"⟩
abbrev cX10_put : ByteArray := prog_12_method_4_code
def yX10_put : MethodName := ⟨RX10, "put", "(I)V"⟩
abbrev cX10_back : ByteArray := prog_12_method_5_code
def yX10_back : MethodName := ⟨RX10, "back", "(I)I"⟩
abbrev cX10_at : ByteArray := prog_12_method_6_code
def yX10_at : MethodName := ⟨RX10, "at", "(I)I"⟩
abbrev cX10_isDigit : ByteArray := prog_12_method_7_code
def yX10_isDigit : MethodName := ⟨RX10, "isDigit", "(I)Z"⟩
abbrev cX10_isLetter : ByteArray := prog_12_method_8_code
def yX10_isLetter : MethodName := ⟨RX10, "isLetter", "(I)Z"⟩
abbrev cX10_more : ByteArray := prog_12_method_9_code
def yX10_more : MethodName := ⟨RX10, "more", "(JI)J"⟩
abbrev cX10_word : ByteArray := prog_12_method_10_code
def yX10_word : MethodName := ⟨RX10, "word", "(IIIIIII)J"⟩
abbrev cX10_token : ByteArray := prog_12_method_11_code
def yX10_token : MethodName := ⟨RX10, "token", "(IIIJ)V"⟩
abbrev cX10_cut : ByteArray := prog_12_method_12_code
def yX10_cut : MethodName := ⟨RX10, "cut", "()V"⟩
abbrev cX10_sign : ByteArray := prog_12_method_13_code
def yX10_sign : MethodName := ⟨RX10, "sign", "(III)I"⟩
abbrev cX10_is : ByteArray := prog_12_method_14_code
def yX10_is : MethodName := ⟨RX10, "is", "(I)Z"⟩
abbrev cX10_fail : ByteArray := prog_12_method_15_code
def yX10_fail : MethodName := ⟨RX10, "fail", "(I)V"⟩
abbrev cX10_wrong : ByteArray := prog_12_method_16_code
def yX10_wrong : MethodName := ⟨RX10, "wrong", "(II)V"⟩
abbrev cX10_next : ByteArray := prog_12_method_17_code
def yX10_next : MethodName := ⟨RX10, "next", "()V"⟩
abbrev cX10_must : ByteArray := prog_12_method_18_code
def yX10_must : MethodName := ⟨RX10, "must", "(I)V"⟩
abbrev cX10_read : ByteArray := prog_12_method_19_code
def yX10_read : MethodName := ⟨RX10, "read", "(I)I"⟩
abbrev cX10_place : ByteArray := prog_12_method_20_code
def yX10_place : MethodName := ⟨RX10, "place", "()I"⟩
abbrev cX10_tellRule : ByteArray := prog_12_method_21_code
def yX10_tellRule : MethodName := ⟨RX10, "tellRule", "()V"⟩
abbrev cX10_literal : ByteArray := prog_12_method_22_code
def yX10_literal : MethodName := ⟨RX10, "literal", "(Z)V"⟩
abbrev cX10_emit : ByteArray := prog_12_method_23_code
def yX10_emit : MethodName := ⟨RX10, "emit", "(II)V"⟩
abbrev cX10_comesOut : ByteArray := prog_12_method_24_code
def yX10_comesOut : MethodName := ⟨RX10, "comesOut", "(Z)V"⟩
abbrev cX10_expression : ByteArray := prog_12_method_25_code
def yX10_expression : MethodName := ⟨RX10, "expression", "()V"⟩
abbrev cX10_isPerson : ByteArray := prog_12_method_26_code
def yX10_isPerson : MethodName := ⟨RX10, "isPerson", "(I)Z"⟩
abbrev cX10_isPiece : ByteArray := prog_12_method_27_code
def yX10_isPiece : MethodName := ⟨RX10, "isPiece", "(I)Z"⟩
abbrev cX10_isAsker : ByteArray := prog_12_method_28_code
def yX10_isAsker : MethodName := ⟨RX10, "isAsker", "(I)Z"⟩
abbrev cX10_isDay : ByteArray := prog_12_method_29_code
def yX10_isDay : MethodName := ⟨RX10, "isDay", "(I)Z"⟩
abbrev cX10_isFour : ByteArray := prog_12_method_30_code
def yX10_isFour : MethodName := ⟨RX10, "isFour", "(I)Z"⟩
abbrev cX10_person : ByteArray := prog_12_method_31_code
def yX10_person : MethodName := ⟨RX10, "person", "(IIII)I"⟩
abbrev cX10_topic : ByteArray := prog_12_method_32_code
def yX10_topic : MethodName := ⟨RX10, "topic", "(I)I"⟩
abbrev cX10_tape : ByteArray := prog_12_method_33_code
def yX10_tape : MethodName := ⟨RX10, "tape", "(III)I"⟩
abbrev cX10_piece : ByteArray := prog_12_method_34_code
def yX10_piece : MethodName := ⟨RX10, "piece", "(IIIIII)I"⟩
abbrev cX10_asker : ByteArray := prog_12_method_35_code
def yX10_asker : MethodName := ⟨RX10, "asker", "(I)I"⟩
abbrev cX10_copy : ByteArray := prog_12_method_36_code
def yX10_copy : MethodName := ⟨RX10, "copy", "(I)I"⟩
abbrev cX10_bound : ByteArray := prog_12_method_37_code
def yX10_bound : MethodName := ⟨RX10, "bound", "(I)Z"⟩
abbrev cX10_dies : ByteArray := prog_12_method_38_code
def yX10_dies : MethodName := ⟨RX10, "dies", "(II)Z"⟩
abbrev cX10_takes : ByteArray := prog_12_method_39_code
def yX10_takes : MethodName := ⟨RX10, "takes", "(II)Z"⟩
abbrev cX10_asks : ByteArray := prog_12_method_40_code
def yX10_asks : MethodName := ⟨RX10, "asks", "(IIII)V"⟩
abbrev cX10_value : ByteArray := prog_12_method_41_code
def yX10_value : MethodName := ⟨RX10, "value", "(II)I"⟩
abbrev cX10_isTrue : ByteArray := prog_12_method_42_code
def yX10_isTrue : MethodName := ⟨RX10, "isTrue", "(I)Z"⟩
abbrev cX10_holds : ByteArray := prog_12_method_43_code
def yX10_holds : MethodName := ⟨RX10, "holds", "(II)Z"⟩
abbrev cX10_letBy : ByteArray := prog_12_method_44_code
def yX10_letBy : MethodName := ⟨RX10, "letBy", "(IIII)I"⟩
abbrev cX10_maskBy : ByteArray := prog_12_method_45_code
def yX10_maskBy : MethodName := ⟨RX10, "maskBy", "(IIII)I"⟩
abbrev cX10_isAsked : ByteArray := prog_12_method_46_code
def yX10_isAsked : MethodName := ⟨RX10, "isAsked", "(IIII)Z"⟩
abbrev cX10_let : ByteArray := prog_12_method_47_code
def yX10_let : MethodName := ⟨RX10, "let", "(IIII)I"⟩
abbrev cX10_mask : ByteArray := prog_12_method_48_code
def yX10_mask : MethodName := ⟨RX10, "mask", "(IIII)I"⟩
abbrev cX10_opens : ByteArray := prog_12_method_49_code
def yX10_opens : MethodName := ⟨RX10, "opens", "(IIII)I"⟩
abbrev cX10_hasName : ByteArray := prog_12_method_50_code
def yX10_hasName : MethodName := ⟨RX10, "hasName", "(II)Z"⟩
abbrev cX10_traitsHeard : ByteArray := prog_12_method_51_code
def yX10_traitsHeard : MethodName := ⟨RX10, "traitsHeard", "(II)I"⟩
abbrev cX10_alike : ByteArray := prog_12_method_52_code
def yX10_alike : MethodName := ⟨RX10, "alike", "(II)I"⟩
abbrev cX10_isAsking : ByteArray := prog_12_method_53_code
def yX10_isAsking : MethodName := ⟨RX10, "isAsking", "(IIIII)Z"⟩
abbrev cX10_wouldGet : ByteArray := prog_12_method_54_code
def yX10_wouldGet : MethodName := ⟨RX10, "wouldGet", "(IIIII)I"⟩
abbrev cX10_would : ByteArray := prog_12_method_55_code
def yX10_would : MethodName := ⟨RX10, "would", "(IIIII)I"⟩
abbrev cX10_ask : ByteArray := prog_12_method_56_code
def yX10_ask : MethodName := ⟨RX10, "ask", "(IIIII)I"⟩
abbrev cX10_heard : ByteArray := prog_12_method_57_code
def yX10_heard : MethodName := ⟨RX10, "heard", "(II)I"⟩
abbrev cX10_could : ByteArray := prog_12_method_58_code
def yX10_could : MethodName := ⟨RX10, "could", "(II)I"⟩
abbrev cX10_seconds : ByteArray := prog_12_method_59_code
def yX10_seconds : MethodName := ⟨RX10, "seconds", "(II)I"⟩
abbrev cX10_at_ : ByteArray := prog_12_method_60_code
def yX10_at_ : MethodName := ⟨RX10, "at", "(II)I"⟩
abbrev cX10_isEvent : ByteArray := prog_12_method_61_code
def yX10_isEvent : MethodName := ⟨RX10, "isEvent", "(I)Z"⟩
abbrev cX10_telling : ByteArray := prog_12_method_62_code
def yX10_telling : MethodName := ⟨RX10, "telling", "(IIII)I"⟩
abbrev cX10_span : ByteArray := prog_12_method_63_code
def yX10_span : MethodName := ⟨RX10, "span", "(III)I"⟩
abbrev cX10_behind : ByteArray := prog_12_method_64_code
def yX10_behind : MethodName := ⟨RX10, "behind", "(III)I"⟩
abbrev cX10_same : ByteArray := prog_12_method_65_code
def yX10_same : MethodName := ⟨RX10, "same", "(II)I"⟩
abbrev cX10_pushes : ByteArray := prog_12_method_66_code
def yX10_pushes : MethodName := ⟨RX10, "pushes", "(III)V"⟩
abbrev cX10_agrees : ByteArray := prog_12_method_67_code
def yX10_agrees : MethodName := ⟨RX10, "agrees", "(II)Z"⟩
abbrev cX10_bits : ByteArray := prog_12_method_68_code
def yX10_bits : MethodName := ⟨RX10, "bits", "(I)I"⟩
abbrev cX10_leftOf : ByteArray := prog_12_method_69_code
def yX10_leftOf : MethodName := ⟨RX10, "leftOf", "(I)I"⟩
abbrev cX10_left : ByteArray := prog_12_method_70_code
def yX10_left : MethodName := ⟨RX10, "left", "(I)I"⟩
abbrev cX10_when : ByteArray := prog_12_method_71_code
def yX10_when : MethodName := ⟨RX10, "when", "(III)I"⟩
abbrev cX10_count : ByteArray := prog_12_method_72_code
def yX10_count : MethodName := ⟨RX10, "count", "(I)I"⟩
def RJ6 : String := "java/lang/Integer"
abbrev cJ6_bitCount_0f7a4 : ByteArray := prog_13_method_49_code
def yJ6_bitCount_0f7a4 : MethodName := ⟨RJ6, "bitCount", "(I)I"⟩
def RJ0 : String := "java/lang/String"
abbrev cJ0_length_8abf5 : ByteArray := prog_14_method_54_code
def yJ0_length_8abf5 : MethodName := ⟨RJ0, "length", "()I"⟩
abbrev cJ0_charAt_5068e : ByteArray := prog_14_method_56_code
def yJ0_charAt_5068e : MethodName := ⟨RJ0, "charAt", "(I)C"⟩
abbrev cJ0_coder_7d493 : ByteArray := prog_14_method_152_code
def yJ0_coder_7d493 : MethodName := ⟨RJ0, "coder", "()B"⟩
abbrev cJ0_isLatin1_aae02 : ByteArray := prog_14_method_154_code
def yJ0_isLatin1_aae02 : MethodName := ⟨RJ0, "isLatin1", "()Z"⟩
abbrev cJ0_checkIndex_df160 : ByteArray := prog_14_method_155_code
def yJ0_checkIndex_df160 : MethodName := ⟨RJ0, "checkIndex", "(II)V"⟩
def RJ1 : String := "java/lang/StringLatin1"
abbrev cJ1_charAt_3b067 : ByteArray := prog_15_method_2_code
def yJ1_charAt_3b067 : MethodName := ⟨RJ1, "charAt", "([BI)C"⟩
def RJ2 : String := "java/lang/StringUTF16"
abbrev cJ2_getChar_3b067 : ByteArray := prog_16_method_5_code
def yJ2_getChar_3b067 : MethodName := ⟨RJ2, "getChar", "([BI)C"⟩
abbrev cJ2_length_9d52b : ByteArray := prog_16_method_6_code
def yJ2_length_9d52b : MethodName := ⟨RJ2, "length", "([B)I"⟩
abbrev cJ2_charAt_3b067 : ByteArray := prog_16_method_83_code
def yJ2_charAt_3b067 : MethodName := ⟨RJ2, "charAt", "([BI)C"⟩
abbrev cJ2_checkIndex_2214a : ByteArray := prog_16_method_91_code
def yJ2_checkIndex_2214a : MethodName := ⟨RJ2, "checkIndex", "(I[B)V"⟩
def RJ7 : String := "java/util/Arrays"
abbrev cJ7_fill_53178 : ByteArray := prog_17_method_103_code
def yJ7_fill_53178 : MethodName := ⟨RJ7, "fill", "([II)V"⟩
abbrev cJ7_fill_031fb : ByteArray := prog_17_method_109_code
def yJ7_fill_031fb : MethodName := ⟨RJ7, "fill", "([BB)V"⟩
def RJ3 : String := "jdk/internal/util/Preconditions"
abbrev cJ3_checkIndex_8e157 : ByteArray := prog_18_method_11_code
def yJ3_checkIndex_8e157 : MethodName := ⟨RJ3, "checkIndex", "(IILjava/util/function/BiFunction;)I"⟩
def RL : String := "TapeHouseLaw"
abbrev cL_law : ByteArray := code
def yL_law : MethodName := ⟨RL, "law", "([I)Z"⟩
abbrev vwCl : List vw_C := [(RX0, TX0, 3), (RX1, TX1, 11), (RX2, TX2, 8), (RX3, TX3, 7), (RX4, TX4, 12), (RX5, TX5, 8), (RX6, TX6, 6), (RX7, TX7, 2), (RX8, TX8, 4), (RX9, TX9, 13), (RX10, TX10, 69)]
end
section
/-- class names by number: 0..10 the classes of vwCl, 11 the law, 12.. the JDK -/
def am_cn : Nat → String := fun k => match k with
  | 0 => RX0
  | 1 => RX1
  | 2 => RX2
  | 3 => RX3
  | 4 => RX4
  | 5 => RX5
  | 6 => RX6
  | 7 => RX7
  | 8 => RX8
  | 9 => RX9
  | 10 => RX10
  | 11 => RL
  | 12 => RJ0
  | 13 => RJ1
  | 14 => RJ2
  | 15 => RJ3
  | 18 => RJ6
  | _ => RJ7
/-- field links by the own class: index, nest mate, class, slot, place in lw_tbl -/
def am_ft0 : List (Nat × Bool × Nat × Nat × Nat) := [(9, false, 0, 0, 280), (15, false, 0, 1, 281), (19, false, 0, 2, 282)]
def am_ft1 : List (Nat × Bool × Nat × Nat × Nat) := [(9, false, 1, 0, 329), (15, false, 1, 1, 330), (19, false, 1, 2, 331), (22, false, 1, 3, 332), (25, false, 1, 4, 333), (29, false, 1, 5, 334), (32, false, 1, 6, 335), (35, false, 1, 7, 337), (39, false, 1, 8, 338), (42, false, 1, 9, 339), (45, false, 1, 10, 340), (70, true, 3, 2, 166), (75, true, 3, 3, 168)]
def am_ft2 : List (Nat × Bool × Nat × Nat × Nat) := [(9, false, 2, 0, 130), (31, true, 6, 3, 104), (35, true, 1, 7, 336), (46, true, 6, 4, 106), (49, false, 2, 7, 137), (52, false, 2, 6, 136), (55, false, 2, 1, 131), (58, false, 2, 2, 132), (61, false, 2, 3, 133), (64, false, 2, 4, 134), (67, false, 2, 5, 135), (103, true, 6, 5, 109)]
def am_ft3 : List (Nat × Bool × Nat × Nat × Nat) := [(9, false, 3, 0, 163), (15, false, 3, 1, 164), (18, false, 3, 2, 165), (28, false, 3, 5, 170), (32, false, 3, 6, 171), (35, false, 3, 4, 169), (63, false, 3, 3, 167)]
def am_ft4 : List (Nat × Bool × Nat × Nat × Nat) := [(9, false, 4, 0, 229), (15, false, 4, 1, 230), (18, false, 4, 2, 231), (21, false, 4, 4, 234), (24, false, 4, 5, 235), (27, false, 4, 6, 237), (30, false, 4, 7, 239), (33, false, 4, 8, 241), (36, false, 4, 9, 243), (39, false, 4, 10, 245), (42, false, 4, 11, 247), (50, false, 4, 3, 232)]
def am_ft5 : List (Nat × Bool × Nat × Nat × Nat) := [(9, false, 5, 0, 297), (15, false, 5, 1, 298), (18, false, 5, 2, 299), (21, false, 5, 3, 300), (24, false, 5, 4, 301), (27, false, 5, 5, 302), (30, false, 5, 6, 303), (33, false, 5, 7, 304)]
def am_ft6 : List (Nat × Bool × Nat × Nat × Nat) := [(9, false, 6, 0, 100), (15, false, 6, 1, 101), (23, false, 6, 2, 103), (30, false, 6, 4, 107), (33, false, 6, 5, 108), (36, false, 6, 3, 105)]
def am_ft7 : List (Nat × Bool × Nat × Nat × Nat) := [(9, false, 7, 0, 215), (15, false, 7, 1, 216)]
def am_ft8 : List (Nat × Bool × Nat × Nat × Nat) := [(9, false, 8, 0, 195), (15, false, 8, 1, 196), (20, false, 8, 2, 197), (24, false, 8, 3, 198)]
def am_ft9 : List (Nat × Bool × Nat × Nat × Nat) := [(12, false, 9, 0, 367), (19, false, 9, 1, 368), (26, false, 9, 2, 369), (33, false, 9, 3, 370), (40, false, 9, 4, 371), (47, false, 9, 5, 372), (54, false, 9, 6, 373), (61, false, 9, 7, 374), (65, false, 9, 8, 375), (69, false, 9, 10, 377), (73, false, 9, 11, 378), (79, false, 9, 12, 379), (95, true, 7, 1, 217), (102, true, 2, 7, 138), (137, false, 9, 9, 376), (158, true, 4, 8, 242), (190, true, 4, 11, 248), (193, true, 4, 7, 240), (198, true, 4, 6, 238), (201, true, 4, 5, 236), (204, true, 1, 10, 341), (230, true, 8, 3, 199), (231, true, 4, 3, 233), (234, true, 0, 2, 283), (235, true, 5, 7, 305), (236, true, 6, 1, 102), (257, true, 4, 10, 246), (266, true, 4, 9, 244)]
def am_ft10 : List (Nat × Bool × Nat × Nat × Nat) := [(13, false, 10, 1, 968), (17, false, 10, 3, 970), (20, false, 10, 5, 972), (24, false, 10, 6, 973), (27, false, 10, 7, 974), (30, false, 10, 8, 975), (34, false, 10, 9, 976), (37, false, 10, 17, 984), (40, false, 10, 18, 985), (43, false, 10, 20, 987), (46, false, 10, 21, 988), (49, false, 10, 22, 989), (52, false, 10, 23, 990), (55, false, 10, 24, 991), (58, false, 10, 25, 992), (61, false, 10, 26, 993), (64, false, 10, 27, 994), (67, false, 10, 28, 995), (70, false, 10, 29, 996), (74, false, 10, 31, 998), (77, false, 10, 32, 999), (80, false, 10, 33, 1000), (83, false, 10, 36, 1003), (86, false, 10, 37, 1004), (89, false, 10, 39, 1006), (92, false, 10, 41, 1008), (95, false, 10, 42, 1009), (98, false, 10, 43, 1010), (101, false, 10, 45, 1012), (104, false, 10, 46, 1013), (107, false, 10, 47, 1014), (110, false, 10, 48, 1015), (113, false, 10, 49, 1016), (116, false, 10, 50, 1017), (119, false, 10, 51, 1018), (122, false, 10, 53, 1020), (125, false, 10, 55, 1022), (128, false, 10, 57, 1024), (131, false, 10, 58, 1025), (134, false, 10, 60, 1027), (137, false, 10, 62, 1029), (140, false, 10, 63, 1030), (143, false, 10, 64, 1031), (146, false, 10, 65, 1032), (149, false, 10, 66, 1033), (152, false, 10, 67, 1034), (159, false, 10, 56, 1023), (162, false, 10, 2, 969), (169, false, 10, 4, 971), (178, false, 10, 10, 977), (200, false, 10, 13, 980), (203, false, 10, 11, 978), (206, false, 10, 14, 981), (209, false, 10, 15, 982), (212, false, 10, 16, 983), (230, false, 10, 12, 979), (233, false, 10, 19, 986), (236, false, 10, 30, 997), (249, false, 10, 38, 1005), (262, false, 10, 34, 1001), (268, false, 10, 35, 1002), (271, false, 10, 44, 1011), (274, false, 10, 52, 1019), (280, false, 10, 40, 1007), (286, false, 10, 54, 1021), (292, false, 10, 59, 1026), (341, false, 10, 61, 1028), (350, false, 10, 68, 1035)]
def am_ft11 : List (Nat × Bool × Nat × Nat × Nat) := []
def am_ft : Nat → List (Nat × Bool × Nat × Nat × Nat) := fun k => match k with
  | 0 => am_ft0
  | 1 => am_ft1
  | 2 => am_ft2
  | 3 => am_ft3
  | 4 => am_ft4
  | 5 => am_ft5
  | 6 => am_ft6
  | 7 => am_ft7
  | 8 => am_ft8
  | 9 => am_ft9
  | 10 => am_ft10
  | 11 => am_ft11
  | _ => []
def am_fc (oc : Nat) (e : Nat × Bool × Nat × Nat × Nat) (T : u_T) : Cond :=
  if e.2.1 = true then Cond.fieldLinkNest (am_cn oc) e.1 (T e.2.2.2.1).1 (T e.2.2.2.1).2.1 (T e.2.2.2.1).2.2.1 "TapeHouse" else Cond.fieldLink (am_cn oc) e.1 (T e.2.2.2.1).1 (T e.2.2.2.1).2.1 (T e.2.2.2.1).2.2.1
def am_fchk (oc : Nat) (e : Nat × Bool × Nat × Nat × Nat) : Bool := match vwCl[e.2.2.1]? with
  | some q => decide (e.2.2.2.1 < q.2.2) && decide (lw_tbl[e.2.2.2.2]? = some (am_fc oc e q.2.1))
  | none => false
theorem am_ft0_ok : am_ft0.all (am_fchk 0) = true := by decide +kernel
theorem am_ft1_ok : am_ft1.all (am_fchk 1) = true := by decide +kernel
theorem am_ft2_ok : am_ft2.all (am_fchk 2) = true := by decide +kernel
theorem am_ft3_ok : am_ft3.all (am_fchk 3) = true := by decide +kernel
theorem am_ft4_ok : am_ft4.all (am_fchk 4) = true := by decide +kernel
theorem am_ft5_ok : am_ft5.all (am_fchk 5) = true := by decide +kernel
theorem am_ft6_ok : am_ft6.all (am_fchk 6) = true := by decide +kernel
theorem am_ft7_ok : am_ft7.all (am_fchk 7) = true := by decide +kernel
theorem am_ft8_ok : am_ft8.all (am_fchk 8) = true := by decide +kernel
theorem am_ft9_ok : am_ft9.all (am_fchk 9) = true := by decide +kernel
theorem am_ft10_ok : am_ft10.all (am_fchk 10) = true := by decide +kernel
theorem am_ft11_ok : am_ft11.all (am_fchk 11) = true := by decide +kernel
theorem am_ft_ok (oc : Nat) : (am_ft oc).all (am_fchk oc) = true := by
  match oc with
  | 0 => exact am_ft0_ok
  | 1 => exact am_ft1_ok
  | 2 => exact am_ft2_ok
  | 3 => exact am_ft3_ok
  | 4 => exact am_ft4_ok
  | 5 => exact am_ft5_ok
  | 6 => exact am_ft6_ok
  | 7 => exact am_ft7_ok
  | 8 => exact am_ft8_ok
  | 9 => exact am_ft9_ok
  | 10 => exact am_ft10_ok
  | 11 => exact am_ft11_ok
  | n + 12 => rfl
/-- method data: own class, name, code, locals, answer, instructions -/
abbrev am_MD : Type := Nat × MethodName × ByteArray × Nat × Option FieldType × List (Nat × Instr × Nat)
theorem am_all2 {α : Type} {p : α → Bool} {a b : List α} (h1 : a.all p = true) (h2 : b.all p = true) : (a ++ b).all p = true := by rw [List.all_append, h1, h2]; rfl
end
section
abbrev IX0_init : List (Nat × Instr × Nat) := [(0, .aload_n 0, 1), (1, .invokespecial 3, 3), (4, .aload_n 0, 1), (5, .bipush 6, 2), (7, .newarray .int, 2), (9, .putfield 9, 3), (12, .aload_n 0, 1), (13, .sipush 180, 3), (16, .newarray .byte, 2), (18, .putfield 15, 3), (21, .return_, 1)]
theorem IX0_init_ok : IX0_init.all (fun e => decide (decode cX0_init e.1 = .ok e.2)) = true := by decide +kernel
abbrev MX0_init : am_MD := (0, yX0_init, cX0_init, 1, none, IX0_init)
abbrev IX0_add : List (Nat × Instr × Nat) := [(0, .aload_n 0, 1), (1, .getfield 19, 3), (4, .bipush 6, 2), (6, .if_icmp .lt 5, 3), (9, .iconst (-1), 1), (10, .ireturn, 1), (11, .aload_n 0, 1), (12, .getfield 9, 3), (15, .aload_n 0, 1), (16, .getfield 19, 3), (19, .iload_n 1, 1), (20, .iastore, 1), (21, .aload_n 0, 1), (22, .dup, 1), (23, .getfield 19, 3), (26, .iconst 1, 1), (27, .iadd, 1), (28, .putfield 19, 3), (31, .aload_n 0, 1), (32, .getfield 19, 3), (35, .iconst 1, 1), (36, .isub, 1), (37, .ireturn, 1)]
theorem IX0_add_ok : IX0_add.all (fun e => decide (decode cX0_add e.1 = .ok e.2)) = true := by decide +kernel
abbrev MX0_add : am_MD := (0, yX0_add, cX0_add, 2, (Option.some FieldType.int), IX0_add)
abbrev IX0_has : List (Nat × Instr × Nat) := [(0, .iload_n 1, 1), (1, .aload_n 0, 1), (2, .getfield 19, 3), (5, .invokestatic 23, 3), (8, .ireturn, 1)]
theorem IX0_has_ok : IX0_has.all (fun e => decide (decode cX0_has e.1 = .ok e.2)) = true := by decide +kernel
abbrev MX0_has : am_MD := (0, yX0_has, cX0_has, 2, (Option.some FieldType.boolean), IX0_has)
abbrev IX0_kindOf : List (Nat × Instr × Nat) := [(0, .aload_n 0, 1), (1, .iload_n 1, 1), (2, .invokevirtual 27, 3), (5, .ifCond .eq 12, 3), (8, .aload_n 0, 1), (9, .getfield 9, 3), (12, .iload_n 1, 1), (13, .iaload, 1), (14, .goto 4, 3), (17, .iconst (-1), 1), (18, .ireturn, 1)]
theorem IX0_kindOf_ok : IX0_kindOf.all (fun e => decide (decode cX0_kindOf e.1 = .ok e.2)) = true := by decide +kernel
abbrev MX0_kindOf : am_MD := (0, yX0_kindOf, cX0_kindOf, 2, (Option.some FieldType.int), IX0_kindOf)
abbrev IX0_wayOf : List (Nat × Instr × Nat) := [(0, .aload_n 0, 1), (1, .iload_n 1, 1), (2, .invokevirtual 27, 3), (5, .ifCond .eq 26, 3), (8, .iload_n 2, 1), (9, .bipush 30, 2), (11, .invokestatic 23, 3), (14, .ifCond .eq 17, 3), (17, .aload_n 0, 1), (18, .getfield 15, 3), (21, .iload_n 1, 1), (22, .bipush 30, 2), (24, .imul, 1), (25, .iload_n 2, 1), (26, .iadd, 1), (27, .baload, 1), (28, .goto 4, 3), (31, .iconst 0, 1), (32, .ireturn, 1)]
theorem IX0_wayOf_ok : IX0_wayOf.all (fun e => decide (decode cX0_wayOf e.1 = .ok e.2)) = true := by decide +kernel
abbrev MX0_wayOf : am_MD := (0, yX0_wayOf, cX0_wayOf, 3, (Option.some FieldType.int), IX0_wayOf)
abbrev IX0_hear : List (Nat × Instr × Nat) := [(0, .aload_n 0, 1), (1, .iload_n 1, 1), (2, .invokevirtual 27, 3), (5, .ifCond .eq 16, 3), (8, .iload_n 2, 1), (9, .bipush 30, 2), (11, .invokestatic 23, 3), (14, .ifCond .eq 7, 3), (17, .iconst 1, 1), (18, .goto 4, 3), (21, .iconst 0, 1), (22, .istore 4, 2), (24, .iload 4, 2), (26, .ifCond .eq 26, 3), (29, .aload_n 0, 1), (30, .iload_n 1, 1), (31, .iload_n 2, 1), (32, .invokevirtual 31, 3), (35, .iconst 2, 1), (36, .if_icmp .eq 16, 3), (39, .aload_n 0, 1), (40, .getfield 15, 3), (43, .iload_n 1, 1), (44, .bipush 30, 2), (46, .imul, 1), (47, .iload_n 2, 1), (48, .iadd, 1), (49, .iload_n 3, 1), (50, .i2b, 1), (51, .bastore, 1), (52, .return_, 1)]
theorem IX0_hear_ok : IX0_hear.all (fun e => decide (decode cX0_hear e.1 = .ok e.2)) = true := by decide +kernel
abbrev MX0_hear : am_MD := (0, yX0_hear, cX0_hear, 5, none, IX0_hear)
abbrev IX1_init : List (Nat × Instr × Nat) := [(0, .aload_n 0, 1), (1, .invokespecial 3, 3), (4, .aload_n 0, 1), (5, .bipush 16, 2), (7, .newarray .byte, 2), (9, .putfield 9, 3), (12, .aload_n 0, 1), (13, .bipush 16, 2), (15, .newarray .short, 2), (17, .putfield 15, 3), (20, .aload_n 0, 1), (21, .sipush 133, 3), (24, .newarray .byte, 2), (26, .putfield 19, 3), (29, .aload_n 0, 1), (30, .sipush 133, 3), (33, .newarray .short, 2), (35, .putfield 22, 3), (38, .aload_n 0, 1), (39, .sipush 133, 3), (42, .newarray .boolean, 2), (44, .putfield 25, 3), (47, .aload_n 0, 1), (48, .sipush 133, 3), (51, .newarray .boolean, 2), (53, .putfield 29, 3), (56, .aload_n 0, 1), (57, .sipush 400, 3), (60, .newarray .short, 2), (62, .putfield 32, 3), (65, .return_, 1)]
theorem IX1_init_ok : IX1_init.all (fun e => decide (decode cX1_init e.1 = .ok e.2)) = true := by decide +kernel
abbrev MX1_init : am_MD := (1, yX1_init, cX1_init, 1, none, IX1_init)
abbrev IX1_clear : List (Nat × Instr × Nat) := [(0, .aload_n 0, 1), (1, .iconst 0, 1), (2, .putfield 35, 3), (5, .aload_n 0, 1), (6, .iconst 0, 1), (7, .putfield 39, 3), (10, .aload_n 0, 1), (11, .iconst 0, 1), (12, .putfield 42, 3), (15, .aload_n 0, 1), (16, .iconst 0, 1), (17, .putfield 45, 3), (20, .return_, 1)]
theorem IX1_clear_ok : IX1_clear.all (fun e => decide (decode cX1_clear e.1 = .ok e.2)) = true := by decide +kernel
abbrev MX1_clear : am_MD := (1, yX1_clear, cX1_clear, 1, none, IX1_clear)
abbrev IX1_addRule : List (Nat × Instr × Nat) := [(0, .aload_n 0, 1), (1, .getfield 35, 3), (4, .bipush 16, 2), (6, .if_icmp .ge 38, 3), (9, .aload_n 0, 1), (10, .getfield 9, 3), (13, .aload_n 0, 1), (14, .getfield 35, 3), (17, .iload_n 1, 1), (18, .i2b, 1), (19, .bastore, 1), (20, .aload_n 0, 1), (21, .getfield 15, 3), (24, .aload_n 0, 1), (25, .getfield 35, 3), (28, .aload_n 0, 1), (29, .getfield 39, 3), (32, .i2s, 1), (33, .sastore, 1), (34, .aload_n 0, 1), (35, .dup, 1), (36, .getfield 35, 3), (39, .iconst 1, 1), (40, .iadd, 1), (41, .putfield 35, 3), (44, .return_, 1)]
theorem IX1_addRule_ok : IX1_addRule.all (fun e => decide (decode cX1_addRule e.1 = .ok e.2)) = true := by decide +kernel
abbrev MX1_addRule : am_MD := (1, yX1_addRule, cX1_addRule, 2, none, IX1_addRule)
abbrev IX1_addCell : List (Nat × Instr × Nat) := [(0, .aload_n 0, 1), (1, .getfield 42, 3), (4, .sipush 400, 3), (7, .if_icmp .ge 24, 3), (10, .aload_n 0, 1), (11, .getfield 32, 3), (14, .aload_n 0, 1), (15, .getfield 42, 3), (18, .iload_n 1, 1), (19, .i2s, 1), (20, .sastore, 1), (21, .aload_n 0, 1), (22, .dup, 1), (23, .getfield 42, 3), (26, .iconst 1, 1), (27, .iadd, 1), (28, .putfield 42, 3), (31, .return_, 1)]
theorem IX1_addCell_ok : IX1_addCell.all (fun e => decide (decode cX1_addCell e.1 = .ok e.2)) = true := by decide +kernel
abbrev MX1_addCell : am_MD := (1, yX1_addCell, cX1_addCell, 2, none, IX1_addCell)
abbrev IX1_addLiteral : List (Nat × Instr × Nat) := [(0, .aload_n 0, 1), (1, .getfield 35, 3), (4, .iconst 1, 1), (5, .if_icmp .lt 22, 3), (8, .aload_n 0, 1), (9, .getfield 35, 3), (12, .bipush 16, 2), (14, .if_icmp .gt 13, 3), (17, .aload_n 0, 1), (18, .getfield 39, 3), (21, .sipush 133, 3), (24, .if_icmp .lt 4, 3), (27, .return_, 1), (28, .aload_n 0, 1), (29, .getfield 19, 3), (32, .aload_n 0, 1), (33, .getfield 39, 3), (36, .iload_n 1, 1), (37, .i2b, 1), (38, .bastore, 1), (39, .aload_n 0, 1), (40, .getfield 25, 3), (43, .aload_n 0, 1), (44, .getfield 39, 3), (47, .iload_n 2, 1), (48, .bastore, 1), (49, .aload_n 0, 1), (50, .getfield 22, 3), (53, .aload_n 0, 1), (54, .getfield 39, 3), (57, .aload_n 0, 1), (58, .getfield 42, 3), (61, .i2s, 1), (62, .sastore, 1), (63, .aload_n 0, 1), (64, .getfield 29, 3), (67, .aload_n 0, 1), (68, .getfield 39, 3), (71, .aload_n 0, 1), (72, .aload_n 0, 1), (73, .aload_n 0, 1), (74, .getfield 39, 3), (77, .invokevirtual 49, 3), (80, .aload_n 0, 1), (81, .getfield 42, 3), (84, .invokevirtual 53, 3), (87, .bastore, 1), (88, .aload_n 0, 1), (89, .aload_n 0, 1), (90, .getfield 45, 3), (93, .ifCond .ne 30, 3), (96, .aload_n 0, 1), (97, .getfield 29, 3), (100, .aload_n 0, 1), (101, .getfield 39, 3), (104, .baload, 1), (105, .ifCond .eq 22, 3), (108, .aload_n 0, 1), (109, .getfield 9, 3), (112, .aload_n 0, 1), (113, .getfield 35, 3), (116, .iconst 1, 1), (117, .isub, 1), (118, .baload, 1), (119, .iconst 2, 1), (120, .if_icmp .eq 7, 3), (123, .iconst 1, 1), (124, .goto 4, 3), (127, .iconst 0, 1), (128, .putfield 45, 3), (131, .aload_n 0, 1), (132, .dup, 1), (133, .getfield 39, 3), (136, .iconst 1, 1), (137, .iadd, 1), (138, .putfield 39, 3), (141, .aload_n 0, 1), (142, .getfield 15, 3), (145, .aload_n 0, 1), (146, .getfield 35, 3), (149, .iconst 1, 1), (150, .isub, 1), (151, .aload_n 0, 1), (152, .getfield 39, 3), (155, .i2s, 1), (156, .sastore, 1), (157, .return_, 1)]
theorem IX1_addLiteral_ok : IX1_addLiteral.all (fun e => decide (decode cX1_addLiteral e.1 = .ok e.2)) = true := by decide +kernel
abbrev MX1_addLiteral : am_MD := (1, yX1_addLiteral, cX1_addLiteral, 3, none, IX1_addLiteral)
abbrev IX1_firstCell : List (Nat × Instr × Nat) := [(0, .iload_n 1, 1), (1, .ifCond .le 21, 3), (4, .iload_n 1, 1), (5, .sipush 133, 3), (8, .if_icmp .gt 14, 3), (11, .aload_n 0, 1), (12, .getfield 22, 3), (15, .iload_n 1, 1), (16, .iconst 1, 1), (17, .isub, 1), (18, .saload, 1), (19, .goto 4, 3), (22, .iconst 0, 1), (23, .ireturn, 1)]
theorem IX1_firstCell_ok : IX1_firstCell.all (fun e => decide (decode cX1_firstCell e.1 = .ok e.2)) = true := by decide +kernel
abbrev MX1_firstCell : am_MD := (1, yX1_firstCell, cX1_firstCell, 2, (Option.some FieldType.int), IX1_firstCell)
abbrev IX1_hasDay : List (Nat × Instr × Nat) := [(0, .iload_n 1, 1), (1, .istore_n 3, 1), (2, .iload_n 3, 1), (3, .iload_n 2, 1), (4, .if_icmp .ge 39, 3), (7, .aload_n 0, 1), (8, .getfield 32, 3), (11, .iload_n 3, 1), (12, .saload, 1), (13, .bipush 9, 2), (15, .invokestatic 57, 3), (18, .if_icmp .eq 17, 3), (21, .aload_n 0, 1), (22, .getfield 32, 3), (25, .iload_n 3, 1), (26, .saload, 1), (27, .bipush 10, 2), (29, .invokestatic 57, 3), (32, .if_icmp .ne 5, 3), (35, .iconst 1, 1), (36, .ireturn, 1), (37, .iinc 3 1, 3), (40, .goto (-38), 3), (43, .iconst 0, 1), (44, .ireturn, 1)]
theorem IX1_hasDay_ok : IX1_hasDay.all (fun e => decide (decode cX1_hasDay e.1 = .ok e.2)) = true := by decide +kernel
abbrev MX1_hasDay : am_MD := (1, yX1_hasDay, cX1_hasDay, 4, (Option.some FieldType.boolean), IX1_hasDay)
abbrev IX1_codeOf : List (Nat × Instr × Nat) := [(0, .sipush 10000, 3), (3, .iload_n 0, 1), (4, .iadd, 1), (5, .ireturn, 1)]
theorem IX1_codeOf_ok : IX1_codeOf.all (fun e => decide (decode cX1_codeOf e.1 = .ok e.2)) = true := by decide +kernel
abbrev MX1_codeOf : am_MD := (1, yX1_codeOf, cX1_codeOf, 1, (Option.some FieldType.int), IX1_codeOf)
abbrev IX1_letBy : List (Nat × Instr × Nat) := [(0, .iconst 0, 1), (1, .istore_n 2, 1), (2, .iload_n 2, 1), (3, .aload_n 0, 1), (4, .getfield 35, 3), (7, .if_icmp .ge 44, 3), (10, .aload_n 0, 1), (11, .getfield 9, 3), (14, .iload_n 2, 1), (15, .baload, 1), (16, .iconst 2, 1), (17, .if_icmp .eq 28, 3), (20, .aload_n 0, 1), (21, .iload_n 2, 1), (22, .aload_n 1, 1), (23, .invokevirtual 60, 3), (26, .ifCond .eq 19, 3), (29, .aload_n 0, 1), (30, .getfield 9, 3), (33, .iload_n 2, 1), (34, .baload, 1), (35, .ifCond .ne 7, 3), (38, .iload_n 2, 1), (39, .goto 5, 3), (42, .bipush (-2), 2), (44, .ireturn, 1), (45, .iinc 2 1, 3), (48, .goto (-46), 3), (51, .bipush (-3), 2), (53, .ireturn, 1)]
theorem IX1_letBy_ok : IX1_letBy.all (fun e => decide (decode cX1_letBy e.1 = .ok e.2)) = true := by decide +kernel
abbrev MX1_letBy : am_MD := (1, yX1_letBy, cX1_letBy, 3, (Option.some FieldType.int), IX1_letBy)
abbrev IX1_holds : List (Nat × Instr × Nat) := [(0, .iload_n 1, 1), (1, .ifCond .le 14, 3), (4, .aload_n 0, 1), (5, .getfield 15, 3), (8, .iload_n 1, 1), (9, .iconst 1, 1), (10, .isub, 1), (11, .saload, 1), (12, .goto 4, 3), (15, .iconst 0, 1), (16, .istore_n 3, 1), (17, .iconst 1, 1), (18, .istore 4, 2), (20, .iload_n 3, 1), (21, .istore 5, 2), (23, .iload 5, 2), (25, .aload_n 0, 1), (26, .getfield 15, 3), (29, .iload_n 1, 1), (30, .saload, 1), (31, .if_icmp .ge 57, 3), (34, .aload_n 0, 1), (35, .getfield 25, 3), (38, .iload 5, 2), (40, .baload, 1), (41, .ifCond .eq 19, 3), (44, .iload 5, 2), (46, .iload_n 3, 1), (47, .if_icmp .le 13, 3), (50, .iload 4, 2), (52, .ifCond .eq 5, 3), (55, .iconst 1, 1), (56, .ireturn, 1), (57, .iconst 1, 1), (58, .istore 4, 2), (60, .iload 4, 2), (62, .ifCond .eq 17, 3), (65, .aload_n 0, 1), (66, .iload 5, 2), (68, .aload_n 2, 1), (69, .invokevirtual 64, 3), (72, .ifCond .eq 7, 3), (75, .iconst 1, 1), (76, .goto 4, 3), (79, .iconst 0, 1), (80, .istore 4, 2), (82, .iinc 5 1, 3), (85, .goto (-62), 3), (88, .iload 4, 2), (90, .ireturn, 1)]
theorem IX1_holds_ok : IX1_holds.all (fun e => decide (decode cX1_holds e.1 = .ok e.2)) = true := by decide +kernel
abbrev MX1_holds : am_MD := (1, yX1_holds, cX1_holds, 6, (Option.some FieldType.boolean), IX1_holds)
abbrev IX1_literalHolds : List (Nat × Instr × Nat) := [(0, .aload_n 0, 1), (1, .getfield 29, 3), (4, .iload_n 1, 1), (5, .baload, 1), (6, .ifCond .eq 10, 3), (9, .aload_n 0, 1), (10, .iload_n 1, 1), (11, .aload_n 2, 1), (12, .invokevirtual 67, 3), (15, .ireturn, 1), (16, .aload_n 2, 1), (17, .getfield 70, 3), (20, .iload_n 1, 1), (21, .baload, 1), (22, .ifCond .ne 26, 3), (25, .aload_n 0, 1), (26, .iload_n 1, 1), (27, .aload_n 2, 1), (28, .invokevirtual 67, 3), (31, .ifCond .eq 7, 3), (34, .iconst 2, 1), (35, .goto 4, 3), (38, .iconst 1, 1), (39, .istore_n 3, 1), (40, .aload_n 2, 1), (41, .getfield 70, 3), (44, .iload_n 1, 1), (45, .iload_n 3, 1), (46, .i2b, 1), (47, .bastore, 1), (48, .aload_n 2, 1), (49, .getfield 70, 3), (52, .iload_n 1, 1), (53, .baload, 1), (54, .iconst 2, 1), (55, .if_icmp .ne 7, 3), (58, .iconst 1, 1), (59, .goto 4, 3), (62, .iconst 0, 1), (63, .ireturn, 1)]
theorem IX1_literalHolds_ok : IX1_literalHolds.all (fun e => decide (decode cX1_literalHolds e.1 = .ok e.2)) = true := by decide +kernel
abbrev MX1_literalHolds : am_MD := (1, yX1_literalHolds, cX1_literalHolds, 4, (Option.some FieldType.boolean), IX1_literalHolds)
abbrev IX1_testHolds : List (Nat × Instr × Nat) := [(0, .aload_n 2, 1), (1, .iconst 0, 1), (2, .putfield 75, 3), (5, .aload_n 0, 1), (6, .iload_n 1, 1), (7, .invokevirtual 49, 3), (10, .istore_n 3, 1), (11, .iload_n 3, 1), (12, .aload_n 0, 1), (13, .getfield 22, 3), (16, .iload_n 1, 1), (17, .saload, 1), (18, .if_icmp .ge 19, 3), (21, .aload_n 2, 1), (22, .aload_n 0, 1), (23, .getfield 32, 3), (26, .iload_n 3, 1), (27, .saload, 1), (28, .invokevirtual 78, 3), (31, .iinc 3 1, 3), (34, .goto (-23), 3), (37, .aload_n 2, 1), (38, .invokevirtual 82, 3), (41, .istore_n 3, 1), (42, .aload_n 0, 1), (43, .getfield 19, 3), (46, .iload_n 1, 1), (47, .baload, 1), (48, .bipush 6, 2), (50, .if_icmp .ne 9, 3), (53, .aload_n 2, 1), (54, .iload_n 3, 1), (55, .invokevirtual 86, 3), (58, .ireturn, 1), (59, .aload_n 2, 1), (60, .invokevirtual 82, 3), (63, .istore 4, 2), (65, .aload_n 0, 1), (66, .getfield 19, 3), (69, .iload_n 1, 1), (70, .baload, 1), (71, .tableswitch 61 20 22 #[25, 37, 49], 25), (96, .iload 4, 2), (98, .iload_n 3, 1), (99, .if_icmp .ne 7, 3), (102, .iconst 1, 1), (103, .goto 4, 3), (106, .iconst 0, 1), (107, .ireturn, 1), (108, .iload 4, 2), (110, .iload_n 3, 1), (111, .if_icmp .eq 7, 3), (114, .iconst 1, 1), (115, .goto 4, 3), (118, .iconst 0, 1), (119, .ireturn, 1), (120, .iload 4, 2), (122, .iload_n 3, 1), (123, .if_icmp .ge 7, 3), (126, .iconst 1, 1), (127, .goto 4, 3), (130, .iconst 0, 1), (131, .ireturn, 1), (132, .iload 4, 2), (134, .iload_n 3, 1), (135, .if_icmp .gt 7, 3), (138, .iconst 1, 1), (139, .goto 4, 3), (142, .iconst 0, 1), (143, .ireturn, 1)]
theorem IX1_testHolds_ok : IX1_testHolds.all (fun e => decide (decode cX1_testHolds e.1 = .ok e.2)) = true := by decide +kernel
abbrev MX1_testHolds : am_MD := (1, yX1_testHolds, cX1_testHolds, 5, (Option.some FieldType.boolean), IX1_testHolds)
abbrev IX1_maskedBy : List (Nat × Instr × Nat) := [(0, .iconst 0, 1), (1, .istore_n 2, 1), (2, .iload_n 2, 1), (3, .aload_n 0, 1), (4, .getfield 35, 3), (7, .if_icmp .ge 30, 3), (10, .aload_n 0, 1), (11, .getfield 9, 3), (14, .iload_n 2, 1), (15, .baload, 1), (16, .iconst 2, 1), (17, .if_icmp .ne 14, 3), (20, .aload_n 0, 1), (21, .iload_n 2, 1), (22, .aload_n 1, 1), (23, .invokevirtual 60, 3), (26, .ifCond .eq 5, 3), (29, .iload_n 2, 1), (30, .ireturn, 1), (31, .iinc 2 1, 3), (34, .goto (-32), 3), (37, .iconst (-1), 1), (38, .ireturn, 1)]
theorem IX1_maskedBy_ok : IX1_maskedBy.all (fun e => decide (decode cX1_maskedBy e.1 = .ok e.2)) = true := by decide +kernel
abbrev MX1_maskedBy : am_MD := (1, yX1_maskedBy, cX1_maskedBy, 3, (Option.some FieldType.int), IX1_maskedBy)
abbrev IX2_init : List (Nat × Instr × Nat) := [(0, .aload_n 0, 1), (1, .invokespecial 3, 3), (4, .aload_n 0, 1), (5, .bipush 21, 2), (7, .newarray .int, 2), (9, .putfield 9, 3), (12, .return_, 1)]
theorem IX2_init_ok : IX2_init.all (fun e => decide (decode cX2_init e.1 = .ok e.2)) = true := by decide +kernel
abbrev MX2_init : am_MD := (2, yX2_init, cX2_init, 1, none, IX2_init)
abbrev IX2_parse : List (Nat × Instr × Nat) := [(0, .aload_n 0, 1), (1, .invokevirtual 15, 3), (4, .aload_n 1, 1), (5, .invokevirtual 18, 3), (8, .aload_n 2, 1), (9, .invokevirtual 23, 3), (12, .iconst 0, 1), (13, .istore 4, 2), (15, .iconst 1, 1), (16, .istore 5, 2), (18, .iconst 0, 1), (19, .istore 6, 2), (21, .iload 5, 2), (23, .ifCond .eq 70, 3), (26, .iload 6, 2), (28, .sipush 400, 3), (31, .if_icmp .gt 62, 3), (34, .aload_n 1, 1), (35, .invokevirtual 28, 3), (38, .aload_n 0, 1), (39, .aload_n 1, 1), (40, .getfield 31, 3), (43, .iload 6, 2), (45, .aload_n 2, 1), (46, .getfield 35, 3), (49, .invokevirtual 38, 3), (52, .istore 4, 2), (54, .iload 4, 2), (56, .ifCond .ne 16, 3), (59, .aload_n 1, 1), (60, .getfield 31, 3), (63, .bipush 26, 2), (65, .if_icmp .eq 7, 3), (68, .iconst 1, 1), (69, .goto 4, 3), (72, .iconst 0, 1), (73, .istore 5, 2), (75, .iload 5, 2), (77, .ifCond .eq 10, 3), (80, .aload_n 0, 1), (81, .aload_n 1, 1), (82, .aload_n 2, 1), (83, .iload_n 3, 1), (84, .invokevirtual 42, 3), (87, .iinc 6 1, 3), (90, .goto (-69), 3), (93, .iload 4, 2), (95, .ifCond .eq 14, 3), (98, .aload_n 0, 1), (99, .aload_n 1, 1), (100, .getfield 46, 3), (103, .putfield 49, 3), (106, .goto 22, 3), (109, .aload_n 0, 1), (110, .getfield 52, 3), (113, .iconst (-1), 1), (114, .if_icmp .eq 14, 3), (117, .iconst 4, 1), (118, .istore 4, 2), (120, .aload_n 0, 1), (121, .aload_n 0, 1), (122, .getfield 52, 3), (125, .putfield 49, 3), (128, .iload 4, 2), (130, .ireturn, 1)]
theorem IX2_parse_ok : IX2_parse.all (fun e => decide (decode cX2_parse e.1 = .ok e.2)) = true := by decide +kernel
abbrev MX2_parse : am_MD := (2, yX2_parse, cX2_parse, 7, (Option.some FieldType.int), IX2_parse)
abbrev IX2_begin : List (Nat × Instr × Nat) := [(0, .aload_n 0, 1), (1, .iconst 0, 1), (2, .putfield 55, 3), (5, .aload_n 0, 1), (6, .iconst 0, 1), (7, .putfield 58, 3), (10, .aload_n 0, 1), (11, .iconst 0, 1), (12, .putfield 61, 3), (15, .aload_n 0, 1), (16, .iconst (-1), 1), (17, .putfield 64, 3), (20, .aload_n 0, 1), (21, .iconst 1, 1), (22, .putfield 67, 3), (25, .aload_n 0, 1), (26, .iconst (-1), 1), (27, .putfield 52, 3), (30, .aload_n 0, 1), (31, .iconst (-1), 1), (32, .putfield 49, 3), (35, .return_, 1)]
theorem IX2_begin_ok : IX2_begin.all (fun e => decide (decode cX2_begin e.1 = .ok e.2)) = true := by decide +kernel
abbrev MX2_begin : am_MD := (2, yX2_begin, cX2_begin, 1, none, IX2_begin)
abbrev IX2_faultOf : List (Nat × Instr × Nat) := [(0, .aload_n 0, 1), (1, .iload_n 1, 1), (2, .invokevirtual 71, 3), (5, .ifCond .ne 5, 3), (8, .iconst 1, 1), (9, .ireturn, 1), (10, .iload_n 1, 1), (11, .bipush 26, 2), (13, .if_icmp .eq 14, 3), (16, .iload_n 2, 1), (17, .sipush 400, 3), (20, .if_icmp .lt 7, 3), (23, .iconst 1, 1), (24, .goto 4, 3), (27, .iconst 0, 1), (28, .istore 4, 2), (30, .iload_n 1, 1), (31, .invokestatic 75, 3), (34, .ifCond .eq 13, 3), (37, .iload_n 3, 1), (38, .bipush 16, 2), (40, .if_icmp .lt 7, 3), (43, .iconst 1, 1), (44, .goto 4, 3), (47, .iconst 0, 1), (48, .istore 5, 2), (50, .iload_n 1, 1), (51, .bipush 24, 2), (53, .if_icmp .ne 16, 3), (56, .aload_n 0, 1), (57, .getfield 58, 3), (60, .bipush 6, 2), (62, .if_icmp .lt 7, 3), (65, .iconst 1, 1), (66, .goto 4, 3), (69, .iconst 0, 1), (70, .istore 6, 2), (72, .iload 4, 2), (74, .ifCond .ne 13, 3), (77, .iload 5, 2), (79, .ifCond .ne 8, 3), (82, .iload 6, 2), (84, .ifCond .eq 7, 3), (87, .iconst 2, 1), (88, .goto 4, 3), (91, .iconst 0, 1), (92, .ireturn, 1)]
theorem IX2_faultOf_ok : IX2_faultOf.all (fun e => decide (decode cX2_faultOf e.1 = .ok e.2)) = true := by decide +kernel
abbrev MX2_faultOf : am_MD := (2, yX2_faultOf, cX2_faultOf, 7, (Option.some FieldType.int), IX2_faultOf)
abbrev IX2_goesOn : List (Nat × Instr × Nat) := [(0, .aload_n 0, 1), (1, .getfield 61, 3), (4, .tableswitch 117 0 5 #[40, 59, 76, 95, 107, 112], 40), (44, .iload_n 1, 1), (45, .invokestatic 75, 3), (48, .ifCond .ne 9, 3), (51, .iload_n 1, 1), (52, .bipush 26, 2), (54, .if_icmp .ne 7, 3), (57, .iconst 1, 1), (58, .goto 4, 3), (61, .iconst 0, 1), (62, .ireturn, 1), (63, .iload_n 1, 1), (64, .iconst 3, 1), (65, .if_icmp .eq 9, 3), (68, .iload_n 1, 1), (69, .bipush 16, 2), (71, .if_icmp .ne 7, 3), (74, .iconst 1, 1), (75, .goto 4, 3), (78, .iconst 0, 1), (79, .ireturn, 1), (80, .iload_n 1, 1), (81, .bipush 6, 2), (83, .if_icmp .eq 10, 3), (86, .iload_n 1, 1), (87, .invokestatic 78, 3), (90, .ifCond .eq 7, 3), (93, .iconst 1, 1), (94, .goto 4, 3), (97, .iconst 0, 1), (98, .ireturn, 1), (99, .iload_n 1, 1), (100, .bipush 15, 2), (102, .if_icmp .ne 7, 3), (105, .iconst 1, 1), (106, .goto 4, 3), (109, .iconst 0, 1), (110, .ireturn, 1), (111, .iload_n 1, 1), (112, .invokestatic 81, 3), (115, .ireturn, 1), (116, .iload_n 1, 1), (117, .invokestatic 78, 3), (120, .ireturn, 1), (121, .iload_n 1, 1), (122, .invokestatic 84, 3), (125, .ifCond .ne 11, 3), (128, .aload_n 0, 1), (129, .iload_n 1, 1), (130, .invokevirtual 87, 3), (133, .ifCond .eq 7, 3), (136, .iconst 1, 1), (137, .goto 4, 3), (140, .iconst 0, 1), (141, .ireturn, 1)]
theorem IX2_goesOn_ok : IX2_goesOn.all (fun e => decide (decode cX2_goesOn e.1 = .ok e.2)) = true := by decide +kernel
abbrev MX2_goesOn : am_MD := (2, yX2_goesOn, cX2_goesOn, 2, (Option.some FieldType.boolean), IX2_goesOn)
abbrev IX2_isHead : List (Nat × Instr × Nat) := [(0, .iload_n 0, 1), (1, .ifCond .eq 13, 3), (4, .iload_n 0, 1), (5, .iconst 1, 1), (6, .if_icmp .eq 8, 3), (9, .iload_n 0, 1), (10, .iconst 2, 1), (11, .if_icmp .ne 7, 3), (14, .iconst 1, 1), (15, .goto 4, 3), (18, .iconst 0, 1), (19, .ireturn, 1)]
theorem IX2_isHead_ok : IX2_isHead.all (fun e => decide (decode cX2_isHead e.1 = .ok e.2)) = true := by decide +kernel
abbrev MX2_isHead : am_MD := (2, yX2_isHead, cX2_isHead, 1, (Option.some FieldType.boolean), IX2_isHead)
abbrev IX2_startsUnit : List (Nat × Instr × Nat) := [(0, .iload_n 0, 1), (1, .bipush 15, 2), (3, .if_icmp .eq 16, 3), (6, .iload_n 0, 1), (7, .bipush 24, 2), (9, .if_icmp .eq 10, 3), (12, .iload_n 0, 1), (13, .invokestatic 93, 3), (16, .ifCond .eq 7, 3), (19, .iconst 1, 1), (20, .goto 4, 3), (23, .iconst 0, 1), (24, .ireturn, 1)]
theorem IX2_startsUnit_ok : IX2_startsUnit.all (fun e => decide (decode cX2_startsUnit e.1 = .ok e.2)) = true := by decide +kernel
abbrev MX2_startsUnit : am_MD := (2, yX2_startsUnit, cX2_startsUnit, 1, (Option.some FieldType.boolean), IX2_startsUnit)
abbrev IX2_endsLiteral : List (Nat × Instr × Nat) := [(0, .iload_n 0, 1), (1, .iconst 5, 1), (2, .if_icmp .eq 14, 3), (5, .iload_n 0, 1), (6, .iconst 4, 1), (7, .if_icmp .eq 9, 3), (10, .iload_n 0, 1), (11, .bipush 16, 2), (13, .if_icmp .ne 7, 3), (16, .iconst 1, 1), (17, .goto 4, 3), (20, .iconst 0, 1), (21, .ireturn, 1)]
theorem IX2_endsLiteral_ok : IX2_endsLiteral.all (fun e => decide (decode cX2_endsLiteral e.1 = .ok e.2)) = true := by decide +kernel
abbrev MX2_endsLiteral : am_MD := (2, yX2_endsLiteral, cX2_endsLiteral, 1, (Option.some FieldType.boolean), IX2_endsLiteral)
abbrev IX2_endsSide : List (Nat × Instr × Nat) := [(0, .aload_n 0, 1), (1, .getfield 58, 3), (4, .ifCond .le 15, 3), (7, .iload_n 1, 1), (8, .bipush 25, 2), (10, .if_icmp .ne 7, 3), (13, .iconst 1, 1), (14, .goto 4, 3), (17, .iconst 0, 1), (18, .ireturn, 1), (19, .aload_n 0, 1), (20, .getfield 64, 3), (23, .iconst (-1), 1), (24, .if_icmp .ne 10, 3), (27, .iload_n 1, 1), (28, .invokestatic 90, 3), (31, .goto 7, 3), (34, .iload_n 1, 1), (35, .invokestatic 81, 3), (38, .ireturn, 1)]
theorem IX2_endsSide_ok : IX2_endsSide.all (fun e => decide (decode cX2_endsSide e.1 = .ok e.2)) = true := by decide +kernel
abbrev MX2_endsSide : am_MD := (2, yX2_endsSide, cX2_endsSide, 2, (Option.some FieldType.boolean), IX2_endsSide)
abbrev IX2_isComparison : List (Nat × Instr × Nat) := [(0, .iload_n 0, 1), (1, .bipush 20, 2), (3, .if_icmp .lt 13, 3), (6, .iload_n 0, 1), (7, .bipush 23, 2), (9, .if_icmp .gt 7, 3), (12, .iconst 1, 1), (13, .goto 4, 3), (16, .iconst 0, 1), (17, .ireturn, 1)]
theorem IX2_isComparison_ok : IX2_isComparison.all (fun e => decide (decode cX2_isComparison e.1 = .ok e.2)) = true := by decide +kernel
abbrev MX2_isComparison : am_MD := (2, yX2_isComparison, cX2_isComparison, 1, (Option.some FieldType.boolean), IX2_isComparison)
abbrev IX2_take : List (Nat × Instr × Nat) := [(0, .aload_n 1, 1), (1, .getfield 31, 3), (4, .istore 4, 2), (6, .iload 4, 2), (8, .invokestatic 75, 3), (11, .ifCond .eq 17, 3), (14, .aload_n 2, 1), (15, .iload 4, 2), (17, .invokevirtual 96, 3), (20, .aload_n 0, 1), (21, .iconst 1, 1), (22, .putfield 61, 3), (25, .goto 203, 3), (28, .iload 4, 2), (30, .iconst 3, 1), (31, .if_icmp .ne 16, 3), (34, .aload_n 0, 1), (35, .iconst 1, 1), (36, .putfield 67, 3), (39, .aload_n 0, 1), (40, .iconst 2, 1), (41, .putfield 61, 3), (44, .goto 184, 3), (47, .iload 4, 2), (49, .bipush 6, 2), (51, .if_icmp .ne 11, 3), (54, .aload_n 0, 1), (55, .iconst 3, 1), (56, .putfield 61, 3), (59, .goto 169, 3), (62, .aload_n 0, 1), (63, .getfield 61, 3), (66, .iconst 3, 1), (67, .if_icmp .ne 13, 3), (70, .aload_n 0, 1), (71, .aload_n 1, 1), (72, .aload_n 2, 1), (73, .iload_n 3, 1), (74, .invokevirtual 100, 3), (77, .goto 151, 3), (80, .iload 4, 2), (82, .bipush 15, 2), (84, .if_icmp .eq 11, 3), (87, .iload 4, 2), (89, .invokestatic 93, 3), (92, .ifCond .eq 35, 3), (95, .aload_n 2, 1), (96, .iload 4, 2), (98, .bipush 15, 2), (100, .if_icmp .ne 10, 3), (103, .aload_n 1, 1), (104, .getfield 103, 3), (107, .goto 8, 3), (110, .iload 4, 2), (112, .invokestatic 106, 3), (115, .invokevirtual 110, 3), (118, .aload_n 0, 1), (119, .bipush 6, 2), (121, .putfield 61, 3), (124, .goto 104, 3), (127, .iload 4, 2), (129, .bipush 24, 2), (131, .if_icmp .eq 10, 3), (134, .iload 4, 2), (136, .bipush 25, 2), (138, .if_icmp .ne 13, 3), (141, .aload_n 0, 1), (142, .iload 4, 2), (144, .aload_n 2, 1), (145, .invokevirtual 113, 3), (148, .goto 80, 3), (151, .iload 4, 2), (153, .invokestatic 84, 3), (156, .ifCond .eq 36, 3), (159, .aload_n 0, 1), (160, .aload_n 2, 1), (161, .iload 4, 2), (163, .bipush 19, 2), (165, .if_icmp .ne 8, 3), (168, .bipush 19, 2), (170, .goto 5, 3), (173, .bipush 17, 2), (175, .invokevirtual 117, 3), (178, .aload_n 0, 1), (179, .iload 4, 2), (181, .invokevirtual 121, 3), (184, .aload_n 0, 1), (185, .iconst 5, 1), (186, .putfield 61, 3), (189, .goto 39, 3), (192, .iload 4, 2), (194, .invokestatic 90, 3), (197, .ifCond .eq 24, 3), (200, .aload_n 0, 1), (201, .aload_n 2, 1), (202, .bipush 17, 2), (204, .invokevirtual 117, 3), (207, .aload_n 0, 1), (208, .iload 4, 2), (210, .putfield 64, 3), (213, .aload_n 0, 1), (214, .iconst 5, 1), (215, .putfield 61, 3), (218, .goto 10, 3), (221, .aload_n 0, 1), (222, .iload 4, 2), (224, .aload_n 2, 1), (225, .invokevirtual 124, 3), (228, .return_, 1)]
theorem IX2_take_ok : IX2_take.all (fun e => decide (decode cX2_take e.1 = .ok e.2)) = true := by decide +kernel
abbrev MX2_take : am_MD := (2, yX2_take, cX2_take, 5, none, IX2_take)
abbrev IX2_takeTopic : List (Nat × Instr × Nat) := [(0, .aload_n 1, 1), (1, .getfield 103, 3), (4, .iload_n 3, 1), (5, .if_icmp .lt 19, 3), (8, .aload_n 0, 1), (9, .getfield 52, 3), (12, .iconst (-1), 1), (13, .if_icmp .ne 11, 3), (16, .aload_n 0, 1), (17, .aload_n 1, 1), (18, .getfield 46, 3), (21, .putfield 52, 3), (24, .aload_n 2, 1), (25, .aload_n 1, 1), (26, .getfield 103, 3), (29, .invokevirtual 110, 3), (32, .aload_n 2, 1), (33, .bipush 6, 2), (35, .aload_n 0, 1), (36, .getfield 67, 3), (39, .invokevirtual 127, 3), (42, .aload_n 0, 1), (43, .iconst 4, 1), (44, .putfield 61, 3), (47, .return_, 1)]
theorem IX2_takeTopic_ok : IX2_takeTopic.all (fun e => decide (decode cX2_takeTopic e.1 = .ok e.2)) = true := by decide +kernel
abbrev MX2_takeTopic : am_MD := (2, yX2_takeTopic, cX2_takeTopic, 4, none, IX2_takeTopic)
abbrev IX2_takeBracket : List (Nat × Instr × Nat) := [(0, .iload_n 1, 1), (1, .bipush 24, 2), (3, .if_icmp .ne 25, 3), (6, .aload_n 0, 1), (7, .bipush 24, 2), (9, .invokevirtual 121, 3), (12, .aload_n 0, 1), (13, .dup, 1), (14, .getfield 58, 3), (17, .iconst 1, 1), (18, .iadd, 1), (19, .putfield 58, 3), (22, .aload_n 0, 1), (23, .iconst 5, 1), (24, .putfield 61, 3), (27, .return_, 1), (28, .aload_n 0, 1), (29, .aload_n 2, 1), (30, .bipush 17, 2), (32, .invokevirtual 117, 3), (35, .aload_n 0, 1), (36, .getfield 55, 3), (39, .ifCond .le 13, 3), (42, .aload_n 0, 1), (43, .dup, 1), (44, .getfield 55, 3), (47, .iconst 1, 1), (48, .isub, 1), (49, .putfield 55, 3), (52, .aload_n 0, 1), (53, .dup, 1), (54, .getfield 58, 3), (57, .iconst 1, 1), (58, .isub, 1), (59, .putfield 58, 3), (62, .aload_n 0, 1), (63, .bipush 6, 2), (65, .putfield 61, 3), (68, .return_, 1)]
theorem IX2_takeBracket_ok : IX2_takeBracket.all (fun e => decide (decode cX2_takeBracket e.1 = .ok e.2)) = true := by decide +kernel
abbrev MX2_takeBracket : am_MD := (2, yX2_takeBracket, cX2_takeBracket, 3, none, IX2_takeBracket)
abbrev IX2_hold : List (Nat × Instr × Nat) := [(0, .aload_n 0, 1), (1, .getfield 55, 3), (4, .aload_n 0, 1), (5, .getfield 9, 3), (8, .arraylength, 1), (9, .if_icmp .ge 23, 3), (12, .aload_n 0, 1), (13, .getfield 9, 3), (16, .aload_n 0, 1), (17, .getfield 55, 3), (20, .iload_n 1, 1), (21, .iastore, 1), (22, .aload_n 0, 1), (23, .dup, 1), (24, .getfield 55, 3), (27, .iconst 1, 1), (28, .iadd, 1), (29, .putfield 55, 3), (32, .return_, 1)]
theorem IX2_hold_ok : IX2_hold.all (fun e => decide (decode cX2_hold e.1 = .ok e.2)) = true := by decide +kernel
abbrev MX2_hold : am_MD := (2, yX2_hold, cX2_hold, 2, none, IX2_hold)
abbrev IX2_unload : List (Nat × Instr × Nat) := [(0, .aload_n 0, 1), (1, .getfield 55, 3), (4, .ifCond .le 71, 3), (7, .aload_n 0, 1), (8, .getfield 9, 3), (11, .aload_n 0, 1), (12, .getfield 55, 3), (15, .iconst 1, 1), (16, .isub, 1), (17, .iaload, 1), (18, .invokestatic 84, 3), (21, .ifCond .eq 54, 3), (24, .iload_n 2, 1), (25, .bipush 17, 2), (27, .if_icmp .eq 19, 3), (30, .aload_n 0, 1), (31, .getfield 9, 3), (34, .aload_n 0, 1), (35, .getfield 55, 3), (38, .iconst 1, 1), (39, .isub, 1), (40, .iaload, 1), (41, .bipush 19, 2), (43, .if_icmp .ne 32, 3), (46, .aload_n 0, 1), (47, .dup, 1), (48, .getfield 55, 3), (51, .iconst 1, 1), (52, .isub, 1), (53, .putfield 55, 3), (56, .aload_n 1, 1), (57, .aload_n 0, 1), (58, .getfield 9, 3), (61, .aload_n 0, 1), (62, .getfield 55, 3), (65, .iaload, 1), (66, .invokestatic 106, 3), (69, .invokevirtual 110, 3), (72, .goto (-72), 3), (75, .return_, 1)]
theorem IX2_unload_ok : IX2_unload.all (fun e => decide (decode cX2_unload e.1 = .ok e.2)) = true := by decide +kernel
abbrev MX2_unload : am_MD := (2, yX2_unload, cX2_unload, 3, none, IX2_unload)
abbrev IX2_takeLiteralEnd : List (Nat × Instr × Nat) := [(0, .aload_n 0, 1), (1, .getfield 64, 3), (4, .iconst (-1), 1), (5, .if_icmp .eq 27, 3), (8, .aload_n 0, 1), (9, .aload_n 2, 1), (10, .bipush 17, 2), (12, .invokevirtual 117, 3), (15, .aload_n 2, 1), (16, .aload_n 0, 1), (17, .getfield 64, 3), (20, .aload_n 0, 1), (21, .getfield 67, 3), (24, .invokevirtual 127, 3), (27, .aload_n 0, 1), (28, .iconst (-1), 1), (29, .putfield 64, 3), (32, .aload_n 0, 1), (33, .iload_n 1, 1), (34, .iconst 4, 1), (35, .if_icmp .ne 7, 3), (38, .iconst 1, 1), (39, .goto 4, 3), (42, .iconst 0, 1), (43, .putfield 67, 3), (46, .aload_n 0, 1), (47, .iload_n 1, 1), (48, .bipush 16, 2), (50, .if_icmp .ne 7, 3), (53, .iconst 0, 1), (54, .goto 4, 3), (57, .iconst 2, 1), (58, .putfield 61, 3), (61, .return_, 1)]
theorem IX2_takeLiteralEnd_ok : IX2_takeLiteralEnd.all (fun e => decide (decode cX2_takeLiteralEnd e.1 = .ok e.2)) = true := by decide +kernel
abbrev MX2_takeLiteralEnd : am_MD := (2, yX2_takeLiteralEnd, cX2_takeLiteralEnd, 3, none, IX2_takeLiteralEnd)
abbrev IX3_init : List (Nat × Instr × Nat) := [(0, .aload_n 0, 1), (1, .invokespecial 3, 3), (4, .aload_n 0, 1), (5, .bipush 7, 2), (7, .newarray .int, 2), (9, .putfield 9, 3), (12, .aload_n 0, 1), (13, .bipush 21, 2), (15, .newarray .int, 2), (17, .putfield 15, 3), (20, .aload_n 0, 1), (21, .sipush 133, 3), (24, .newarray .byte, 2), (26, .putfield 18, 3), (29, .return_, 1)]
theorem IX3_init_ok : IX3_init.all (fun e => decide (decode cX3_init e.1 = .ok e.2)) = true := by decide +kernel
abbrev MX3_init : am_MD := (3, yX3_init, cX3_init, 1, none, IX3_init)
abbrev IX3_begin : List (Nat × Instr × Nat) := [(0, .aload_n 0, 1), (1, .getfield 18, 3), (4, .iconst 0, 1), (5, .invokestatic 22, 3), (8, .aload_n 0, 1), (9, .iload_n 1, 1), (10, .putfield 28, 3), (13, .aload_n 0, 1), (14, .iload_n 2, 1), (15, .putfield 32, 3), (18, .aload_n 0, 1), (19, .iload_n 3, 1), (20, .putfield 35, 3), (23, .return_, 1)]
theorem IX3_begin_ok : IX3_begin.all (fun e => decide (decode cX3_begin e.1 = .ok e.2)) = true := by decide +kernel
abbrev MX3_begin : am_MD := (3, yX3_begin, cX3_begin, 4, none, IX3_begin)
abbrev IX3_give : List (Nat × Instr × Nat) := [(0, .iload_n 1, 1), (1, .invokestatic 38, 3), (4, .ifCond .eq 13, 3), (7, .aload_n 0, 1), (8, .getfield 9, 3), (11, .iload_n 1, 1), (12, .bipush 7, 2), (14, .isub, 1), (15, .iload_n 2, 1), (16, .iastore, 1), (17, .return_, 1)]
theorem IX3_give_ok : IX3_give.all (fun e => decide (decode cX3_give e.1 = .ok e.2)) = true := by decide +kernel
abbrev MX3_give : am_MD := (3, yX3_give, cX3_give, 3, none, IX3_give)
abbrev IX3_turnTo : List (Nat × Instr × Nat) := [(0, .aload_n 0, 1), (1, .bipush 9, 2), (3, .iload_n 1, 1), (4, .aload_n 0, 1), (5, .getfield 28, 3), (8, .isub, 1), (9, .invokevirtual 42, 3), (12, .aload_n 0, 1), (13, .bipush 10, 2), (15, .aload_n 0, 1), (16, .getfield 32, 3), (19, .iconst (-1), 1), (20, .if_icmp .eq 20, 3), (23, .aload_n 0, 1), (24, .getfield 32, 3), (27, .iload_n 1, 1), (28, .if_icmp .gt 12, 3), (31, .iload_n 1, 1), (32, .aload_n 0, 1), (33, .getfield 32, 3), (36, .isub, 1), (37, .goto 4, 3), (40, .iconst (-1), 1), (41, .invokevirtual 42, 3), (44, .return_, 1)]
theorem IX3_turnTo_ok : IX3_turnTo.all (fun e => decide (decode cX3_turnTo e.1 = .ok e.2)) = true := by decide +kernel
abbrev MX3_turnTo : am_MD := (3, yX3_turnTo, cX3_turnTo, 2, none, IX3_turnTo)
abbrev IX3_takeCell : List (Nat × Instr × Nat) := [(0, .iload_n 1, 1), (1, .sipush 10000, 3), (4, .isub, 1), (5, .istore_n 2, 1), (6, .iload_n 2, 1), (7, .invokestatic 52, 3), (10, .ifCond .eq 51, 3), (13, .aload_n 0, 1), (14, .invokevirtual 55, 3), (17, .istore_n 3, 1), (18, .aload_n 0, 1), (19, .invokevirtual 55, 3), (22, .istore 4, 2), (24, .aload_n 0, 1), (25, .iload_n 2, 1), (26, .bipush 17, 2), (28, .if_icmp .ne 10, 3), (31, .iload 4, 2), (33, .iload_n 3, 1), (34, .iadd, 1), (35, .goto 20, 3), (38, .iload_n 2, 1), (39, .bipush 18, 2), (41, .if_icmp .ne 10, 3), (44, .iload 4, 2), (46, .iload_n 3, 1), (47, .isub, 1), (48, .goto 7, 3), (51, .iload 4, 2), (53, .iload_n 3, 1), (54, .imul, 1), (55, .invokevirtual 59, 3), (58, .goto 27, 3), (61, .aload_n 0, 1), (62, .iload_n 2, 1), (63, .invokestatic 38, 3), (66, .ifCond .eq 15, 3), (69, .aload_n 0, 1), (70, .getfield 9, 3), (73, .iload_n 2, 1), (74, .bipush 7, 2), (76, .isub, 1), (77, .iaload, 1), (78, .goto 4, 3), (81, .iload_n 1, 1), (82, .invokevirtual 59, 3), (85, .return_, 1)]
theorem IX3_takeCell_ok : IX3_takeCell.all (fun e => decide (decode cX3_takeCell e.1 = .ok e.2)) = true := by decide +kernel
abbrev MX3_takeCell : am_MD := (3, yX3_takeCell, cX3_takeCell, 5, none, IX3_takeCell)
abbrev IX3_pop : List (Nat × Instr × Nat) := [(0, .aload_n 0, 1), (1, .getfield 63, 3), (4, .ifCond .gt 5, 3), (7, .iconst 0, 1), (8, .ireturn, 1), (9, .aload_n 0, 1), (10, .dup, 1), (11, .getfield 63, 3), (14, .iconst 1, 1), (15, .isub, 1), (16, .putfield 63, 3), (19, .aload_n 0, 1), (20, .getfield 15, 3), (23, .aload_n 0, 1), (24, .getfield 63, 3), (27, .iaload, 1), (28, .ireturn, 1)]
theorem IX3_pop_ok : IX3_pop.all (fun e => decide (decode cX3_pop e.1 = .ok e.2)) = true := by decide +kernel
abbrev MX3_pop : am_MD := (3, yX3_pop, cX3_pop, 1, (Option.some FieldType.int), IX3_pop)
abbrev IX3_push : List (Nat × Instr × Nat) := [(0, .aload_n 0, 1), (1, .getfield 63, 3), (4, .aload_n 0, 1), (5, .getfield 15, 3), (8, .arraylength, 1), (9, .if_icmp .ge 23, 3), (12, .aload_n 0, 1), (13, .getfield 15, 3), (16, .aload_n 0, 1), (17, .getfield 63, 3), (20, .iload_n 1, 1), (21, .iastore, 1), (22, .aload_n 0, 1), (23, .dup, 1), (24, .getfield 63, 3), (27, .iconst 1, 1), (28, .iadd, 1), (29, .putfield 63, 3), (32, .return_, 1)]
theorem IX3_push_ok : IX3_push.all (fun e => decide (decode cX3_push e.1 = .ok e.2)) = true := by decide +kernel
abbrev MX3_push : am_MD := (3, yX3_push, cX3_push, 2, none, IX3_push)
abbrev IX3_isInTopic : List (Nat × Instr × Nat) := [(0, .iload_n 1, 1), (1, .bipush 12, 2), (3, .invokestatic 46, 3), (6, .ifCond .eq 19, 3), (9, .aload_n 0, 1), (10, .getfield 35, 3), (13, .iload_n 1, 1), (14, .ishr, 1), (15, .iconst 1, 1), (16, .iand, 1), (17, .iconst 1, 1), (18, .if_icmp .ne 7, 3), (21, .iconst 1, 1), (22, .goto 4, 3), (25, .iconst 0, 1), (26, .ireturn, 1)]
theorem IX3_isInTopic_ok : IX3_isInTopic.all (fun e => decide (decode cX3_isInTopic e.1 = .ok e.2)) = true := by decide +kernel
abbrev MX3_isInTopic : am_MD := (3, yX3_isInTopic, cX3_isInTopic, 2, (Option.some FieldType.boolean), IX3_isInTopic)
abbrev IX4_init : List (Nat × Instr × Nat) := [(0, .aload_n 0, 1), (1, .invokespecial 3, 3), (4, .aload_n 0, 1), (5, .bipush 6, 2), (7, .newarray .int, 2), (9, .putfield 9, 3), (12, .aload_n 0, 1), (13, .bipush 6, 2), (15, .newarray .int, 2), (17, .putfield 15, 3), (20, .aload_n 0, 1), (21, .bipush 6, 2), (23, .newarray .int, 2), (25, .putfield 18, 3), (28, .aload_n 0, 1), (29, .bipush 30, 2), (31, .newarray .int, 2), (33, .putfield 21, 3), (36, .aload_n 0, 1), (37, .bipush 30, 2), (39, .newarray .int, 2), (41, .putfield 24, 3), (44, .aload_n 0, 1), (45, .bipush 30, 2), (47, .newarray .int, 2), (49, .putfield 27, 3), (52, .aload_n 0, 1), (53, .bipush 30, 2), (55, .newarray .int, 2), (57, .putfield 30, 3), (60, .aload_n 0, 1), (61, .bipush 30, 2), (63, .newarray .int, 2), (65, .putfield 33, 3), (68, .aload_n 0, 1), (69, .bipush 30, 2), (71, .newarray .int, 2), (73, .putfield 36, 3), (76, .aload_n 0, 1), (77, .bipush 30, 2), (79, .newarray .int, 2), (81, .putfield 39, 3), (84, .return_, 1)]
theorem IX4_init_ok : IX4_init.all (fun e => decide (decode cX4_init e.1 = .ok e.2)) = true := by decide +kernel
abbrev MX4_init : am_MD := (4, yX4_init, cX4_init, 1, none, IX4_init)
abbrev IX4_addTape : List (Nat × Instr × Nat) := [(0, .aload_n 0, 1), (1, .getfield 50, 3), (4, .bipush 6, 2), (6, .if_icmp .lt 5, 3), (9, .iconst (-1), 1), (10, .ireturn, 1), (11, .aload_n 0, 1), (12, .getfield 9, 3), (15, .aload_n 0, 1), (16, .getfield 50, 3), (19, .iload_n 1, 1), (20, .iastore, 1), (21, .aload_n 0, 1), (22, .getfield 15, 3), (25, .aload_n 0, 1), (26, .getfield 50, 3), (29, .iload_n 2, 1), (30, .iastore, 1), (31, .aload_n 0, 1), (32, .getfield 18, 3), (35, .aload_n 0, 1), (36, .getfield 50, 3), (39, .iload_n 3, 1), (40, .iastore, 1), (41, .aload_n 0, 1), (42, .dup, 1), (43, .getfield 50, 3), (46, .iconst 1, 1), (47, .iadd, 1), (48, .putfield 50, 3), (51, .aload_n 0, 1), (52, .getfield 50, 3), (55, .iconst 1, 1), (56, .isub, 1), (57, .ireturn, 1)]
theorem IX4_addTape_ok : IX4_addTape.all (fun e => decide (decode cX4_addTape e.1 = .ok e.2)) = true := by decide +kernel
abbrev MX4_addTape : am_MD := (4, yX4_addTape, cX4_addTape, 4, (Option.some FieldType.int), IX4_addTape)
abbrev IX4_isFree : List (Nat × Instr × Nat) := [(0, .iload_n 1, 1), (1, .aload_n 0, 1), (2, .getfield 50, 3), (5, .invokestatic 46, 3), (8, .ifCond .eq 22, 3), (11, .iload_n 2, 1), (12, .ifCond .lt 18, 3), (15, .iload_n 2, 1), (16, .iload_n 3, 1), (17, .if_icmp .ge 13, 3), (20, .iload_n 3, 1), (21, .aload_n 0, 1), (22, .getfield 18, 3), (25, .iload_n 1, 1), (26, .iaload, 1), (27, .if_icmp .le 5, 3), (30, .iconst 0, 1), (31, .ireturn, 1), (32, .iconst 0, 1), (33, .istore 4, 2), (35, .iload 4, 2), (37, .aload_n 0, 1), (38, .getfield 42, 3), (41, .if_icmp .ge 44, 3), (44, .aload_n 0, 1), (45, .getfield 21, 3), (48, .iload 4, 2), (50, .iaload, 1), (51, .iload_n 1, 1), (52, .if_icmp .ne 27, 3), (55, .iload_n 2, 1), (56, .aload_n 0, 1), (57, .getfield 27, 3), (60, .iload 4, 2), (62, .iaload, 1), (63, .if_icmp .ge 16, 3), (66, .aload_n 0, 1), (67, .getfield 24, 3), (70, .iload 4, 2), (72, .iaload, 1), (73, .iload_n 3, 1), (74, .if_icmp .ge 5, 3), (77, .iconst 0, 1), (78, .ireturn, 1), (79, .iinc 4 1, 3), (82, .goto (-47), 3), (85, .iconst 1, 1), (86, .ireturn, 1)]
theorem IX4_isFree_ok : IX4_isFree.all (fun e => decide (decode cX4_isFree e.1 = .ok e.2)) = true := by decide +kernel
abbrev MX4_isFree : am_MD := (4, yX4_isFree, cX4_isFree, 5, (Option.some FieldType.boolean), IX4_isFree)
abbrev IX4_addPiece : List (Nat × Instr × Nat) := [(0, .aload_n 0, 1), (1, .getfield 42, 3), (4, .bipush 30, 2), (6, .if_icmp .lt 5, 3), (9, .iconst (-1), 1), (10, .ireturn, 1), (11, .aload_n 0, 1), (12, .getfield 21, 3), (15, .aload_n 0, 1), (16, .getfield 42, 3), (19, .iload_n 1, 1), (20, .iastore, 1), (21, .aload_n 0, 1), (22, .getfield 24, 3), (25, .aload_n 0, 1), (26, .getfield 42, 3), (29, .iload_n 2, 1), (30, .iastore, 1), (31, .aload_n 0, 1), (32, .getfield 27, 3), (35, .aload_n 0, 1), (36, .getfield 42, 3), (39, .iload_n 3, 1), (40, .iastore, 1), (41, .aload_n 0, 1), (42, .getfield 30, 3), (45, .aload_n 0, 1), (46, .getfield 42, 3), (49, .iload 4, 2), (51, .iastore, 1), (52, .aload_n 0, 1), (53, .getfield 33, 3), (56, .aload_n 0, 1), (57, .getfield 42, 3), (60, .iload 5, 2), (62, .iastore, 1), (63, .aload_n 0, 1), (64, .getfield 36, 3), (67, .aload_n 0, 1), (68, .getfield 42, 3), (71, .iload 6, 2), (73, .iastore, 1), (74, .aload_n 0, 1), (75, .getfield 39, 3), (78, .aload_n 0, 1), (79, .getfield 42, 3), (82, .iconst (-1), 1), (83, .iastore, 1), (84, .aload_n 0, 1), (85, .dup, 1), (86, .getfield 42, 3), (89, .iconst 1, 1), (90, .iadd, 1), (91, .putfield 42, 3), (94, .aload_n 0, 1), (95, .getfield 42, 3), (98, .iconst 1, 1), (99, .isub, 1), (100, .ireturn, 1)]
theorem IX4_addPiece_ok : IX4_addPiece.all (fun e => decide (decode cX4_addPiece e.1 = .ok e.2)) = true := by decide +kernel
abbrev MX4_addPiece : am_MD := (4, yX4_addPiece, cX4_addPiece, 7, (Option.some FieldType.int), IX4_addPiece)
abbrev IX4_takeBack : List (Nat × Instr × Nat) := [(0, .aload_n 0, 1), (1, .iload_n 1, 1), (2, .invokevirtual 53, 3), (5, .ifCond .eq 13, 3), (8, .aload_n 0, 1), (9, .getfield 39, 3), (12, .iload_n 1, 1), (13, .iaload, 1), (14, .iconst (-1), 1), (15, .if_icmp .eq 5, 3), (18, .iconst 0, 1), (19, .ireturn, 1), (20, .aload_n 0, 1), (21, .getfield 39, 3), (24, .iload_n 1, 1), (25, .iload_n 2, 1), (26, .iastore, 1), (27, .iconst 1, 1), (28, .ireturn, 1)]
theorem IX4_takeBack_ok : IX4_takeBack.all (fun e => decide (decode cX4_takeBack e.1 = .ok e.2)) = true := by decide +kernel
abbrev MX4_takeBack : am_MD := (4, yX4_takeBack, cX4_takeBack, 3, (Option.some FieldType.boolean), IX4_takeBack)
abbrev IX4_has : List (Nat × Instr × Nat) := [(0, .iload_n 1, 1), (1, .aload_n 0, 1), (2, .getfield 42, 3), (5, .invokestatic 46, 3), (8, .ireturn, 1)]
theorem IX4_has_ok : IX4_has.all (fun e => decide (decode cX4_has e.1 = .ok e.2)) = true := by decide +kernel
abbrev MX4_has : am_MD := (4, yX4_has, cX4_has, 2, (Option.some FieldType.boolean), IX4_has)
abbrev IX4_speakerOf : List (Nat × Instr × Nat) := [(0, .aload_n 0, 1), (1, .iload_n 1, 1), (2, .invokevirtual 53, 3), (5, .ifCond .eq 33, 3), (8, .aload_n 0, 1), (9, .getfield 21, 3), (12, .iload_n 1, 1), (13, .iaload, 1), (14, .aload_n 0, 1), (15, .getfield 50, 3), (18, .invokestatic 46, 3), (21, .ifCond .eq 17, 3), (24, .aload_n 0, 1), (25, .getfield 9, 3), (28, .aload_n 0, 1), (29, .getfield 21, 3), (32, .iload_n 1, 1), (33, .iaload, 1), (34, .iaload, 1), (35, .goto 4, 3), (38, .iconst (-1), 1), (39, .ireturn, 1)]
theorem IX4_speakerOf_ok : IX4_speakerOf.all (fun e => decide (decode cX4_speakerOf e.1 = .ok e.2)) = true := by decide +kernel
abbrev MX4_speakerOf : am_MD := (4, yX4_speakerOf, cX4_speakerOf, 2, (Option.some FieldType.int), IX4_speakerOf)
abbrev IX4_madeOn : List (Nat × Instr × Nat) := [(0, .aload_n 0, 1), (1, .iload_n 1, 1), (2, .invokevirtual 53, 3), (5, .ifCond .eq 33, 3), (8, .aload_n 0, 1), (9, .getfield 21, 3), (12, .iload_n 1, 1), (13, .iaload, 1), (14, .aload_n 0, 1), (15, .getfield 50, 3), (18, .invokestatic 46, 3), (21, .ifCond .eq 17, 3), (24, .aload_n 0, 1), (25, .getfield 15, 3), (28, .aload_n 0, 1), (29, .getfield 21, 3), (32, .iload_n 1, 1), (33, .iaload, 1), (34, .iaload, 1), (35, .goto 4, 3), (38, .iconst 0, 1), (39, .ireturn, 1)]
theorem IX4_madeOn_ok : IX4_madeOn.all (fun e => decide (decode cX4_madeOn e.1 = .ok e.2)) = true := by decide +kernel
abbrev MX4_madeOn : am_MD := (4, yX4_madeOn, cX4_madeOn, 2, (Option.some FieldType.int), IX4_madeOn)
abbrev IX4_pieceAt : List (Nat × Instr × Nat) := [(0, .iconst 0, 1), (1, .istore_n 3, 1), (2, .iload_n 3, 1), (3, .aload_n 0, 1), (4, .getfield 42, 3), (7, .if_icmp .ge 41, 3), (10, .aload_n 0, 1), (11, .getfield 21, 3), (14, .iload_n 3, 1), (15, .iaload, 1), (16, .iload_n 1, 1), (17, .if_icmp .ne 25, 3), (20, .iload_n 2, 1), (21, .aload_n 0, 1), (22, .getfield 24, 3), (25, .iload_n 3, 1), (26, .iaload, 1), (27, .if_icmp .lt 15, 3), (30, .iload_n 2, 1), (31, .aload_n 0, 1), (32, .getfield 27, 3), (35, .iload_n 3, 1), (36, .iaload, 1), (37, .if_icmp .ge 5, 3), (40, .iload_n 3, 1), (41, .ireturn, 1), (42, .iinc 3 1, 3), (45, .goto (-43), 3), (48, .iconst (-1), 1), (49, .ireturn, 1)]
theorem IX4_pieceAt_ok : IX4_pieceAt.all (fun e => decide (decode cX4_pieceAt e.1 = .ok e.2)) = true := by decide +kernel
abbrev MX4_pieceAt : am_MD := (4, yX4_pieceAt, cX4_pieceAt, 4, (Option.some FieldType.int), IX4_pieceAt)
abbrev IX5_init : List (Nat × Instr × Nat) := [(0, .aload_n 0, 1), (1, .invokespecial 3, 3), (4, .aload_n 0, 1), (5, .bipush 12, 2), (7, .newarray .int, 2), (9, .putfield 9, 3), (12, .aload_n 0, 1), (13, .bipush 12, 2), (15, .newarray .int, 2), (17, .putfield 15, 3), (20, .aload_n 0, 1), (21, .bipush 12, 2), (23, .newarray .int, 2), (25, .putfield 18, 3), (28, .aload_n 0, 1), (29, .bipush 12, 2), (31, .newarray .int, 2), (33, .putfield 21, 3), (36, .aload_n 0, 1), (37, .bipush 12, 2), (39, .newarray .int, 2), (41, .putfield 24, 3), (44, .aload_n 0, 1), (45, .bipush 13, 2), (47, .newarray .int, 2), (49, .putfield 27, 3), (52, .aload_n 0, 1), (53, .bipush 10, 2), (55, .newarray .int, 2), (57, .putfield 30, 3), (60, .return_, 1)]
theorem IX5_init_ok : IX5_init.all (fun e => decide (decode cX5_init e.1 = .ok e.2)) = true := by decide +kernel
abbrev MX5_init : am_MD := (5, yX5_init, cX5_init, 1, none, IX5_init)
abbrev IX5_add : List (Nat × Instr × Nat) := [(0, .aload_n 0, 1), (1, .getfield 33, 3), (4, .bipush 12, 2), (6, .if_icmp .lt 5, 3), (9, .iconst (-1), 1), (10, .ireturn, 1), (11, .aload_n 0, 1), (12, .getfield 9, 3), (15, .aload_n 0, 1), (16, .getfield 33, 3), (19, .iload_n 1, 1), (20, .iastore, 1), (21, .aload_n 0, 1), (22, .getfield 15, 3), (25, .aload_n 0, 1), (26, .getfield 33, 3), (29, .iload_n 2, 1), (30, .iastore, 1), (31, .aload_n 0, 1), (32, .getfield 18, 3), (35, .aload_n 0, 1), (36, .getfield 33, 3), (39, .iload_n 3, 1), (40, .iastore, 1), (41, .aload_n 0, 1), (42, .getfield 21, 3), (45, .aload_n 0, 1), (46, .getfield 33, 3), (49, .iload 4, 2), (51, .iastore, 1), (52, .aload_n 0, 1), (53, .getfield 24, 3), (56, .aload_n 0, 1), (57, .getfield 33, 3), (60, .iload 5, 2), (62, .iastore, 1), (63, .aload_n 0, 1), (64, .dup, 1), (65, .getfield 33, 3), (68, .iconst 1, 1), (69, .iadd, 1), (70, .putfield 33, 3), (73, .aload_n 0, 1), (74, .getfield 27, 3), (77, .aload_n 0, 1), (78, .getfield 33, 3), (81, .aload_n 0, 1), (82, .invokevirtual 37, 3), (85, .iastore, 1), (86, .aload_n 0, 1), (87, .getfield 33, 3), (90, .iconst 1, 1), (91, .isub, 1), (92, .ireturn, 1)]
theorem IX5_add_ok : IX5_add.all (fun e => decide (decode cX5_add e.1 = .ok e.2)) = true := by decide +kernel
abbrev MX5_add : am_MD := (5, yX5_add, cX5_add, 6, (Option.some FieldType.int), IX5_add)
abbrev IX5_findLeftOut : List (Nat × Instr × Nat) := [(0, .aload_n 0, 1), (1, .getfield 27, 3), (4, .aload_n 0, 1), (5, .getfield 33, 3), (8, .iconst 1, 1), (9, .isub, 1), (10, .iaload, 1), (11, .istore_n 1, 1), (12, .iload_n 1, 1), (13, .invokestatic 49, 3), (16, .istore_n 2, 1), (17, .iload_n 1, 1), (18, .istore_n 3, 1), (19, .iload_n 3, 1), (20, .ifCond .lt 32, 3), (23, .iload_n 3, 1), (24, .invokestatic 49, 3), (27, .iload_n 2, 1), (28, .if_icmp .ne 18, 3), (31, .aload_n 0, 1), (32, .aload_n 0, 1), (33, .getfield 33, 3), (36, .iload_n 3, 1), (37, .iconst 0, 1), (38, .invokevirtual 45, 3), (41, .ifCond .eq 5, 3), (44, .iload_n 3, 1), (45, .ireturn, 1), (46, .iinc 3 (-1), 3), (49, .goto (-30), 3), (52, .iload_n 1, 1), (53, .iconst 1, 1), (54, .aload_n 0, 1), (55, .getfield 33, 3), (58, .iconst 1, 1), (59, .isub, 1), (60, .ishl, 1), (61, .ior, 1), (62, .ireturn, 1)]
theorem IX5_findLeftOut_ok : IX5_findLeftOut.all (fun e => decide (decode cX5_findLeftOut e.1 = .ok e.2)) = true := by decide +kernel
abbrev MX5_findLeftOut : am_MD := (5, yX5_findLeftOut, cX5_findLeftOut, 4, (Option.some FieldType.int), IX5_findLeftOut)
abbrev IX5_settle : List (Nat × Instr × Nat) := [(0, .aload_n 0, 1), (1, .getfield 30, 3), (4, .iconst 0, 1), (5, .invokestatic 55, 3), (8, .iconst 0, 1), (9, .istore 4, 2), (11, .iload 4, 2), (13, .bipush 10, 2), (15, .if_icmp .gt 62, 3), (18, .iconst 0, 1), (19, .istore 5, 2), (21, .iconst 0, 1), (22, .istore 6, 2), (24, .iload 6, 2), (26, .iload_n 1, 1), (27, .if_icmp .ge 31, 3), (30, .iload_n 2, 1), (31, .iload 6, 2), (33, .ishr, 1), (34, .iconst 1, 1), (35, .iand, 1), (36, .ifCond .ne 16, 3), (39, .aload_n 0, 1), (40, .iload 6, 2), (42, .iload_n 3, 1), (43, .invokevirtual 61, 3), (46, .ifCond .eq 6, 3), (49, .iconst 1, 1), (50, .istore 5, 2), (52, .iinc 6 1, 3), (55, .goto (-31), 3), (58, .iload 5, 2), (60, .ifCond .ne 11, 3), (63, .aload_n 0, 1), (64, .iload_n 1, 1), (65, .iload_n 2, 1), (66, .iload_n 3, 1), (67, .invokevirtual 65, 3), (70, .ireturn, 1), (71, .iinc 4 1, 3), (74, .goto (-63), 3), (77, .iconst 0, 1), (78, .ireturn, 1)]
theorem IX5_settle_ok : IX5_settle.all (fun e => decide (decode cX5_settle e.1 = .ok e.2)) = true := by decide +kernel
abbrev MX5_settle : am_MD := (5, yX5_settle, cX5_settle, 7, (Option.some FieldType.boolean), IX5_settle)
abbrev IX5_pushDays : List (Nat × Instr × Nat) := [(0, .aload_n 0, 1), (1, .getfield 15, 3), (4, .iload_n 1, 1), (5, .iaload, 1), (6, .istore_n 3, 1), (7, .aload_n 0, 1), (8, .getfield 18, 3), (11, .iload_n 1, 1), (12, .iaload, 1), (13, .istore 4, 2), (15, .aload_n 0, 1), (16, .getfield 9, 3), (19, .iload_n 1, 1), (20, .iaload, 1), (21, .lookupswitch 102 #[(0, 27), (1, 56)], 27), (48, .aload_n 0, 1), (49, .iload_n 3, 1), (50, .iload_n 2, 1), (51, .ifCond .eq 16, 3), (54, .sipush 9999, 3), (57, .aload_n 0, 1), (58, .getfield 24, 3), (61, .iload_n 1, 1), (62, .iaload, 1), (63, .isub, 1), (64, .goto 9, 3), (67, .aload_n 0, 1), (68, .getfield 21, 3), (71, .iload_n 1, 1), (72, .iaload, 1), (73, .invokevirtual 68, 3), (76, .ireturn, 1), (77, .iload_n 2, 1), (78, .ifCond .eq 25, 3), (81, .aload_n 0, 1), (82, .iload 4, 2), (84, .aload_n 0, 1), (85, .getfield 30, 3), (88, .iload_n 3, 1), (89, .iaload, 1), (90, .aload_n 0, 1), (91, .getfield 21, 3), (94, .iload_n 1, 1), (95, .iaload, 1), (96, .iadd, 1), (97, .invokevirtual 68, 3), (100, .goto 22, 3), (103, .aload_n 0, 1), (104, .iload_n 3, 1), (105, .aload_n 0, 1), (106, .getfield 30, 3), (109, .iload 4, 2), (111, .iaload, 1), (112, .aload_n 0, 1), (113, .getfield 21, 3), (116, .iload_n 1, 1), (117, .iaload, 1), (118, .iadd, 1), (119, .invokevirtual 68, 3), (122, .ireturn, 1), (123, .aload_n 0, 1), (124, .iload_n 3, 1), (125, .aload_n 0, 1), (126, .getfield 30, 3), (129, .iload 4, 2), (131, .iaload, 1), (132, .invokevirtual 68, 3), (135, .istore 5, 2), (137, .aload_n 0, 1), (138, .iload 4, 2), (140, .aload_n 0, 1), (141, .getfield 30, 3), (144, .iload_n 3, 1), (145, .iaload, 1), (146, .invokevirtual 68, 3), (149, .istore 6, 2), (151, .iload 5, 2), (153, .ifCond .ne 8, 3), (156, .iload 6, 2), (158, .ifCond .eq 7, 3), (161, .iconst 1, 1), (162, .goto 4, 3), (165, .iconst 0, 1), (166, .ireturn, 1)]
theorem IX5_pushDays_ok : IX5_pushDays.all (fun e => decide (decode cX5_pushDays e.1 = .ok e.2)) = true := by decide +kernel
abbrev MX5_pushDays : am_MD := (5, yX5_pushDays, cX5_pushDays, 7, (Option.some FieldType.boolean), IX5_pushDays)
abbrev IX5_pushTo : List (Nat × Instr × Nat) := [(0, .iload_n 1, 1), (1, .invokestatic 41, 3), (4, .ifCond .eq 13, 3), (7, .aload_n 0, 1), (8, .getfield 30, 3), (11, .iload_n 1, 1), (12, .iaload, 1), (13, .iload_n 2, 1), (14, .if_icmp .lt 5, 3), (17, .iconst 0, 1), (18, .ireturn, 1), (19, .aload_n 0, 1), (20, .getfield 30, 3), (23, .iload_n 1, 1), (24, .iload_n 2, 1), (25, .iastore, 1), (26, .iconst 1, 1), (27, .ireturn, 1)]
theorem IX5_pushTo_ok : IX5_pushTo.all (fun e => decide (decode cX5_pushTo e.1 = .ok e.2)) = true := by decide +kernel
abbrev MX5_pushTo : am_MD := (5, yX5_pushTo, cX5_pushTo, 3, (Option.some FieldType.boolean), IX5_pushTo)
abbrev IX5_areWithin : List (Nat × Instr × Nat) := [(0, .iconst 0, 1), (1, .istore 4, 2), (3, .iload 4, 2), (5, .bipush 10, 2), (7, .if_icmp .ge 24, 3), (10, .aload_n 0, 1), (11, .getfield 30, 3), (14, .iload 4, 2), (16, .iaload, 1), (17, .sipush 9999, 3), (20, .if_icmp .le 5, 3), (23, .iconst 0, 1), (24, .ireturn, 1), (25, .iinc 4 1, 3), (28, .goto (-25), 3), (31, .iconst 0, 1), (32, .istore 4, 2), (34, .iload 4, 2), (36, .iload_n 1, 1), (37, .if_icmp .ge 74, 3), (40, .iload_n 3, 1), (41, .ifCond .eq 17, 3), (44, .sipush 9999, 3), (47, .aload_n 0, 1), (48, .getfield 21, 3), (51, .iload 4, 2), (53, .iaload, 1), (54, .isub, 1), (55, .goto 10, 3), (58, .aload_n 0, 1), (59, .getfield 24, 3), (62, .iload 4, 2), (64, .iaload, 1), (65, .istore 5, 2), (67, .aload_n 0, 1), (68, .getfield 9, 3), (71, .iload 4, 2), (73, .iaload, 1), (74, .ifCond .ne 31, 3), (77, .iload_n 2, 1), (78, .iload 4, 2), (80, .ishr, 1), (81, .iconst 1, 1), (82, .iand, 1), (83, .ifCond .ne 22, 3), (86, .aload_n 0, 1), (87, .getfield 30, 3), (90, .aload_n 0, 1), (91, .getfield 15, 3), (94, .iload 4, 2), (96, .iaload, 1), (97, .iaload, 1), (98, .iload 5, 2), (100, .if_icmp .le 5, 3), (103, .iconst 0, 1), (104, .ireturn, 1), (105, .iinc 4 1, 3), (108, .goto (-74), 3), (111, .iconst 1, 1), (112, .ireturn, 1)]
theorem IX5_areWithin_ok : IX5_areWithin.all (fun e => decide (decode cX5_areWithin e.1 = .ok e.2)) = true := by decide +kernel
abbrev MX5_areWithin : am_MD := (5, yX5_areWithin, cX5_areWithin, 6, (Option.some FieldType.boolean), IX5_areWithin)
abbrev IX5_leftOut : List (Nat × Instr × Nat) := [(0, .iload_n 1, 1), (1, .ifCond .lt 20, 3), (4, .iload_n 1, 1), (5, .aload_n 0, 1), (6, .getfield 33, 3), (9, .if_icmp .gt 12, 3), (12, .aload_n 0, 1), (13, .getfield 27, 3), (16, .iload_n 1, 1), (17, .iaload, 1), (18, .goto 4, 3), (21, .iconst (-1), 1), (22, .ireturn, 1)]
theorem IX5_leftOut_ok : IX5_leftOut.all (fun e => decide (decode cX5_leftOut e.1 = .ok e.2)) = true := by decide +kernel
abbrev MX5_leftOut : am_MD := (5, yX5_leftOut, cX5_leftOut, 2, (Option.some FieldType.int), IX5_leftOut)
abbrev IX5_dayOf : List (Nat × Instr × Nat) := [(0, .iload_n 2, 1), (1, .ifCond .lt 18, 3), (4, .iload_n 2, 1), (5, .aload_n 0, 1), (6, .getfield 33, 3), (9, .if_icmp .gt 10, 3), (12, .iload_n 1, 1), (13, .invokestatic 41, 3), (16, .ifCond .ne 5, 3), (19, .iconst (-1), 1), (20, .ireturn, 1), (21, .aload_n 0, 1), (22, .iload_n 2, 1), (23, .aload_n 0, 1), (24, .getfield 27, 3), (27, .iload_n 2, 1), (28, .iaload, 1), (29, .iload_n 3, 1), (30, .invokevirtual 45, 3), (33, .pop, 1), (34, .iload_n 3, 1), (35, .ifCond .eq 16, 3), (38, .sipush 9999, 3), (41, .aload_n 0, 1), (42, .getfield 30, 3), (45, .iload_n 1, 1), (46, .iaload, 1), (47, .isub, 1), (48, .goto 9, 3), (51, .aload_n 0, 1), (52, .getfield 30, 3), (55, .iload_n 1, 1), (56, .iaload, 1), (57, .ireturn, 1)]
theorem IX5_dayOf_ok : IX5_dayOf.all (fun e => decide (decode cX5_dayOf e.1 = .ok e.2)) = true := by decide +kernel
abbrev MX5_dayOf : am_MD := (5, yX5_dayOf, cX5_dayOf, 4, (Option.some FieldType.int), IX5_dayOf)
abbrev IX6_init : List (Nat × Instr × Nat) := [(0, .aload_n 0, 1), (1, .invokespecial 3, 3), (4, .aload_n 0, 1), (5, .sipush 2000, 3), (8, .newarray .byte, 2), (10, .putfield 9, 3), (13, .return_, 1)]
theorem IX6_init_ok : IX6_init.all (fun e => decide (decode cX6_init e.1 = .ok e.2)) = true := by decide +kernel
abbrev MX6_init : am_MD := (6, yX6_init, cX6_init, 1, none, IX6_init)
abbrev IX6_addTwenty : List (Nat × Instr × Nat) := [(0, .aload_n 0, 1), (1, .getfield 15, 3), (4, .bipush 20, 2), (6, .iadd, 1), (7, .sipush 2000, 3), (10, .if_icmp .le 5, 3), (13, .iconst (-1), 1), (14, .ireturn, 1), (15, .aload_n 0, 1), (16, .iload_n 1, 1), (17, .invokevirtual 19, 3), (20, .aload_n 0, 1), (21, .iload_n 2, 1), (22, .invokevirtual 19, 3), (25, .aload_n 0, 1), (26, .iload_n 3, 1), (27, .invokevirtual 19, 3), (30, .aload_n 0, 1), (31, .iload 4, 2), (33, .invokevirtual 19, 3), (36, .aload_n 0, 1), (37, .iload 5, 2), (39, .invokevirtual 19, 3), (42, .aload_n 0, 1), (43, .getfield 15, 3), (46, .ireturn, 1)]
theorem IX6_addTwenty_ok : IX6_addTwenty.all (fun e => decide (decode cX6_addTwenty e.1 = .ok e.2)) = true := by decide +kernel
abbrev MX6_addTwenty : am_MD := (6, yX6_addTwenty, cX6_addTwenty, 6, (Option.some FieldType.int), IX6_addTwenty)
abbrev IX6_addFour : List (Nat × Instr × Nat) := [(0, .bipush 24, 2), (2, .istore_n 2, 1), (3, .iload_n 2, 1), (4, .ifCond .lt 44, 3), (7, .aload_n 0, 1), (8, .getfield 15, 3), (11, .aload_n 0, 1), (12, .getfield 9, 3), (15, .arraylength, 1), (16, .if_icmp .ge 32, 3), (19, .aload_n 0, 1), (20, .getfield 9, 3), (23, .aload_n 0, 1), (24, .getfield 15, 3), (27, .iload_n 1, 1), (28, .iload_n 2, 1), (29, .ishr, 1), (30, .i2b, 1), (31, .bastore, 1), (32, .aload_n 0, 1), (33, .dup, 1), (34, .getfield 15, 3), (37, .iconst 1, 1), (38, .iadd, 1), (39, .putfield 15, 3), (42, .iinc 2 (-8), 3), (45, .goto (-42), 3), (48, .return_, 1)]
theorem IX6_addFour_ok : IX6_addFour.all (fun e => decide (decode cX6_addFour e.1 = .ok e.2)) = true := by decide +kernel
abbrev MX6_addFour : am_MD := (6, yX6_addFour, cX6_addFour, 3, none, IX6_addFour)
abbrev IX6_drop : List (Nat × Instr × Nat) := [(0, .iload_n 1, 1), (1, .ifCond .lt 11, 3), (4, .iload_n 1, 1), (5, .aload_n 0, 1), (6, .getfield 15, 3), (9, .if_icmp .le 5, 3), (12, .iconst (-1), 1), (13, .ireturn, 1), (14, .aload_n 0, 1), (15, .dup, 1), (16, .getfield 15, 3), (19, .iload_n 1, 1), (20, .isub, 1), (21, .putfield 15, 3), (24, .aload_n 0, 1), (25, .getfield 15, 3), (28, .ireturn, 1)]
theorem IX6_drop_ok : IX6_drop.all (fun e => decide (decode cX6_drop e.1 = .ok e.2)) = true := by decide +kernel
abbrev MX6_drop : am_MD := (6, yX6_drop, cX6_drop, 2, (Option.some FieldType.int), IX6_drop)
abbrev IX6_rewind : List (Nat × Instr × Nat) := [(0, .aload_n 0, 1), (1, .iconst 0, 1), (2, .putfield 23, 3), (5, .return_, 1)]
theorem IX6_rewind_ok : IX6_rewind.all (fun e => decide (decode cX6_rewind e.1 = .ok e.2)) = true := by decide +kernel
abbrev MX6_rewind : am_MD := (6, yX6_rewind, cX6_rewind, 1, none, IX6_rewind)
abbrev IX6_advance : List (Nat × Instr × Nat) := [(0, .aload_n 0, 1), (1, .getfield 23, 3), (4, .aload_n 0, 1), (5, .getfield 15, 3), (8, .if_icmp .ge 31, 3), (11, .aload_n 0, 1), (12, .getfield 9, 3), (15, .aload_n 0, 1), (16, .getfield 23, 3), (19, .baload, 1), (20, .invokestatic 26, 3), (23, .ifCond .eq 16, 3), (26, .aload_n 0, 1), (27, .dup, 1), (28, .getfield 23, 3), (31, .iconst 1, 1), (32, .iadd, 1), (33, .putfield 23, 3), (36, .goto (-36), 3), (39, .aload_n 0, 1), (40, .aload_n 0, 1), (41, .getfield 23, 3), (44, .putfield 30, 3), (47, .aload_n 0, 1), (48, .iconst 0, 1), (49, .putfield 33, 3), (52, .aload_n 0, 1), (53, .getfield 23, 3), (56, .aload_n 0, 1), (57, .getfield 15, 3), (60, .if_icmp .lt 12, 3), (63, .aload_n 0, 1), (64, .bipush 26, 2), (66, .putfield 36, 3), (69, .goto 60, 3), (72, .aload_n 0, 1), (73, .getfield 9, 3), (76, .aload_n 0, 1), (77, .getfield 23, 3), (80, .baload, 1), (81, .invokestatic 39, 3), (84, .ifCond .eq 10, 3), (87, .aload_n 0, 1), (88, .invokevirtual 42, 3), (91, .goto 38, 3), (94, .aload_n 0, 1), (95, .getfield 9, 3), (98, .aload_n 0, 1), (99, .getfield 23, 3), (102, .baload, 1), (103, .invokestatic 45, 3), (106, .ifCond .eq 10, 3), (109, .aload_n 0, 1), (110, .invokevirtual 48, 3), (113, .goto 16, 3), (116, .aload_n 0, 1), (117, .aload_n 0, 1), (118, .getfield 9, 3), (121, .aload_n 0, 1), (122, .getfield 23, 3), (125, .baload, 1), (126, .invokevirtual 51, 3), (129, .return_, 1)]
theorem IX6_advance_ok : IX6_advance.all (fun e => decide (decode cX6_advance e.1 = .ok e.2)) = true := by decide +kernel
abbrev MX6_advance : am_MD := (6, yX6_advance, cX6_advance, 1, none, IX6_advance)
abbrev IX6_isBlank : List (Nat × Instr × Nat) := [(0, .iload_n 0, 1), (1, .bipush 9, 2), (3, .if_icmp .eq 21, 3), (6, .iload_n 0, 1), (7, .bipush 10, 2), (9, .if_icmp .eq 15, 3), (12, .iload_n 0, 1), (13, .bipush 13, 2), (15, .if_icmp .eq 9, 3), (18, .iload_n 0, 1), (19, .bipush 32, 2), (21, .if_icmp .ne 7, 3), (24, .iconst 1, 1), (25, .goto 4, 3), (28, .iconst 0, 1), (29, .ireturn, 1)]
theorem IX6_isBlank_ok : IX6_isBlank.all (fun e => decide (decode cX6_isBlank e.1 = .ok e.2)) = true := by decide +kernel
abbrev MX6_isBlank : am_MD := (6, yX6_isBlank, cX6_isBlank, 1, (Option.some FieldType.boolean), IX6_isBlank)
abbrev IX6_isLetter : List (Nat × Instr × Nat) := [(0, .iload_n 0, 1), (1, .bipush 97, 2), (3, .if_icmp .lt 13, 3), (6, .iload_n 0, 1), (7, .bipush 122, 2), (9, .if_icmp .gt 7, 3), (12, .iconst 1, 1), (13, .goto 4, 3), (16, .iconst 0, 1), (17, .ireturn, 1)]
theorem IX6_isLetter_ok : IX6_isLetter.all (fun e => decide (decode cX6_isLetter e.1 = .ok e.2)) = true := by decide +kernel
abbrev MX6_isLetter : am_MD := (6, yX6_isLetter, cX6_isLetter, 1, (Option.some FieldType.boolean), IX6_isLetter)
abbrev IX6_takeWord : List (Nat × Instr × Nat) := [(0, .aload_n 0, 1), (1, .getfield 23, 3), (4, .aload_n 0, 1), (5, .getfield 15, 3), (8, .if_icmp .ge 31, 3), (11, .aload_n 0, 1), (12, .getfield 9, 3), (15, .aload_n 0, 1), (16, .getfield 23, 3), (19, .baload, 1), (20, .invokestatic 39, 3), (23, .ifCond .eq 16, 3), (26, .aload_n 0, 1), (27, .dup, 1), (28, .getfield 23, 3), (31, .iconst 1, 1), (32, .iadd, 1), (33, .putfield 23, 3), (36, .goto (-36), 3), (39, .aload_n 0, 1), (40, .aload_n 0, 1), (41, .getfield 23, 3), (44, .aload_n 0, 1), (45, .getfield 30, 3), (48, .isub, 1), (49, .bipush 8, 2), (51, .if_icmp .le 8, 3), (54, .bipush 27, 2), (56, .goto 15, 3), (59, .aload_n 0, 1), (60, .aload_n 0, 1), (61, .getfield 30, 3), (64, .aload_n 0, 1), (65, .getfield 23, 3), (68, .invokevirtual 54, 3), (71, .putfield 36, 3), (74, .return_, 1)]
theorem IX6_takeWord_ok : IX6_takeWord.all (fun e => decide (decode cX6_takeWord e.1 = .ok e.2)) = true := by decide +kernel
abbrev MX6_takeWord : am_MD := (6, yX6_takeWord, cX6_takeWord, 1, none, IX6_takeWord)
abbrev IX6_wordOf : List (Nat × Instr × Nat) := [(0, .iconst 0, 1), (1, .istore_n 3, 1), (2, .iload_n 1, 1), (3, .istore 4, 2), (5, .iconst 1, 1), (6, .istore 5, 2), (8, .iconst 0, 1), (9, .istore 6, 2), (11, .iload 6, 2), (13, .ldc 58, 2), (15, .invokevirtual 60, 3), (18, .if_icmp .ge 83, 3), (21, .ldc 58, 2), (23, .iload 6, 2), (25, .invokevirtual 66, 3), (28, .istore 7, 2), (30, .iload 7, 2), (32, .bipush 32, 2), (34, .if_icmp .eq 39, 3), (37, .iload 5, 2), (39, .ifCond .eq 25, 3), (42, .iload 4, 2), (44, .iload_n 2, 1), (45, .if_icmp .ge 19, 3), (48, .aload_n 0, 1), (49, .getfield 9, 3), (52, .iload 4, 2), (54, .baload, 1), (55, .iload 7, 2), (57, .if_icmp .ne 7, 3), (60, .iconst 1, 1), (61, .goto 4, 3), (64, .iconst 0, 1), (65, .istore 5, 2), (67, .iinc 4 1, 3), (70, .goto 25, 3), (73, .iload 5, 2), (75, .ifCond .eq 11, 3), (78, .iload 4, 2), (80, .iload_n 2, 1), (81, .if_icmp .ne 5, 3), (84, .iload_n 3, 1), (85, .ireturn, 1), (86, .iinc 3 1, 3), (89, .iload_n 1, 1), (90, .istore 4, 2), (92, .iconst 1, 1), (93, .istore 5, 2), (95, .iinc 6 1, 3), (98, .goto (-87), 3), (101, .bipush 14, 2), (103, .ireturn, 1)]
theorem IX6_wordOf_ok : IX6_wordOf.all (fun e => decide (decode cX6_wordOf e.1 = .ok e.2)) = true := by decide +kernel
abbrev MX6_wordOf : am_MD := (6, yX6_wordOf, cX6_wordOf, 8, (Option.some FieldType.int), IX6_wordOf)
abbrev IX6_isDigit : List (Nat × Instr × Nat) := [(0, .iload_n 0, 1), (1, .bipush 48, 2), (3, .if_icmp .lt 13, 3), (6, .iload_n 0, 1), (7, .bipush 57, 2), (9, .if_icmp .gt 7, 3), (12, .iconst 1, 1), (13, .goto 4, 3), (16, .iconst 0, 1), (17, .ireturn, 1)]
theorem IX6_isDigit_ok : IX6_isDigit.all (fun e => decide (decode cX6_isDigit e.1 = .ok e.2)) = true := by decide +kernel
abbrev MX6_isDigit : am_MD := (6, yX6_isDigit, cX6_isDigit, 1, (Option.some FieldType.boolean), IX6_isDigit)
abbrev IX6_takeInt : List (Nat × Instr × Nat) := [(0, .aload_n 0, 1), (1, .getfield 23, 3), (4, .aload_n 0, 1), (5, .getfield 15, 3), (8, .if_icmp .ge 55, 3), (11, .aload_n 0, 1), (12, .getfield 9, 3), (15, .aload_n 0, 1), (16, .getfield 23, 3), (19, .baload, 1), (20, .invokestatic 45, 3), (23, .ifCond .eq 40, 3), (26, .aload_n 0, 1), (27, .aload_n 0, 1), (28, .getfield 33, 3), (31, .bipush 10, 2), (33, .imul, 1), (34, .aload_n 0, 1), (35, .getfield 9, 3), (38, .aload_n 0, 1), (39, .getfield 23, 3), (42, .baload, 1), (43, .bipush 48, 2), (45, .isub, 1), (46, .iadd, 1), (47, .putfield 33, 3), (50, .aload_n 0, 1), (51, .dup, 1), (52, .getfield 23, 3), (55, .iconst 1, 1), (56, .iadd, 1), (57, .putfield 23, 3), (60, .goto (-60), 3), (63, .aload_n 0, 1), (64, .aload_n 0, 1), (65, .getfield 23, 3), (68, .aload_n 0, 1), (69, .getfield 30, 3), (72, .isub, 1), (73, .iconst 4, 1), (74, .if_icmp .le 8, 3), (77, .bipush 27, 2), (79, .goto 5, 3), (82, .bipush 15, 2), (84, .putfield 36, 3), (87, .return_, 1)]
theorem IX6_takeInt_ok : IX6_takeInt.all (fun e => decide (decode cX6_takeInt e.1 = .ok e.2)) = true := by decide +kernel
abbrev MX6_takeInt : am_MD := (6, yX6_takeInt, cX6_takeInt, 1, none, IX6_takeInt)
abbrev IX6_takeSign : List (Nat × Instr × Nat) := [(0, .aload_n 0, 1), (1, .dup, 1), (2, .getfield 23, 3), (5, .iconst 1, 1), (6, .iadd, 1), (7, .putfield 23, 3), (10, .aload_n 0, 1), (11, .iload_n 1, 1), (12, .aload_n 0, 1), (13, .getfield 23, 3), (16, .aload_n 0, 1), (17, .getfield 15, 3), (20, .if_icmp .ge 21, 3), (23, .aload_n 0, 1), (24, .getfield 9, 3), (27, .aload_n 0, 1), (28, .getfield 23, 3), (31, .baload, 1), (32, .bipush 61, 2), (34, .if_icmp .ne 7, 3), (37, .iconst 1, 1), (38, .goto 4, 3), (41, .iconst 0, 1), (42, .invokestatic 70, 3), (45, .putfield 36, 3), (48, .aload_n 0, 1), (49, .getfield 36, 3), (52, .bipush 20, 2), (54, .if_icmp .eq 21, 3), (57, .aload_n 0, 1), (58, .getfield 36, 3), (61, .bipush 21, 2), (63, .if_icmp .eq 12, 3), (66, .aload_n 0, 1), (67, .getfield 36, 3), (70, .bipush 23, 2), (72, .if_icmp .ne 13, 3), (75, .aload_n 0, 1), (76, .dup, 1), (77, .getfield 23, 3), (80, .iconst 1, 1), (81, .iadd, 1), (82, .putfield 23, 3), (85, .return_, 1)]
theorem IX6_takeSign_ok : IX6_takeSign.all (fun e => decide (decode cX6_takeSign e.1 = .ok e.2)) = true := by decide +kernel
abbrev MX6_takeSign : am_MD := (6, yX6_takeSign, cX6_takeSign, 2, none, IX6_takeSign)
abbrev IX6_signOf : List (Nat × Instr × Nat) := [(0, .iload_n 0, 1), (1, .tableswitch 185 33 61 #[161, 185, 185, 185, 185, 185, 185, 143, 146, 140, 134, 185, 137, 185, 185, 185, 185, 185, 185, 185, 185, 185, 185, 185, 185, 185, 131, 173, 149], 131), (132, .bipush 16, 2), (134, .ireturn, 1), (135, .bipush 17, 2), (137, .ireturn, 1), (138, .bipush 18, 2), (140, .ireturn, 1), (141, .bipush 19, 2), (143, .ireturn, 1), (144, .bipush 24, 2), (146, .ireturn, 1), (147, .bipush 25, 2), (149, .ireturn, 1), (150, .iload_n 1, 1), (151, .ifCond .eq 8, 3), (154, .bipush 20, 2), (156, .goto 5, 3), (159, .bipush 27, 2), (161, .ireturn, 1), (162, .iload_n 1, 1), (163, .ifCond .eq 8, 3), (166, .bipush 21, 2), (168, .goto 5, 3), (171, .bipush 27, 2), (173, .ireturn, 1), (174, .iload_n 1, 1), (175, .ifCond .eq 8, 3), (178, .bipush 23, 2), (180, .goto 5, 3), (183, .bipush 22, 2), (185, .ireturn, 1), (186, .bipush 27, 2), (188, .ireturn, 1)]
theorem IX6_signOf_ok : IX6_signOf.all (fun e => decide (decode cX6_signOf e.1 = .ok e.2)) = true := by decide +kernel
abbrev MX6_signOf : am_MD := (6, yX6_signOf, cX6_signOf, 2, (Option.some FieldType.int), IX6_signOf)
abbrev IX6_clear : List (Nat × Instr × Nat) := [(0, .aload_n 0, 1), (1, .iconst 0, 1), (2, .putfield 15, 3), (5, .return_, 1)]
theorem IX6_clear_ok : IX6_clear.all (fun e => decide (decode cX6_clear e.1 = .ok e.2)) = true := by decide +kernel
abbrev MX6_clear : am_MD := (6, yX6_clear, cX6_clear, 1, none, IX6_clear)
abbrev IX7_init : List (Nat × Instr × Nat) := [(0, .aload_n 0, 1), (1, .invokespecial 3, 3), (4, .aload_n 0, 1), (5, .bipush 12, 2), (7, .newarray .int, 2), (9, .putfield 9, 3), (12, .return_, 1)]
theorem IX7_init_ok : IX7_init.all (fun e => decide (decode cX7_init e.1 = .ok e.2)) = true := by decide +kernel
abbrev MX7_init : am_MD := (7, yX7_init, cX7_init, 1, none, IX7_init)
abbrev IX7_has : List (Nat × Instr × Nat) := [(0, .iload_n 1, 1), (1, .aload_n 0, 1), (2, .getfield 15, 3), (5, .invokestatic 19, 3), (8, .ireturn, 1)]
theorem IX7_has_ok : IX7_has.all (fun e => decide (decode cX7_has e.1 = .ok e.2)) = true := by decide +kernel
abbrev MX7_has : am_MD := (7, yX7_has, cX7_has, 2, (Option.some FieldType.boolean), IX7_has)
abbrev IX7_add : List (Nat × Instr × Nat) := [(0, .aload_n 0, 1), (1, .getfield 15, 3), (4, .bipush 12, 2), (6, .if_icmp .lt 5, 3), (9, .iconst (-1), 1), (10, .ireturn, 1), (11, .aload_n 0, 1), (12, .getfield 9, 3), (15, .aload_n 0, 1), (16, .getfield 15, 3), (19, .aload_n 0, 1), (20, .iload_n 1, 1), (21, .invokevirtual 23, 3), (24, .iconst 1, 1), (25, .aload_n 0, 1), (26, .getfield 15, 3), (29, .ishl, 1), (30, .ior, 1), (31, .iastore, 1), (32, .aload_n 0, 1), (33, .dup, 1), (34, .getfield 15, 3), (37, .iconst 1, 1), (38, .iadd, 1), (39, .putfield 15, 3), (42, .aload_n 0, 1), (43, .getfield 15, 3), (46, .iconst 1, 1), (47, .isub, 1), (48, .ireturn, 1)]
theorem IX7_add_ok : IX7_add.all (fun e => decide (decode cX7_add e.1 = .ok e.2)) = true := by decide +kernel
abbrev MX7_add : am_MD := (7, yX7_add, cX7_add, 2, (Option.some FieldType.int), IX7_add)
abbrev IX7_lineOf : List (Nat × Instr × Nat) := [(0, .aload_n 0, 1), (1, .iload_n 1, 1), (2, .invokevirtual 27, 3), (5, .ifCond .eq 12, 3), (8, .aload_n 0, 1), (9, .getfield 9, 3), (12, .iload_n 1, 1), (13, .iaload, 1), (14, .goto 4, 3), (17, .iconst 0, 1), (18, .ireturn, 1)]
theorem IX7_lineOf_ok : IX7_lineOf.all (fun e => decide (decode cX7_lineOf e.1 = .ok e.2)) = true := by decide +kernel
abbrev MX7_lineOf : am_MD := (7, yX7_lineOf, cX7_lineOf, 2, (Option.some FieldType.int), IX7_lineOf)
abbrev IX8_init : List (Nat × Instr × Nat) := [(0, .aload_n 0, 1), (1, .invokespecial 3, 3), (4, .aload_n 0, 1), (5, .bipush 48, 2), (7, .newarray .int, 2), (9, .putfield 9, 3), (12, .aload_n 0, 1), (13, .bipush 12, 2), (15, .newarray .int, 2), (17, .putfield 15, 3), (20, .aload_n 0, 1), (21, .bipush 12, 2), (23, .anewarray 18, 3), (26, .putfield 20, 3), (29, .return_, 1)]
theorem IX8_init_ok : IX8_init.all (fun e => decide (decode cX8_init e.1 = .ok e.2)) = true := by decide +kernel
abbrev MX8_init : am_MD := (8, yX8_init, cX8_init, 1, none, IX8_init)
abbrev IX8_has : List (Nat × Instr × Nat) := [(0, .iload_n 1, 1), (1, .aload_n 0, 1), (2, .getfield 24, 3), (5, .invokestatic 28, 3), (8, .ireturn, 1)]
theorem IX8_has_ok : IX8_has.all (fun e => decide (decode cX8_has e.1 = .ok e.2)) = true := by decide +kernel
abbrev MX8_has : am_MD := (8, yX8_has, cX8_has, 2, (Option.some FieldType.boolean), IX8_has)
abbrev IX8_exchangeConsent : List (Nat × Instr × Nat) := [(0, .aload_n 0, 1), (1, .iload_n 1, 1), (2, .invokevirtual 33, 3), (5, .ifCond .eq 12, 3), (8, .aload_n 0, 1), (9, .getfield 20, 3), (12, .iload_n 1, 1), (13, .aaload, 1), (14, .ifnonnull 5, 3), (17, .aload_n 2, 1), (18, .areturn, 1), (19, .aload_n 0, 1), (20, .getfield 20, 3), (23, .iload_n 1, 1), (24, .aaload, 1), (25, .astore_n 3, 1), (26, .aload_n 0, 1), (27, .getfield 20, 3), (30, .iload_n 1, 1), (31, .aload_n 2, 1), (32, .aastore, 1), (33, .aload_n 3, 1), (34, .areturn, 1)]
theorem IX8_exchangeConsent_ok : IX8_exchangeConsent.all (fun e => decide (decode cX8_exchangeConsent e.1 = .ok e.2)) = true := by decide +kernel
abbrev MX8_exchangeConsent : am_MD := (8, yX8_exchangeConsent, cX8_exchangeConsent, 4, (Option.some (FieldType.object "TapeHouse$Consent")), IX8_exchangeConsent)
abbrev IX8_add : List (Nat × Instr × Nat) := [(0, .aload_n 0, 1), (1, .getfield 24, 3), (4, .bipush 12, 2), (6, .if_icmp .lt 5, 3), (9, .iconst (-1), 1), (10, .ireturn, 1), (11, .aload_n 0, 1), (12, .getfield 24, 3), (15, .iconst 4, 1), (16, .imul, 1), (17, .istore 5, 2), (19, .aload_n 0, 1), (20, .getfield 9, 3), (23, .iload 5, 2), (25, .iload_n 1, 1), (26, .iastore, 1), (27, .aload_n 0, 1), (28, .getfield 9, 3), (31, .iload 5, 2), (33, .iconst 1, 1), (34, .iadd, 1), (35, .iload_n 2, 1), (36, .iastore, 1), (37, .aload_n 0, 1), (38, .getfield 9, 3), (41, .iload 5, 2), (43, .iconst 2, 1), (44, .iadd, 1), (45, .iload_n 3, 1), (46, .iastore, 1), (47, .aload_n 0, 1), (48, .getfield 9, 3), (51, .iload 5, 2), (53, .iconst 3, 1), (54, .iadd, 1), (55, .iload 4, 2), (57, .iastore, 1), (58, .aload_n 0, 1), (59, .getfield 15, 3), (62, .aload_n 0, 1), (63, .getfield 24, 3), (66, .iconst (-1), 1), (67, .iastore, 1), (68, .aload_n 0, 1), (69, .getfield 20, 3), (72, .aload_n 0, 1), (73, .getfield 24, 3), (76, .new 18, 3), (79, .dup, 1), (80, .invokespecial 32, 3), (83, .aastore, 1), (84, .aload_n 0, 1), (85, .dup, 1), (86, .getfield 24, 3), (89, .iconst 1, 1), (90, .iadd, 1), (91, .putfield 24, 3), (94, .aload_n 0, 1), (95, .getfield 24, 3), (98, .iconst 1, 1), (99, .isub, 1), (100, .ireturn, 1)]
theorem IX8_add_ok : IX8_add.all (fun e => decide (decode cX8_add e.1 = .ok e.2)) = true := by decide +kernel
abbrev MX8_add : am_MD := (8, yX8_add, cX8_add, 6, (Option.some FieldType.int), IX8_add)
abbrev IX8_setDeath : List (Nat × Instr × Nat) := [(0, .aload_n 0, 1), (1, .iload_n 1, 1), (2, .invokevirtual 33, 3), (5, .ifCond .eq 13, 3), (8, .aload_n 0, 1), (9, .getfield 15, 3), (12, .iload_n 1, 1), (13, .iaload, 1), (14, .iconst (-1), 1), (15, .if_icmp .eq 5, 3), (18, .iconst 0, 1), (19, .ireturn, 1), (20, .aload_n 0, 1), (21, .getfield 15, 3), (24, .iload_n 1, 1), (25, .iload_n 2, 1), (26, .iastore, 1), (27, .iconst 1, 1), (28, .ireturn, 1)]
theorem IX8_setDeath_ok : IX8_setDeath.all (fun e => decide (decode cX8_setDeath e.1 = .ok e.2)) = true := by decide +kernel
abbrev MX8_setDeath : am_MD := (8, yX8_setDeath, cX8_setDeath, 3, (Option.some FieldType.boolean), IX8_setDeath)
abbrev IX8_deathOf : List (Nat × Instr × Nat) := [(0, .aload_n 0, 1), (1, .iload_n 1, 1), (2, .invokevirtual 33, 3), (5, .ifCond .eq 12, 3), (8, .aload_n 0, 1), (9, .getfield 15, 3), (12, .iload_n 1, 1), (13, .iaload, 1), (14, .goto 4, 3), (17, .iconst (-1), 1), (18, .ireturn, 1)]
theorem IX8_deathOf_ok : IX8_deathOf.all (fun e => decide (decode cX8_deathOf e.1 = .ok e.2)) = true := by decide +kernel
abbrev MX8_deathOf : am_MD := (8, yX8_deathOf, cX8_deathOf, 2, (Option.some FieldType.int), IX8_deathOf)
abbrev IX8_consentOf : List (Nat × Instr × Nat) := [(0, .aload_n 0, 1), (1, .iload_n 1, 1), (2, .invokevirtual 33, 3), (5, .ifCond .eq 12, 3), (8, .aload_n 0, 1), (9, .getfield 20, 3), (12, .iload_n 1, 1), (13, .aaload, 1), (14, .goto 4, 3), (17, .aconst_null, 1), (18, .areturn, 1)]
theorem IX8_consentOf_ok : IX8_consentOf.all (fun e => decide (decode cX8_consentOf e.1 = .ok e.2)) = true := by decide +kernel
abbrev MX8_consentOf : am_MD := (8, yX8_consentOf, cX8_consentOf, 2, (Option.some (FieldType.object "TapeHouse$Consent")), IX8_consentOf)
abbrev IX8_alikeTo : List (Nat × Instr × Nat) := [(0, .iconst 0, 1), (1, .istore_n 3, 1), (2, .iconst 0, 1), (3, .istore 4, 2), (5, .iload 4, 2), (7, .aload_n 0, 1), (8, .getfield 24, 3), (11, .if_icmp .ge 23, 3), (14, .aload_n 0, 1), (15, .iload_n 1, 1), (16, .iload 4, 2), (18, .iload_n 2, 1), (19, .invokevirtual 37, 3), (22, .ifCond .eq 6, 3), (25, .iinc 3 1, 3), (28, .iinc 4 1, 3), (31, .goto (-26), 3), (34, .iload_n 3, 1), (35, .ireturn, 1)]
theorem IX8_alikeTo_ok : IX8_alikeTo.all (fun e => decide (decode cX8_alikeTo e.1 = .ok e.2)) = true := by decide +kernel
abbrev MX8_alikeTo : am_MD := (8, yX8_alikeTo, cX8_alikeTo, 5, (Option.some FieldType.int), IX8_alikeTo)
abbrev IX8_areAlike : List (Nat × Instr × Nat) := [(0, .aload_n 0, 1), (1, .iload_n 1, 1), (2, .invokevirtual 33, 3), (5, .ifCond .eq 11, 3), (8, .aload_n 0, 1), (9, .iload_n 2, 1), (10, .invokevirtual 33, 3), (13, .ifCond .ne 5, 3), (16, .iconst 0, 1), (17, .ireturn, 1), (18, .iconst 0, 1), (19, .istore 4, 2), (21, .iload 4, 2), (23, .iconst 4, 1), (24, .if_icmp .ge 58, 3), (27, .iload_n 3, 1), (28, .iload 4, 2), (30, .ishr, 1), (31, .iconst 1, 1), (32, .iand, 1), (33, .iconst 1, 1), (34, .if_icmp .ne 7, 3), (37, .iconst 1, 1), (38, .goto 4, 3), (41, .iconst 0, 1), (42, .istore 5, 2), (44, .iload 5, 2), (46, .ifCond .eq 30, 3), (49, .aload_n 0, 1), (50, .getfield 9, 3), (53, .iload_n 1, 1), (54, .iconst 4, 1), (55, .imul, 1), (56, .iload 4, 2), (58, .iadd, 1), (59, .iaload, 1), (60, .aload_n 0, 1), (61, .getfield 9, 3), (64, .iload_n 2, 1), (65, .iconst 4, 1), (66, .imul, 1), (67, .iload 4, 2), (69, .iadd, 1), (70, .iaload, 1), (71, .if_icmp .eq 5, 3), (74, .iconst 0, 1), (75, .ireturn, 1), (76, .iinc 4 1, 3), (79, .goto (-58), 3), (82, .iconst 1, 1), (83, .ireturn, 1)]
theorem IX8_areAlike_ok : IX8_areAlike.all (fun e => decide (decode cX8_areAlike e.1 = .ok e.2)) = true := by decide +kernel
abbrev MX8_areAlike : am_MD := (8, yX8_areAlike, cX8_areAlike, 6, (Option.some FieldType.boolean), IX8_areAlike)
abbrev IX9_init : List (Nat × Instr × Nat) := [(0, .aload_n 0, 1), (1, .invokespecial 3, 3), (4, .aload_n 0, 1), (5, .new 9, 3), (8, .dup, 1), (9, .invokespecial 11, 3), (12, .putfield 12, 3), (15, .aload_n 0, 1), (16, .new 16, 3), (19, .dup, 1), (20, .invokespecial 18, 3), (23, .putfield 19, 3), (26, .aload_n 0, 1), (27, .new 23, 3), (30, .dup, 1), (31, .invokespecial 25, 3), (34, .putfield 26, 3), (37, .aload_n 0, 1), (38, .new 30, 3), (41, .dup, 1), (42, .invokespecial 32, 3), (45, .putfield 33, 3), (48, .aload_n 0, 1), (49, .new 37, 3), (52, .dup, 1), (53, .invokespecial 39, 3), (56, .putfield 40, 3), (59, .aload_n 0, 1), (60, .new 44, 3), (63, .dup, 1), (64, .invokespecial 46, 3), (67, .putfield 47, 3), (70, .aload_n 0, 1), (71, .new 51, 3), (74, .dup, 1), (75, .invokespecial 53, 3), (78, .putfield 54, 3), (81, .aload_n 0, 1), (82, .new 58, 3), (85, .dup, 1), (86, .invokespecial 60, 3), (89, .putfield 61, 3), (92, .aload_n 0, 1), (93, .iconst 4, 1), (94, .newarray .int, 2), (96, .putfield 65, 3), (99, .aload_n 0, 1), (100, .iconst 2, 1), (101, .putfield 69, 3), (104, .aload_n 0, 1), (105, .iconst (-1), 1), (106, .putfield 73, 3), (109, .aload_n 0, 1), (110, .new 76, 3), (113, .dup, 1), (114, .invokespecial 78, 3), (117, .putfield 79, 3), (120, .return_, 1)]
theorem IX9_init_ok : IX9_init.all (fun e => decide (decode cX9_init e.1 = .ok e.2)) = true := by decide +kernel
abbrev MX9_init : am_MD := (9, yX9_init, cX9_init, 1, none, IX9_init)
abbrev IX9_feed : List (Nat × Instr × Nat) := [(0, .aload_n 0, 1), (1, .getfield 12, 3), (4, .iload_n 1, 1), (5, .iload_n 2, 1), (6, .iload_n 3, 1), (7, .iload 4, 2), (9, .iload 5, 2), (11, .invokevirtual 83, 3), (14, .ireturn, 1)]
theorem IX9_feed_ok : IX9_feed.all (fun e => decide (decode cX9_feed e.1 = .ok e.2)) = true := by decide +kernel
abbrev MX9_feed : am_MD := (9, yX9_feed, cX9_feed, 6, (Option.some FieldType.int), IX9_feed)
abbrev IX9_back : List (Nat × Instr × Nat) := [(0, .aload_n 0, 1), (1, .getfield 12, 3), (4, .iload_n 1, 1), (5, .invokevirtual 87, 3), (8, .ireturn, 1)]
theorem IX9_back_ok : IX9_back.all (fun e => decide (decode cX9_back e.1 = .ok e.2)) = true := by decide +kernel
abbrev MX9_back : am_MD := (9, yX9_back, cX9_back, 2, (Option.some FieldType.int), IX9_back)
abbrev IX9_read : List (Nat × Instr × Nat) := [(0, .aload_n 0, 1), (1, .getfield 33, 3), (4, .iload_n 1, 1), (5, .invokevirtual 91, 3), (8, .ifCond .ne 5, 3), (11, .iconst (-1), 1), (12, .ireturn, 1), (13, .aload_n 0, 1), (14, .getfield 19, 3), (17, .aload_n 0, 1), (18, .getfield 12, 3), (21, .aload_n 0, 1), (22, .getfield 79, 3), (25, .aload_n 0, 1), (26, .getfield 40, 3), (29, .getfield 95, 3), (32, .invokevirtual 98, 3), (35, .istore_n 2, 1), (36, .aload_n 0, 1), (37, .aload_n 0, 1), (38, .getfield 19, 3), (41, .getfield 102, 3), (44, .putfield 73, 3), (47, .iload_n 2, 1), (48, .ifCond .ne 19, 3), (51, .aload_n 0, 1), (52, .aload_n 0, 1), (53, .getfield 33, 3), (56, .iload_n 1, 1), (57, .aload_n 0, 1), (58, .getfield 79, 3), (61, .invokevirtual 103, 3), (64, .putfield 79, 3), (67, .aload_n 0, 1), (68, .getfield 12, 3), (71, .invokevirtual 107, 3), (74, .iload_n 2, 1), (75, .ireturn, 1)]
theorem IX9_read_ok : IX9_read.all (fun e => decide (decode cX9_read e.1 = .ok e.2)) = true := by decide +kernel
abbrev MX9_read : am_MD := (9, yX9_read, cX9_read, 3, (Option.some FieldType.int), IX9_read)
abbrev IX9_isBelow : List (Nat × Instr × Nat) := [(0, .iload_n 0, 1), (1, .ifCond .lt 12, 3), (4, .iload_n 0, 1), (5, .iload_n 1, 1), (6, .if_icmp .ge 7, 3), (9, .iconst 1, 1), (10, .goto 4, 3), (13, .iconst 0, 1), (14, .ireturn, 1)]
theorem IX9_isBelow_ok : IX9_isBelow.all (fun e => decide (decode cX9_isBelow e.1 = .ok e.2)) = true := by decide +kernel
abbrev MX9_isBelow : am_MD := (9, yX9_isBelow, cX9_isBelow, 2, (Option.some FieldType.boolean), IX9_isBelow)
abbrev IX9_isVar : List (Nat × Instr × Nat) := [(0, .iload_n 0, 1), (1, .bipush 7, 2), (3, .if_icmp .lt 13, 3), (6, .iload_n 0, 1), (7, .bipush 13, 2), (9, .if_icmp .gt 7, 3), (12, .iconst 1, 1), (13, .goto 4, 3), (16, .iconst 0, 1), (17, .ireturn, 1)]
theorem IX9_isVar_ok : IX9_isVar.all (fun e => decide (decode cX9_isVar e.1 = .ok e.2)) = true := by decide +kernel
abbrev MX9_isVar : am_MD := (9, yX9_isVar, cX9_isVar, 1, (Option.some FieldType.boolean), IX9_isVar)
abbrev IX9_isOperator : List (Nat × Instr × Nat) := [(0, .iload_n 0, 1), (1, .bipush 17, 2), (3, .if_icmp .eq 15, 3), (6, .iload_n 0, 1), (7, .bipush 18, 2), (9, .if_icmp .eq 9, 3), (12, .iload_n 0, 1), (13, .bipush 19, 2), (15, .if_icmp .ne 7, 3), (18, .iconst 1, 1), (19, .goto 4, 3), (22, .iconst 0, 1), (23, .ireturn, 1)]
theorem IX9_isOperator_ok : IX9_isOperator.all (fun e => decide (decode cX9_isOperator e.1 = .ok e.2)) = true := by decide +kernel
abbrev MX9_isOperator : am_MD := (9, yX9_isOperator, cX9_isOperator, 1, (Option.some FieldType.boolean), IX9_isOperator)
abbrev IX9_place : List (Nat × Instr × Nat) := [(0, .aload_n 0, 1), (1, .getfield 73, 3), (4, .ireturn, 1)]
theorem IX9_place_ok : IX9_place.all (fun e => decide (decode cX9_place e.1 = .ok e.2)) = true := by decide +kernel
abbrev MX9_place : am_MD := (9, yX9_place, cX9_place, 1, (Option.some FieldType.int), IX9_place)
abbrev IX9_person : List (Nat × Instr × Nat) := [(0, .iload_n 1, 1), (1, .iconst 4, 1), (2, .invokestatic 110, 3), (5, .ifCond .eq 32, 3), (8, .iload_n 2, 1), (9, .iconst 4, 1), (10, .invokestatic 110, 3), (13, .ifCond .eq 24, 3), (16, .iload_n 3, 1), (17, .iconst 4, 1), (18, .invokestatic 110, 3), (21, .ifCond .eq 16, 3), (24, .iload 4, 2), (26, .iconst 4, 1), (27, .invokestatic 110, 3), (30, .ifCond .eq 7, 3), (33, .iconst 1, 1), (34, .goto 4, 3), (37, .iconst 0, 1), (38, .istore 5, 2), (40, .iload 5, 2), (42, .ifCond .eq 18, 3), (45, .aload_n 0, 1), (46, .getfield 33, 3), (49, .iload_n 1, 1), (50, .iload_n 2, 1), (51, .iload_n 3, 1), (52, .iload 4, 2), (54, .invokevirtual 114, 3), (57, .goto 4, 3), (60, .iconst (-1), 1), (61, .ireturn, 1)]
theorem IX9_person_ok : IX9_person.all (fun e => decide (decode cX9_person e.1 = .ok e.2)) = true := by decide +kernel
abbrev MX9_person : am_MD := (9, yX9_person, cX9_person, 6, (Option.some FieldType.int), IX9_person)
abbrev IX9_topic : List (Nat × Instr × Nat) := [(0, .iload_n 1, 1), (1, .iconst (-1), 1), (2, .if_icmp .eq 14, 3), (5, .aload_n 0, 1), (6, .getfield 40, 3), (9, .iload_n 1, 1), (10, .invokevirtual 118, 3), (13, .ifCond .eq 14, 3), (16, .aload_n 0, 1), (17, .getfield 40, 3), (20, .iload_n 1, 1), (21, .invokevirtual 119, 3), (24, .goto 4, 3), (27, .iconst (-1), 1), (28, .ireturn, 1)]
theorem IX9_topic_ok : IX9_topic.all (fun e => decide (decode cX9_topic e.1 = .ok e.2)) = true := by decide +kernel
abbrev MX9_topic : am_MD := (9, yX9_topic, cX9_topic, 2, (Option.some FieldType.int), IX9_topic)
abbrev IX9_tape : List (Nat × Instr × Nat) := [(0, .iload_n 3, 1), (1, .iconst 1, 1), (2, .if_icmp .lt 14, 3), (5, .iload_n 3, 1), (6, .sipush 999, 3), (9, .if_icmp .gt 7, 3), (12, .iconst 1, 1), (13, .goto 4, 3), (16, .iconst 0, 1), (17, .istore 4, 2), (19, .aload_n 0, 1), (20, .getfield 33, 3), (23, .iload_n 1, 1), (24, .invokevirtual 91, 3), (27, .ifCond .eq 28, 3), (30, .iload_n 2, 1), (31, .invokestatic 121, 3), (34, .ifCond .eq 21, 3), (37, .iload 4, 2), (39, .ifCond .eq 16, 3), (42, .aload_n 0, 1), (43, .getfield 47, 3), (46, .iload_n 1, 1), (47, .iload_n 2, 1), (48, .iload_n 3, 1), (49, .invokevirtual 124, 3), (52, .goto 4, 3), (55, .iconst (-1), 1), (56, .ireturn, 1)]
theorem IX9_tape_ok : IX9_tape.all (fun e => decide (decode cX9_tape e.1 = .ok e.2)) = true := by decide +kernel
abbrev MX9_tape : am_MD := (9, yX9_tape, cX9_tape, 5, (Option.some FieldType.int), IX9_tape)
abbrev IX9_isDay : List (Nat × Instr × Nat) := [(0, .iload_n 0, 1), (1, .ifCond .lt 14, 3), (4, .iload_n 0, 1), (5, .sipush 9999, 3), (8, .if_icmp .gt 7, 3), (11, .iconst 1, 1), (12, .goto 4, 3), (15, .iconst 0, 1), (16, .ireturn, 1)]
theorem IX9_isDay_ok : IX9_isDay.all (fun e => decide (decode cX9_isDay e.1 = .ok e.2)) = true := by decide +kernel
abbrev MX9_isDay : am_MD := (9, yX9_isDay, cX9_isDay, 1, (Option.some FieldType.boolean), IX9_isDay)
abbrev IX9_piece : List (Nat × Instr × Nat) := [(0, .aload_n 0, 1), (1, .getfield 47, 3), (4, .iload_n 1, 1), (5, .iload_n 2, 1), (6, .iload_n 3, 1), (7, .invokevirtual 128, 3), (10, .ifCond .eq 15, 3), (13, .aload_n 0, 1), (14, .getfield 40, 3), (17, .iload 4, 2), (19, .invokevirtual 118, 3), (22, .ifCond .ne 5, 3), (25, .iconst (-1), 1), (26, .ireturn, 1), (27, .iload 5, 2), (29, .iconst (-1), 1), (30, .if_icmp .ne 16, 3), (33, .iload 6, 2), (35, .ifCond .ne 7, 3), (38, .iconst 1, 1), (39, .goto 34, 3), (42, .iconst 0, 1), (43, .goto 30, 3), (46, .aload_n 0, 1), (47, .getfield 33, 3), (50, .iload 5, 2), (52, .invokevirtual 91, 3), (55, .ifCond .eq 17, 3), (58, .iload 6, 2), (60, .bipush 16, 2), (62, .invokestatic 110, 3), (65, .ifCond .eq 7, 3), (68, .iconst 1, 1), (69, .goto 4, 3), (72, .iconst 0, 1), (73, .istore 7, 2), (75, .iload 7, 2), (77, .ifCond .eq 22, 3), (80, .aload_n 0, 1), (81, .getfield 47, 3), (84, .iload_n 1, 1), (85, .iload_n 2, 1), (86, .iload_n 3, 1), (87, .iload 4, 2), (89, .iload 5, 2), (91, .iload 6, 2), (93, .invokevirtual 132, 3), (96, .goto 4, 3), (99, .iconst (-1), 1), (100, .ireturn, 1)]
theorem IX9_piece_ok : IX9_piece.all (fun e => decide (decode cX9_piece e.1 = .ok e.2)) = true := by decide +kernel
abbrev MX9_piece : am_MD := (9, yX9_piece, cX9_piece, 8, (Option.some FieldType.int), IX9_piece)
abbrev IX9_asker : List (Nat × Instr × Nat) := [(0, .iload_n 1, 1), (1, .iconst 4, 1), (2, .invokestatic 110, 3), (5, .ifCond .eq 14, 3), (8, .aload_n 0, 1), (9, .getfield 54, 3), (12, .iload_n 1, 1), (13, .invokevirtual 136, 3), (16, .goto 4, 3), (19, .iconst (-1), 1), (20, .ireturn, 1)]
theorem IX9_asker_ok : IX9_asker.all (fun e => decide (decode cX9_asker e.1 = .ok e.2)) = true := by decide +kernel
abbrev MX9_asker : am_MD := (9, yX9_asker, cX9_asker, 2, (Option.some FieldType.int), IX9_asker)
abbrev IX9_copy : List (Nat × Instr × Nat) := [(0, .iload_n 1, 1), (1, .ifCond .lt 18, 3), (4, .iload_n 1, 1), (5, .sipush 400, 3), (8, .if_icmp .gt 11, 3), (11, .aload_n 0, 1), (12, .getfield 137, 3), (15, .iconst 4, 1), (16, .if_icmp .lt 5, 3), (19, .iconst (-1), 1), (20, .ireturn, 1), (21, .aload_n 0, 1), (22, .getfield 65, 3), (25, .aload_n 0, 1), (26, .getfield 137, 3), (29, .iload_n 1, 1), (30, .iastore, 1), (31, .aload_n 0, 1), (32, .dup, 1), (33, .getfield 137, 3), (36, .iconst 1, 1), (37, .iadd, 1), (38, .putfield 137, 3), (41, .aload_n 0, 1), (42, .getfield 137, 3), (45, .iconst 1, 1), (46, .isub, 1), (47, .ireturn, 1)]
theorem IX9_copy_ok : IX9_copy.all (fun e => decide (decode cX9_copy e.1 = .ok e.2)) = true := by decide +kernel
abbrev MX9_copy : am_MD := (9, yX9_copy, cX9_copy, 2, (Option.some FieldType.int), IX9_copy)
abbrev IX9_bound : List (Nat × Instr × Nat) := [(0, .iload_n 1, 1), (1, .iconst 1, 1), (2, .if_icmp .lt 13, 3), (5, .iload_n 1, 1), (6, .bipush 12, 2), (8, .if_icmp .gt 7, 3), (11, .iconst 1, 1), (12, .goto 4, 3), (15, .iconst 0, 1), (16, .istore_n 2, 1), (17, .iload_n 2, 1), (18, .ifCond .eq 8, 3), (21, .aload_n 0, 1), (22, .iload_n 1, 1), (23, .putfield 69, 3), (26, .iload_n 2, 1), (27, .ireturn, 1)]
theorem IX9_bound_ok : IX9_bound.all (fun e => decide (decode cX9_bound e.1 = .ok e.2)) = true := by decide +kernel
abbrev MX9_bound : am_MD := (9, yX9_bound, cX9_bound, 3, (Option.some FieldType.boolean), IX9_bound)
abbrev IX9_dies : List (Nat × Instr × Nat) := [(0, .iload_n 2, 1), (1, .invokestatic 121, 3), (4, .ifCond .eq 19, 3), (7, .aload_n 0, 1), (8, .getfield 33, 3), (11, .iload_n 1, 1), (12, .iload_n 2, 1), (13, .invokevirtual 140, 3), (16, .ifCond .eq 7, 3), (19, .iconst 1, 1), (20, .goto 4, 3), (23, .iconst 0, 1), (24, .ireturn, 1)]
theorem IX9_dies_ok : IX9_dies.all (fun e => decide (decode cX9_dies e.1 = .ok e.2)) = true := by decide +kernel
abbrev MX9_dies : am_MD := (9, yX9_dies, cX9_dies, 3, (Option.some FieldType.boolean), IX9_dies)
abbrev IX9_takes : List (Nat × Instr × Nat) := [(0, .iload_n 2, 1), (1, .invokestatic 121, 3), (4, .ifCond .eq 19, 3), (7, .aload_n 0, 1), (8, .getfield 47, 3), (11, .iload_n 1, 1), (12, .iload_n 2, 1), (13, .invokevirtual 143, 3), (16, .ifCond .eq 7, 3), (19, .iconst 1, 1), (20, .goto 4, 3), (23, .iconst 0, 1), (24, .ireturn, 1)]
theorem IX9_takes_ok : IX9_takes.all (fun e => decide (decode cX9_takes e.1 = .ok e.2)) = true := by decide +kernel
abbrev MX9_takes : am_MD := (9, yX9_takes, cX9_takes, 3, (Option.some FieldType.boolean), IX9_takes)
abbrev IX9_let : List (Nat × Instr × Nat) := [(0, .aload_n 0, 1), (1, .iload_n 1, 1), (2, .iload_n 2, 1), (3, .iload_n 3, 1), (4, .iload 4, 2), (6, .invokevirtual 146, 3), (9, .ifCond .ne 5, 3), (12, .iconst (-1), 1), (13, .ireturn, 1), (14, .aload_n 0, 1), (15, .iload_n 1, 1), (16, .iload_n 2, 1), (17, .iload_n 3, 1), (18, .iload 4, 2), (20, .invokevirtual 150, 3), (23, .astore 5, 2), (25, .aload 5, 2), (27, .ifnonnull 8, 3), (30, .bipush (-3), 2), (32, .goto 12, 3), (35, .aload 5, 2), (37, .aload_n 0, 1), (38, .getfield 26, 3), (41, .invokevirtual 154, 3), (44, .ireturn, 1)]
theorem IX9_let_ok : IX9_let.all (fun e => decide (decode cX9_let e.1 = .ok e.2)) = true := by decide +kernel
abbrev MX9_let : am_MD := (9, yX9_let, cX9_let, 6, (Option.some FieldType.int), IX9_let)
abbrev IX9_isQuestion : List (Nat × Instr × Nat) := [(0, .aload_n 0, 1), (1, .getfield 47, 3), (4, .iload_n 1, 1), (5, .invokevirtual 176, 3), (8, .ifCond .eq 31, 3), (11, .iload_n 2, 1), (12, .invokestatic 121, 3), (15, .ifCond .eq 24, 3), (18, .iload_n 3, 1), (19, .iconst 4, 1), (20, .invokestatic 110, 3), (23, .ifCond .eq 16, 3), (26, .iload 4, 2), (28, .iconst 4, 1), (29, .invokestatic 110, 3), (32, .ifCond .eq 7, 3), (35, .iconst 1, 1), (36, .goto 4, 3), (39, .iconst 0, 1), (40, .ireturn, 1)]
theorem IX9_isQuestion_ok : IX9_isQuestion.all (fun e => decide (decode cX9_isQuestion e.1 = .ok e.2)) = true := by decide +kernel
abbrev MX9_isQuestion : am_MD := (9, yX9_isQuestion, cX9_isQuestion, 5, (Option.some FieldType.boolean), IX9_isQuestion)
abbrev IX9_pose : List (Nat × Instr × Nat) := [(0, .aload_n 0, 1), (1, .getfield 47, 3), (4, .iload_n 1, 1), (5, .invokevirtual 237, 3), (8, .istore 5, 2), (10, .aload_n 0, 1), (11, .getfield 47, 3), (14, .getfield 158, 3), (17, .iload_n 1, 1), (18, .iaload, 1), (19, .istore 6, 2), (21, .aload_n 0, 1), (22, .getfield 26, 3), (25, .aload_n 0, 1), (26, .getfield 47, 3), (29, .iload_n 1, 1), (30, .invokevirtual 240, 3), (33, .aload_n 0, 1), (34, .getfield 33, 3), (37, .iload 5, 2), (39, .invokevirtual 243, 3), (42, .aload_n 0, 1), (43, .getfield 40, 3), (46, .aload_n 0, 1), (47, .getfield 47, 3), (50, .getfield 193, 3), (53, .iload_n 1, 1), (54, .iaload, 1), (55, .invokevirtual 195, 3), (58, .invokevirtual 246, 3), (61, .aload_n 0, 1), (62, .getfield 26, 3), (65, .bipush 7, 2), (67, .iload_n 3, 1), (68, .invokevirtual 249, 3), (71, .aload_n 0, 1), (72, .getfield 26, 3), (75, .bipush 8, 2), (77, .iload 4, 2), (79, .invokevirtual 249, 3), (82, .aload_n 0, 1), (83, .getfield 26, 3), (86, .bipush 11, 2), (88, .iload_n 1, 1), (89, .invokevirtual 249, 3), (92, .aload_n 0, 1), (93, .getfield 26, 3), (96, .bipush 12, 2), (98, .iload 6, 2), (100, .invokevirtual 249, 3), (103, .aload_n 0, 1), (104, .getfield 26, 3), (107, .bipush 13, 2), (109, .iload 6, 2), (111, .iload 5, 2), (113, .if_icmp .ne 7, 3), (116, .iconst 1, 1), (117, .goto 4, 3), (120, .iconst 0, 1), (121, .invokevirtual 249, 3), (124, .aload_n 0, 1), (125, .getfield 26, 3), (128, .iload_n 2, 1), (129, .invokevirtual 208, 3), (132, .aload_n 0, 1), (133, .getfield 33, 3), (136, .iload 5, 2), (138, .invokevirtual 253, 3), (141, .areturn, 1)]
theorem IX9_pose_ok : IX9_pose.all (fun e => decide (decode cX9_pose e.1 = .ok e.2)) = true := by decide +kernel
abbrev MX9_pose : am_MD := (9, yX9_pose, cX9_pose, 7, (Option.some (FieldType.object "TapeHouse$Consent")), IX9_pose)
abbrev IX9_mask : List (Nat × Instr × Nat) := [(0, .aload_n 0, 1), (1, .iload_n 1, 1), (2, .iload_n 2, 1), (3, .iload_n 3, 1), (4, .iload 4, 2), (6, .invokevirtual 146, 3), (9, .ifCond .eq 16, 3), (12, .aload_n 0, 1), (13, .getfield 47, 3), (16, .getfield 158, 3), (19, .iload_n 1, 1), (20, .iaload, 1), (21, .iconst (-1), 1), (22, .if_icmp .ne 5, 3), (25, .iconst (-1), 1), (26, .ireturn, 1), (27, .aload_n 0, 1), (28, .iload_n 1, 1), (29, .iload_n 2, 1), (30, .iload_n 3, 1), (31, .iload 4, 2), (33, .invokevirtual 150, 3), (36, .astore 5, 2), (38, .aload 5, 2), (40, .ifnonnull 7, 3), (43, .iconst (-1), 1), (44, .goto 12, 3), (47, .aload 5, 2), (49, .aload_n 0, 1), (50, .getfield 26, 3), (53, .invokevirtual 161, 3), (56, .ireturn, 1)]
theorem IX9_mask_ok : IX9_mask.all (fun e => decide (decode cX9_mask e.1 = .ok e.2)) = true := by decide +kernel
abbrev MX9_mask : am_MD := (9, yX9_mask, cX9_mask, 6, (Option.some FieldType.int), IX9_mask)
abbrev IX9_would : List (Nat × Instr × Nat) := [(0, .aload_n 0, 1), (1, .iload_n 1, 1), (2, .iload_n 2, 1), (3, .iload_n 3, 1), (4, .iload 4, 2), (6, .iload 5, 2), (8, .invokevirtual 164, 3), (11, .ifCond .eq 17, 3), (14, .aload_n 0, 1), (15, .iload_n 1, 1), (16, .iload_n 2, 1), (17, .iload_n 3, 1), (18, .iload 4, 2), (20, .iload 5, 2), (22, .invokevirtual 168, 3), (25, .goto 4, 3), (28, .iconst (-1), 1), (29, .ireturn, 1)]
theorem IX9_would_ok : IX9_would.all (fun e => decide (decode cX9_would e.1 = .ok e.2)) = true := by decide +kernel
abbrev MX9_would : am_MD := (9, yX9_would, cX9_would, 6, (Option.some FieldType.int), IX9_would)
abbrev IX9_isAsking : List (Nat × Instr × Nat) := [(0, .iload_n 3, 1), (1, .iconst (-1), 1), (2, .if_icmp .eq 14, 3), (5, .iload_n 3, 1), (6, .aload_n 0, 1), (7, .getfield 137, 3), (10, .invokestatic 110, 3), (13, .ifCond .eq 7, 3), (16, .iconst 1, 1), (17, .goto 4, 3), (20, .iconst 0, 1), (21, .istore 6, 2), (23, .aload_n 0, 1), (24, .getfield 54, 3), (27, .iload_n 1, 1), (28, .invokevirtual 175, 3), (31, .ifCond .eq 40, 3), (34, .aload_n 0, 1), (35, .getfield 47, 3), (38, .iload_n 2, 1), (39, .invokevirtual 176, 3), (42, .ifCond .eq 29, 3), (45, .iload 6, 2), (47, .ifCond .eq 24, 3), (50, .iload 4, 2), (52, .invokestatic 121, 3), (55, .ifCond .eq 16, 3), (58, .iload 5, 2), (60, .iconst 4, 1), (61, .invokestatic 110, 3), (64, .ifCond .eq 7, 3), (67, .iconst 1, 1), (68, .goto 4, 3), (71, .iconst 0, 1), (72, .ireturn, 1)]
theorem IX9_isAsking_ok : IX9_isAsking.all (fun e => decide (decode cX9_isAsking e.1 = .ok e.2)) = true := by decide +kernel
abbrev MX9_isAsking : am_MD := (9, yX9_isAsking, cX9_isAsking, 7, (Option.some FieldType.boolean), IX9_isAsking)
abbrev IX9_answerTo : List (Nat × Instr × Nat) := [(0, .iload_n 3, 1), (1, .aload_n 0, 1), (2, .getfield 137, 3), (5, .invokestatic 110, 3), (8, .ifCond .eq 12, 3), (11, .aload_n 0, 1), (12, .getfield 65, 3), (15, .iload_n 3, 1), (16, .iaload, 1), (17, .goto 4, 3), (20, .iconst 0, 1), (21, .istore 6, 2), (23, .aload_n 0, 1), (24, .getfield 47, 3), (27, .getfield 257, 3), (30, .iload_n 2, 1), (31, .iaload, 1), (32, .istore 7, 2), (34, .iload 7, 2), (36, .iconst (-1), 1), (37, .if_icmp .eq 15, 3), (40, .iload 7, 2), (42, .iload 6, 2), (44, .iadd, 1), (45, .iload 4, 2), (47, .if_icmp .gt 5, 3), (50, .iconst 0, 1), (51, .ireturn, 1), (52, .aload_n 0, 1), (53, .iload_n 2, 1), (54, .iload 4, 2), (56, .aload_n 0, 1), (57, .getfield 54, 3), (60, .iload_n 1, 1), (61, .invokevirtual 260, 3), (64, .iload 5, 2), (66, .invokevirtual 150, 3), (69, .astore 8, 2), (71, .aload 8, 2), (73, .ifnull 15, 3), (76, .aload 8, 2), (78, .aload_n 0, 1), (79, .getfield 26, 3), (82, .invokevirtual 154, 3), (85, .ifCond .ge 5, 3), (88, .iconst 1, 1), (89, .ireturn, 1), (90, .aload_n 0, 1), (91, .getfield 47, 3), (94, .getfield 158, 3), (97, .iload_n 2, 1), (98, .iaload, 1), (99, .iconst (-1), 1), (100, .if_icmp .eq 16, 3), (103, .aload 8, 2), (105, .aload_n 0, 1), (106, .getfield 26, 3), (109, .invokevirtual 161, 3), (112, .iconst (-1), 1), (113, .if_icmp .ne 5, 3), (116, .iconst 2, 1), (117, .ireturn, 1), (118, .aload_n 0, 1), (119, .iload_n 1, 1), (120, .iload_n 2, 1), (121, .invokevirtual 263, 3), (124, .ifCond .eq 7, 3), (127, .iconst 4, 1), (128, .goto 4, 3), (131, .iconst 3, 1), (132, .ireturn, 1)]
theorem IX9_answerTo_ok : IX9_answerTo.all (fun e => decide (decode cX9_answerTo e.1 = .ok e.2)) = true := by decide +kernel
abbrev MX9_answerTo : am_MD := (9, yX9_answerTo, cX9_answerTo, 9, (Option.some FieldType.int), IX9_answerTo)
abbrev IX9_wouldUnmask : List (Nat × Instr × Nat) := [(0, .aload_n 0, 1), (1, .getfield 47, 3), (4, .getfield 158, 3), (7, .iload_n 2, 1), (8, .iaload, 1), (9, .istore_n 3, 1), (10, .aload_n 0, 1), (11, .iload_n 1, 1), (12, .iload_n 3, 1), (13, .invokevirtual 184, 3), (16, .aload_n 0, 1), (17, .getfield 47, 3), (20, .getfield 266, 3), (23, .iload_n 2, 1), (24, .iaload, 1), (25, .ior, 1), (26, .istore 4, 2), (28, .aload_n 0, 1), (29, .getfield 33, 3), (32, .iload_n 3, 1), (33, .iload 4, 2), (35, .invokevirtual 187, 3), (38, .aload_n 0, 1), (39, .getfield 69, 3), (42, .if_icmp .ge 16, 3), (45, .aload_n 0, 1), (46, .iload_n 1, 1), (47, .iload_n 3, 1), (48, .invokevirtual 181, 3), (51, .ifCond .ne 7, 3), (54, .iconst 1, 1), (55, .goto 4, 3), (58, .iconst 0, 1), (59, .ireturn, 1)]
theorem IX9_wouldUnmask_ok : IX9_wouldUnmask.all (fun e => decide (decode cX9_wouldUnmask e.1 = .ok e.2)) = true := by decide +kernel
abbrev MX9_wouldUnmask : am_MD := (9, yX9_wouldUnmask, cX9_wouldUnmask, 5, (Option.some FieldType.boolean), IX9_wouldUnmask)
abbrev IX9_knownTraits : List (Nat × Instr × Nat) := [(0, .iconst 0, 1), (1, .istore_n 3, 1), (2, .iconst 0, 1), (3, .istore 4, 2), (5, .iload 4, 2), (7, .aload_n 0, 1), (8, .getfield 47, 3), (11, .getfield 190, 3), (14, .if_icmp .ge 50, 3), (17, .aload_n 0, 1), (18, .getfield 47, 3), (21, .getfield 158, 3), (24, .iload 4, 2), (26, .iaload, 1), (27, .iload_n 2, 1), (28, .if_icmp .ne 30, 3), (31, .aload_n 0, 1), (32, .getfield 54, 3), (35, .iload_n 1, 1), (36, .iload 4, 2), (38, .invokevirtual 177, 3), (41, .iconst 3, 1), (42, .if_icmp .ne 16, 3), (45, .iload_n 3, 1), (46, .aload_n 0, 1), (47, .getfield 47, 3), (50, .getfield 266, 3), (53, .iload 4, 2), (55, .iaload, 1), (56, .ior, 1), (57, .istore_n 3, 1), (58, .iinc 4 1, 3), (61, .goto (-56), 3), (64, .iload_n 3, 1), (65, .ireturn, 1)]
theorem IX9_knownTraits_ok : IX9_knownTraits.all (fun e => decide (decode cX9_knownTraits e.1 = .ok e.2)) = true := by decide +kernel
abbrev MX9_knownTraits : am_MD := (9, yX9_knownTraits, cX9_knownTraits, 5, (Option.some FieldType.int), IX9_knownTraits)
abbrev IX9_knowsByName : List (Nat × Instr × Nat) := [(0, .iconst 0, 1), (1, .istore_n 3, 1), (2, .iload_n 3, 1), (3, .aload_n 0, 1), (4, .getfield 47, 3), (7, .getfield 190, 3), (10, .if_icmp .ge 37, 3), (13, .aload_n 0, 1), (14, .getfield 47, 3), (17, .getfield 158, 3), (20, .iload_n 3, 1), (21, .iaload, 1), (22, .iload_n 2, 1), (23, .if_icmp .ne 18, 3), (26, .aload_n 0, 1), (27, .getfield 54, 3), (30, .iload_n 1, 1), (31, .iload_n 3, 1), (32, .invokevirtual 177, 3), (35, .iconst 2, 1), (36, .if_icmp .ne 5, 3), (39, .iconst 1, 1), (40, .ireturn, 1), (41, .iinc 3 1, 3), (44, .goto (-42), 3), (47, .iconst 0, 1), (48, .ireturn, 1)]
theorem IX9_knowsByName_ok : IX9_knowsByName.all (fun e => decide (decode cX9_knowsByName e.1 = .ok e.2)) = true := by decide +kernel
abbrev MX9_knowsByName : am_MD := (9, yX9_knowsByName, cX9_knowsByName, 4, (Option.some FieldType.boolean), IX9_knowsByName)
abbrev IX9_ask : List (Nat × Instr × Nat) := [(0, .aload_n 0, 1), (1, .iload_n 1, 1), (2, .iload_n 2, 1), (3, .iload_n 3, 1), (4, .iload 4, 2), (6, .iload 5, 2), (8, .invokevirtual 164, 3), (11, .ifCond .ne 5, 3), (14, .iconst (-1), 1), (15, .ireturn, 1), (16, .aload_n 0, 1), (17, .iload_n 1, 1), (18, .iload_n 2, 1), (19, .iload_n 3, 1), (20, .iload 4, 2), (22, .iload 5, 2), (24, .invokevirtual 168, 3), (27, .istore 6, 2), (29, .iload 6, 2), (31, .iconst 2, 1), (32, .if_icmp .eq 9, 3), (35, .iload 6, 2), (37, .iconst 3, 1), (38, .if_icmp .ne 14, 3), (41, .aload_n 0, 1), (42, .getfield 54, 3), (45, .iload_n 1, 1), (46, .iload_n 2, 1), (47, .iload 6, 2), (49, .invokevirtual 171, 3), (52, .iload 6, 2), (54, .ireturn, 1)]
theorem IX9_ask_ok : IX9_ask.all (fun e => decide (decode cX9_ask e.1 = .ok e.2)) = true := by decide +kernel
abbrev MX9_ask : am_MD := (9, yX9_ask, cX9_ask, 7, (Option.some FieldType.int), IX9_ask)
abbrev IX9_heard : List (Nat × Instr × Nat) := [(0, .aload_n 0, 1), (1, .getfield 54, 3), (4, .iload_n 1, 1), (5, .invokevirtual 175, 3), (8, .ifCond .eq 26, 3), (11, .aload_n 0, 1), (12, .getfield 47, 3), (15, .iload_n 2, 1), (16, .invokevirtual 176, 3), (19, .ifCond .eq 15, 3), (22, .aload_n 0, 1), (23, .getfield 54, 3), (26, .iload_n 1, 1), (27, .iload_n 2, 1), (28, .invokevirtual 177, 3), (31, .goto 4, 3), (34, .iconst (-1), 1), (35, .ireturn, 1)]
theorem IX9_heard_ok : IX9_heard.all (fun e => decide (decode cX9_heard e.1 = .ok e.2)) = true := by decide +kernel
abbrev MX9_heard : am_MD := (9, yX9_heard, cX9_heard, 3, (Option.some FieldType.int), IX9_heard)
abbrev IX9_could : List (Nat × Instr × Nat) := [(0, .aload_n 0, 1), (1, .getfield 54, 3), (4, .iload_n 1, 1), (5, .invokevirtual 175, 3), (8, .ifCond .eq 14, 3), (11, .aload_n 0, 1), (12, .getfield 33, 3), (15, .iload_n 2, 1), (16, .invokevirtual 91, 3), (19, .ifCond .ne 5, 3), (22, .iconst (-1), 1), (23, .ireturn, 1), (24, .aload_n 0, 1), (25, .iload_n 1, 1), (26, .iload_n 2, 1), (27, .invokevirtual 181, 3), (30, .ifCond .eq 5, 3), (33, .iconst 1, 1), (34, .ireturn, 1), (35, .aload_n 0, 1), (36, .getfield 33, 3), (39, .iload_n 2, 1), (40, .aload_n 0, 1), (41, .iload_n 1, 1), (42, .iload_n 2, 1), (43, .invokevirtual 184, 3), (46, .invokevirtual 187, 3), (49, .ireturn, 1)]
theorem IX9_could_ok : IX9_could.all (fun e => decide (decode cX9_could e.1 = .ok e.2)) = true := by decide +kernel
abbrev MX9_could : am_MD := (9, yX9_could, cX9_could, 3, (Option.some FieldType.int), IX9_could)
abbrev IX9_seconds : List (Nat × Instr × Nat) := [(0, .aload_n 0, 1), (1, .getfield 40, 3), (4, .iload_n 1, 1), (5, .invokevirtual 118, 3), (8, .ifCond .eq 19, 3), (11, .iload_n 2, 1), (12, .iconst (-1), 1), (13, .if_icmp .eq 16, 3), (16, .aload_n 0, 1), (17, .getfield 54, 3), (20, .iload_n 2, 1), (21, .invokevirtual 175, 3), (24, .ifCond .ne 5, 3), (27, .iconst (-1), 1), (28, .ireturn, 1), (29, .iconst 0, 1), (30, .istore_n 3, 1), (31, .iconst 0, 1), (32, .istore 4, 2), (34, .iload 4, 2), (36, .aload_n 0, 1), (37, .getfield 47, 3), (40, .getfield 190, 3), (43, .if_icmp .ge 88, 3), (46, .iload_n 2, 1), (47, .iconst (-1), 1), (48, .if_icmp .eq 16, 3), (51, .aload_n 0, 1), (52, .getfield 54, 3), (55, .iload_n 2, 1), (56, .iload 4, 2), (58, .invokevirtual 177, 3), (61, .ifCond .eq 7, 3), (64, .iconst 1, 1), (65, .goto 4, 3), (68, .iconst 0, 1), (69, .istore 5, 2), (71, .iload 5, 2), (73, .ifCond .eq 52, 3), (76, .aload_n 0, 1), (77, .getfield 40, 3), (80, .aload_n 0, 1), (81, .getfield 47, 3), (84, .getfield 193, 3), (87, .iload 4, 2), (89, .iaload, 1), (90, .invokevirtual 195, 3), (93, .iload_n 1, 1), (94, .ishr, 1), (95, .iconst 1, 1), (96, .iand, 1), (97, .iconst 1, 1), (98, .if_icmp .ne 27, 3), (101, .iload_n 3, 1), (102, .aload_n 0, 1), (103, .getfield 47, 3), (106, .getfield 198, 3), (109, .iload 4, 2), (111, .iaload, 1), (112, .aload_n 0, 1), (113, .getfield 47, 3), (116, .getfield 201, 3), (119, .iload 4, 2), (121, .iaload, 1), (122, .isub, 1), (123, .iadd, 1), (124, .istore_n 3, 1), (125, .iinc 4 1, 3), (128, .goto (-94), 3), (131, .iload_n 3, 1), (132, .ireturn, 1)]
theorem IX9_seconds_ok : IX9_seconds.all (fun e => decide (decode cX9_seconds e.1 = .ok e.2)) = true := by decide +kernel
abbrev MX9_seconds : am_MD := (9, yX9_seconds, cX9_seconds, 6, (Option.some FieldType.int), IX9_seconds)
abbrev IX9_opens : List (Nat × Instr × Nat) := [(0, .aload_n 0, 1), (1, .iload_n 1, 1), (2, .iload_n 2, 1), (3, .iload_n 3, 1), (4, .iload 4, 2), (6, .invokevirtual 146, 3), (9, .ifCond .ne 5, 3), (12, .iconst (-1), 1), (13, .ireturn, 1), (14, .aload_n 0, 1), (15, .iload_n 1, 1), (16, .iload_n 2, 1), (17, .iload_n 3, 1), (18, .iload 4, 2), (20, .invokevirtual 150, 3), (23, .astore 5, 2), (25, .aload 5, 2), (27, .ifnonnull 5, 3), (30, .iconst (-1), 1), (31, .ireturn, 1), (32, .aload 5, 2), (34, .getfield 204, 3), (37, .ifCond .eq 9, 3), (40, .sipush 9999, 3), (43, .goto 4, 3), (46, .iload_n 2, 1), (47, .istore 6, 2), (49, .iload_n 2, 1), (50, .istore 7, 2), (52, .iload 7, 2), (54, .iload 6, 2), (56, .if_icmp .gt 33, 3), (59, .aload_n 0, 1), (60, .getfield 26, 3), (63, .iload 7, 2), (65, .invokevirtual 208, 3), (68, .aload 5, 2), (70, .aload_n 0, 1), (71, .getfield 26, 3), (74, .invokevirtual 154, 3), (77, .ifCond .lt 6, 3), (80, .iload 7, 2), (82, .ireturn, 1), (83, .iinc 7 1, 3), (86, .goto (-34), 3), (89, .iconst (-1), 1), (90, .ireturn, 1)]
theorem IX9_opens_ok : IX9_opens.all (fun e => decide (decode cX9_opens e.1 = .ok e.2)) = true := by decide +kernel
abbrev MX9_opens : am_MD := (9, yX9_opens, cX9_opens, 8, (Option.some FieldType.int), IX9_opens)
abbrev IX9_at : List (Nat × Instr × Nat) := [(0, .aload_n 0, 1), (1, .getfield 47, 3), (4, .iload_n 1, 1), (5, .iload_n 2, 1), (6, .invokevirtual 212, 3), (9, .ireturn, 1)]
theorem IX9_at_ok : IX9_at.all (fun e => decide (decode cX9_at e.1 = .ok e.2)) = true := by decide +kernel
abbrev MX9_at : am_MD := (9, yX9_at, cX9_at, 3, (Option.some FieldType.int), IX9_at)
abbrev IX9_span : List (Nat × Instr × Nat) := [(0, .iload_n 1, 1), (1, .invokestatic 215, 3), (4, .ifCond .eq 37, 3), (7, .iload_n 2, 1), (8, .invokestatic 121, 3), (11, .ifCond .eq 30, 3), (14, .iload_n 3, 1), (15, .invokestatic 121, 3), (18, .ifCond .eq 23, 3), (21, .iload_n 2, 1), (22, .iload_n 3, 1), (23, .if_icmp .gt 18, 3), (26, .aload_n 0, 1), (27, .getfield 61, 3), (30, .iconst 0, 1), (31, .iload_n 1, 1), (32, .iload_n 1, 1), (33, .iload_n 2, 1), (34, .iload_n 3, 1), (35, .invokevirtual 218, 3), (38, .goto 4, 3), (41, .iconst (-1), 1), (42, .ireturn, 1)]
theorem IX9_span_ok : IX9_span.all (fun e => decide (decode cX9_span e.1 = .ok e.2)) = true := by decide +kernel
abbrev MX9_span : am_MD := (9, yX9_span, cX9_span, 4, (Option.some FieldType.int), IX9_span)
abbrev IX9_isEvent : List (Nat × Instr × Nat) := [(0, .iload_n 0, 1), (1, .ifCond .lt 13, 3), (4, .iload_n 0, 1), (5, .bipush 10, 2), (7, .if_icmp .ge 7, 3), (10, .iconst 1, 1), (11, .goto 4, 3), (14, .iconst 0, 1), (15, .ireturn, 1)]
theorem IX9_isEvent_ok : IX9_isEvent.all (fun e => decide (decode cX9_isEvent e.1 = .ok e.2)) = true := by decide +kernel
abbrev MX9_isEvent : am_MD := (9, yX9_isEvent, cX9_isEvent, 1, (Option.some FieldType.boolean), IX9_isEvent)
abbrev IX9_behind : List (Nat × Instr × Nat) := [(0, .iload_n 3, 1), (1, .sipush (-9999), 3), (4, .if_icmp .lt 14, 3), (7, .iload_n 3, 1), (8, .sipush 9999, 3), (11, .if_icmp .gt 7, 3), (14, .iconst 1, 1), (15, .goto 4, 3), (18, .iconst 0, 1), (19, .istore 4, 2), (21, .iload_n 1, 1), (22, .iload_n 2, 1), (23, .invokestatic 220, 3), (26, .ifCond .eq 23, 3), (29, .iload 4, 2), (31, .ifCond .eq 18, 3), (34, .aload_n 0, 1), (35, .getfield 61, 3), (38, .iconst 1, 1), (39, .iload_n 1, 1), (40, .iload_n 2, 1), (41, .iload_n 3, 1), (42, .iconst 0, 1), (43, .invokevirtual 218, 3), (46, .goto 4, 3), (49, .iconst (-1), 1), (50, .ireturn, 1)]
theorem IX9_behind_ok : IX9_behind.all (fun e => decide (decode cX9_behind e.1 = .ok e.2)) = true := by decide +kernel
abbrev MX9_behind : am_MD := (9, yX9_behind, cX9_behind, 5, (Option.some FieldType.int), IX9_behind)
abbrev IX9_areTwoEvents : List (Nat × Instr × Nat) := [(0, .iload_n 0, 1), (1, .invokestatic 215, 3), (4, .ifCond .eq 19, 3), (7, .iload_n 1, 1), (8, .invokestatic 215, 3), (11, .ifCond .eq 12, 3), (14, .iload_n 0, 1), (15, .iload_n 1, 1), (16, .if_icmp .eq 7, 3), (19, .iconst 1, 1), (20, .goto 4, 3), (23, .iconst 0, 1), (24, .ireturn, 1)]
theorem IX9_areTwoEvents_ok : IX9_areTwoEvents.all (fun e => decide (decode cX9_areTwoEvents e.1 = .ok e.2)) = true := by decide +kernel
abbrev MX9_areTwoEvents : am_MD := (9, yX9_areTwoEvents, cX9_areTwoEvents, 2, (Option.some FieldType.boolean), IX9_areTwoEvents)
abbrev IX9_same : List (Nat × Instr × Nat) := [(0, .iload_n 1, 1), (1, .iload_n 2, 1), (2, .invokestatic 220, 3), (5, .ifCond .eq 18, 3), (8, .aload_n 0, 1), (9, .getfield 61, 3), (12, .iconst 2, 1), (13, .iload_n 1, 1), (14, .iload_n 2, 1), (15, .iconst 0, 1), (16, .iconst 0, 1), (17, .invokevirtual 218, 3), (20, .goto 4, 3), (23, .iconst (-1), 1), (24, .ireturn, 1)]
theorem IX9_same_ok : IX9_same.all (fun e => decide (decode cX9_same e.1 = .ok e.2)) = true := by decide +kernel
abbrev MX9_same : am_MD := (9, yX9_same, cX9_same, 3, (Option.some FieldType.int), IX9_same)
abbrev IX9_left : List (Nat × Instr × Nat) := [(0, .aload_n 0, 1), (1, .getfield 61, 3), (4, .iload_n 1, 1), (5, .invokevirtual 223, 3), (8, .ireturn, 1)]
theorem IX9_left_ok : IX9_left.all (fun e => decide (decode cX9_left e.1 = .ok e.2)) = true := by decide +kernel
abbrev MX9_left : am_MD := (9, yX9_left, cX9_left, 2, (Option.some FieldType.int), IX9_left)
abbrev IX9_when : List (Nat × Instr × Nat) := [(0, .iload_n 1, 1), (1, .invokestatic 215, 3), (4, .ifCond .eq 12, 3), (7, .iload_n 3, 1), (8, .ifCond .lt 8, 3), (11, .iload_n 3, 1), (12, .iconst 1, 1), (13, .if_icmp .le 5, 3), (16, .iconst (-1), 1), (17, .ireturn, 1), (18, .aload_n 0, 1), (19, .getfield 61, 3), (22, .iload_n 1, 1), (23, .iload_n 2, 1), (24, .iload_n 3, 1), (25, .iconst 1, 1), (26, .if_icmp .ne 7, 3), (29, .iconst 1, 1), (30, .goto 4, 3), (33, .iconst 0, 1), (34, .invokevirtual 226, 3), (37, .ireturn, 1)]
theorem IX9_when_ok : IX9_when.all (fun e => decide (decode cX9_when e.1 = .ok e.2)) = true := by decide +kernel
abbrev MX9_when : am_MD := (9, yX9_when, cX9_when, 4, (Option.some FieldType.int), IX9_when)
abbrev IX9_count : List (Nat × Instr × Nat) := [(0, .iload_n 1, 1), (1, .tableswitch 117 0 8 #[51, 59, 67, 75, 83, 91, 96, 104, 112], 51), (52, .aload_n 0, 1), (53, .getfield 33, 3), (56, .getfield 230, 3), (59, .ireturn, 1), (60, .aload_n 0, 1), (61, .getfield 40, 3), (64, .getfield 95, 3), (67, .ireturn, 1), (68, .aload_n 0, 1), (69, .getfield 47, 3), (72, .getfield 231, 3), (75, .ireturn, 1), (76, .aload_n 0, 1), (77, .getfield 47, 3), (80, .getfield 190, 3), (83, .ireturn, 1), (84, .aload_n 0, 1), (85, .getfield 54, 3), (88, .getfield 234, 3), (91, .ireturn, 1), (92, .aload_n 0, 1), (93, .getfield 137, 3), (96, .ireturn, 1), (97, .aload_n 0, 1), (98, .getfield 61, 3), (101, .getfield 235, 3), (104, .ireturn, 1), (105, .aload_n 0, 1), (106, .getfield 12, 3), (109, .getfield 236, 3), (112, .ireturn, 1), (113, .aload_n 0, 1), (114, .getfield 69, 3), (117, .ireturn, 1), (118, .iconst (-1), 1), (119, .ireturn, 1)]
theorem IX9_count_ok : IX9_count.all (fun e => decide (decode cX9_count e.1 = .ok e.2)) = true := by decide +kernel
abbrev MX9_count : am_MD := (9, yX9_count, cX9_count, 2, (Option.some FieldType.int), IX9_count)
end
section
abbrev IX10_init_0 : List (Nat × Instr × Nat) := [(0, .aload_n 0, 1), (1, .invokespecial 7, 3), (4, .aload_n 0, 1), (5, .sipush 2000, 3), (8, .newarray .byte, 2), (10, .putfield 13, 3), (13, .aload_n 0, 1), (14, .sipush 2000, 3), (17, .newarray .byte, 2), (19, .putfield 17, 3), (22, .aload_n 0, 1), (23, .sipush 403, 3), (26, .newarray .int, 2), (28, .putfield 20, 3), (31, .aload_n 0, 1), (32, .sipush 403, 3), (35, .newarray .int, 2), (37, .putfield 24, 3), (40, .aload_n 0, 1), (41, .sipush 403, 3), (44, .newarray .int, 2), (46, .putfield 27, 3), (49, .aload_n 0, 1), (50, .sipush 403, 3), (53, .newarray .long, 2), (55, .putfield 30, 3), (58, .aload_n 0, 1), (59, .bipush 14, 2), (61, .newarray .long, 2), (63, .putfield 34, 3), (66, .aload_n 0, 1), (67, .iconst (-1), 1), (68, .putfield 37, 3), (71, .aload_n 0, 1), (72, .bipush 12, 2), (74, .newarray .int, 2), (76, .putfield 40, 3), (79, .aload_n 0, 1), (80, .bipush 24, 2), (82, .newarray .int, 2), (84, .putfield 43, 3), (87, .aload_n 0, 1), (88, .sipush 384, 3), (91, .newarray .int, 2), (93, .putfield 46, 3), (96, .aload_n 0, 1), (97, .sipush 384, 3), (100, .newarray .int, 2), (102, .putfield 49, 3), (105, .aload_n 0, 1), (106, .sipush 384, 3), (109, .newarray .int, 2), (111, .putfield 52, 3), (114, .aload_n 0, 1), (115, .bipush 24, 2), (117, .newarray .int, 2), (119, .putfield 55, 3), (122, .aload_n 0, 1), (123, .sipush 4800, 3), (126, .newarray .int, 2)]
theorem IX10_init_0_ok : IX10_init_0.all (fun e => decide (decode cX10_init e.1 = .ok e.2)) = true := by decide +kernel
abbrev IX10_init_1 : List (Nat × Instr × Nat) := [(128, .putfield 58, 3), (131, .aload_n 0, 1), (132, .sipush 4800, 3), (135, .newarray .int, 2), (137, .putfield 61, 3), (140, .aload_n 0, 1), (141, .sipush 4800, 3), (144, .newarray .int, 2), (146, .putfield 64, 3), (149, .aload_n 0, 1), (150, .sipush 4800, 3), (153, .newarray .int, 2), (155, .putfield 67, 3), (158, .aload_n 0, 1), (159, .sipush 4800, 3), (162, .newarray .boolean, 2), (164, .putfield 70, 3), (167, .aload_n 0, 1), (168, .sipush 12000, 3), (171, .newarray .int, 2), (173, .putfield 74, 3), (176, .aload_n 0, 1), (177, .sipush 12000, 3), (180, .newarray .int, 2), (182, .putfield 77, 3), (185, .aload_n 0, 1), (186, .bipush 48, 2), (188, .newarray .int, 2), (190, .putfield 80, 3), (193, .aload_n 0, 1), (194, .bipush 48, 2), (196, .newarray .int, 2), (198, .putfield 83, 3), (201, .aload_n 0, 1), (202, .bipush 12, 2), (204, .newarray .int, 2), (206, .putfield 86, 3), (209, .aload_n 0, 1), (210, .bipush 12, 2), (212, .newarray .int, 2), (214, .putfield 89, 3), (217, .aload_n 0, 1), (218, .bipush 6, 2), (220, .newarray .int, 2), (222, .putfield 92, 3), (225, .aload_n 0, 1), (226, .bipush 6, 2), (228, .newarray .int, 2), (230, .putfield 95, 3), (233, .aload_n 0, 1), (234, .bipush 6, 2), (236, .newarray .int, 2), (238, .putfield 98, 3), (241, .aload_n 0, 1), (242, .bipush 30, 2), (244, .newarray .int, 2), (246, .putfield 101, 3), (249, .aload_n 0, 1), (250, .bipush 30, 2), (252, .newarray .int, 2)]
theorem IX10_init_1_ok : IX10_init_1.all (fun e => decide (decode cX10_init e.1 = .ok e.2)) = true := by decide +kernel
abbrev IX10_init_2 : List (Nat × Instr × Nat) := [(254, .putfield 104, 3), (257, .aload_n 0, 1), (258, .bipush 30, 2), (260, .newarray .int, 2), (262, .putfield 107, 3), (265, .aload_n 0, 1), (266, .bipush 30, 2), (268, .newarray .int, 2), (270, .putfield 110, 3), (273, .aload_n 0, 1), (274, .bipush 30, 2), (276, .newarray .int, 2), (278, .putfield 113, 3), (281, .aload_n 0, 1), (282, .bipush 30, 2), (284, .newarray .int, 2), (286, .putfield 116, 3), (289, .aload_n 0, 1), (290, .bipush 30, 2), (292, .newarray .int, 2), (294, .putfield 119, 3), (297, .aload_n 0, 1), (298, .bipush 6, 2), (300, .newarray .int, 2), (302, .putfield 122, 3), (305, .aload_n 0, 1), (306, .iconst 4, 1), (307, .newarray .int, 2), (309, .putfield 125, 3), (312, .aload_n 0, 1), (313, .bipush 7, 2), (315, .newarray .int, 2), (317, .putfield 128, 3), (320, .aload_n 0, 1), (321, .sipush 500, 3), (324, .newarray .int, 2), (326, .putfield 131, 3), (329, .aload_n 0, 1), (330, .sipush 180, 3), (333, .newarray .int, 2), (335, .putfield 134, 3), (338, .aload_n 0, 1), (339, .bipush 12, 2), (341, .newarray .int, 2), (343, .putfield 137, 3), (346, .aload_n 0, 1), (347, .bipush 12, 2), (349, .newarray .int, 2), (351, .putfield 140, 3), (354, .aload_n 0, 1), (355, .bipush 12, 2), (357, .newarray .int, 2), (359, .putfield 143, 3), (362, .aload_n 0, 1), (363, .bipush 12, 2), (365, .newarray .int, 2), (367, .putfield 146, 3), (370, .aload_n 0, 1), (371, .bipush 10, 2), (373, .newarray .int, 2)]
theorem IX10_init_2_ok : IX10_init_2.all (fun e => decide (decode cX10_init e.1 = .ok e.2)) = true := by decide +kernel
abbrev IX10_init_3 : List (Nat × Instr × Nat) := [(375, .putfield 149, 3), (378, .aload_n 0, 1), (379, .bipush 10, 2), (381, .newarray .int, 2), (383, .putfield 152, 3), (386, .aload_n 0, 1), (387, .getfield 34, 3), (390, .iconst 0, 1), (391, .bipush 108, 2), (393, .bipush 101, 2), (395, .bipush 116, 2), (397, .iconst 0, 1), (398, .iconst 0, 1), (399, .iconst 0, 1), (400, .iconst 0, 1), (401, .invokestatic 155, 3), (404, .lastore, 1), (405, .aload_n 0, 1), (406, .getfield 34, 3), (409, .iconst 1, 1), (410, .bipush 107, 2), (412, .bipush 101, 2), (414, .bipush 101, 2), (416, .bipush 112, 2), (418, .iconst 0, 1), (419, .iconst 0, 1), (420, .iconst 0, 1), (421, .invokestatic 155, 3), (424, .lastore, 1), (425, .aload_n 0, 1), (426, .getfield 34, 3), (429, .iconst 2, 1), (430, .bipush 109, 2), (432, .bipush 97, 2), (434, .bipush 115, 2), (436, .bipush 107, 2), (438, .iconst 0, 1), (439, .iconst 0, 1), (440, .iconst 0, 1), (441, .invokestatic 155, 3), (444, .lastore, 1), (445, .aload_n 0, 1), (446, .getfield 34, 3), (449, .iconst 3, 1), (450, .bipush 105, 2), (452, .bipush 102, 2), (454, .iconst 0, 1), (455, .iconst 0, 1), (456, .iconst 0, 1), (457, .iconst 0, 1), (458, .iconst 0, 1), (459, .invokestatic 155, 3), (462, .lastore, 1), (463, .aload_n 0, 1), (464, .getfield 34, 3), (467, .iconst 4, 1), (468, .bipush 111, 2), (470, .bipush 114, 2), (472, .iconst 0, 1), (473, .iconst 0, 1)]
theorem IX10_init_3_ok : IX10_init_3.all (fun e => decide (decode cX10_init e.1 = .ok e.2)) = true := by decide +kernel
abbrev IX10_init_4 : List (Nat × Instr × Nat) := [(474, .iconst 0, 1), (475, .iconst 0, 1), (476, .iconst 0, 1), (477, .invokestatic 155, 3), (480, .lastore, 1), (481, .aload_n 0, 1), (482, .getfield 34, 3), (485, .iconst 5, 1), (486, .bipush 97, 2), (488, .bipush 110, 2), (490, .bipush 100, 2), (492, .iconst 0, 1), (493, .iconst 0, 1), (494, .iconst 0, 1), (495, .iconst 0, 1), (496, .invokestatic 155, 3), (499, .lastore, 1), (500, .aload_n 0, 1), (501, .getfield 34, 3), (504, .bipush 6, 2), (506, .bipush 105, 2), (508, .bipush 110, 2), (510, .iconst 0, 1), (511, .iconst 0, 1), (512, .iconst 0, 1), (513, .iconst 0, 1), (514, .iconst 0, 1), (515, .invokestatic 155, 3), (518, .lastore, 1), (519, .aload_n 0, 1), (520, .getfield 34, 3), (523, .bipush 7, 2), (525, .bipush 107, 2), (527, .bipush 105, 2), (529, .bipush 110, 2), (531, .bipush 100, 2), (533, .iconst 0, 1), (534, .iconst 0, 1), (535, .iconst 0, 1), (536, .invokestatic 155, 3), (539, .lastore, 1), (540, .aload_n 0, 1), (541, .getfield 34, 3), (544, .bipush 8, 2), (546, .bipush 117, 2), (548, .bipush 115, 2), (550, .bipush 101, 2), (552, .iconst 0, 1), (553, .iconst 0, 1), (554, .iconst 0, 1), (555, .iconst 0, 1), (556, .invokestatic 155, 3), (559, .lastore, 1), (560, .aload_n 0, 1), (561, .getfield 34, 3), (564, .bipush 9, 2), (566, .bipush 97, 2), (568, .bipush 103, 2), (570, .bipush 101, 2), (572, .iconst 0, 1)]
theorem IX10_init_4_ok : IX10_init_4.all (fun e => decide (decode cX10_init e.1 = .ok e.2)) = true := by decide +kernel
abbrev IX10_init_5 : List (Nat × Instr × Nat) := [(573, .iconst 0, 1), (574, .iconst 0, 1), (575, .iconst 0, 1), (576, .invokestatic 155, 3), (579, .lastore, 1), (580, .aload_n 0, 1), (581, .getfield 34, 3), (584, .bipush 10, 2), (586, .bipush 100, 2), (588, .bipush 101, 2), (590, .bipush 97, 2), (592, .bipush 100, 2), (594, .iconst 0, 1), (595, .iconst 0, 1), (596, .iconst 0, 1), (597, .invokestatic 155, 3), (600, .lastore, 1), (601, .aload_n 0, 1), (602, .getfield 34, 3), (605, .bipush 11, 2), (607, .bipush 112, 2), (609, .bipush 105, 2), (611, .bipush 101, 2), (613, .bipush 99, 2), (615, .bipush 101, 2), (617, .iconst 0, 1), (618, .iconst 0, 1), (619, .invokestatic 155, 3), (622, .lastore, 1), (623, .aload_n 0, 1), (624, .getfield 34, 3), (627, .bipush 12, 2), (629, .bipush 110, 2), (631, .bipush 97, 2), (633, .bipush 109, 2), (635, .bipush 101, 2), (637, .bipush 115, 2), (639, .iconst 0, 1), (640, .iconst 0, 1), (641, .invokestatic 155, 3), (644, .lastore, 1), (645, .aload_n 0, 1), (646, .getfield 34, 3), (649, .bipush 13, 2), (651, .bipush 111, 2), (653, .bipush 119, 2), (655, .bipush 110, 2), (657, .iconst 0, 1), (658, .iconst 0, 1), (659, .iconst 0, 1), (660, .iconst 0, 1), (661, .invokestatic 155, 3), (664, .lastore, 1), (665, .aload_n 0, 1), (666, .iconst 2, 1), (667, .putfield 159, 3), (670, .return_, 1)]
theorem IX10_init_5_ok : IX10_init_5.all (fun e => decide (decode cX10_init e.1 = .ok e.2)) = true := by decide +kernel
abbrev IX10_init : List (Nat × Instr × Nat) := IX10_init_0 ++ (IX10_init_1 ++ (IX10_init_2 ++ (IX10_init_3 ++ (IX10_init_4 ++ (IX10_init_5)))))
theorem IX10_init_ok : IX10_init.all (fun e => decide (decode cX10_init e.1 = .ok e.2)) = true := (am_all2 IX10_init_0_ok (am_all2 IX10_init_1_ok (am_all2 IX10_init_2_ok (am_all2 IX10_init_3_ok (am_all2 IX10_init_4_ok IX10_init_5_ok)))))
abbrev MX10_init : am_MD := (10, yX10_init, cX10_init, 1, none, IX10_init)
abbrev IX10_word : List (Nat × Instr × Nat) := [(0, .lconst 0, 1), (1, .iload_n 0, 1), (2, .invokestatic 174, 3), (5, .iload_n 1, 1), (6, .invokestatic 174, 3), (9, .iload_n 2, 1), (10, .invokestatic 174, 3), (13, .iload_n 3, 1), (14, .invokestatic 174, 3), (17, .iload 4, 2), (19, .invokestatic 174, 3), (22, .iload 5, 2), (24, .invokestatic 174, 3), (27, .iload 6, 2), (29, .invokestatic 174, 3), (32, .lreturn, 1)]
theorem IX10_word_ok : IX10_word.all (fun e => decide (decode cX10_word e.1 = .ok e.2)) = true := by decide +kernel
abbrev MX10_word : am_MD := (10, yX10_word, cX10_word, 7, (Option.some FieldType.long), IX10_word)
abbrev IX10_more : List (Nat × Instr × Nat) := [(0, .iload_n 2, 1), (1, .ifCond .ne 7, 3), (4, .lload_n 0, 1), (5, .goto 16, 3), (8, .ldc2_w 172, 3), (11, .lload_n 0, 1), (12, .lmul, 1), (13, .iload_n 2, 1), (14, .bipush 97, 2), (16, .isub, 1), (17, .iconst 1, 1), (18, .iadd, 1), (19, .i2l, 1), (20, .ladd, 1), (21, .lreturn, 1)]
theorem IX10_more_ok : IX10_more.all (fun e => decide (decode cX10_more e.1 = .ok e.2)) = true := by decide +kernel
abbrev MX10_more : am_MD := (10, yX10_more, cX10_more, 3, (Option.some FieldType.long), IX10_more)
abbrev IX10_feed : List (Nat × Instr × Nat) := [(0, .aload_n 0, 1), (1, .getfield 162, 3), (4, .bipush 20, 2), (6, .iadd, 1), (7, .sipush 2000, 3), (10, .if_icmp .le 5, 3), (13, .iconst (-1), 1), (14, .ireturn, 1), (15, .aload_n 0, 1), (16, .iload_n 1, 1), (17, .invokevirtual 165, 3), (20, .aload_n 0, 1), (21, .iload_n 2, 1), (22, .invokevirtual 165, 3), (25, .aload_n 0, 1), (26, .iload_n 3, 1), (27, .invokevirtual 165, 3), (30, .aload_n 0, 1), (31, .iload 4, 2), (33, .invokevirtual 165, 3), (36, .aload_n 0, 1), (37, .iload 5, 2), (39, .invokevirtual 165, 3), (42, .aload_n 0, 1), (43, .getfield 162, 3), (46, .ireturn, 1)]
theorem IX10_feed_ok : IX10_feed.all (fun e => decide (decode cX10_feed e.1 = .ok e.2)) = true := by decide +kernel
abbrev MX10_feed : am_MD := (10, yX10_feed, cX10_feed, 6, (Option.some FieldType.int), IX10_feed)
abbrev IX10_put : List (Nat × Instr × Nat) := [(0, .bipush 24, 2), (2, .istore_n 2, 1), (3, .iload_n 2, 1), (4, .ifCond .lt 32, 3), (7, .aload_n 0, 1), (8, .getfield 13, 3), (11, .aload_n 0, 1), (12, .getfield 162, 3), (15, .iload_n 1, 1), (16, .iload_n 2, 1), (17, .ishr, 1), (18, .i2b, 1), (19, .bastore, 1), (20, .aload_n 0, 1), (21, .dup, 1), (22, .getfield 162, 3), (25, .iconst 1, 1), (26, .iadd, 1), (27, .putfield 162, 3), (30, .iinc 2 (-8), 3), (33, .goto (-30), 3), (36, .return_, 1)]
theorem IX10_put_ok : IX10_put.all (fun e => decide (decode cX10_put e.1 = .ok e.2)) = true := by decide +kernel
abbrev MX10_put : am_MD := (10, yX10_put, cX10_put, 3, none, IX10_put)
abbrev IX10_back : List (Nat × Instr × Nat) := [(0, .iload_n 1, 1), (1, .ifCond .lt 11, 3), (4, .iload_n 1, 1), (5, .aload_n 0, 1), (6, .getfield 162, 3), (9, .if_icmp .le 5, 3), (12, .iconst (-1), 1), (13, .ireturn, 1), (14, .aload_n 0, 1), (15, .dup, 1), (16, .getfield 162, 3), (19, .iload_n 1, 1), (20, .isub, 1), (21, .putfield 162, 3), (24, .aload_n 0, 1), (25, .getfield 162, 3), (28, .ireturn, 1)]
theorem IX10_back_ok : IX10_back.all (fun e => decide (decode cX10_back e.1 = .ok e.2)) = true := by decide +kernel
abbrev MX10_back : am_MD := (10, yX10_back, cX10_back, 2, (Option.some FieldType.int), IX10_back)
abbrev IX10_read : List (Nat × Instr × Nat) := [(0, .aload_n 0, 1), (1, .iload_n 1, 1), (2, .invokevirtual 224, 3), (5, .ifCond .ne 5, 3), (8, .iconst (-1), 1), (9, .ireturn, 1), (10, .aload_n 0, 1), (11, .aload_n 0, 1), (12, .getfield 162, 3), (15, .putfield 169, 3), (18, .iconst 0, 1), (19, .istore_n 2, 1), (20, .iload_n 2, 1), (21, .aload_n 0, 1), (22, .getfield 169, 3), (25, .if_icmp .ge 21, 3), (28, .aload_n 0, 1), (29, .getfield 17, 3), (32, .iload_n 2, 1), (33, .aload_n 0, 1), (34, .getfield 13, 3), (37, .iload_n 2, 1), (38, .baload, 1), (39, .bastore, 1), (40, .iinc 2 1, 3), (43, .goto (-23), 3), (46, .aload_n 0, 1), (47, .iconst 0, 1), (48, .putfield 162, 3), (51, .aload_n 0, 1), (52, .invokevirtual 227, 3), (55, .aload_n 0, 1), (56, .iconst 0, 1), (57, .putfield 203, 3), (60, .aload_n 0, 1), (61, .iconst 0, 1), (62, .putfield 230, 3), (65, .aload_n 0, 1), (66, .iconst 0, 1), (67, .putfield 200, 3), (70, .aload_n 0, 1), (71, .iconst 0, 1), (72, .putfield 209, 3), (75, .aload_n 0, 1), (76, .iconst 2, 1), (77, .iload_n 1, 1), (78, .imul, 1), (79, .iconst 1, 1), (80, .iadd, 1), (81, .aload_n 0, 1), (82, .getfield 40, 3), (85, .iload_n 1, 1), (86, .iaload, 1), (87, .isub, 1), (88, .putfield 233, 3), (91, .aload_n 0, 1), (92, .getfield 43, 3), (95, .aload_n 0, 1), (96, .getfield 233, 3), (99, .iconst 0, 1), (100, .iastore, 1), (101, .aload_n 0, 1), (102, .getfield 55, 3), (105, .aload_n 0, 1), (106, .getfield 233, 3), (109, .iconst 0, 1), (110, .iastore, 1), (111, .aload_n 0, 1), (112, .sipush 500, 3), (115, .aload_n 0, 1), (116, .getfield 233, 3), (119, .imul, 1), (120, .putfield 236, 3), (123, .aload_n 0, 1), (124, .getfield 200, 3), (127, .ifCond .ne 18, 3), (130, .aload_n 0, 1), (131, .iconst 0, 1), (132, .invokevirtual 218, 3), (135, .ifCond .ne 10, 3), (138, .aload_n 0, 1), (139, .invokevirtual 239, 3), (142, .goto (-19), 3), (145, .aload_n 0, 1), (146, .aload_n 0, 1), (147, .getfield 200, 3), (150, .ifCond .le 10, 3), (153, .aload_n 0, 1), (154, .getfield 206, 3), (157, .goto 18, 3), (160, .aload_n 0, 1), (161, .getfield 209, 3), (164, .ifCond .le 10, 3), (167, .aload_n 0, 1), (168, .getfield 212, 3), (171, .goto 4, 3), (174, .iconst (-1), 1), (175, .putfield 37, 3), (178, .aload_n 0, 1), (179, .getfield 200, 3), (182, .ifCond .le 8, 3), (185, .aload_n 0, 1), (186, .getfield 200, 3), (189, .ireturn, 1), (190, .aload_n 0, 1), (191, .getfield 209, 3), (194, .ifCond .le 8, 3), (197, .aload_n 0, 1), (198, .getfield 209, 3), (201, .ireturn, 1), (202, .aload_n 0, 1), (203, .getfield 40, 3), (206, .iload_n 1, 1), (207, .iconst 1, 1), (208, .aload_n 0, 1), (209, .getfield 40, 3), (212, .iload_n 1, 1), (213, .iaload, 1), (214, .isub, 1), (215, .iastore, 1), (216, .iconst 0, 1), (217, .ireturn, 1)]
theorem IX10_read_ok : IX10_read.all (fun e => decide (decode cX10_read e.1 = .ok e.2)) = true := by decide +kernel
abbrev MX10_read : am_MD := (10, yX10_read, cX10_read, 3, (Option.some FieldType.int), IX10_read)
abbrev IX10_isPerson : List (Nat × Instr × Nat) := [(0, .iload_n 1, 1), (1, .ifCond .lt 15, 3), (4, .iload_n 1, 1), (5, .aload_n 0, 1), (6, .getfield 268, 3), (9, .if_icmp .ge 7, 3), (12, .iconst 1, 1), (13, .goto 4, 3), (16, .iconst 0, 1), (17, .ireturn, 1)]
theorem IX10_isPerson_ok : IX10_isPerson.all (fun e => decide (decode cX10_isPerson e.1 = .ok e.2)) = true := by decide +kernel
abbrev MX10_isPerson : am_MD := (10, yX10_isPerson, cX10_isPerson, 2, (Option.some FieldType.boolean), IX10_isPerson)
abbrev IX10_cut_0 : List (Nat × Instr × Nat) := [(0, .aload_n 0, 1), (1, .iconst 0, 1), (2, .putfield 178, 3), (5, .iconst 0, 1), (6, .istore_n 1, 1), (7, .aload_n 0, 1), (8, .getfield 178, 3), (11, .sipush 400, 3), (14, .if_icmp .gt 280, 3), (17, .aload_n 0, 1), (18, .iload_n 1, 1), (19, .invokevirtual 181, 3), (22, .istore_n 2, 1), (23, .iload_n 1, 1), (24, .aload_n 0, 1), (25, .getfield 169, 3), (28, .if_icmp .lt 15, 3), (31, .aload_n 0, 1), (32, .iconst 0, 1), (33, .aload_n 0, 1), (34, .getfield 169, 3), (37, .iconst 0, 1), (38, .lconst 0, 1), (39, .invokevirtual 185, 3), (42, .return_, 1), (43, .iload_n 2, 1), (44, .bipush 9, 2), (46, .if_icmp .eq 21, 3), (49, .iload_n 2, 1), (50, .bipush 10, 2), (52, .if_icmp .eq 15, 3), (55, .iload_n 2, 1), (56, .bipush 13, 2), (58, .if_icmp .eq 9, 3), (61, .iload_n 2, 1), (62, .bipush 32, 2), (64, .if_icmp .ne 9, 3), (67, .iinc 1 1, 3), (70, .goto 221, 3), (73, .iload_n 2, 1), (74, .invokestatic 189, 3), (77, .ifCond .eq 119, 3), (80, .iconst 0, 1), (81, .istore_n 3, 1), (82, .lconst 0, 1), (83, .lstore 4, 2), (85, .aload_n 0, 1), (86, .iload_n 1, 1), (87, .iload_n 3, 1), (88, .iadd, 1), (89, .invokevirtual 181, 3), (92, .invokestatic 189, 3), (95, .ifCond .eq 29, 3), (98, .iload_n 3, 1), (99, .bipush 8, 2), (101, .if_icmp .ge 17, 3), (104, .lload 4, 2), (106, .aload_n 0, 1), (107, .iload_n 1, 1), (108, .iload_n 3, 1)]
theorem IX10_cut_0_ok : IX10_cut_0.all (fun e => decide (decode cX10_cut e.1 = .ok e.2)) = true := by decide +kernel
abbrev IX10_cut_1 : List (Nat × Instr × Nat) := [(109, .iadd, 1), (110, .invokevirtual 181, 3), (113, .invokestatic 174, 3), (116, .lstore 4, 2), (118, .iinc 3 1, 3), (121, .goto (-36), 3), (124, .iload_n 3, 1), (125, .bipush 8, 2), (127, .if_icmp .le 7, 3), (130, .iconst 3, 1), (131, .goto 4, 3), (134, .iconst 1, 1), (135, .istore 6, 2), (137, .iload_n 3, 1), (138, .bipush 7, 2), (140, .if_icmp .gt 39, 3), (143, .iconst 0, 1), (144, .istore 7, 2), (146, .iload 7, 2), (148, .bipush 14, 2), (150, .if_icmp .ge 29, 3), (153, .aload_n 0, 1), (154, .getfield 34, 3), (157, .iload 7, 2), (159, .laload, 1), (160, .lload 4, 2), (162, .lcmp, 1), (163, .ifCond .ne 10, 3), (166, .bipush 20, 2), (168, .iload 7, 2), (170, .iadd, 1), (171, .istore 6, 2), (173, .iinc 7 1, 3), (176, .goto (-30), 3), (179, .aload_n 0, 1), (180, .iload 6, 2), (182, .iload_n 1, 1), (183, .iconst 0, 1), (184, .lload 4, 2), (186, .invokevirtual 185, 3), (189, .iload_n 1, 1), (190, .iload_n 3, 1), (191, .iadd, 1), (192, .istore_n 1, 1), (193, .goto 98, 3), (196, .iload_n 2, 1), (197, .invokestatic 193, 3), (200, .ifCond .eq 75, 3), (203, .iconst 0, 1), (204, .istore_n 3, 1), (205, .iconst 0, 1), (206, .istore 4, 2), (208, .aload_n 0, 1), (209, .iload_n 1, 1), (210, .iload_n 3, 1), (211, .iadd, 1), (212, .invokevirtual 181, 3), (215, .invokestatic 193, 3), (218, .ifCond .eq 32, 3), (221, .iload_n 3, 1)]
theorem IX10_cut_1_ok : IX10_cut_1.all (fun e => decide (decode cX10_cut e.1 = .ok e.2)) = true := by decide +kernel
abbrev IX10_cut_2 : List (Nat × Instr × Nat) := [(222, .iconst 4, 1), (223, .if_icmp .ge 21, 3), (226, .bipush 10, 2), (228, .iload 4, 2), (230, .imul, 1), (231, .aload_n 0, 1), (232, .iload_n 1, 1), (233, .iload_n 3, 1), (234, .iadd, 1), (235, .invokevirtual 181, 3), (238, .iadd, 1), (239, .bipush 48, 2), (241, .isub, 1), (242, .istore 4, 2), (244, .iinc 3 1, 3), (247, .goto (-39), 3), (250, .aload_n 0, 1), (251, .iload_n 3, 1), (252, .iconst 4, 1), (253, .if_icmp .le 7, 3), (256, .iconst 3, 1), (257, .goto 4, 3), (260, .iconst 2, 1), (261, .iload_n 1, 1), (262, .iload 4, 2), (264, .lconst 0, 1), (265, .invokevirtual 185, 3), (268, .iload_n 1, 1), (269, .iload_n 3, 1), (270, .iadd, 1), (271, .istore_n 1, 1), (272, .goto 19, 3), (275, .iload_n 1, 1), (276, .aload_n 0, 1), (277, .iload_n 1, 1), (278, .iload_n 2, 1), (279, .aload_n 0, 1), (280, .iload_n 1, 1), (281, .iconst 1, 1), (282, .iadd, 1), (283, .invokevirtual 181, 3), (286, .invokevirtual 196, 3), (289, .iadd, 1), (290, .istore_n 1, 1), (291, .goto (-284), 3), (294, .return_, 1)]
theorem IX10_cut_2_ok : IX10_cut_2.all (fun e => decide (decode cX10_cut e.1 = .ok e.2)) = true := by decide +kernel
abbrev IX10_cut : List (Nat × Instr × Nat) := IX10_cut_0 ++ (IX10_cut_1 ++ (IX10_cut_2))
theorem IX10_cut_ok : IX10_cut.all (fun e => decide (decode cX10_cut e.1 = .ok e.2)) = true := (am_all2 IX10_cut_0_ok (am_all2 IX10_cut_1_ok IX10_cut_2_ok))
abbrev MX10_cut : am_MD := (10, yX10_cut, cX10_cut, 8, none, IX10_cut)
abbrev IX10_at : List (Nat × Instr × Nat) := [(0, .iload_n 1, 1), (1, .aload_n 0, 1), (2, .getfield 169, 3), (5, .if_icmp .ge 16, 3), (8, .aload_n 0, 1), (9, .getfield 17, 3), (12, .iload_n 1, 1), (13, .baload, 1), (14, .sipush 255, 3), (17, .iand, 1), (18, .goto 4, 3), (21, .iconst 0, 1), (22, .ireturn, 1)]
theorem IX10_at_ok : IX10_at.all (fun e => decide (decode cX10_at e.1 = .ok e.2)) = true := by decide +kernel
abbrev MX10_at : am_MD := (10, yX10_at, cX10_at, 2, (Option.some FieldType.int), IX10_at)
abbrev IX10_token : List (Nat × Instr × Nat) := [(0, .aload_n 0, 1), (1, .getfield 20, 3), (4, .aload_n 0, 1), (5, .getfield 178, 3), (8, .iload_n 1, 1), (9, .iastore, 1), (10, .aload_n 0, 1), (11, .getfield 24, 3), (14, .aload_n 0, 1), (15, .getfield 178, 3), (18, .iload_n 2, 1), (19, .iastore, 1), (20, .aload_n 0, 1), (21, .getfield 27, 3), (24, .aload_n 0, 1), (25, .getfield 178, 3), (28, .iload_n 3, 1), (29, .iastore, 1), (30, .aload_n 0, 1), (31, .getfield 30, 3), (34, .aload_n 0, 1), (35, .getfield 178, 3), (38, .lload 4, 2), (40, .lastore, 1), (41, .aload_n 0, 1), (42, .dup, 1), (43, .getfield 178, 3), (46, .iconst 1, 1), (47, .iadd, 1), (48, .putfield 178, 3), (51, .return_, 1)]
theorem IX10_token_ok : IX10_token.all (fun e => decide (decode cX10_token e.1 = .ok e.2)) = true := by decide +kernel
abbrev MX10_token : am_MD := (10, yX10_token, cX10_token, 6, none, IX10_token)
abbrev IX10_isLetter : List (Nat × Instr × Nat) := [(0, .iload_n 0, 1), (1, .bipush 97, 2), (3, .if_icmp .lt 13, 3), (6, .iload_n 0, 1), (7, .bipush 122, 2), (9, .if_icmp .gt 7, 3), (12, .iconst 1, 1), (13, .goto 4, 3), (16, .iconst 0, 1), (17, .ireturn, 1)]
theorem IX10_isLetter_ok : IX10_isLetter.all (fun e => decide (decode cX10_isLetter e.1 = .ok e.2)) = true := by decide +kernel
abbrev MX10_isLetter : am_MD := (10, yX10_isLetter, cX10_isLetter, 1, (Option.some FieldType.boolean), IX10_isLetter)
abbrev IX10_isDigit : List (Nat × Instr × Nat) := [(0, .iload_n 0, 1), (1, .bipush 48, 2), (3, .if_icmp .lt 13, 3), (6, .iload_n 0, 1), (7, .bipush 57, 2), (9, .if_icmp .gt 7, 3), (12, .iconst 1, 1), (13, .goto 4, 3), (16, .iconst 0, 1), (17, .ireturn, 1)]
theorem IX10_isDigit_ok : IX10_isDigit.all (fun e => decide (decode cX10_isDigit e.1 = .ok e.2)) = true := by decide +kernel
abbrev MX10_isDigit : am_MD := (10, yX10_isDigit, cX10_isDigit, 1, (Option.some FieldType.boolean), IX10_isDigit)
abbrev IX10_sign : List (Nat × Instr × Nat) := [(0, .iload_n 3, 1), (1, .bipush 61, 2), (3, .if_icmp .eq 7, 3), (6, .iconst 0, 1), (7, .goto 37, 3), (10, .iload_n 2, 1), (11, .bipush 61, 2), (13, .if_icmp .ne 8, 3), (16, .bipush 11, 2), (18, .goto 26, 3), (21, .iload_n 2, 1), (22, .bipush 33, 2), (24, .if_icmp .ne 8, 3), (27, .bipush 12, 2), (29, .goto 15, 3), (32, .iload_n 2, 1), (33, .bipush 60, 2), (35, .if_icmp .ne 8, 3), (38, .bipush 14, 2), (40, .goto 4, 3), (43, .iconst 0, 1), (44, .istore 4, 2), (46, .iconst 3, 1), (47, .istore 5, 2), (49, .iload 4, 2), (51, .ifCond .le 10, 3), (54, .iload 4, 2), (56, .istore 5, 2), (58, .goto 90, 3), (61, .iload_n 2, 1), (62, .bipush 59, 2), (64, .if_icmp .ne 9, 3), (67, .iconst 4, 1), (68, .istore 5, 2), (70, .goto 78, 3), (73, .iload_n 2, 1), (74, .bipush 40, 2), (76, .if_icmp .ne 10, 3), (79, .bipush 6, 2), (81, .istore 5, 2), (83, .goto 65, 3), (86, .iload_n 2, 1), (87, .bipush 41, 2), (89, .if_icmp .ne 10, 3), (92, .bipush 7, 2), (94, .istore 5, 2), (96, .goto 52, 3), (99, .iload_n 2, 1), (100, .bipush 43, 2), (102, .if_icmp .ne 10, 3), (105, .bipush 8, 2), (107, .istore 5, 2), (109, .goto 39, 3), (112, .iload_n 2, 1), (113, .bipush 45, 2), (115, .if_icmp .ne 10, 3), (118, .bipush 9, 2), (120, .istore 5, 2), (122, .goto 26, 3), (125, .iload_n 2, 1), (126, .bipush 42, 2), (128, .if_icmp .ne 10, 3), (131, .bipush 10, 2), (133, .istore 5, 2), (135, .goto 13, 3), (138, .iload_n 2, 1), (139, .bipush 60, 2), (141, .if_icmp .ne 7, 3), (144, .bipush 13, 2), (146, .istore 5, 2), (148, .aload_n 0, 1), (149, .iload 5, 2), (151, .iload_n 1, 1), (152, .iconst 0, 1), (153, .lconst 0, 1), (154, .invokevirtual 185, 3), (157, .iload 4, 2), (159, .ifCond .le 7, 3), (162, .iconst 2, 1), (163, .goto 4, 3), (166, .iconst 1, 1), (167, .ireturn, 1)]
theorem IX10_sign_ok : IX10_sign.all (fun e => decide (decode cX10_sign e.1 = .ok e.2)) = true := by decide +kernel
abbrev MX10_sign : am_MD := (10, yX10_sign, cX10_sign, 6, (Option.some FieldType.int), IX10_sign)
abbrev IX10_is : List (Nat × Instr × Nat) := [(0, .aload_n 0, 1), (1, .getfield 200, 3), (4, .ifCond .ne 20, 3), (7, .aload_n 0, 1), (8, .getfield 20, 3), (11, .aload_n 0, 1), (12, .getfield 203, 3), (15, .iaload, 1), (16, .iload_n 1, 1), (17, .if_icmp .ne 7, 3), (20, .iconst 1, 1), (21, .goto 4, 3), (24, .iconst 0, 1), (25, .ireturn, 1)]
theorem IX10_is_ok : IX10_is.all (fun e => decide (decode cX10_is e.1 = .ok e.2)) = true := by decide +kernel
abbrev MX10_is : am_MD := (10, yX10_is, cX10_is, 2, (Option.some FieldType.boolean), IX10_is)
abbrev IX10_tellRule : List (Nat × Instr × Nat) := [(0, .aload_n 0, 1), (1, .bipush 20, 2), (3, .invokevirtual 218, 3), (6, .ifCond .ne 29, 3), (9, .aload_n 0, 1), (10, .bipush 21, 2), (12, .invokevirtual 218, 3), (15, .ifCond .ne 20, 3), (18, .aload_n 0, 1), (19, .bipush 22, 2), (21, .invokevirtual 218, 3), (24, .ifCond .ne 11, 3), (27, .aload_n 0, 1), (28, .iconst 1, 1), (29, .invokevirtual 215, 3), (32, .goto 22, 3), (35, .aload_n 0, 1), (36, .getfield 43, 3), (39, .aload_n 0, 1), (40, .getfield 233, 3), (43, .iaload, 1), (44, .bipush 16, 2), (46, .if_icmp .ne 8, 3), (49, .aload_n 0, 1), (50, .iconst 2, 1), (51, .invokevirtual 215, 3), (54, .aload_n 0, 1), (55, .getfield 200, 3), (58, .ifCond .le 4, 3), (61, .return_, 1), (62, .bipush 16, 2), (64, .aload_n 0, 1), (65, .getfield 233, 3), (68, .imul, 1), (69, .aload_n 0, 1), (70, .getfield 43, 3), (73, .aload_n 0, 1), (74, .getfield 233, 3), (77, .iaload, 1), (78, .iadd, 1), (79, .istore_n 1, 1), (80, .aload_n 0, 1), (81, .getfield 46, 3), (84, .iload_n 1, 1), (85, .aload_n 0, 1), (86, .getfield 20, 3), (89, .aload_n 0, 1), (90, .getfield 203, 3), (93, .iaload, 1), (94, .bipush 20, 2), (96, .isub, 1), (97, .iastore, 1), (98, .aload_n 0, 1), (99, .invokevirtual 221, 3), (102, .aload_n 0, 1), (103, .getfield 49, 3), (106, .iload_n 1, 1), (107, .aload_n 0, 1), (108, .getfield 55, 3), (111, .aload_n 0, 1), (112, .getfield 233, 3), (115, .iaload, 1), (116, .iastore, 1), (117, .aload_n 0, 1), (118, .bipush 23, 2), (120, .invokevirtual 218, 3), (123, .istore_n 2, 1), (124, .iload_n 2, 1), (125, .ifCond .eq 7, 3), (128, .aload_n 0, 1), (129, .invokevirtual 221, 3), (132, .iconst 1, 1), (133, .istore_n 3, 1), (134, .iload_n 2, 1), (135, .ifCond .eq 52, 3), (138, .aload_n 0, 1), (139, .getfield 200, 3), (142, .ifCond .ne 45, 3), (145, .aload_n 0, 1), (146, .iload_n 3, 1), (147, .invokevirtual 242, 3), (150, .aload_n 0, 1), (151, .bipush 24, 2), (153, .invokevirtual 218, 3), (156, .istore_n 3, 1), (157, .iload_n 3, 1), (158, .ifCond .ne 12, 3), (161, .aload_n 0, 1), (162, .bipush 25, 2), (164, .invokevirtual 218, 3), (167, .ifCond .eq 7, 3), (170, .iconst 1, 1), (171, .goto 4, 3), (174, .iconst 0, 1), (175, .istore_n 2, 1), (176, .iload_n 2, 1), (177, .ifCond .eq (-43), 3), (180, .aload_n 0, 1), (181, .invokevirtual 221, 3), (184, .goto (-50), 3), (187, .aload_n 0, 1), (188, .iconst 4, 1), (189, .invokevirtual 246, 3), (192, .aload_n 0, 1), (193, .getfield 200, 3), (196, .ifCond .le 4, 3), (199, .return_, 1), (200, .aload_n 0, 1), (201, .getfield 52, 3), (204, .iload_n 1, 1), (205, .aload_n 0, 1), (206, .getfield 55, 3), (209, .aload_n 0, 1), (210, .getfield 233, 3), (213, .iaload, 1), (214, .iastore, 1), (215, .aload_n 0, 1), (216, .getfield 43, 3), (219, .aload_n 0, 1), (220, .getfield 233, 3), (223, .dup2, 1), (224, .iaload, 1), (225, .iconst 1, 1), (226, .iadd, 1), (227, .iastore, 1), (228, .return_, 1)]
theorem IX10_tellRule_ok : IX10_tellRule.all (fun e => decide (decode cX10_tellRule e.1 = .ok e.2)) = true := by decide +kernel
abbrev MX10_tellRule : am_MD := (10, yX10_tellRule, cX10_tellRule, 4, none, IX10_tellRule)
abbrev IX10_fail : List (Nat × Instr × Nat) := [(0, .aload_n 0, 1), (1, .getfield 200, 3), (4, .ifCond .le 4, 3), (7, .return_, 1), (8, .aload_n 0, 1), (9, .iload_n 1, 1), (10, .putfield 200, 3), (13, .aload_n 0, 1), (14, .aload_n 0, 1), (15, .getfield 24, 3), (18, .aload_n 0, 1), (19, .getfield 203, 3), (22, .iaload, 1), (23, .putfield 206, 3), (26, .return_, 1)]
theorem IX10_fail_ok : IX10_fail.all (fun e => decide (decode cX10_fail e.1 = .ok e.2)) = true := by decide +kernel
abbrev MX10_fail : am_MD := (10, yX10_fail, cX10_fail, 2, none, IX10_fail)
abbrev IX10_next : List (Nat × Instr × Nat) := [(0, .aload_n 0, 1), (1, .getfield 203, 3), (4, .sipush 400, 3), (7, .if_icmp .ne 11, 3), (10, .aload_n 0, 1), (11, .iconst 2, 1), (12, .invokevirtual 215, 3), (15, .goto 13, 3), (18, .aload_n 0, 1), (19, .dup, 1), (20, .getfield 203, 3), (23, .iconst 1, 1), (24, .iadd, 1), (25, .putfield 203, 3), (28, .return_, 1)]
theorem IX10_next_ok : IX10_next.all (fun e => decide (decode cX10_next e.1 = .ok e.2)) = true := by decide +kernel
abbrev MX10_next : am_MD := (10, yX10_next, cX10_next, 1, none, IX10_next)
abbrev IX10_literal : List (Nat × Instr × Nat) := [(0, .aload_n 0, 1), (1, .getfield 236, 3), (4, .istore_n 2, 1), (5, .aload_n 0, 1), (6, .getfield 236, 3), (9, .istore_n 3, 1), (10, .iconst 4, 1), (11, .istore 4, 2), (13, .aload_n 0, 1), (14, .bipush 26, 2), (16, .invokevirtual 218, 3), (19, .ifCond .eq 62, 3), (22, .aload_n 0, 1), (23, .invokevirtual 221, 3), (26, .aload_n 0, 1), (27, .getfield 203, 3), (30, .istore 5, 2), (32, .aload_n 0, 1), (33, .iconst 2, 1), (34, .invokevirtual 246, 3), (37, .aload_n 0, 1), (38, .getfield 200, 3), (41, .ifCond .le 4, 3), (44, .return_, 1), (45, .aload_n 0, 1), (46, .getfield 27, 3), (49, .iload 5, 2), (51, .iaload, 1), (52, .aload_n 0, 1), (53, .getfield 249, 3), (56, .if_icmp .lt 10, 3), (59, .aload_n 0, 1), (60, .iconst 4, 1), (61, .iload 5, 2), (63, .invokevirtual 252, 3), (66, .aload_n 0, 1), (67, .iconst 0, 1), (68, .aload_n 0, 1), (69, .getfield 27, 3), (72, .iload 5, 2), (74, .iaload, 1), (75, .invokevirtual 256, 3), (78, .goto 68, 3), (81, .aload_n 0, 1), (82, .invokevirtual 259, 3), (85, .aload_n 0, 1), (86, .getfield 200, 3), (89, .ifCond .le 7, 3), (92, .iconst 0, 1), (93, .goto 15, 3), (96, .aload_n 0, 1), (97, .getfield 20, 3), (100, .aload_n 0, 1), (101, .getfield 203, 3), (104, .iaload, 1), (105, .bipush 11, 2), (107, .isub, 1), (108, .istore 4, 2), (110, .aload_n 0, 1), (111, .getfield 200, 3), (114, .ifCond .ne 19, 3), (117, .iload 4, 2), (119, .ifCond .lt 9, 3), (122, .iload 4, 2), (124, .iconst 3, 1), (125, .if_icmp .le 8, 3), (128, .aload_n 0, 1), (129, .iconst 1, 1), (130, .invokevirtual 215, 3), (133, .aload_n 0, 1), (134, .invokevirtual 221, 3), (137, .aload_n 0, 1), (138, .getfield 236, 3), (141, .istore_n 3, 1), (142, .aload_n 0, 1), (143, .invokevirtual 259, 3), (146, .aload_n 0, 1), (147, .getfield 200, 3), (150, .ifCond .le 4, 3), (153, .return_, 1), (154, .sipush 200, 3), (157, .aload_n 0, 1), (158, .getfield 233, 3), (161, .imul, 1), (162, .aload_n 0, 1), (163, .getfield 55, 3), (166, .aload_n 0, 1), (167, .getfield 233, 3), (170, .iaload, 1), (171, .iadd, 1), (172, .istore 5, 2), (174, .aload_n 0, 1), (175, .getfield 58, 3), (178, .iload 5, 2), (180, .iload 4, 2), (182, .iastore, 1), (183, .aload_n 0, 1), (184, .getfield 61, 3), (187, .iload 5, 2), (189, .iload_n 2, 1), (190, .iastore, 1), (191, .aload_n 0, 1), (192, .getfield 64, 3), (195, .iload 5, 2), (197, .iload_n 3, 1), (198, .iastore, 1), (199, .aload_n 0, 1), (200, .getfield 67, 3), (203, .iload 5, 2), (205, .aload_n 0, 1), (206, .getfield 236, 3), (209, .iastore, 1), (210, .aload_n 0, 1), (211, .getfield 70, 3), (214, .iload 5, 2), (216, .iload_n 1, 1), (217, .bastore, 1), (218, .aload_n 0, 1), (219, .getfield 55, 3), (222, .aload_n 0, 1), (223, .getfield 233, 3), (226, .dup2, 1), (227, .iaload, 1), (228, .iconst 1, 1), (229, .iadd, 1), (230, .iastore, 1), (231, .return_, 1)]
theorem IX10_literal_ok : IX10_literal.all (fun e => decide (decode cX10_literal e.1 = .ok e.2)) = true := by decide +kernel
abbrev MX10_literal : am_MD := (10, yX10_literal, cX10_literal, 6, none, IX10_literal)
abbrev IX10_must : List (Nat × Instr × Nat) := [(0, .aload_n 0, 1), (1, .iload_n 1, 1), (2, .invokevirtual 218, 3), (5, .ifCond .eq 10, 3), (8, .aload_n 0, 1), (9, .invokevirtual 221, 3), (12, .goto 8, 3), (15, .aload_n 0, 1), (16, .iconst 1, 1), (17, .invokevirtual 215, 3), (20, .return_, 1)]
theorem IX10_must_ok : IX10_must.all (fun e => decide (decode cX10_must e.1 = .ok e.2)) = true := by decide +kernel
abbrev MX10_must : am_MD := (10, yX10_must, cX10_must, 2, none, IX10_must)
abbrev IX10_wrong : List (Nat × Instr × Nat) := [(0, .aload_n 0, 1), (1, .getfield 24, 3), (4, .iload_n 2, 1), (5, .iaload, 1), (6, .istore_n 3, 1), (7, .aload_n 0, 1), (8, .getfield 200, 3), (11, .ifCond .gt 34, 3), (14, .aload_n 0, 1), (15, .getfield 209, 3), (18, .ifCond .eq 28, 3), (21, .iload_n 3, 1), (22, .aload_n 0, 1), (23, .getfield 212, 3), (26, .if_icmp .gt 19, 3), (29, .iload_n 3, 1), (30, .aload_n 0, 1), (31, .getfield 212, 3), (34, .if_icmp .ne 12, 3), (37, .iload_n 1, 1), (38, .aload_n 0, 1), (39, .getfield 209, 3), (42, .if_icmp .lt 4, 3), (45, .return_, 1), (46, .aload_n 0, 1), (47, .iload_n 1, 1), (48, .putfield 209, 3), (51, .aload_n 0, 1), (52, .iload_n 3, 1), (53, .putfield 212, 3), (56, .return_, 1)]
theorem IX10_wrong_ok : IX10_wrong.all (fun e => decide (decode cX10_wrong e.1 = .ok e.2)) = true := by decide +kernel
abbrev MX10_wrong : am_MD := (10, yX10_wrong, cX10_wrong, 4, none, IX10_wrong)
abbrev IX10_emit : List (Nat × Instr × Nat) := [(0, .aload_n 0, 1), (1, .getfield 74, 3), (4, .aload_n 0, 1), (5, .getfield 236, 3), (8, .iload_n 1, 1), (9, .iastore, 1), (10, .aload_n 0, 1), (11, .getfield 77, 3), (14, .aload_n 0, 1), (15, .getfield 236, 3), (18, .iload_n 2, 1), (19, .iastore, 1), (20, .aload_n 0, 1), (21, .dup, 1), (22, .getfield 236, 3), (25, .iconst 1, 1), (26, .iadd, 1), (27, .putfield 236, 3), (30, .return_, 1)]
theorem IX10_emit_ok : IX10_emit.all (fun e => decide (decode cX10_emit e.1 = .ok e.2)) = true := by decide +kernel
abbrev MX10_emit : am_MD := (10, yX10_emit, cX10_emit, 3, none, IX10_emit)
abbrev IX10_expression_0 : List (Nat × Instr × Nat) := [(0, .aload_n 0, 1), (1, .iconst 0, 1), (2, .putfield 262, 3), (5, .aload_n 0, 1), (6, .getfield 230, 3), (9, .istore_n 1, 1), (10, .iconst 1, 1), (11, .istore_n 2, 1), (12, .iload_n 2, 1), (13, .ifCond .eq 347, 3), (16, .aload_n 0, 1), (17, .getfield 200, 3), (20, .ifCond .ne 340, 3), (23, .aload_n 0, 1), (24, .bipush 6, 2), (26, .invokevirtual 218, 3), (29, .ifCond .eq 63, 3), (32, .aload_n 0, 1), (33, .getfield 230, 3), (36, .bipush 6, 2), (38, .if_icmp .ne 8, 3), (41, .aload_n 0, 1), (42, .iconst 2, 1), (43, .invokevirtual 215, 3), (46, .aload_n 0, 1), (47, .getfield 200, 3), (50, .ifCond .le 4, 3), (53, .return_, 1), (54, .aload_n 0, 1), (55, .dup, 1), (56, .getfield 230, 3), (59, .iconst 1, 1), (60, .iadd, 1), (61, .putfield 230, 3), (64, .aload_n 0, 1), (65, .invokevirtual 221, 3), (68, .aload_n 0, 1), (69, .getfield 80, 3), (72, .aload_n 0, 1), (73, .getfield 262, 3), (76, .bipush 6, 2), (78, .iastore, 1), (79, .aload_n 0, 1), (80, .dup, 1), (81, .getfield 262, 3), (84, .iconst 1, 1), (85, .iadd, 1), (86, .putfield 262, 3), (89, .goto (-77), 3), (92, .aload_n 0, 1), (93, .getfield 200, 3), (96, .ifCond .ne 35, 3), (99, .aload_n 0, 1), (100, .getfield 20, 3), (103, .aload_n 0, 1), (104, .getfield 203, 3), (107, .iaload, 1), (108, .bipush 27, 2), (110, .if_icmp .lt 21, 3), (113, .aload_n 0, 1)]
theorem IX10_expression_0_ok : IX10_expression_0.all (fun e => decide (decode cX10_expression e.1 = .ok e.2)) = true := by decide +kernel
abbrev IX10_expression_1 : List (Nat × Instr × Nat) := [(114, .getfield 20, 3), (117, .aload_n 0, 1), (118, .getfield 203, 3), (121, .iaload, 1), (122, .bipush 33, 2), (124, .if_icmp .gt 7, 3), (127, .iconst 1, 1), (128, .goto 4, 3), (131, .iconst 0, 1), (132, .istore_n 3, 1), (133, .aload_n 0, 1), (134, .iconst 2, 1), (135, .invokevirtual 218, 3), (138, .ifCond .ne 12, 3), (141, .iload_n 3, 1), (142, .ifCond .ne 8, 3), (145, .aload_n 0, 1), (146, .iconst 1, 1), (147, .invokevirtual 215, 3), (150, .aload_n 0, 1), (151, .getfield 200, 3), (154, .ifCond .le 4, 3), (157, .return_, 1), (158, .iload_n 3, 1), (159, .ifCond .eq 23, 3), (162, .aload_n 0, 1), (163, .iconst 1, 1), (164, .aload_n 0, 1), (165, .getfield 20, 3), (168, .aload_n 0, 1), (169, .getfield 203, 3), (172, .iaload, 1), (173, .bipush 27, 2), (175, .isub, 1), (176, .invokevirtual 256, 3), (179, .goto 17, 3), (182, .aload_n 0, 1), (183, .iconst 0, 1), (184, .aload_n 0, 1), (185, .getfield 27, 3), (188, .aload_n 0, 1), (189, .getfield 203, 3), (192, .iaload, 1), (193, .invokevirtual 256, 3), (196, .aload_n 0, 1), (197, .invokevirtual 221, 3), (200, .aload_n 0, 1), (201, .bipush 7, 2), (203, .invokevirtual 218, 3), (206, .ifCond .eq 43, 3), (209, .aload_n 0, 1), (210, .getfield 230, 3), (213, .iload_n 1, 1), (214, .if_icmp .le 35, 3), (217, .aload_n 0, 1), (218, .iconst 0, 1), (219, .invokevirtual 265, 3), (222, .aload_n 0, 1), (223, .dup, 1), (224, .getfield 262, 3)]
theorem IX10_expression_1_ok : IX10_expression_1.all (fun e => decide (decode cX10_expression e.1 = .ok e.2)) = true := by decide +kernel
abbrev IX10_expression_2 : List (Nat × Instr × Nat) := [(227, .iconst 1, 1), (228, .isub, 1), (229, .putfield 262, 3), (232, .aload_n 0, 1), (233, .dup, 1), (234, .getfield 230, 3), (237, .iconst 1, 1), (238, .isub, 1), (239, .putfield 230, 3), (242, .aload_n 0, 1), (243, .invokevirtual 221, 3), (246, .goto (-46), 3), (249, .aload_n 0, 1), (250, .bipush 8, 2), (252, .invokevirtual 218, 3), (255, .ifCond .ne 21, 3), (258, .aload_n 0, 1), (259, .bipush 9, 2), (261, .invokevirtual 218, 3), (264, .ifCond .ne 12, 3), (267, .aload_n 0, 1), (268, .bipush 10, 2), (270, .invokevirtual 218, 3), (273, .ifCond .eq 7, 3), (276, .iconst 1, 1), (277, .goto 4, 3), (280, .iconst 0, 1), (281, .istore_n 2, 1), (282, .iload_n 2, 1), (283, .ifCond .ne 22, 3), (286, .aload_n 0, 1), (287, .getfield 230, 3), (290, .iload_n 1, 1), (291, .if_icmp .le 8, 3), (294, .aload_n 0, 1), (295, .iconst 1, 1), (296, .invokevirtual 215, 3), (299, .aload_n 0, 1), (300, .iconst 0, 1), (301, .invokevirtual 265, 3), (304, .return_, 1), (305, .aload_n 0, 1), (306, .getfield 20, 3), (309, .aload_n 0, 1), (310, .getfield 203, 3), (313, .iaload, 1), (314, .istore 4, 2), (316, .aload_n 0, 1), (317, .iload 4, 2), (319, .bipush 10, 2), (321, .if_icmp .ne 7, 3), (324, .iconst 1, 1), (325, .goto 4, 3), (328, .iconst 0, 1), (329, .invokevirtual 265, 3), (332, .aload_n 0, 1), (333, .getfield 80, 3), (336, .aload_n 0, 1), (337, .getfield 262, 3), (340, .iload 4, 2)]
theorem IX10_expression_2_ok : IX10_expression_2.all (fun e => decide (decode cX10_expression e.1 = .ok e.2)) = true := by decide +kernel
abbrev IX10_expression_3 : List (Nat × Instr × Nat) := [(342, .iastore, 1), (343, .aload_n 0, 1), (344, .dup, 1), (345, .getfield 262, 3), (348, .iconst 1, 1), (349, .iadd, 1), (350, .putfield 262, 3), (353, .aload_n 0, 1), (354, .invokevirtual 221, 3), (357, .goto (-345), 3), (360, .return_, 1)]
theorem IX10_expression_3_ok : IX10_expression_3.all (fun e => decide (decode cX10_expression e.1 = .ok e.2)) = true := by decide +kernel
abbrev IX10_expression : List (Nat × Instr × Nat) := IX10_expression_0 ++ (IX10_expression_1 ++ (IX10_expression_2 ++ (IX10_expression_3)))
theorem IX10_expression_ok : IX10_expression.all (fun e => decide (decode cX10_expression e.1 = .ok e.2)) = true := (am_all2 IX10_expression_0_ok (am_all2 IX10_expression_1_ok (am_all2 IX10_expression_2_ok IX10_expression_3_ok)))
abbrev MX10_expression : am_MD := (10, yX10_expression, cX10_expression, 5, none, IX10_expression)
abbrev IX10_comesOut : List (Nat × Instr × Nat) := [(0, .aload_n 0, 1), (1, .getfield 262, 3), (4, .ifCond .le 88, 3), (7, .aload_n 0, 1), (8, .getfield 80, 3), (11, .aload_n 0, 1), (12, .getfield 262, 3), (15, .iconst 1, 1), (16, .isub, 1), (17, .iaload, 1), (18, .bipush 6, 2), (20, .if_icmp .eq 72, 3), (23, .iload_n 1, 1), (24, .ifCond .eq 19, 3), (27, .aload_n 0, 1), (28, .getfield 80, 3), (31, .aload_n 0, 1), (32, .getfield 262, 3), (35, .iconst 1, 1), (36, .isub, 1), (37, .iaload, 1), (38, .bipush 10, 2), (40, .if_icmp .ne 52, 3), (43, .aload_n 0, 1), (44, .dup, 1), (45, .getfield 262, 3), (48, .iconst 1, 1), (49, .isub, 1), (50, .putfield 262, 3), (53, .aload_n 0, 1), (54, .getfield 80, 3), (57, .aload_n 0, 1), (58, .getfield 262, 3), (61, .iaload, 1), (62, .istore_n 2, 1), (63, .aload_n 0, 1), (64, .iload_n 2, 1), (65, .bipush 8, 2), (67, .if_icmp .ne 7, 3), (70, .iconst 2, 1), (71, .goto 14, 3), (74, .iload_n 2, 1), (75, .bipush 9, 2), (77, .if_icmp .ne 7, 3), (80, .iconst 3, 1), (81, .goto 4, 3), (84, .iconst 4, 1), (85, .iconst 0, 1), (86, .invokevirtual 256, 3), (89, .goto (-89), 3), (92, .return_, 1)]
theorem IX10_comesOut_ok : IX10_comesOut.all (fun e => decide (decode cX10_comesOut e.1 = .ok e.2)) = true := by decide +kernel
abbrev MX10_comesOut : am_MD := (10, yX10_comesOut, cX10_comesOut, 3, none, IX10_comesOut)
abbrev IX10_place : List (Nat × Instr × Nat) := [(0, .aload_n 0, 1), (1, .getfield 37, 3), (4, .ireturn, 1)]
theorem IX10_place_ok : IX10_place.all (fun e => decide (decode cX10_place e.1 = .ok e.2)) = true := by decide +kernel
abbrev MX10_place : am_MD := (10, yX10_place, cX10_place, 1, (Option.some FieldType.int), IX10_place)
abbrev IX10_person : List (Nat × Instr × Nat) := [(0, .aload_n 0, 1), (1, .getfield 268, 3), (4, .bipush 12, 2), (6, .if_icmp .eq 32, 3), (9, .iload_n 1, 1), (10, .invokestatic 277, 3), (13, .ifCond .eq 25, 3), (16, .iload_n 2, 1), (17, .invokestatic 277, 3), (20, .ifCond .eq 18, 3), (23, .iload_n 3, 1), (24, .invokestatic 277, 3), (27, .ifCond .eq 11, 3), (30, .iload 4, 2), (32, .invokestatic 277, 3), (35, .ifCond .ne 5, 3), (38, .iconst (-1), 1), (39, .ireturn, 1), (40, .aload_n 0, 1), (41, .getfield 83, 3), (44, .iconst 4, 1), (45, .aload_n 0, 1), (46, .getfield 268, 3), (49, .imul, 1), (50, .iload_n 1, 1), (51, .iastore, 1), (52, .aload_n 0, 1), (53, .getfield 83, 3), (56, .iconst 4, 1), (57, .aload_n 0, 1), (58, .getfield 268, 3), (61, .imul, 1), (62, .iconst 1, 1), (63, .iadd, 1), (64, .iload_n 2, 1), (65, .iastore, 1), (66, .aload_n 0, 1), (67, .getfield 83, 3), (70, .iconst 4, 1), (71, .aload_n 0, 1), (72, .getfield 268, 3), (75, .imul, 1), (76, .iconst 2, 1), (77, .iadd, 1), (78, .iload_n 3, 1), (79, .iastore, 1), (80, .aload_n 0, 1), (81, .getfield 83, 3), (84, .iconst 4, 1), (85, .aload_n 0, 1), (86, .getfield 268, 3), (89, .imul, 1), (90, .iconst 3, 1), (91, .iadd, 1), (92, .iload 4, 2), (94, .iastore, 1), (95, .aload_n 0, 1), (96, .getfield 86, 3), (99, .aload_n 0, 1), (100, .getfield 268, 3), (103, .iconst (-1), 1), (104, .iastore, 1), (105, .aload_n 0, 1), (106, .dup, 1), (107, .getfield 268, 3), (110, .iconst 1, 1), (111, .iadd, 1), (112, .putfield 268, 3), (115, .aload_n 0, 1), (116, .getfield 268, 3), (119, .iconst 1, 1), (120, .isub, 1), (121, .ireturn, 1)]
theorem IX10_person_ok : IX10_person.all (fun e => decide (decode cX10_person e.1 = .ok e.2)) = true := by decide +kernel
abbrev MX10_person : am_MD := (10, yX10_person, cX10_person, 5, (Option.some FieldType.int), IX10_person)
abbrev IX10_isFour : List (Nat × Instr × Nat) := [(0, .iload_n 0, 1), (1, .ifCond .lt 12, 3), (4, .iload_n 0, 1), (5, .iconst 4, 1), (6, .if_icmp .ge 7, 3), (9, .iconst 1, 1), (10, .goto 4, 3), (13, .iconst 0, 1), (14, .ireturn, 1)]
theorem IX10_isFour_ok : IX10_isFour.all (fun e => decide (decode cX10_isFour e.1 = .ok e.2)) = true := by decide +kernel
abbrev MX10_isFour : am_MD := (10, yX10_isFour, cX10_isFour, 1, (Option.some FieldType.boolean), IX10_isFour)
abbrev IX10_topic : List (Nat × Instr × Nat) := [(0, .aload_n 0, 1), (1, .getfield 249, 3), (4, .bipush 12, 2), (6, .if_icmp .eq 16, 3), (9, .iload_n 1, 1), (10, .iconst (-1), 1), (11, .if_icmp .lt 11, 3), (14, .iload_n 1, 1), (15, .aload_n 0, 1), (16, .getfield 249, 3), (19, .if_icmp .lt 5, 3), (22, .iconst (-1), 1), (23, .ireturn, 1), (24, .aload_n 0, 1), (25, .getfield 89, 3), (28, .aload_n 0, 1), (29, .getfield 249, 3), (32, .iconst 1, 1), (33, .aload_n 0, 1), (34, .getfield 249, 3), (37, .ishl, 1), (38, .iastore, 1), (39, .iload_n 1, 1), (40, .iconst (-1), 1), (41, .if_icmp .eq 21, 3), (44, .aload_n 0, 1), (45, .getfield 89, 3), (48, .aload_n 0, 1), (49, .getfield 249, 3), (52, .dup2, 1), (53, .iaload, 1), (54, .aload_n 0, 1), (55, .getfield 89, 3), (58, .iload_n 1, 1), (59, .iaload, 1), (60, .ior, 1), (61, .iastore, 1), (62, .aload_n 0, 1), (63, .dup, 1), (64, .getfield 249, 3), (67, .iconst 1, 1), (68, .iadd, 1), (69, .putfield 249, 3), (72, .aload_n 0, 1), (73, .getfield 249, 3), (76, .iconst 1, 1), (77, .isub, 1), (78, .ireturn, 1)]
theorem IX10_topic_ok : IX10_topic.all (fun e => decide (decode cX10_topic e.1 = .ok e.2)) = true := by decide +kernel
abbrev MX10_topic : am_MD := (10, yX10_topic, cX10_topic, 2, (Option.some FieldType.int), IX10_topic)
abbrev IX10_tape : List (Nat × Instr × Nat) := [(0, .aload_n 0, 1), (1, .getfield 280, 3), (4, .bipush 6, 2), (6, .if_icmp .eq 30, 3), (9, .aload_n 0, 1), (10, .iload_n 1, 1), (11, .invokevirtual 224, 3), (14, .ifCond .eq 22, 3), (17, .iload_n 2, 1), (18, .invokestatic 283, 3), (21, .ifCond .eq 15, 3), (24, .iload_n 3, 1), (25, .iconst 1, 1), (26, .if_icmp .lt 10, 3), (29, .iload_n 3, 1), (30, .sipush 999, 3), (33, .if_icmp .le 5, 3), (36, .iconst (-1), 1), (37, .ireturn, 1), (38, .aload_n 0, 1), (39, .getfield 92, 3), (42, .aload_n 0, 1), (43, .getfield 280, 3), (46, .iload_n 1, 1), (47, .iastore, 1), (48, .aload_n 0, 1), (49, .getfield 95, 3), (52, .aload_n 0, 1), (53, .getfield 280, 3), (56, .iload_n 2, 1), (57, .iastore, 1), (58, .aload_n 0, 1), (59, .getfield 98, 3), (62, .aload_n 0, 1), (63, .getfield 280, 3), (66, .iload_n 3, 1), (67, .iastore, 1), (68, .aload_n 0, 1), (69, .dup, 1), (70, .getfield 280, 3), (73, .iconst 1, 1), (74, .iadd, 1), (75, .putfield 280, 3), (78, .aload_n 0, 1), (79, .getfield 280, 3), (82, .iconst 1, 1), (83, .isub, 1), (84, .ireturn, 1)]
theorem IX10_tape_ok : IX10_tape.all (fun e => decide (decode cX10_tape e.1 = .ok e.2)) = true := by decide +kernel
abbrev MX10_tape : am_MD := (10, yX10_tape, cX10_tape, 4, (Option.some FieldType.int), IX10_tape)
abbrev IX10_isDay : List (Nat × Instr × Nat) := [(0, .iload_n 0, 1), (1, .ifCond .lt 14, 3), (4, .iload_n 0, 1), (5, .sipush 9999, 3), (8, .if_icmp .gt 7, 3), (11, .iconst 1, 1), (12, .goto 4, 3), (15, .iconst 0, 1), (16, .ireturn, 1)]
theorem IX10_isDay_ok : IX10_isDay.all (fun e => decide (decode cX10_isDay e.1 = .ok e.2)) = true := by decide +kernel
abbrev MX10_isDay : am_MD := (10, yX10_isDay, cX10_isDay, 1, (Option.some FieldType.boolean), IX10_isDay)
abbrev IX10_piece : List (Nat × Instr × Nat) := [(0, .aload_n 0, 1), (1, .getfield 271, 3), (4, .bipush 30, 2), (6, .if_icmp .eq 86, 3), (9, .iload_n 1, 1), (10, .ifCond .lt 82, 3), (13, .iload_n 1, 1), (14, .aload_n 0, 1), (15, .getfield 280, 3), (18, .if_icmp .ge 74, 3), (21, .iload_n 2, 1), (22, .ifCond .lt 70, 3), (25, .iload_n 2, 1), (26, .iload_n 3, 1), (27, .if_icmp .ge 65, 3), (30, .iload_n 3, 1), (31, .aload_n 0, 1), (32, .getfield 98, 3), (35, .iload_n 1, 1), (36, .iaload, 1), (37, .if_icmp .gt 55, 3), (40, .iload 4, 2), (42, .ifCond .lt 50, 3), (45, .iload 4, 2), (47, .aload_n 0, 1), (48, .getfield 249, 3), (51, .if_icmp .ge 41, 3), (54, .iload 5, 2), (56, .iconst (-1), 1), (57, .if_icmp .lt 35, 3), (60, .iload 5, 2), (62, .aload_n 0, 1), (63, .getfield 268, 3), (66, .if_icmp .ge 26, 3), (69, .iload 6, 2), (71, .ifCond .lt 21, 3), (74, .iload 6, 2), (76, .bipush 15, 2), (78, .if_icmp .gt 14, 3), (81, .iload 5, 2), (83, .iconst (-1), 1), (84, .if_icmp .ne 10, 3), (87, .iload 6, 2), (89, .ifCond .eq 5, 3), (92, .iconst (-1), 1), (93, .ireturn, 1), (94, .iconst 0, 1), (95, .istore 7, 2), (97, .iload 7, 2), (99, .aload_n 0, 1), (100, .getfield 271, 3), (103, .if_icmp .ge 44, 3), (106, .aload_n 0, 1), (107, .getfield 101, 3), (110, .iload 7, 2), (112, .iaload, 1), (113, .iload_n 1, 1), (114, .if_icmp .ne 27, 3), (117, .aload_n 0, 1), (118, .getfield 104, 3), (121, .iload 7, 2), (123, .iaload, 1), (124, .iload_n 3, 1), (125, .if_icmp .ge 16, 3), (128, .iload_n 2, 1), (129, .aload_n 0, 1), (130, .getfield 107, 3), (133, .iload 7, 2), (135, .iaload, 1), (136, .if_icmp .ge 5, 3), (139, .iconst (-1), 1), (140, .ireturn, 1), (141, .iinc 7 1, 3), (144, .goto (-47), 3), (147, .aload_n 0, 1), (148, .getfield 101, 3), (151, .aload_n 0, 1), (152, .getfield 271, 3), (155, .iload_n 1, 1), (156, .iastore, 1), (157, .aload_n 0, 1), (158, .getfield 104, 3), (161, .aload_n 0, 1), (162, .getfield 271, 3), (165, .iload_n 2, 1), (166, .iastore, 1), (167, .aload_n 0, 1), (168, .getfield 107, 3), (171, .aload_n 0, 1), (172, .getfield 271, 3), (175, .iload_n 3, 1), (176, .iastore, 1), (177, .aload_n 0, 1), (178, .getfield 110, 3), (181, .aload_n 0, 1), (182, .getfield 271, 3), (185, .iload 4, 2), (187, .iastore, 1), (188, .aload_n 0, 1), (189, .getfield 113, 3), (192, .aload_n 0, 1), (193, .getfield 271, 3), (196, .iload 5, 2), (198, .iastore, 1), (199, .aload_n 0, 1), (200, .getfield 116, 3), (203, .aload_n 0, 1), (204, .getfield 271, 3), (207, .iload 6, 2), (209, .iastore, 1), (210, .aload_n 0, 1), (211, .getfield 119, 3), (214, .aload_n 0, 1), (215, .getfield 271, 3), (218, .iconst (-1), 1), (219, .iastore, 1), (220, .aload_n 0, 1), (221, .dup, 1), (222, .getfield 271, 3), (225, .iconst 1, 1), (226, .iadd, 1), (227, .putfield 271, 3), (230, .aload_n 0, 1), (231, .getfield 271, 3), (234, .iconst 1, 1), (235, .isub, 1), (236, .ireturn, 1)]
theorem IX10_piece_ok : IX10_piece.all (fun e => decide (decode cX10_piece e.1 = .ok e.2)) = true := by decide +kernel
abbrev MX10_piece : am_MD := (10, yX10_piece, cX10_piece, 8, (Option.some FieldType.int), IX10_piece)
end
section
abbrev IX10_asker : List (Nat × Instr × Nat) := [(0, .aload_n 0, 1), (1, .getfield 274, 3), (4, .bipush 6, 2), (6, .if_icmp .eq 10, 3), (9, .iload_n 1, 1), (10, .invokestatic 277, 3), (13, .ifCond .ne 5, 3), (16, .iconst (-1), 1), (17, .ireturn, 1), (18, .aload_n 0, 1), (19, .getfield 122, 3), (22, .aload_n 0, 1), (23, .getfield 274, 3), (26, .iload_n 1, 1), (27, .iastore, 1), (28, .aload_n 0, 1), (29, .dup, 1), (30, .getfield 274, 3), (33, .iconst 1, 1), (34, .iadd, 1), (35, .putfield 274, 3), (38, .aload_n 0, 1), (39, .getfield 274, 3), (42, .iconst 1, 1), (43, .isub, 1), (44, .ireturn, 1)]
theorem IX10_asker_ok : IX10_asker.all (fun e => decide (decode cX10_asker e.1 = .ok e.2)) = true := by decide +kernel
abbrev MX10_asker : am_MD := (10, yX10_asker, cX10_asker, 2, (Option.some FieldType.int), IX10_asker)
abbrev IX10_copy : List (Nat × Instr × Nat) := [(0, .aload_n 0, 1), (1, .getfield 286, 3), (4, .iconst 4, 1), (5, .if_icmp .eq 14, 3), (8, .iload_n 1, 1), (9, .ifCond .lt 10, 3), (12, .iload_n 1, 1), (13, .sipush 400, 3), (16, .if_icmp .le 5, 3), (19, .iconst (-1), 1), (20, .ireturn, 1), (21, .aload_n 0, 1), (22, .getfield 125, 3), (25, .aload_n 0, 1), (26, .getfield 286, 3), (29, .iload_n 1, 1), (30, .iastore, 1), (31, .aload_n 0, 1), (32, .dup, 1), (33, .getfield 286, 3), (36, .iconst 1, 1), (37, .iadd, 1), (38, .putfield 286, 3), (41, .aload_n 0, 1), (42, .getfield 286, 3), (45, .iconst 1, 1), (46, .isub, 1), (47, .ireturn, 1)]
theorem IX10_copy_ok : IX10_copy.all (fun e => decide (decode cX10_copy e.1 = .ok e.2)) = true := by decide +kernel
abbrev MX10_copy : am_MD := (10, yX10_copy, cX10_copy, 2, (Option.some FieldType.int), IX10_copy)
abbrev IX10_bound : List (Nat × Instr × Nat) := [(0, .iload_n 1, 1), (1, .iconst 1, 1), (2, .if_icmp .lt 9, 3), (5, .iload_n 1, 1), (6, .bipush 12, 2), (8, .if_icmp .le 5, 3), (11, .iconst 0, 1), (12, .ireturn, 1), (13, .aload_n 0, 1), (14, .iload_n 1, 1), (15, .putfield 159, 3), (18, .iconst 1, 1), (19, .ireturn, 1)]
theorem IX10_bound_ok : IX10_bound.all (fun e => decide (decode cX10_bound e.1 = .ok e.2)) = true := by decide +kernel
abbrev MX10_bound : am_MD := (10, yX10_bound, cX10_bound, 2, (Option.some FieldType.boolean), IX10_bound)
abbrev IX10_dies : List (Nat × Instr × Nat) := [(0, .aload_n 0, 1), (1, .iload_n 1, 1), (2, .invokevirtual 224, 3), (5, .ifCond .eq 20, 3), (8, .iload_n 2, 1), (9, .invokestatic 283, 3), (12, .ifCond .eq 13, 3), (15, .aload_n 0, 1), (16, .getfield 86, 3), (19, .iload_n 1, 1), (20, .iaload, 1), (21, .iconst (-1), 1), (22, .if_icmp .eq 5, 3), (25, .iconst 0, 1), (26, .ireturn, 1), (27, .aload_n 0, 1), (28, .getfield 86, 3), (31, .iload_n 1, 1), (32, .iload_n 2, 1), (33, .iastore, 1), (34, .iconst 1, 1), (35, .ireturn, 1)]
theorem IX10_dies_ok : IX10_dies.all (fun e => decide (decode cX10_dies e.1 = .ok e.2)) = true := by decide +kernel
abbrev MX10_dies : am_MD := (10, yX10_dies, cX10_dies, 3, (Option.some FieldType.boolean), IX10_dies)
abbrev IX10_takes : List (Nat × Instr × Nat) := [(0, .aload_n 0, 1), (1, .iload_n 1, 1), (2, .invokevirtual 289, 3), (5, .ifCond .eq 20, 3), (8, .iload_n 2, 1), (9, .invokestatic 283, 3), (12, .ifCond .eq 13, 3), (15, .aload_n 0, 1), (16, .getfield 119, 3), (19, .iload_n 1, 1), (20, .iaload, 1), (21, .iconst (-1), 1), (22, .if_icmp .eq 5, 3), (25, .iconst 0, 1), (26, .ireturn, 1), (27, .aload_n 0, 1), (28, .getfield 119, 3), (31, .iload_n 1, 1), (32, .iload_n 2, 1), (33, .iastore, 1), (34, .iconst 1, 1), (35, .ireturn, 1)]
theorem IX10_takes_ok : IX10_takes.all (fun e => decide (decode cX10_takes e.1 = .ok e.2)) = true := by decide +kernel
abbrev MX10_takes : am_MD := (10, yX10_takes, cX10_takes, 3, (Option.some FieldType.boolean), IX10_takes)
abbrev IX10_isPiece : List (Nat × Instr × Nat) := [(0, .iload_n 1, 1), (1, .ifCond .lt 15, 3), (4, .iload_n 1, 1), (5, .aload_n 0, 1), (6, .getfield 271, 3), (9, .if_icmp .ge 7, 3), (12, .iconst 1, 1), (13, .goto 4, 3), (16, .iconst 0, 1), (17, .ireturn, 1)]
theorem IX10_isPiece_ok : IX10_isPiece.all (fun e => decide (decode cX10_isPiece e.1 = .ok e.2)) = true := by decide +kernel
abbrev MX10_isPiece : am_MD := (10, yX10_isPiece, cX10_isPiece, 2, (Option.some FieldType.boolean), IX10_isPiece)
abbrev IX10_let : List (Nat × Instr × Nat) := [(0, .aload_n 0, 1), (1, .iload_n 1, 1), (2, .iload_n 2, 1), (3, .iload_n 3, 1), (4, .iload 4, 2), (6, .invokevirtual 310, 3), (9, .ifCond .eq 15, 3), (12, .aload_n 0, 1), (13, .iload_n 1, 1), (14, .iload_n 2, 1), (15, .iload_n 3, 1), (16, .iload 4, 2), (18, .invokevirtual 314, 3), (21, .goto 4, 3), (24, .iconst (-1), 1), (25, .ireturn, 1)]
theorem IX10_let_ok : IX10_let.all (fun e => decide (decode cX10_let e.1 = .ok e.2)) = true := by decide +kernel
abbrev MX10_let : am_MD := (10, yX10_let, cX10_let, 5, (Option.some FieldType.int), IX10_let)
abbrev IX10_isAsked : List (Nat × Instr × Nat) := [(0, .aload_n 0, 1), (1, .iload_n 1, 1), (2, .invokevirtual 289, 3), (5, .ifCond .eq 29, 3), (8, .iload_n 2, 1), (9, .invokestatic 283, 3), (12, .ifCond .eq 22, 3), (15, .iload_n 3, 1), (16, .invokestatic 277, 3), (19, .ifCond .eq 15, 3), (22, .iload 4, 2), (24, .invokestatic 277, 3), (27, .ifCond .eq 7, 3), (30, .iconst 1, 1), (31, .goto 4, 3), (34, .iconst 0, 1), (35, .ireturn, 1)]
theorem IX10_isAsked_ok : IX10_isAsked.all (fun e => decide (decode cX10_isAsked e.1 = .ok e.2)) = true := by decide +kernel
abbrev MX10_isAsked : am_MD := (10, yX10_isAsked, cX10_isAsked, 5, (Option.some FieldType.boolean), IX10_isAsked)
abbrev IX10_letBy : List (Nat × Instr × Nat) := [(0, .aload_n 0, 1), (1, .iload_n 1, 1), (2, .iload_n 2, 1), (3, .iload_n 3, 1), (4, .iload 4, 2), (6, .invokevirtual 302, 3), (9, .aload_n 0, 1), (10, .getfield 92, 3), (13, .aload_n 0, 1), (14, .getfield 101, 3), (17, .iload_n 1, 1), (18, .iaload, 1), (19, .iaload, 1), (20, .istore 5, 2), (22, .iconst 2, 1), (23, .iload 5, 2), (25, .imul, 1), (26, .aload_n 0, 1), (27, .getfield 40, 3), (30, .iload 5, 2), (32, .iaload, 1), (33, .iadd, 1), (34, .istore 6, 2), (36, .iconst 0, 1), (37, .istore 7, 2), (39, .iload 7, 2), (41, .aload_n 0, 1), (42, .getfield 43, 3), (45, .iload 6, 2), (47, .iaload, 1), (48, .if_icmp .ge 67, 3), (51, .aload_n 0, 1), (52, .getfield 46, 3), (55, .bipush 16, 2), (57, .iload 6, 2), (59, .imul, 1), (60, .iload 7, 2), (62, .iadd, 1), (63, .iaload, 1), (64, .iconst 2, 1), (65, .if_icmp .ge 44, 3), (68, .aload_n 0, 1), (69, .bipush 16, 2), (71, .iload 6, 2), (73, .imul, 1), (74, .iload 7, 2), (76, .iadd, 1), (77, .iload 6, 2), (79, .invokevirtual 306, 3), (82, .ifCond .eq 27, 3), (85, .aload_n 0, 1), (86, .getfield 46, 3), (89, .bipush 16, 2), (91, .iload 6, 2), (93, .imul, 1), (94, .iload 7, 2), (96, .iadd, 1), (97, .iaload, 1), (98, .ifCond .ne 8, 3), (101, .iload 7, 2), (103, .goto 5, 3), (106, .bipush (-2), 2), (108, .ireturn, 1), (109, .iinc 7 1, 3), (112, .goto (-73), 3), (115, .bipush (-3), 2), (117, .ireturn, 1)]
theorem IX10_letBy_ok : IX10_letBy.all (fun e => decide (decode cX10_letBy e.1 = .ok e.2)) = true := by decide +kernel
abbrev MX10_letBy : am_MD := (10, yX10_letBy, cX10_letBy, 8, (Option.some FieldType.int), IX10_letBy)
abbrev IX10_asks : List (Nat × Instr × Nat) := [(0, .aload_n 0, 1), (1, .getfield 92, 3), (4, .aload_n 0, 1), (5, .getfield 101, 3), (8, .iload_n 1, 1), (9, .iaload, 1), (10, .iaload, 1), (11, .istore 5, 2), (13, .aload_n 0, 1), (14, .getfield 128, 3), (17, .iconst 0, 1), (18, .iload_n 3, 1), (19, .iastore, 1), (20, .aload_n 0, 1), (21, .getfield 128, 3), (24, .iconst 1, 1), (25, .iload 4, 2), (27, .iastore, 1), (28, .aload_n 0, 1), (29, .getfield 128, 3), (32, .iconst 2, 1), (33, .iload_n 2, 1), (34, .aload_n 0, 1), (35, .getfield 95, 3), (38, .aload_n 0, 1), (39, .getfield 101, 3), (42, .iload_n 1, 1), (43, .iaload, 1), (44, .iaload, 1), (45, .isub, 1), (46, .iastore, 1), (47, .aload_n 0, 1), (48, .getfield 128, 3), (51, .iconst 3, 1), (52, .aload_n 0, 1), (53, .getfield 86, 3), (56, .iload 5, 2), (58, .iaload, 1), (59, .iconst (-1), 1), (60, .if_icmp .eq 14, 3), (63, .iload_n 2, 1), (64, .aload_n 0, 1), (65, .getfield 86, 3), (68, .iload 5, 2), (70, .iaload, 1), (71, .if_icmp .ge 7, 3), (74, .iconst (-1), 1), (75, .goto 12, 3), (78, .iload_n 2, 1), (79, .aload_n 0, 1), (80, .getfield 86, 3), (83, .iload 5, 2), (85, .iaload, 1), (86, .isub, 1), (87, .iastore, 1), (88, .aload_n 0, 1), (89, .getfield 128, 3), (92, .iconst 4, 1), (93, .iload_n 1, 1), (94, .iastore, 1), (95, .aload_n 0, 1), (96, .getfield 128, 3), (99, .iconst 5, 1), (100, .aload_n 0, 1), (101, .getfield 113, 3), (104, .iload_n 1, 1), (105, .iaload, 1), (106, .iastore, 1), (107, .aload_n 0, 1), (108, .getfield 128, 3), (111, .bipush 6, 2), (113, .aload_n 0, 1), (114, .getfield 113, 3), (117, .iload_n 1, 1), (118, .iaload, 1), (119, .iload 5, 2), (121, .if_icmp .ne 7, 3), (124, .iconst 1, 1), (125, .goto 4, 3), (128, .iconst 0, 1), (129, .iastore, 1), (130, .aload_n 0, 1), (131, .aload_n 0, 1), (132, .getfield 89, 3), (135, .aload_n 0, 1), (136, .getfield 110, 3), (139, .iload_n 1, 1), (140, .iaload, 1), (141, .iaload, 1), (142, .putfield 292, 3), (145, .return_, 1)]
theorem IX10_asks_ok : IX10_asks.all (fun e => decide (decode cX10_asks e.1 = .ok e.2)) = true := by decide +kernel
abbrev MX10_asks : am_MD := (10, yX10_asks, cX10_asks, 6, none, IX10_asks)
abbrev IX10_holds : List (Nat × Instr × Nat) := [(0, .aload_n 0, 1), (1, .getfield 49, 3), (4, .iload_n 1, 1), (5, .iaload, 1), (6, .aload_n 0, 1), (7, .getfield 52, 3), (10, .iload_n 1, 1), (11, .iaload, 1), (12, .if_icmp .ne 5, 3), (15, .iconst 1, 1), (16, .ireturn, 1), (17, .iconst 0, 1), (18, .istore_n 3, 1), (19, .aload_n 0, 1), (20, .getfield 49, 3), (23, .iload_n 1, 1), (24, .iaload, 1), (25, .istore 4, 2), (27, .iload 4, 2), (29, .aload_n 0, 1), (30, .getfield 52, 3), (33, .iload_n 1, 1), (34, .iaload, 1), (35, .if_icmp .ge 66, 3), (38, .sipush 200, 3), (41, .iload_n 2, 1), (42, .imul, 1), (43, .iload 4, 2), (45, .iadd, 1), (46, .istore 5, 2), (48, .aload_n 0, 1), (49, .getfield 70, 3), (52, .iload 5, 2), (54, .baload, 1), (55, .ifCond .eq 9, 3), (58, .iload_n 3, 1), (59, .ifCond .eq 5, 3), (62, .iconst 1, 1), (63, .ireturn, 1), (64, .aload_n 0, 1), (65, .getfield 70, 3), (68, .iload 5, 2), (70, .baload, 1), (71, .ifCond .eq 5, 3), (74, .iconst 1, 1), (75, .istore_n 3, 1), (76, .iload_n 3, 1), (77, .ifCond .eq 16, 3), (80, .aload_n 0, 1), (81, .iload 5, 2), (83, .invokevirtual 299, 3), (86, .ifCond .eq 7, 3), (89, .iconst 1, 1), (90, .goto 4, 3), (93, .iconst 0, 1), (94, .istore_n 3, 1), (95, .iinc 4 1, 3), (98, .goto (-71), 3), (101, .iload_n 3, 1), (102, .ireturn, 1)]
theorem IX10_holds_ok : IX10_holds.all (fun e => decide (decode cX10_holds e.1 = .ok e.2)) = true := by decide +kernel
abbrev MX10_holds : am_MD := (10, yX10_holds, cX10_holds, 6, (Option.some FieldType.boolean), IX10_holds)
abbrev IX10_isTrue : List (Nat × Instr × Nat) := [(0, .aload_n 0, 1), (1, .getfield 58, 3), (4, .iload_n 1, 1), (5, .iaload, 1), (6, .iconst 4, 1), (7, .if_icmp .ne 31, 3), (10, .aload_n 0, 1), (11, .getfield 292, 3), (14, .aload_n 0, 1), (15, .getfield 77, 3), (18, .aload_n 0, 1), (19, .getfield 61, 3), (22, .iload_n 1, 1), (23, .iaload, 1), (24, .iaload, 1), (25, .ishr, 1), (26, .iconst 1, 1), (27, .iand, 1), (28, .iconst 1, 1), (29, .if_icmp .ne 7, 3), (32, .iconst 1, 1), (33, .goto 4, 3), (36, .iconst 0, 1), (37, .ireturn, 1), (38, .aload_n 0, 1), (39, .aload_n 0, 1), (40, .getfield 61, 3), (43, .iload_n 1, 1), (44, .iaload, 1), (45, .aload_n 0, 1), (46, .getfield 64, 3), (49, .iload_n 1, 1), (50, .iaload, 1), (51, .invokevirtual 295, 3), (54, .istore_n 2, 1), (55, .aload_n 0, 1), (56, .aload_n 0, 1), (57, .getfield 64, 3), (60, .iload_n 1, 1), (61, .iaload, 1), (62, .aload_n 0, 1), (63, .getfield 67, 3), (66, .iload_n 1, 1), (67, .iaload, 1), (68, .invokevirtual 295, 3), (71, .istore_n 3, 1), (72, .aload_n 0, 1), (73, .getfield 58, 3), (76, .iload_n 1, 1), (77, .iaload, 1), (78, .ifCond .ne 16, 3), (81, .iload_n 2, 1), (82, .iload_n 3, 1), (83, .if_icmp .ne 7, 3), (86, .iconst 1, 1), (87, .goto 63, 3), (90, .iconst 0, 1), (91, .goto 59, 3), (94, .aload_n 0, 1), (95, .getfield 58, 3), (98, .iload_n 1, 1), (99, .iaload, 1), (100, .iconst 1, 1), (101, .if_icmp .ne 16, 3), (104, .iload_n 2, 1), (105, .iload_n 3, 1), (106, .if_icmp .eq 7, 3), (109, .iconst 1, 1), (110, .goto 40, 3), (113, .iconst 0, 1), (114, .goto 36, 3), (117, .aload_n 0, 1), (118, .getfield 58, 3), (121, .iload_n 1, 1), (122, .iaload, 1), (123, .iconst 2, 1), (124, .if_icmp .ne 16, 3), (127, .iload_n 2, 1), (128, .iload_n 3, 1), (129, .if_icmp .ge 7, 3), (132, .iconst 1, 1), (133, .goto 17, 3), (136, .iconst 0, 1), (137, .goto 13, 3), (140, .iload_n 2, 1), (141, .iload_n 3, 1), (142, .if_icmp .gt 7, 3), (145, .iconst 1, 1), (146, .goto 4, 3), (149, .iconst 0, 1), (150, .ireturn, 1)]
theorem IX10_isTrue_ok : IX10_isTrue.all (fun e => decide (decode cX10_isTrue e.1 = .ok e.2)) = true := by decide +kernel
abbrev MX10_isTrue : am_MD := (10, yX10_isTrue, cX10_isTrue, 4, (Option.some FieldType.boolean), IX10_isTrue)
abbrev IX10_value : List (Nat × Instr × Nat) := [(0, .iconst 0, 1), (1, .istore_n 3, 1), (2, .iload_n 1, 1), (3, .istore 4, 2), (5, .iload 4, 2), (7, .iload_n 2, 1), (8, .if_icmp .ge 136, 3), (11, .aload_n 0, 1), (12, .getfield 74, 3), (15, .iload 4, 2), (17, .iaload, 1), (18, .iconst 2, 1), (19, .if_icmp .ge 47, 3), (22, .aload_n 0, 1), (23, .getfield 131, 3), (26, .iload_n 3, 1), (27, .aload_n 0, 1), (28, .getfield 74, 3), (31, .iload 4, 2), (33, .iaload, 1), (34, .ifCond .ne 13, 3), (37, .aload_n 0, 1), (38, .getfield 77, 3), (41, .iload 4, 2), (43, .iaload, 1), (44, .goto 15, 3), (47, .aload_n 0, 1), (48, .getfield 128, 3), (51, .aload_n 0, 1), (52, .getfield 77, 3), (55, .iload 4, 2), (57, .iaload, 1), (58, .iaload, 1), (59, .iastore, 1), (60, .iinc 3 1, 3), (63, .goto 75, 3), (66, .iinc 3 (-1), 3), (69, .aload_n 0, 1), (70, .getfield 131, 3), (73, .iload_n 3, 1), (74, .iconst 1, 1), (75, .isub, 1), (76, .iaload, 1), (77, .istore 5, 2), (79, .aload_n 0, 1), (80, .getfield 131, 3), (83, .iload_n 3, 1), (84, .iaload, 1), (85, .istore 6, 2), (87, .aload_n 0, 1), (88, .getfield 131, 3), (91, .iload_n 3, 1), (92, .iconst 1, 1), (93, .isub, 1), (94, .aload_n 0, 1), (95, .getfield 74, 3), (98, .iload 4, 2), (100, .iaload, 1), (101, .iconst 2, 1), (102, .if_icmp .ne 11, 3), (105, .iload 5, 2), (107, .iload 6, 2), (109, .iadd, 1), (110, .goto 27, 3), (113, .aload_n 0, 1), (114, .getfield 74, 3), (117, .iload 4, 2), (119, .iaload, 1), (120, .iconst 3, 1), (121, .if_icmp .ne 11, 3), (124, .iload 5, 2), (126, .iload 6, 2), (128, .isub, 1), (129, .goto 8, 3), (132, .iload 5, 2), (134, .iload 6, 2), (136, .imul, 1), (137, .iastore, 1), (138, .iinc 4 1, 3), (141, .goto (-136), 3), (144, .aload_n 0, 1), (145, .getfield 131, 3), (148, .iconst 0, 1), (149, .iaload, 1), (150, .ireturn, 1)]
theorem IX10_value_ok : IX10_value.all (fun e => decide (decode cX10_value e.1 = .ok e.2)) = true := by decide +kernel
abbrev MX10_value : am_MD := (10, yX10_value, cX10_value, 7, (Option.some FieldType.int), IX10_value)
abbrev IX10_mask : List (Nat × Instr × Nat) := [(0, .aload_n 0, 1), (1, .iload_n 1, 1), (2, .iload_n 2, 1), (3, .iload_n 3, 1), (4, .iload 4, 2), (6, .invokevirtual 310, 3), (9, .ifCond .eq 15, 3), (12, .aload_n 0, 1), (13, .iload_n 1, 1), (14, .iload_n 2, 1), (15, .iload_n 3, 1), (16, .iload 4, 2), (18, .invokevirtual 318, 3), (21, .goto 4, 3), (24, .iconst (-1), 1), (25, .ireturn, 1)]
theorem IX10_mask_ok : IX10_mask.all (fun e => decide (decode cX10_mask e.1 = .ok e.2)) = true := by decide +kernel
abbrev MX10_mask : am_MD := (10, yX10_mask, cX10_mask, 5, (Option.some FieldType.int), IX10_mask)
abbrev IX10_maskBy : List (Nat × Instr × Nat) := [(0, .aload_n 0, 1), (1, .getfield 113, 3), (4, .iload_n 1, 1), (5, .iaload, 1), (6, .iconst (-1), 1), (7, .if_icmp .ne 5, 3), (10, .iconst (-1), 1), (11, .ireturn, 1), (12, .aload_n 0, 1), (13, .iload_n 1, 1), (14, .iload_n 2, 1), (15, .iload_n 3, 1), (16, .iload 4, 2), (18, .invokevirtual 302, 3), (21, .aload_n 0, 1), (22, .getfield 92, 3), (25, .aload_n 0, 1), (26, .getfield 101, 3), (29, .iload_n 1, 1), (30, .iaload, 1), (31, .iaload, 1), (32, .istore 5, 2), (34, .iconst 2, 1), (35, .iload 5, 2), (37, .imul, 1), (38, .aload_n 0, 1), (39, .getfield 40, 3), (42, .iload 5, 2), (44, .iaload, 1), (45, .iadd, 1), (46, .istore 6, 2), (48, .iconst 0, 1), (49, .istore 7, 2), (51, .iload 7, 2), (53, .aload_n 0, 1), (54, .getfield 43, 3), (57, .iload 6, 2), (59, .iaload, 1), (60, .if_icmp .ge 46, 3), (63, .aload_n 0, 1), (64, .getfield 46, 3), (67, .bipush 16, 2), (69, .iload 6, 2), (71, .imul, 1), (72, .iload 7, 2), (74, .iadd, 1), (75, .iaload, 1), (76, .iconst 2, 1), (77, .if_icmp .ne 23, 3), (80, .aload_n 0, 1), (81, .bipush 16, 2), (83, .iload 6, 2), (85, .imul, 1), (86, .iload 7, 2), (88, .iadd, 1), (89, .iload 6, 2), (91, .invokevirtual 306, 3), (94, .ifCond .eq 6, 3), (97, .iload 7, 2), (99, .ireturn, 1), (100, .iinc 7 1, 3), (103, .goto (-52), 3), (106, .iconst (-1), 1), (107, .ireturn, 1)]
theorem IX10_maskBy_ok : IX10_maskBy.all (fun e => decide (decode cX10_maskBy e.1 = .ok e.2)) = true := by decide +kernel
abbrev MX10_maskBy : am_MD := (10, yX10_maskBy, cX10_maskBy, 8, (Option.some FieldType.int), IX10_maskBy)
abbrev IX10_opens : List (Nat × Instr × Nat) := [(0, .aload_n 0, 1), (1, .iload_n 1, 1), (2, .iload_n 2, 1), (3, .iload_n 3, 1), (4, .iload 4, 2), (6, .invokevirtual 310, 3), (9, .ifCond .ne 5, 3), (12, .iconst (-1), 1), (13, .ireturn, 1), (14, .iload_n 2, 1), (15, .istore 5, 2), (17, .iload 5, 2), (19, .sipush 9999, 3), (22, .if_icmp .gt 25, 3), (25, .aload_n 0, 1), (26, .iload_n 1, 1), (27, .iload 5, 2), (29, .iload_n 3, 1), (30, .iload 4, 2), (32, .invokevirtual 314, 3), (35, .ifCond .lt 6, 3), (38, .iload 5, 2), (40, .ireturn, 1), (41, .iinc 5 1, 3), (44, .goto (-27), 3), (47, .iconst (-1), 1), (48, .ireturn, 1)]
theorem IX10_opens_ok : IX10_opens.all (fun e => decide (decode cX10_opens e.1 = .ok e.2)) = true := by decide +kernel
abbrev MX10_opens : am_MD := (10, yX10_opens, cX10_opens, 6, (Option.some FieldType.int), IX10_opens)
abbrev IX10_would : List (Nat × Instr × Nat) := [(0, .aload_n 0, 1), (1, .iload_n 1, 1), (2, .iload_n 2, 1), (3, .iload_n 3, 1), (4, .iload 4, 2), (6, .iload 5, 2), (8, .invokevirtual 333, 3), (11, .ifCond .eq 17, 3), (14, .aload_n 0, 1), (15, .iload_n 1, 1), (16, .iload_n 2, 1), (17, .iload_n 3, 1), (18, .iload 4, 2), (20, .iload 5, 2), (22, .invokevirtual 337, 3), (25, .goto 4, 3), (28, .iconst (-1), 1), (29, .ireturn, 1)]
theorem IX10_would_ok : IX10_would.all (fun e => decide (decode cX10_would e.1 = .ok e.2)) = true := by decide +kernel
abbrev MX10_would : am_MD := (10, yX10_would, cX10_would, 6, (Option.some FieldType.int), IX10_would)
abbrev IX10_isAsking : List (Nat × Instr × Nat) := [(0, .aload_n 0, 1), (1, .iload_n 1, 1), (2, .invokevirtual 321, 3), (5, .ifCond .eq 44, 3), (8, .aload_n 0, 1), (9, .iload_n 2, 1), (10, .invokevirtual 289, 3), (13, .ifCond .eq 36, 3), (16, .iload_n 3, 1), (17, .iconst (-1), 1), (18, .if_icmp .lt 31, 3), (21, .iload_n 3, 1), (22, .aload_n 0, 1), (23, .getfield 286, 3), (26, .if_icmp .ge 23, 3), (29, .iload 4, 2), (31, .invokestatic 283, 3), (34, .ifCond .eq 15, 3), (37, .iload 5, 2), (39, .invokestatic 277, 3), (42, .ifCond .eq 7, 3), (45, .iconst 1, 1), (46, .goto 4, 3), (49, .iconst 0, 1), (50, .ireturn, 1)]
theorem IX10_isAsking_ok : IX10_isAsking.all (fun e => decide (decode cX10_isAsking e.1 = .ok e.2)) = true := by decide +kernel
abbrev MX10_isAsking : am_MD := (10, yX10_isAsking, cX10_isAsking, 6, (Option.some FieldType.boolean), IX10_isAsking)
abbrev IX10_isAsker : List (Nat × Instr × Nat) := [(0, .iload_n 1, 1), (1, .ifCond .lt 15, 3), (4, .iload_n 1, 1), (5, .aload_n 0, 1), (6, .getfield 274, 3), (9, .if_icmp .ge 7, 3), (12, .iconst 1, 1), (13, .goto 4, 3), (16, .iconst 0, 1), (17, .ireturn, 1)]
theorem IX10_isAsker_ok : IX10_isAsker.all (fun e => decide (decode cX10_isAsker e.1 = .ok e.2)) = true := by decide +kernel
abbrev MX10_isAsker : am_MD := (10, yX10_isAsker, cX10_isAsker, 2, (Option.some FieldType.boolean), IX10_isAsker)
abbrev IX10_wouldGet : List (Nat × Instr × Nat) := [(0, .aload_n 0, 1), (1, .getfield 119, 3), (4, .iload_n 2, 1), (5, .iaload, 1), (6, .iconst (-1), 1), (7, .if_icmp .eq 32, 3), (10, .aload_n 0, 1), (11, .getfield 119, 3), (14, .iload_n 2, 1), (15, .iaload, 1), (16, .iload_n 3, 1), (17, .iconst (-1), 1), (18, .if_icmp .ne 7, 3), (21, .iconst 0, 1), (22, .goto 9, 3), (25, .aload_n 0, 1), (26, .getfield 125, 3), (29, .iload_n 3, 1), (30, .iaload, 1), (31, .iadd, 1), (32, .iload 4, 2), (34, .if_icmp .gt 5, 3), (37, .iconst 0, 1), (38, .ireturn, 1), (39, .aload_n 0, 1), (40, .iload_n 2, 1), (41, .iload 4, 2), (43, .aload_n 0, 1), (44, .getfield 122, 3), (47, .iload_n 1, 1), (48, .iaload, 1), (49, .iload 5, 2), (51, .invokevirtual 314, 3), (54, .ifCond .ge 5, 3), (57, .iconst 1, 1), (58, .ireturn, 1), (59, .aload_n 0, 1), (60, .iload_n 2, 1), (61, .iload 4, 2), (63, .aload_n 0, 1), (64, .getfield 122, 3), (67, .iload_n 1, 1), (68, .iaload, 1), (69, .iload 5, 2), (71, .invokevirtual 318, 3), (74, .iconst (-1), 1), (75, .if_icmp .ne 5, 3), (78, .iconst 2, 1), (79, .ireturn, 1), (80, .aload_n 0, 1), (81, .getfield 113, 3), (84, .iload_n 2, 1), (85, .iaload, 1), (86, .istore 6, 2), (88, .aload_n 0, 1), (89, .iload_n 1, 1), (90, .iload 6, 2), (92, .invokevirtual 324, 3), (95, .ifCond .eq 5, 3), (98, .iconst 3, 1), (99, .ireturn, 1), (100, .aload_n 0, 1), (101, .iload 6, 2), (103, .aload_n 0, 1), (104, .iload_n 1, 1), (105, .iload 6, 2), (107, .invokevirtual 327, 3), (110, .aload_n 0, 1), (111, .getfield 116, 3), (114, .iload_n 2, 1), (115, .iaload, 1), (116, .ior, 1), (117, .invokevirtual 330, 3), (120, .aload_n 0, 1), (121, .getfield 159, 3), (124, .if_icmp .ge 7, 3), (127, .iconst 4, 1), (128, .goto 4, 3), (131, .iconst 3, 1), (132, .ireturn, 1)]
theorem IX10_wouldGet_ok : IX10_wouldGet.all (fun e => decide (decode cX10_wouldGet e.1 = .ok e.2)) = true := by decide +kernel
abbrev MX10_wouldGet : am_MD := (10, yX10_wouldGet, cX10_wouldGet, 7, (Option.some FieldType.int), IX10_wouldGet)
abbrev IX10_hasName : List (Nat × Instr × Nat) := [(0, .iconst 0, 1), (1, .istore_n 3, 1), (2, .iload_n 3, 1), (3, .aload_n 0, 1), (4, .getfield 271, 3), (7, .if_icmp .ge 36, 3), (10, .aload_n 0, 1), (11, .getfield 113, 3), (14, .iload_n 3, 1), (15, .iaload, 1), (16, .iload_n 2, 1), (17, .if_icmp .ne 20, 3), (20, .aload_n 0, 1), (21, .getfield 134, 3), (24, .bipush 30, 2), (26, .iload_n 1, 1), (27, .imul, 1), (28, .iload_n 3, 1), (29, .iadd, 1), (30, .iaload, 1), (31, .iconst 2, 1), (32, .if_icmp .ne 5, 3), (35, .iconst 1, 1), (36, .ireturn, 1), (37, .iinc 3 1, 3), (40, .goto (-38), 3), (43, .iconst 0, 1), (44, .ireturn, 1)]
theorem IX10_hasName_ok : IX10_hasName.all (fun e => decide (decode cX10_hasName e.1 = .ok e.2)) = true := by decide +kernel
abbrev MX10_hasName : am_MD := (10, yX10_hasName, cX10_hasName, 4, (Option.some FieldType.boolean), IX10_hasName)
abbrev IX10_traitsHeard : List (Nat × Instr × Nat) := [(0, .iconst 0, 1), (1, .istore_n 3, 1), (2, .iconst 0, 1), (3, .istore 4, 2), (5, .iload 4, 2), (7, .aload_n 0, 1), (8, .getfield 271, 3), (11, .if_icmp .ge 46, 3), (14, .aload_n 0, 1), (15, .getfield 113, 3), (18, .iload 4, 2), (20, .iaload, 1), (21, .iload_n 2, 1), (22, .if_icmp .ne 29, 3), (25, .aload_n 0, 1), (26, .getfield 134, 3), (29, .bipush 30, 2), (31, .iload_n 1, 1), (32, .imul, 1), (33, .iload 4, 2), (35, .iadd, 1), (36, .iaload, 1), (37, .iconst 3, 1), (38, .if_icmp .ne 13, 3), (41, .iload_n 3, 1), (42, .aload_n 0, 1), (43, .getfield 116, 3), (46, .iload 4, 2), (48, .iaload, 1), (49, .ior, 1), (50, .istore_n 3, 1), (51, .iinc 4 1, 3), (54, .goto (-49), 3), (57, .iload_n 3, 1), (58, .ireturn, 1)]
theorem IX10_traitsHeard_ok : IX10_traitsHeard.all (fun e => decide (decode cX10_traitsHeard e.1 = .ok e.2)) = true := by decide +kernel
abbrev MX10_traitsHeard : am_MD := (10, yX10_traitsHeard, cX10_traitsHeard, 5, (Option.some FieldType.int), IX10_traitsHeard)
abbrev IX10_alike : List (Nat × Instr × Nat) := [(0, .iconst 0, 1), (1, .istore_n 3, 1), (2, .iconst 0, 1), (3, .istore 4, 2), (5, .iload 4, 2), (7, .aload_n 0, 1), (8, .getfield 268, 3), (11, .if_icmp .ge 74, 3), (14, .iconst 1, 1), (15, .istore 5, 2), (17, .iconst 0, 1), (18, .istore 6, 2), (20, .iload 6, 2), (22, .iconst 4, 1), (23, .if_icmp .ge 48, 3), (26, .iload_n 2, 1), (27, .iload 6, 2), (29, .ishr, 1), (30, .iconst 1, 1), (31, .iand, 1), (32, .iconst 1, 1), (33, .if_icmp .ne 32, 3), (36, .aload_n 0, 1), (37, .getfield 83, 3), (40, .iconst 4, 1), (41, .iload 4, 2), (43, .imul, 1), (44, .iload 6, 2), (46, .iadd, 1), (47, .iaload, 1), (48, .aload_n 0, 1), (49, .getfield 83, 3), (52, .iconst 4, 1), (53, .iload_n 1, 1), (54, .imul, 1), (55, .iload 6, 2), (57, .iadd, 1), (58, .iaload, 1), (59, .if_icmp .eq 6, 3), (62, .iconst 0, 1), (63, .istore 5, 2), (65, .iinc 6 1, 3), (68, .goto (-48), 3), (71, .iload 5, 2), (73, .ifCond .eq 6, 3), (76, .iinc 3 1, 3), (79, .iinc 4 1, 3), (82, .goto (-77), 3), (85, .iload_n 3, 1), (86, .ireturn, 1)]
theorem IX10_alike_ok : IX10_alike.all (fun e => decide (decode cX10_alike e.1 = .ok e.2)) = true := by decide +kernel
abbrev MX10_alike : am_MD := (10, yX10_alike, cX10_alike, 7, (Option.some FieldType.int), IX10_alike)
abbrev IX10_ask : List (Nat × Instr × Nat) := [(0, .aload_n 0, 1), (1, .iload_n 1, 1), (2, .iload_n 2, 1), (3, .iload_n 3, 1), (4, .iload 4, 2), (6, .iload 5, 2), (8, .invokevirtual 333, 3), (11, .ifCond .ne 5, 3), (14, .iconst (-1), 1), (15, .ireturn, 1), (16, .aload_n 0, 1), (17, .iload_n 1, 1), (18, .iload_n 2, 1), (19, .iload_n 3, 1), (20, .iload 4, 2), (22, .iload 5, 2), (24, .invokevirtual 337, 3), (27, .istore 6, 2), (29, .iload 6, 2), (31, .iconst 2, 1), (32, .if_icmp .eq 24, 3), (35, .iload 6, 2), (37, .iconst 3, 1), (38, .if_icmp .ne 31, 3), (41, .aload_n 0, 1), (42, .getfield 134, 3), (45, .bipush 30, 2), (47, .iload_n 1, 1), (48, .imul, 1), (49, .iload_n 2, 1), (50, .iadd, 1), (51, .iaload, 1), (52, .iconst 2, 1), (53, .if_icmp .eq 16, 3), (56, .aload_n 0, 1), (57, .getfield 134, 3), (60, .bipush 30, 2), (62, .iload_n 1, 1), (63, .imul, 1), (64, .iload_n 2, 1), (65, .iadd, 1), (66, .iload 6, 2), (68, .iastore, 1), (69, .iload 6, 2), (71, .ireturn, 1)]
theorem IX10_ask_ok : IX10_ask.all (fun e => decide (decode cX10_ask e.1 = .ok e.2)) = true := by decide +kernel
abbrev MX10_ask : am_MD := (10, yX10_ask, cX10_ask, 7, (Option.some FieldType.int), IX10_ask)
abbrev IX10_heard : List (Nat × Instr × Nat) := [(0, .aload_n 0, 1), (1, .iload_n 1, 1), (2, .invokevirtual 321, 3), (5, .ifCond .eq 25, 3), (8, .aload_n 0, 1), (9, .iload_n 2, 1), (10, .invokevirtual 289, 3), (13, .ifCond .eq 17, 3), (16, .aload_n 0, 1), (17, .getfield 134, 3), (20, .bipush 30, 2), (22, .iload_n 1, 1), (23, .imul, 1), (24, .iload_n 2, 1), (25, .iadd, 1), (26, .iaload, 1), (27, .goto 4, 3), (30, .iconst (-1), 1), (31, .ireturn, 1)]
theorem IX10_heard_ok : IX10_heard.all (fun e => decide (decode cX10_heard e.1 = .ok e.2)) = true := by decide +kernel
abbrev MX10_heard : am_MD := (10, yX10_heard, cX10_heard, 3, (Option.some FieldType.int), IX10_heard)
abbrev IX10_could : List (Nat × Instr × Nat) := [(0, .aload_n 0, 1), (1, .iload_n 1, 1), (2, .invokevirtual 321, 3), (5, .ifCond .eq 11, 3), (8, .aload_n 0, 1), (9, .iload_n 2, 1), (10, .invokevirtual 224, 3), (13, .ifCond .ne 5, 3), (16, .iconst (-1), 1), (17, .ireturn, 1), (18, .aload_n 0, 1), (19, .iload_n 1, 1), (20, .iload_n 2, 1), (21, .invokevirtual 324, 3), (24, .ifCond .eq 7, 3), (27, .iconst 1, 1), (28, .goto 14, 3), (31, .aload_n 0, 1), (32, .iload_n 2, 1), (33, .aload_n 0, 1), (34, .iload_n 1, 1), (35, .iload_n 2, 1), (36, .invokevirtual 327, 3), (39, .invokevirtual 330, 3), (42, .ireturn, 1)]
theorem IX10_could_ok : IX10_could.all (fun e => decide (decode cX10_could e.1 = .ok e.2)) = true := by decide +kernel
abbrev MX10_could : am_MD := (10, yX10_could, cX10_could, 3, (Option.some FieldType.int), IX10_could)
abbrev IX10_seconds : List (Nat × Instr × Nat) := [(0, .iload_n 1, 1), (1, .ifCond .lt 24, 3), (4, .iload_n 1, 1), (5, .aload_n 0, 1), (6, .getfield 249, 3), (9, .if_icmp .ge 16, 3), (12, .iload_n 2, 1), (13, .iconst (-1), 1), (14, .if_icmp .eq 13, 3), (17, .aload_n 0, 1), (18, .iload_n 2, 1), (19, .invokevirtual 321, 3), (22, .ifCond .ne 5, 3), (25, .iconst (-1), 1), (26, .ireturn, 1), (27, .iconst 0, 1), (28, .istore_n 3, 1), (29, .iconst 0, 1), (30, .istore 4, 2), (32, .iload 4, 2), (34, .aload_n 0, 1), (35, .getfield 271, 3), (38, .if_icmp .ge 67, 3), (41, .aload_n 0, 1), (42, .getfield 89, 3), (45, .aload_n 0, 1), (46, .getfield 110, 3), (49, .iload 4, 2), (51, .iaload, 1), (52, .iaload, 1), (53, .iload_n 1, 1), (54, .ishr, 1), (55, .iconst 1, 1), (56, .iand, 1), (57, .iconst 1, 1), (58, .if_icmp .ne 41, 3), (61, .iload_n 2, 1), (62, .iconst (-1), 1), (63, .if_icmp .eq 18, 3), (66, .aload_n 0, 1), (67, .getfield 134, 3), (70, .bipush 30, 2), (72, .iload_n 2, 1), (73, .imul, 1), (74, .iload 4, 2), (76, .iadd, 1), (77, .iaload, 1), (78, .ifCond .eq 21, 3), (81, .iload_n 3, 1), (82, .aload_n 0, 1), (83, .getfield 107, 3), (86, .iload 4, 2), (88, .iaload, 1), (89, .aload_n 0, 1), (90, .getfield 104, 3), (93, .iload 4, 2), (95, .iaload, 1), (96, .isub, 1), (97, .iadd, 1), (98, .istore_n 3, 1), (99, .iinc 4 1, 3), (102, .goto (-70), 3), (105, .iload_n 3, 1), (106, .ireturn, 1)]
theorem IX10_seconds_ok : IX10_seconds.all (fun e => decide (decode cX10_seconds e.1 = .ok e.2)) = true := by decide +kernel
abbrev MX10_seconds : am_MD := (10, yX10_seconds, cX10_seconds, 5, (Option.some FieldType.int), IX10_seconds)
abbrev IX10_at_ : List (Nat × Instr × Nat) := [(0, .iconst 0, 1), (1, .istore_n 3, 1), (2, .iload_n 3, 1), (3, .aload_n 0, 1), (4, .getfield 271, 3), (7, .if_icmp .ge 41, 3), (10, .aload_n 0, 1), (11, .getfield 101, 3), (14, .iload_n 3, 1), (15, .iaload, 1), (16, .iload_n 1, 1), (17, .if_icmp .ne 25, 3), (20, .aload_n 0, 1), (21, .getfield 104, 3), (24, .iload_n 3, 1), (25, .iaload, 1), (26, .iload_n 2, 1), (27, .if_icmp .gt 15, 3), (30, .iload_n 2, 1), (31, .aload_n 0, 1), (32, .getfield 107, 3), (35, .iload_n 3, 1), (36, .iaload, 1), (37, .if_icmp .ge 5, 3), (40, .iload_n 3, 1), (41, .ireturn, 1), (42, .iinc 3 1, 3), (45, .goto (-43), 3), (48, .iconst (-1), 1), (49, .ireturn, 1)]
theorem IX10_at__ok : IX10_at_.all (fun e => decide (decode cX10_at_ e.1 = .ok e.2)) = true := by decide +kernel
abbrev MX10_at_ : am_MD := (10, yX10_at_, cX10_at_, 4, (Option.some FieldType.int), IX10_at_)
abbrev IX10_span : List (Nat × Instr × Nat) := [(0, .aload_n 0, 1), (1, .getfield 341, 3), (4, .bipush 12, 2), (6, .if_icmp .eq 29, 3), (9, .iload_n 1, 1), (10, .invokestatic 344, 3), (13, .ifCond .eq 22, 3), (16, .iload_n 2, 1), (17, .invokestatic 283, 3), (20, .ifCond .eq 15, 3), (23, .iload_n 3, 1), (24, .invokestatic 283, 3), (27, .ifCond .eq 8, 3), (30, .iload_n 2, 1), (31, .iload_n 3, 1), (32, .if_icmp .le 7, 3), (35, .iconst (-1), 1), (36, .goto 11, 3), (39, .aload_n 0, 1), (40, .iconst 0, 1), (41, .iload_n 1, 1), (42, .iload_n 2, 1), (43, .iload_n 3, 1), (44, .invokevirtual 347, 3), (47, .ireturn, 1)]
theorem IX10_span_ok : IX10_span.all (fun e => decide (decode cX10_span e.1 = .ok e.2)) = true := by decide +kernel
abbrev MX10_span : am_MD := (10, yX10_span, cX10_span, 4, (Option.some FieldType.int), IX10_span)
abbrev IX10_isEvent : List (Nat × Instr × Nat) := [(0, .iload_n 0, 1), (1, .ifCond .lt 13, 3), (4, .iload_n 0, 1), (5, .bipush 10, 2), (7, .if_icmp .ge 7, 3), (10, .iconst 1, 1), (11, .goto 4, 3), (14, .iconst 0, 1), (15, .ireturn, 1)]
theorem IX10_isEvent_ok : IX10_isEvent.all (fun e => decide (decode cX10_isEvent e.1 = .ok e.2)) = true := by decide +kernel
abbrev MX10_isEvent : am_MD := (10, yX10_isEvent, cX10_isEvent, 1, (Option.some FieldType.boolean), IX10_isEvent)
abbrev IX10_telling : List (Nat × Instr × Nat) := [(0, .aload_n 0, 1), (1, .getfield 137, 3), (4, .aload_n 0, 1), (5, .getfield 341, 3), (8, .iload_n 1, 1), (9, .iastore, 1), (10, .aload_n 0, 1), (11, .getfield 140, 3), (14, .aload_n 0, 1), (15, .getfield 341, 3), (18, .iload_n 2, 1), (19, .iastore, 1), (20, .aload_n 0, 1), (21, .getfield 143, 3), (24, .aload_n 0, 1), (25, .getfield 341, 3), (28, .iload_n 3, 1), (29, .iastore, 1), (30, .aload_n 0, 1), (31, .getfield 146, 3), (34, .aload_n 0, 1), (35, .getfield 341, 3), (38, .iload 4, 2), (40, .iastore, 1), (41, .aload_n 0, 1), (42, .dup, 1), (43, .getfield 341, 3), (46, .iconst 1, 1), (47, .iadd, 1), (48, .putfield 341, 3), (51, .aload_n 0, 1), (52, .getfield 341, 3), (55, .iconst 1, 1), (56, .isub, 1), (57, .ireturn, 1)]
theorem IX10_telling_ok : IX10_telling.all (fun e => decide (decode cX10_telling e.1 = .ok e.2)) = true := by decide +kernel
abbrev MX10_telling : am_MD := (10, yX10_telling, cX10_telling, 5, (Option.some FieldType.int), IX10_telling)
abbrev IX10_behind : List (Nat × Instr × Nat) := [(0, .aload_n 0, 1), (1, .getfield 341, 3), (4, .bipush 12, 2), (6, .if_icmp .eq 36, 3), (9, .iload_n 1, 1), (10, .invokestatic 344, 3), (13, .ifCond .eq 29, 3), (16, .iload_n 2, 1), (17, .invokestatic 344, 3), (20, .ifCond .eq 22, 3), (23, .iload_n 1, 1), (24, .iload_n 2, 1), (25, .if_icmp .eq 17, 3), (28, .iload_n 3, 1), (29, .sipush (-9999), 3), (32, .if_icmp .lt 10, 3), (35, .iload_n 3, 1), (36, .sipush 9999, 3), (39, .if_icmp .le 7, 3), (42, .iconst (-1), 1), (43, .goto 11, 3), (46, .aload_n 0, 1), (47, .iconst 1, 1), (48, .iload_n 1, 1), (49, .iload_n 2, 1), (50, .iload_n 3, 1), (51, .invokevirtual 347, 3), (54, .ireturn, 1)]
theorem IX10_behind_ok : IX10_behind.all (fun e => decide (decode cX10_behind e.1 = .ok e.2)) = true := by decide +kernel
abbrev MX10_behind : am_MD := (10, yX10_behind, cX10_behind, 4, (Option.some FieldType.int), IX10_behind)
abbrev IX10_same : List (Nat × Instr × Nat) := [(0, .aload_n 0, 1), (1, .getfield 341, 3), (4, .bipush 12, 2), (6, .if_icmp .eq 22, 3), (9, .iload_n 1, 1), (10, .invokestatic 344, 3), (13, .ifCond .eq 15, 3), (16, .iload_n 2, 1), (17, .invokestatic 344, 3), (20, .ifCond .eq 8, 3), (23, .iload_n 1, 1), (24, .iload_n 2, 1), (25, .if_icmp .ne 7, 3), (28, .iconst (-1), 1), (29, .goto 11, 3), (32, .aload_n 0, 1), (33, .iconst 2, 1), (34, .iload_n 1, 1), (35, .iload_n 2, 1), (36, .iconst 0, 1), (37, .invokevirtual 347, 3), (40, .ireturn, 1)]
theorem IX10_same_ok : IX10_same.all (fun e => decide (decode cX10_same e.1 = .ok e.2)) = true := by decide +kernel
abbrev MX10_same : am_MD := (10, yX10_same, cX10_same, 3, (Option.some FieldType.int), IX10_same)
abbrev IX10_left : List (Nat × Instr × Nat) := [(0, .iload_n 1, 1), (1, .ifCond .lt 19, 3), (4, .iload_n 1, 1), (5, .aload_n 0, 1), (6, .getfield 341, 3), (9, .if_icmp .gt 11, 3), (12, .aload_n 0, 1), (13, .iload_n 1, 1), (14, .invokevirtual 364, 3), (17, .goto 4, 3), (20, .iconst (-1), 1), (21, .ireturn, 1)]
theorem IX10_left_ok : IX10_left.all (fun e => decide (decode cX10_left e.1 = .ok e.2)) = true := by decide +kernel
abbrev MX10_left : am_MD := (10, yX10_left, cX10_left, 2, (Option.some FieldType.int), IX10_left)
abbrev IX10_leftOf : List (Nat × Instr × Nat) := [(0, .iconst (-1), 1), (1, .istore_n 2, 1), (2, .iconst 1, 1), (3, .iload_n 1, 1), (4, .ishl, 1), (5, .iconst 1, 1), (6, .isub, 1), (7, .istore_n 3, 1), (8, .iload_n 3, 1), (9, .ifCond .lt 36, 3), (12, .iload_n 2, 1), (13, .iconst (-1), 1), (14, .if_icmp .eq 14, 3), (17, .iload_n 3, 1), (18, .invokestatic 358, 3), (21, .iload_n 2, 1), (22, .invokestatic 358, 3), (25, .if_icmp .ge 14, 3), (28, .aload_n 0, 1), (29, .iload_n 1, 1), (30, .iload_n 3, 1), (31, .invokevirtual 361, 3), (34, .ifCond .eq 5, 3), (37, .iload_n 3, 1), (38, .istore_n 2, 1), (39, .iinc 3 (-1), 3), (42, .goto (-34), 3), (45, .iload_n 2, 1), (46, .ireturn, 1)]
theorem IX10_leftOf_ok : IX10_leftOf.all (fun e => decide (decode cX10_leftOf e.1 = .ok e.2)) = true := by decide +kernel
abbrev MX10_leftOf : am_MD := (10, yX10_leftOf, cX10_leftOf, 4, (Option.some FieldType.int), IX10_leftOf)
abbrev IX10_bits : List (Nat × Instr × Nat) := [(0, .iconst 0, 1), (1, .istore_n 1, 1), (2, .iconst 0, 1), (3, .istore_n 2, 1), (4, .iload_n 2, 1), (5, .bipush 12, 2), (7, .if_icmp .ge 17, 3), (10, .iload_n 1, 1), (11, .iload_n 0, 1), (12, .iload_n 2, 1), (13, .ishr, 1), (14, .iconst 1, 1), (15, .iand, 1), (16, .iadd, 1), (17, .istore_n 1, 1), (18, .iinc 2 1, 3), (21, .goto (-17), 3), (24, .iload_n 1, 1), (25, .ireturn, 1)]
theorem IX10_bits_ok : IX10_bits.all (fun e => decide (decode cX10_bits e.1 = .ok e.2)) = true := by decide +kernel
abbrev MX10_bits : am_MD := (10, yX10_bits, cX10_bits, 3, (Option.some FieldType.int), IX10_bits)
abbrev IX10_agrees_0 : List (Nat × Instr × Nat) := [(0, .iconst 0, 1), (1, .istore_n 3, 1), (2, .iload_n 3, 1), (3, .bipush 10, 2), (5, .if_icmp .ge 25, 3), (8, .aload_n 0, 1), (9, .getfield 149, 3), (12, .iload_n 3, 1), (13, .iconst 0, 1), (14, .iastore, 1), (15, .aload_n 0, 1), (16, .getfield 152, 3), (19, .iload_n 3, 1), (20, .sipush 9999, 3), (23, .iastore, 1), (24, .iinc 3 1, 3), (27, .goto (-25), 3), (30, .iconst 0, 1), (31, .istore_n 3, 1), (32, .iload_n 3, 1), (33, .iload_n 1, 1), (34, .if_icmp .ge 96, 3), (37, .iload_n 2, 1), (38, .iload_n 3, 1), (39, .ishr, 1), (40, .iconst 1, 1), (41, .iand, 1), (42, .iconst 1, 1), (43, .if_icmp .eq 81, 3), (46, .aload_n 0, 1), (47, .getfield 137, 3), (50, .iload_n 3, 1), (51, .iaload, 1), (52, .ifCond .eq 6, 3), (55, .goto 69, 3), (58, .aload_n 0, 1), (59, .getfield 140, 3), (62, .iload_n 3, 1), (63, .iaload, 1), (64, .istore 4, 2), (66, .aload_n 0, 1), (67, .getfield 143, 3), (70, .iload_n 3, 1), (71, .iaload, 1), (72, .aload_n 0, 1), (73, .getfield 149, 3), (76, .iload 4, 2), (78, .iaload, 1), (79, .if_icmp .le 16, 3), (82, .aload_n 0, 1), (83, .getfield 149, 3), (86, .iload 4, 2), (88, .aload_n 0, 1), (89, .getfield 143, 3), (92, .iload_n 3, 1), (93, .iaload, 1), (94, .iastore, 1), (95, .aload_n 0, 1), (96, .getfield 146, 3), (99, .iload_n 3, 1)]
theorem IX10_agrees_0_ok : IX10_agrees_0.all (fun e => decide (decode cX10_agrees e.1 = .ok e.2)) = true := by decide +kernel
abbrev IX10_agrees_1 : List (Nat × Instr × Nat) := [(100, .iaload, 1), (101, .aload_n 0, 1), (102, .getfield 152, 3), (105, .iload 4, 2), (107, .iaload, 1), (108, .if_icmp .ge 16, 3), (111, .aload_n 0, 1), (112, .getfield 152, 3), (115, .iload 4, 2), (117, .aload_n 0, 1), (118, .getfield 146, 3), (121, .iload_n 3, 1), (122, .iaload, 1), (123, .iastore, 1), (124, .iinc 3 1, 3), (127, .goto (-95), 3), (130, .aload_n 0, 1), (131, .iconst 1, 1), (132, .putfield 350, 3), (135, .iconst 0, 1), (136, .istore_n 3, 1), (137, .iload_n 3, 1), (138, .bipush 12, 2), (140, .if_icmp .ge 114, 3), (143, .aload_n 0, 1), (144, .getfield 350, 3), (147, .ifCond .eq 107, 3), (150, .aload_n 0, 1), (151, .iconst 0, 1), (152, .putfield 350, 3), (155, .iconst 0, 1), (156, .istore 4, 2), (158, .iload 4, 2), (160, .iload_n 1, 1), (161, .if_icmp .ge 87, 3), (164, .iload_n 2, 1), (165, .iload 4, 2), (167, .ishr, 1), (168, .iconst 1, 1), (169, .iand, 1), (170, .iconst 1, 1), (171, .if_icmp .eq 71, 3), (174, .aload_n 0, 1), (175, .getfield 137, 3), (178, .iload 4, 2), (180, .iaload, 1), (181, .ifCond .ne 6, 3), (184, .goto 58, 3), (187, .aload_n 0, 1), (188, .aload_n 0, 1), (189, .getfield 140, 3), (192, .iload 4, 2), (194, .iaload, 1), (195, .aload_n 0, 1), (196, .getfield 143, 3), (199, .iload 4, 2), (201, .iaload, 1), (202, .aload_n 0, 1), (203, .getfield 146, 3), (206, .iload 4, 2)]
theorem IX10_agrees_1_ok : IX10_agrees_1.all (fun e => decide (decode cX10_agrees e.1 = .ok e.2)) = true := by decide +kernel
abbrev IX10_agrees_2 : List (Nat × Instr × Nat) := [(208, .iaload, 1), (209, .invokevirtual 354, 3), (212, .aload_n 0, 1), (213, .getfield 137, 3), (216, .iload 4, 2), (218, .iaload, 1), (219, .iconst 2, 1), (220, .if_icmp .ne 22, 3), (223, .aload_n 0, 1), (224, .aload_n 0, 1), (225, .getfield 143, 3), (228, .iload 4, 2), (230, .iaload, 1), (231, .aload_n 0, 1), (232, .getfield 140, 3), (235, .iload 4, 2), (237, .iaload, 1), (238, .iconst 0, 1), (239, .invokevirtual 354, 3), (242, .iinc 4 1, 3), (245, .goto (-87), 3), (248, .iinc 3 1, 3), (251, .goto (-114), 3), (254, .aload_n 0, 1), (255, .getfield 350, 3), (258, .ifCond .eq 5, 3), (261, .iconst 0, 1), (262, .ireturn, 1), (263, .iconst 0, 1), (264, .istore_n 3, 1), (265, .iload_n 3, 1), (266, .bipush 10, 2), (268, .if_icmp .ge 26, 3), (271, .aload_n 0, 1), (272, .getfield 149, 3), (275, .iload_n 3, 1), (276, .iaload, 1), (277, .aload_n 0, 1), (278, .getfield 152, 3), (281, .iload_n 3, 1), (282, .iaload, 1), (283, .if_icmp .le 5, 3), (286, .iconst 0, 1), (287, .ireturn, 1), (288, .iinc 3 1, 3), (291, .goto (-26), 3), (294, .iconst 1, 1), (295, .ireturn, 1)]
theorem IX10_agrees_2_ok : IX10_agrees_2.all (fun e => decide (decode cX10_agrees e.1 = .ok e.2)) = true := by decide +kernel
abbrev IX10_agrees : List (Nat × Instr × Nat) := IX10_agrees_0 ++ (IX10_agrees_1 ++ (IX10_agrees_2))
theorem IX10_agrees_ok : IX10_agrees.all (fun e => decide (decode cX10_agrees e.1 = .ok e.2)) = true := (am_all2 IX10_agrees_0_ok (am_all2 IX10_agrees_1_ok IX10_agrees_2_ok))
abbrev MX10_agrees : am_MD := (10, yX10_agrees, cX10_agrees, 5, (Option.some FieldType.boolean), IX10_agrees)
abbrev IX10_pushes : List (Nat × Instr × Nat) := [(0, .aload_n 0, 1), (1, .getfield 149, 3), (4, .iload_n 2, 1), (5, .iaload, 1), (6, .iload_n 3, 1), (7, .iadd, 1), (8, .aload_n 0, 1), (9, .getfield 149, 3), (12, .iload_n 1, 1), (13, .iaload, 1), (14, .if_icmp .le 22, 3), (17, .aload_n 0, 1), (18, .getfield 149, 3), (21, .iload_n 1, 1), (22, .aload_n 0, 1), (23, .getfield 149, 3), (26, .iload_n 2, 1), (27, .iaload, 1), (28, .iload_n 3, 1), (29, .iadd, 1), (30, .iastore, 1), (31, .aload_n 0, 1), (32, .iconst 1, 1), (33, .putfield 350, 3), (36, .aload_n 0, 1), (37, .getfield 152, 3), (40, .iload_n 1, 1), (41, .iaload, 1), (42, .iload_n 3, 1), (43, .isub, 1), (44, .aload_n 0, 1), (45, .getfield 152, 3), (48, .iload_n 2, 1), (49, .iaload, 1), (50, .if_icmp .ge 22, 3), (53, .aload_n 0, 1), (54, .getfield 152, 3), (57, .iload_n 2, 1), (58, .aload_n 0, 1), (59, .getfield 152, 3), (62, .iload_n 1, 1), (63, .iaload, 1), (64, .iload_n 3, 1), (65, .isub, 1), (66, .iastore, 1), (67, .aload_n 0, 1), (68, .iconst 1, 1), (69, .putfield 350, 3), (72, .return_, 1)]
theorem IX10_pushes_ok : IX10_pushes.all (fun e => decide (decode cX10_pushes e.1 = .ok e.2)) = true := by decide +kernel
abbrev MX10_pushes : am_MD := (10, yX10_pushes, cX10_pushes, 4, none, IX10_pushes)
abbrev IX10_when : List (Nat × Instr × Nat) := [(0, .iload_n 1, 1), (1, .invokestatic 344, 3), (4, .ifCond .eq 24, 3), (7, .iload_n 2, 1), (8, .ifCond .lt 20, 3), (11, .iload_n 2, 1), (12, .aload_n 0, 1), (13, .getfield 341, 3), (16, .if_icmp .gt 12, 3), (19, .iload_n 3, 1), (20, .ifCond .lt 8, 3), (23, .iload_n 3, 1), (24, .iconst 1, 1), (25, .if_icmp .le 5, 3), (28, .iconst (-1), 1), (29, .ireturn, 1), (30, .aload_n 0, 1), (31, .iload_n 2, 1), (32, .aload_n 0, 1), (33, .iload_n 2, 1), (34, .invokevirtual 364, 3), (37, .invokevirtual 361, 3), (40, .istore 4, 2), (42, .iload 4, 2), (44, .ifCond .eq 25, 3), (47, .iload_n 3, 1), (48, .ifCond .ne 12, 3), (51, .aload_n 0, 1), (52, .getfield 149, 3), (55, .iload_n 1, 1), (56, .iaload, 1), (57, .goto 13, 3), (60, .aload_n 0, 1), (61, .getfield 152, 3), (64, .iload_n 1, 1), (65, .iaload, 1), (66, .goto 4, 3), (69, .iconst (-1), 1), (70, .ireturn, 1)]
theorem IX10_when_ok : IX10_when.all (fun e => decide (decode cX10_when e.1 = .ok e.2)) = true := by decide +kernel
abbrev MX10_when : am_MD := (10, yX10_when, cX10_when, 5, (Option.some FieldType.int), IX10_when)
abbrev IX10_count : List (Nat × Instr × Nat) := [(0, .iload_n 1, 1), (1, .tableswitch 96 0 8 #[51, 56, 61, 66, 71, 76, 81, 86, 91], 51), (52, .aload_n 0, 1), (53, .getfield 268, 3), (56, .ireturn, 1), (57, .aload_n 0, 1), (58, .getfield 249, 3), (61, .ireturn, 1), (62, .aload_n 0, 1), (63, .getfield 280, 3), (66, .ireturn, 1), (67, .aload_n 0, 1), (68, .getfield 271, 3), (71, .ireturn, 1), (72, .aload_n 0, 1), (73, .getfield 274, 3), (76, .ireturn, 1), (77, .aload_n 0, 1), (78, .getfield 286, 3), (81, .ireturn, 1), (82, .aload_n 0, 1), (83, .getfield 341, 3), (86, .ireturn, 1), (87, .aload_n 0, 1), (88, .getfield 162, 3), (91, .ireturn, 1), (92, .aload_n 0, 1), (93, .getfield 159, 3), (96, .ireturn, 1), (97, .iconst (-1), 1), (98, .ireturn, 1)]
theorem IX10_count_ok : IX10_count.all (fun e => decide (decode cX10_count e.1 = .ok e.2)) = true := by decide +kernel
abbrev MX10_count : am_MD := (10, yX10_count, cX10_count, 2, (Option.some FieldType.int), IX10_count)
end
section
abbrev IJ0_length_8abf5 : List (Nat × Instr × Nat) := [(0, .aload_n 0, 1), (1, .getfield 9, 3), (4, .arraylength, 1), (5, .aload_n 0, 1), (6, .invokevirtual 335, 3), (9, .ishr, 1), (10, .ireturn, 1)]
theorem IJ0_length_8abf5_ok : IJ0_length_8abf5.all (fun e => decide (decode cJ0_length_8abf5 e.1 = .ok e.2)) = true := by decide +kernel
abbrev MJ0_length_8abf5 : am_MD := (12, yJ0_length_8abf5, cJ0_length_8abf5, 1, (Option.some FieldType.int), IJ0_length_8abf5)
abbrev IJ0_coder_7d493 : List (Nat × Instr × Nat) := [(0, .getstatic 38, 3), (3, .ifCond .eq 10, 3), (6, .aload_n 0, 1), (7, .getfield 15, 3), (10, .goto 4, 3), (13, .iconst 1, 1), (14, .ireturn, 1)]
theorem IJ0_coder_7d493_ok : IJ0_coder_7d493.all (fun e => decide (decode cJ0_coder_7d493 e.1 = .ok e.2)) = true := by decide +kernel
abbrev MJ0_coder_7d493 : am_MD := (12, yJ0_coder_7d493, cJ0_coder_7d493, 1, (Option.some FieldType.byte), IJ0_coder_7d493)
abbrev IJ0_charAt_5068e : List (Nat × Instr × Nat) := [(0, .aload_n 0, 1), (1, .invokevirtual 492, 3), (4, .ifCond .eq 12, 3), (7, .aload_n 0, 1), (8, .getfield 9, 3), (11, .iload_n 1, 1), (12, .invokestatic 495, 3), (15, .ireturn, 1), (16, .aload_n 0, 1), (17, .getfield 9, 3), (20, .iload_n 1, 1), (21, .invokestatic 498, 3), (24, .ireturn, 1)]
theorem IJ0_charAt_5068e_ok : IJ0_charAt_5068e.all (fun e => decide (decode cJ0_charAt_5068e e.1 = .ok e.2)) = true := by decide +kernel
abbrev MJ0_charAt_5068e : am_MD := (12, yJ0_charAt_5068e, cJ0_charAt_5068e, 2, (Option.some FieldType.char), IJ0_charAt_5068e)
abbrev IJ0_isLatin1_aae02 : List (Nat × Instr × Nat) := [(0, .getstatic 38, 3), (3, .ifCond .eq 14, 3), (6, .aload_n 0, 1), (7, .getfield 15, 3), (10, .ifCond .ne 7, 3), (13, .iconst 1, 1), (14, .goto 4, 3), (17, .iconst 0, 1), (18, .ireturn, 1)]
theorem IJ0_isLatin1_aae02_ok : IJ0_isLatin1_aae02.all (fun e => decide (decode cJ0_isLatin1_aae02 e.1 = .ok e.2)) = true := by decide +kernel
abbrev MJ0_isLatin1_aae02 : am_MD := (12, yJ0_isLatin1_aae02, cJ0_isLatin1_aae02, 1, (Option.some FieldType.boolean), IJ0_isLatin1_aae02)
abbrev IJ0_checkIndex_df160 : List (Nat × Instr × Nat) := [(0, .iload_n 0, 1), (1, .iload_n 1, 1), (2, .getstatic 1053, 3), (5, .invokestatic 1059, 3), (8, .pop, 1), (9, .return_, 1)]
theorem IJ0_checkIndex_df160_ok : IJ0_checkIndex_df160.all (fun e => decide (decode cJ0_checkIndex_df160 e.1 = .ok e.2)) = true := by decide +kernel
abbrev MJ0_checkIndex_df160 : am_MD := (12, yJ0_checkIndex_df160, cJ0_checkIndex_df160, 2, none, IJ0_checkIndex_df160)
abbrev IJ1_charAt_3b067 : List (Nat × Instr × Nat) := [(0, .iload_n 1, 1), (1, .aload_n 0, 1), (2, .arraylength, 1), (3, .invokestatic 9, 3), (6, .aload_n 0, 1), (7, .iload_n 1, 1), (8, .baload, 1), (9, .sipush 255, 3), (12, .iand, 1), (13, .i2c, 1), (14, .ireturn, 1)]
theorem IJ1_charAt_3b067_ok : IJ1_charAt_3b067.all (fun e => decide (decode cJ1_charAt_3b067 e.1 = .ok e.2)) = true := by decide +kernel
abbrev MJ1_charAt_3b067 : am_MD := (13, yJ1_charAt_3b067, cJ1_charAt_3b067, 2, (Option.some FieldType.char), IJ1_charAt_3b067)
abbrev IJ3_checkIndex_8e157 : List (Nat × Instr × Nat) := [(0, .iload_n 0, 1), (1, .ifCond .lt 8, 3), (4, .iload_n 0, 1), (5, .iload_n 1, 1), (6, .if_icmp .lt 10, 3), (9, .aload_n 2, 1), (10, .iload_n 0, 1), (11, .iload_n 1, 1), (12, .invokestatic 95, 3), (15, .athrow, 1), (16, .iload_n 0, 1), (17, .ireturn, 1)]
theorem IJ3_checkIndex_8e157_ok : IJ3_checkIndex_8e157.all (fun e => decide (decode cJ3_checkIndex_8e157 e.1 = .ok e.2)) = true := by decide +kernel
abbrev MJ3_checkIndex_8e157 : am_MD := (15, yJ3_checkIndex_8e157, cJ3_checkIndex_8e157, 3, (Option.some FieldType.int), IJ3_checkIndex_8e157)
abbrev IJ2_charAt_3b067 : List (Nat × Instr × Nat) := [(0, .iload_n 1, 1), (1, .aload_n 0, 1), (2, .invokestatic 67, 3), (5, .aload_n 0, 1), (6, .iload_n 1, 1), (7, .invokestatic 71, 3), (10, .ireturn, 1)]
theorem IJ2_charAt_3b067_ok : IJ2_charAt_3b067.all (fun e => decide (decode cJ2_charAt_3b067 e.1 = .ok e.2)) = true := by decide +kernel
abbrev MJ2_charAt_3b067 : am_MD := (14, yJ2_charAt_3b067, cJ2_charAt_3b067, 2, (Option.some FieldType.char), IJ2_charAt_3b067)
abbrev IJ2_checkIndex_2214a : List (Nat × Instr × Nat) := [(0, .iload_n 0, 1), (1, .aload_n 1, 1), (2, .invokestatic 48, 3), (5, .invokestatic 414, 3), (8, .return_, 1)]
theorem IJ2_checkIndex_2214a_ok : IJ2_checkIndex_2214a.all (fun e => decide (decode cJ2_checkIndex_2214a e.1 = .ok e.2)) = true := by decide +kernel
abbrev MJ2_checkIndex_2214a : am_MD := (14, yJ2_checkIndex_2214a, cJ2_checkIndex_2214a, 2, none, IJ2_checkIndex_2214a)
abbrev IJ2_length_9d52b : List (Nat × Instr × Nat) := [(0, .aload_n 0, 1), (1, .arraylength, 1), (2, .iconst 1, 1), (3, .ishr, 1), (4, .ireturn, 1)]
theorem IJ2_length_9d52b_ok : IJ2_length_9d52b.all (fun e => decide (decode cJ2_length_9d52b e.1 = .ok e.2)) = true := by decide +kernel
abbrev MJ2_length_9d52b : am_MD := (14, yJ2_length_9d52b, cJ2_length_9d52b, 1, (Option.some FieldType.int), IJ2_length_9d52b)
abbrev IJ2_getChar_3b067 : List (Nat × Instr × Nat) := [(0, .getstatic 44, 3), (3, .ifCond .ne 25, 3), (6, .iload_n 1, 1), (7, .ifCond .lt 11, 3), (10, .iload_n 1, 1), (11, .aload_n 0, 1), (12, .invokestatic 48, 3), (15, .if_icmp .lt 13, 3), (18, .new 52, 3), (21, .dup, 1), (22, .ldc 54, 2), (24, .invokespecial 56, 3), (27, .athrow, 1), (28, .iload_n 1, 1), (29, .iconst 1, 1), (30, .ishl, 1), (31, .istore_n 1, 1), (32, .aload_n 0, 1), (33, .iload_n 1, 1), (34, .iinc 1 1, 3), (37, .baload, 1), (38, .sipush 255, 3), (41, .iand, 1), (42, .getstatic 59, 3), (45, .ishl, 1), (46, .aload_n 0, 1), (47, .iload_n 1, 1), (48, .baload, 1), (49, .sipush 255, 3), (52, .iand, 1), (53, .getstatic 63, 3), (56, .ishl, 1), (57, .ior, 1), (58, .i2c, 1), (59, .ireturn, 1)]
theorem IJ2_getChar_3b067_ok : IJ2_getChar_3b067.all (fun e => decide (decode cJ2_getChar_3b067 e.1 = .ok e.2)) = true := by decide +kernel
abbrev MJ2_getChar_3b067 : am_MD := (14, yJ2_getChar_3b067, cJ2_getChar_3b067, 2, (Option.some FieldType.char), IJ2_getChar_3b067)
abbrev IJ7_fill_031fb : List (Nat × Instr × Nat) := [(0, .iconst 0, 1), (1, .istore_n 2, 1), (2, .aload_n 0, 1), (3, .arraylength, 1), (4, .istore_n 3, 1), (5, .iload_n 2, 1), (6, .iload_n 3, 1), (7, .if_icmp .ge 13, 3), (10, .aload_n 0, 1), (11, .iload_n 2, 1), (12, .iload_n 1, 1), (13, .bastore, 1), (14, .iinc 2 1, 3), (17, .goto (-12), 3), (20, .return_, 1)]
theorem IJ7_fill_031fb_ok : IJ7_fill_031fb.all (fun e => decide (decode cJ7_fill_031fb e.1 = .ok e.2)) = true := by decide +kernel
abbrev MJ7_fill_031fb : am_MD := (19, yJ7_fill_031fb, cJ7_fill_031fb, 4, none, IJ7_fill_031fb)
abbrev IJ7_fill_53178 : List (Nat × Instr × Nat) := [(0, .iconst 0, 1), (1, .istore_n 2, 1), (2, .aload_n 0, 1), (3, .arraylength, 1), (4, .istore_n 3, 1), (5, .iload_n 2, 1), (6, .iload_n 3, 1), (7, .if_icmp .ge 13, 3), (10, .aload_n 0, 1), (11, .iload_n 2, 1), (12, .iload_n 1, 1), (13, .iastore, 1), (14, .iinc 2 1, 3), (17, .goto (-12), 3), (20, .return_, 1)]
theorem IJ7_fill_53178_ok : IJ7_fill_53178.all (fun e => decide (decode cJ7_fill_53178 e.1 = .ok e.2)) = true := by decide +kernel
abbrev MJ7_fill_53178 : am_MD := (19, yJ7_fill_53178, cJ7_fill_53178, 4, none, IJ7_fill_53178)
abbrev IJ6_bitCount_0f7a4 : List (Nat × Instr × Nat) := [(0, .iload_n 0, 1), (1, .iload_n 0, 1), (2, .iconst 1, 1), (3, .iushr, 1), (4, .ldc_w 265, 3), (7, .iand, 1), (8, .isub, 1), (9, .istore_n 0, 1), (10, .iload_n 0, 1), (11, .ldc_w 266, 3), (14, .iand, 1), (15, .iload_n 0, 1), (16, .iconst 2, 1), (17, .iushr, 1), (18, .ldc_w 266, 3), (21, .iand, 1), (22, .iadd, 1), (23, .istore_n 0, 1), (24, .iload_n 0, 1), (25, .iload_n 0, 1), (26, .iconst 4, 1), (27, .iushr, 1), (28, .iadd, 1), (29, .ldc_w 267, 3), (32, .iand, 1), (33, .istore_n 0, 1), (34, .iload_n 0, 1), (35, .iload_n 0, 1), (36, .bipush 8, 2), (38, .iushr, 1), (39, .iadd, 1), (40, .istore_n 0, 1), (41, .iload_n 0, 1), (42, .iload_n 0, 1), (43, .bipush 16, 2), (45, .iushr, 1), (46, .iadd, 1), (47, .istore_n 0, 1), (48, .iload_n 0, 1), (49, .bipush 63, 2), (51, .iand, 1), (52, .ireturn, 1)]
theorem IJ6_bitCount_0f7a4_ok : IJ6_bitCount_0f7a4.all (fun e => decide (decode cJ6_bitCount_0f7a4 e.1 = .ok e.2)) = true := by decide +kernel
abbrev MJ6_bitCount_0f7a4 : am_MD := (18, yJ6_bitCount_0f7a4, cJ6_bitCount_0f7a4, 1, (Option.some FieldType.int), IJ6_bitCount_0f7a4)
end
section
abbrev IL_law_0 : List (Nat × Instr × Nat) := [(0, .new 7, 3), (3, .dup, 1), (4, .invokespecial 9, 3), (7, .astore_n 1, 1), (8, .new 10, 3), (11, .dup, 1), (12, .invokespecial 12, 3), (15, .astore_n 2, 1), (16, .iconst 0, 1), (17, .istore_n 3, 1), (18, .iload_n 3, 1), (19, .aload_n 0, 1), (20, .arraylength, 1), (21, .bipush 7, 2), (23, .isub, 1), (24, .if_icmp .gt 1218, 3), (27, .aload_n 0, 1), (28, .iload_n 3, 1), (29, .iaload, 1), (30, .bipush 31, 2), (32, .iand, 1), (33, .tableswitch 1203 0 27 #[127, 190, 213, 236, 249, 302, 325, 368, 443, 466, 489, 512, 545, 578, 631, 684, 747, 810, 843, 876, 909, 962, 995, 1038, 1081, 1114, 1137, 1180], 127), (160, .aload_n 1, 1), (161, .aload_n 0, 1), (162, .iload_n 3, 1), (163, .iconst 1, 1), (164, .iadd, 1), (165, .iaload, 1), (166, .aload_n 0, 1), (167, .iload_n 3, 1), (168, .iconst 2, 1), (169, .iadd, 1), (170, .iaload, 1), (171, .aload_n 0, 1), (172, .iload_n 3, 1), (173, .iconst 3, 1), (174, .iadd, 1), (175, .iaload, 1), (176, .aload_n 0, 1), (177, .iload_n 3, 1), (178, .iconst 4, 1), (179, .iadd, 1), (180, .iaload, 1), (181, .aload_n 0, 1), (182, .iload_n 3, 1), (183, .iconst 5, 1), (184, .iadd, 1), (185, .iaload, 1), (186, .invokevirtual 13, 3), (189, .aload_n 2, 1), (190, .aload_n 0, 1), (191, .iload_n 3, 1), (192, .iconst 1, 1), (193, .iadd, 1), (194, .iaload, 1), (195, .aload_n 0, 1), (196, .iload_n 3, 1), (197, .iconst 2, 1), (198, .iadd, 1), (199, .iaload, 1)]
theorem IL_law_0_ok : IL_law_0.all (fun e => decide (decode cL_law e.1 = .ok e.2)) = true := by decide +kernel
abbrev IL_law_1 : List (Nat × Instr × Nat) := [(200, .aload_n 0, 1), (201, .iload_n 3, 1), (202, .iconst 3, 1), (203, .iadd, 1), (204, .iaload, 1), (205, .aload_n 0, 1), (206, .iload_n 3, 1), (207, .iconst 4, 1), (208, .iadd, 1), (209, .iaload, 1), (210, .aload_n 0, 1), (211, .iload_n 3, 1), (212, .iconst 5, 1), (213, .iadd, 1), (214, .iaload, 1), (215, .invokevirtual 17, 3), (218, .if_icmp .eq 1018, 3), (221, .iconst 0, 1), (222, .ireturn, 1), (223, .aload_n 1, 1), (224, .aload_n 0, 1), (225, .iload_n 3, 1), (226, .iconst 1, 1), (227, .iadd, 1), (228, .iaload, 1), (229, .invokevirtual 18, 3), (232, .aload_n 2, 1), (233, .aload_n 0, 1), (234, .iload_n 3, 1), (235, .iconst 1, 1), (236, .iadd, 1), (237, .iaload, 1), (238, .invokevirtual 22, 3), (241, .if_icmp .eq 995, 3), (244, .iconst 0, 1), (245, .ireturn, 1), (246, .aload_n 1, 1), (247, .aload_n 0, 1), (248, .iload_n 3, 1), (249, .iconst 1, 1), (250, .iadd, 1), (251, .iaload, 1), (252, .invokevirtual 23, 3), (255, .aload_n 2, 1), (256, .aload_n 0, 1), (257, .iload_n 3, 1), (258, .iconst 1, 1), (259, .iadd, 1), (260, .iaload, 1), (261, .invokevirtual 26, 3), (264, .if_icmp .eq 972, 3), (267, .iconst 0, 1), (268, .ireturn, 1), (269, .aload_n 1, 1), (270, .invokevirtual 27, 3), (273, .aload_n 2, 1), (274, .invokevirtual 31, 3), (277, .if_icmp .eq 959, 3), (280, .iconst 0, 1), (281, .ireturn, 1)]
theorem IL_law_1_ok : IL_law_1.all (fun e => decide (decode cL_law e.1 = .ok e.2)) = true := by decide +kernel
abbrev IL_law_2 : List (Nat × Instr × Nat) := [(282, .aload_n 1, 1), (283, .aload_n 0, 1), (284, .iload_n 3, 1), (285, .iconst 1, 1), (286, .iadd, 1), (287, .iaload, 1), (288, .aload_n 0, 1), (289, .iload_n 3, 1), (290, .iconst 2, 1), (291, .iadd, 1), (292, .iaload, 1), (293, .aload_n 0, 1), (294, .iload_n 3, 1), (295, .iconst 3, 1), (296, .iadd, 1), (297, .iaload, 1), (298, .aload_n 0, 1), (299, .iload_n 3, 1), (300, .iconst 4, 1), (301, .iadd, 1), (302, .iaload, 1), (303, .invokevirtual 32, 3), (306, .aload_n 2, 1), (307, .aload_n 0, 1), (308, .iload_n 3, 1), (309, .iconst 1, 1), (310, .iadd, 1), (311, .iaload, 1), (312, .aload_n 0, 1), (313, .iload_n 3, 1), (314, .iconst 2, 1), (315, .iadd, 1), (316, .iaload, 1), (317, .aload_n 0, 1), (318, .iload_n 3, 1), (319, .iconst 3, 1), (320, .iadd, 1), (321, .iaload, 1), (322, .aload_n 0, 1), (323, .iload_n 3, 1), (324, .iconst 4, 1), (325, .iadd, 1), (326, .iaload, 1), (327, .invokevirtual 36, 3), (330, .if_icmp .eq 906, 3), (333, .iconst 0, 1), (334, .ireturn, 1), (335, .aload_n 1, 1), (336, .aload_n 0, 1), (337, .iload_n 3, 1), (338, .iconst 1, 1), (339, .iadd, 1), (340, .iaload, 1), (341, .invokevirtual 37, 3), (344, .aload_n 2, 1), (345, .aload_n 0, 1), (346, .iload_n 3, 1), (347, .iconst 1, 1), (348, .iadd, 1), (349, .iaload, 1)]
theorem IL_law_2_ok : IL_law_2.all (fun e => decide (decode cL_law e.1 = .ok e.2)) = true := by decide +kernel
abbrev IL_law_3 : List (Nat × Instr × Nat) := [(350, .invokevirtual 40, 3), (353, .if_icmp .eq 883, 3), (356, .iconst 0, 1), (357, .ireturn, 1), (358, .aload_n 1, 1), (359, .aload_n 0, 1), (360, .iload_n 3, 1), (361, .iconst 1, 1), (362, .iadd, 1), (363, .iaload, 1), (364, .aload_n 0, 1), (365, .iload_n 3, 1), (366, .iconst 2, 1), (367, .iadd, 1), (368, .iaload, 1), (369, .aload_n 0, 1), (370, .iload_n 3, 1), (371, .iconst 3, 1), (372, .iadd, 1), (373, .iaload, 1), (374, .invokevirtual 41, 3), (377, .aload_n 2, 1), (378, .aload_n 0, 1), (379, .iload_n 3, 1), (380, .iconst 1, 1), (381, .iadd, 1), (382, .iaload, 1), (383, .aload_n 0, 1), (384, .iload_n 3, 1), (385, .iconst 2, 1), (386, .iadd, 1), (387, .iaload, 1), (388, .aload_n 0, 1), (389, .iload_n 3, 1), (390, .iconst 3, 1), (391, .iadd, 1), (392, .iaload, 1), (393, .invokevirtual 45, 3), (396, .if_icmp .eq 840, 3), (399, .iconst 0, 1), (400, .ireturn, 1), (401, .aload_n 1, 1), (402, .aload_n 0, 1), (403, .iload_n 3, 1), (404, .iconst 1, 1), (405, .iadd, 1), (406, .iaload, 1), (407, .aload_n 0, 1), (408, .iload_n 3, 1), (409, .iconst 2, 1), (410, .iadd, 1), (411, .iaload, 1), (412, .aload_n 0, 1), (413, .iload_n 3, 1), (414, .iconst 3, 1), (415, .iadd, 1), (416, .iaload, 1), (417, .aload_n 0, 1), (418, .iload_n 3, 1), (419, .iconst 4, 1)]
theorem IL_law_3_ok : IL_law_3.all (fun e => decide (decode cL_law e.1 = .ok e.2)) = true := by decide +kernel
abbrev IL_law_4 : List (Nat × Instr × Nat) := [(420, .iadd, 1), (421, .iaload, 1), (422, .aload_n 0, 1), (423, .iload_n 3, 1), (424, .iconst 5, 1), (425, .iadd, 1), (426, .iaload, 1), (427, .aload_n 0, 1), (428, .iload_n 3, 1), (429, .bipush 6, 2), (431, .iadd, 1), (432, .iaload, 1), (433, .invokevirtual 46, 3), (436, .aload_n 2, 1), (437, .aload_n 0, 1), (438, .iload_n 3, 1), (439, .iconst 1, 1), (440, .iadd, 1), (441, .iaload, 1), (442, .aload_n 0, 1), (443, .iload_n 3, 1), (444, .iconst 2, 1), (445, .iadd, 1), (446, .iaload, 1), (447, .aload_n 0, 1), (448, .iload_n 3, 1), (449, .iconst 3, 1), (450, .iadd, 1), (451, .iaload, 1), (452, .aload_n 0, 1), (453, .iload_n 3, 1), (454, .iconst 4, 1), (455, .iadd, 1), (456, .iaload, 1), (457, .aload_n 0, 1), (458, .iload_n 3, 1), (459, .iconst 5, 1), (460, .iadd, 1), (461, .iaload, 1), (462, .aload_n 0, 1), (463, .iload_n 3, 1), (464, .bipush 6, 2), (466, .iadd, 1), (467, .iaload, 1), (468, .invokevirtual 50, 3), (471, .if_icmp .eq 765, 3), (474, .iconst 0, 1), (475, .ireturn, 1), (476, .aload_n 1, 1), (477, .aload_n 0, 1), (478, .iload_n 3, 1), (479, .iconst 1, 1), (480, .iadd, 1), (481, .iaload, 1), (482, .invokevirtual 51, 3), (485, .aload_n 2, 1), (486, .aload_n 0, 1), (487, .iload_n 3, 1), (488, .iconst 1, 1), (489, .iadd, 1)]
theorem IL_law_4_ok : IL_law_4.all (fun e => decide (decode cL_law e.1 = .ok e.2)) = true := by decide +kernel
abbrev IL_law_5 : List (Nat × Instr × Nat) := [(490, .iaload, 1), (491, .invokevirtual 54, 3), (494, .if_icmp .eq 742, 3), (497, .iconst 0, 1), (498, .ireturn, 1), (499, .aload_n 1, 1), (500, .aload_n 0, 1), (501, .iload_n 3, 1), (502, .iconst 1, 1), (503, .iadd, 1), (504, .iaload, 1), (505, .invokevirtual 55, 3), (508, .aload_n 2, 1), (509, .aload_n 0, 1), (510, .iload_n 3, 1), (511, .iconst 1, 1), (512, .iadd, 1), (513, .iaload, 1), (514, .invokevirtual 58, 3), (517, .if_icmp .eq 719, 3), (520, .iconst 0, 1), (521, .ireturn, 1), (522, .aload_n 1, 1), (523, .aload_n 0, 1), (524, .iload_n 3, 1), (525, .iconst 1, 1), (526, .iadd, 1), (527, .iaload, 1), (528, .invokevirtual 59, 3), (531, .aload_n 2, 1), (532, .aload_n 0, 1), (533, .iload_n 3, 1), (534, .iconst 1, 1), (535, .iadd, 1), (536, .iaload, 1), (537, .invokevirtual 63, 3), (540, .if_icmp .eq 696, 3), (543, .iconst 0, 1), (544, .ireturn, 1), (545, .aload_n 1, 1), (546, .aload_n 0, 1), (547, .iload_n 3, 1), (548, .iconst 1, 1), (549, .iadd, 1), (550, .iaload, 1), (551, .aload_n 0, 1), (552, .iload_n 3, 1), (553, .iconst 2, 1), (554, .iadd, 1), (555, .iaload, 1), (556, .invokevirtual 64, 3), (559, .aload_n 2, 1), (560, .aload_n 0, 1), (561, .iload_n 3, 1), (562, .iconst 1, 1), (563, .iadd, 1), (564, .iaload, 1), (565, .aload_n 0, 1), (566, .iload_n 3, 1), (567, .iconst 2, 1)]
theorem IL_law_5_ok : IL_law_5.all (fun e => decide (decode cL_law e.1 = .ok e.2)) = true := by decide +kernel
abbrev IL_law_6 : List (Nat × Instr × Nat) := [(568, .iadd, 1), (569, .iaload, 1), (570, .invokevirtual 68, 3), (573, .if_icmp .eq 663, 3), (576, .iconst 0, 1), (577, .ireturn, 1), (578, .aload_n 1, 1), (579, .aload_n 0, 1), (580, .iload_n 3, 1), (581, .iconst 1, 1), (582, .iadd, 1), (583, .iaload, 1), (584, .aload_n 0, 1), (585, .iload_n 3, 1), (586, .iconst 2, 1), (587, .iadd, 1), (588, .iaload, 1), (589, .invokevirtual 69, 3), (592, .aload_n 2, 1), (593, .aload_n 0, 1), (594, .iload_n 3, 1), (595, .iconst 1, 1), (596, .iadd, 1), (597, .iaload, 1), (598, .aload_n 0, 1), (599, .iload_n 3, 1), (600, .iconst 2, 1), (601, .iadd, 1), (602, .iaload, 1), (603, .invokevirtual 72, 3), (606, .if_icmp .eq 630, 3), (609, .iconst 0, 1), (610, .ireturn, 1), (611, .aload_n 1, 1), (612, .aload_n 0, 1), (613, .iload_n 3, 1), (614, .iconst 1, 1), (615, .iadd, 1), (616, .iaload, 1), (617, .aload_n 0, 1), (618, .iload_n 3, 1), (619, .iconst 2, 1), (620, .iadd, 1), (621, .iaload, 1), (622, .aload_n 0, 1), (623, .iload_n 3, 1), (624, .iconst 3, 1), (625, .iadd, 1), (626, .iaload, 1), (627, .aload_n 0, 1), (628, .iload_n 3, 1), (629, .iconst 4, 1), (630, .iadd, 1), (631, .iaload, 1), (632, .invokevirtual 73, 3), (635, .aload_n 2, 1), (636, .aload_n 0, 1), (637, .iload_n 3, 1), (638, .iconst 1, 1), (639, .iadd, 1)]
theorem IL_law_6_ok : IL_law_6.all (fun e => decide (decode cL_law e.1 = .ok e.2)) = true := by decide +kernel
abbrev IL_law_7 : List (Nat × Instr × Nat) := [(640, .iaload, 1), (641, .aload_n 0, 1), (642, .iload_n 3, 1), (643, .iconst 2, 1), (644, .iadd, 1), (645, .iaload, 1), (646, .aload_n 0, 1), (647, .iload_n 3, 1), (648, .iconst 3, 1), (649, .iadd, 1), (650, .iaload, 1), (651, .aload_n 0, 1), (652, .iload_n 3, 1), (653, .iconst 4, 1), (654, .iadd, 1), (655, .iaload, 1), (656, .invokevirtual 76, 3), (659, .if_icmp .eq 577, 3), (662, .iconst 0, 1), (663, .ireturn, 1), (664, .aload_n 1, 1), (665, .aload_n 0, 1), (666, .iload_n 3, 1), (667, .iconst 1, 1), (668, .iadd, 1), (669, .iaload, 1), (670, .aload_n 0, 1), (671, .iload_n 3, 1), (672, .iconst 2, 1), (673, .iadd, 1), (674, .iaload, 1), (675, .aload_n 0, 1), (676, .iload_n 3, 1), (677, .iconst 3, 1), (678, .iadd, 1), (679, .iaload, 1), (680, .aload_n 0, 1), (681, .iload_n 3, 1), (682, .iconst 4, 1), (683, .iadd, 1), (684, .iaload, 1), (685, .invokevirtual 77, 3), (688, .aload_n 2, 1), (689, .aload_n 0, 1), (690, .iload_n 3, 1), (691, .iconst 1, 1), (692, .iadd, 1), (693, .iaload, 1), (694, .aload_n 0, 1), (695, .iload_n 3, 1), (696, .iconst 2, 1), (697, .iadd, 1), (698, .iaload, 1), (699, .aload_n 0, 1), (700, .iload_n 3, 1), (701, .iconst 3, 1), (702, .iadd, 1), (703, .iaload, 1), (704, .aload_n 0, 1), (705, .iload_n 3, 1)]
theorem IL_law_7_ok : IL_law_7.all (fun e => decide (decode cL_law e.1 = .ok e.2)) = true := by decide +kernel
abbrev IL_law_8 : List (Nat × Instr × Nat) := [(706, .iconst 4, 1), (707, .iadd, 1), (708, .iaload, 1), (709, .invokevirtual 80, 3), (712, .if_icmp .eq 524, 3), (715, .iconst 0, 1), (716, .ireturn, 1), (717, .aload_n 1, 1), (718, .aload_n 0, 1), (719, .iload_n 3, 1), (720, .iconst 1, 1), (721, .iadd, 1), (722, .iaload, 1), (723, .aload_n 0, 1), (724, .iload_n 3, 1), (725, .iconst 2, 1), (726, .iadd, 1), (727, .iaload, 1), (728, .aload_n 0, 1), (729, .iload_n 3, 1), (730, .iconst 3, 1), (731, .iadd, 1), (732, .iaload, 1), (733, .aload_n 0, 1), (734, .iload_n 3, 1), (735, .iconst 4, 1), (736, .iadd, 1), (737, .iaload, 1), (738, .aload_n 0, 1), (739, .iload_n 3, 1), (740, .iconst 5, 1), (741, .iadd, 1), (742, .iaload, 1), (743, .invokevirtual 81, 3), (746, .aload_n 2, 1), (747, .aload_n 0, 1), (748, .iload_n 3, 1), (749, .iconst 1, 1), (750, .iadd, 1), (751, .iaload, 1), (752, .aload_n 0, 1), (753, .iload_n 3, 1), (754, .iconst 2, 1), (755, .iadd, 1), (756, .iaload, 1), (757, .aload_n 0, 1), (758, .iload_n 3, 1), (759, .iconst 3, 1), (760, .iadd, 1), (761, .iaload, 1), (762, .aload_n 0, 1), (763, .iload_n 3, 1), (764, .iconst 4, 1), (765, .iadd, 1), (766, .iaload, 1), (767, .aload_n 0, 1), (768, .iload_n 3, 1), (769, .iconst 5, 1), (770, .iadd, 1), (771, .iaload, 1)]
theorem IL_law_8_ok : IL_law_8.all (fun e => decide (decode cL_law e.1 = .ok e.2)) = true := by decide +kernel
abbrev IL_law_9 : List (Nat × Instr × Nat) := [(772, .invokevirtual 84, 3), (775, .if_icmp .eq 461, 3), (778, .iconst 0, 1), (779, .ireturn, 1), (780, .aload_n 1, 1), (781, .aload_n 0, 1), (782, .iload_n 3, 1), (783, .iconst 1, 1), (784, .iadd, 1), (785, .iaload, 1), (786, .aload_n 0, 1), (787, .iload_n 3, 1), (788, .iconst 2, 1), (789, .iadd, 1), (790, .iaload, 1), (791, .aload_n 0, 1), (792, .iload_n 3, 1), (793, .iconst 3, 1), (794, .iadd, 1), (795, .iaload, 1), (796, .aload_n 0, 1), (797, .iload_n 3, 1), (798, .iconst 4, 1), (799, .iadd, 1), (800, .iaload, 1), (801, .aload_n 0, 1), (802, .iload_n 3, 1), (803, .iconst 5, 1), (804, .iadd, 1), (805, .iaload, 1), (806, .invokevirtual 85, 3), (809, .aload_n 2, 1), (810, .aload_n 0, 1), (811, .iload_n 3, 1), (812, .iconst 1, 1), (813, .iadd, 1), (814, .iaload, 1), (815, .aload_n 0, 1), (816, .iload_n 3, 1), (817, .iconst 2, 1), (818, .iadd, 1), (819, .iaload, 1), (820, .aload_n 0, 1), (821, .iload_n 3, 1), (822, .iconst 3, 1), (823, .iadd, 1), (824, .iaload, 1), (825, .aload_n 0, 1), (826, .iload_n 3, 1), (827, .iconst 4, 1), (828, .iadd, 1), (829, .iaload, 1), (830, .aload_n 0, 1), (831, .iload_n 3, 1), (832, .iconst 5, 1), (833, .iadd, 1), (834, .iaload, 1), (835, .invokevirtual 88, 3), (838, .if_icmp .eq 398, 3), (841, .iconst 0, 1)]
theorem IL_law_9_ok : IL_law_9.all (fun e => decide (decode cL_law e.1 = .ok e.2)) = true := by decide +kernel
abbrev IL_law_10 : List (Nat × Instr × Nat) := [(842, .ireturn, 1), (843, .aload_n 1, 1), (844, .aload_n 0, 1), (845, .iload_n 3, 1), (846, .iconst 1, 1), (847, .iadd, 1), (848, .iaload, 1), (849, .aload_n 0, 1), (850, .iload_n 3, 1), (851, .iconst 2, 1), (852, .iadd, 1), (853, .iaload, 1), (854, .invokevirtual 89, 3), (857, .aload_n 2, 1), (858, .aload_n 0, 1), (859, .iload_n 3, 1), (860, .iconst 1, 1), (861, .iadd, 1), (862, .iaload, 1), (863, .aload_n 0, 1), (864, .iload_n 3, 1), (865, .iconst 2, 1), (866, .iadd, 1), (867, .iaload, 1), (868, .invokevirtual 93, 3), (871, .if_icmp .eq 365, 3), (874, .iconst 0, 1), (875, .ireturn, 1), (876, .aload_n 1, 1), (877, .aload_n 0, 1), (878, .iload_n 3, 1), (879, .iconst 1, 1), (880, .iadd, 1), (881, .iaload, 1), (882, .aload_n 0, 1), (883, .iload_n 3, 1), (884, .iconst 2, 1), (885, .iadd, 1), (886, .iaload, 1), (887, .invokevirtual 94, 3), (890, .aload_n 2, 1), (891, .aload_n 0, 1), (892, .iload_n 3, 1), (893, .iconst 1, 1), (894, .iadd, 1), (895, .iaload, 1), (896, .aload_n 0, 1), (897, .iload_n 3, 1), (898, .iconst 2, 1), (899, .iadd, 1), (900, .iaload, 1), (901, .invokevirtual 97, 3), (904, .if_icmp .eq 332, 3), (907, .iconst 0, 1), (908, .ireturn, 1), (909, .aload_n 1, 1), (910, .aload_n 0, 1), (911, .iload_n 3, 1), (912, .iconst 1, 1), (913, .iadd, 1)]
theorem IL_law_10_ok : IL_law_10.all (fun e => decide (decode cL_law e.1 = .ok e.2)) = true := by decide +kernel
abbrev IL_law_11 : List (Nat × Instr × Nat) := [(914, .iaload, 1), (915, .aload_n 0, 1), (916, .iload_n 3, 1), (917, .iconst 2, 1), (918, .iadd, 1), (919, .iaload, 1), (920, .invokevirtual 98, 3), (923, .aload_n 2, 1), (924, .aload_n 0, 1), (925, .iload_n 3, 1), (926, .iconst 1, 1), (927, .iadd, 1), (928, .iaload, 1), (929, .aload_n 0, 1), (930, .iload_n 3, 1), (931, .iconst 2, 1), (932, .iadd, 1), (933, .iaload, 1), (934, .invokevirtual 101, 3), (937, .if_icmp .eq 299, 3), (940, .iconst 0, 1), (941, .ireturn, 1), (942, .aload_n 1, 1), (943, .aload_n 0, 1), (944, .iload_n 3, 1), (945, .iconst 1, 1), (946, .iadd, 1), (947, .iaload, 1), (948, .aload_n 0, 1), (949, .iload_n 3, 1), (950, .iconst 2, 1), (951, .iadd, 1), (952, .iaload, 1), (953, .aload_n 0, 1), (954, .iload_n 3, 1), (955, .iconst 3, 1), (956, .iadd, 1), (957, .iaload, 1), (958, .aload_n 0, 1), (959, .iload_n 3, 1), (960, .iconst 4, 1), (961, .iadd, 1), (962, .iaload, 1), (963, .invokevirtual 102, 3), (966, .aload_n 2, 1), (967, .aload_n 0, 1), (968, .iload_n 3, 1), (969, .iconst 1, 1), (970, .iadd, 1), (971, .iaload, 1), (972, .aload_n 0, 1), (973, .iload_n 3, 1), (974, .iconst 2, 1), (975, .iadd, 1), (976, .iaload, 1), (977, .aload_n 0, 1), (978, .iload_n 3, 1), (979, .iconst 3, 1), (980, .iadd, 1), (981, .iaload, 1)]
theorem IL_law_11_ok : IL_law_11.all (fun e => decide (decode cL_law e.1 = .ok e.2)) = true := by decide +kernel
abbrev IL_law_12 : List (Nat × Instr × Nat) := [(982, .aload_n 0, 1), (983, .iload_n 3, 1), (984, .iconst 4, 1), (985, .iadd, 1), (986, .iaload, 1), (987, .invokevirtual 105, 3), (990, .if_icmp .eq 246, 3), (993, .iconst 0, 1), (994, .ireturn, 1), (995, .aload_n 1, 1), (996, .aload_n 0, 1), (997, .iload_n 3, 1), (998, .iconst 1, 1), (999, .iadd, 1), (1000, .iaload, 1), (1001, .aload_n 0, 1), (1002, .iload_n 3, 1), (1003, .iconst 2, 1), (1004, .iadd, 1), (1005, .iaload, 1), (1006, .invokevirtual 106, 3), (1009, .aload_n 2, 1), (1010, .aload_n 0, 1), (1011, .iload_n 3, 1), (1012, .iconst 1, 1), (1013, .iadd, 1), (1014, .iaload, 1), (1015, .aload_n 0, 1), (1016, .iload_n 3, 1), (1017, .iconst 2, 1), (1018, .iadd, 1), (1019, .iaload, 1), (1020, .invokevirtual 109, 3), (1023, .if_icmp .eq 213, 3), (1026, .iconst 0, 1), (1027, .ireturn, 1), (1028, .aload_n 1, 1), (1029, .aload_n 0, 1), (1030, .iload_n 3, 1), (1031, .iconst 1, 1), (1032, .iadd, 1), (1033, .iaload, 1), (1034, .aload_n 0, 1), (1035, .iload_n 3, 1), (1036, .iconst 2, 1), (1037, .iadd, 1), (1038, .iaload, 1), (1039, .aload_n 0, 1), (1040, .iload_n 3, 1), (1041, .iconst 3, 1), (1042, .iadd, 1), (1043, .iaload, 1), (1044, .invokevirtual 110, 3), (1047, .aload_n 2, 1), (1048, .aload_n 0, 1), (1049, .iload_n 3, 1), (1050, .iconst 1, 1), (1051, .iadd, 1), (1052, .iaload, 1), (1053, .aload_n 0, 1)]
theorem IL_law_12_ok : IL_law_12.all (fun e => decide (decode cL_law e.1 = .ok e.2)) = true := by decide +kernel
abbrev IL_law_13 : List (Nat × Instr × Nat) := [(1054, .iload_n 3, 1), (1055, .iconst 2, 1), (1056, .iadd, 1), (1057, .iaload, 1), (1058, .aload_n 0, 1), (1059, .iload_n 3, 1), (1060, .iconst 3, 1), (1061, .iadd, 1), (1062, .iaload, 1), (1063, .invokevirtual 113, 3), (1066, .if_icmp .eq 170, 3), (1069, .iconst 0, 1), (1070, .ireturn, 1), (1071, .aload_n 1, 1), (1072, .aload_n 0, 1), (1073, .iload_n 3, 1), (1074, .iconst 1, 1), (1075, .iadd, 1), (1076, .iaload, 1), (1077, .aload_n 0, 1), (1078, .iload_n 3, 1), (1079, .iconst 2, 1), (1080, .iadd, 1), (1081, .iaload, 1), (1082, .aload_n 0, 1), (1083, .iload_n 3, 1), (1084, .iconst 3, 1), (1085, .iadd, 1), (1086, .iaload, 1), (1087, .invokevirtual 114, 3), (1090, .aload_n 2, 1), (1091, .aload_n 0, 1), (1092, .iload_n 3, 1), (1093, .iconst 1, 1), (1094, .iadd, 1), (1095, .iaload, 1), (1096, .aload_n 0, 1), (1097, .iload_n 3, 1), (1098, .iconst 2, 1), (1099, .iadd, 1), (1100, .iaload, 1), (1101, .aload_n 0, 1), (1102, .iload_n 3, 1), (1103, .iconst 3, 1), (1104, .iadd, 1), (1105, .iaload, 1), (1106, .invokevirtual 117, 3), (1109, .if_icmp .eq 127, 3), (1112, .iconst 0, 1), (1113, .ireturn, 1), (1114, .aload_n 1, 1), (1115, .aload_n 0, 1), (1116, .iload_n 3, 1), (1117, .iconst 1, 1), (1118, .iadd, 1), (1119, .iaload, 1), (1120, .aload_n 0, 1), (1121, .iload_n 3, 1), (1122, .iconst 2, 1), (1123, .iadd, 1)]
theorem IL_law_13_ok : IL_law_13.all (fun e => decide (decode cL_law e.1 = .ok e.2)) = true := by decide +kernel
abbrev IL_law_14 : List (Nat × Instr × Nat) := [(1124, .iaload, 1), (1125, .invokevirtual 118, 3), (1128, .aload_n 2, 1), (1129, .aload_n 0, 1), (1130, .iload_n 3, 1), (1131, .iconst 1, 1), (1132, .iadd, 1), (1133, .iaload, 1), (1134, .aload_n 0, 1), (1135, .iload_n 3, 1), (1136, .iconst 2, 1), (1137, .iadd, 1), (1138, .iaload, 1), (1139, .invokevirtual 121, 3), (1142, .if_icmp .eq 94, 3), (1145, .iconst 0, 1), (1146, .ireturn, 1), (1147, .aload_n 1, 1), (1148, .aload_n 0, 1), (1149, .iload_n 3, 1), (1150, .iconst 1, 1), (1151, .iadd, 1), (1152, .iaload, 1), (1153, .invokevirtual 122, 3), (1156, .aload_n 2, 1), (1157, .aload_n 0, 1), (1158, .iload_n 3, 1), (1159, .iconst 1, 1), (1160, .iadd, 1), (1161, .iaload, 1), (1162, .invokevirtual 125, 3), (1165, .if_icmp .eq 71, 3), (1168, .iconst 0, 1), (1169, .ireturn, 1), (1170, .aload_n 1, 1), (1171, .aload_n 0, 1), (1172, .iload_n 3, 1), (1173, .iconst 1, 1), (1174, .iadd, 1), (1175, .iaload, 1), (1176, .aload_n 0, 1), (1177, .iload_n 3, 1), (1178, .iconst 2, 1), (1179, .iadd, 1), (1180, .iaload, 1), (1181, .aload_n 0, 1), (1182, .iload_n 3, 1), (1183, .iconst 3, 1), (1184, .iadd, 1), (1185, .iaload, 1), (1186, .invokevirtual 126, 3), (1189, .aload_n 2, 1), (1190, .aload_n 0, 1), (1191, .iload_n 3, 1), (1192, .iconst 1, 1), (1193, .iadd, 1), (1194, .iaload, 1), (1195, .aload_n 0, 1), (1196, .iload_n 3, 1), (1197, .iconst 2, 1)]
theorem IL_law_14_ok : IL_law_14.all (fun e => decide (decode cL_law e.1 = .ok e.2)) = true := by decide +kernel
abbrev IL_law_15 : List (Nat × Instr × Nat) := [(1198, .iadd, 1), (1199, .iaload, 1), (1200, .aload_n 0, 1), (1201, .iload_n 3, 1), (1202, .iconst 3, 1), (1203, .iadd, 1), (1204, .iaload, 1), (1205, .invokevirtual 129, 3), (1208, .if_icmp .eq 28, 3), (1211, .iconst 0, 1), (1212, .ireturn, 1), (1213, .aload_n 1, 1), (1214, .aload_n 0, 1), (1215, .iload_n 3, 1), (1216, .iconst 1, 1), (1217, .iadd, 1), (1218, .iaload, 1), (1219, .invokevirtual 130, 3), (1222, .aload_n 2, 1), (1223, .aload_n 0, 1), (1224, .iload_n 3, 1), (1225, .iconst 1, 1), (1226, .iadd, 1), (1227, .iaload, 1), (1228, .invokevirtual 133, 3), (1231, .if_icmp .eq 5, 3), (1234, .iconst 0, 1), (1235, .ireturn, 1), (1236, .iinc 3 7, 3), (1239, .goto (-1221), 3), (1242, .iconst 1, 1), (1243, .ireturn, 1)]
theorem IL_law_15_ok : IL_law_15.all (fun e => decide (decode cL_law e.1 = .ok e.2)) = true := by decide +kernel
abbrev IL_law : List (Nat × Instr × Nat) := IL_law_0 ++ (IL_law_1 ++ (IL_law_2 ++ (IL_law_3 ++ (IL_law_4 ++ (IL_law_5 ++ (IL_law_6 ++ (IL_law_7 ++ (IL_law_8 ++ (IL_law_9 ++ (IL_law_10 ++ (IL_law_11 ++ (IL_law_12 ++ (IL_law_13 ++ (IL_law_14 ++ (IL_law_15)))))))))))))))
theorem IL_law_ok : IL_law.all (fun e => decide (decode cL_law e.1 = .ok e.2)) = true := (am_all2 IL_law_0_ok (am_all2 IL_law_1_ok (am_all2 IL_law_2_ok (am_all2 IL_law_3_ok (am_all2 IL_law_4_ok (am_all2 IL_law_5_ok (am_all2 IL_law_6_ok (am_all2 IL_law_7_ok (am_all2 IL_law_8_ok (am_all2 IL_law_9_ok (am_all2 IL_law_10_ok (am_all2 IL_law_11_ok (am_all2 IL_law_12_ok (am_all2 IL_law_13_ok (am_all2 IL_law_14_ok IL_law_15_ok)))))))))))))))
abbrev ML_law : am_MD := (11, yL_law, cL_law, 4, (some .boolean), IL_law)
end
section
/- the cells: x = 0, spare = 38, m = 46, in all 92; then a new consent's -/
def am_lay : Nat → Nat ⊕ (Nat × Nat) := fun k => match k with
  | 0 => .inl 9  -- 0 x
  | 1 => .inl 6  -- 1 text
  | 2 => .inr (1, 2000)  -- 2 bytes
  | 3 => .inl 2  -- 3 parser
  | 4 => .inr (0, 21)  -- 4 waiting
  | 5 => .inl 3  -- 5 question
  | 6 => .inr (0, 7)  -- 6 vars
  | 7 => .inr (0, 21)  -- 7 stack
  | 8 => .inr (1, 133)  -- 8 known
  | 9 => .inl 8  -- 9 town
  | 10 => .inr (0, 48)  -- 10 traits
  | 11 => .inr (0, 12)  -- 11 deaths
  | 12 => .inr (5, 12)  -- 12 consents
  | 13 => .inl 7  -- 13 topics
  | 14 => .inr (0, 12)  -- 14 lines
  | 15 => .inl 4  -- 15 shelf
  | 16 => .inr (0, 6)  -- 16 speakers
  | 17 => .inr (0, 6)  -- 17 days
  | 18 => .inr (0, 6)  -- 18 lengths
  | 19 => .inr (0, 30)  -- 19 tapeOf
  | 20 => .inr (0, 30)  -- 20 starts
  | 21 => .inr (0, 30)  -- 21 ends
  | 22 => .inr (0, 30)  -- 22 topics
  | 23 => .inr (0, 30)  -- 23 names
  | 24 => .inr (0, 30)  -- 24 tells
  | 25 => .inr (0, 30)  -- 25 takenOn
  | 26 => .inl 0  -- 26 askers
  | 27 => .inr (0, 6)  -- 27 kinds
  | 28 => .inr (1, 180)  -- 28 ways
  | 29 => .inl 5  -- 29 tellings
  | 30 => .inr (0, 12)  -- 30 forms
  | 31 => .inr (0, 12)  -- 31 events
  | 32 => .inr (0, 12)  -- 32 others
  | 33 => .inr (0, 12)  -- 33 lows
  | 34 => .inr (0, 12)  -- 34 highs
  | 35 => .inr (0, 13)  -- 35 leftOuts
  | 36 => .inr (0, 10)  -- 36 days
  | 37 => .inr (0, 4)  -- 37 lags
  | 38 => .inl 1  -- 38 spare
  | 39 => .inr (1, 16)  -- 39 heads
  | 40 => .inr (2, 16)  -- 40 ruleEnds
  | 41 => .inr (1, 133)  -- 41 tests
  | 42 => .inr (2, 133)  -- 42 literalEnds
  | 43 => .inr (3, 133)  -- 43 startsAll
  | 44 => .inr (3, 133)  -- 44 moves
  | 45 => .inr (2, 400)  -- 45 cells
  | 46 => .inl 10  -- 46 m
  | 47 => .inr (1, 2000)  -- 47 tape
  | 48 => .inr (1, 2000)  -- 48 text
  | 49 => .inr (0, 403)  -- 49 tKind
  | 50 => .inr (0, 403)  -- 50 tPlace
  | 51 => .inr (0, 403)  -- 51 tValue
  | 52 => .inr (4, 403)  -- 52 tName
  | 53 => .inr (4, 14)  -- 53 keys
  | 54 => .inr (0, 12)  -- 54 live
  | 55 => .inr (0, 24)  -- 55 rules
  | 56 => .inr (0, 384)  -- 56 ruleSort
  | 57 => .inr (0, 384)  -- 57 litFirst
  | 58 => .inr (0, 384)  -- 58 litLast
  | 59 => .inr (0, 24)  -- 59 literals
  | 60 => .inr (0, 4800)  -- 60 litSort
  | 61 => .inr (0, 4800)  -- 61 litLeft
  | 62 => .inr (0, 4800)  -- 62 litRight
  | 63 => .inr (0, 4800)  -- 63 litEnd
  | 64 => .inr (3, 4800)  -- 64 litOr
  | 65 => .inr (0, 12000)  -- 65 code
  | 66 => .inr (0, 12000)  -- 66 codeInt
  | 67 => .inr (0, 48)  -- 67 waits
  | 68 => .inr (0, 48)  -- 68 trait
  | 69 => .inr (0, 12)  -- 69 death
  | 70 => .inr (0, 12)  -- 70 inTopics
  | 71 => .inr (0, 6)  -- 71 speaker
  | 72 => .inr (0, 6)  -- 72 madeOn
  | 73 => .inr (0, 6)  -- 73 length
  | 74 => .inr (0, 30)  -- 74 pieceTape
  | 75 => .inr (0, 30)  -- 75 pieceFrom
  | 76 => .inr (0, 30)  -- 76 pieceTo
  | 77 => .inr (0, 30)  -- 77 pieceTopic
  | 78 => .inr (0, 30)  -- 78 pieceNames
  | 79 => .inr (0, 30)  -- 79 pieceTells
  | 80 => .inr (0, 30)  -- 80 taken
  | 81 => .inr (0, 6)  -- 81 askerKind
  | 82 => .inr (0, 4)  -- 82 lag
  | 83 => .inr (0, 7)  -- 83 variables
  | 84 => .inr (0, 500)  -- 84 pile
  | 85 => .inr (0, 180)  -- 85 heard
  | 86 => .inr (0, 12)  -- 86 tellSort
  | 87 => .inr (0, 12)  -- 87 tellOf
  | 88 => .inr (0, 12)  -- 88 tellA
  | 89 => .inr (0, 12)  -- 89 tellB
  | 90 => .inr (0, 10)  -- 90 low
  | 91 => .inr (0, 10)  -- 91 high
  | 92 => .inl 1  -- 92 new_spare
  | 93 => .inr (1, 16)  -- 93 new_heads
  | 94 => .inr (2, 16)  -- 94 new_ruleEnds
  | 95 => .inr (1, 133)  -- 95 new_tests
  | 96 => .inr (2, 133)  -- 96 new_literalEnds
  | 97 => .inr (3, 133)  -- 97 new_startsAll
  | 98 => .inr (3, 133)  -- 98 new_moves
  | _ => .inr (2, 400)  -- 99 new_cells
def am_nf : Nat → Nat := fun c => match c with
  | 0 => 3
  | 1 => 11
  | 2 => 8
  | 3 => 7
  | 4 => 12
  | 5 => 8
  | 6 => 6
  | 7 => 2
  | 8 => 4
  | 9 => 13
  | _ => 69
/-- which fields are references -/
def am_rk : Nat → List Bool := fun c => match c with
  | 0 => [true, true, false]
  | 1 => [true, true, true, true, true, true, true, false, false, false, false]
  | 2 => [true, false, false, false, false, false, false, false]
  | 3 => [true, true, true, false, false, false, false]
  | 4 => [true, true, true, false, true, true, true, true, true, true, true, false]
  | 5 => [true, true, true, true, true, true, true, false]
  | 6 => [true, false, false, false, false, false]
  | 7 => [true, false]
  | 8 => [true, true, true, false]
  | 9 => [true, true, true, true, true, true, true, true, true, false, false, false, true]
  | _ => [false, true, false, true, false, true, true, true, true, true, false, false, false, false, false, false, false, false, true, false, true, true, true, true, true, true, true, true, true, true, false, true, true, true, false, false, true, true, false, true, false, true, true, true, false, true, true, true, true, true, true, true, false, true, false, true, false, true, true, false, true, false, true, true, true, true, true, true, false]
end
section
/-! ===== the abstract machine: the memory by cells' numbers ===== -/
abbrev am_I : Type := Nat → Nat → Int32
abbrev am_J : Type := Nat → Nat → Int64
abbrev am_Q : Type := Nat → Nat → Option Nat
/-- one place of one cell written -/
def am_w {α : Type} (f : Nat → Nat → α) (k j : Nat) (v : α) : Nat → Nat → α := va_up f k (va_up (f k) j v)
def am_rf (c j : Nat) : Bool := (am_rk c).getD j false
def am_cv (al : Nat → Nat) : Value → Value
  | .ref k => .ref (al k)
  | v => v
def am_fs (al : Nat → Nat) (c : Nat) (i : Nat → Int32) (q : Nat → Option Nat) : List Value := (List.range (am_nf c)).map fun j => if am_rf c j = true then va_rf ((q j).map al) else .int (i j)
def am_en (dA : Nat → ClassId) (al : Nat → Nat) (k : Nat) (i : Nat → Int32) (j : Nat → Int64) (q : Nat → Option Nat) : va_E := match am_lay k with
  | .inl c => .inr (c, am_fs al c i q)
  | .inr (t, n) => .inl (dA t, n, if t = 4 then .inr (.inl j) else if t = 5 then .inr (.inr (.inr (.inr (fun a => (q a).map al)))) else .inl i)
def am_ws (dA : Nat → ClassId) (al : Nat → Nat) (n : Nat) (I : am_I) (J : am_J) (Q : am_Q) : va_W := (List.range n).map fun k => (al k, am_en dA al k (I k) (J k) (Q k))
theorem am_ws_at {dA : Nat → ClassId} {al : Nat → Nat} {n : Nat} {I : am_I} {J : am_J} {Q : am_Q} {k : Nat} (h : k < n) : (am_ws dA al n I J Q)[k]? = some (al k, am_en dA al k (I k) (J k) (Q k)) := by
  simp [am_ws, h]
theorem am_ws_len {dA : Nat → ClassId} {al : Nat → Nat} {n : Nat} {I : am_I} {J : am_J} {Q : am_Q} : (am_ws dA al n I J Q).length = n := by simp [am_ws]
theorem am_ws_none {dA : Nat → ClassId} {al : Nat → Nat} {n : Nat} {I : am_I} {J : am_J} {Q : am_Q} {k : Nat} (h : ¬ k < n) : (am_ws dA al n I J Q)[k]? = none := by
  rw [List.getElem?_eq_none_iff, am_ws_len]
  omega
theorem am_up_id {α : Type} (f : Nat → α) (k : Nat) : va_up f k (f k) = f := by
  funext j
  unfold va_up
  split
  · next h => rw [h]
  · rfl
theorem am_ws_set {dA : Nat → ClassId} {al : Nat → Nat} {n : Nat} {I : am_I} {J : am_J} {Q : am_Q} {k : Nat} (h : k < n) (i : Nat → Int32) (j : Nat → Int64) (q : Nat → Option Nat) :
    (am_ws dA al n I J Q).set k (al k, am_en dA al k i j q) = am_ws dA al n (va_up I k i) (va_up J k j) (va_up Q k q) := by
  apply List.ext_getElem?
  intro a
  by_cases ha : a = k
  · subst ha
    rw [List.getElem?_set_self (by rw [am_ws_len]; exact h), am_ws_at h]
    simp [va_up]
  · rw [List.getElem?_set_ne (Ne.symm ha)]
    by_cases hn : a < n
    · rw [am_ws_at hn, am_ws_at hn]
      simp [va_up, ha]
    · rw [am_ws_none hn, am_ws_none hn]
theorem am_ws_setI {dA : Nat → ClassId} {al : Nat → Nat} {n : Nat} {I : am_I} {J : am_J} {Q : am_Q} {k : Nat} (h : k < n) (i : Nat → Int32) :
    (am_ws dA al n I J Q).set k (al k, am_en dA al k i (J k) (Q k)) = am_ws dA al n (va_up I k i) J Q := by
  rw [am_ws_set h, am_up_id, am_up_id]
theorem am_ws_setJ {dA : Nat → ClassId} {al : Nat → Nat} {n : Nat} {I : am_I} {J : am_J} {Q : am_Q} {k : Nat} (h : k < n) (j : Nat → Int64) :
    (am_ws dA al n I J Q).set k (al k, am_en dA al k (I k) j (Q k)) = am_ws dA al n I (va_up J k j) Q := by
  rw [am_ws_set h, am_up_id, am_up_id]
theorem am_ws_setQ {dA : Nat → ClassId} {al : Nat → Nat} {n : Nat} {I : am_I} {J : am_J} {Q : am_Q} {k : Nat} (h : k < n) (q : Nat → Option Nat) :
    (am_ws dA al n I J Q).set k (al k, am_en dA al k (I k) (J k) q) = am_ws dA al n I J (va_up Q k q) := by
  rw [am_ws_set h, am_up_id, am_up_id]
theorem am_fs_len {al : Nat → Nat} {c : Nat} {i : Nat → Int32} {q : Nat → Option Nat} : (am_fs al c i q).length = am_nf c := by simp [am_fs]
theorem am_fs_at {al : Nat → Nat} {c : Nat} {i : Nat → Int32} {q : Nat → Option Nat} {j : Nat} (h : j < am_nf c) : (am_fs al c i q)[j]? = some (if am_rf c j = true then va_rf ((q j).map al) else .int (i j)) := by
  simp [am_fs, h]
theorem am_fs_none {al : Nat → Nat} {c : Nat} {i : Nat → Int32} {q : Nat → Option Nat} {j : Nat} (h : ¬ j < am_nf c) : (am_fs al c i q)[j]? = none := by
  rw [List.getElem?_eq_none_iff, am_fs_len]
  omega
theorem am_fs_setI {al : Nat → Nat} {c : Nat} {i : Nat → Int32} {q : Nat → Option Nat} {j : Nat} (h : j < am_nf c) (hr : am_rf c j = false) (v : Int32) : (am_fs al c i q).set j (.int v) = am_fs al c (va_up i j v) q := by
  apply List.ext_getElem?
  intro a
  by_cases ha : a = j
  · subst ha
    rw [List.getElem?_set_self (by rw [am_fs_len]; exact h), am_fs_at h]
    simp [va_up, hr]
  · rw [List.getElem?_set_ne (Ne.symm ha)]
    by_cases hn : a < am_nf c
    · rw [am_fs_at hn, am_fs_at hn]
      simp [va_up, ha]
    · rw [am_fs_none hn, am_fs_none hn]
theorem am_fs_setQ {al : Nat → Nat} {c : Nat} {i : Nat → Int32} {q : Nat → Option Nat} {j : Nat} (h : j < am_nf c) (hr : am_rf c j = true) (v : Option Nat) : (am_fs al c i q).set j (va_rf (v.map al)) = am_fs al c i (va_up q j v) := by
  apply List.ext_getElem?
  intro a
  by_cases ha : a = j
  · subst ha
    rw [List.getElem?_set_self (by rw [am_fs_len]; exact h), am_fs_at h]
    simp [va_up, hr]
  · rw [List.getElem?_set_ne (Ne.symm ha)]
    by_cases hn : a < am_nf c
    · rw [am_fs_at hn, am_fs_at hn]
      simp [va_up, ha]
    · rw [am_fs_none hn, am_fs_none hn]
/-- the locals that are known -/
def am_ll (al : Nat → Nat) : Nat → List (Option Value) → List (Nat × Value)
  | _, [] => []
  | k, none :: L => am_ll al (k + 1) L
  | k, some v :: L => (k, am_cv al v) :: am_ll al (k + 1) L
theorem am_ll_mem {al : Nat → Nat} : ∀ (L : List (Option Value)) (k : Nat) (q : Nat × Value), q ∈ am_ll al k L ↔ ∃ (i : Nat) (v : Value), L[i]? = some (some v) ∧ q = (k + i, am_cv al v)
  | [], k, q => by simp [am_ll]
  | none :: L, k, q => by
    rw [am_ll, am_ll_mem L (k + 1) q]
    constructor
    · rintro ⟨i, v, h1, h2⟩
      exact ⟨i + 1, v, by simpa using h1, by rw [h2]; simp; omega⟩
    · rintro ⟨i, v, h1, h2⟩
      cases i with
      | zero => simp at h1
      | succ i => exact ⟨i, v, by simpa using h1, by rw [h2]; simp; omega⟩
  | some w :: L, k, q => by
    rw [am_ll, List.mem_cons, am_ll_mem L (k + 1) q]
    constructor
    · rintro (h | ⟨i, v, h1, h2⟩)
      · exact ⟨0, w, rfl, by rw [h]; simp⟩
      · exact ⟨i + 1, v, by simpa using h1, by rw [h2]; simp; omega⟩
    · rintro ⟨i, v, h1, h2⟩
      cases i with
      | zero =>
        simp at h1
        subst h1
        exact Or.inl (by rw [h2]; simp)
      | succ i => exact Or.inr ⟨i, v, by simpa using h1, by rw [h2]; simp; omega⟩
theorem am_ll_in {al : Nat → Nat} {L : List (Option Value)} {i : Nat} {v : Value} (h : L[i]? = some (some v)) : (i, am_cv al v) ∈ am_ll al 0 L := (am_ll_mem L 0 _).mpr ⟨i, v, h, by simp⟩
def am_H (ls : Array Slot) (nL : Nat) (al : Nat → Nat) (L : List (Option Value)) : Prop := lv_has ls nL (am_ll al 0 L)
theorem am_H.get {ls : Array Slot} {nL : Nat} {al : Nat → Nat} {L : List (Option Value)} (h : am_H ls nL al L) {i : Nat} {v : Value} (hi : L[i]? = some (some v)) : ls[i]? = some (.val (am_cv al v)) := h.2.2 _ (am_ll_in hi)
/-- no long stands just ahead of i -/
def am_nl : List (Option Value) → Nat → Bool
  | _, 0 => true
  | L, i + 1 => match L[i]? with
    | some (some (.long _)) => false
    | some (some (.double _)) => false
    | _ => true
theorem am_cv_cat (al : Nat → Nat) (v : Value) : (am_cv al v).category = v.category := by cases v <;> rfl
theorem am_nl_cat {L : List (Option Value)} {i : Nat} {v : Value} (h : am_nl L (i + 1) = true) (hv : L[i]? = some (some v)) : ¬ v.category = 2 := by
  simp only [am_nl, hv] at h
  cases v <;> simp [Value.category] at h ⊢
/-- storing a value of one slot -/
theorem am_H.st1 {ls ls' : Array Slot} {nL : Nat} {al : Nat → Nat} {L : List (Option Value)} {i : Nat} {v : Value} (hn : am_nl L i = true)
    (h' : lv_has ls' nL ((i, am_cv al v) :: (am_ll al 0 L).filter (fun q => !(q.1 == i) && !(q.1 + 1 == i && q.2.category == 2)))) : am_H ls' nL al (L.set i (some v)) := by
  refine ⟨h'.1, h'.2.1, fun q hq => ?_⟩
  obtain ⟨a, w, h1, h2⟩ := (am_ll_mem _ 0 q).mp hq
  subst h2
  by_cases ha : a = i
  · subst ha
    have hlt : a < L.length := by
      have := (List.getElem?_eq_some_iff.mp h1).1
      simpa using this
    rw [List.getElem?_set_self hlt] at h1
    cases h1
    have h3 := h'.2.2 (a, am_cv al v) List.mem_cons_self
    simpa using h3
  · rw [List.getElem?_set_ne (Ne.symm ha)] at h1
    refine h'.2.2 _ (List.mem_cons_of_mem _ (List.mem_filter.mpr ⟨?_, ?_⟩))
    · simpa using am_ll_in (al := al) h1
    · simp only [Nat.zero_add, Bool.and_eq_true, Bool.not_eq_true', beq_eq_false_iff_ne, ne_eq, Bool.and_eq_false_iff]
      refine ⟨ha, ?_⟩
      by_cases hb : a + 1 = i
      · subst hb
        right
        rw [am_cv_cat]
        exact am_nl_cat hn h1
      · exact Or.inl hb
/-- storing a long: its second half is unknown -/
theorem am_H.st2 {ls ls' : Array Slot} {nL : Nat} {al : Nat → Nat} {L : List (Option Value)} {i : Nat} {v : Value} (hn : am_nl L i = true)
    (h' : lv_has ls' nL ((i, am_cv al v) :: (am_ll al 0 L).filter (fun q => !(q.1 == i) && (!(q.1 == i + 1) && !(q.1 + 1 == i && q.2.category == 2))))) : am_H ls' nL al ((L.set i (some v)).set (i + 1) none) := by
  refine ⟨h'.1, h'.2.1, fun q hq => ?_⟩
  obtain ⟨a, w, h1, h2⟩ := (am_ll_mem _ 0 q).mp hq
  subst h2
  by_cases hb1 : a = i + 1
  · subst hb1
    have hlt : i + 1 < ((L.set i (some v)).set (i + 1) none).length := (List.getElem?_eq_some_iff.mp h1).1
    rw [List.getElem?_set_self (by simpa using hlt)] at h1
    cases h1
  rw [List.getElem?_set_ne (Ne.symm hb1)] at h1
  by_cases ha : a = i
  · subst ha
    have hlt : a < L.length := by
      have := (List.getElem?_eq_some_iff.mp h1).1
      simpa using this
    rw [List.getElem?_set_self hlt] at h1
    cases h1
    have h3 := h'.2.2 (a, am_cv al v) List.mem_cons_self
    simpa using h3
  · rw [List.getElem?_set_ne (Ne.symm ha)] at h1
    refine h'.2.2 _ (List.mem_cons_of_mem _ (List.mem_filter.mpr ⟨?_, ?_⟩))
    · simpa using am_ll_in (al := al) h1
    · simp only [Nat.zero_add, Bool.and_eq_true, Bool.not_eq_true', beq_eq_false_iff_ne, ne_eq, Bool.and_eq_false_iff]
      refine ⟨ha, hb1, ?_⟩
      by_cases hb : a + 1 = i
      · subst hb
        right
        rw [am_cv_cat]
        exact am_nl_cat hn h1
      · exact Or.inl hb
/-- another map of the addresses that agrees on what is held -/
def am_vok (n : Nat) : Value → Bool
  | .ref k => decide (k ≠ n)
  | _ => true
theorem am_cv_up {al : Nat → Nat} {n a : Nat} {v : Value} (h : am_vok n v = true) : am_cv (va_up al n a) v = am_cv al v := by
  cases v with
  | ref k =>
    have hk : k ≠ n := by simpa [am_vok] using h
    show Value.ref _ = Value.ref _
    simp [va_up, hk]
  | _ => rfl
end
section
/-! ===== words, fields, context ===== -/
def am_G : List Cond := lw_tbl.filter goodWord
theorem am_G_in {w : Cond} (h : w ∈ lw_tbl) (hg : goodWord w = true) : w ∈ am_G := List.mem_filter.mpr ⟨h, hg⟩
def am_isN : Cond → Bool
  | .fieldLinkNest .. => true
  | .methodLinkNest .. => true
  | _ => false
def am_N : List Cond := lw_tbl.filter am_isN
theorem am_N_in {w : Cond} (h : w ∈ lw_tbl) (hg : am_isN w = true) : w ∈ am_N := List.mem_filter.mpr ⟨h, hg⟩
theorem am_lookup {α : Type} {a : Nat} {b : α} : ∀ {l : List (Nat × α)}, l.lookup a = some b → (a, b) ∈ l
  | [], h => by simp at h
  | (c, d) :: l, h => by
    rw [List.lookup_cons] at h
    by_cases hc : a = c
    · subst hc
      simp at h
      subst h
      exact List.mem_cons_self
    · have : (a == c) = false := by simpa using hc
      rw [this] at h
      exact List.mem_cons_of_mem _ (am_lookup h)
def am_fl (oc idx : Nat) : Option (Bool × Nat × Nat × Nat) := (am_ft oc).lookup idx
theorem am_fl_ok {oc idx c j ps : Nat} {nb : Bool} (h : am_fl oc idx = some (nb, c, j, ps)) : ∃ q : vw_C, vwCl[c]? = some q ∧ j < q.2.2 ∧ am_fc oc (idx, nb, c, j, ps) q.2.1 ∈ lw_tbl := by
  have h1 := List.all_eq_true.mp (am_ft_ok oc) _ (am_lookup h)
  unfold am_fchk at h1
  cases hq : vwCl[c]? with
  | none => simp only [hq] at h1; cases h1
  | some q =>
    simp only [hq, Bool.and_eq_true, decide_eq_true_eq] at h1
    exact ⟨q, rfl, h1.1, List.mem_of_getElem? h1.2⟩
theorem am_wX0 : ∀ w ∈ u_ws RX0 TX0 3, w ∈ lw_tbl := by decide +kernel
theorem am_wX1 : ∀ w ∈ u_ws RX1 TX1 11, w ∈ lw_tbl := by decide +kernel
theorem am_wX2 : ∀ w ∈ u_ws RX2 TX2 8, w ∈ lw_tbl := by decide +kernel
theorem am_wX3 : ∀ w ∈ u_ws RX3 TX3 7, w ∈ lw_tbl := by decide +kernel
theorem am_wX4 : ∀ w ∈ u_ws RX4 TX4 12, w ∈ lw_tbl := by decide +kernel
theorem am_wX5 : ∀ w ∈ u_ws RX5 TX5 8, w ∈ lw_tbl := by decide +kernel
theorem am_wX6 : ∀ w ∈ u_ws RX6 TX6 6, w ∈ lw_tbl := by decide +kernel
theorem am_wX7 : ∀ w ∈ u_ws RX7 TX7 2, w ∈ lw_tbl := by decide +kernel
theorem am_wX8 : ∀ w ∈ u_ws RX8 TX8 4, w ∈ lw_tbl := by decide +kernel
theorem am_wX9 : ∀ w ∈ u_ws RX9 TX9 13, w ∈ lw_tbl := by decide +kernel
theorem am_wX10 : ∀ w ∈ u_ws RX10 TX10 69, w ∈ lw_tbl := by decide +kernel
theorem am_wgood {C : String} {T : u_T} {N : Nat} {w : Cond} (h : w ∈ u_ws C T N) : goodWord w = true := by
  obtain ⟨k, -, rfl⟩ := List.mem_map.mp h
  unfold u_lay
  split <;> rfl
theorem am_cl_lt {c : Nat} {q : vw_C} (h : vwCl[c]? = some q) : c < 11 := (List.getElem?_eq_some_iff.mp h).1
theorem am_in {c : Nat} {q : vw_C} (h : vwCl[c]? = some q) : ∀ w ∈ u_ws q.1 q.2.1 q.2.2, w ∈ am_G := by
  intro w hw
  refine am_G_in ?_ (am_wgood hw)
  match c, h with
  | 0, h => cases h; exact am_wX0 w hw
  | 1, h => cases h; exact am_wX1 w hw
  | 2, h => cases h; exact am_wX2 w hw
  | 3, h => cases h; exact am_wX3 w hw
  | 4, h => cases h; exact am_wX4 w hw
  | 5, h => cases h; exact am_wX5 w hw
  | 6, h => cases h; exact am_wX6 w hw
  | 7, h => cases h; exact am_wX7 w hw
  | 8, h => cases h; exact am_wX8 w hw
  | 9, h => cases h; exact am_wX9 w hw
  | 10, h => cases h; exact am_wX10 w hw
  | k + 11, h => exact absurd (am_cl_lt h) (by omega)
def am_ty (c : Nat) : Nat → FieldType := match c with
  | 0 => tyX0
  | 1 => tyX1
  | 2 => tyX2
  | 3 => tyX3
  | 4 => tyX4
  | 5 => tyX5
  | 6 => tyX6
  | 7 => tyX7
  | 8 => tyX8
  | 9 => tyX9
  | _ => tyX10
theorem am_ty_ok {c : Nat} {q : vw_C} (h : vwCl[c]? = some q) : ∀ k, k < q.2.2 → parseFieldDescriptor (q.2.1 k).2.2.1 = some (am_ty c k) := by
  match c, h with
  | 0, h => cases h; exact tyX0_ok
  | 1, h => cases h; exact tyX1_ok
  | 2, h => cases h; exact tyX2_ok
  | 3, h => cases h; exact tyX3_ok
  | 4, h => cases h; exact tyX4_ok
  | 5, h => cases h; exact tyX5_ok
  | 6, h => cases h; exact tyX6_ok
  | 7, h => cases h; exact tyX7_ok
  | 8, h => cases h; exact tyX8_ok
  | 9, h => cases h; exact tyX9_ok
  | 10, h => cases h; exact tyX10_ok
  | k + 11, h => exact absurd (am_cl_lt h) (by omega)
theorem am_nm {c : Nat} {q : vw_C} (h : vwCl[c]? = some q) : ∀ a, a < q.2.2 → ∀ b, b < q.2.2 → a ≠ b → (q.2.1 a).2.1 ≠ (q.2.1 b).2.1 := by
  match c, h with
  | 0, h => cases h; exact nmX0
  | 1, h => cases h; exact nmX1
  | 2, h => cases h; exact nmX2
  | 3, h => cases h; exact nmX3
  | 4, h => cases h; exact nmX4
  | 5, h => cases h; exact nmX5
  | 6, h => cases h; exact nmX6
  | 7, h => cases h; exact nmX7
  | 8, h => cases h; exact nmX8
  | 9, h => cases h; exact nmX9
  | 10, h => cases h; exact nmX10
  | k + 11, h => exact absurd (am_cl_lt h) (by omega)
theorem am_nf_ok {c : Nat} {q : vw_C} (h : vwCl[c]? = some q) : q.2.2 = am_nf c := by
  match c, h with
  | 0, h => cases h; rfl
  | 1, h => cases h; rfl
  | 2, h => cases h; rfl
  | 3, h => cases h; rfl
  | 4, h => cases h; rfl
  | 5, h => cases h; rfl
  | 6, h => cases h; rfl
  | 7, h => cases h; rfl
  | 8, h => cases h; rfl
  | 9, h => cases h; rfl
  | 10, h => cases h; rfl
  | k + 11, h => exact absurd (am_cl_lt h) (by omega)
def am_fin (c j : Nat) : Bool := match vwCl[c]? with
  | some q => (q.2.1 j).2.2.2
  | none => true
def am_tys (dA : Nat → ClassId) : List (ClassId × FieldType) := [(dA 0, .int), (dA 1, .byte), (dA 2, .short), (dA 3, .boolean), (dA 4, .long), (dA 5, .object "TapeHouse$Consent")]
/-- the String constant's bytes -/
def am_bW : List Int32 := [108, 101, 116, 32, 107, 101, 101, 112, 32, 109, 97, 115, 107, 32, 105, 102, 32, 111, 114, 32, 97, 110, 100, 32, 105, 110, 32, 107, 105, 110, 100, 32, 117, 115, 101, 32, 97, 103, 101, 32, 100, 101, 97, 100, 32, 112, 105, 101, 99, 101, 32, 110, 97, 109, 101, 115, 32, 111, 119, 110, 32]
abbrev am_AD : Type := (Nat → Nat) × (Nat → Nat)
def am_X (ad : am_AD) (A : Nat → Prop) (U : State) : Prop := vk_S 1 [61] [am_bW] ad.1 ad.2 A U U.heap ∧ vk_R RX6 58 "let keep mask if or and in kind use age dead piece names own " (ad.1 0) U ∧ va_Z "java/lang/String" "COMPACT_STRINGS" "Z" (.int 1) A U U.heap ∧ va_Zq "jdk/internal/util/Preconditions" "SIOOBE_FORMATTER" "Ljava/util/function/BiFunction;" A U U.heap
def am_C (D : va_G) (dA : Nat → ClassId) (ad : am_AD) (A : Nat → Prop) (U : State) : Prop := va_K D vwCl (am_tys dA) U ∧ (∀ w ∈ am_N, va_Nw w U) ∧ va_AO "TapeHouse$Consent" U ∧ am_X ad A U
theorem am_Nw_warm {s U : State} (hW : s.WarmedH U.vm) {w : Cond} (hw : w ∈ am_N) (h : va_Nw w s) : va_Nw w U := by
  have hg := (List.mem_filter.mp hw).2
  cases w <;> first | exact va_Nw.warmF hW h | exact va_Nw.warmM hW h | (simp [am_isN] at hg; done)
theorem am_C.calling {D : va_G} {dA : Nat → ClassId} {ad : am_AD} {A : Nat → Prop} {U : State} {g : JFrame} {mk : MethodId} {a : Array Value} (h : am_C D dA ad A U) : am_C D dA ad A (U.calling g mk a) := by
  obtain ⟨h1, h2, h3, h4, h5, h6, h7⟩ := h
  refine ⟨va_K.moved (u := U) (Vm.Alike.refl U.vm) h1, fun w hw => ?_, va_AO.moved (u := U) (Vm.Alike.refl U.vm) h3, vk_S.moved (u := U) (Vm.Alike.refl U.vm) h4, vk_R.same (u := U) rfl h5, va_Z.moved (u := U) (Vm.Alike.refl U.vm) h6, va_Zq.moved (u := U) (Vm.Alike.refl U.vm) h7⟩
  have hg := (List.mem_filter.mp hw).2
  have h := h2 w hw
  cases w <;> first | exact va_Nw.same (u := U) rfl rfl h | (simp [am_isN] at hg; done)
theorem am_C.callee {D : va_G} {dA : Nat → ClassId} {ad : am_AD} {A A1 : Nat → Prop} {s U : State} {H : Heap} {locs : List Loc} (h : am_C D dA ad A s) (hS : va_S A s.heap H locs) (hA : ∀ q, A1 q → A q) (hU : U.heap = H) (hW : s.WarmedH U.vm) : am_C D dA ad A1 U := by
  obtain ⟨h1, h2, h3, h4, h5, h6, h7⟩ := h
  subst hU
  exact ⟨va_K.moved hW.alike h1, fun w hw => am_Nw_warm hW hw (h2 w hw), va_AO.moved hW.alike h3, ((vk_S.moved hW.alike h4).kept hS.2.1).narrow hA, vk_R.warm hW h5, ((va_Z.moved hW.alike h6).kept hS.2.1).narrow hA, ((va_Zq.moved hW.alike h7).kept hS.2.1).narrow hA⟩
/-! ===== the judgement ===== -/
def am_rm (d mc ms : Nat) : Room := { frames := d, cells := mc, slots := ms, locals := 40 * d }
def am_ww (y : am_MD) : List Cond := .code y.2.1 y.2.2.1 y.2.2.2.1 y.2.2.2.2.1 :: am_G
def am_at (y : am_MD) (pc : Nat) : Option (Instr × Nat) := (y.2.2.2.2.2).lookup pc
def am_S (y : am_MD) (p : Program) (s : State) (m : MethodId) (args : Array Value) (meth : Method) (c : Code) (D : va_G) (dA : Nat → ClassId) (ad : am_AD) (A : Nat → Prop) : Prop :=
  p.tables.exec = Jvm.exec ∧ c.code = y.2.2.1 ∧ c.maxLocals = y.2.2.2.1 ∧ meth.sig.returnType = y.2.2.2.2.1 ∧ meth.locks = false ∧ meth.name = y.2.1.name ∧ s.vm.findClass (am_cn y.1) = some m.cls ∧ (∀ w ∈ am_G, w.before args s = true) ∧ (∀ (pc : Nat) (q : Instr × Nat), am_at y pc = some q → decode y.2.2.1 pc = .ok q) ∧ am_C D dA ad A s ∧ (∀ q, s.heap.size ≤ q → A q)
abbrev am_R : Type := Option Value × Nat × am_I × am_J × am_Q
def am_Qc (D : va_G) (dA : Nat → ClassId) (A : Nat → Prop) (al0 : Nat → Nat) (n0 : Nat) (r : am_R) : Array Value → State → Outcome → State → Prop := fun _ st oc t =>
  (∃ al' : Nat → Nat, (∀ k, k < n0 ∨ r.2.1 ≤ k → al' k = al0 k) ∧ n0 ≤ r.2.1 ∧ oc = .returned (r.1.map (am_cv al')) ∧ va_P D vwCl (am_ws dA al' r.2.1 r.2.2.1 r.2.2.2.1 r.2.2.2.2) t.heap ∧ va_D A (am_ws dA al' r.2.1 r.2.2.1 r.2.2.2.1 r.2.2.2.2)) ∧ va_F A st t
/-- room; what more is known; the aim -/
abbrev am_O : Type := Room × (State → (Nat → Prop) → (Nat → Nat) → Prop) × (List Frame → Array Value → State → va_G → (Nat → ClassId) → (Nat → Prop) → (Nat → Nat) → Nat → State → Prop)
def am_o (d mc ms : Nat) (r : am_R) : am_O := (am_rm d mc ms, fun _ _ _ => True, fun below args s D dA A al0 n0 => MQ below (am_Qc D dA A al0 n0 r) args s mc ms A)
def Gd (y : am_MD) (o : am_O) (kc ks n pc : Nat) (L : List (Option Value)) (st : List Value) (I : am_I) (J : am_J) (Q : am_Q) : Prop :=
  ∀ (p : Program) (l : Launch) (e : Env) (s : State) (m : MethodId) (args : Array Value) (below : List Frame) (meth : Method) (c : Code) (H : Heap) (locs : List Loc) (ls : Array Slot) (D : va_G) (dA : Nat → ClassId) (ad : am_AD) (al al0 : Nat → Nat) (n0 : Nat) (A : Nat → Prop),
    am_S y p s m args meth c D dA ad A → o.2.1 s A al0 → ((∀ k, k < n0 ∨ n ≤ k → al k = al0 k) ∧ n0 ≤ n) → va_P D vwCl (am_ws dA al n I J Q) H → va_D A (am_ws dA al n I J Q) → va_S A s.heap H locs → am_H ls y.2.2.2.1 al L →
    W p l e o.1 s m args below meth c H locs kc ks (o.2.2 below args s D dA A al0 n0) (F0 m pc ls (st.map (am_cv al)))
/-- a method's contract at one start: arguments, memory; answer, memory behind -/
def Cm (y : am_MD) (d mc ms n : Nat) (av : List Value) (I : am_I) (J : am_J) (Q : am_Q) (r : am_R) : Prop :=
  ∀ (l : Launch) (D : va_G) (dA : Nat → ClassId) (ad : am_AD) (al : Nat → Nat) (sz : Nat),
    Met l y.2.1 (am_ww y) (am_rm d mc ms) (va_Pc (av.map (am_cv al)) (fun U => U.heap.size = sz ∧ va_P D vwCl (am_ws dA al n I J Q) U.heap ∧ va_D (fun _ => True) (am_ws dA al n I J Q) ∧ am_C D dA ad (va_A (am_ws dA al n I J Q) sz) U)) (am_Qc D dA (va_A (am_ws dA al n I J Q) sz) al n r) mc ms (va_A (am_ws dA al n I J Q) sz)
/-- the locals with which a method begins -/
def am_e0 : List Value → List (Option Value)
  | [] => []
  | v :: vs => if v.category = 2 then some v :: none :: am_e0 vs else some v :: am_e0 vs
def am_l0 (y : am_MD) (av : List Value) : List (Option Value) := am_e0 av ++ List.replicate (y.2.2.2.1 - (am_e0 av).length) none
theorem am_e0_args {al : Nat → Nat} : ∀ (vs : List Value) (k i : Nat) (v : Value), (am_e0 vs)[i]? = some (some v) → (k + i, am_cv al v) ∈ lv_args k (vs.map (am_cv al))
  | [], k, i, v, h => by simp [am_e0] at h
  | w :: vs, k, i, v, h => by
    rw [List.map_cons, lv_args, am_cv_cat]
    unfold am_e0 at h
    by_cases hc : w.category = 2
    · rw [if_pos hc] at h ⊢
      match i, h with
      | 0, h =>
        simp at h
        subst h
        exact List.mem_cons_self
      | 1, h => simp at h
      | i + 2, h =>
        have h1 := am_e0_args (al := al) vs (k + 2) i v (by simpa using h)
        refine List.mem_cons_of_mem _ ?_
        rw [show k + (i + 2) = k + 2 + i by omega]
        exact h1
    · rw [if_neg hc] at h ⊢
      match i, h with
      | 0, h =>
        simp at h
        subst h
        exact List.mem_cons_self
      | i + 1, h =>
        have h1 := am_e0_args (al := al) vs (k + 1) i v (by simpa using h)
        refine List.mem_cons_of_mem _ ?_
        rw [show k + (i + 1) = k + 1 + i by omega]
        exact h1
theorem am_H0 {y : am_MD} {av : List Value} {al : Nat → Nat} {ls : Array Slot} {nL : Nat} (h : lv_has ls nL (lv_args 0 (av.map (am_cv al)))) : am_H ls nL al (am_l0 y av) := by
  refine ⟨h.1, h.2.1, fun q hq => ?_⟩
  obtain ⟨i, v, h1, h2⟩ := (am_ll_mem _ 0 q).mp hq
  subst h2
  unfold am_l0 at h1
  by_cases hi : i < (am_e0 av).length
  · rw [List.getElem?_append_left hi] at h1
    exact h.2.2 _ (am_e0_args av 0 i v h1)
  · rw [List.getElem?_append_right (by omega)] at h1
    have := List.mem_of_getElem? h1
    have := (List.mem_replicate.mp this).2
    cases this
theorem am_sl_len (vs : List Value) : (lg_sl vs).length = (am_e0 vs).length := by
  induction vs with
  | nil => rfl
  | cons v vs ih =>
    have h : lg_sl (v :: vs) = (if v.category = 2 then [.val v, .second] else [.val v]) ++ lg_sl vs := by
      unfold lg_sl
      rw [List.flatMap_cons]
    unfold am_e0
    rw [h, List.length_append, ih]
    by_cases hc : v.category = 2
    · rw [if_pos hc, if_pos hc]
      simp
      omega
    · rw [if_neg hc, if_neg hc]
      simp
      omega
end
section
theorem gd_iconst {y : am_MD} {o : am_O} {kc ks n pc q : Nat} {L : List (Option Value)} {st : List Value} {I : am_I} {J : am_J} {Q : am_Q} {k : Int} {v : Int32} (hat : am_at y pc = some (.iconst k, 1)) (hq : pc + 1 = q) (hv : Int32.ofInt k = v) (kk : Gd y o kc ks n q L (.int v :: st) I J Q) : Gd y o kc ks n pc L st I J Q := by
  subst hq
  intro p l e s m args below meth c H locs ls D dA ad al al0 n0 A S hkap hal hP hD hS hl
  exact lv_iconst S.1 S.2.1 (S.2.2.2.2.2.2.2.2.1 _ _ hat) hv (kk p l e s m args below meth c H locs ls D dA ad al al0 n0 A S hkap hal hP hD hS hl)
theorem gd_bipush {y : am_MD} {o : am_O} {kc ks n pc q : Nat} {L : List (Option Value)} {st : List Value} {I : am_I} {J : am_J} {Q : am_Q} {k : Int} {v : Int32} (hat : am_at y pc = some (.bipush k, 2)) (hq : pc + 2 = q) (hv : (Int8.ofInt k).toInt32 = v) (kk : Gd y o kc ks n q L (.int v :: st) I J Q) : Gd y o kc ks n pc L st I J Q := by
  subst hq
  intro p l e s m args below meth c H locs ls D dA ad al al0 n0 A S hkap hal hP hD hS hl
  exact lv_bipush S.1 S.2.1 (S.2.2.2.2.2.2.2.2.1 _ _ hat) hv (kk p l e s m args below meth c H locs ls D dA ad al al0 n0 A S hkap hal hP hD hS hl)
theorem gd_sipush {y : am_MD} {o : am_O} {kc ks n pc q : Nat} {L : List (Option Value)} {st : List Value} {I : am_I} {J : am_J} {Q : am_Q} {k : Int} {v : Int32} (hat : am_at y pc = some (.sipush k, 3)) (hq : pc + 3 = q) (hv : (Int16.ofInt k).toInt32 = v) (kk : Gd y o kc ks n q L (.int v :: st) I J Q) : Gd y o kc ks n pc L st I J Q := by
  subst hq
  intro p l e s m args below meth c H locs ls D dA ad al al0 n0 A S hkap hal hP hD hS hl
  exact lv_sipush S.1 S.2.1 (S.2.2.2.2.2.2.2.2.1 _ _ hat) hv (kk p l e s m args below meth c H locs ls D dA ad al al0 n0 A S hkap hal hP hD hS hl)
theorem gd_lconst {y : am_MD} {o : am_O} {kc ks n pc q : Nat} {L : List (Option Value)} {st : List Value} {I : am_I} {J : am_J} {Q : am_Q} {k : Fin 2} {v : Int64} (hat : am_at y pc = some (.lconst k, 1)) (hq : pc + 1 = q) (hv : Int64.ofNat (k : Nat) = v) (kk : Gd y o kc ks n q L (.long v :: st) I J Q) : Gd y o kc ks n pc L st I J Q := by
  subst hq
  intro p l e s m args below meth c H locs ls D dA ad al al0 n0 A S hkap hal hP hD hS hl
  exact lv_lconst S.1 S.2.1 (S.2.2.2.2.2.2.2.2.1 _ _ hat) hv (kk p l e s m args below meth c H locs ls D dA ad al al0 n0 A S hkap hal hP hD hS hl)
theorem gd_null {y : am_MD} {o : am_O} {kc ks n pc q : Nat} {L : List (Option Value)} {st : List Value} {I : am_I} {J : am_J} {Q : am_Q}  (hat : am_at y pc = some (.aconst_null, 1)) (hq : pc + 1 = q) (kk : Gd y o kc ks n q L (.null :: st) I J Q) : Gd y o kc ks n pc L st I J Q := by
  subst hq
  intro p l e s m args below meth c H locs ls D dA ad al al0 n0 A S hkap hal hP hD hS hl
  exact lv_null S.1 S.2.1 (S.2.2.2.2.2.2.2.2.1 _ _ hat) (kk p l e s m args below meth c H locs ls D dA ad al al0 n0 A S hkap hal hP hD hS hl)
theorem gd_iload_n {y : am_MD} {o : am_O} {kc ks n pc q : Nat} {L : List (Option Value)} {st : List Value} {I : am_I} {J : am_J} {Q : am_Q} {k : Fin 4} {x : Int32} (hat : am_at y pc = some (.iload_n k, 1)) (hq : pc + 1 = q) (hL : L[(k : Nat)]? = some (some (.int x))) (kk : Gd y o kc ks n q L (.int x :: st) I J Q) : Gd y o kc ks n pc L st I J Q := by
  subst hq
  intro p l e s m args below meth c H locs ls D dA ad al al0 n0 A S hkap hal hP hD hS hl
  exact lv_iload_n S.1 S.2.1 (S.2.2.2.2.2.2.2.2.1 _ _ hat) rfl (hl.get hL) (kk p l e s m args below meth c H locs ls D dA ad al al0 n0 A S hkap hal hP hD hS hl)
theorem gd_iload {y : am_MD} {o : am_O} {kc ks n pc q : Nat} {L : List (Option Value)} {st : List Value} {I : am_I} {J : am_J} {Q : am_Q} {i : Nat} {x : Int32} (hat : am_at y pc = some (.iload i, 2)) (hq : pc + 2 = q) (hL : L[i]? = some (some (.int x))) (kk : Gd y o kc ks n q L (.int x :: st) I J Q) : Gd y o kc ks n pc L st I J Q := by
  subst hq
  intro p l e s m args below meth c H locs ls D dA ad al al0 n0 A S hkap hal hP hD hS hl
  exact lv_iload S.1 S.2.1 (S.2.2.2.2.2.2.2.2.1 _ _ hat) (hl.get hL) (kk p l e s m args below meth c H locs ls D dA ad al al0 n0 A S hkap hal hP hD hS hl)
theorem gd_lload_n {y : am_MD} {o : am_O} {kc ks n pc q : Nat} {L : List (Option Value)} {st : List Value} {I : am_I} {J : am_J} {Q : am_Q} {k : Fin 4} {x : Int64} (hat : am_at y pc = some (.lload_n k, 1)) (hq : pc + 1 = q) (hL : L[(k : Nat)]? = some (some (.long x))) (kk : Gd y o kc ks n q L (.long x :: st) I J Q) : Gd y o kc ks n pc L st I J Q := by
  subst hq
  intro p l e s m args below meth c H locs ls D dA ad al al0 n0 A S hkap hal hP hD hS hl
  exact lv_lload_n S.1 S.2.1 (S.2.2.2.2.2.2.2.2.1 _ _ hat) rfl (hl.get hL) (kk p l e s m args below meth c H locs ls D dA ad al al0 n0 A S hkap hal hP hD hS hl)
theorem gd_lload {y : am_MD} {o : am_O} {kc ks n pc q : Nat} {L : List (Option Value)} {st : List Value} {I : am_I} {J : am_J} {Q : am_Q} {i : Nat} {x : Int64} (hat : am_at y pc = some (.lload i, 2)) (hq : pc + 2 = q) (hL : L[i]? = some (some (.long x))) (kk : Gd y o kc ks n q L (.long x :: st) I J Q) : Gd y o kc ks n pc L st I J Q := by
  subst hq
  intro p l e s m args below meth c H locs ls D dA ad al al0 n0 A S hkap hal hP hD hS hl
  exact lv_lload S.1 S.2.1 (S.2.2.2.2.2.2.2.2.1 _ _ hat) (hl.get hL) (kk p l e s m args below meth c H locs ls D dA ad al al0 n0 A S hkap hal hP hD hS hl)
theorem gd_aload_n {y : am_MD} {o : am_O} {kc ks n pc q : Nat} {L : List (Option Value)} {st : List Value} {I : am_I} {J : am_J} {Q : am_Q} {k : Fin 4} {x : Nat} (hat : am_at y pc = some (.aload_n k, 1)) (hq : pc + 1 = q) (hL : L[(k : Nat)]? = some (some (.ref x))) (kk : Gd y o kc ks n q L (.ref x :: st) I J Q) : Gd y o kc ks n pc L st I J Q := by
  subst hq
  intro p l e s m args below meth c H locs ls D dA ad al al0 n0 A S hkap hal hP hD hS hl
  exact lv_aload_n S.1 S.2.1 (S.2.2.2.2.2.2.2.2.1 _ _ hat) rfl (hl.get hL) (kk p l e s m args below meth c H locs ls D dA ad al al0 n0 A S hkap hal hP hD hS hl)
theorem gd_aload {y : am_MD} {o : am_O} {kc ks n pc q : Nat} {L : List (Option Value)} {st : List Value} {I : am_I} {J : am_J} {Q : am_Q} {i : Nat} {x : Nat} (hat : am_at y pc = some (.aload i, 2)) (hq : pc + 2 = q) (hL : L[i]? = some (some (.ref x))) (kk : Gd y o kc ks n q L (.ref x :: st) I J Q) : Gd y o kc ks n pc L st I J Q := by
  subst hq
  intro p l e s m args below meth c H locs ls D dA ad al al0 n0 A S hkap hal hP hD hS hl
  exact lv_aload S.1 S.2.1 (S.2.2.2.2.2.2.2.2.1 _ _ hat) (hl.get hL) (kk p l e s m args below meth c H locs ls D dA ad al al0 n0 A S hkap hal hP hD hS hl)
theorem gd_aload_nN {y : am_MD} {o : am_O} {kc ks n pc q : Nat} {L : List (Option Value)} {st : List Value} {I : am_I} {J : am_J} {Q : am_Q} {k : Fin 4} (hat : am_at y pc = some (.aload_n k, 1)) (hq : pc + 1 = q) (hL : L[(k : Nat)]? = some (some .null)) (kk : Gd y o kc ks n q L (.null :: st) I J Q) : Gd y o kc ks n pc L st I J Q := by
  subst hq
  intro p l e s m args below meth c H locs ls D dA ad al al0 n0 A S hkap hal hP hD hS hl
  exact lv_aload_nN S.1 S.2.1 (S.2.2.2.2.2.2.2.2.1 _ _ hat) rfl (hl.get hL) (kk p l e s m args below meth c H locs ls D dA ad al al0 n0 A S hkap hal hP hD hS hl)
theorem gd_aloadN {y : am_MD} {o : am_O} {kc ks n pc q : Nat} {L : List (Option Value)} {st : List Value} {I : am_I} {J : am_J} {Q : am_Q} {i : Nat} (hat : am_at y pc = some (.aload i, 2)) (hq : pc + 2 = q) (hL : L[i]? = some (some .null)) (kk : Gd y o kc ks n q L (.null :: st) I J Q) : Gd y o kc ks n pc L st I J Q := by
  subst hq
  intro p l e s m args below meth c H locs ls D dA ad al al0 n0 A S hkap hal hP hD hS hl
  exact lv_aloadN S.1 S.2.1 (S.2.2.2.2.2.2.2.2.1 _ _ hat) (hl.get hL) (kk p l e s m args below meth c H locs ls D dA ad al al0 n0 A S hkap hal hP hD hS hl)
theorem gd_istore_n {y : am_MD} {o : am_O} {kc ks n pc q : Nat} {L : List (Option Value)} {st : List Value} {I : am_I} {J : am_J} {Q : am_Q} {k : Fin 4} {x : Int32} (hat : am_at y pc = some (.istore_n k, 1)) (hq : pc + 1 = q) (hn : (k : Nat) < y.2.2.2.1) (hnl : am_nl L k = true) (kk : Gd y o kc ks n q (L.set (k : Nat) (some (.int x))) st I J Q) : Gd y o kc ks n pc L (.int x :: st) I J Q := by
  subst hq
  intro p l e s m args below meth c H locs ls D dA ad al al0 n0 A S hkap hal hP hD hS hl
  exact lv_istore_n S.1 S.2.1 (S.2.2.2.2.2.2.2.2.1 _ _ hat) rfl hl hn rfl (fun ls2 hl2 => kk p l e s m args below meth c H locs ls2 D dA ad al al0 n0 A S hkap hal hP hD hS (am_H.st1 (ls := ls) hnl hl2))
theorem gd_istore {y : am_MD} {o : am_O} {kc ks n pc q : Nat} {L : List (Option Value)} {st : List Value} {I : am_I} {J : am_J} {Q : am_Q} {i : Nat} {x : Int32} (hat : am_at y pc = some (.istore i, 2)) (hq : pc + 2 = q) (hn : i < y.2.2.2.1) (hnl : am_nl L i = true) (kk : Gd y o kc ks n q (L.set i (some (.int x))) st I J Q) : Gd y o kc ks n pc L (.int x :: st) I J Q := by
  subst hq
  intro p l e s m args below meth c H locs ls D dA ad al al0 n0 A S hkap hal hP hD hS hl
  exact lv_istore S.1 S.2.1 (S.2.2.2.2.2.2.2.2.1 _ _ hat) hl hn rfl (fun ls2 hl2 => kk p l e s m args below meth c H locs ls2 D dA ad al al0 n0 A S hkap hal hP hD hS (am_H.st1 (ls := ls) hnl hl2))
theorem gd_lstore_n {y : am_MD} {o : am_O} {kc ks n pc q : Nat} {L : List (Option Value)} {st : List Value} {I : am_I} {J : am_J} {Q : am_Q} {k : Fin 4} {x : Int64} (hat : am_at y pc = some (.lstore_n k, 1)) (hq : pc + 1 = q) (hn : (k : Nat) + 1 < y.2.2.2.1) (hnl : am_nl L k = true) (kk : Gd y o kc ks n q ((L.set (k : Nat) (some (.long x))).set ((k : Nat) + 1) none) st I J Q) : Gd y o kc ks n pc L (.long x :: st) I J Q := by
  subst hq
  intro p l e s m args below meth c H locs ls D dA ad al al0 n0 A S hkap hal hP hD hS hl
  exact lv_lstore_n S.1 S.2.1 (S.2.2.2.2.2.2.2.2.1 _ _ hat) rfl hl hn rfl (fun ls2 hl2 => kk p l e s m args below meth c H locs ls2 D dA ad al al0 n0 A S hkap hal hP hD hS (am_H.st2 (ls := ls) hnl hl2))
theorem gd_lstore {y : am_MD} {o : am_O} {kc ks n pc q : Nat} {L : List (Option Value)} {st : List Value} {I : am_I} {J : am_J} {Q : am_Q} {i : Nat} {x : Int64} (hat : am_at y pc = some (.lstore i, 2)) (hq : pc + 2 = q) (hn : i + 1 < y.2.2.2.1) (hnl : am_nl L i = true) (kk : Gd y o kc ks n q ((L.set i (some (.long x))).set (i + 1) none) st I J Q) : Gd y o kc ks n pc L (.long x :: st) I J Q := by
  subst hq
  intro p l e s m args below meth c H locs ls D dA ad al al0 n0 A S hkap hal hP hD hS hl
  exact lv_lstore S.1 S.2.1 (S.2.2.2.2.2.2.2.2.1 _ _ hat) hl hn rfl (fun ls2 hl2 => kk p l e s m args below meth c H locs ls2 D dA ad al al0 n0 A S hkap hal hP hD hS (am_H.st2 (ls := ls) hnl hl2))
theorem gd_astore_n {y : am_MD} {o : am_O} {kc ks n pc q : Nat} {L : List (Option Value)} {st : List Value} {I : am_I} {J : am_J} {Q : am_Q} {k : Fin 4} {x : Nat} (hat : am_at y pc = some (.astore_n k, 1)) (hq : pc + 1 = q) (hn : (k : Nat) < y.2.2.2.1) (hnl : am_nl L k = true) (kk : Gd y o kc ks n q (L.set (k : Nat) (some (.ref x))) st I J Q) : Gd y o kc ks n pc L (.ref x :: st) I J Q := by
  subst hq
  intro p l e s m args below meth c H locs ls D dA ad al al0 n0 A S hkap hal hP hD hS hl
  exact lv_astore_n S.1 S.2.1 (S.2.2.2.2.2.2.2.2.1 _ _ hat) rfl hl hn rfl (fun ls2 hl2 => kk p l e s m args below meth c H locs ls2 D dA ad al al0 n0 A S hkap hal hP hD hS (am_H.st1 (ls := ls) hnl hl2))
theorem gd_astore {y : am_MD} {o : am_O} {kc ks n pc q : Nat} {L : List (Option Value)} {st : List Value} {I : am_I} {J : am_J} {Q : am_Q} {i : Nat} {x : Nat} (hat : am_at y pc = some (.astore i, 2)) (hq : pc + 2 = q) (hn : i < y.2.2.2.1) (hnl : am_nl L i = true) (kk : Gd y o kc ks n q (L.set i (some (.ref x))) st I J Q) : Gd y o kc ks n pc L (.ref x :: st) I J Q := by
  subst hq
  intro p l e s m args below meth c H locs ls D dA ad al al0 n0 A S hkap hal hP hD hS hl
  exact lv_astore S.1 S.2.1 (S.2.2.2.2.2.2.2.2.1 _ _ hat) hl hn rfl (fun ls2 hl2 => kk p l e s m args below meth c H locs ls2 D dA ad al al0 n0 A S hkap hal hP hD hS (am_H.st1 (ls := ls) hnl hl2))
theorem gd_astore_nN {y : am_MD} {o : am_O} {kc ks n pc q : Nat} {L : List (Option Value)} {st : List Value} {I : am_I} {J : am_J} {Q : am_Q} {k : Fin 4} (hat : am_at y pc = some (.astore_n k, 1)) (hq : pc + 1 = q) (hn : (k : Nat) < y.2.2.2.1) (hnl : am_nl L k = true) (kk : Gd y o kc ks n q (L.set (k : Nat) (some .null)) st I J Q) : Gd y o kc ks n pc L (.null :: st) I J Q := by
  subst hq
  intro p l e s m args below meth c H locs ls D dA ad al al0 n0 A S hkap hal hP hD hS hl
  exact lv_astore_nN S.1 S.2.1 (S.2.2.2.2.2.2.2.2.1 _ _ hat) rfl hl hn rfl (fun ls2 hl2 => kk p l e s m args below meth c H locs ls2 D dA ad al al0 n0 A S hkap hal hP hD hS (am_H.st1 (ls := ls) (v := .null) hnl hl2))
theorem gd_astoreN {y : am_MD} {o : am_O} {kc ks n pc q : Nat} {L : List (Option Value)} {st : List Value} {I : am_I} {J : am_J} {Q : am_Q} {i : Nat} (hat : am_at y pc = some (.astore i, 2)) (hq : pc + 2 = q) (hn : i < y.2.2.2.1) (hnl : am_nl L i = true) (kk : Gd y o kc ks n q (L.set i (some .null)) st I J Q) : Gd y o kc ks n pc L (.null :: st) I J Q := by
  subst hq
  intro p l e s m args below meth c H locs ls D dA ad al al0 n0 A S hkap hal hP hD hS hl
  exact lv_astoreN S.1 S.2.1 (S.2.2.2.2.2.2.2.2.1 _ _ hat) hl hn rfl (fun ls2 hl2 => kk p l e s m args below meth c H locs ls2 D dA ad al al0 n0 A S hkap hal hP hD hS (am_H.st1 (ls := ls) (v := .null) hnl hl2))
theorem gd_iinc {y : am_MD} {o : am_O} {kc ks n pc q : Nat} {L : List (Option Value)} {st : List Value} {I : am_I} {J : am_J} {Q : am_Q} {i : Nat} {k : Int} {x v : Int32} (hat : am_at y pc = some (.iinc i k, 3)) (hq : pc + 3 = q) (hL : L[i]? = some (some (.int x))) (hv : x + Int32.ofInt k = v) (hn : i < y.2.2.2.1) (hnl : am_nl L i = true) (kk : Gd y o kc ks n q (L.set i (some (.int v))) st I J Q) : Gd y o kc ks n pc L st I J Q := by
  subst hq
  intro p l e s m args below meth c H locs ls D dA ad al al0 n0 A S hkap hal hP hD hS hl
  obtain ⟨j, hj⟩ := List.getElem?_of_mem (am_ll_in (al := al) hL)
  exact lv_iinc (k := j) (v := v) S.1 S.2.1 (S.2.2.2.2.2.2.2.2.1 _ _ hat) hl hj hv hn rfl (fun ls2 hl2 => kk p l e s m args below meth c H locs ls2 D dA ad al al0 n0 A S hkap hal hP hD hS (am_H.st1 (ls := ls) (v := .int v) hnl hl2))
theorem gd_iadd {y : am_MD} {o : am_O} {kc ks n pc q : Nat} {L : List (Option Value)} {st : List Value} {I : am_I} {J : am_J} {Q : am_Q} {x z : Int32} (hat : am_at y pc = some (.iadd, 1)) (hq : pc + 1 = q) (kk : Gd y o kc ks n q L (.int (x + z) :: st) I J Q) : Gd y o kc ks n pc L (.int z :: .int x :: st) I J Q := by
  subst hq
  intro p l e s m args below meth c H locs ls D dA ad al al0 n0 A S hkap hal hP hD hS hl
  exact lv_iadd S.1 S.2.1 (S.2.2.2.2.2.2.2.2.1 _ _ hat) (kk p l e s m args below meth c H locs ls D dA ad al al0 n0 A S hkap hal hP hD hS hl)
theorem gd_isub {y : am_MD} {o : am_O} {kc ks n pc q : Nat} {L : List (Option Value)} {st : List Value} {I : am_I} {J : am_J} {Q : am_Q} {x z : Int32} (hat : am_at y pc = some (.isub, 1)) (hq : pc + 1 = q) (kk : Gd y o kc ks n q L (.int (x - z) :: st) I J Q) : Gd y o kc ks n pc L (.int z :: .int x :: st) I J Q := by
  subst hq
  intro p l e s m args below meth c H locs ls D dA ad al al0 n0 A S hkap hal hP hD hS hl
  exact lv_isub S.1 S.2.1 (S.2.2.2.2.2.2.2.2.1 _ _ hat) (kk p l e s m args below meth c H locs ls D dA ad al al0 n0 A S hkap hal hP hD hS hl)
theorem gd_imul {y : am_MD} {o : am_O} {kc ks n pc q : Nat} {L : List (Option Value)} {st : List Value} {I : am_I} {J : am_J} {Q : am_Q} {x z : Int32} (hat : am_at y pc = some (.imul, 1)) (hq : pc + 1 = q) (kk : Gd y o kc ks n q L (.int (x * z) :: st) I J Q) : Gd y o kc ks n pc L (.int z :: .int x :: st) I J Q := by
  subst hq
  intro p l e s m args below meth c H locs ls D dA ad al al0 n0 A S hkap hal hP hD hS hl
  exact lv_imul S.1 S.2.1 (S.2.2.2.2.2.2.2.2.1 _ _ hat) (kk p l e s m args below meth c H locs ls D dA ad al al0 n0 A S hkap hal hP hD hS hl)
theorem gd_iand {y : am_MD} {o : am_O} {kc ks n pc q : Nat} {L : List (Option Value)} {st : List Value} {I : am_I} {J : am_J} {Q : am_Q} {x z : Int32} (hat : am_at y pc = some (.iand, 1)) (hq : pc + 1 = q) (kk : Gd y o kc ks n q L (.int (x &&& z) :: st) I J Q) : Gd y o kc ks n pc L (.int z :: .int x :: st) I J Q := by
  subst hq
  intro p l e s m args below meth c H locs ls D dA ad al al0 n0 A S hkap hal hP hD hS hl
  exact lv_iand S.1 S.2.1 (S.2.2.2.2.2.2.2.2.1 _ _ hat) (kk p l e s m args below meth c H locs ls D dA ad al al0 n0 A S hkap hal hP hD hS hl)
theorem gd_ior {y : am_MD} {o : am_O} {kc ks n pc q : Nat} {L : List (Option Value)} {st : List Value} {I : am_I} {J : am_J} {Q : am_Q} {x z : Int32} (hat : am_at y pc = some (.ior, 1)) (hq : pc + 1 = q) (kk : Gd y o kc ks n q L (.int (x ||| z) :: st) I J Q) : Gd y o kc ks n pc L (.int z :: .int x :: st) I J Q := by
  subst hq
  intro p l e s m args below meth c H locs ls D dA ad al al0 n0 A S hkap hal hP hD hS hl
  exact lv_ior S.1 S.2.1 (S.2.2.2.2.2.2.2.2.1 _ _ hat) (kk p l e s m args below meth c H locs ls D dA ad al al0 n0 A S hkap hal hP hD hS hl)
theorem gd_ladd {y : am_MD} {o : am_O} {kc ks n pc q : Nat} {L : List (Option Value)} {st : List Value} {I : am_I} {J : am_J} {Q : am_Q} {x z : Int64} (hat : am_at y pc = some (.ladd, 1)) (hq : pc + 1 = q) (kk : Gd y o kc ks n q L (.long (x + z) :: st) I J Q) : Gd y o kc ks n pc L (.long z :: .long x :: st) I J Q := by
  subst hq
  intro p l e s m args below meth c H locs ls D dA ad al al0 n0 A S hkap hal hP hD hS hl
  exact lv_ladd S.1 S.2.1 (S.2.2.2.2.2.2.2.2.1 _ _ hat) (kk p l e s m args below meth c H locs ls D dA ad al al0 n0 A S hkap hal hP hD hS hl)
theorem gd_lmul {y : am_MD} {o : am_O} {kc ks n pc q : Nat} {L : List (Option Value)} {st : List Value} {I : am_I} {J : am_J} {Q : am_Q} {x z : Int64} (hat : am_at y pc = some (.lmul, 1)) (hq : pc + 1 = q) (kk : Gd y o kc ks n q L (.long (x * z) :: st) I J Q) : Gd y o kc ks n pc L (.long z :: .long x :: st) I J Q := by
  subst hq
  intro p l e s m args below meth c H locs ls D dA ad al al0 n0 A S hkap hal hP hD hS hl
  exact lv_lmul S.1 S.2.1 (S.2.2.2.2.2.2.2.2.1 _ _ hat) (kk p l e s m args below meth c H locs ls D dA ad al al0 n0 A S hkap hal hP hD hS hl)
theorem gd_i2b {y : am_MD} {o : am_O} {kc ks n pc q : Nat} {L : List (Option Value)} {st : List Value} {I : am_I} {J : am_J} {Q : am_Q} {x : Int32} (hat : am_at y pc = some (.i2b, 1)) (hq : pc + 1 = q) (kk : Gd y o kc ks n q L (.int (x.toInt8.toInt32) :: st) I J Q) : Gd y o kc ks n pc L (.int x :: st) I J Q := by
  subst hq
  intro p l e s m args below meth c H locs ls D dA ad al al0 n0 A S hkap hal hP hD hS hl
  exact lv_i2b S.1 S.2.1 (S.2.2.2.2.2.2.2.2.1 _ _ hat) rfl (kk p l e s m args below meth c H locs ls D dA ad al al0 n0 A S hkap hal hP hD hS hl)
theorem gd_i2s {y : am_MD} {o : am_O} {kc ks n pc q : Nat} {L : List (Option Value)} {st : List Value} {I : am_I} {J : am_J} {Q : am_Q} {x : Int32} (hat : am_at y pc = some (.i2s, 1)) (hq : pc + 1 = q) (kk : Gd y o kc ks n q L (.int (x.toInt16.toInt32) :: st) I J Q) : Gd y o kc ks n pc L (.int x :: st) I J Q := by
  subst hq
  intro p l e s m args below meth c H locs ls D dA ad al al0 n0 A S hkap hal hP hD hS hl
  exact lv_i2s S.1 S.2.1 (S.2.2.2.2.2.2.2.2.1 _ _ hat) rfl (kk p l e s m args below meth c H locs ls D dA ad al al0 n0 A S hkap hal hP hD hS hl)
theorem gd_i2l {y : am_MD} {o : am_O} {kc ks n pc q : Nat} {L : List (Option Value)} {st : List Value} {I : am_I} {J : am_J} {Q : am_Q} {x : Int32} (hat : am_at y pc = some (.i2l, 1)) (hq : pc + 1 = q) (kk : Gd y o kc ks n q L (.long (x.toInt64) :: st) I J Q) : Gd y o kc ks n pc L (.int x :: st) I J Q := by
  subst hq
  intro p l e s m args below meth c H locs ls D dA ad al al0 n0 A S hkap hal hP hD hS hl
  exact lv_i2l S.1 S.2.1 (S.2.2.2.2.2.2.2.2.1 _ _ hat) rfl (kk p l e s m args below meth c H locs ls D dA ad al al0 n0 A S hkap hal hP hD hS hl)
theorem gd_i2c {y : am_MD} {o : am_O} {kc ks n pc q : Nat} {L : List (Option Value)} {st : List Value} {I : am_I} {J : am_J} {Q : am_Q} {x : Int32} (hat : am_at y pc = some (.i2c, 1)) (hq : pc + 1 = q) (kk : Gd y o kc ks n q L (.int ((x.toUInt32 % 65536).toInt32) :: st) I J Q) : Gd y o kc ks n pc L (.int x :: st) I J Q := by
  subst hq
  intro p l e s m args below meth c H locs ls D dA ad al al0 n0 A S hkap hal hP hD hS hl
  exact lv_i2c S.1 S.2.1 (S.2.2.2.2.2.2.2.2.1 _ _ hat) rfl (kk p l e s m args below meth c H locs ls D dA ad al al0 n0 A S hkap hal hP hD hS hl)
theorem gd_iushr {y : am_MD} {o : am_O} {kc ks n pc q : Nat} {L : List (Option Value)} {st : List Value} {I : am_I} {J : am_J} {Q : am_Q} {x z : Int32} (hat : am_at y pc = some (.iushr, 1)) (hq : pc + 1 = q) (kk : Gd y o kc ks n q L (.int (x.toUInt32 >>> (z.toUInt32 &&& Int32.toUInt32 31)).toInt32 :: st) I J Q) : Gd y o kc ks n pc L (.int z :: .int x :: st) I J Q := by
  subst hq
  intro p l e s m args below meth c H locs ls D dA ad al al0 n0 A S hkap hal hP hD hS hl
  exact lv_iushr S.1 S.2.1 (S.2.2.2.2.2.2.2.2.1 _ _ hat) rfl (kk p l e s m args below meth c H locs ls D dA ad al al0 n0 A S hkap hal hP hD hS hl)
theorem gd_dup {y : am_MD} {o : am_O} {kc ks n pc q : Nat} {L : List (Option Value)} {st : List Value} {I : am_I} {J : am_J} {Q : am_Q} {v : Value} (hat : am_at y pc = some (.dup, 1)) (hq : pc + 1 = q) (hv : v.category = 1) (kk : Gd y o kc ks n q L (v :: v :: st) I J Q) : Gd y o kc ks n pc L (v :: st) I J Q := by
  subst hq
  intro p l e s m args below meth c H locs ls D dA ad al al0 n0 A S hkap hal hP hD hS hl
  exact lv_dup S.1 S.2.1 (S.2.2.2.2.2.2.2.2.1 _ _ hat) ((am_cv_cat al v).trans hv) (kk p l e s m args below meth c H locs ls D dA ad al al0 n0 A S hkap hal hP hD hS hl)
theorem gd_pop {y : am_MD} {o : am_O} {kc ks n pc q : Nat} {L : List (Option Value)} {st : List Value} {I : am_I} {J : am_J} {Q : am_Q} {v : Value} (hat : am_at y pc = some (.pop, 1)) (hq : pc + 1 = q) (hv : v.category = 1) (kk : Gd y o kc ks n q L st I J Q) : Gd y o kc ks n pc L (v :: st) I J Q := by
  subst hq
  intro p l e s m args below meth c H locs ls D dA ad al al0 n0 A S hkap hal hP hD hS hl
  exact lv_pop S.1 S.2.1 (S.2.2.2.2.2.2.2.2.1 _ _ hat) ((am_cv_cat al v).trans hv) (kk p l e s m args below meth c H locs ls D dA ad al al0 n0 A S hkap hal hP hD hS hl)
theorem gd_dup2 {y : am_MD} {o : am_O} {kc ks n pc q : Nat} {L : List (Option Value)} {st : List Value} {I : am_I} {J : am_J} {Q : am_Q} {v w : Value} (hat : am_at y pc = some (.dup2, 1)) (hq : pc + 1 = q) (hv : v.category = 1) (hw : w.category = 1) (kk : Gd y o kc ks n q L (v :: w :: v :: w :: st) I J Q) : Gd y o kc ks n pc L (v :: w :: st) I J Q := by
  subst hq
  intro p l e s m args below meth c H locs ls D dA ad al al0 n0 A S hkap hal hP hD hS hl
  exact lv_dup2_11 S.1 S.2.1 (S.2.2.2.2.2.2.2.2.1 _ _ hat) ((am_cv_cat al v).trans hv) ((am_cv_cat al w).trans hw) (kk p l e s m args below meth c H locs ls D dA ad al al0 n0 A S hkap hal hP hD hS hl)
theorem gd_if_eq {y : am_MD} {o : am_O} {kc ks n pc q : Nat} {L : List (Option Value)} {st : List Value} {I : am_I} {J : am_J} {Q : am_Q} {r : Nat} {x : Int32} {off : Int} (hat : am_at y pc = some (.ifCond .eq off, 3)) (hq : pc + 3 = q) (hr : (pc : Int) + off = (r : Int)) (kt : x = 0 → Gd y o kc ks n r L st I J Q) (kf : ¬ x = 0 → Gd y o kc ks n q L st I J Q) : Gd y o kc ks n pc L (.int x :: st) I J Q := by
  subst hq
  intro p l e s m args below meth c H locs ls D dA ad al al0 n0 A S hkap hal hP hD hS hl
  exact lv_if_eq S.1 S.2.1 (S.2.2.2.2.2.2.2.2.1 _ _ hat) hr (fun hc => kt hc p l e s m args below meth c H locs ls D dA ad al al0 n0 A S hkap hal hP hD hS hl) (fun hc => kf hc p l e s m args below meth c H locs ls D dA ad al al0 n0 A S hkap hal hP hD hS hl)
theorem gd_icmp_eq {y : am_MD} {o : am_O} {kc ks n pc q : Nat} {L : List (Option Value)} {st : List Value} {I : am_I} {J : am_J} {Q : am_Q} {r : Nat} {x z : Int32} {off : Int} (hat : am_at y pc = some (.if_icmp .eq off, 3)) (hq : pc + 3 = q) (hr : (pc : Int) + off = (r : Int)) (kt : x = z → Gd y o kc ks n r L st I J Q) (kf : ¬ x = z → Gd y o kc ks n q L st I J Q) : Gd y o kc ks n pc L (.int z :: .int x :: st) I J Q := by
  subst hq
  intro p l e s m args below meth c H locs ls D dA ad al al0 n0 A S hkap hal hP hD hS hl
  exact lv_icmp_eq S.1 S.2.1 (S.2.2.2.2.2.2.2.2.1 _ _ hat) hr (fun hc => kt hc p l e s m args below meth c H locs ls D dA ad al al0 n0 A S hkap hal hP hD hS hl) (fun hc => kf hc p l e s m args below meth c H locs ls D dA ad al al0 n0 A S hkap hal hP hD hS hl)
theorem gd_if_ne {y : am_MD} {o : am_O} {kc ks n pc q : Nat} {L : List (Option Value)} {st : List Value} {I : am_I} {J : am_J} {Q : am_Q} {r : Nat} {x : Int32} {off : Int} (hat : am_at y pc = some (.ifCond .ne off, 3)) (hq : pc + 3 = q) (hr : (pc : Int) + off = (r : Int)) (kt : ¬ x = 0 → Gd y o kc ks n r L st I J Q) (kf : x = 0 → Gd y o kc ks n q L st I J Q) : Gd y o kc ks n pc L (.int x :: st) I J Q := by
  subst hq
  intro p l e s m args below meth c H locs ls D dA ad al al0 n0 A S hkap hal hP hD hS hl
  exact lv_if_ne S.1 S.2.1 (S.2.2.2.2.2.2.2.2.1 _ _ hat) hr (fun hc => kt hc p l e s m args below meth c H locs ls D dA ad al al0 n0 A S hkap hal hP hD hS hl) (fun hc => kf hc p l e s m args below meth c H locs ls D dA ad al al0 n0 A S hkap hal hP hD hS hl)
theorem gd_icmp_ne {y : am_MD} {o : am_O} {kc ks n pc q : Nat} {L : List (Option Value)} {st : List Value} {I : am_I} {J : am_J} {Q : am_Q} {r : Nat} {x z : Int32} {off : Int} (hat : am_at y pc = some (.if_icmp .ne off, 3)) (hq : pc + 3 = q) (hr : (pc : Int) + off = (r : Int)) (kt : ¬ x = z → Gd y o kc ks n r L st I J Q) (kf : x = z → Gd y o kc ks n q L st I J Q) : Gd y o kc ks n pc L (.int z :: .int x :: st) I J Q := by
  subst hq
  intro p l e s m args below meth c H locs ls D dA ad al al0 n0 A S hkap hal hP hD hS hl
  exact lv_icmp_ne S.1 S.2.1 (S.2.2.2.2.2.2.2.2.1 _ _ hat) hr (fun hc => kt hc p l e s m args below meth c H locs ls D dA ad al al0 n0 A S hkap hal hP hD hS hl) (fun hc => kf hc p l e s m args below meth c H locs ls D dA ad al al0 n0 A S hkap hal hP hD hS hl)
theorem gd_if_lt {y : am_MD} {o : am_O} {kc ks n pc q : Nat} {L : List (Option Value)} {st : List Value} {I : am_I} {J : am_J} {Q : am_Q} {r : Nat} {x : Int32} {off : Int} (hat : am_at y pc = some (.ifCond .lt off, 3)) (hq : pc + 3 = q) (hr : (pc : Int) + off = (r : Int)) (kt : x < 0 → Gd y o kc ks n r L st I J Q) (kf : ¬ x < 0 → Gd y o kc ks n q L st I J Q) : Gd y o kc ks n pc L (.int x :: st) I J Q := by
  subst hq
  intro p l e s m args below meth c H locs ls D dA ad al al0 n0 A S hkap hal hP hD hS hl
  exact lv_if_lt S.1 S.2.1 (S.2.2.2.2.2.2.2.2.1 _ _ hat) hr (fun hc => kt hc p l e s m args below meth c H locs ls D dA ad al al0 n0 A S hkap hal hP hD hS hl) (fun hc => kf hc p l e s m args below meth c H locs ls D dA ad al al0 n0 A S hkap hal hP hD hS hl)
theorem gd_icmp_lt {y : am_MD} {o : am_O} {kc ks n pc q : Nat} {L : List (Option Value)} {st : List Value} {I : am_I} {J : am_J} {Q : am_Q} {r : Nat} {x z : Int32} {off : Int} (hat : am_at y pc = some (.if_icmp .lt off, 3)) (hq : pc + 3 = q) (hr : (pc : Int) + off = (r : Int)) (kt : x < z → Gd y o kc ks n r L st I J Q) (kf : ¬ x < z → Gd y o kc ks n q L st I J Q) : Gd y o kc ks n pc L (.int z :: .int x :: st) I J Q := by
  subst hq
  intro p l e s m args below meth c H locs ls D dA ad al al0 n0 A S hkap hal hP hD hS hl
  exact lv_icmp_lt S.1 S.2.1 (S.2.2.2.2.2.2.2.2.1 _ _ hat) hr (fun hc => kt hc p l e s m args below meth c H locs ls D dA ad al al0 n0 A S hkap hal hP hD hS hl) (fun hc => kf hc p l e s m args below meth c H locs ls D dA ad al al0 n0 A S hkap hal hP hD hS hl)
theorem gd_if_ge {y : am_MD} {o : am_O} {kc ks n pc q : Nat} {L : List (Option Value)} {st : List Value} {I : am_I} {J : am_J} {Q : am_Q} {r : Nat} {x : Int32} {off : Int} (hat : am_at y pc = some (.ifCond .ge off, 3)) (hq : pc + 3 = q) (hr : (pc : Int) + off = (r : Int)) (kt : 0 ≤ x → Gd y o kc ks n r L st I J Q) (kf : ¬ 0 ≤ x → Gd y o kc ks n q L st I J Q) : Gd y o kc ks n pc L (.int x :: st) I J Q := by
  subst hq
  intro p l e s m args below meth c H locs ls D dA ad al al0 n0 A S hkap hal hP hD hS hl
  exact lv_if_ge S.1 S.2.1 (S.2.2.2.2.2.2.2.2.1 _ _ hat) hr (fun hc => kt hc p l e s m args below meth c H locs ls D dA ad al al0 n0 A S hkap hal hP hD hS hl) (fun hc => kf hc p l e s m args below meth c H locs ls D dA ad al al0 n0 A S hkap hal hP hD hS hl)
theorem gd_icmp_ge {y : am_MD} {o : am_O} {kc ks n pc q : Nat} {L : List (Option Value)} {st : List Value} {I : am_I} {J : am_J} {Q : am_Q} {r : Nat} {x z : Int32} {off : Int} (hat : am_at y pc = some (.if_icmp .ge off, 3)) (hq : pc + 3 = q) (hr : (pc : Int) + off = (r : Int)) (kt : z ≤ x → Gd y o kc ks n r L st I J Q) (kf : ¬ z ≤ x → Gd y o kc ks n q L st I J Q) : Gd y o kc ks n pc L (.int z :: .int x :: st) I J Q := by
  subst hq
  intro p l e s m args below meth c H locs ls D dA ad al al0 n0 A S hkap hal hP hD hS hl
  exact lv_icmp_ge S.1 S.2.1 (S.2.2.2.2.2.2.2.2.1 _ _ hat) hr (fun hc => kt hc p l e s m args below meth c H locs ls D dA ad al al0 n0 A S hkap hal hP hD hS hl) (fun hc => kf hc p l e s m args below meth c H locs ls D dA ad al al0 n0 A S hkap hal hP hD hS hl)
theorem gd_if_gt {y : am_MD} {o : am_O} {kc ks n pc q : Nat} {L : List (Option Value)} {st : List Value} {I : am_I} {J : am_J} {Q : am_Q} {r : Nat} {x : Int32} {off : Int} (hat : am_at y pc = some (.ifCond .gt off, 3)) (hq : pc + 3 = q) (hr : (pc : Int) + off = (r : Int)) (kt : 0 < x → Gd y o kc ks n r L st I J Q) (kf : ¬ 0 < x → Gd y o kc ks n q L st I J Q) : Gd y o kc ks n pc L (.int x :: st) I J Q := by
  subst hq
  intro p l e s m args below meth c H locs ls D dA ad al al0 n0 A S hkap hal hP hD hS hl
  exact lv_if_gt S.1 S.2.1 (S.2.2.2.2.2.2.2.2.1 _ _ hat) hr (fun hc => kt hc p l e s m args below meth c H locs ls D dA ad al al0 n0 A S hkap hal hP hD hS hl) (fun hc => kf hc p l e s m args below meth c H locs ls D dA ad al al0 n0 A S hkap hal hP hD hS hl)
theorem gd_icmp_gt {y : am_MD} {o : am_O} {kc ks n pc q : Nat} {L : List (Option Value)} {st : List Value} {I : am_I} {J : am_J} {Q : am_Q} {r : Nat} {x z : Int32} {off : Int} (hat : am_at y pc = some (.if_icmp .gt off, 3)) (hq : pc + 3 = q) (hr : (pc : Int) + off = (r : Int)) (kt : z < x → Gd y o kc ks n r L st I J Q) (kf : ¬ z < x → Gd y o kc ks n q L st I J Q) : Gd y o kc ks n pc L (.int z :: .int x :: st) I J Q := by
  subst hq
  intro p l e s m args below meth c H locs ls D dA ad al al0 n0 A S hkap hal hP hD hS hl
  exact lv_icmp_gt S.1 S.2.1 (S.2.2.2.2.2.2.2.2.1 _ _ hat) hr (fun hc => kt hc p l e s m args below meth c H locs ls D dA ad al al0 n0 A S hkap hal hP hD hS hl) (fun hc => kf hc p l e s m args below meth c H locs ls D dA ad al al0 n0 A S hkap hal hP hD hS hl)
theorem gd_if_le {y : am_MD} {o : am_O} {kc ks n pc q : Nat} {L : List (Option Value)} {st : List Value} {I : am_I} {J : am_J} {Q : am_Q} {r : Nat} {x : Int32} {off : Int} (hat : am_at y pc = some (.ifCond .le off, 3)) (hq : pc + 3 = q) (hr : (pc : Int) + off = (r : Int)) (kt : x ≤ 0 → Gd y o kc ks n r L st I J Q) (kf : ¬ x ≤ 0 → Gd y o kc ks n q L st I J Q) : Gd y o kc ks n pc L (.int x :: st) I J Q := by
  subst hq
  intro p l e s m args below meth c H locs ls D dA ad al al0 n0 A S hkap hal hP hD hS hl
  exact lv_if_le S.1 S.2.1 (S.2.2.2.2.2.2.2.2.1 _ _ hat) hr (fun hc => kt hc p l e s m args below meth c H locs ls D dA ad al al0 n0 A S hkap hal hP hD hS hl) (fun hc => kf hc p l e s m args below meth c H locs ls D dA ad al al0 n0 A S hkap hal hP hD hS hl)
theorem gd_icmp_le {y : am_MD} {o : am_O} {kc ks n pc q : Nat} {L : List (Option Value)} {st : List Value} {I : am_I} {J : am_J} {Q : am_Q} {r : Nat} {x z : Int32} {off : Int} (hat : am_at y pc = some (.if_icmp .le off, 3)) (hq : pc + 3 = q) (hr : (pc : Int) + off = (r : Int)) (kt : x ≤ z → Gd y o kc ks n r L st I J Q) (kf : ¬ x ≤ z → Gd y o kc ks n q L st I J Q) : Gd y o kc ks n pc L (.int z :: .int x :: st) I J Q := by
  subst hq
  intro p l e s m args below meth c H locs ls D dA ad al al0 n0 A S hkap hal hP hD hS hl
  exact lv_icmp_le S.1 S.2.1 (S.2.2.2.2.2.2.2.2.1 _ _ hat) hr (fun hc => kt hc p l e s m args below meth c H locs ls D dA ad al al0 n0 A S hkap hal hP hD hS hl) (fun hc => kf hc p l e s m args below meth c H locs ls D dA ad al al0 n0 A S hkap hal hP hD hS hl)
theorem gd_ishl {y : am_MD} {o : am_O} {kc ks n pc q : Nat} {L : List (Option Value)} {st : List Value} {I : am_I} {J : am_J} {Q : am_Q} {x z : Int32} (hat : am_at y pc = some (.ishl, 1)) (hq : pc + 1 = q) (kk : Gd y o kc ks n q L (.int (x <<< (z &&& 31)) :: st) I J Q) : Gd y o kc ks n pc L (.int z :: .int x :: st) I J Q := by
  subst hq
  intro p l e s m args below meth c H locs ls D dA ad al al0 n0 A S hkap hal hP hD hS hl
  exact lv_ishl S.1 S.2.1 (S.2.2.2.2.2.2.2.2.1 _ _ hat) (kk p l e s m args below meth c H locs ls D dA ad al al0 n0 A S hkap hal hP hD hS hl)
theorem gd_ishr {y : am_MD} {o : am_O} {kc ks n pc q : Nat} {L : List (Option Value)} {st : List Value} {I : am_I} {J : am_J} {Q : am_Q} {x z : Int32} (hat : am_at y pc = some (.ishr, 1)) (hq : pc + 1 = q) (kk : Gd y o kc ks n q L (.int (x >>> (z &&& 31)) :: st) I J Q) : Gd y o kc ks n pc L (.int z :: .int x :: st) I J Q := by
  subst hq
  intro p l e s m args below meth c H locs ls D dA ad al al0 n0 A S hkap hal hP hD hS hl
  exact lv_ishr S.1 S.2.1 (S.2.2.2.2.2.2.2.2.1 _ _ hat) (kk p l e s m args below meth c H locs ls D dA ad al al0 n0 A S hkap hal hP hD hS hl)
theorem gd_lcmp {y : am_MD} {o : am_O} {kc ks n pc q : Nat} {L : List (Option Value)} {st : List Value} {I : am_I} {J : am_J} {Q : am_Q} {x z : Int64} (hat : am_at y pc = some (.lcmp, 1)) (hq : pc + 1 = q) (kk : Gd y o kc ks n q L (.int (lg_cmp x z) :: st) I J Q) : Gd y o kc ks n pc L (.long z :: .long x :: st) I J Q := by
  subst hq
  intro p l e s m args below meth c H locs ls D dA ad al al0 n0 A S hkap hal hP hD hS hl
  exact W.lcmp S.1 S.2.1 (S.2.2.2.2.2.2.2.2.1 _ _ hat) (kk p l e s m args below meth c H locs ls D dA ad al al0 n0 A S hkap hal hP hD hS hl)
theorem gd_goto {y : am_MD} {o : am_O} {kc ks n pc q : Nat} {L : List (Option Value)} {st : List Value} {I : am_I} {J : am_J} {Q : am_Q} {off : Int} (hat : am_at y pc = some (.goto off, 3)) (hr : (pc : Int) + off = (q : Int)) (kk : Gd y o kc ks n q L st I J Q) : Gd y o kc ks n pc L st I J Q := by
  intro p l e s m args below meth c H locs ls D dA ad al al0 n0 A S hkap hal hP hD hS hl
  exact lv_goto S.1 S.2.1 (S.2.2.2.2.2.2.2.2.1 _ _ hat) hr (kk p l e s m args below meth c H locs ls D dA ad al al0 n0 A S hkap hal hP hD hS hl)
theorem gd_ifnonnull {y : am_MD} {o : am_O} {kc ks n pc q : Nat} {L : List (Option Value)} {st : List Value} {I : am_I} {J : am_J} {Q : am_Q} {x : Nat} {off : Int} (hat : am_at y pc = some (.ifnonnull off, 3)) (hr : (pc : Int) + off = (q : Int)) (kk : Gd y o kc ks n q L st I J Q) : Gd y o kc ks n pc L (.ref x :: st) I J Q := by
  intro p l e s m args below meth c H locs ls D dA ad al al0 n0 A S hkap hal hP hD hS hl
  exact lv_ifnonnull S.1 S.2.1 (S.2.2.2.2.2.2.2.2.1 _ _ hat) hr (kk p l e s m args below meth c H locs ls D dA ad al al0 n0 A S hkap hal hP hD hS hl)
theorem gd_ifnull {y : am_MD} {o : am_O} {kc ks n pc q : Nat} {L : List (Option Value)} {st : List Value} {I : am_I} {J : am_J} {Q : am_Q} {x : Nat} {off : Int} (hat : am_at y pc = some (.ifnull off, 3)) (hq : pc + 3 = q) (kk : Gd y o kc ks n q L st I J Q) : Gd y o kc ks n pc L (.ref x :: st) I J Q := by
  subst hq
  intro p l e s m args below meth c H locs ls D dA ad al al0 n0 A S hkap hal hP hD hS hl
  exact lv_ifnull S.1 S.2.1 (S.2.2.2.2.2.2.2.2.1 _ _ hat) (kk p l e s m args below meth c H locs ls D dA ad al al0 n0 A S hkap hal hP hD hS hl)
theorem gd_ifnullN {y : am_MD} {o : am_O} {kc ks n pc q : Nat} {L : List (Option Value)} {st : List Value} {I : am_I} {J : am_J} {Q : am_Q} {x : Nat} {off : Int} (hat : am_at y pc = some (.ifnull off, 3)) (hr : (pc : Int) + off = (q : Int)) (kk : Gd y o kc ks n q L st I J Q) : Gd y o kc ks n pc L (.null :: st) I J Q := by
  intro p l e s m args below meth c H locs ls D dA ad al al0 n0 A S hkap hal hP hD hS hl
  exact lv_ifnullN S.1 S.2.1 (S.2.2.2.2.2.2.2.2.1 _ _ hat) hr (kk p l e s m args below meth c H locs ls D dA ad al al0 n0 A S hkap hal hP hD hS hl)
theorem gd_ifnonnullN {y : am_MD} {o : am_O} {kc ks n pc q : Nat} {L : List (Option Value)} {st : List Value} {I : am_I} {J : am_J} {Q : am_Q} {x : Nat} {off : Int} (hat : am_at y pc = some (.ifnonnull off, 3)) (hq : pc + 3 = q) (kk : Gd y o kc ks n q L st I J Q) : Gd y o kc ks n pc L (.null :: st) I J Q := by
  subst hq
  intro p l e s m args below meth c H locs ls D dA ad al al0 n0 A S hkap hal hP hD hS hl
  exact lv_ifnonnullN S.1 S.2.1 (S.2.2.2.2.2.2.2.2.1 _ _ hat) (kk p l e s m args below meth c H locs ls D dA ad al al0 n0 A S hkap hal hP hD hS hl)
theorem gd_tsOut {y : am_MD} {o : am_O} {kc ks n pc q : Nat} {L : List (Option Value)} {st : List Value} {I : am_I} {J : am_J} {Q : am_Q} {dflt lo hi : Int} {offs : Array Int} {len : Nat} {x : Int32} (hat : am_at y pc = some (.tableswitch dflt lo hi offs, len)) (h : x.toInt < lo ∨ hi < x.toInt) (hr : (pc : Int) + dflt = (q : Int)) (kk : Gd y o kc ks n q L st I J Q) : Gd y o kc ks n pc L (.int x :: st) I J Q := by
  intro p l e s m args below meth c H locs ls D dA ad al al0 n0 A S hkap hal hP hD hS hl
  exact lv_tableOut S.1 S.2.1 (S.2.2.2.2.2.2.2.2.1 _ _ hat) h hr (kk p l e s m args below meth c H locs ls D dA ad al al0 n0 A S hkap hal hP hD hS hl)
theorem gd_tsIn {y : am_MD} {o : am_O} {kc ks n pc q : Nat} {L : List (Option Value)} {st : List Value} {I : am_I} {J : am_J} {Q : am_Q} {dflt lo hi off : Int} {offs : Array Int} {len : Nat} {x : Int32} (hat : am_at y pc = some (.tableswitch dflt lo hi offs, len)) (h1 : ¬ x.toInt < lo) (h2 : ¬ hi < x.toInt) (ho : offs[(x.toInt - lo).toNat]? = some off) (hr : (pc : Int) + off = (q : Int)) (kk : Gd y o kc ks n q L st I J Q) : Gd y o kc ks n pc L (.int x :: st) I J Q := by
  intro p l e s m args below meth c H locs ls D dA ad al al0 n0 A S hkap hal hP hD hS hl
  exact lv_tableIn S.1 S.2.1 (S.2.2.2.2.2.2.2.2.1 _ _ hat) h1 h2 ho hr (kk p l e s m args below meth c H locs ls D dA ad al al0 n0 A S hkap hal hP hD hS hl)
theorem gd_lookup {y : am_MD} {o : am_O} {kc ks n pc q : Nat} {L : List (Option Value)} {st : List Value} {I : am_I} {J : am_J} {Q : am_Q} {dflt off : Int} {ps : Array (Int × Int)} {len : Nat} {x : Int32} (hat : am_at y pc = some (.lookupswitch dflt ps, len)) (hp : (ps.toList.zip (ps.toList.drop 1)).all (fun (a, next) => a.1 < next.1) = true) (ho : Op.lookupswitch.offset ps.toList dflt x.toInt = off) (hr : (pc : Int) + off = (q : Int)) (kk : Gd y o kc ks n q L st I J Q) : Gd y o kc ks n pc L (.int x :: st) I J Q := by
  intro p l e s m args below meth c H locs ls D dA ad al al0 n0 A S hkap hal hP hD hS hl
  exact lv_lookup S.1 S.2.1 (S.2.2.2.2.2.2.2.2.1 _ _ hat) hp ho hr (kk p l e s m args below meth c H locs ls D dA ad al al0 n0 A S hkap hal hP hD hS hl)
theorem am_decl {c : Nat} {q : vw_C} (h : vwCl[c]? = some q) : ∀ j, j < q.2.2 → (q.2.1 j).1 = am_cn c := by
  match c, h with
  | 0, h => cases h; decide +kernel
  | 1, h => cases h; decide +kernel
  | 2, h => cases h; decide +kernel
  | 3, h => cases h; decide +kernel
  | 4, h => cases h; decide +kernel
  | 5, h => cases h; decide +kernel
  | 6, h => cases h; decide +kernel
  | 7, h => cases h; decide +kernel
  | 8, h => cases h; decide +kernel
  | 9, h => cases h; decide +kernel
  | 10, h => cases h; decide +kernel
  | k + 11, h => exact absurd (am_cl_lt h) (by omega)
theorem am_getf {y : am_MD} {p : Program} {l : Launch} {e : Env} {R : Room} {s : State} {m : MethodId} {args : Array Value} {below : List Frame} {meth : Method} {c : Code} {H : Heap} {locs : List Loc} {cells slots : Nat} {Z : State → Prop} {D : va_G} {dA : Nat → ClassId} {ad : am_AD} {A : Nat → Prop} {al : Nat → Nat} {n k ci j ps idx pc : Nat} {nb : Bool} {I : am_I} {J : am_J} {Q : am_Q} {ls : Array Slot} {rest : List Value} (S : am_S y p s m args meth c D dA ad A) (hP : va_P D vwCl (am_ws dA al n I J Q) H) (hat : am_at y pc = some (.getfield idx, 3)) (hf : am_fl y.1 idx = some (nb, ci, j, ps)) (hk : k < n) (hl : am_lay k = .inl ci)
    (kk : W p l e R s m args below meth c H locs cells slots Z (F0 m (pc + 3) ls ((if am_rf ci j = true then va_rf ((Q k j).map al) else .int (I k j)) :: rest))) : W p l e R s m args below meth c H locs cells slots Z (F0 m pc ls (.ref (al k) :: rest)) := by
  obtain ⟨r, hr, hj, hm⟩ := am_fl_ok hf
  have he : (am_ws dA al n I J Q)[k]? = some (al k, .inr (ci, am_fs al ci (I k) (Q k))) := by rw [am_ws_at hk, am_en, hl]
  have hv := am_fs_at (al := al) (i := I k) (q := Q k) (by rw [← am_nf_ok hr]; exact hj)
  unfold am_fc at hm
  cases nb with
  | true => exact va_getN S.1 S.2.1 S.2.2.2.2.2.2.2.1 (am_in hr) S.2.2.2.2.2.2.1 S.2.2.2.2.2.2.2.2.2.1.1 hP k he hr j hj (va_Nw.use rfl (S.2.2.2.2.2.2.2.2.2.1.2.1 _ (am_N_in hm rfl))) (fun _ h => h) hv (S.2.2.2.2.2.2.2.2.1 _ _ hat) kk
  | false => exact va_get S.1 S.2.1 S.2.2.2.2.2.2.2.1 (am_in hr) S.2.2.2.2.2.2.1 S.2.2.2.2.2.2.2.2.2.1.1 hP k he hr j hj (S.2.2.2.2.2.2.2.1 _ (am_G_in hm rfl)) (fun _ h => h) hv (S.2.2.2.2.2.2.2.2.1 _ _ hat) kk
theorem am_putf {y : am_MD} {p : Program} {l : Launch} {e : Env} {R : Room} {s : State} {m : MethodId} {args : Array Value} {below : List Frame} {meth : Method} {c : Code} {H : Heap} {locs : List Loc} {cells slots : Nat} {Z : State → Prop} {D : va_G} {dA : Nat → ClassId} {ad : am_AD} {A : Nat → Prop} {al : Nat → Nat} {n k ci j ps idx pc : Nat} {nb : Bool} {I : am_I} {J : am_J} {Q : am_Q} {ls : Array Slot} {rest : List Value} {v : Value} (S : am_S y p s m args meth c D dA ad A) (hP : va_P D vwCl (am_ws dA al n I J Q) H) (hD : va_D A (am_ws dA al n I J Q)) (hS : va_S A s.heap H locs) (hat : am_at y pc = some (.putfield idx, 3)) (hf : am_fl y.1 idx = some (nb, ci, j, ps)) (hk : k < n) (hl : am_lay k = .inl ci) (hn : narrow (am_ty ci j) v = v) (hfit : fits (am_ty ci j) v = true) (hfin : am_fin ci j = false ∨ (nb = false ∧ y.1 = ci ∧ y.2.1.name = "<init>"))
    (kk : ∀ (H1 : Heap) (locs1 : List Loc), va_P D vwCl ((am_ws dA al n I J Q).set k (al k, .inr (ci, (am_fs al ci (I k) (Q k)).set j v))) H1 → va_D A ((am_ws dA al n I J Q).set k (al k, .inr (ci, (am_fs al ci (I k) (Q k)).set j v))) → va_S A s.heap H1 locs1 → W p l e R s m args below meth c H1 locs1 cells slots Z (F0 m (pc + 3) ls rest)) : W p l e R s m args below meth c H locs cells slots Z (F0 m pc ls (v :: .ref (al k) :: rest)) := by
  obtain ⟨r, hr, hj, hm⟩ := am_fl_ok hf
  have he : (am_ws dA al n I J Q)[k]? = some (al k, .inr (ci, am_fs al ci (I k) (Q k))) := by rw [am_ws_at hk, am_en, hl]
  have hlen : j < (am_fs al ci (I k) (Q k)).length := by rw [am_fs_len, ← am_nf_ok hr]; exact hj
  have hty := am_ty_ok hr j hj
  have hfi : am_fin ci j = (r.2.1 j).2.2.2 := by unfold am_fin; rw [hr]
  unfold am_fc at hm
  by_cases hfn : am_fin ci j = false
  · have hfn2 : (r.2.1 j).2.2.2 = false := by rw [← hfi]; exact hfn
    cases nb with
    | true => exact va_putN S.1 S.2.1 S.2.2.2.2.2.2.2.1 (am_in hr) (am_ty ci) (am_ty_ok hr) (am_nm hr) S.2.2.2.2.2.2.1 S.2.2.2.2.2.2.2.2.2.1.1 hP hD hS k he hr j hj (va_Nw.use rfl (S.2.2.2.2.2.2.2.2.2.1.2.1 _ (am_N_in hm rfl))) (fun _ h => h) hfn2 hty hn hfit hlen (S.2.2.2.2.2.2.2.2.1 _ _ hat) kk
    | false => exact va_put S.1 S.2.1 S.2.2.2.2.2.2.2.1 (am_in hr) (am_ty ci) (am_ty_ok hr) (am_nm hr) S.2.2.2.2.2.2.1 S.2.2.2.2.2.2.2.2.2.1.1 hP hD hS k he hr j hj (S.2.2.2.2.2.2.2.1 _ (am_G_in hm rfl)) (fun _ h => h) hfn2 hty hn hfit hlen (S.2.2.2.2.2.2.2.2.1 _ _ hat) kk
  · rcases hfin with h | ⟨h1, h2, h3⟩
    · exact absurd h hfn
    · subst h1
      have hfn2 : (r.2.1 j).2.2.2 = true := by rw [← hfi]; simpa using hfn
      have hdecl : (r.2.1 j).1 = am_cn y.1 := by rw [h2]; exact am_decl hr j hj
      exact va_putF S.1 S.2.1 S.2.2.2.2.2.2.2.1 (am_in hr) (am_ty ci) (am_ty_ok hr) (am_nm hr) S.2.2.2.2.2.2.1 S.2.2.2.2.2.2.2.2.2.1.1 hP hD hS k he hr j hj (S.2.2.2.2.2.2.2.1 _ (am_G_in hm rfl)) (fun _ h => h) hfn2 (S.2.2.2.2.2.1.trans h3) hdecl hty hn hfit hlen (S.2.2.2.2.2.2.2.2.1 _ _ hat) kk
theorem gd_getI {y : am_MD} {o : am_O} {kc ks n pc q : Nat} {L : List (Option Value)} {st : List Value} {I : am_I} {J : am_J} {Q : am_Q} {idx k ci j ps : Nat} {nb : Bool}  (hat : am_at y pc = some (.getfield idx, 3)) (hq : pc + 3 = q) (hf : am_fl y.1 idx = some (nb, ci, j, ps)) (hk : k < n) (hly : am_lay k = .inl ci) (hr : am_rf ci j = false) (kk : Gd y o kc ks n q L (.int (I k j) :: st) I J Q) : Gd y o kc ks n pc L (.ref k :: st) I J Q := by
  subst hq
  intro p l e s m args below meth c H locs ls D dA ad al al0 n0 A S hkap hal hP hD hS hl
  refine am_getf S hP hat hf hk hly ?_
  rw [if_neg (by rw [hr]; decide)]
  exact (kk p l e s m args below meth c H locs ls D dA ad al al0 n0 A S hkap hal hP hD hS hl)
theorem gd_getR {y : am_MD} {o : am_O} {kc ks n pc q : Nat} {L : List (Option Value)} {st : List Value} {I : am_I} {J : am_J} {Q : am_Q} {idx k ci j ps : Nat} {nb : Bool} {r : Nat} (hat : am_at y pc = some (.getfield idx, 3)) (hq : pc + 3 = q) (hf : am_fl y.1 idx = some (nb, ci, j, ps)) (hk : k < n) (hly : am_lay k = .inl ci) (hr : am_rf ci j = true) (hQ : Q k j = some r) (kk : Gd y o kc ks n q L (.ref r :: st) I J Q) : Gd y o kc ks n pc L (.ref k :: st) I J Q := by
  subst hq
  intro p l e s m args below meth c H locs ls D dA ad al al0 n0 A S hkap hal hP hD hS hl
  refine am_getf S hP hat hf hk hly ?_
  rw [if_pos hr, hQ]
  exact (kk p l e s m args below meth c H locs ls D dA ad al al0 n0 A S hkap hal hP hD hS hl)
theorem gd_getN {y : am_MD} {o : am_O} {kc ks n pc q : Nat} {L : List (Option Value)} {st : List Value} {I : am_I} {J : am_J} {Q : am_Q} {idx k ci j ps : Nat} {nb : Bool}  (hat : am_at y pc = some (.getfield idx, 3)) (hq : pc + 3 = q) (hf : am_fl y.1 idx = some (nb, ci, j, ps)) (hk : k < n) (hly : am_lay k = .inl ci) (hr : am_rf ci j = true) (hQ : Q k j = none) (kk : Gd y o kc ks n q L (.null :: st) I J Q) : Gd y o kc ks n pc L (.ref k :: st) I J Q := by
  subst hq
  intro p l e s m args below meth c H locs ls D dA ad al al0 n0 A S hkap hal hP hD hS hl
  refine am_getf S hP hat hf hk hly ?_
  rw [if_pos hr, hQ]
  exact (kk p l e s m args below meth c H locs ls D dA ad al al0 n0 A S hkap hal hP hD hS hl)
theorem am_setI {dA : Nat → ClassId} {al : Nat → Nat} {n k ci j : Nat} {I : am_I} {J : am_J} {Q : am_Q} (hk : k < n) (hl : am_lay k = .inl ci) (hj : j < am_nf ci) (hr : am_rf ci j = false) (v : Int32) : (am_ws dA al n I J Q).set k (al k, .inr (ci, (am_fs al ci (I k) (Q k)).set j (.int v))) = am_ws dA al n (am_w I k j v) J Q := by
  rw [am_fs_setI hj hr, am_w, ← am_ws_setI hk, am_en, hl]
theorem am_setQ {dA : Nat → ClassId} {al : Nat → Nat} {n k ci j : Nat} {I : am_I} {J : am_J} {Q : am_Q} (hk : k < n) (hl : am_lay k = .inl ci) (hj : j < am_nf ci) (hr : am_rf ci j = true) (v : Option Nat) : (am_ws dA al n I J Q).set k (al k, .inr (ci, (am_fs al ci (I k) (Q k)).set j (va_rf (v.map al)))) = am_ws dA al n I J (am_w Q k j v) := by
  rw [am_fs_setQ hj hr, am_w, ← am_ws_setQ hk, am_en, hl]
theorem gd_putI {y : am_MD} {o : am_O} {kc ks n pc q : Nat} {L : List (Option Value)} {st : List Value} {I : am_I} {J : am_J} {Q : am_Q} {idx k ci j ps : Nat} {nb : Bool} {x : Int32} (hat : am_at y pc = some (.putfield idx, 3)) (hq : pc + 3 = q) (hf : am_fl y.1 idx = some (nb, ci, j, ps)) (hk : k < n) (hly : am_lay k = .inl ci) (hr : am_rf ci j = false) (hty : am_ty ci j = .int) (hfin : am_fin ci j = false ∨ (nb = false ∧ y.1 = ci ∧ y.2.1.name = "<init>")) (kk : Gd y o kc ks n q L st (am_w I k j x) J Q) : Gd y o kc ks n pc L (.int x :: .ref k :: st) I J Q := by
  subst hq
  intro p l e s m args below meth c H locs ls D dA ad al al0 n0 A S hkap hal hP hD hS hl
  obtain ⟨r0, hr0, hj0, -⟩ := am_fl_ok hf
  have hj1 : j < am_nf ci := by rw [← am_nf_ok hr0]; exact hj0
  refine am_putf S hP hD hS hat hf hk hly (v := .int x) (by rw [hty]; rfl) (by rw [hty]; rfl) hfin (fun H1 locs1 hP1 hD1 hS1 => ?_)
  exact kk p l e s m args below meth c H1 locs1 ls D dA ad al al0 n0 A S hkap hal ((am_setI hk hly hj1 hr x) ▸ hP1) ((am_setI hk hly hj1 hr x) ▸ hD1) hS1 hl
theorem gd_putZ {y : am_MD} {o : am_O} {kc ks n pc q : Nat} {L : List (Option Value)} {st : List Value} {I : am_I} {J : am_J} {Q : am_Q} {idx k ci j ps : Nat} {nb : Bool} {x : Int32} (hat : am_at y pc = some (.putfield idx, 3)) (hq : pc + 3 = q) (hf : am_fl y.1 idx = some (nb, ci, j, ps)) (hk : k < n) (hly : am_lay k = .inl ci) (hr : am_rf ci j = false) (hty : am_ty ci j = .boolean) (hx : x = 0 ∨ x = 1) (hfin : am_fin ci j = false) (kk : Gd y o kc ks n q L st (am_w I k j x) J Q) : Gd y o kc ks n pc L (.int x :: .ref k :: st) I J Q := by
  subst hq
  intro p l e s m args below meth c H locs ls D dA ad al al0 n0 A S hkap hal hP hD hS hl
  obtain ⟨r0, hr0, hj0, -⟩ := am_fl_ok hf
  have hj1 : j < am_nf ci := by rw [← am_nf_ok hr0]; exact hj0
  refine am_putf S hP hD hS hat hf hk hly (v := .int x) (by rw [hty]; rcases hx with h | h <;> subst h <;> rfl) (by rw [hty]; rcases hx with h | h <;> subst h <;> rfl) (Or.inl hfin) (fun H1 locs1 hP1 hD1 hS1 => ?_)
  exact kk p l e s m args below meth c H1 locs1 ls D dA ad al al0 n0 A S hkap hal ((am_setI hk hly hj1 hr x) ▸ hP1) ((am_setI hk hly hj1 hr x) ▸ hD1) hS1 hl
theorem gd_putR {y : am_MD} {o : am_O} {kc ks n pc q : Nat} {L : List (Option Value)} {st : List Value} {I : am_I} {J : am_J} {Q : am_Q} {idx k ci j ps : Nat} {nb : Bool} {r : Nat} (hat : am_at y pc = some (.putfield idx, 3)) (hq : pc + 3 = q) (hf : am_fl y.1 idx = some (nb, ci, j, ps)) (hk : k < n) (hly : am_lay k = .inl ci) (hr : am_rf ci j = true) (hty : ∀ a : Nat, narrow (am_ty ci j) (.ref a) = .ref a ∧ fits (am_ty ci j) (.ref a) = true) (hfin : am_fin ci j = false ∨ (nb = false ∧ y.1 = ci ∧ y.2.1.name = "<init>")) (kk : Gd y o kc ks n q L st I J (am_w Q k j (some r))) : Gd y o kc ks n pc L (.ref r :: .ref k :: st) I J Q := by
  subst hq
  intro p l e s m args below meth c H locs ls D dA ad al al0 n0 A S hkap hal hP hD hS hl
  obtain ⟨r0, hr0, hj0, -⟩ := am_fl_ok hf
  have hj1 : j < am_nf ci := by rw [← am_nf_ok hr0]; exact hj0
  refine am_putf S hP hD hS hat hf hk hly (v := .ref (al r)) (hty _).1 (hty _).2 hfin (fun H1 locs1 hP1 hD1 hS1 => ?_)
  exact kk p l e s m args below meth c H1 locs1 ls D dA ad al al0 n0 A S hkap hal ((am_setQ hk hly hj1 hr (some r)) ▸ hP1) ((am_setQ hk hly hj1 hr (some r)) ▸ hD1) hS1 hl
theorem gd_iald {y : am_MD} {o : am_O} {kc ks n pc q : Nat} {L : List (Option Value)} {st : List Value} {I : am_I} {J : am_J} {Q : am_Q} {k len : Nat} {i : Int32} (hat : am_at y pc = some (.iaload, 1)) (hq : pc + 1 = q) (hk : k < n) (hly : am_lay k = .inr (0, len)) (hin : vp_in i len) (kk : Gd y o kc ks n q L (.int (I k i.toNatClampNeg) :: st) I J Q) : Gd y o kc ks n pc L (.int i :: .ref k :: st) I J Q := by
  subst hq
  intro p l e s m args below meth c H locs ls D dA ad al al0 n0 A S hkap hal hP hD hS hl
  exact va_iald (f := I k) S.1 S.2.1 S.2.2.2.2.2.2.2.2.2.1.1 hP k 0 (by rw [am_ws_at hk, am_en, hly]; rfl) rfl hin (S.2.2.2.2.2.2.2.2.1 _ _ hat) (kk p l e s m args below meth c H locs ls D dA ad al al0 n0 A S hkap hal hP hD hS hl)
theorem gd_bald {y : am_MD} {o : am_O} {kc ks n pc q : Nat} {L : List (Option Value)} {st : List Value} {I : am_I} {J : am_J} {Q : am_Q} {k len : Nat} {i : Int32} (hat : am_at y pc = some (.baload, 1)) (hq : pc + 1 = q) (hk : k < n) (hly : am_lay k = .inr (1, len)) (hin : vp_in i len) (kk : Gd y o kc ks n q L (.int (I k i.toNatClampNeg) :: st) I J Q) : Gd y o kc ks n pc L (.int i :: .ref k :: st) I J Q := by
  subst hq
  intro p l e s m args below meth c H locs ls D dA ad al al0 n0 A S hkap hal hP hD hS hl
  exact va_bald (f := I k) S.1 S.2.1 S.2.2.2.2.2.2.2.2.2.1.1 hP k 1 (by rw [am_ws_at hk, am_en, hly]; rfl) rfl hin (S.2.2.2.2.2.2.2.2.1 _ _ hat) (kk p l e s m args below meth c H locs ls D dA ad al al0 n0 A S hkap hal hP hD hS hl)
theorem gd_sald {y : am_MD} {o : am_O} {kc ks n pc q : Nat} {L : List (Option Value)} {st : List Value} {I : am_I} {J : am_J} {Q : am_Q} {k len : Nat} {i : Int32} (hat : am_at y pc = some (.saload, 1)) (hq : pc + 1 = q) (hk : k < n) (hly : am_lay k = .inr (2, len)) (hin : vp_in i len) (kk : Gd y o kc ks n q L (.int (I k i.toNatClampNeg) :: st) I J Q) : Gd y o kc ks n pc L (.int i :: .ref k :: st) I J Q := by
  subst hq
  intro p l e s m args below meth c H locs ls D dA ad al al0 n0 A S hkap hal hP hD hS hl
  exact va_sald (f := I k) S.1 S.2.1 S.2.2.2.2.2.2.2.2.2.1.1 hP k 2 (by rw [am_ws_at hk, am_en, hly]; rfl) rfl hin (S.2.2.2.2.2.2.2.2.1 _ _ hat) (kk p l e s m args below meth c H locs ls D dA ad al al0 n0 A S hkap hal hP hD hS hl)
theorem gd_zald {y : am_MD} {o : am_O} {kc ks n pc q : Nat} {L : List (Option Value)} {st : List Value} {I : am_I} {J : am_J} {Q : am_Q} {k len : Nat} {i : Int32} (hat : am_at y pc = some (.baload, 1)) (hq : pc + 1 = q) (hk : k < n) (hly : am_lay k = .inr (3, len)) (hin : vp_in i len) (kk : Gd y o kc ks n q L (.int (I k i.toNatClampNeg) :: st) I J Q) : Gd y o kc ks n pc L (.int i :: .ref k :: st) I J Q := by
  subst hq
  intro p l e s m args below meth c H locs ls D dA ad al al0 n0 A S hkap hal hP hD hS hl
  exact va_zald (f := I k) S.1 S.2.1 S.2.2.2.2.2.2.2.2.2.1.1 hP k 3 (by rw [am_ws_at hk, am_en, hly]; rfl) rfl hin (S.2.2.2.2.2.2.2.2.1 _ _ hat) (kk p l e s m args below meth c H locs ls D dA ad al al0 n0 A S hkap hal hP hD hS hl)
theorem gd_lald {y : am_MD} {o : am_O} {kc ks n pc q : Nat} {L : List (Option Value)} {st : List Value} {I : am_I} {J : am_J} {Q : am_Q} {k len : Nat} {i : Int32} (hat : am_at y pc = some (.laload, 1)) (hq : pc + 1 = q) (hk : k < n) (hly : am_lay k = .inr (4, len)) (hin : vp_in i len) (kk : Gd y o kc ks n q L (.long (J k i.toNatClampNeg) :: st) I J Q) : Gd y o kc ks n pc L (.int i :: .ref k :: st) I J Q := by
  subst hq
  intro p l e s m args below meth c H locs ls D dA ad al al0 n0 A S hkap hal hP hD hS hl
  exact va_lald (f := J k) S.1 S.2.1 S.2.2.2.2.2.2.2.2.2.1.1 hP k 4 (by rw [am_ws_at hk, am_en, hly]; rfl) rfl hin (S.2.2.2.2.2.2.2.2.1 _ _ hat) (kk p l e s m args below meth c H locs ls D dA ad al al0 n0 A S hkap hal hP hD hS hl)
theorem gd_aald {y : am_MD} {o : am_O} {kc ks n pc q : Nat} {L : List (Option Value)} {st : List Value} {I : am_I} {J : am_J} {Q : am_Q} {k len r : Nat} {i : Int32} (hat : am_at y pc = some (.aaload, 1)) (hq : pc + 1 = q) (hk : k < n) (hly : am_lay k = .inr (5, len)) (hin : vp_in i len) (hQ : Q k i.toNatClampNeg = some r) (kk : Gd y o kc ks n q L (.ref r :: st) I J Q) : Gd y o kc ks n pc L (.int i :: .ref k :: st) I J Q := by
  subst hq
  intro p l e s m args below meth c H locs ls D dA ad al al0 n0 A S hkap hal hP hD hS hl
  refine va_aldq (f := fun a => (Q k a).map al) S.1 S.2.1 S.2.2.2.2.2.2.2.2.2.1.1 hP k 5 (by rw [am_ws_at hk, am_en, hly]; rfl) rfl hin (S.2.2.2.2.2.2.2.2.1 _ _ hat) ?_
  rw [hQ]
  exact (kk p l e s m args below meth c H locs ls D dA ad al al0 n0 A S hkap hal hP hD hS hl)
theorem gd_aaldN {y : am_MD} {o : am_O} {kc ks n pc q : Nat} {L : List (Option Value)} {st : List Value} {I : am_I} {J : am_J} {Q : am_Q} {k len : Nat} {i : Int32} (hat : am_at y pc = some (.aaload, 1)) (hq : pc + 1 = q) (hk : k < n) (hly : am_lay k = .inr (5, len)) (hin : vp_in i len) (hQ : Q k i.toNatClampNeg = none) (kk : Gd y o kc ks n q L (.null :: st) I J Q) : Gd y o kc ks n pc L (.int i :: .ref k :: st) I J Q := by
  subst hq
  intro p l e s m args below meth c H locs ls D dA ad al al0 n0 A S hkap hal hP hD hS hl
  refine va_aldq (f := fun a => (Q k a).map al) S.1 S.2.1 S.2.2.2.2.2.2.2.2.2.1.1 hP k 5 (by rw [am_ws_at hk, am_en, hly]; rfl) rfl hin (S.2.2.2.2.2.2.2.2.1 _ _ hat) ?_
  rw [hQ]
  exact (kk p l e s m args below meth c H locs ls D dA ad al al0 n0 A S hkap hal hP hD hS hl)
theorem am_arrI {dA : Nat → ClassId} {al : Nat → Nat} {n k t len : Nat} {I : am_I} {J : am_J} {Q : am_Q} (hk : k < n) (hl : am_lay k = .inr (t, len)) (h4 : ¬ t = 4) (h5 : ¬ t = 5) (f : Nat → Int32) : (am_ws dA al n I J Q).set k (al k, .inl (dA t, len, .inl f)) = am_ws dA al n (va_up I k f) J Q := by
  rw [← am_ws_setI hk, am_en, hl]
  simp only [if_neg h4, if_neg h5]
theorem am_arrJ {dA : Nat → ClassId} {al : Nat → Nat} {n k len : Nat} {I : am_I} {J : am_J} {Q : am_Q} (hk : k < n) (hl : am_lay k = .inr (4, len)) (f : Nat → Int64) : (am_ws dA al n I J Q).set k (al k, .inl (dA 4, len, .inr (.inl f))) = am_ws dA al n I (va_up J k f) Q := by
  rw [← am_ws_setJ hk, am_en, hl]
  rfl
theorem am_arrQ {dA : Nat → ClassId} {al : Nat → Nat} {n k len : Nat} {I : am_I} {J : am_J} {Q : am_Q} (hk : k < n) (hl : am_lay k = .inr (5, len)) (f : Nat → Option Nat) : (am_ws dA al n I J Q).set k (al k, .inl (dA 5, len, .inr (.inr (.inr (.inr (fun a => (f a).map al)))))) = am_ws dA al n I J (va_up Q k f) := by
  rw [← am_ws_setQ hk, am_en, hl]
  rfl
theorem am_arrI2 {dA : Nat → ClassId} {al : Nat → Nat} {n k t len : Nat} {I : am_I} {J : am_J} {Q : am_Q} (hk : k < n) (hl : am_lay k = .inr (t, len)) (h4 : ¬ t = 4) (h5 : ¬ t = 5) (j : Nat) (v : Int32) : (am_ws dA al n I J Q).set k (al k, .inl (dA t, len, .inl (upd (I k) j v))) = am_ws dA al n (am_w I k j v) J Q := am_arrI hk hl h4 h5 _
theorem am_arrJ2 {dA : Nat → ClassId} {al : Nat → Nat} {n k len : Nat} {I : am_I} {J : am_J} {Q : am_Q} (hk : k < n) (hl : am_lay k = .inr (4, len)) (j : Nat) (v : Int64) : (am_ws dA al n I J Q).set k (al k, .inl (dA 4, len, .inr (.inl (vp_updL (J k) j v)))) = am_ws dA al n I (am_w J k j v) Q := am_arrJ hk hl _
theorem am_arrQ2 {dA : Nat → ClassId} {al : Nat → Nat} {n k len : Nat} {I : am_I} {J : am_J} {Q : am_Q} (hk : k < n) (hl : am_lay k = .inr (5, len)) (j r : Nat) : (am_ws dA al n I J Q).set k (al k, .inl (dA 5, len, .inr (.inr (.inr (.inr (fun a => (va_up (Q k) j (some r) a).map al)))))) = am_ws dA al n I J (am_w Q k j (some r)) := am_arrQ hk hl _
theorem am_upmap {f : Nat → Option Nat} {al : Nat → Nat} {i r : Nat} : va_up (fun a => (f a).map al) i (some (al r)) = fun a => (va_up f i (some r) a).map al := by
  funext a
  unfold va_up
  split <;> rfl
theorem gd_iast {y : am_MD} {o : am_O} {kc ks n pc q : Nat} {L : List (Option Value)} {st : List Value} {I : am_I} {J : am_J} {Q : am_Q} {k len : Nat} {i x : Int32} (hat : am_at y pc = some (.iastore, 1)) (hq : pc + 1 = q) (hk : k < n) (hly : am_lay k = .inr (0, len)) (hin : vp_in i len) (kk : Gd y o kc ks n q L st (am_w I k i.toNatClampNeg (x)) J Q) : Gd y o kc ks n pc L (.int x :: .int i :: .ref k :: st) I J Q := by
  subst hq
  intro p l e s m args below meth c H locs ls D dA ad al al0 n0 A S hkap hal hP hD hS hl
  refine va_iast (f := I k) S.1 S.2.1 S.2.2.2.2.2.2.2.2.2.1.1 hP hD hS k 0 (by rw [am_ws_at hk, am_en, hly]; rfl) rfl hin (S.2.2.2.2.2.2.2.2.1 _ _ hat) (fun H1 locs1 hP1 hD1 hS1 => ?_)
  exact kk p l e s m args below meth c H1 locs1 ls D dA ad al al0 n0 A S hkap hal ((am_arrI2 hk hly (by decide) (by decide) _ _) ▸ hP1) ((am_arrI2 hk hly (by decide) (by decide) _ _) ▸ hD1) hS1 hl
theorem gd_bast {y : am_MD} {o : am_O} {kc ks n pc q : Nat} {L : List (Option Value)} {st : List Value} {I : am_I} {J : am_J} {Q : am_Q} {k len : Nat} {i x : Int32} (hat : am_at y pc = some (.bastore, 1)) (hq : pc + 1 = q) (hk : k < n) (hly : am_lay k = .inr (1, len)) (hin : vp_in i len) (kk : Gd y o kc ks n q L st (am_w I k i.toNatClampNeg (vp_nar .byte x)) J Q) : Gd y o kc ks n pc L (.int x :: .int i :: .ref k :: st) I J Q := by
  subst hq
  intro p l e s m args below meth c H locs ls D dA ad al al0 n0 A S hkap hal hP hD hS hl
  refine va_bast (f := I k) S.1 S.2.1 S.2.2.2.2.2.2.2.2.2.1.1 hP hD hS k 1 (by rw [am_ws_at hk, am_en, hly]; rfl) rfl hin (S.2.2.2.2.2.2.2.2.1 _ _ hat) (fun H1 locs1 hP1 hD1 hS1 => ?_)
  exact kk p l e s m args below meth c H1 locs1 ls D dA ad al al0 n0 A S hkap hal ((am_arrI2 hk hly (by decide) (by decide) _ _) ▸ hP1) ((am_arrI2 hk hly (by decide) (by decide) _ _) ▸ hD1) hS1 hl
theorem gd_sast {y : am_MD} {o : am_O} {kc ks n pc q : Nat} {L : List (Option Value)} {st : List Value} {I : am_I} {J : am_J} {Q : am_Q} {k len : Nat} {i x : Int32} (hat : am_at y pc = some (.sastore, 1)) (hq : pc + 1 = q) (hk : k < n) (hly : am_lay k = .inr (2, len)) (hin : vp_in i len) (kk : Gd y o kc ks n q L st (am_w I k i.toNatClampNeg (vp_nar .short x)) J Q) : Gd y o kc ks n pc L (.int x :: .int i :: .ref k :: st) I J Q := by
  subst hq
  intro p l e s m args below meth c H locs ls D dA ad al al0 n0 A S hkap hal hP hD hS hl
  refine va_sast (f := I k) S.1 S.2.1 S.2.2.2.2.2.2.2.2.2.1.1 hP hD hS k 2 (by rw [am_ws_at hk, am_en, hly]; rfl) rfl hin (S.2.2.2.2.2.2.2.2.1 _ _ hat) (fun H1 locs1 hP1 hD1 hS1 => ?_)
  exact kk p l e s m args below meth c H1 locs1 ls D dA ad al al0 n0 A S hkap hal ((am_arrI2 hk hly (by decide) (by decide) _ _) ▸ hP1) ((am_arrI2 hk hly (by decide) (by decide) _ _) ▸ hD1) hS1 hl
theorem gd_zast {y : am_MD} {o : am_O} {kc ks n pc q : Nat} {L : List (Option Value)} {st : List Value} {I : am_I} {J : am_J} {Q : am_Q} {k len : Nat} {i x : Int32} (hat : am_at y pc = some (.bastore, 1)) (hq : pc + 1 = q) (hk : k < n) (hly : am_lay k = .inr (3, len)) (hin : vp_in i len) (kk : Gd y o kc ks n q L st (am_w I k i.toNatClampNeg (vp_nar .boolean x)) J Q) : Gd y o kc ks n pc L (.int x :: .int i :: .ref k :: st) I J Q := by
  subst hq
  intro p l e s m args below meth c H locs ls D dA ad al al0 n0 A S hkap hal hP hD hS hl
  refine va_zast (f := I k) S.1 S.2.1 S.2.2.2.2.2.2.2.2.2.1.1 hP hD hS k 3 (by rw [am_ws_at hk, am_en, hly]; rfl) rfl hin (S.2.2.2.2.2.2.2.2.1 _ _ hat) (fun H1 locs1 hP1 hD1 hS1 => ?_)
  exact kk p l e s m args below meth c H1 locs1 ls D dA ad al al0 n0 A S hkap hal ((am_arrI2 hk hly (by decide) (by decide) _ _) ▸ hP1) ((am_arrI2 hk hly (by decide) (by decide) _ _) ▸ hD1) hS1 hl
theorem gd_last {y : am_MD} {o : am_O} {kc ks n pc q : Nat} {L : List (Option Value)} {st : List Value} {I : am_I} {J : am_J} {Q : am_Q} {k len : Nat} {i : Int32} {x : Int64} (hat : am_at y pc = some (.lastore, 1)) (hq : pc + 1 = q) (hk : k < n) (hly : am_lay k = .inr (4, len)) (hin : vp_in i len) (kk : Gd y o kc ks n q L st I (am_w J k i.toNatClampNeg x) Q) : Gd y o kc ks n pc L (.long x :: .int i :: .ref k :: st) I J Q := by
  subst hq
  intro p l e s m args below meth c H locs ls D dA ad al al0 n0 A S hkap hal hP hD hS hl
  refine va_last (f := J k) S.1 S.2.1 S.2.2.2.2.2.2.2.2.2.1.1 hP hD hS k 4 (by rw [am_ws_at hk, am_en, hly]; rfl) rfl hin (S.2.2.2.2.2.2.2.2.1 _ _ hat) (fun H1 locs1 hP1 hD1 hS1 => ?_)
  exact kk p l e s m args below meth c H1 locs1 ls D dA ad al al0 n0 A S hkap hal ((am_arrJ2 hk hly _ _) ▸ hP1) ((am_arrJ2 hk hly _ _) ▸ hD1) hS1 hl
theorem gd_aast {y : am_MD} {o : am_O} {kc ks n pc q : Nat} {L : List (Option Value)} {st : List Value} {I : am_I} {J : am_J} {Q : am_Q} {k len r : Nat} {i : Int32} (hat : am_at y pc = some (.aastore, 1)) (hq : pc + 1 = q) (hk : k < n) (hly : am_lay k = .inr (5, len)) (hin : vp_in i len) (hr : r < n) (hrl : am_lay r = .inl 1) (kk : Gd y o kc ks n q L st I J (am_w Q k i.toNatClampNeg (some r))) : Gd y o kc ks n pc L (.ref r :: .int i :: .ref k :: st) I J Q := by
  subst hq
  intro p l e s m args below meth c H locs ls D dA ad al al0 n0 A S hkap hal hP hD hS hl
  refine va_astq (r := (RX1, TX1, 11)) (f := fun a => (Q k a).map al) S.1 S.2.1 S.2.2.2.2.2.2.2.2.2.1.1 hP hD hS k 5 r 1 (by rw [am_ws_at hk, am_en, hly]; rfl) rfl (by rw [am_ws_at hr, am_en, hrl]) rfl hin (S.2.2.2.2.2.2.2.2.1 _ _ hat) (fun H1 locs1 hP1 hD1 hS1 => ?_)
  rw [am_upmap] at hP1 hD1
  exact kk p l e s m args below meth c H1 locs1 ls D dA ad al al0 n0 A S hkap hal ((am_arrQ2 hk hly _ _) ▸ hP1) ((am_arrQ2 hk hly _ _) ▸ hD1) hS1 hl
theorem gd_alen {y : am_MD} {o : am_O} {kc ks n pc q : Nat} {L : List (Option Value)} {st : List Value} {I : am_I} {J : am_J} {Q : am_Q} {k t len : Nat} {v : Int32} {ty : FieldType} (hat : am_at y pc = some (.arraylength, 1)) (hq : pc + 1 = q) (hk : k < n) (hly : am_lay k = .inr (t, len)) (ht : ∀ dA : Nat → ClassId, (am_tys dA)[t]? = some (dA t, ty)) (hv : Int32.ofNat len = v) (kk : Gd y o kc ks n q L (.int v :: st) I J Q) : Gd y o kc ks n pc L (.ref k :: st) I J Q := by
  subst hq
  intro p l e s m args below meth c H locs ls D dA ad al al0 n0 A S hkap hal hP hD hS hl
  exact va_alen S.1 S.2.1 S.2.2.2.2.2.2.2.2.2.1.1 hP k t (by rw [am_ws_at hk, am_en, hly]) (ht dA) hv (S.2.2.2.2.2.2.2.2.1 _ _ hat) (kk p l e s m args below meth c H locs ls D dA ad al al0 n0 A S hkap hal hP hD hS hl)
end
section
/-! ===== a method's contract out of its walk; calls; ends; new cells ===== -/
theorem am_e0_len (al : Nat → Nat) (vs : List Value) : (am_e0 (vs.map (am_cv al))).length = (am_e0 vs).length := by
  induction vs with
  | nil => rfl
  | cons v vs ih =>
    rw [List.map_cons]
    unfold am_e0
    rw [am_cv_cat]
    split <;> simp [ih]
theorem cm_of {y : am_MD} {d mc ms n : Nat} {av : List Value} {I : am_I} {J : am_J} {Q : am_Q} {r : am_R} (hpl : plainName y.2.1.cls = true) (hcn : y.2.1.cls = am_cn y.1) (hdec : (y.2.2.2.2.2).all (fun e => decide (decode y.2.2.1 e.1 = .ok e.2)) = true) (hlen : (am_e0 av).length ≤ y.2.2.2.1)
    (h : Gd y (am_o d mc ms r) 0 0 n 0 (am_l0 y av) [] I J Q) : Cm y d mc ms n av I J Q r := by
  intro l D dA ad al sz
  refine Met.ofW (cc := y.2.2.1) (maxL := y.2.2.2.1) (ret := y.2.2.2.2.1) hpl rfl ?_
  intro p e s m args below meth c s₁ B hml hv
  obtain ⟨hargs, hsz, hP, hD0, hC⟩ := hv
  subst hargs
  have hts := atoms_spec (ws := am_ww y) B.pre
  have hS0 : am_S y p s m (av.map (am_cv al)).toArray meth c D dA ad (va_A (am_ws dA al n I J Q) sz) := by
    refine ⟨B.exec, B.bytes, hml, B.returns, B.notSynchronized, (name_of_methodNamed B.named B.method).1, ?_, fun w hw => hts w (List.mem_cons_of_mem _ hw), fun pc q hq => ?_, hC, fun q h => Or.inr (by rw [← hsz]; exact h)⟩
    · rw [← hcn]
      exact findClass_of_methodNamed B.named
    · have h1 := List.all_eq_true.mp hdec _ (am_lookup hq)
      exact of_decide_eq_true h1
  have hl := lv_entry (av.map (am_cv al)) (n := y.2.2.2.1) (by rw [am_sl_len, am_e0_len]; exact hlen)
  rw [lg_entry_eq]
  exact h p l e s m _ below meth c s.heap [] _ D dA ad al al n _ hS0 trivial ⟨fun _ _ => rfl, Nat.le_refl _⟩ hP hD0.self va_S.rf (am_H0 hl)
section Ends
variable {y : am_MD} {d mc ms kc ks n pc : Nat} {L : List (Option Value)} {I : am_I} {J : am_J} {Q : am_Q} {r : am_R}
theorem gd_ireturn {x : Int32} {ty : FieldType} (hat : am_at y pc = some (.ireturn, 1)) (hty : y.2.2.2.2.1 = some ty) (hn : narrow ty (.int x) = .int x) (hkc : kc ≤ mc) (hks : ks ≤ ms) (hr : r = (some (.int x), n, I, J, Q)) : Gd y (am_o d mc ms r) kc ks n pc L [.int x] I J Q := by
  subst hr
  intro p l e s m args below meth c H locs ls D dA ad al al0 n0 A S hkap hal hP hD hS hl
  refine W.widen hkc hks ?_
  exact W.zret S.1 S.2.1 (S.2.2.2.1.trans hty) hn (fun t ht _ => ⟨⟨al, hal.1, hal.2, rfl, by rw [ht]; exact hP, hD⟩, hS.F ht⟩) hS.2.2 (S.2.2.2.2.2.2.2.2.1 _ _ hat) S.2.2.2.2.1
theorem gd_lreturn {x : Int64} (hat : am_at y pc = some (.lreturn, 1)) (hty : y.2.2.2.2.1 = some .long) (hkc : kc ≤ mc) (hks : ks ≤ ms) (hr : r = (some (.long x), n, I, J, Q)) : Gd y (am_o d mc ms r) kc ks n pc L [.long x] I J Q := by
  subst hr
  intro p l e s m args below meth c H locs ls D dA ad al al0 n0 A S hkap hal hP hD hS hl
  refine W.widen hkc hks ?_
  exact W.lret S.1 S.2.1 (S.2.2.2.1.trans hty) (fun t ht _ => ⟨⟨al, hal.1, hal.2, rfl, by rw [ht]; exact hP, hD⟩, hS.F ht⟩) hS.2.2 (S.2.2.2.2.2.2.2.2.1 _ _ hat) S.2.2.2.2.1
theorem gd_return (hat : am_at y pc = some (.return_, 1)) (hty : y.2.2.2.2.1 = none) (hkc : kc ≤ mc) (hks : ks ≤ ms) (hr : r = (none, n, I, J, Q)) : Gd y (am_o d mc ms r) kc ks n pc L [] I J Q := by
  subst hr
  intro p l e s m args below meth c H locs ls D dA ad al al0 n0 A S hkap hal hP hD hS hl
  refine W.widen hkc hks ?_
  exact W.vret S.1 S.2.1 (S.2.2.2.1.trans hty) (fun t ht _ => ⟨⟨al, hal.1, hal.2, rfl, by rw [ht]; exact hP, hD⟩, hS.F ht⟩) hS.2.2 (S.2.2.2.2.2.2.2.2.1 _ _ hat) S.2.2.2.2.1
theorem gd_areturn {k : Nat} {cl : String} (hat : am_at y pc = some (.areturn, 1)) (hty : y.2.2.2.2.1 = some (.object cl)) (hkc : kc ≤ mc) (hks : ks ≤ ms) (hr : r = (some (.ref k), n, I, J, Q)) : Gd y (am_o d mc ms r) kc ks n pc L [.ref k] I J Q := by
  subst hr
  intro p l e s m args below meth c H locs ls D dA ad al al0 n0 A S hkap hal hP hD hS hl
  refine W.widen hkc hks ?_
  exact W.aret S.1 S.2.1 (S.2.2.2.1.trans hty) (Or.inl ⟨_, rfl⟩) (Or.inr ⟨_, rfl⟩) (fun t ht _ => ⟨⟨al, hal.1, hal.2, rfl, by rw [ht]; exact hP, hD⟩, hS.F ht⟩) hS.2.2 (S.2.2.2.2.2.2.2.2.1 _ _ hat) S.2.2.2.2.1
theorem gd_areturnN {cl : String} (hat : am_at y pc = some (.areturn, 1)) (hty : y.2.2.2.2.1 = some (.object cl)) (hkc : kc ≤ mc) (hks : ks ≤ ms) (hr : r = (some .null, n, I, J, Q)) : Gd y (am_o d mc ms r) kc ks n pc L [.null] I J Q := by
  subst hr
  intro p l e s m args below meth c H locs ls D dA ad al al0 n0 A S hkap hal hP hD hS hl
  refine W.widen hkc hks ?_
  exact W.aret S.1 S.2.1 (S.2.2.2.1.trans hty) (Or.inl ⟨_, rfl⟩) (Or.inl rfl) (fun t ht _ => ⟨⟨al, hal.1, hal.2, rfl, by rw [ht]; exact hP, hD⟩, hS.F ht⟩) hS.2.2 (S.2.2.2.2.2.2.2.2.1 _ _ hat) S.2.2.2.2.1
end Ends
/-! calls -/
def am_my (y : am_MD) (pn : Nat) : Prop := Cond.code y.2.1 y.2.2.1 y.2.2.2.1 y.2.2.2.2.1 ∈ lw_tbl ∧ Cond.initialized y.2.1.cls ∈ lw_tbl ∧ y.2.1.cls ≠ "java/lang/invoke/MethodHandle" ∧ y.2.1.cls ≠ "java/lang/invoke/VarHandle" ∧ (parseMethodDescriptor y.2.1.desc).map (fun d => d.parameters.length) = some pn
def am_vi (y : am_MD) : Prop := Cond.instanceMethod y.2.1 ∈ lw_tbl ∧ Cond.selects y.2.1.cls y.2.1 y.2.1 ∈ lw_tbl
def am_in0 (y : am_MD) : Prop := Cond.instanceMethod y.2.1 ∈ lw_tbl ∧ y.2.1.name = "<init>"
def am_sta (y : am_MD) : Prop := Cond.static y.2.1 ∈ lw_tbl
def am_lk (oc idx : Nat) (nb : Bool) (y : am_MD) : Prop := (if nb = true then Cond.methodLinkNest (am_cn oc) idx y.2.1 "TapeHouse" else Cond.methodLink (am_cn oc) idx y.2.1) ∈ lw_tbl
theorem am_good {y : am_MD} {pn : Nat} (h : am_my y pn) : GoodIn am_G (am_ww y) := by
  intro w hw
  rcases List.mem_cons.mp hw with rfl | hw
  · exact ⟨am_G_in h.1 rfl, good_of_word rfl⟩
  · exact ⟨hw, good_of_word (List.mem_filter.mp hw).2⟩
theorem am_callB {y y' : am_MD} {R : Room} {p : Program} {s : State} {m : MethodId} {args : Array Value} {meth : Method} {c : Code} {D : va_G} {dA : Nat → ClassId} {ad : am_AD} {A : Nat → Prop} {idx d' mc' ms' pn : Nat} (S : am_S y p s m args meth c D dA ad A) (hm : am_my y' pn) (hlk : am_lk y.1 idx false y') (hR : d' + 1 ≤ R.frames ∧ 8 + (y'.2.2.2.1 + 11) + 40 * d' ≤ R.locals) :
    CallB R s args (am_cn y.1) idx y'.2.1 y'.2.2.1 y'.2.2.2.1 y'.2.2.2.2.1 (am_ww y') (am_rm d' mc' ms') mc' ms' pn :=
  callB_of pn S.2.2.2.2.2.2.2.1 (am_good hm) rfl rfl rfl (S.2.2.2.2.2.2.2.1 _ (am_G_in hm.2.1 rfl)) (S.2.2.2.2.2.2.2.1 _ (am_G_in (by simpa [am_lk] using hlk) rfl)) hm.2.2 hR
theorem am_callN {y y' : am_MD} {R : Room} {p : Program} {s : State} {m : MethodId} {args : Array Value} {meth : Method} {c : Code} {D : va_G} {dA : Nat → ClassId} {ad : am_AD} {A : Nat → Prop} {idx d' mc' ms' pn : Nat} (S : am_S y p s m args meth c D dA ad A) (hm : am_my y' pn) (hlk : am_lk y.1 idx true y') (hR : d' + 1 ≤ R.frames ∧ 8 + (y'.2.2.2.1 + 11) + 40 * d' ≤ R.locals) :
    va_CN R s args (am_cn y.1) idx y'.2.1 "TapeHouse" y'.2.2.1 y'.2.2.2.1 y'.2.2.2.2.1 (am_ww y') (am_rm d' mc' ms') mc' ms' pn :=
  va_cnB pn S.2.2.2.2.2.2.2.1 (am_good hm) rfl rfl rfl (S.2.2.2.2.2.2.2.2.2.1.2.1 _ (am_N_in (by simpa [am_lk] using hlk) rfl)) (S.2.2.2.2.2.2.2.1 _ (am_G_in hm.2.1 rfl)) hm.2.2 hR
theorem am_sub {dA : Nat → ClassId} {al : Nat → Nat} {n : Nat} {I : am_I} {J : am_J} {Q : am_Q} {A : Nat → Prop} {H0 H : Heap} {locs : List Loc} (hD : va_D A (am_ws dA al n I J Q)) (hS : va_S A H0 H locs) (hA : ∀ q, H0.size ≤ q → A q) : ∀ q, va_A (am_ws dA al n I J Q) H.size q → A q := by
  rintro q (⟨k, e, h⟩ | h)
  · exact hD.2 k _ h
  · exact hA q (Nat.le_trans hS.1 h)
theorem am_pre {y : am_MD} {p : Program} {s : State} {m : MethodId} {args : Array Value} {meth : Method} {c : Code} {H : Heap} {locs : List Loc} {D : va_G} {dA : Nat → ClassId} {ad : am_AD} {A : Nat → Prop} {al : Nat → Nat} {n : Nat} {I : am_I} {J : am_J} {Q : am_Q} {av : List Value} (S : am_S y p s m args meth c D dA ad A) (hP : va_P D vwCl (am_ws dA al n I J Q) H) (hD : va_D A (am_ws dA al n I J Q)) (hS : va_S A s.heap H locs) :
    FrameBlind (va_Pc (av.map (am_cv al)) (fun U => U.heap.size = H.size ∧ va_P D vwCl (am_ws dA al n I J Q) U.heap ∧ va_D (fun _ => True) (am_ws dA al n I J Q) ∧ am_C D dA ad (va_A (am_ws dA al n I J Q) H.size) U)) ∧
    ∀ U : State, U.heap = H → s.WarmedH U.vm → va_Pc (av.map (am_cv al)) (fun U => U.heap.size = H.size ∧ va_P D vwCl (am_ws dA al n I J Q) U.heap ∧ va_D (fun _ => True) (am_ws dA al n I J Q) ∧ am_C D dA ad (va_A (am_ws dA al n I J Q) H.size) U) (av.map (am_cv al)).toArray U := by
  refine ⟨fun a U g mk h => ⟨h.1, h.2.1, h.2.2.1, h.2.2.2.1, h.2.2.2.2.calling⟩, fun U hU hW => ⟨rfl, by rw [hU], by rw [hU]; exact hP, hD.weaken (fun _ _ _ _ => trivial), ?_⟩⟩
  exact S.2.2.2.2.2.2.2.2.2.1.callee hS (am_sub hD hS S.2.2.2.2.2.2.2.2.2.2) hU hW
theorem am_after {p : Program} {l : Launch} {e : Env} {R : Room} {s : State} {m : MethodId} {args : Array Value} {below : List Frame} {meth : Method} {c : Code} {H : Heap} {locs : List Loc} {kc ks mc' ms' pc : Nat} {ls : Array Slot} {st0 rest : List Value} {Z : State → Prop} {D : va_G} {dA : Nat → ClassId} {A : Nat → Prop} {al : Nat → Nat} {n : Nat} {I : am_I} {J : am_J} {Q : am_Q} {r : am_R} {a : Array Value}
    (hr : va_Run p l e R s m args below meth c H locs kc ks mc' ms' (F0 m pc ls st0) rest (am_Qc D dA (va_A (am_ws dA al n I J Q) H.size) al n r a) (va_A (am_ws dA al n I J Q) H.size)) (hS : va_S A s.heap H locs) (hA : ∀ q, va_A (am_ws dA al n I J Q) H.size q → A q)
    (kk : ∀ (al' : Nat → Nat) (H1 : Heap) (locs1 : List Loc), (∀ k, k < n ∨ r.2.1 ≤ k → al' k = al k) → n ≤ r.2.1 → va_P D vwCl (am_ws dA al' r.2.1 r.2.2.1 r.2.2.2.1 r.2.2.2.2) H1 → va_D A (am_ws dA al' r.2.1 r.2.2.1 r.2.2.2.1 r.2.2.2.2) → va_S A s.heap H1 locs1 → W p l e R s m args below meth c H1 locs1 (kc + mc') (ks + ms') Z (F0 m (pc + 3) ls ((r.1.map (am_cv al')).toList ++ rest))) : W p l e R s m args below meth c H locs kc ks Z (F0 m pc ls st0) := by
  intro T hT X
  obtain ⟨v, st₀, t, T', L, h0, X', hL, e1, e2, ⟨⟨al', ha1, ha2, hv, hp, hd⟩, hz, hk⟩, st⟩ := hr T hT X
  cases hv
  rw [h0] at hz hk
  obtain ⟨t2, a1, b1⟩ := kk al' T'.heap (locs ++ L) ha1 ha2 (by rw [e1]; exact hp) (hd.weaken (fun _ _ _ h => hA _ h))
    ⟨Nat.le_trans hS.1 (by rw [e1]; exact hz), fun q h1 h2 => by rw [e1, hk q (Nat.lt_of_lt_of_le h1 hS.1) (fun z => h2 (hA q z))]; exact hS.2.1 q h1 h2, fun q hq => by
      rcases List.mem_append.mp hq with h | h
      · exact hS.2.2 q h
      · exact hA _ (hL q h)⟩ T' rfl X'
  exact ⟨t2, st t2 a1, b1⟩
theorem am_catsum (al : Nat → Nat) (st : List Value) : ((st.map (am_cv al)).map fun v => v.category) = st.map fun v => v.category := by
  rw [List.map_map]
  exact List.map_congr_left fun v _ => am_cv_cat al v
theorem am_stk (al : Nat → Nat) (As : List Value) (rest : List Value) : (As.reverse ++ rest).map (am_cv al) = (As.map (am_cv al)).reverse ++ rest.map (am_cv al) := by
  rw [List.map_append, List.map_reverse]
theorem am_cls {ci : Nat} (h : ci < 11) : ∃ r0 : vw_C, vwCl[ci]? = some r0 ∧ r0.1 = am_cn ci := by
  match ci, h with
  | 0, _ => exact ⟨_, rfl, rfl⟩
  | 1, _ => exact ⟨_, rfl, rfl⟩
  | 2, _ => exact ⟨_, rfl, rfl⟩
  | 3, _ => exact ⟨_, rfl, rfl⟩
  | 4, _ => exact ⟨_, rfl, rfl⟩
  | 5, _ => exact ⟨_, rfl, rfl⟩
  | 6, _ => exact ⟨_, rfl, rfl⟩
  | 7, _ => exact ⟨_, rfl, rfl⟩
  | 8, _ => exact ⟨_, rfl, rfl⟩
  | 9, _ => exact ⟨_, rfl, rfl⟩
  | 10, _ => exact ⟨_, rfl, rfl⟩
  | k + 11, h => exact absurd h (by omega)
section Calls
variable {y y' : am_MD} {o : am_O} {kc ks n pc q idx d' mc' ms' pn b ci : Nat} {nb : Bool} {L : List (Option Value)} {As st rest : List Value} {I I' : am_I} {J J' : am_J} {Q Q' : am_Q} {rv : Option Value}
theorem am_same {n : Nat} {al al' : Nat → Nat} (h : ∀ k, k < n ∨ n ≤ k → al' k = al k) : al' = al := funext fun k => h k (Nat.lt_or_ge k n)
theorem gd_callV (hat : am_at y pc = some (.invokevirtual idx, 3)) (hq : pc + 3 = q) (hlk : am_lk y.1 idx nb y') (hm : am_my y' pn) (hv : am_vi y') (hc : Cm y' d' mc' ms' n (.ref b :: As) I J Q (rv, n, I', J', Q')) (hst : st = As.reverse ++ .ref b :: rest) (hb : b < n) (hly : am_lay b = .inl ci) (hci : am_cn ci = y'.2.1.cls) (hci2 : ci < 11) (hn : As.length = pn) (hcat : (rest.map fun v => v.category).sum ≤ 8) (hR : d' + 1 ≤ o.1.frames ∧ 8 + (y'.2.2.2.1 + 11) + 40 * d' ≤ o.1.locals) (hf : kc + mc' ≤ o.1.cells ∧ ks + ms' ≤ o.1.slots)
    (kk : Gd y o (kc + mc') (ks + ms') n q L (rv.toList ++ rest) I' J' Q') : Gd y o kc ks n pc L st I J Q := by
  subst hq; subst hst
  intro p l e s m args below meth c H locs ls D dA ad al al0 n0 A S hkap hal hP hD hS hl
  have hpre := am_pre (av := .ref b :: As) S hP hD hS
  obtain ⟨r0, hr0, hr1⟩ : ∃ r0 : vw_C, vwCl[ci]? = some r0 ∧ r0.1 = am_cn ci := am_cls hci2
  have hrec := va_recv S.2.2.2.2.2.2.2.2.2.1.1 hP hr0 (show (am_ws dA al n I J Q)[b]? = some (al b, .inr (ci, am_fs al ci (I b) (Q b))) by rw [am_ws_at hb, am_en, hly])
  rw [hr1, hci] at hrec
  have hrun : va_Run p l e o.1 s m args below meth c H locs kc ks mc' ms' (F0 m pc ls ((As.reverse ++ .ref b :: rest).map (am_cv al))) (rest.map (am_cv al)) (am_Qc D dA (va_A (am_ws dA al n I J Q) H.size) al n (rv, n, I', J', Q') (Value.ref (al b) :: As.map (am_cv al)).toArray) (va_A (am_ws dA al n I J Q) H.size) := by
    cases nb with
    | false => exact va_runV (As := As.map (am_cv al)) ⟨S.1, S.2.1, S.2.2.1, S.2.2.2.2.2.2.1, S.2.2.2.2.2.2.2.1⟩ (hc l D dA ad al H.size) ⟨am_callB S hm hlk hR, S.2.2.2.2.2.2.2.1 _ (am_G_in hv.1 rfl), S.2.2.2.2.2.2.2.1 _ (am_G_in hv.2 rfl)⟩ ⟨hpre.1, hrec, hpre.2⟩ rfl (by rw [List.length_map]; exact hn) hl.1 (am_stk al As (.ref b :: rest)) (lv_room (by rw [am_catsum]; exact hcat)) (S.2.2.2.2.2.2.2.2.1 _ _ hat) hf
    | true => exact va_runVN (As := As.map (am_cv al)) ⟨S.1, S.2.1, S.2.2.1, S.2.2.2.2.2.2.1, S.2.2.2.2.2.2.2.1⟩ (hc l D dA ad al H.size) ⟨am_callN S hm hlk hR, S.2.2.2.2.2.2.2.1 _ (am_G_in hv.1 rfl), S.2.2.2.2.2.2.2.1 _ (am_G_in hv.2 rfl)⟩ ⟨hpre.1, hrec, hpre.2⟩ rfl (by rw [List.length_map]; exact hn) hl.1 (am_stk al As (.ref b :: rest)) (lv_room (by rw [am_catsum]; exact hcat)) (S.2.2.2.2.2.2.2.2.1 _ _ hat) hf
  refine am_after hrun hS (am_sub hD hS S.2.2.2.2.2.2.2.2.2.2) (fun al' H1 locs1 ha _ hP1 hD1 hS1 => ?_)
  have hal' : al' = al := am_same ha
  subst hal'
  have h := kk p l e s m args below meth c H1 locs1 ls D dA ad al' al0 n0 A S hkap hal hP1 hD1 hS1 hl
  rw [List.map_append, show rv.toList.map (am_cv al') = (rv.map (am_cv al')).toList by cases rv <;> rfl] at h
  exact h
theorem gd_callS (hat : am_at y pc = some (.invokestatic idx, 3)) (hq : pc + 3 = q) (hlk : am_lk y.1 idx nb y') (hm : am_my y' pn) (hv : am_sta y') (hc : Cm y' d' mc' ms' n As I J Q (rv, n, I', J', Q')) (hst : st = As.reverse ++ rest) (hn : As.length = pn) (hcat : (rest.map fun v => v.category).sum ≤ 8) (hR : d' + 1 ≤ o.1.frames ∧ 8 + (y'.2.2.2.1 + 11) + 40 * d' ≤ o.1.locals) (hf : kc + mc' ≤ o.1.cells ∧ ks + ms' ≤ o.1.slots)
    (kk : Gd y o (kc + mc') (ks + ms') n q L (rv.toList ++ rest) I' J' Q') : Gd y o kc ks n pc L st I J Q := by
  subst hq; subst hst
  intro p l e s m args below meth c H locs ls D dA ad al al0 n0 A S hkap hal hP hD hS hl
  have hpre := am_pre (av := As) S hP hD hS
  have hrun : va_Run p l e o.1 s m args below meth c H locs kc ks mc' ms' (F0 m pc ls ((As.reverse ++ rest).map (am_cv al))) (rest.map (am_cv al)) (am_Qc D dA (va_A (am_ws dA al n I J Q) H.size) al n (rv, n, I', J', Q') (As.map (am_cv al)).toArray) (va_A (am_ws dA al n I J Q) H.size) := by
    cases nb with
    | false => exact va_runS (As := As.map (am_cv al)) ⟨S.1, S.2.1, S.2.2.1, S.2.2.2.2.2.2.1, S.2.2.2.2.2.2.2.1⟩ (hc l D dA ad al H.size) ⟨am_callB S hm hlk hR, S.2.2.2.2.2.2.2.1 _ (am_G_in hv rfl)⟩ hpre rfl (by rw [List.length_map]; exact hn) hl.1 (am_stk al As rest) (lv_room (by rw [am_catsum]; exact hcat)) (S.2.2.2.2.2.2.2.2.1 _ _ hat) hf
    | true => exact va_runSN (As := As.map (am_cv al)) ⟨S.1, S.2.1, S.2.2.1, S.2.2.2.2.2.2.1, S.2.2.2.2.2.2.2.1⟩ (hc l D dA ad al H.size) ⟨am_callN S hm hlk hR, S.2.2.2.2.2.2.2.1 _ (am_G_in hv rfl), trivial⟩ hpre rfl (by rw [List.length_map]; exact hn) hl.1 (am_stk al As rest) (lv_room (by rw [am_catsum]; exact hcat)) (S.2.2.2.2.2.2.2.2.1 _ _ hat) hf
  refine am_after hrun hS (am_sub hD hS S.2.2.2.2.2.2.2.2.2.2) (fun al' H1 locs1 ha _ hP1 hD1 hS1 => ?_)
  have hal' : al' = al := am_same ha
  subst hal'
  have h := kk p l e s m args below meth c H1 locs1 ls D dA ad al' al0 n0 A S hkap hal hP1 hD1 hS1 hl
  rw [List.map_append, show rv.toList.map (am_cv al') = (rv.map (am_cv al')).toList by cases rv <;> rfl] at h
  exact h
end Calls
end
section
set_option maxRecDepth 100000 in
theorem myX0_init : am_my MX0_init 0 := ⟨List.mem_of_getElem? (i := 278) rfl, List.mem_of_getElem? (i := 76) (by decide +kernel), by decide, by decide, by decide +kernel⟩
theorem nxX0_init : am_in0 MX0_init := ⟨List.mem_of_getElem? (i := 277) (by decide +kernel), rfl⟩
set_option maxRecDepth 100000 in
theorem myX0_has : am_my MX0_has 1 := ⟨List.mem_of_getElem? (i := 815) rfl, List.mem_of_getElem? (i := 76) (by decide +kernel), by decide, by decide, by decide +kernel⟩
theorem vxX0_has : am_vi MX0_has := ⟨List.mem_of_getElem? (i := 813) (by decide +kernel), List.mem_of_getElem? (i := 814) (by decide +kernel)⟩
set_option maxRecDepth 100000 in
theorem myX0_add : am_my MX0_add 1 := ⟨List.mem_of_getElem? (i := 685) rfl, List.mem_of_getElem? (i := 76) (by decide +kernel), by decide, by decide, by decide +kernel⟩
theorem vxX0_add : am_vi MX0_add := ⟨List.mem_of_getElem? (i := 683) (by decide +kernel), List.mem_of_getElem? (i := 684) (by decide +kernel)⟩
set_option maxRecDepth 100000 in
theorem myX0_kindOf : am_my MX0_kindOf 1 := ⟨List.mem_of_getElem? (i := 824) rfl, List.mem_of_getElem? (i := 76) (by decide +kernel), by decide, by decide, by decide +kernel⟩
theorem vxX0_kindOf : am_vi MX0_kindOf := ⟨List.mem_of_getElem? (i := 822) (by decide +kernel), List.mem_of_getElem? (i := 823) (by decide +kernel)⟩
set_option maxRecDepth 100000 in
theorem myX0_wayOf : am_my MX0_wayOf 2 := ⟨List.mem_of_getElem? (i := 837) rfl, List.mem_of_getElem? (i := 76) (by decide +kernel), by decide, by decide, by decide +kernel⟩
theorem vxX0_wayOf : am_vi MX0_wayOf := ⟨List.mem_of_getElem? (i := 835) (by decide +kernel), List.mem_of_getElem? (i := 836) (by decide +kernel)⟩
set_option maxRecDepth 100000 in
theorem myX0_hear : am_my MX0_hear 3 := ⟨List.mem_of_getElem? (i := 857) rfl, List.mem_of_getElem? (i := 76) (by decide +kernel), by decide, by decide, by decide +kernel⟩
theorem vxX0_hear : am_vi MX0_hear := ⟨List.mem_of_getElem? (i := 855) (by decide +kernel), List.mem_of_getElem? (i := 856) (by decide +kernel)⟩
set_option maxRecDepth 100000 in
theorem myX1_init : am_my MX1_init 0 := ⟨List.mem_of_getElem? (i := 327) rfl, List.mem_of_getElem? (i := 78) (by decide +kernel), by decide, by decide, by decide +kernel⟩
theorem nxX1_init : am_in0 MX1_init := ⟨List.mem_of_getElem? (i := 326) (by decide +kernel), rfl⟩
set_option maxRecDepth 100000 in
theorem myX1_codeOf : am_my MX1_codeOf 1 := ⟨List.mem_of_getElem? (i := 595) rfl, List.mem_of_getElem? (i := 78) (by decide +kernel), by decide, by decide, by decide +kernel⟩
theorem sxX1_codeOf : am_sta MX1_codeOf := List.mem_of_getElem? (i := 594) (by decide +kernel)
set_option maxRecDepth 100000 in
theorem myX1_clear : am_my MX1_clear 0 := ⟨List.mem_of_getElem? (i := 453) rfl, List.mem_of_getElem? (i := 78) (by decide +kernel), by decide, by decide, by decide +kernel⟩
theorem vxX1_clear : am_vi MX1_clear := ⟨List.mem_of_getElem? (i := 451) (by decide +kernel), List.mem_of_getElem? (i := 452) (by decide +kernel)⟩
set_option maxRecDepth 100000 in
theorem myX1_addRule : am_my MX1_addRule 1 := ⟨List.mem_of_getElem? (i := 572) rfl, List.mem_of_getElem? (i := 78) (by decide +kernel), by decide, by decide, by decide +kernel⟩
theorem vxX1_addRule : am_vi MX1_addRule := ⟨List.mem_of_getElem? (i := 570) (by decide +kernel), List.mem_of_getElem? (i := 571) (by decide +kernel)⟩
set_option maxRecDepth 100000 in
theorem myX1_addCell : am_my MX1_addCell 1 := ⟨List.mem_of_getElem? (i := 580) rfl, List.mem_of_getElem? (i := 78) (by decide +kernel), by decide, by decide, by decide +kernel⟩
theorem vxX1_addCell : am_vi MX1_addCell := ⟨List.mem_of_getElem? (i := 578) (by decide +kernel), List.mem_of_getElem? (i := 579) (by decide +kernel)⟩
set_option maxRecDepth 100000 in
theorem myX1_addLiteral : am_my MX1_addLiteral 2 := ⟨List.mem_of_getElem? (i := 584) rfl, List.mem_of_getElem? (i := 78) (by decide +kernel), by decide, by decide, by decide +kernel⟩
theorem vxX1_addLiteral : am_vi MX1_addLiteral := ⟨List.mem_of_getElem? (i := 582) (by decide +kernel), List.mem_of_getElem? (i := 583) (by decide +kernel)⟩
set_option maxRecDepth 100000 in
theorem myX1_firstCell : am_my MX1_firstCell 1 := ⟨List.mem_of_getElem? (i := 588) rfl, List.mem_of_getElem? (i := 78) (by decide +kernel), by decide, by decide, by decide +kernel⟩
theorem vxX1_firstCell : am_vi MX1_firstCell := ⟨List.mem_of_getElem? (i := 587) (by decide +kernel), List.mem_of_getElem? (i := 11) (by decide +kernel)⟩
set_option maxRecDepth 100000 in
theorem myX1_hasDay : am_my MX1_hasDay 2 := ⟨List.mem_of_getElem? (i := 592) rfl, List.mem_of_getElem? (i := 78) (by decide +kernel), by decide, by decide, by decide +kernel⟩
theorem vxX1_hasDay : am_vi MX1_hasDay := ⟨List.mem_of_getElem? (i := 591) (by decide +kernel), List.mem_of_getElem? (i := 12) (by decide +kernel)⟩
set_option maxRecDepth 100000 in
theorem myX1_letBy : am_my MX1_letBy 1 := ⟨List.mem_of_getElem? (i := 764) rfl, List.mem_of_getElem? (i := 78) (by decide +kernel), by decide, by decide, by decide +kernel⟩
theorem vxX1_letBy : am_vi MX1_letBy := ⟨List.mem_of_getElem? (i := 762) (by decide +kernel), List.mem_of_getElem? (i := 763) (by decide +kernel)⟩
set_option maxRecDepth 100000 in
theorem myX1_maskedBy : am_my MX1_maskedBy 1 := ⟨List.mem_of_getElem? (i := 803) rfl, List.mem_of_getElem? (i := 78) (by decide +kernel), by decide, by decide, by decide +kernel⟩
theorem vxX1_maskedBy : am_vi MX1_maskedBy := ⟨List.mem_of_getElem? (i := 801) (by decide +kernel), List.mem_of_getElem? (i := 802) (by decide +kernel)⟩
set_option maxRecDepth 100000 in
theorem myX1_holds : am_my MX1_holds 2 := ⟨List.mem_of_getElem? (i := 768) rfl, List.mem_of_getElem? (i := 78) (by decide +kernel), by decide, by decide, by decide +kernel⟩
theorem vxX1_holds : am_vi MX1_holds := ⟨List.mem_of_getElem? (i := 767) (by decide +kernel), List.mem_of_getElem? (i := 19) (by decide +kernel)⟩
set_option maxRecDepth 100000 in
theorem myX1_literalHolds : am_my MX1_literalHolds 2 := ⟨List.mem_of_getElem? (i := 772) rfl, List.mem_of_getElem? (i := 78) (by decide +kernel), by decide, by decide, by decide +kernel⟩
theorem vxX1_literalHolds : am_vi MX1_literalHolds := ⟨List.mem_of_getElem? (i := 771) (by decide +kernel), List.mem_of_getElem? (i := 20) (by decide +kernel)⟩
set_option maxRecDepth 100000 in
theorem myX1_testHolds : am_my MX1_testHolds 2 := ⟨List.mem_of_getElem? (i := 776) rfl, List.mem_of_getElem? (i := 78) (by decide +kernel), by decide, by decide, by decide +kernel⟩
theorem vxX1_testHolds : am_vi MX1_testHolds := ⟨List.mem_of_getElem? (i := 775) (by decide +kernel), List.mem_of_getElem? (i := 21) (by decide +kernel)⟩
set_option maxRecDepth 100000 in
theorem myX2_init : am_my MX2_init 0 := ⟨List.mem_of_getElem? (i := 128) rfl, List.mem_of_getElem? (i := 71) (by decide +kernel), by decide, by decide, by decide +kernel⟩
theorem nxX2_init : am_in0 MX2_init := ⟨List.mem_of_getElem? (i := 127) (by decide +kernel), rfl⟩
set_option maxRecDepth 100000 in
theorem myX2_parse : am_my MX2_parse 3 := ⟨List.mem_of_getElem? (i := 441) rfl, List.mem_of_getElem? (i := 71) (by decide +kernel), by decide, by decide, by decide +kernel⟩
theorem vxX2_parse : am_vi MX2_parse := ⟨List.mem_of_getElem? (i := 439) (by decide +kernel), List.mem_of_getElem? (i := 440) (by decide +kernel)⟩
set_option maxRecDepth 100000 in
theorem myX2_begin : am_my MX2_begin 0 := ⟨List.mem_of_getElem? (i := 445) rfl, List.mem_of_getElem? (i := 71) (by decide +kernel), by decide, by decide, by decide +kernel⟩
theorem vxX2_begin : am_vi MX2_begin := ⟨List.mem_of_getElem? (i := 444) (by decide +kernel), List.mem_of_getElem? (i := 1) (by decide +kernel)⟩
set_option maxRecDepth 100000 in
theorem myX2_faultOf : am_my MX2_faultOf 3 := ⟨List.mem_of_getElem? (i := 538) rfl, List.mem_of_getElem? (i := 71) (by decide +kernel), by decide, by decide, by decide +kernel⟩
theorem vxX2_faultOf : am_vi MX2_faultOf := ⟨List.mem_of_getElem? (i := 537) (by decide +kernel), List.mem_of_getElem? (i := 6) (by decide +kernel)⟩
set_option maxRecDepth 100000 in
theorem myX2_goesOn : am_my MX2_goesOn 1 := ⟨List.mem_of_getElem? (i := 542) rfl, List.mem_of_getElem? (i := 71) (by decide +kernel), by decide, by decide, by decide +kernel⟩
theorem vxX2_goesOn : am_vi MX2_goesOn := ⟨List.mem_of_getElem? (i := 541) (by decide +kernel), List.mem_of_getElem? (i := 7) (by decide +kernel)⟩
set_option maxRecDepth 100000 in
theorem myX2_endsSide : am_my MX2_endsSide 1 := ⟨List.mem_of_getElem? (i := 561) rfl, List.mem_of_getElem? (i := 71) (by decide +kernel), by decide, by decide, by decide +kernel⟩
theorem vxX2_endsSide : am_vi MX2_endsSide := ⟨List.mem_of_getElem? (i := 560) (by decide +kernel), List.mem_of_getElem? (i := 8) (by decide +kernel)⟩
set_option maxRecDepth 100000 in
theorem myX2_isHead : am_my MX2_isHead 1 := ⟨List.mem_of_getElem? (i := 545) rfl, List.mem_of_getElem? (i := 71) (by decide +kernel), by decide, by decide, by decide +kernel⟩
theorem sxX2_isHead : am_sta MX2_isHead := List.mem_of_getElem? (i := 544) (by decide +kernel)
set_option maxRecDepth 100000 in
theorem myX2_startsUnit : am_my MX2_startsUnit 1 := ⟨List.mem_of_getElem? (i := 548) rfl, List.mem_of_getElem? (i := 71) (by decide +kernel), by decide, by decide, by decide +kernel⟩
theorem sxX2_startsUnit : am_sta MX2_startsUnit := List.mem_of_getElem? (i := 547) (by decide +kernel)
set_option maxRecDepth 100000 in
theorem myX2_isComparison : am_my MX2_isComparison 1 := ⟨List.mem_of_getElem? (i := 564) rfl, List.mem_of_getElem? (i := 71) (by decide +kernel), by decide, by decide, by decide +kernel⟩
theorem sxX2_isComparison : am_sta MX2_isComparison := List.mem_of_getElem? (i := 563) (by decide +kernel)
set_option maxRecDepth 100000 in
theorem myX2_endsLiteral : am_my MX2_endsLiteral 1 := ⟨List.mem_of_getElem? (i := 554) rfl, List.mem_of_getElem? (i := 71) (by decide +kernel), by decide, by decide, by decide +kernel⟩
theorem sxX2_endsLiteral : am_sta MX2_endsLiteral := List.mem_of_getElem? (i := 553) (by decide +kernel)
set_option maxRecDepth 100000 in
theorem myX2_take : am_my MX2_take 3 := ⟨List.mem_of_getElem? (i := 568) rfl, List.mem_of_getElem? (i := 71) (by decide +kernel), by decide, by decide, by decide +kernel⟩
theorem vxX2_take : am_vi MX2_take := ⟨List.mem_of_getElem? (i := 567) (by decide +kernel), List.mem_of_getElem? (i := 9) (by decide +kernel)⟩
set_option maxRecDepth 100000 in
theorem myX2_takeTopic : am_my MX2_takeTopic 3 := ⟨List.mem_of_getElem? (i := 576) rfl, List.mem_of_getElem? (i := 71) (by decide +kernel), by decide, by decide, by decide +kernel⟩
theorem vxX2_takeTopic : am_vi MX2_takeTopic := ⟨List.mem_of_getElem? (i := 575) (by decide +kernel), List.mem_of_getElem? (i := 10) (by decide +kernel)⟩
set_option maxRecDepth 100000 in
theorem myX2_takeBracket : am_my MX2_takeBracket 2 := ⟨List.mem_of_getElem? (i := 600) rfl, List.mem_of_getElem? (i := 71) (by decide +kernel), by decide, by decide, by decide +kernel⟩
theorem vxX2_takeBracket : am_vi MX2_takeBracket := ⟨List.mem_of_getElem? (i := 599) (by decide +kernel), List.mem_of_getElem? (i := 13) (by decide +kernel)⟩
set_option maxRecDepth 100000 in
theorem myX2_takeLiteralEnd : am_my MX2_takeLiteralEnd 2 := ⟨List.mem_of_getElem? (i := 612) rfl, List.mem_of_getElem? (i := 71) (by decide +kernel), by decide, by decide, by decide +kernel⟩
theorem vxX2_takeLiteralEnd : am_vi MX2_takeLiteralEnd := ⟨List.mem_of_getElem? (i := 611) (by decide +kernel), List.mem_of_getElem? (i := 16) (by decide +kernel)⟩
set_option maxRecDepth 100000 in
theorem myX2_hold : am_my MX2_hold 1 := ⟨List.mem_of_getElem? (i := 604) rfl, List.mem_of_getElem? (i := 71) (by decide +kernel), by decide, by decide, by decide +kernel⟩
theorem vxX2_hold : am_vi MX2_hold := ⟨List.mem_of_getElem? (i := 603) (by decide +kernel), List.mem_of_getElem? (i := 14) (by decide +kernel)⟩
set_option maxRecDepth 100000 in
theorem myX2_unload : am_my MX2_unload 2 := ⟨List.mem_of_getElem? (i := 608) rfl, List.mem_of_getElem? (i := 71) (by decide +kernel), by decide, by decide, by decide +kernel⟩
theorem vxX2_unload : am_vi MX2_unload := ⟨List.mem_of_getElem? (i := 607) (by decide +kernel), List.mem_of_getElem? (i := 15) (by decide +kernel)⟩
set_option maxRecDepth 100000 in
theorem myX3_init : am_my MX3_init 0 := ⟨List.mem_of_getElem? (i := 161) rfl, List.mem_of_getElem? (i := 72) (by decide +kernel), by decide, by decide, by decide +kernel⟩
theorem nxX3_init : am_in0 MX3_init := ⟨List.mem_of_getElem? (i := 160) (by decide +kernel), rfl⟩
set_option maxRecDepth 100000 in
theorem myX3_begin : am_my MX3_begin 3 := ⟨List.mem_of_getElem? (i := 743) rfl, List.mem_of_getElem? (i := 72) (by decide +kernel), by decide, by decide, by decide +kernel⟩
theorem vxX3_begin : am_vi MX3_begin := ⟨List.mem_of_getElem? (i := 741) (by decide +kernel), List.mem_of_getElem? (i := 742) (by decide +kernel)⟩
set_option maxRecDepth 100000 in
theorem myX3_give : am_my MX3_give 2 := ⟨List.mem_of_getElem? (i := 750) rfl, List.mem_of_getElem? (i := 72) (by decide +kernel), by decide, by decide, by decide +kernel⟩
theorem vxX3_give : am_vi MX3_give := ⟨List.mem_of_getElem? (i := 748) (by decide +kernel), List.mem_of_getElem? (i := 749) (by decide +kernel)⟩
set_option maxRecDepth 100000 in
theorem myX3_turnTo : am_my MX3_turnTo 1 := ⟨List.mem_of_getElem? (i := 755) rfl, List.mem_of_getElem? (i := 72) (by decide +kernel), by decide, by decide, by decide +kernel⟩
theorem vxX3_turnTo : am_vi MX3_turnTo := ⟨List.mem_of_getElem? (i := 753) (by decide +kernel), List.mem_of_getElem? (i := 754) (by decide +kernel)⟩
set_option maxRecDepth 100000 in
theorem myX3_isInTopic : am_my MX3_isInTopic 1 := ⟨List.mem_of_getElem? (i := 794) rfl, List.mem_of_getElem? (i := 72) (by decide +kernel), by decide, by decide, by decide +kernel⟩
theorem vxX3_isInTopic : am_vi MX3_isInTopic := ⟨List.mem_of_getElem? (i := 792) (by decide +kernel), List.mem_of_getElem? (i := 793) (by decide +kernel)⟩
set_option maxRecDepth 100000 in
theorem myX3_takeCell : am_my MX3_takeCell 1 := ⟨List.mem_of_getElem? (i := 780) rfl, List.mem_of_getElem? (i := 72) (by decide +kernel), by decide, by decide, by decide +kernel⟩
theorem vxX3_takeCell : am_vi MX3_takeCell := ⟨List.mem_of_getElem? (i := 778) (by decide +kernel), List.mem_of_getElem? (i := 779) (by decide +kernel)⟩
set_option maxRecDepth 100000 in
theorem myX3_push : am_my MX3_push 1 := ⟨List.mem_of_getElem? (i := 789) rfl, List.mem_of_getElem? (i := 72) (by decide +kernel), by decide, by decide, by decide +kernel⟩
theorem vxX3_push : am_vi MX3_push := ⟨List.mem_of_getElem? (i := 788) (by decide +kernel), List.mem_of_getElem? (i := 22) (by decide +kernel)⟩
set_option maxRecDepth 100000 in
theorem myX3_pop : am_my MX3_pop 0 := ⟨List.mem_of_getElem? (i := 785) rfl, List.mem_of_getElem? (i := 72) (by decide +kernel), by decide, by decide, by decide +kernel⟩
theorem vxX3_pop : am_vi MX3_pop := ⟨List.mem_of_getElem? (i := 783) (by decide +kernel), List.mem_of_getElem? (i := 784) (by decide +kernel)⟩
set_option maxRecDepth 100000 in
theorem myX4_init : am_my MX4_init 0 := ⟨List.mem_of_getElem? (i := 227) rfl, List.mem_of_getElem? (i := 75) (by decide +kernel), by decide, by decide, by decide +kernel⟩
theorem nxX4_init : am_in0 MX4_init := ⟨List.mem_of_getElem? (i := 226) (by decide +kernel), rfl⟩
set_option maxRecDepth 100000 in
theorem myX4_has : am_my MX4_has 1 := ⟨List.mem_of_getElem? (i := 713) rfl, List.mem_of_getElem? (i := 75) (by decide +kernel), by decide, by decide, by decide +kernel⟩
theorem vxX4_has : am_vi MX4_has := ⟨List.mem_of_getElem? (i := 711) (by decide +kernel), List.mem_of_getElem? (i := 712) (by decide +kernel)⟩
set_option maxRecDepth 100000 in
theorem myX4_addTape : am_my MX4_addTape 3 := ⟨List.mem_of_getElem? (i := 664) rfl, List.mem_of_getElem? (i := 75) (by decide +kernel), by decide, by decide, by decide +kernel⟩
theorem vxX4_addTape : am_vi MX4_addTape := ⟨List.mem_of_getElem? (i := 662) (by decide +kernel), List.mem_of_getElem? (i := 663) (by decide +kernel)⟩
set_option maxRecDepth 100000 in
theorem myX4_isFree : am_my MX4_isFree 3 := ⟨List.mem_of_getElem? (i := 672) rfl, List.mem_of_getElem? (i := 75) (by decide +kernel), by decide, by decide, by decide +kernel⟩
theorem vxX4_isFree : am_vi MX4_isFree := ⟨List.mem_of_getElem? (i := 670) (by decide +kernel), List.mem_of_getElem? (i := 671) (by decide +kernel)⟩
set_option maxRecDepth 100000 in
theorem myX4_addPiece : am_my MX4_addPiece 6 := ⟨List.mem_of_getElem? (i := 677) rfl, List.mem_of_getElem? (i := 75) (by decide +kernel), by decide, by decide, by decide +kernel⟩
theorem vxX4_addPiece : am_vi MX4_addPiece := ⟨List.mem_of_getElem? (i := 675) (by decide +kernel), List.mem_of_getElem? (i := 676) (by decide +kernel)⟩
set_option maxRecDepth 100000 in
theorem myX4_takeBack : am_my MX4_takeBack 2 := ⟨List.mem_of_getElem? (i := 709) rfl, List.mem_of_getElem? (i := 75) (by decide +kernel), by decide, by decide, by decide +kernel⟩
theorem vxX4_takeBack : am_vi MX4_takeBack := ⟨List.mem_of_getElem? (i := 707) (by decide +kernel), List.mem_of_getElem? (i := 708) (by decide +kernel)⟩
set_option maxRecDepth 100000 in
theorem myX4_speakerOf : am_my MX4_speakerOf 1 := ⟨List.mem_of_getElem? (i := 730) rfl, List.mem_of_getElem? (i := 75) (by decide +kernel), by decide, by decide, by decide +kernel⟩
theorem vxX4_speakerOf : am_vi MX4_speakerOf := ⟨List.mem_of_getElem? (i := 728) (by decide +kernel), List.mem_of_getElem? (i := 729) (by decide +kernel)⟩
set_option maxRecDepth 100000 in
theorem myX4_madeOn : am_my MX4_madeOn 1 := ⟨List.mem_of_getElem? (i := 734) rfl, List.mem_of_getElem? (i := 75) (by decide +kernel), by decide, by decide, by decide +kernel⟩
theorem vxX4_madeOn : am_vi MX4_madeOn := ⟨List.mem_of_getElem? (i := 732) (by decide +kernel), List.mem_of_getElem? (i := 733) (by decide +kernel)⟩
set_option maxRecDepth 100000 in
theorem myX4_pieceAt : am_my MX4_pieceAt 2 := ⟨List.mem_of_getElem? (i := 882) rfl, List.mem_of_getElem? (i := 75) (by decide +kernel), by decide, by decide, by decide +kernel⟩
theorem vxX4_pieceAt : am_vi MX4_pieceAt := ⟨List.mem_of_getElem? (i := 880) (by decide +kernel), List.mem_of_getElem? (i := 881) (by decide +kernel)⟩
set_option maxRecDepth 100000 in
theorem myX5_init : am_my MX5_init 0 := ⟨List.mem_of_getElem? (i := 295) rfl, List.mem_of_getElem? (i := 77) (by decide +kernel), by decide, by decide, by decide +kernel⟩
theorem nxX5_init : am_in0 MX5_init := ⟨List.mem_of_getElem? (i := 294) (by decide +kernel), rfl⟩
set_option maxRecDepth 100000 in
theorem myX5_add : am_my MX5_add 5 := ⟨List.mem_of_getElem? (i := 893) rfl, List.mem_of_getElem? (i := 77) (by decide +kernel), by decide, by decide, by decide +kernel⟩
theorem vxX5_add : am_vi MX5_add := ⟨List.mem_of_getElem? (i := 891) (by decide +kernel), List.mem_of_getElem? (i := 892) (by decide +kernel)⟩
set_option maxRecDepth 100000 in
theorem myX5_leftOut : am_my MX5_leftOut 1 := ⟨List.mem_of_getElem? (i := 942) rfl, List.mem_of_getElem? (i := 77) (by decide +kernel), by decide, by decide, by decide +kernel⟩
theorem vxX5_leftOut : am_vi MX5_leftOut := ⟨List.mem_of_getElem? (i := 940) (by decide +kernel), List.mem_of_getElem? (i := 941) (by decide +kernel)⟩
set_option maxRecDepth 100000 in
theorem myX5_dayOf : am_my MX5_dayOf 3 := ⟨List.mem_of_getElem? (i := 950) rfl, List.mem_of_getElem? (i := 77) (by decide +kernel), by decide, by decide, by decide +kernel⟩
theorem vxX5_dayOf : am_vi MX5_dayOf := ⟨List.mem_of_getElem? (i := 948) (by decide +kernel), List.mem_of_getElem? (i := 949) (by decide +kernel)⟩
set_option maxRecDepth 100000 in
theorem myX5_findLeftOut : am_my MX5_findLeftOut 0 := ⟨List.mem_of_getElem? (i := 897) rfl, List.mem_of_getElem? (i := 77) (by decide +kernel), by decide, by decide, by decide +kernel⟩
theorem vxX5_findLeftOut : am_vi MX5_findLeftOut := ⟨List.mem_of_getElem? (i := 896) (by decide +kernel), List.mem_of_getElem? (i := 29) (by decide +kernel)⟩
set_option maxRecDepth 100000 in
theorem myX5_settle : am_my MX5_settle 3 := ⟨List.mem_of_getElem? (i := 907) rfl, List.mem_of_getElem? (i := 77) (by decide +kernel), by decide, by decide, by decide +kernel⟩
theorem vxX5_settle : am_vi MX5_settle := ⟨List.mem_of_getElem? (i := 906) (by decide +kernel), List.mem_of_getElem? (i := 30) (by decide +kernel)⟩
set_option maxRecDepth 100000 in
theorem myX5_pushDays : am_my MX5_pushDays 2 := ⟨List.mem_of_getElem? (i := 914) rfl, List.mem_of_getElem? (i := 77) (by decide +kernel), by decide, by decide, by decide +kernel⟩
theorem vxX5_pushDays : am_vi MX5_pushDays := ⟨List.mem_of_getElem? (i := 913) (by decide +kernel), List.mem_of_getElem? (i := 31) (by decide +kernel)⟩
set_option maxRecDepth 100000 in
theorem myX5_pushTo : am_my MX5_pushTo 2 := ⟨List.mem_of_getElem? (i := 918) rfl, List.mem_of_getElem? (i := 77) (by decide +kernel), by decide, by decide, by decide +kernel⟩
theorem vxX5_pushTo : am_vi MX5_pushTo := ⟨List.mem_of_getElem? (i := 917) (by decide +kernel), List.mem_of_getElem? (i := 32) (by decide +kernel)⟩
set_option maxRecDepth 100000 in
theorem myX5_areWithin : am_my MX5_areWithin 3 := ⟨List.mem_of_getElem? (i := 923) rfl, List.mem_of_getElem? (i := 77) (by decide +kernel), by decide, by decide, by decide +kernel⟩
theorem vxX5_areWithin : am_vi MX5_areWithin := ⟨List.mem_of_getElem? (i := 922) (by decide +kernel), List.mem_of_getElem? (i := 33) (by decide +kernel)⟩
set_option maxRecDepth 100000 in
theorem myX6_init : am_my MX6_init 0 := ⟨List.mem_of_getElem? (i := 98) rfl, List.mem_of_getElem? (i := 70) (by decide +kernel), by decide, by decide, by decide +kernel⟩
theorem nxX6_init : am_in0 MX6_init := ⟨List.mem_of_getElem? (i := 97) (by decide +kernel), rfl⟩
set_option maxRecDepth 100000 in
theorem myX6_addTwenty : am_my MX6_addTwenty 5 := ⟨List.mem_of_getElem? (i := 414) rfl, List.mem_of_getElem? (i := 70) (by decide +kernel), by decide, by decide, by decide +kernel⟩
theorem vxX6_addTwenty : am_vi MX6_addTwenty := ⟨List.mem_of_getElem? (i := 412) (by decide +kernel), List.mem_of_getElem? (i := 413) (by decide +kernel)⟩
set_option maxRecDepth 100000 in
theorem myX6_addFour : am_my MX6_addFour 1 := ⟨List.mem_of_getElem? (i := 418) rfl, List.mem_of_getElem? (i := 70) (by decide +kernel), by decide, by decide, by decide +kernel⟩
theorem vxX6_addFour : am_vi MX6_addFour := ⟨List.mem_of_getElem? (i := 417) (by decide +kernel), List.mem_of_getElem? (i := 0) (by decide +kernel)⟩
set_option maxRecDepth 100000 in
theorem myX6_drop : am_my MX6_drop 1 := ⟨List.mem_of_getElem? (i := 426) rfl, List.mem_of_getElem? (i := 70) (by decide +kernel), by decide, by decide, by decide +kernel⟩
theorem vxX6_drop : am_vi MX6_drop := ⟨List.mem_of_getElem? (i := 424) (by decide +kernel), List.mem_of_getElem? (i := 425) (by decide +kernel)⟩
set_option maxRecDepth 100000 in
theorem myX6_clear : am_my MX6_clear 0 := ⟨List.mem_of_getElem? (i := 621) rfl, List.mem_of_getElem? (i := 70) (by decide +kernel), by decide, by decide, by decide +kernel⟩
theorem vxX6_clear : am_vi MX6_clear := ⟨List.mem_of_getElem? (i := 619) (by decide +kernel), List.mem_of_getElem? (i := 620) (by decide +kernel)⟩
set_option maxRecDepth 100000 in
theorem myX6_rewind : am_my MX6_rewind 0 := ⟨List.mem_of_getElem? (i := 449) rfl, List.mem_of_getElem? (i := 70) (by decide +kernel), by decide, by decide, by decide +kernel⟩
theorem vxX6_rewind : am_vi MX6_rewind := ⟨List.mem_of_getElem? (i := 447) (by decide +kernel), List.mem_of_getElem? (i := 448) (by decide +kernel)⟩
set_option maxRecDepth 100000 in
theorem myX6_advance : am_my MX6_advance 0 := ⟨List.mem_of_getElem? (i := 457) rfl, List.mem_of_getElem? (i := 70) (by decide +kernel), by decide, by decide, by decide +kernel⟩
theorem vxX6_advance : am_vi MX6_advance := ⟨List.mem_of_getElem? (i := 455) (by decide +kernel), List.mem_of_getElem? (i := 456) (by decide +kernel)⟩
set_option maxRecDepth 100000 in
theorem myX6_isBlank : am_my MX6_isBlank 1 := ⟨List.mem_of_getElem? (i := 460) rfl, List.mem_of_getElem? (i := 70) (by decide +kernel), by decide, by decide, by decide +kernel⟩
theorem sxX6_isBlank : am_sta MX6_isBlank := List.mem_of_getElem? (i := 459) (by decide +kernel)
set_option maxRecDepth 100000 in
theorem myX6_isLetter : am_my MX6_isLetter 1 := ⟨List.mem_of_getElem? (i := 463) rfl, List.mem_of_getElem? (i := 70) (by decide +kernel), by decide, by decide, by decide +kernel⟩
theorem sxX6_isLetter : am_sta MX6_isLetter := List.mem_of_getElem? (i := 462) (by decide +kernel)
set_option maxRecDepth 100000 in
theorem myX6_isDigit : am_my MX6_isDigit 1 := ⟨List.mem_of_getElem? (i := 523) rfl, List.mem_of_getElem? (i := 70) (by decide +kernel), by decide, by decide, by decide +kernel⟩
theorem sxX6_isDigit : am_sta MX6_isDigit := List.mem_of_getElem? (i := 522) (by decide +kernel)
set_option maxRecDepth 100000 in
theorem myX6_takeWord : am_my MX6_takeWord 0 := ⟨List.mem_of_getElem? (i := 467) rfl, List.mem_of_getElem? (i := 70) (by decide +kernel), by decide, by decide, by decide +kernel⟩
theorem vxX6_takeWord : am_vi MX6_takeWord := ⟨List.mem_of_getElem? (i := 466) (by decide +kernel), List.mem_of_getElem? (i := 2) (by decide +kernel)⟩
set_option maxRecDepth 100000 in
theorem myX6_wordOf : am_my MX6_wordOf 2 := ⟨List.mem_of_getElem? (i := 471) rfl, List.mem_of_getElem? (i := 70) (by decide +kernel), by decide, by decide, by decide +kernel⟩
theorem vxX6_wordOf : am_vi MX6_wordOf := ⟨List.mem_of_getElem? (i := 470) (by decide +kernel), List.mem_of_getElem? (i := 3) (by decide +kernel)⟩
set_option maxRecDepth 100000 in
theorem myX6_takeInt : am_my MX6_takeInt 0 := ⟨List.mem_of_getElem? (i := 527) rfl, List.mem_of_getElem? (i := 70) (by decide +kernel), by decide, by decide, by decide +kernel⟩
theorem vxX6_takeInt : am_vi MX6_takeInt := ⟨List.mem_of_getElem? (i := 526) (by decide +kernel), List.mem_of_getElem? (i := 4) (by decide +kernel)⟩
set_option maxRecDepth 100000 in
theorem myX6_takeSign : am_my MX6_takeSign 1 := ⟨List.mem_of_getElem? (i := 531) rfl, List.mem_of_getElem? (i := 70) (by decide +kernel), by decide, by decide, by decide +kernel⟩
theorem vxX6_takeSign : am_vi MX6_takeSign := ⟨List.mem_of_getElem? (i := 530) (by decide +kernel), List.mem_of_getElem? (i := 5) (by decide +kernel)⟩
set_option maxRecDepth 100000 in
theorem myX6_signOf : am_my MX6_signOf 2 := ⟨List.mem_of_getElem? (i := 534) rfl, List.mem_of_getElem? (i := 70) (by decide +kernel), by decide, by decide, by decide +kernel⟩
theorem sxX6_signOf : am_sta MX6_signOf := List.mem_of_getElem? (i := 533) (by decide +kernel)
set_option maxRecDepth 100000 in
theorem myX7_init : am_my MX7_init 0 := ⟨List.mem_of_getElem? (i := 213) rfl, List.mem_of_getElem? (i := 74) (by decide +kernel), by decide, by decide, by decide +kernel⟩
theorem nxX7_init : am_in0 MX7_init := ⟨List.mem_of_getElem? (i := 212) (by decide +kernel), rfl⟩
set_option maxRecDepth 100000 in
theorem myX7_has : am_my MX7_has 1 := ⟨List.mem_of_getElem? (i := 643) rfl, List.mem_of_getElem? (i := 74) (by decide +kernel), by decide, by decide, by decide +kernel⟩
theorem vxX7_has : am_vi MX7_has := ⟨List.mem_of_getElem? (i := 641) (by decide +kernel), List.mem_of_getElem? (i := 642) (by decide +kernel)⟩
set_option maxRecDepth 100000 in
theorem myX7_add : am_my MX7_add 1 := ⟨List.mem_of_getElem? (i := 648) rfl, List.mem_of_getElem? (i := 74) (by decide +kernel), by decide, by decide, by decide +kernel⟩
theorem vxX7_add : am_vi MX7_add := ⟨List.mem_of_getElem? (i := 646) (by decide +kernel), List.mem_of_getElem? (i := 647) (by decide +kernel)⟩
set_option maxRecDepth 100000 in
theorem myX7_lineOf : am_my MX7_lineOf 1 := ⟨List.mem_of_getElem? (i := 652) rfl, List.mem_of_getElem? (i := 74) (by decide +kernel), by decide, by decide, by decide +kernel⟩
theorem vxX7_lineOf : am_vi MX7_lineOf := ⟨List.mem_of_getElem? (i := 650) (by decide +kernel), List.mem_of_getElem? (i := 651) (by decide +kernel)⟩
set_option maxRecDepth 100000 in
theorem myX8_init : am_my MX8_init 0 := ⟨List.mem_of_getElem? (i := 191) rfl, List.mem_of_getElem? (i := 73) (by decide +kernel), by decide, by decide, by decide +kernel⟩
theorem nxX8_init : am_in0 MX8_init := ⟨List.mem_of_getElem? (i := 190) (by decide +kernel), rfl⟩
set_option maxRecDepth 100000 in
theorem myX8_has : am_my MX8_has 1 := ⟨List.mem_of_getElem? (i := 434) rfl, List.mem_of_getElem? (i := 73) (by decide +kernel), by decide, by decide, by decide +kernel⟩
theorem vxX8_has : am_vi MX8_has := ⟨List.mem_of_getElem? (i := 432) (by decide +kernel), List.mem_of_getElem? (i := 433) (by decide +kernel)⟩
set_option maxRecDepth 100000 in
theorem myX8_add : am_my MX8_add 4 := ⟨List.mem_of_getElem? (i := 634) rfl, List.mem_of_getElem? (i := 73) (by decide +kernel), by decide, by decide, by decide +kernel⟩
theorem vxX8_add : am_vi MX8_add := ⟨List.mem_of_getElem? (i := 632) (by decide +kernel), List.mem_of_getElem? (i := 633) (by decide +kernel)⟩
set_option maxRecDepth 100000 in
theorem myX8_setDeath : am_my MX8_setDeath 2 := ⟨List.mem_of_getElem? (i := 701) rfl, List.mem_of_getElem? (i := 73) (by decide +kernel), by decide, by decide, by decide +kernel⟩
theorem vxX8_setDeath : am_vi MX8_setDeath := ⟨List.mem_of_getElem? (i := 699) (by decide +kernel), List.mem_of_getElem? (i := 700) (by decide +kernel)⟩
set_option maxRecDepth 100000 in
theorem myX8_deathOf : am_my MX8_deathOf 1 := ⟨List.mem_of_getElem? (i := 738) rfl, List.mem_of_getElem? (i := 73) (by decide +kernel), by decide, by decide, by decide +kernel⟩
theorem vxX8_deathOf : am_vi MX8_deathOf := ⟨List.mem_of_getElem? (i := 736) (by decide +kernel), List.mem_of_getElem? (i := 737) (by decide +kernel)⟩
set_option maxRecDepth 100000 in
theorem myX8_consentOf : am_my MX8_consentOf 1 := ⟨List.mem_of_getElem? (i := 760) rfl, List.mem_of_getElem? (i := 73) (by decide +kernel), by decide, by decide, by decide +kernel⟩
theorem vxX8_consentOf : am_vi MX8_consentOf := ⟨List.mem_of_getElem? (i := 758) (by decide +kernel), List.mem_of_getElem? (i := 759) (by decide +kernel)⟩
set_option maxRecDepth 100000 in
theorem myX8_exchangeConsent : am_my MX8_exchangeConsent 2 := ⟨List.mem_of_getElem? (i := 616) rfl, List.mem_of_getElem? (i := 73) (by decide +kernel), by decide, by decide, by decide +kernel⟩
theorem vxX8_exchangeConsent : am_vi MX8_exchangeConsent := ⟨List.mem_of_getElem? (i := 614) (by decide +kernel), List.mem_of_getElem? (i := 615) (by decide +kernel)⟩
set_option maxRecDepth 100000 in
theorem myX8_alikeTo : am_my MX8_alikeTo 2 := ⟨List.mem_of_getElem? (i := 841) rfl, List.mem_of_getElem? (i := 73) (by decide +kernel), by decide, by decide, by decide +kernel⟩
theorem vxX8_alikeTo : am_vi MX8_alikeTo := ⟨List.mem_of_getElem? (i := 839) (by decide +kernel), List.mem_of_getElem? (i := 840) (by decide +kernel)⟩
set_option maxRecDepth 100000 in
theorem myX8_areAlike : am_my MX8_areAlike 3 := ⟨List.mem_of_getElem? (i := 845) rfl, List.mem_of_getElem? (i := 73) (by decide +kernel), by decide, by decide, by decide +kernel⟩
theorem vxX8_areAlike : am_vi MX8_areAlike := ⟨List.mem_of_getElem? (i := 844) (by decide +kernel), List.mem_of_getElem? (i := 27) (by decide +kernel)⟩
set_option maxRecDepth 100000 in
theorem myX9_init : am_my MX9_init 0 := ⟨List.mem_of_getElem? (i := 90) rfl, List.mem_of_getElem? (i := 69) (by decide +kernel), by decide, by decide, by decide +kernel⟩
theorem nxX9_init : am_in0 MX9_init := ⟨List.mem_of_getElem? (i := 89) (by decide +kernel), rfl⟩
set_option maxRecDepth 100000 in
theorem myX9_feed : am_my MX9_feed 5 := ⟨List.mem_of_getElem? (i := 410) rfl, List.mem_of_getElem? (i := 69) (by decide +kernel), by decide, by decide, by decide +kernel⟩
theorem vxX9_feed : am_vi MX9_feed := ⟨List.mem_of_getElem? (i := 408) (by decide +kernel), List.mem_of_getElem? (i := 409) (by decide +kernel)⟩
set_option maxRecDepth 100000 in
theorem myX9_back : am_my MX9_back 1 := ⟨List.mem_of_getElem? (i := 422) rfl, List.mem_of_getElem? (i := 69) (by decide +kernel), by decide, by decide, by decide +kernel⟩
theorem vxX9_back : am_vi MX9_back := ⟨List.mem_of_getElem? (i := 420) (by decide +kernel), List.mem_of_getElem? (i := 421) (by decide +kernel)⟩
set_option maxRecDepth 100000 in
theorem myX9_read : am_my MX9_read 1 := ⟨List.mem_of_getElem? (i := 430) rfl, List.mem_of_getElem? (i := 69) (by decide +kernel), by decide, by decide, by decide +kernel⟩
theorem vxX9_read : am_vi MX9_read := ⟨List.mem_of_getElem? (i := 428) (by decide +kernel), List.mem_of_getElem? (i := 429) (by decide +kernel)⟩
set_option maxRecDepth 100000 in
theorem myX9_place : am_my MX9_place 0 := ⟨List.mem_of_getElem? (i := 625) rfl, List.mem_of_getElem? (i := 69) (by decide +kernel), by decide, by decide, by decide +kernel⟩
theorem vxX9_place : am_vi MX9_place := ⟨List.mem_of_getElem? (i := 623) (by decide +kernel), List.mem_of_getElem? (i := 624) (by decide +kernel)⟩
set_option maxRecDepth 100000 in
theorem myX9_person : am_my MX9_person 4 := ⟨List.mem_of_getElem? (i := 629) rfl, List.mem_of_getElem? (i := 69) (by decide +kernel), by decide, by decide, by decide +kernel⟩
theorem vxX9_person : am_vi MX9_person := ⟨List.mem_of_getElem? (i := 627) (by decide +kernel), List.mem_of_getElem? (i := 628) (by decide +kernel)⟩
set_option maxRecDepth 100000 in
theorem myX9_topic : am_my MX9_topic 1 := ⟨List.mem_of_getElem? (i := 639) rfl, List.mem_of_getElem? (i := 69) (by decide +kernel), by decide, by decide, by decide +kernel⟩
theorem vxX9_topic : am_vi MX9_topic := ⟨List.mem_of_getElem? (i := 637) (by decide +kernel), List.mem_of_getElem? (i := 638) (by decide +kernel)⟩
set_option maxRecDepth 100000 in
theorem myX9_tape : am_my MX9_tape 3 := ⟨List.mem_of_getElem? (i := 657) rfl, List.mem_of_getElem? (i := 69) (by decide +kernel), by decide, by decide, by decide +kernel⟩
theorem vxX9_tape : am_vi MX9_tape := ⟨List.mem_of_getElem? (i := 655) (by decide +kernel), List.mem_of_getElem? (i := 656) (by decide +kernel)⟩
set_option maxRecDepth 100000 in
theorem myX9_piece : am_my MX9_piece 6 := ⟨List.mem_of_getElem? (i := 668) rfl, List.mem_of_getElem? (i := 69) (by decide +kernel), by decide, by decide, by decide +kernel⟩
theorem vxX9_piece : am_vi MX9_piece := ⟨List.mem_of_getElem? (i := 666) (by decide +kernel), List.mem_of_getElem? (i := 667) (by decide +kernel)⟩
set_option maxRecDepth 100000 in
theorem myX9_asker : am_my MX9_asker 1 := ⟨List.mem_of_getElem? (i := 681) rfl, List.mem_of_getElem? (i := 69) (by decide +kernel), by decide, by decide, by decide +kernel⟩
theorem vxX9_asker : am_vi MX9_asker := ⟨List.mem_of_getElem? (i := 679) (by decide +kernel), List.mem_of_getElem? (i := 680) (by decide +kernel)⟩
set_option maxRecDepth 100000 in
theorem myX9_copy : am_my MX9_copy 1 := ⟨List.mem_of_getElem? (i := 689) rfl, List.mem_of_getElem? (i := 69) (by decide +kernel), by decide, by decide, by decide +kernel⟩
theorem vxX9_copy : am_vi MX9_copy := ⟨List.mem_of_getElem? (i := 687) (by decide +kernel), List.mem_of_getElem? (i := 688) (by decide +kernel)⟩
set_option maxRecDepth 100000 in
theorem myX9_bound : am_my MX9_bound 1 := ⟨List.mem_of_getElem? (i := 693) rfl, List.mem_of_getElem? (i := 69) (by decide +kernel), by decide, by decide, by decide +kernel⟩
theorem vxX9_bound : am_vi MX9_bound := ⟨List.mem_of_getElem? (i := 691) (by decide +kernel), List.mem_of_getElem? (i := 692) (by decide +kernel)⟩
set_option maxRecDepth 100000 in
theorem myX9_dies : am_my MX9_dies 2 := ⟨List.mem_of_getElem? (i := 697) rfl, List.mem_of_getElem? (i := 69) (by decide +kernel), by decide, by decide, by decide +kernel⟩
theorem vxX9_dies : am_vi MX9_dies := ⟨List.mem_of_getElem? (i := 695) (by decide +kernel), List.mem_of_getElem? (i := 696) (by decide +kernel)⟩
set_option maxRecDepth 100000 in
theorem myX9_takes : am_my MX9_takes 2 := ⟨List.mem_of_getElem? (i := 705) rfl, List.mem_of_getElem? (i := 69) (by decide +kernel), by decide, by decide, by decide +kernel⟩
theorem vxX9_takes : am_vi MX9_takes := ⟨List.mem_of_getElem? (i := 703) (by decide +kernel), List.mem_of_getElem? (i := 704) (by decide +kernel)⟩
set_option maxRecDepth 100000 in
theorem myX9_let : am_my MX9_let 4 := ⟨List.mem_of_getElem? (i := 717) rfl, List.mem_of_getElem? (i := 69) (by decide +kernel), by decide, by decide, by decide +kernel⟩
theorem vxX9_let : am_vi MX9_let := ⟨List.mem_of_getElem? (i := 715) (by decide +kernel), List.mem_of_getElem? (i := 716) (by decide +kernel)⟩
set_option maxRecDepth 100000 in
theorem myX9_mask : am_my MX9_mask 4 := ⟨List.mem_of_getElem? (i := 799) rfl, List.mem_of_getElem? (i := 69) (by decide +kernel), by decide, by decide, by decide +kernel⟩
theorem vxX9_mask : am_vi MX9_mask := ⟨List.mem_of_getElem? (i := 797) (by decide +kernel), List.mem_of_getElem? (i := 798) (by decide +kernel)⟩
set_option maxRecDepth 100000 in
theorem myX9_would : am_my MX9_would 5 := ⟨List.mem_of_getElem? (i := 807) rfl, List.mem_of_getElem? (i := 69) (by decide +kernel), by decide, by decide, by decide +kernel⟩
theorem vxX9_would : am_vi MX9_would := ⟨List.mem_of_getElem? (i := 805) (by decide +kernel), List.mem_of_getElem? (i := 806) (by decide +kernel)⟩
set_option maxRecDepth 100000 in
theorem myX9_ask : am_my MX9_ask 5 := ⟨List.mem_of_getElem? (i := 853) rfl, List.mem_of_getElem? (i := 69) (by decide +kernel), by decide, by decide, by decide +kernel⟩
theorem vxX9_ask : am_vi MX9_ask := ⟨List.mem_of_getElem? (i := 851) (by decide +kernel), List.mem_of_getElem? (i := 852) (by decide +kernel)⟩
set_option maxRecDepth 100000 in
theorem myX9_heard : am_my MX9_heard 2 := ⟨List.mem_of_getElem? (i := 862) rfl, List.mem_of_getElem? (i := 69) (by decide +kernel), by decide, by decide, by decide +kernel⟩
theorem vxX9_heard : am_vi MX9_heard := ⟨List.mem_of_getElem? (i := 860) (by decide +kernel), List.mem_of_getElem? (i := 861) (by decide +kernel)⟩
set_option maxRecDepth 100000 in
theorem myX9_could : am_my MX9_could 2 := ⟨List.mem_of_getElem? (i := 866) rfl, List.mem_of_getElem? (i := 69) (by decide +kernel), by decide, by decide, by decide +kernel⟩
theorem vxX9_could : am_vi MX9_could := ⟨List.mem_of_getElem? (i := 864) (by decide +kernel), List.mem_of_getElem? (i := 865) (by decide +kernel)⟩
set_option maxRecDepth 100000 in
theorem myX9_seconds : am_my MX9_seconds 2 := ⟨List.mem_of_getElem? (i := 870) rfl, List.mem_of_getElem? (i := 69) (by decide +kernel), by decide, by decide, by decide +kernel⟩
theorem vxX9_seconds : am_vi MX9_seconds := ⟨List.mem_of_getElem? (i := 868) (by decide +kernel), List.mem_of_getElem? (i := 869) (by decide +kernel)⟩
set_option maxRecDepth 100000 in
theorem myX9_opens : am_my MX9_opens 4 := ⟨List.mem_of_getElem? (i := 874) rfl, List.mem_of_getElem? (i := 69) (by decide +kernel), by decide, by decide, by decide +kernel⟩
theorem vxX9_opens : am_vi MX9_opens := ⟨List.mem_of_getElem? (i := 872) (by decide +kernel), List.mem_of_getElem? (i := 873) (by decide +kernel)⟩
set_option maxRecDepth 100000 in
theorem myX9_at : am_my MX9_at 2 := ⟨List.mem_of_getElem? (i := 878) rfl, List.mem_of_getElem? (i := 69) (by decide +kernel), by decide, by decide, by decide +kernel⟩
theorem vxX9_at : am_vi MX9_at := ⟨List.mem_of_getElem? (i := 876) (by decide +kernel), List.mem_of_getElem? (i := 877) (by decide +kernel)⟩
set_option maxRecDepth 100000 in
theorem myX9_span : am_my MX9_span 3 := ⟨List.mem_of_getElem? (i := 886) rfl, List.mem_of_getElem? (i := 69) (by decide +kernel), by decide, by decide, by decide +kernel⟩
theorem vxX9_span : am_vi MX9_span := ⟨List.mem_of_getElem? (i := 884) (by decide +kernel), List.mem_of_getElem? (i := 885) (by decide +kernel)⟩
set_option maxRecDepth 100000 in
theorem myX9_behind : am_my MX9_behind 3 := ⟨List.mem_of_getElem? (i := 927) rfl, List.mem_of_getElem? (i := 69) (by decide +kernel), by decide, by decide, by decide +kernel⟩
theorem vxX9_behind : am_vi MX9_behind := ⟨List.mem_of_getElem? (i := 925) (by decide +kernel), List.mem_of_getElem? (i := 926) (by decide +kernel)⟩
set_option maxRecDepth 100000 in
theorem myX9_same : am_my MX9_same 2 := ⟨List.mem_of_getElem? (i := 934) rfl, List.mem_of_getElem? (i := 69) (by decide +kernel), by decide, by decide, by decide +kernel⟩
theorem vxX9_same : am_vi MX9_same := ⟨List.mem_of_getElem? (i := 932) (by decide +kernel), List.mem_of_getElem? (i := 933) (by decide +kernel)⟩
set_option maxRecDepth 100000 in
theorem myX9_left : am_my MX9_left 1 := ⟨List.mem_of_getElem? (i := 938) rfl, List.mem_of_getElem? (i := 69) (by decide +kernel), by decide, by decide, by decide +kernel⟩
theorem vxX9_left : am_vi MX9_left := ⟨List.mem_of_getElem? (i := 936) (by decide +kernel), List.mem_of_getElem? (i := 937) (by decide +kernel)⟩
set_option maxRecDepth 100000 in
theorem myX9_when : am_my MX9_when 3 := ⟨List.mem_of_getElem? (i := 946) rfl, List.mem_of_getElem? (i := 69) (by decide +kernel), by decide, by decide, by decide +kernel⟩
theorem vxX9_when : am_vi MX9_when := ⟨List.mem_of_getElem? (i := 944) (by decide +kernel), List.mem_of_getElem? (i := 945) (by decide +kernel)⟩
set_option maxRecDepth 100000 in
theorem myX9_count : am_my MX9_count 1 := ⟨List.mem_of_getElem? (i := 954) rfl, List.mem_of_getElem? (i := 69) (by decide +kernel), by decide, by decide, by decide +kernel⟩
theorem vxX9_count : am_vi MX9_count := ⟨List.mem_of_getElem? (i := 952) (by decide +kernel), List.mem_of_getElem? (i := 953) (by decide +kernel)⟩
set_option maxRecDepth 100000 in
theorem myX9_isBelow : am_my MX9_isBelow 2 := ⟨List.mem_of_getElem? (i := 437) rfl, List.mem_of_getElem? (i := 69) (by decide +kernel), by decide, by decide, by decide +kernel⟩
theorem sxX9_isBelow : am_sta MX9_isBelow := List.mem_of_getElem? (i := 436) (by decide +kernel)
set_option maxRecDepth 100000 in
theorem myX9_isDay : am_my MX9_isDay 1 := ⟨List.mem_of_getElem? (i := 660) rfl, List.mem_of_getElem? (i := 69) (by decide +kernel), by decide, by decide, by decide +kernel⟩
theorem sxX9_isDay : am_sta MX9_isDay := List.mem_of_getElem? (i := 659) (by decide +kernel)
set_option maxRecDepth 100000 in
theorem myX9_isEvent : am_my MX9_isEvent 1 := ⟨List.mem_of_getElem? (i := 889) rfl, List.mem_of_getElem? (i := 69) (by decide +kernel), by decide, by decide, by decide +kernel⟩
theorem sxX9_isEvent : am_sta MX9_isEvent := List.mem_of_getElem? (i := 888) (by decide +kernel)
set_option maxRecDepth 100000 in
theorem myX9_isVar : am_my MX9_isVar 1 := ⟨List.mem_of_getElem? (i := 551) rfl, List.mem_of_getElem? (i := 69) (by decide +kernel), by decide, by decide, by decide +kernel⟩
theorem sxX9_isVar : am_sta MX9_isVar := List.mem_of_getElem? (i := 550) (by decide +kernel)
set_option maxRecDepth 100000 in
theorem myX9_isOperator : am_my MX9_isOperator 1 := ⟨List.mem_of_getElem? (i := 557) rfl, List.mem_of_getElem? (i := 69) (by decide +kernel), by decide, by decide, by decide +kernel⟩
theorem sxX9_isOperator : am_sta MX9_isOperator := List.mem_of_getElem? (i := 556) (by decide +kernel)
set_option maxRecDepth 100000 in
theorem myX9_areTwoEvents : am_my MX9_areTwoEvents 2 := ⟨List.mem_of_getElem? (i := 930) rfl, List.mem_of_getElem? (i := 69) (by decide +kernel), by decide, by decide, by decide +kernel⟩
theorem sxX9_areTwoEvents : am_sta MX9_areTwoEvents := List.mem_of_getElem? (i := 929) (by decide +kernel)
set_option maxRecDepth 100000 in
theorem myX9_isQuestion : am_my MX9_isQuestion 4 := ⟨List.mem_of_getElem? (i := 721) rfl, List.mem_of_getElem? (i := 69) (by decide +kernel), by decide, by decide, by decide +kernel⟩
theorem vxX9_isQuestion : am_vi MX9_isQuestion := ⟨List.mem_of_getElem? (i := 720) (by decide +kernel), List.mem_of_getElem? (i := 17) (by decide +kernel)⟩
set_option maxRecDepth 100000 in
theorem myX9_isAsking : am_my MX9_isAsking 5 := ⟨List.mem_of_getElem? (i := 811) rfl, List.mem_of_getElem? (i := 69) (by decide +kernel), by decide, by decide, by decide +kernel⟩
theorem vxX9_isAsking : am_vi MX9_isAsking := ⟨List.mem_of_getElem? (i := 810) (by decide +kernel), List.mem_of_getElem? (i := 23) (by decide +kernel)⟩
set_option maxRecDepth 100000 in
theorem myX9_pose : am_my MX9_pose 4 := ⟨List.mem_of_getElem? (i := 726) rfl, List.mem_of_getElem? (i := 69) (by decide +kernel), by decide, by decide, by decide +kernel⟩
theorem vxX9_pose : am_vi MX9_pose := ⟨List.mem_of_getElem? (i := 725) (by decide +kernel), List.mem_of_getElem? (i := 18) (by decide +kernel)⟩
set_option maxRecDepth 100000 in
theorem myX9_answerTo : am_my MX9_answerTo 5 := ⟨List.mem_of_getElem? (i := 820) rfl, List.mem_of_getElem? (i := 69) (by decide +kernel), by decide, by decide, by decide +kernel⟩
theorem vxX9_answerTo : am_vi MX9_answerTo := ⟨List.mem_of_getElem? (i := 819) (by decide +kernel), List.mem_of_getElem? (i := 24) (by decide +kernel)⟩
set_option maxRecDepth 100000 in
theorem myX9_wouldUnmask : am_my MX9_wouldUnmask 2 := ⟨List.mem_of_getElem? (i := 829) rfl, List.mem_of_getElem? (i := 69) (by decide +kernel), by decide, by decide, by decide +kernel⟩
theorem vxX9_wouldUnmask : am_vi MX9_wouldUnmask := ⟨List.mem_of_getElem? (i := 828) (by decide +kernel), List.mem_of_getElem? (i := 25) (by decide +kernel)⟩
set_option maxRecDepth 100000 in
theorem myX9_knownTraits : am_my MX9_knownTraits 2 := ⟨List.mem_of_getElem? (i := 833) rfl, List.mem_of_getElem? (i := 69) (by decide +kernel), by decide, by decide, by decide +kernel⟩
theorem vxX9_knownTraits : am_vi MX9_knownTraits := ⟨List.mem_of_getElem? (i := 832) (by decide +kernel), List.mem_of_getElem? (i := 26) (by decide +kernel)⟩
set_option maxRecDepth 100000 in
theorem myX9_knowsByName : am_my MX9_knowsByName 2 := ⟨List.mem_of_getElem? (i := 849) rfl, List.mem_of_getElem? (i := 69) (by decide +kernel), by decide, by decide, by decide +kernel⟩
theorem vxX9_knowsByName : am_vi MX9_knowsByName := ⟨List.mem_of_getElem? (i := 848) (by decide +kernel), List.mem_of_getElem? (i := 28) (by decide +kernel)⟩
set_option maxRecDepth 100000 in
theorem myX10_init : am_my MX10_init 0 := ⟨List.mem_of_getElem? (i := 959) rfl, List.mem_of_getElem? (i := 79) (by decide +kernel), by decide, by decide, by decide +kernel⟩
theorem nxX10_init : am_in0 MX10_init := ⟨List.mem_of_getElem? (i := 958) (by decide +kernel), rfl⟩
set_option maxRecDepth 100000 in
theorem myX10_feed : am_my MX10_feed 5 := ⟨List.mem_of_getElem? (i := 1179) rfl, List.mem_of_getElem? (i := 79) (by decide +kernel), by decide, by decide, by decide +kernel⟩
theorem vxX10_feed : am_vi MX10_feed := ⟨List.mem_of_getElem? (i := 1177) (by decide +kernel), List.mem_of_getElem? (i := 1178) (by decide +kernel)⟩
set_option maxRecDepth 100000 in
theorem myX10_put : am_my MX10_put 1 := ⟨List.mem_of_getElem? (i := 1183) rfl, List.mem_of_getElem? (i := 79) (by decide +kernel), by decide, by decide, by decide +kernel⟩
theorem vxX10_put : am_vi MX10_put := ⟨List.mem_of_getElem? (i := 1182) (by decide +kernel), List.mem_of_getElem? (i := 34) (by decide +kernel)⟩
set_option maxRecDepth 100000 in
theorem myX10_back : am_my MX10_back 1 := ⟨List.mem_of_getElem? (i := 1187) rfl, List.mem_of_getElem? (i := 79) (by decide +kernel), by decide, by decide, by decide +kernel⟩
theorem vxX10_back : am_vi MX10_back := ⟨List.mem_of_getElem? (i := 1185) (by decide +kernel), List.mem_of_getElem? (i := 1186) (by decide +kernel)⟩
set_option maxRecDepth 100000 in
theorem myX10_at : am_my MX10_at 1 := ⟨List.mem_of_getElem? (i := 1203) rfl, List.mem_of_getElem? (i := 79) (by decide +kernel), by decide, by decide, by decide +kernel⟩
theorem vxX10_at : am_vi MX10_at := ⟨List.mem_of_getElem? (i := 1202) (by decide +kernel), List.mem_of_getElem? (i := 37) (by decide +kernel)⟩
set_option maxRecDepth 100000 in
theorem myX10_isDigit : am_my MX10_isDigit 1 := ⟨List.mem_of_getElem? (i := 1213) rfl, List.mem_of_getElem? (i := 79) (by decide +kernel), by decide, by decide, by decide +kernel⟩
theorem sxX10_isDigit : am_sta MX10_isDigit := List.mem_of_getElem? (i := 1212) (by decide +kernel)
set_option maxRecDepth 100000 in
theorem myX10_isLetter : am_my MX10_isLetter 1 := ⟨List.mem_of_getElem? (i := 1210) rfl, List.mem_of_getElem? (i := 79) (by decide +kernel), by decide, by decide, by decide +kernel⟩
theorem sxX10_isLetter : am_sta MX10_isLetter := List.mem_of_getElem? (i := 1209) (by decide +kernel)
set_option maxRecDepth 100000 in
theorem myX10_more : am_my MX10_more 2 := ⟨List.mem_of_getElem? (i := 966) rfl, List.mem_of_getElem? (i := 79) (by decide +kernel), by decide, by decide, by decide +kernel⟩
theorem sxX10_more : am_sta MX10_more := List.mem_of_getElem? (i := 965) (by decide +kernel)
set_option maxRecDepth 100000 in
theorem myX10_word : am_my MX10_word 7 := ⟨List.mem_of_getElem? (i := 963) rfl, List.mem_of_getElem? (i := 79) (by decide +kernel), by decide, by decide, by decide +kernel⟩
theorem sxX10_word : am_sta MX10_word := List.mem_of_getElem? (i := 962) (by decide +kernel)
set_option maxRecDepth 100000 in
theorem myX10_token : am_my MX10_token 4 := ⟨List.mem_of_getElem? (i := 1207) rfl, List.mem_of_getElem? (i := 79) (by decide +kernel), by decide, by decide, by decide +kernel⟩
theorem vxX10_token : am_vi MX10_token := ⟨List.mem_of_getElem? (i := 1206) (by decide +kernel), List.mem_of_getElem? (i := 38) (by decide +kernel)⟩
set_option maxRecDepth 100000 in
theorem myX10_cut : am_my MX10_cut 0 := ⟨List.mem_of_getElem? (i := 1199) rfl, List.mem_of_getElem? (i := 79) (by decide +kernel), by decide, by decide, by decide +kernel⟩
theorem vxX10_cut : am_vi MX10_cut := ⟨List.mem_of_getElem? (i := 1198) (by decide +kernel), List.mem_of_getElem? (i := 36) (by decide +kernel)⟩
set_option maxRecDepth 100000 in
theorem myX10_sign : am_my MX10_sign 3 := ⟨List.mem_of_getElem? (i := 1217) rfl, List.mem_of_getElem? (i := 79) (by decide +kernel), by decide, by decide, by decide +kernel⟩
theorem vxX10_sign : am_vi MX10_sign := ⟨List.mem_of_getElem? (i := 1216) (by decide +kernel), List.mem_of_getElem? (i := 39) (by decide +kernel)⟩
set_option maxRecDepth 100000 in
theorem myX10_is : am_my MX10_is 1 := ⟨List.mem_of_getElem? (i := 1221) rfl, List.mem_of_getElem? (i := 79) (by decide +kernel), by decide, by decide, by decide +kernel⟩
theorem vxX10_is : am_vi MX10_is := ⟨List.mem_of_getElem? (i := 1220) (by decide +kernel), List.mem_of_getElem? (i := 40) (by decide +kernel)⟩
set_option maxRecDepth 100000 in
theorem myX10_fail : am_my MX10_fail 1 := ⟨List.mem_of_getElem? (i := 1229) rfl, List.mem_of_getElem? (i := 79) (by decide +kernel), by decide, by decide, by decide +kernel⟩
theorem vxX10_fail : am_vi MX10_fail := ⟨List.mem_of_getElem? (i := 1228) (by decide +kernel), List.mem_of_getElem? (i := 42) (by decide +kernel)⟩
set_option maxRecDepth 100000 in
theorem myX10_wrong : am_my MX10_wrong 2 := ⟨List.mem_of_getElem? (i := 1245) rfl, List.mem_of_getElem? (i := 79) (by decide +kernel), by decide, by decide, by decide +kernel⟩
theorem vxX10_wrong : am_vi MX10_wrong := ⟨List.mem_of_getElem? (i := 1244) (by decide +kernel), List.mem_of_getElem? (i := 46) (by decide +kernel)⟩
set_option maxRecDepth 100000 in
theorem myX10_next : am_my MX10_next 0 := ⟨List.mem_of_getElem? (i := 1233) rfl, List.mem_of_getElem? (i := 79) (by decide +kernel), by decide, by decide, by decide +kernel⟩
theorem vxX10_next : am_vi MX10_next := ⟨List.mem_of_getElem? (i := 1232) (by decide +kernel), List.mem_of_getElem? (i := 43) (by decide +kernel)⟩
set_option maxRecDepth 100000 in
theorem myX10_must : am_my MX10_must 1 := ⟨List.mem_of_getElem? (i := 1241) rfl, List.mem_of_getElem? (i := 79) (by decide +kernel), by decide, by decide, by decide +kernel⟩
theorem vxX10_must : am_vi MX10_must := ⟨List.mem_of_getElem? (i := 1240) (by decide +kernel), List.mem_of_getElem? (i := 45) (by decide +kernel)⟩
set_option maxRecDepth 100000 in
theorem myX10_read : am_my MX10_read 1 := ⟨List.mem_of_getElem? (i := 1191) rfl, List.mem_of_getElem? (i := 79) (by decide +kernel), by decide, by decide, by decide +kernel⟩
theorem vxX10_read : am_vi MX10_read := ⟨List.mem_of_getElem? (i := 1189) (by decide +kernel), List.mem_of_getElem? (i := 1190) (by decide +kernel)⟩
set_option maxRecDepth 100000 in
theorem myX10_place : am_my MX10_place 0 := ⟨List.mem_of_getElem? (i := 1261) rfl, List.mem_of_getElem? (i := 79) (by decide +kernel), by decide, by decide, by decide +kernel⟩
theorem vxX10_place : am_vi MX10_place := ⟨List.mem_of_getElem? (i := 1259) (by decide +kernel), List.mem_of_getElem? (i := 1260) (by decide +kernel)⟩
set_option maxRecDepth 100000 in
theorem myX10_tellRule : am_my MX10_tellRule 0 := ⟨List.mem_of_getElem? (i := 1225) rfl, List.mem_of_getElem? (i := 79) (by decide +kernel), by decide, by decide, by decide +kernel⟩
theorem vxX10_tellRule : am_vi MX10_tellRule := ⟨List.mem_of_getElem? (i := 1224) (by decide +kernel), List.mem_of_getElem? (i := 41) (by decide +kernel)⟩
set_option maxRecDepth 100000 in
theorem myX10_literal : am_my MX10_literal 1 := ⟨List.mem_of_getElem? (i := 1237) rfl, List.mem_of_getElem? (i := 79) (by decide +kernel), by decide, by decide, by decide +kernel⟩
theorem vxX10_literal : am_vi MX10_literal := ⟨List.mem_of_getElem? (i := 1236) (by decide +kernel), List.mem_of_getElem? (i := 44) (by decide +kernel)⟩
set_option maxRecDepth 100000 in
theorem myX10_emit : am_my MX10_emit 2 := ⟨List.mem_of_getElem? (i := 1249) rfl, List.mem_of_getElem? (i := 79) (by decide +kernel), by decide, by decide, by decide +kernel⟩
theorem vxX10_emit : am_vi MX10_emit := ⟨List.mem_of_getElem? (i := 1248) (by decide +kernel), List.mem_of_getElem? (i := 47) (by decide +kernel)⟩
set_option maxRecDepth 100000 in
theorem myX10_comesOut : am_my MX10_comesOut 1 := ⟨List.mem_of_getElem? (i := 1257) rfl, List.mem_of_getElem? (i := 79) (by decide +kernel), by decide, by decide, by decide +kernel⟩
theorem vxX10_comesOut : am_vi MX10_comesOut := ⟨List.mem_of_getElem? (i := 1256) (by decide +kernel), List.mem_of_getElem? (i := 49) (by decide +kernel)⟩
set_option maxRecDepth 100000 in
theorem myX10_expression : am_my MX10_expression 0 := ⟨List.mem_of_getElem? (i := 1253) rfl, List.mem_of_getElem? (i := 79) (by decide +kernel), by decide, by decide, by decide +kernel⟩
theorem vxX10_expression : am_vi MX10_expression := ⟨List.mem_of_getElem? (i := 1252) (by decide +kernel), List.mem_of_getElem? (i := 48) (by decide +kernel)⟩
set_option maxRecDepth 100000 in
theorem myX10_isPerson : am_my MX10_isPerson 1 := ⟨List.mem_of_getElem? (i := 1195) rfl, List.mem_of_getElem? (i := 79) (by decide +kernel), by decide, by decide, by decide +kernel⟩
theorem vxX10_isPerson : am_vi MX10_isPerson := ⟨List.mem_of_getElem? (i := 1194) (by decide +kernel), List.mem_of_getElem? (i := 35) (by decide +kernel)⟩
set_option maxRecDepth 100000 in
theorem myX10_isPiece : am_my MX10_isPiece 1 := ⟨List.mem_of_getElem? (i := 1307) rfl, List.mem_of_getElem? (i := 79) (by decide +kernel), by decide, by decide, by decide +kernel⟩
theorem vxX10_isPiece : am_vi MX10_isPiece := ⟨List.mem_of_getElem? (i := 1306) (by decide +kernel), List.mem_of_getElem? (i := 50) (by decide +kernel)⟩
set_option maxRecDepth 100000 in
theorem myX10_isAsker : am_my MX10_isAsker 1 := ⟨List.mem_of_getElem? (i := 1359) rfl, List.mem_of_getElem? (i := 79) (by decide +kernel), by decide, by decide, by decide +kernel⟩
theorem vxX10_isAsker : am_vi MX10_isAsker := ⟨List.mem_of_getElem? (i := 1358) (by decide +kernel), List.mem_of_getElem? (i := 59) (by decide +kernel)⟩
set_option maxRecDepth 100000 in
theorem myX10_isDay : am_my MX10_isDay 1 := ⟨List.mem_of_getElem? (i := 1279) rfl, List.mem_of_getElem? (i := 79) (by decide +kernel), by decide, by decide, by decide +kernel⟩
theorem sxX10_isDay : am_sta MX10_isDay := List.mem_of_getElem? (i := 1278) (by decide +kernel)
set_option maxRecDepth 100000 in
theorem myX10_isFour : am_my MX10_isFour 1 := ⟨List.mem_of_getElem? (i := 1268) rfl, List.mem_of_getElem? (i := 79) (by decide +kernel), by decide, by decide, by decide +kernel⟩
theorem sxX10_isFour : am_sta MX10_isFour := List.mem_of_getElem? (i := 1267) (by decide +kernel)
set_option maxRecDepth 100000 in
theorem myX10_person : am_my MX10_person 4 := ⟨List.mem_of_getElem? (i := 1265) rfl, List.mem_of_getElem? (i := 79) (by decide +kernel), by decide, by decide, by decide +kernel⟩
theorem vxX10_person : am_vi MX10_person := ⟨List.mem_of_getElem? (i := 1263) (by decide +kernel), List.mem_of_getElem? (i := 1264) (by decide +kernel)⟩
set_option maxRecDepth 100000 in
theorem myX10_topic : am_my MX10_topic 1 := ⟨List.mem_of_getElem? (i := 1272) rfl, List.mem_of_getElem? (i := 79) (by decide +kernel), by decide, by decide, by decide +kernel⟩
theorem vxX10_topic : am_vi MX10_topic := ⟨List.mem_of_getElem? (i := 1270) (by decide +kernel), List.mem_of_getElem? (i := 1271) (by decide +kernel)⟩
set_option maxRecDepth 100000 in
theorem myX10_tape : am_my MX10_tape 3 := ⟨List.mem_of_getElem? (i := 1276) rfl, List.mem_of_getElem? (i := 79) (by decide +kernel), by decide, by decide, by decide +kernel⟩
theorem vxX10_tape : am_vi MX10_tape := ⟨List.mem_of_getElem? (i := 1274) (by decide +kernel), List.mem_of_getElem? (i := 1275) (by decide +kernel)⟩
set_option maxRecDepth 100000 in
theorem myX10_piece : am_my MX10_piece 6 := ⟨List.mem_of_getElem? (i := 1283) rfl, List.mem_of_getElem? (i := 79) (by decide +kernel), by decide, by decide, by decide +kernel⟩
theorem vxX10_piece : am_vi MX10_piece := ⟨List.mem_of_getElem? (i := 1281) (by decide +kernel), List.mem_of_getElem? (i := 1282) (by decide +kernel)⟩
set_option maxRecDepth 100000 in
theorem myX10_asker : am_my MX10_asker 1 := ⟨List.mem_of_getElem? (i := 1287) rfl, List.mem_of_getElem? (i := 79) (by decide +kernel), by decide, by decide, by decide +kernel⟩
theorem vxX10_asker : am_vi MX10_asker := ⟨List.mem_of_getElem? (i := 1285) (by decide +kernel), List.mem_of_getElem? (i := 1286) (by decide +kernel)⟩
set_option maxRecDepth 100000 in
theorem myX10_copy : am_my MX10_copy 1 := ⟨List.mem_of_getElem? (i := 1291) rfl, List.mem_of_getElem? (i := 79) (by decide +kernel), by decide, by decide, by decide +kernel⟩
theorem vxX10_copy : am_vi MX10_copy := ⟨List.mem_of_getElem? (i := 1289) (by decide +kernel), List.mem_of_getElem? (i := 1290) (by decide +kernel)⟩
set_option maxRecDepth 100000 in
theorem myX10_bound : am_my MX10_bound 1 := ⟨List.mem_of_getElem? (i := 1295) rfl, List.mem_of_getElem? (i := 79) (by decide +kernel), by decide, by decide, by decide +kernel⟩
theorem vxX10_bound : am_vi MX10_bound := ⟨List.mem_of_getElem? (i := 1293) (by decide +kernel), List.mem_of_getElem? (i := 1294) (by decide +kernel)⟩
set_option maxRecDepth 100000 in
theorem myX10_dies : am_my MX10_dies 2 := ⟨List.mem_of_getElem? (i := 1299) rfl, List.mem_of_getElem? (i := 79) (by decide +kernel), by decide, by decide, by decide +kernel⟩
theorem vxX10_dies : am_vi MX10_dies := ⟨List.mem_of_getElem? (i := 1297) (by decide +kernel), List.mem_of_getElem? (i := 1298) (by decide +kernel)⟩
set_option maxRecDepth 100000 in
theorem myX10_takes : am_my MX10_takes 2 := ⟨List.mem_of_getElem? (i := 1303) rfl, List.mem_of_getElem? (i := 79) (by decide +kernel), by decide, by decide, by decide +kernel⟩
theorem vxX10_takes : am_vi MX10_takes := ⟨List.mem_of_getElem? (i := 1301) (by decide +kernel), List.mem_of_getElem? (i := 1302) (by decide +kernel)⟩
set_option maxRecDepth 100000 in
theorem myX10_asks : am_my MX10_asks 4 := ⟨List.mem_of_getElem? (i := 1323) rfl, List.mem_of_getElem? (i := 79) (by decide +kernel), by decide, by decide, by decide +kernel⟩
theorem vxX10_asks : am_vi MX10_asks := ⟨List.mem_of_getElem? (i := 1322) (by decide +kernel), List.mem_of_getElem? (i := 53) (by decide +kernel)⟩
set_option maxRecDepth 100000 in
theorem myX10_value : am_my MX10_value 2 := ⟨List.mem_of_getElem? (i := 1335) rfl, List.mem_of_getElem? (i := 79) (by decide +kernel), by decide, by decide, by decide +kernel⟩
theorem vxX10_value : am_vi MX10_value := ⟨List.mem_of_getElem? (i := 1334) (by decide +kernel), List.mem_of_getElem? (i := 56) (by decide +kernel)⟩
set_option maxRecDepth 100000 in
theorem myX10_isTrue : am_my MX10_isTrue 1 := ⟨List.mem_of_getElem? (i := 1331) rfl, List.mem_of_getElem? (i := 79) (by decide +kernel), by decide, by decide, by decide +kernel⟩
theorem vxX10_isTrue : am_vi MX10_isTrue := ⟨List.mem_of_getElem? (i := 1330) (by decide +kernel), List.mem_of_getElem? (i := 55) (by decide +kernel)⟩
set_option maxRecDepth 100000 in
theorem myX10_holds : am_my MX10_holds 2 := ⟨List.mem_of_getElem? (i := 1327) rfl, List.mem_of_getElem? (i := 79) (by decide +kernel), by decide, by decide, by decide +kernel⟩
theorem vxX10_holds : am_vi MX10_holds := ⟨List.mem_of_getElem? (i := 1326) (by decide +kernel), List.mem_of_getElem? (i := 54) (by decide +kernel)⟩
set_option maxRecDepth 100000 in
theorem myX10_letBy : am_my MX10_letBy 4 := ⟨List.mem_of_getElem? (i := 1319) rfl, List.mem_of_getElem? (i := 79) (by decide +kernel), by decide, by decide, by decide +kernel⟩
theorem vxX10_letBy : am_vi MX10_letBy := ⟨List.mem_of_getElem? (i := 1318) (by decide +kernel), List.mem_of_getElem? (i := 52) (by decide +kernel)⟩
set_option maxRecDepth 100000 in
theorem myX10_maskBy : am_my MX10_maskBy 4 := ⟨List.mem_of_getElem? (i := 1343) rfl, List.mem_of_getElem? (i := 79) (by decide +kernel), by decide, by decide, by decide +kernel⟩
theorem vxX10_maskBy : am_vi MX10_maskBy := ⟨List.mem_of_getElem? (i := 1342) (by decide +kernel), List.mem_of_getElem? (i := 57) (by decide +kernel)⟩
set_option maxRecDepth 100000 in
theorem myX10_isAsked : am_my MX10_isAsked 4 := ⟨List.mem_of_getElem? (i := 1315) rfl, List.mem_of_getElem? (i := 79) (by decide +kernel), by decide, by decide, by decide +kernel⟩
theorem vxX10_isAsked : am_vi MX10_isAsked := ⟨List.mem_of_getElem? (i := 1314) (by decide +kernel), List.mem_of_getElem? (i := 51) (by decide +kernel)⟩
set_option maxRecDepth 100000 in
theorem myX10_let : am_my MX10_let 4 := ⟨List.mem_of_getElem? (i := 1311) rfl, List.mem_of_getElem? (i := 79) (by decide +kernel), by decide, by decide, by decide +kernel⟩
theorem vxX10_let : am_vi MX10_let := ⟨List.mem_of_getElem? (i := 1309) (by decide +kernel), List.mem_of_getElem? (i := 1310) (by decide +kernel)⟩
set_option maxRecDepth 100000 in
theorem myX10_mask : am_my MX10_mask 4 := ⟨List.mem_of_getElem? (i := 1339) rfl, List.mem_of_getElem? (i := 79) (by decide +kernel), by decide, by decide, by decide +kernel⟩
theorem vxX10_mask : am_vi MX10_mask := ⟨List.mem_of_getElem? (i := 1337) (by decide +kernel), List.mem_of_getElem? (i := 1338) (by decide +kernel)⟩
set_option maxRecDepth 100000 in
theorem myX10_opens : am_my MX10_opens 4 := ⟨List.mem_of_getElem? (i := 1347) rfl, List.mem_of_getElem? (i := 79) (by decide +kernel), by decide, by decide, by decide +kernel⟩
theorem vxX10_opens : am_vi MX10_opens := ⟨List.mem_of_getElem? (i := 1345) (by decide +kernel), List.mem_of_getElem? (i := 1346) (by decide +kernel)⟩
set_option maxRecDepth 100000 in
theorem myX10_hasName : am_my MX10_hasName 2 := ⟨List.mem_of_getElem? (i := 1367) rfl, List.mem_of_getElem? (i := 79) (by decide +kernel), by decide, by decide, by decide +kernel⟩
theorem vxX10_hasName : am_vi MX10_hasName := ⟨List.mem_of_getElem? (i := 1366) (by decide +kernel), List.mem_of_getElem? (i := 61) (by decide +kernel)⟩
set_option maxRecDepth 100000 in
theorem myX10_traitsHeard : am_my MX10_traitsHeard 2 := ⟨List.mem_of_getElem? (i := 1371) rfl, List.mem_of_getElem? (i := 79) (by decide +kernel), by decide, by decide, by decide +kernel⟩
theorem vxX10_traitsHeard : am_vi MX10_traitsHeard := ⟨List.mem_of_getElem? (i := 1370) (by decide +kernel), List.mem_of_getElem? (i := 62) (by decide +kernel)⟩
set_option maxRecDepth 100000 in
theorem myX10_alike : am_my MX10_alike 2 := ⟨List.mem_of_getElem? (i := 1375) rfl, List.mem_of_getElem? (i := 79) (by decide +kernel), by decide, by decide, by decide +kernel⟩
theorem vxX10_alike : am_vi MX10_alike := ⟨List.mem_of_getElem? (i := 1374) (by decide +kernel), List.mem_of_getElem? (i := 63) (by decide +kernel)⟩
set_option maxRecDepth 100000 in
theorem myX10_isAsking : am_my MX10_isAsking 5 := ⟨List.mem_of_getElem? (i := 1355) rfl, List.mem_of_getElem? (i := 79) (by decide +kernel), by decide, by decide, by decide +kernel⟩
theorem vxX10_isAsking : am_vi MX10_isAsking := ⟨List.mem_of_getElem? (i := 1354) (by decide +kernel), List.mem_of_getElem? (i := 58) (by decide +kernel)⟩
set_option maxRecDepth 100000 in
theorem myX10_wouldGet : am_my MX10_wouldGet 5 := ⟨List.mem_of_getElem? (i := 1363) rfl, List.mem_of_getElem? (i := 79) (by decide +kernel), by decide, by decide, by decide +kernel⟩
theorem vxX10_wouldGet : am_vi MX10_wouldGet := ⟨List.mem_of_getElem? (i := 1362) (by decide +kernel), List.mem_of_getElem? (i := 60) (by decide +kernel)⟩
set_option maxRecDepth 100000 in
theorem myX10_would : am_my MX10_would 5 := ⟨List.mem_of_getElem? (i := 1351) rfl, List.mem_of_getElem? (i := 79) (by decide +kernel), by decide, by decide, by decide +kernel⟩
theorem vxX10_would : am_vi MX10_would := ⟨List.mem_of_getElem? (i := 1349) (by decide +kernel), List.mem_of_getElem? (i := 1350) (by decide +kernel)⟩
set_option maxRecDepth 100000 in
theorem myX10_ask : am_my MX10_ask 5 := ⟨List.mem_of_getElem? (i := 1379) rfl, List.mem_of_getElem? (i := 79) (by decide +kernel), by decide, by decide, by decide +kernel⟩
theorem vxX10_ask : am_vi MX10_ask := ⟨List.mem_of_getElem? (i := 1377) (by decide +kernel), List.mem_of_getElem? (i := 1378) (by decide +kernel)⟩
set_option maxRecDepth 100000 in
theorem myX10_heard : am_my MX10_heard 2 := ⟨List.mem_of_getElem? (i := 1383) rfl, List.mem_of_getElem? (i := 79) (by decide +kernel), by decide, by decide, by decide +kernel⟩
theorem vxX10_heard : am_vi MX10_heard := ⟨List.mem_of_getElem? (i := 1381) (by decide +kernel), List.mem_of_getElem? (i := 1382) (by decide +kernel)⟩
set_option maxRecDepth 100000 in
theorem myX10_could : am_my MX10_could 2 := ⟨List.mem_of_getElem? (i := 1387) rfl, List.mem_of_getElem? (i := 79) (by decide +kernel), by decide, by decide, by decide +kernel⟩
theorem vxX10_could : am_vi MX10_could := ⟨List.mem_of_getElem? (i := 1385) (by decide +kernel), List.mem_of_getElem? (i := 1386) (by decide +kernel)⟩
set_option maxRecDepth 100000 in
theorem myX10_seconds : am_my MX10_seconds 2 := ⟨List.mem_of_getElem? (i := 1391) rfl, List.mem_of_getElem? (i := 79) (by decide +kernel), by decide, by decide, by decide +kernel⟩
theorem vxX10_seconds : am_vi MX10_seconds := ⟨List.mem_of_getElem? (i := 1389) (by decide +kernel), List.mem_of_getElem? (i := 1390) (by decide +kernel)⟩
set_option maxRecDepth 100000 in
theorem myX10_at_ : am_my MX10_at_ 2 := ⟨List.mem_of_getElem? (i := 1395) rfl, List.mem_of_getElem? (i := 79) (by decide +kernel), by decide, by decide, by decide +kernel⟩
theorem vxX10_at_ : am_vi MX10_at_ := ⟨List.mem_of_getElem? (i := 1393) (by decide +kernel), List.mem_of_getElem? (i := 1394) (by decide +kernel)⟩
set_option maxRecDepth 100000 in
theorem myX10_isEvent : am_my MX10_isEvent 1 := ⟨List.mem_of_getElem? (i := 1402) rfl, List.mem_of_getElem? (i := 79) (by decide +kernel), by decide, by decide, by decide +kernel⟩
theorem sxX10_isEvent : am_sta MX10_isEvent := List.mem_of_getElem? (i := 1401) (by decide +kernel)
set_option maxRecDepth 100000 in
theorem myX10_telling : am_my MX10_telling 4 := ⟨List.mem_of_getElem? (i := 1406) rfl, List.mem_of_getElem? (i := 79) (by decide +kernel), by decide, by decide, by decide +kernel⟩
theorem vxX10_telling : am_vi MX10_telling := ⟨List.mem_of_getElem? (i := 1405) (by decide +kernel), List.mem_of_getElem? (i := 64) (by decide +kernel)⟩
set_option maxRecDepth 100000 in
theorem myX10_span : am_my MX10_span 3 := ⟨List.mem_of_getElem? (i := 1399) rfl, List.mem_of_getElem? (i := 79) (by decide +kernel), by decide, by decide, by decide +kernel⟩
theorem vxX10_span : am_vi MX10_span := ⟨List.mem_of_getElem? (i := 1397) (by decide +kernel), List.mem_of_getElem? (i := 1398) (by decide +kernel)⟩
set_option maxRecDepth 100000 in
theorem myX10_behind : am_my MX10_behind 3 := ⟨List.mem_of_getElem? (i := 1410) rfl, List.mem_of_getElem? (i := 79) (by decide +kernel), by decide, by decide, by decide +kernel⟩
theorem vxX10_behind : am_vi MX10_behind := ⟨List.mem_of_getElem? (i := 1408) (by decide +kernel), List.mem_of_getElem? (i := 1409) (by decide +kernel)⟩
set_option maxRecDepth 100000 in
theorem myX10_same : am_my MX10_same 2 := ⟨List.mem_of_getElem? (i := 1414) rfl, List.mem_of_getElem? (i := 79) (by decide +kernel), by decide, by decide, by decide +kernel⟩
theorem vxX10_same : am_vi MX10_same := ⟨List.mem_of_getElem? (i := 1412) (by decide +kernel), List.mem_of_getElem? (i := 1413) (by decide +kernel)⟩
set_option maxRecDepth 100000 in
theorem myX10_pushes : am_my MX10_pushes 3 := ⟨List.mem_of_getElem? (i := 1433) rfl, List.mem_of_getElem? (i := 79) (by decide +kernel), by decide, by decide, by decide +kernel⟩
theorem vxX10_pushes : am_vi MX10_pushes := ⟨List.mem_of_getElem? (i := 1432) (by decide +kernel), List.mem_of_getElem? (i := 67) (by decide +kernel)⟩
set_option maxRecDepth 100000 in
theorem myX10_agrees : am_my MX10_agrees 2 := ⟨List.mem_of_getElem? (i := 1429) rfl, List.mem_of_getElem? (i := 79) (by decide +kernel), by decide, by decide, by decide +kernel⟩
theorem vxX10_agrees : am_vi MX10_agrees := ⟨List.mem_of_getElem? (i := 1428) (by decide +kernel), List.mem_of_getElem? (i := 66) (by decide +kernel)⟩
set_option maxRecDepth 100000 in
theorem myX10_bits : am_my MX10_bits 1 := ⟨List.mem_of_getElem? (i := 1425) rfl, List.mem_of_getElem? (i := 79) (by decide +kernel), by decide, by decide, by decide +kernel⟩
theorem sxX10_bits : am_sta MX10_bits := List.mem_of_getElem? (i := 1424) (by decide +kernel)
set_option maxRecDepth 100000 in
theorem myX10_leftOf : am_my MX10_leftOf 1 := ⟨List.mem_of_getElem? (i := 1422) rfl, List.mem_of_getElem? (i := 79) (by decide +kernel), by decide, by decide, by decide +kernel⟩
theorem vxX10_leftOf : am_vi MX10_leftOf := ⟨List.mem_of_getElem? (i := 1421) (by decide +kernel), List.mem_of_getElem? (i := 65) (by decide +kernel)⟩
set_option maxRecDepth 100000 in
theorem myX10_left : am_my MX10_left 1 := ⟨List.mem_of_getElem? (i := 1418) rfl, List.mem_of_getElem? (i := 79) (by decide +kernel), by decide, by decide, by decide +kernel⟩
theorem vxX10_left : am_vi MX10_left := ⟨List.mem_of_getElem? (i := 1416) (by decide +kernel), List.mem_of_getElem? (i := 1417) (by decide +kernel)⟩
set_option maxRecDepth 100000 in
theorem myX10_when : am_my MX10_when 3 := ⟨List.mem_of_getElem? (i := 1437) rfl, List.mem_of_getElem? (i := 79) (by decide +kernel), by decide, by decide, by decide +kernel⟩
theorem vxX10_when : am_vi MX10_when := ⟨List.mem_of_getElem? (i := 1435) (by decide +kernel), List.mem_of_getElem? (i := 1436) (by decide +kernel)⟩
set_option maxRecDepth 100000 in
theorem myX10_count : am_my MX10_count 1 := ⟨List.mem_of_getElem? (i := 1441) rfl, List.mem_of_getElem? (i := 79) (by decide +kernel), by decide, by decide, by decide +kernel⟩
theorem vxX10_count : am_vi MX10_count := ⟨List.mem_of_getElem? (i := 1439) (by decide +kernel), List.mem_of_getElem? (i := 1440) (by decide +kernel)⟩
set_option maxRecDepth 100000 in
theorem myJ6_bitCount_0f7a4 : am_my MJ6_bitCount_0f7a4 1 := ⟨List.mem_of_getElem? (i := 900) rfl, List.mem_of_getElem? (i := 85) (by decide +kernel), by decide, by decide, by decide +kernel⟩
theorem sxJ6_bitCount_0f7a4 : am_sta MJ6_bitCount_0f7a4 := List.mem_of_getElem? (i := 899) (by decide +kernel)
set_option maxRecDepth 100000 in
theorem myJ0_length_8abf5 : am_my MJ0_length_8abf5 0 := ⟨List.mem_of_getElem? (i := 476) rfl, List.mem_of_getElem? (i := 80) (by decide +kernel), by decide, by decide, by decide +kernel⟩
theorem vxJ0_length_8abf5 : am_vi MJ0_length_8abf5 := ⟨List.mem_of_getElem? (i := 474) (by decide +kernel), List.mem_of_getElem? (i := 475) (by decide +kernel)⟩
set_option maxRecDepth 100000 in
theorem myJ0_charAt_5068e : am_my MJ0_charAt_5068e 1 := ⟨List.mem_of_getElem? (i := 486) rfl, List.mem_of_getElem? (i := 80) (by decide +kernel), by decide, by decide, by decide +kernel⟩
theorem vxJ0_charAt_5068e : am_vi MJ0_charAt_5068e := ⟨List.mem_of_getElem? (i := 484) (by decide +kernel), List.mem_of_getElem? (i := 485) (by decide +kernel)⟩
set_option maxRecDepth 100000 in
theorem myJ0_coder_7d493 : am_my MJ0_coder_7d493 0 := ⟨List.mem_of_getElem? (i := 480) rfl, List.mem_of_getElem? (i := 80) (by decide +kernel), by decide, by decide, by decide +kernel⟩
theorem vxJ0_coder_7d493 : am_vi MJ0_coder_7d493 := ⟨List.mem_of_getElem? (i := 478) (by decide +kernel), List.mem_of_getElem? (i := 479) (by decide +kernel)⟩
set_option maxRecDepth 100000 in
theorem myJ0_isLatin1_aae02 : am_my MJ0_isLatin1_aae02 0 := ⟨List.mem_of_getElem? (i := 490) rfl, List.mem_of_getElem? (i := 80) (by decide +kernel), by decide, by decide, by decide +kernel⟩
theorem vxJ0_isLatin1_aae02 : am_vi MJ0_isLatin1_aae02 := ⟨List.mem_of_getElem? (i := 488) (by decide +kernel), List.mem_of_getElem? (i := 489) (by decide +kernel)⟩
set_option maxRecDepth 100000 in
theorem myJ0_checkIndex_df160 : am_my MJ0_checkIndex_df160 2 := ⟨List.mem_of_getElem? (i := 496) rfl, List.mem_of_getElem? (i := 80) (by decide +kernel), by decide, by decide, by decide +kernel⟩
theorem sxJ0_checkIndex_df160 : am_sta MJ0_checkIndex_df160 := List.mem_of_getElem? (i := 495) (by decide +kernel)
set_option maxRecDepth 100000 in
theorem myJ1_charAt_3b067 : am_my MJ1_charAt_3b067 2 := ⟨List.mem_of_getElem? (i := 493) rfl, List.mem_of_getElem? (i := 81) (by decide +kernel), by decide, by decide, by decide +kernel⟩
theorem sxJ1_charAt_3b067 : am_sta MJ1_charAt_3b067 := List.mem_of_getElem? (i := 492) (by decide +kernel)
set_option maxRecDepth 100000 in
theorem myJ2_getChar_3b067 : am_my MJ2_getChar_3b067 2 := ⟨List.mem_of_getElem? (i := 514) rfl, List.mem_of_getElem? (i := 83) (by decide +kernel), by decide, by decide, by decide +kernel⟩
theorem sxJ2_getChar_3b067 : am_sta MJ2_getChar_3b067 := List.mem_of_getElem? (i := 513) (by decide +kernel)
set_option maxRecDepth 100000 in
theorem myJ2_length_9d52b : am_my MJ2_length_9d52b 1 := ⟨List.mem_of_getElem? (i := 510) rfl, List.mem_of_getElem? (i := 83) (by decide +kernel), by decide, by decide, by decide +kernel⟩
theorem sxJ2_length_9d52b : am_sta MJ2_length_9d52b := List.mem_of_getElem? (i := 509) (by decide +kernel)
set_option maxRecDepth 100000 in
theorem myJ2_charAt_3b067 : am_my MJ2_charAt_3b067 2 := ⟨List.mem_of_getElem? (i := 504) rfl, List.mem_of_getElem? (i := 83) (by decide +kernel), by decide, by decide, by decide +kernel⟩
theorem sxJ2_charAt_3b067 : am_sta MJ2_charAt_3b067 := List.mem_of_getElem? (i := 503) (by decide +kernel)
set_option maxRecDepth 100000 in
theorem myJ2_checkIndex_2214a : am_my MJ2_checkIndex_2214a 2 := ⟨List.mem_of_getElem? (i := 507) rfl, List.mem_of_getElem? (i := 83) (by decide +kernel), by decide, by decide, by decide +kernel⟩
theorem sxJ2_checkIndex_2214a : am_sta MJ2_checkIndex_2214a := List.mem_of_getElem? (i := 506) (by decide +kernel)
set_option maxRecDepth 100000 in
theorem myJ7_fill_53178 : am_my MJ7_fill_53178 2 := ⟨List.mem_of_getElem? (i := 910) rfl, List.mem_of_getElem? (i := 84) (by decide +kernel), by decide, by decide, by decide +kernel⟩
theorem sxJ7_fill_53178 : am_sta MJ7_fill_53178 := List.mem_of_getElem? (i := 909) (by decide +kernel)
set_option maxRecDepth 100000 in
theorem myJ7_fill_031fb : am_my MJ7_fill_031fb 2 := ⟨List.mem_of_getElem? (i := 746) rfl, List.mem_of_getElem? (i := 84) (by decide +kernel), by decide, by decide, by decide +kernel⟩
theorem sxJ7_fill_031fb : am_sta MJ7_fill_031fb := List.mem_of_getElem? (i := 745) (by decide +kernel)
set_option maxRecDepth 100000 in
theorem myJ3_checkIndex_8e157 : am_my MJ3_checkIndex_8e157 3 := ⟨List.mem_of_getElem? (i := 501) rfl, List.mem_of_getElem? (i := 82) (by decide +kernel), by decide, by decide, by decide +kernel⟩
theorem sxJ3_checkIndex_8e157 : am_sta MJ3_checkIndex_8e157 := List.mem_of_getElem? (i := 500) (by decide +kernel)
theorem lk11_9 : am_lk 11 9 false MX9_init := List.mem_of_getElem? (i := 88) (by decide +kernel)
theorem lk9_11 : am_lk 9 11 true MX6_init := List.mem_of_getElem? (i := 96) (by decide +kernel)
theorem lk9_18 : am_lk 9 18 true MX2_init := List.mem_of_getElem? (i := 126) (by decide +kernel)
theorem lk9_25 : am_lk 9 25 true MX3_init := List.mem_of_getElem? (i := 159) (by decide +kernel)
theorem lk9_32 : am_lk 9 32 true MX8_init := List.mem_of_getElem? (i := 189) (by decide +kernel)
theorem lk9_39 : am_lk 9 39 true MX7_init := List.mem_of_getElem? (i := 211) (by decide +kernel)
theorem lk9_46 : am_lk 9 46 true MX4_init := List.mem_of_getElem? (i := 225) (by decide +kernel)
theorem lk9_53 : am_lk 9 53 true MX0_init := List.mem_of_getElem? (i := 276) (by decide +kernel)
theorem lk9_60 : am_lk 9 60 true MX5_init := List.mem_of_getElem? (i := 293) (by decide +kernel)
theorem lk9_78 : am_lk 9 78 true MX1_init := List.mem_of_getElem? (i := 325) (by decide +kernel)
theorem lk11_13 : am_lk 11 13 false MX9_feed := List.mem_of_getElem? (i := 407) (by decide +kernel)
theorem lk9_83 : am_lk 9 83 false MX6_addTwenty := List.mem_of_getElem? (i := 411) (by decide +kernel)
theorem lk6_19 : am_lk 6 19 false MX6_addFour := List.mem_of_getElem? (i := 415) (by decide +kernel)
theorem lk11_18 : am_lk 11 18 false MX9_back := List.mem_of_getElem? (i := 419) (by decide +kernel)
theorem lk9_87 : am_lk 9 87 false MX6_drop := List.mem_of_getElem? (i := 423) (by decide +kernel)
theorem lk11_23 : am_lk 11 23 false MX9_read := List.mem_of_getElem? (i := 427) (by decide +kernel)
theorem lk9_91 : am_lk 9 91 false MX8_has := List.mem_of_getElem? (i := 431) (by decide +kernel)
theorem lk8_28 : am_lk 8 28 true MX9_isBelow := List.mem_of_getElem? (i := 435) (by decide +kernel)
theorem lk9_98 : am_lk 9 98 false MX2_parse := List.mem_of_getElem? (i := 438) (by decide +kernel)
theorem lk2_15 : am_lk 2 15 false MX2_begin := List.mem_of_getElem? (i := 442) (by decide +kernel)
theorem lk2_18 : am_lk 2 18 false MX6_rewind := List.mem_of_getElem? (i := 446) (by decide +kernel)
theorem lk2_23 : am_lk 2 23 false MX1_clear := List.mem_of_getElem? (i := 450) (by decide +kernel)
theorem lk2_28 : am_lk 2 28 false MX6_advance := List.mem_of_getElem? (i := 454) (by decide +kernel)
theorem lk6_26 : am_lk 6 26 false MX6_isBlank := List.mem_of_getElem? (i := 458) (by decide +kernel)
theorem lk6_39 : am_lk 6 39 false MX6_isLetter := List.mem_of_getElem? (i := 461) (by decide +kernel)
theorem lk6_42 : am_lk 6 42 false MX6_takeWord := List.mem_of_getElem? (i := 464) (by decide +kernel)
theorem lk6_54 : am_lk 6 54 false MX6_wordOf := List.mem_of_getElem? (i := 468) (by decide +kernel)
theorem lk6_60 : am_lk 6 60 false MJ0_length_8abf5 := List.mem_of_getElem? (i := 473) (by decide +kernel)
theorem lk12_335 : am_lk 12 335 false MJ0_coder_7d493 := List.mem_of_getElem? (i := 477) (by decide +kernel)
theorem lk6_66 : am_lk 6 66 false MJ0_charAt_5068e := List.mem_of_getElem? (i := 483) (by decide +kernel)
theorem lk12_492 : am_lk 12 492 false MJ0_isLatin1_aae02 := List.mem_of_getElem? (i := 487) (by decide +kernel)
theorem lk12_495 : am_lk 12 495 false MJ1_charAt_3b067 := List.mem_of_getElem? (i := 491) (by decide +kernel)
theorem lk13_9 : am_lk 13 9 false MJ0_checkIndex_df160 := List.mem_of_getElem? (i := 494) (by decide +kernel)
theorem lk12_1059 : am_lk 12 1059 false MJ3_checkIndex_8e157 := List.mem_of_getElem? (i := 499) (by decide +kernel)
theorem lk12_498 : am_lk 12 498 false MJ2_charAt_3b067 := List.mem_of_getElem? (i := 502) (by decide +kernel)
theorem lk14_67 : am_lk 14 67 false MJ2_checkIndex_2214a := List.mem_of_getElem? (i := 505) (by decide +kernel)
theorem lk14_48 : am_lk 14 48 false MJ2_length_9d52b := List.mem_of_getElem? (i := 508) (by decide +kernel)
theorem lk14_414 : am_lk 14 414 false MJ0_checkIndex_df160 := List.mem_of_getElem? (i := 511) (by decide +kernel)
theorem lk14_71 : am_lk 14 71 false MJ2_getChar_3b067 := List.mem_of_getElem? (i := 512) (by decide +kernel)
theorem lk6_45 : am_lk 6 45 false MX6_isDigit := List.mem_of_getElem? (i := 521) (by decide +kernel)
theorem lk6_48 : am_lk 6 48 false MX6_takeInt := List.mem_of_getElem? (i := 524) (by decide +kernel)
theorem lk6_51 : am_lk 6 51 false MX6_takeSign := List.mem_of_getElem? (i := 528) (by decide +kernel)
theorem lk6_70 : am_lk 6 70 false MX6_signOf := List.mem_of_getElem? (i := 532) (by decide +kernel)
theorem lk2_38 : am_lk 2 38 false MX2_faultOf := List.mem_of_getElem? (i := 535) (by decide +kernel)
theorem lk2_71 : am_lk 2 71 false MX2_goesOn := List.mem_of_getElem? (i := 539) (by decide +kernel)
theorem lk2_75 : am_lk 2 75 false MX2_isHead := List.mem_of_getElem? (i := 543) (by decide +kernel)
theorem lk2_78 : am_lk 2 78 false MX2_startsUnit := List.mem_of_getElem? (i := 546) (by decide +kernel)
theorem lk2_93 : am_lk 2 93 true MX9_isVar := List.mem_of_getElem? (i := 549) (by decide +kernel)
theorem lk2_81 : am_lk 2 81 false MX2_endsLiteral := List.mem_of_getElem? (i := 552) (by decide +kernel)
theorem lk2_84 : am_lk 2 84 true MX9_isOperator := List.mem_of_getElem? (i := 555) (by decide +kernel)
theorem lk2_87 : am_lk 2 87 false MX2_endsSide := List.mem_of_getElem? (i := 558) (by decide +kernel)
theorem lk2_90 : am_lk 2 90 false MX2_isComparison := List.mem_of_getElem? (i := 562) (by decide +kernel)
theorem lk2_42 : am_lk 2 42 false MX2_take := List.mem_of_getElem? (i := 565) (by decide +kernel)
theorem lk2_96 : am_lk 2 96 false MX1_addRule := List.mem_of_getElem? (i := 569) (by decide +kernel)
theorem lk2_100 : am_lk 2 100 false MX2_takeTopic := List.mem_of_getElem? (i := 573) (by decide +kernel)
theorem lk2_110 : am_lk 2 110 false MX1_addCell := List.mem_of_getElem? (i := 577) (by decide +kernel)
theorem lk2_127 : am_lk 2 127 false MX1_addLiteral := List.mem_of_getElem? (i := 581) (by decide +kernel)
theorem lk1_49 : am_lk 1 49 false MX1_firstCell := List.mem_of_getElem? (i := 585) (by decide +kernel)
theorem lk1_53 : am_lk 1 53 false MX1_hasDay := List.mem_of_getElem? (i := 589) (by decide +kernel)
theorem lk1_57 : am_lk 1 57 false MX1_codeOf := List.mem_of_getElem? (i := 593) (by decide +kernel)
theorem lk2_106 : am_lk 2 106 false MX1_codeOf := List.mem_of_getElem? (i := 596) (by decide +kernel)
theorem lk2_113 : am_lk 2 113 false MX2_takeBracket := List.mem_of_getElem? (i := 597) (by decide +kernel)
theorem lk2_121 : am_lk 2 121 false MX2_hold := List.mem_of_getElem? (i := 601) (by decide +kernel)
theorem lk2_117 : am_lk 2 117 false MX2_unload := List.mem_of_getElem? (i := 605) (by decide +kernel)
theorem lk2_124 : am_lk 2 124 false MX2_takeLiteralEnd := List.mem_of_getElem? (i := 609) (by decide +kernel)
theorem lk9_103 : am_lk 9 103 false MX8_exchangeConsent := List.mem_of_getElem? (i := 613) (by decide +kernel)
theorem lk8_33 : am_lk 8 33 false MX8_has := List.mem_of_getElem? (i := 617) (by decide +kernel)
theorem lk9_107 : am_lk 9 107 false MX6_clear := List.mem_of_getElem? (i := 618) (by decide +kernel)
theorem lk11_27 : am_lk 11 27 false MX9_place := List.mem_of_getElem? (i := 622) (by decide +kernel)
theorem lk11_32 : am_lk 11 32 false MX9_person := List.mem_of_getElem? (i := 626) (by decide +kernel)
theorem lk9_110 : am_lk 9 110 false MX9_isBelow := List.mem_of_getElem? (i := 630) (by decide +kernel)
theorem lk9_114 : am_lk 9 114 false MX8_add := List.mem_of_getElem? (i := 631) (by decide +kernel)
theorem lk8_32 : am_lk 8 32 true MX1_init := List.mem_of_getElem? (i := 635) (by decide +kernel)
theorem lk11_37 : am_lk 11 37 false MX9_topic := List.mem_of_getElem? (i := 636) (by decide +kernel)
theorem lk9_118 : am_lk 9 118 false MX7_has := List.mem_of_getElem? (i := 640) (by decide +kernel)
theorem lk7_19 : am_lk 7 19 true MX9_isBelow := List.mem_of_getElem? (i := 644) (by decide +kernel)
theorem lk9_119 : am_lk 9 119 false MX7_add := List.mem_of_getElem? (i := 645) (by decide +kernel)
theorem lk7_23 : am_lk 7 23 false MX7_lineOf := List.mem_of_getElem? (i := 649) (by decide +kernel)
theorem lk7_27 : am_lk 7 27 false MX7_has := List.mem_of_getElem? (i := 653) (by decide +kernel)
theorem lk11_41 : am_lk 11 41 false MX9_tape := List.mem_of_getElem? (i := 654) (by decide +kernel)
theorem lk9_121 : am_lk 9 121 false MX9_isDay := List.mem_of_getElem? (i := 658) (by decide +kernel)
theorem lk9_124 : am_lk 9 124 false MX4_addTape := List.mem_of_getElem? (i := 661) (by decide +kernel)
theorem lk11_46 : am_lk 11 46 false MX9_piece := List.mem_of_getElem? (i := 665) (by decide +kernel)
theorem lk9_128 : am_lk 9 128 false MX4_isFree := List.mem_of_getElem? (i := 669) (by decide +kernel)
theorem lk4_46 : am_lk 4 46 true MX9_isBelow := List.mem_of_getElem? (i := 673) (by decide +kernel)
theorem lk9_132 : am_lk 9 132 false MX4_addPiece := List.mem_of_getElem? (i := 674) (by decide +kernel)
theorem lk11_51 : am_lk 11 51 false MX9_asker := List.mem_of_getElem? (i := 678) (by decide +kernel)
theorem lk9_136 : am_lk 9 136 false MX0_add := List.mem_of_getElem? (i := 682) (by decide +kernel)
theorem lk11_55 : am_lk 11 55 false MX9_copy := List.mem_of_getElem? (i := 686) (by decide +kernel)
theorem lk11_59 : am_lk 11 59 false MX9_bound := List.mem_of_getElem? (i := 690) (by decide +kernel)
theorem lk11_64 : am_lk 11 64 false MX9_dies := List.mem_of_getElem? (i := 694) (by decide +kernel)
theorem lk9_140 : am_lk 9 140 false MX8_setDeath := List.mem_of_getElem? (i := 698) (by decide +kernel)
theorem lk11_69 : am_lk 11 69 false MX9_takes := List.mem_of_getElem? (i := 702) (by decide +kernel)
theorem lk9_143 : am_lk 9 143 false MX4_takeBack := List.mem_of_getElem? (i := 706) (by decide +kernel)
theorem lk4_53 : am_lk 4 53 false MX4_has := List.mem_of_getElem? (i := 710) (by decide +kernel)
theorem lk11_73 : am_lk 11 73 false MX9_let := List.mem_of_getElem? (i := 714) (by decide +kernel)
theorem lk9_146 : am_lk 9 146 false MX9_isQuestion := List.mem_of_getElem? (i := 718) (by decide +kernel)
theorem lk9_176 : am_lk 9 176 false MX4_has := List.mem_of_getElem? (i := 722) (by decide +kernel)
theorem lk9_150 : am_lk 9 150 false MX9_pose := List.mem_of_getElem? (i := 723) (by decide +kernel)
theorem lk9_237 : am_lk 9 237 false MX4_speakerOf := List.mem_of_getElem? (i := 727) (by decide +kernel)
theorem lk9_240 : am_lk 9 240 false MX4_madeOn := List.mem_of_getElem? (i := 731) (by decide +kernel)
theorem lk9_243 : am_lk 9 243 false MX8_deathOf := List.mem_of_getElem? (i := 735) (by decide +kernel)
theorem lk9_195 : am_lk 9 195 false MX7_lineOf := List.mem_of_getElem? (i := 739) (by decide +kernel)
theorem lk9_246 : am_lk 9 246 false MX3_begin := List.mem_of_getElem? (i := 740) (by decide +kernel)
theorem lk3_22 : am_lk 3 22 false MJ7_fill_031fb := List.mem_of_getElem? (i := 744) (by decide +kernel)
theorem lk9_249 : am_lk 9 249 false MX3_give := List.mem_of_getElem? (i := 747) (by decide +kernel)
theorem lk3_38 : am_lk 3 38 true MX9_isVar := List.mem_of_getElem? (i := 751) (by decide +kernel)
theorem lk9_208 : am_lk 9 208 false MX3_turnTo := List.mem_of_getElem? (i := 752) (by decide +kernel)
theorem lk3_42 : am_lk 3 42 false MX3_give := List.mem_of_getElem? (i := 756) (by decide +kernel)
theorem lk9_253 : am_lk 9 253 false MX8_consentOf := List.mem_of_getElem? (i := 757) (by decide +kernel)
theorem lk9_154 : am_lk 9 154 false MX1_letBy := List.mem_of_getElem? (i := 761) (by decide +kernel)
theorem lk1_60 : am_lk 1 60 false MX1_holds := List.mem_of_getElem? (i := 765) (by decide +kernel)
theorem lk1_64 : am_lk 1 64 false MX1_literalHolds := List.mem_of_getElem? (i := 769) (by decide +kernel)
theorem lk1_67 : am_lk 1 67 false MX1_testHolds := List.mem_of_getElem? (i := 773) (by decide +kernel)
theorem lk1_78 : am_lk 1 78 false MX3_takeCell := List.mem_of_getElem? (i := 777) (by decide +kernel)
theorem lk3_52 : am_lk 3 52 true MX9_isOperator := List.mem_of_getElem? (i := 781) (by decide +kernel)
theorem lk3_55 : am_lk 3 55 false MX3_pop := List.mem_of_getElem? (i := 782) (by decide +kernel)
theorem lk3_59 : am_lk 3 59 false MX3_push := List.mem_of_getElem? (i := 786) (by decide +kernel)
theorem lk1_82 : am_lk 1 82 false MX3_pop := List.mem_of_getElem? (i := 790) (by decide +kernel)
theorem lk1_86 : am_lk 1 86 false MX3_isInTopic := List.mem_of_getElem? (i := 791) (by decide +kernel)
theorem lk3_46 : am_lk 3 46 true MX9_isBelow := List.mem_of_getElem? (i := 795) (by decide +kernel)
theorem lk11_77 : am_lk 11 77 false MX9_mask := List.mem_of_getElem? (i := 796) (by decide +kernel)
theorem lk9_161 : am_lk 9 161 false MX1_maskedBy := List.mem_of_getElem? (i := 800) (by decide +kernel)
theorem lk11_81 : am_lk 11 81 false MX9_would := List.mem_of_getElem? (i := 804) (by decide +kernel)
theorem lk9_164 : am_lk 9 164 false MX9_isAsking := List.mem_of_getElem? (i := 808) (by decide +kernel)
theorem lk9_175 : am_lk 9 175 false MX0_has := List.mem_of_getElem? (i := 812) (by decide +kernel)
theorem lk0_23 : am_lk 0 23 true MX9_isBelow := List.mem_of_getElem? (i := 816) (by decide +kernel)
theorem lk9_168 : am_lk 9 168 false MX9_answerTo := List.mem_of_getElem? (i := 817) (by decide +kernel)
theorem lk9_260 : am_lk 9 260 false MX0_kindOf := List.mem_of_getElem? (i := 821) (by decide +kernel)
theorem lk0_27 : am_lk 0 27 false MX0_has := List.mem_of_getElem? (i := 825) (by decide +kernel)
theorem lk9_263 : am_lk 9 263 false MX9_wouldUnmask := List.mem_of_getElem? (i := 826) (by decide +kernel)
theorem lk9_184 : am_lk 9 184 false MX9_knownTraits := List.mem_of_getElem? (i := 830) (by decide +kernel)
theorem lk9_177 : am_lk 9 177 false MX0_wayOf := List.mem_of_getElem? (i := 834) (by decide +kernel)
theorem lk9_187 : am_lk 9 187 false MX8_alikeTo := List.mem_of_getElem? (i := 838) (by decide +kernel)
theorem lk8_37 : am_lk 8 37 false MX8_areAlike := List.mem_of_getElem? (i := 842) (by decide +kernel)
theorem lk9_181 : am_lk 9 181 false MX9_knowsByName := List.mem_of_getElem? (i := 846) (by decide +kernel)
theorem lk11_85 : am_lk 11 85 false MX9_ask := List.mem_of_getElem? (i := 850) (by decide +kernel)
theorem lk9_171 : am_lk 9 171 false MX0_hear := List.mem_of_getElem? (i := 854) (by decide +kernel)
theorem lk0_31 : am_lk 0 31 false MX0_wayOf := List.mem_of_getElem? (i := 858) (by decide +kernel)
theorem lk11_89 : am_lk 11 89 false MX9_heard := List.mem_of_getElem? (i := 859) (by decide +kernel)
theorem lk11_94 : am_lk 11 94 false MX9_could := List.mem_of_getElem? (i := 863) (by decide +kernel)
theorem lk11_98 : am_lk 11 98 false MX9_seconds := List.mem_of_getElem? (i := 867) (by decide +kernel)
theorem lk11_102 : am_lk 11 102 false MX9_opens := List.mem_of_getElem? (i := 871) (by decide +kernel)
theorem lk11_106 : am_lk 11 106 false MX9_at := List.mem_of_getElem? (i := 875) (by decide +kernel)
theorem lk9_212 : am_lk 9 212 false MX4_pieceAt := List.mem_of_getElem? (i := 879) (by decide +kernel)
theorem lk11_110 : am_lk 11 110 false MX9_span := List.mem_of_getElem? (i := 883) (by decide +kernel)
theorem lk9_215 : am_lk 9 215 false MX9_isEvent := List.mem_of_getElem? (i := 887) (by decide +kernel)
theorem lk9_218 : am_lk 9 218 false MX5_add := List.mem_of_getElem? (i := 890) (by decide +kernel)
theorem lk5_37 : am_lk 5 37 false MX5_findLeftOut := List.mem_of_getElem? (i := 894) (by decide +kernel)
theorem lk5_49 : am_lk 5 49 false MJ6_bitCount_0f7a4 := List.mem_of_getElem? (i := 898) (by decide +kernel)
theorem lk5_45 : am_lk 5 45 false MX5_settle := List.mem_of_getElem? (i := 904) (by decide +kernel)
theorem lk5_55 : am_lk 5 55 false MJ7_fill_53178 := List.mem_of_getElem? (i := 908) (by decide +kernel)
theorem lk5_61 : am_lk 5 61 false MX5_pushDays := List.mem_of_getElem? (i := 911) (by decide +kernel)
theorem lk5_68 : am_lk 5 68 false MX5_pushTo := List.mem_of_getElem? (i := 915) (by decide +kernel)
theorem lk5_41 : am_lk 5 41 true MX9_isEvent := List.mem_of_getElem? (i := 919) (by decide +kernel)
theorem lk5_65 : am_lk 5 65 false MX5_areWithin := List.mem_of_getElem? (i := 920) (by decide +kernel)
theorem lk11_114 : am_lk 11 114 false MX9_behind := List.mem_of_getElem? (i := 924) (by decide +kernel)
theorem lk9_220 : am_lk 9 220 false MX9_areTwoEvents := List.mem_of_getElem? (i := 928) (by decide +kernel)
theorem lk11_118 : am_lk 11 118 false MX9_same := List.mem_of_getElem? (i := 931) (by decide +kernel)
theorem lk11_122 : am_lk 11 122 false MX9_left := List.mem_of_getElem? (i := 935) (by decide +kernel)
theorem lk9_223 : am_lk 9 223 false MX5_leftOut := List.mem_of_getElem? (i := 939) (by decide +kernel)
theorem lk11_126 : am_lk 11 126 false MX9_when := List.mem_of_getElem? (i := 943) (by decide +kernel)
theorem lk9_226 : am_lk 9 226 false MX5_dayOf := List.mem_of_getElem? (i := 947) (by decide +kernel)
theorem lk11_130 : am_lk 11 130 false MX9_count := List.mem_of_getElem? (i := 951) (by decide +kernel)
theorem lk11_12 : am_lk 11 12 false MX10_init := List.mem_of_getElem? (i := 957) (by decide +kernel)
theorem lk10_155 : am_lk 10 155 false MX10_word := List.mem_of_getElem? (i := 961) (by decide +kernel)
theorem lk10_174 : am_lk 10 174 false MX10_more := List.mem_of_getElem? (i := 964) (by decide +kernel)
theorem lk11_17 : am_lk 11 17 false MX10_feed := List.mem_of_getElem? (i := 1176) (by decide +kernel)
theorem lk10_165 : am_lk 10 165 false MX10_put := List.mem_of_getElem? (i := 1180) (by decide +kernel)
theorem lk11_22 : am_lk 11 22 false MX10_back := List.mem_of_getElem? (i := 1184) (by decide +kernel)
theorem lk11_26 : am_lk 11 26 false MX10_read := List.mem_of_getElem? (i := 1188) (by decide +kernel)
theorem lk10_224 : am_lk 10 224 false MX10_isPerson := List.mem_of_getElem? (i := 1192) (by decide +kernel)
theorem lk10_227 : am_lk 10 227 false MX10_cut := List.mem_of_getElem? (i := 1196) (by decide +kernel)
theorem lk10_181 : am_lk 10 181 false MX10_at := List.mem_of_getElem? (i := 1200) (by decide +kernel)
theorem lk10_185 : am_lk 10 185 false MX10_token := List.mem_of_getElem? (i := 1204) (by decide +kernel)
theorem lk10_189 : am_lk 10 189 false MX10_isLetter := List.mem_of_getElem? (i := 1208) (by decide +kernel)
theorem lk10_193 : am_lk 10 193 false MX10_isDigit := List.mem_of_getElem? (i := 1211) (by decide +kernel)
theorem lk10_196 : am_lk 10 196 false MX10_sign := List.mem_of_getElem? (i := 1214) (by decide +kernel)
theorem lk10_218 : am_lk 10 218 false MX10_is := List.mem_of_getElem? (i := 1218) (by decide +kernel)
theorem lk10_239 : am_lk 10 239 false MX10_tellRule := List.mem_of_getElem? (i := 1222) (by decide +kernel)
theorem lk10_215 : am_lk 10 215 false MX10_fail := List.mem_of_getElem? (i := 1226) (by decide +kernel)
theorem lk10_221 : am_lk 10 221 false MX10_next := List.mem_of_getElem? (i := 1230) (by decide +kernel)
theorem lk10_242 : am_lk 10 242 false MX10_literal := List.mem_of_getElem? (i := 1234) (by decide +kernel)
theorem lk10_246 : am_lk 10 246 false MX10_must := List.mem_of_getElem? (i := 1238) (by decide +kernel)
theorem lk10_252 : am_lk 10 252 false MX10_wrong := List.mem_of_getElem? (i := 1242) (by decide +kernel)
theorem lk10_256 : am_lk 10 256 false MX10_emit := List.mem_of_getElem? (i := 1246) (by decide +kernel)
theorem lk10_259 : am_lk 10 259 false MX10_expression := List.mem_of_getElem? (i := 1250) (by decide +kernel)
theorem lk10_265 : am_lk 10 265 false MX10_comesOut := List.mem_of_getElem? (i := 1254) (by decide +kernel)
theorem lk11_31 : am_lk 11 31 false MX10_place := List.mem_of_getElem? (i := 1258) (by decide +kernel)
theorem lk11_36 : am_lk 11 36 false MX10_person := List.mem_of_getElem? (i := 1262) (by decide +kernel)
theorem lk10_277 : am_lk 10 277 false MX10_isFour := List.mem_of_getElem? (i := 1266) (by decide +kernel)
theorem lk11_40 : am_lk 11 40 false MX10_topic := List.mem_of_getElem? (i := 1269) (by decide +kernel)
theorem lk11_45 : am_lk 11 45 false MX10_tape := List.mem_of_getElem? (i := 1273) (by decide +kernel)
theorem lk10_283 : am_lk 10 283 false MX10_isDay := List.mem_of_getElem? (i := 1277) (by decide +kernel)
theorem lk11_50 : am_lk 11 50 false MX10_piece := List.mem_of_getElem? (i := 1280) (by decide +kernel)
theorem lk11_54 : am_lk 11 54 false MX10_asker := List.mem_of_getElem? (i := 1284) (by decide +kernel)
theorem lk11_58 : am_lk 11 58 false MX10_copy := List.mem_of_getElem? (i := 1288) (by decide +kernel)
theorem lk11_63 : am_lk 11 63 false MX10_bound := List.mem_of_getElem? (i := 1292) (by decide +kernel)
theorem lk11_68 : am_lk 11 68 false MX10_dies := List.mem_of_getElem? (i := 1296) (by decide +kernel)
theorem lk11_72 : am_lk 11 72 false MX10_takes := List.mem_of_getElem? (i := 1300) (by decide +kernel)
theorem lk10_289 : am_lk 10 289 false MX10_isPiece := List.mem_of_getElem? (i := 1304) (by decide +kernel)
theorem lk11_76 : am_lk 11 76 false MX10_let := List.mem_of_getElem? (i := 1308) (by decide +kernel)
theorem lk10_310 : am_lk 10 310 false MX10_isAsked := List.mem_of_getElem? (i := 1312) (by decide +kernel)
theorem lk10_314 : am_lk 10 314 false MX10_letBy := List.mem_of_getElem? (i := 1316) (by decide +kernel)
theorem lk10_302 : am_lk 10 302 false MX10_asks := List.mem_of_getElem? (i := 1320) (by decide +kernel)
theorem lk10_306 : am_lk 10 306 false MX10_holds := List.mem_of_getElem? (i := 1324) (by decide +kernel)
theorem lk10_299 : am_lk 10 299 false MX10_isTrue := List.mem_of_getElem? (i := 1328) (by decide +kernel)
theorem lk10_295 : am_lk 10 295 false MX10_value := List.mem_of_getElem? (i := 1332) (by decide +kernel)
theorem lk11_80 : am_lk 11 80 false MX10_mask := List.mem_of_getElem? (i := 1336) (by decide +kernel)
theorem lk10_318 : am_lk 10 318 false MX10_maskBy := List.mem_of_getElem? (i := 1340) (by decide +kernel)
theorem lk11_105 : am_lk 11 105 false MX10_opens := List.mem_of_getElem? (i := 1344) (by decide +kernel)
theorem lk11_84 : am_lk 11 84 false MX10_would := List.mem_of_getElem? (i := 1348) (by decide +kernel)
theorem lk10_333 : am_lk 10 333 false MX10_isAsking := List.mem_of_getElem? (i := 1352) (by decide +kernel)
theorem lk10_321 : am_lk 10 321 false MX10_isAsker := List.mem_of_getElem? (i := 1356) (by decide +kernel)
theorem lk10_337 : am_lk 10 337 false MX10_wouldGet := List.mem_of_getElem? (i := 1360) (by decide +kernel)
theorem lk10_324 : am_lk 10 324 false MX10_hasName := List.mem_of_getElem? (i := 1364) (by decide +kernel)
theorem lk10_327 : am_lk 10 327 false MX10_traitsHeard := List.mem_of_getElem? (i := 1368) (by decide +kernel)
theorem lk10_330 : am_lk 10 330 false MX10_alike := List.mem_of_getElem? (i := 1372) (by decide +kernel)
theorem lk11_88 : am_lk 11 88 false MX10_ask := List.mem_of_getElem? (i := 1376) (by decide +kernel)
theorem lk11_93 : am_lk 11 93 false MX10_heard := List.mem_of_getElem? (i := 1380) (by decide +kernel)
theorem lk11_97 : am_lk 11 97 false MX10_could := List.mem_of_getElem? (i := 1384) (by decide +kernel)
theorem lk11_101 : am_lk 11 101 false MX10_seconds := List.mem_of_getElem? (i := 1388) (by decide +kernel)
theorem lk11_109 : am_lk 11 109 false MX10_at_ := List.mem_of_getElem? (i := 1392) (by decide +kernel)
theorem lk11_113 : am_lk 11 113 false MX10_span := List.mem_of_getElem? (i := 1396) (by decide +kernel)
theorem lk10_344 : am_lk 10 344 false MX10_isEvent := List.mem_of_getElem? (i := 1400) (by decide +kernel)
theorem lk10_347 : am_lk 10 347 false MX10_telling := List.mem_of_getElem? (i := 1403) (by decide +kernel)
theorem lk11_117 : am_lk 11 117 false MX10_behind := List.mem_of_getElem? (i := 1407) (by decide +kernel)
theorem lk11_121 : am_lk 11 121 false MX10_same := List.mem_of_getElem? (i := 1411) (by decide +kernel)
theorem lk11_125 : am_lk 11 125 false MX10_left := List.mem_of_getElem? (i := 1415) (by decide +kernel)
theorem lk10_364 : am_lk 10 364 false MX10_leftOf := List.mem_of_getElem? (i := 1419) (by decide +kernel)
theorem lk10_358 : am_lk 10 358 false MX10_bits := List.mem_of_getElem? (i := 1423) (by decide +kernel)
theorem lk10_361 : am_lk 10 361 false MX10_agrees := List.mem_of_getElem? (i := 1426) (by decide +kernel)
theorem lk10_354 : am_lk 10 354 false MX10_pushes := List.mem_of_getElem? (i := 1430) (by decide +kernel)
theorem lk11_129 : am_lk 11 129 false MX10_when := List.mem_of_getElem? (i := 1434) (by decide +kernel)
theorem lk11_133 : am_lk 11 133 false MX10_count := List.mem_of_getElem? (i := 1438) (by decide +kernel)
end
section
theorem gy_if_eq {y : am_MD} {d mc ms kc ks n pc q r : Nat} {L : List (Option Value)} {st : List Value} {I : am_I} {J : am_J} {Q : am_Q} {β : Type} {F : β → am_R} {a b : β} {x : Int32} {off : Int} (hat : am_at y pc = some (.ifCond .eq off, 3)) (hq : pc + 3 = q) (hr : (pc : Int) + off = (r : Int)) (kt : x = 0 → Gd y (am_o d mc ms (F a)) kc ks n r L (st) I J Q) (kf : ¬ x = 0 → Gd y (am_o d mc ms (F b)) kc ks n q L (st) I J Q) : Gd y (am_o d mc ms (F (if x = 0 then a else b))) kc ks n pc L (.int x :: st) I J Q := by
  by_cases hc : x = 0
  · rw [if_pos hc]
    exact gd_if_eq hat hq hr (fun _ => kt hc) (fun h => absurd hc h)
  · rw [if_neg hc]
    exact gd_if_eq hat hq hr (fun h => absurd h hc) (fun _ => kf hc)
theorem gx_if_eq {y : am_MD} {d mc ms kc ks n pc q r : Nat} {L : List (Option Value)} {st : List Value} {I : am_I} {J : am_J} {Q : am_Q} {β : Type} {F : β → am_R} {a b : β} {x : Int32} {P1 P2 : Prop} {off : Int} (hat : am_at y pc = some (.ifCond .eq off, 3)) (hq : pc + 3 = q) (hr : (pc : Int) + off = (r : Int)) (hp : if x = 0 then P1 else P2) (kt : x = 0 → P1 → Gd y (am_o d mc ms (F a)) kc ks n r L (st) I J Q) (kf : ¬ x = 0 → P2 → Gd y (am_o d mc ms (F b)) kc ks n q L (st) I J Q) : Gd y (am_o d mc ms (F (if x = 0 then a else b))) kc ks n pc L (.int x :: st) I J Q :=
  gy_if_eq hat hq hr (fun hc => kt hc (by rw [if_pos hc] at hp; exact hp)) (fun hc => kf hc (by rw [if_neg hc] at hp; exact hp))
theorem gy_icmp_eq {y : am_MD} {d mc ms kc ks n pc q r : Nat} {L : List (Option Value)} {st : List Value} {I : am_I} {J : am_J} {Q : am_Q} {β : Type} {F : β → am_R} {a b : β} {x z : Int32} {off : Int} (hat : am_at y pc = some (.if_icmp .eq off, 3)) (hq : pc + 3 = q) (hr : (pc : Int) + off = (r : Int)) (kt : x = z → Gd y (am_o d mc ms (F a)) kc ks n r L (st) I J Q) (kf : ¬ x = z → Gd y (am_o d mc ms (F b)) kc ks n q L (st) I J Q) : Gd y (am_o d mc ms (F (if x = z then a else b))) kc ks n pc L (.int z :: .int x :: st) I J Q := by
  by_cases hc : x = z
  · rw [if_pos hc]
    exact gd_icmp_eq hat hq hr (fun _ => kt hc) (fun h => absurd hc h)
  · rw [if_neg hc]
    exact gd_icmp_eq hat hq hr (fun h => absurd h hc) (fun _ => kf hc)
theorem gx_icmp_eq {y : am_MD} {d mc ms kc ks n pc q r : Nat} {L : List (Option Value)} {st : List Value} {I : am_I} {J : am_J} {Q : am_Q} {β : Type} {F : β → am_R} {a b : β} {x z : Int32} {P1 P2 : Prop} {off : Int} (hat : am_at y pc = some (.if_icmp .eq off, 3)) (hq : pc + 3 = q) (hr : (pc : Int) + off = (r : Int)) (hp : if x = z then P1 else P2) (kt : x = z → P1 → Gd y (am_o d mc ms (F a)) kc ks n r L (st) I J Q) (kf : ¬ x = z → P2 → Gd y (am_o d mc ms (F b)) kc ks n q L (st) I J Q) : Gd y (am_o d mc ms (F (if x = z then a else b))) kc ks n pc L (.int z :: .int x :: st) I J Q :=
  gy_icmp_eq hat hq hr (fun hc => kt hc (by rw [if_pos hc] at hp; exact hp)) (fun hc => kf hc (by rw [if_neg hc] at hp; exact hp))
theorem gy_if_ne {y : am_MD} {d mc ms kc ks n pc q r : Nat} {L : List (Option Value)} {st : List Value} {I : am_I} {J : am_J} {Q : am_Q} {β : Type} {F : β → am_R} {a b : β} {x : Int32} {off : Int} (hat : am_at y pc = some (.ifCond .ne off, 3)) (hq : pc + 3 = q) (hr : (pc : Int) + off = (r : Int)) (kt : x = 0 → Gd y (am_o d mc ms (F a)) kc ks n q L (st) I J Q) (kf : ¬ x = 0 → Gd y (am_o d mc ms (F b)) kc ks n r L (st) I J Q) : Gd y (am_o d mc ms (F (if x = 0 then a else b))) kc ks n pc L (.int x :: st) I J Q := by
  by_cases hc : x = 0
  · rw [if_pos hc]
    exact gd_if_ne hat hq hr (fun h => absurd hc h) (fun _ => kt hc)
  · rw [if_neg hc]
    exact gd_if_ne hat hq hr (fun _ => kf hc) (fun h => absurd h hc)
theorem gx_if_ne {y : am_MD} {d mc ms kc ks n pc q r : Nat} {L : List (Option Value)} {st : List Value} {I : am_I} {J : am_J} {Q : am_Q} {β : Type} {F : β → am_R} {a b : β} {x : Int32} {P1 P2 : Prop} {off : Int} (hat : am_at y pc = some (.ifCond .ne off, 3)) (hq : pc + 3 = q) (hr : (pc : Int) + off = (r : Int)) (hp : if x = 0 then P1 else P2) (kt : x = 0 → P1 → Gd y (am_o d mc ms (F a)) kc ks n q L (st) I J Q) (kf : ¬ x = 0 → P2 → Gd y (am_o d mc ms (F b)) kc ks n r L (st) I J Q) : Gd y (am_o d mc ms (F (if x = 0 then a else b))) kc ks n pc L (.int x :: st) I J Q :=
  gy_if_ne hat hq hr (fun hc => kt hc (by rw [if_pos hc] at hp; exact hp)) (fun hc => kf hc (by rw [if_neg hc] at hp; exact hp))
theorem gy_icmp_ne {y : am_MD} {d mc ms kc ks n pc q r : Nat} {L : List (Option Value)} {st : List Value} {I : am_I} {J : am_J} {Q : am_Q} {β : Type} {F : β → am_R} {a b : β} {x z : Int32} {off : Int} (hat : am_at y pc = some (.if_icmp .ne off, 3)) (hq : pc + 3 = q) (hr : (pc : Int) + off = (r : Int)) (kt : x = z → Gd y (am_o d mc ms (F a)) kc ks n q L (st) I J Q) (kf : ¬ x = z → Gd y (am_o d mc ms (F b)) kc ks n r L (st) I J Q) : Gd y (am_o d mc ms (F (if x = z then a else b))) kc ks n pc L (.int z :: .int x :: st) I J Q := by
  by_cases hc : x = z
  · rw [if_pos hc]
    exact gd_icmp_ne hat hq hr (fun h => absurd hc h) (fun _ => kt hc)
  · rw [if_neg hc]
    exact gd_icmp_ne hat hq hr (fun _ => kf hc) (fun h => absurd h hc)
theorem gx_icmp_ne {y : am_MD} {d mc ms kc ks n pc q r : Nat} {L : List (Option Value)} {st : List Value} {I : am_I} {J : am_J} {Q : am_Q} {β : Type} {F : β → am_R} {a b : β} {x z : Int32} {P1 P2 : Prop} {off : Int} (hat : am_at y pc = some (.if_icmp .ne off, 3)) (hq : pc + 3 = q) (hr : (pc : Int) + off = (r : Int)) (hp : if x = z then P1 else P2) (kt : x = z → P1 → Gd y (am_o d mc ms (F a)) kc ks n q L (st) I J Q) (kf : ¬ x = z → P2 → Gd y (am_o d mc ms (F b)) kc ks n r L (st) I J Q) : Gd y (am_o d mc ms (F (if x = z then a else b))) kc ks n pc L (.int z :: .int x :: st) I J Q :=
  gy_icmp_ne hat hq hr (fun hc => kt hc (by rw [if_pos hc] at hp; exact hp)) (fun hc => kf hc (by rw [if_neg hc] at hp; exact hp))
theorem gy_if_lt {y : am_MD} {d mc ms kc ks n pc q r : Nat} {L : List (Option Value)} {st : List Value} {I : am_I} {J : am_J} {Q : am_Q} {β : Type} {F : β → am_R} {a b : β} {x : Int32} {off : Int} (hat : am_at y pc = some (.ifCond .lt off, 3)) (hq : pc + 3 = q) (hr : (pc : Int) + off = (r : Int)) (kt : x < 0 → Gd y (am_o d mc ms (F a)) kc ks n r L (st) I J Q) (kf : ¬ x < 0 → Gd y (am_o d mc ms (F b)) kc ks n q L (st) I J Q) : Gd y (am_o d mc ms (F (if x < 0 then a else b))) kc ks n pc L (.int x :: st) I J Q := by
  by_cases hc : x < 0
  · rw [if_pos hc]
    exact gd_if_lt hat hq hr (fun _ => kt hc) (fun h => absurd hc h)
  · rw [if_neg hc]
    exact gd_if_lt hat hq hr (fun h => absurd h hc) (fun _ => kf hc)
theorem gx_if_lt {y : am_MD} {d mc ms kc ks n pc q r : Nat} {L : List (Option Value)} {st : List Value} {I : am_I} {J : am_J} {Q : am_Q} {β : Type} {F : β → am_R} {a b : β} {x : Int32} {P1 P2 : Prop} {off : Int} (hat : am_at y pc = some (.ifCond .lt off, 3)) (hq : pc + 3 = q) (hr : (pc : Int) + off = (r : Int)) (hp : if x < 0 then P1 else P2) (kt : x < 0 → P1 → Gd y (am_o d mc ms (F a)) kc ks n r L (st) I J Q) (kf : ¬ x < 0 → P2 → Gd y (am_o d mc ms (F b)) kc ks n q L (st) I J Q) : Gd y (am_o d mc ms (F (if x < 0 then a else b))) kc ks n pc L (.int x :: st) I J Q :=
  gy_if_lt hat hq hr (fun hc => kt hc (by rw [if_pos hc] at hp; exact hp)) (fun hc => kf hc (by rw [if_neg hc] at hp; exact hp))
theorem gy_icmp_lt {y : am_MD} {d mc ms kc ks n pc q r : Nat} {L : List (Option Value)} {st : List Value} {I : am_I} {J : am_J} {Q : am_Q} {β : Type} {F : β → am_R} {a b : β} {x z : Int32} {off : Int} (hat : am_at y pc = some (.if_icmp .lt off, 3)) (hq : pc + 3 = q) (hr : (pc : Int) + off = (r : Int)) (kt : x < z → Gd y (am_o d mc ms (F a)) kc ks n r L (st) I J Q) (kf : ¬ x < z → Gd y (am_o d mc ms (F b)) kc ks n q L (st) I J Q) : Gd y (am_o d mc ms (F (if x < z then a else b))) kc ks n pc L (.int z :: .int x :: st) I J Q := by
  by_cases hc : x < z
  · rw [if_pos hc]
    exact gd_icmp_lt hat hq hr (fun _ => kt hc) (fun h => absurd hc h)
  · rw [if_neg hc]
    exact gd_icmp_lt hat hq hr (fun h => absurd h hc) (fun _ => kf hc)
theorem gx_icmp_lt {y : am_MD} {d mc ms kc ks n pc q r : Nat} {L : List (Option Value)} {st : List Value} {I : am_I} {J : am_J} {Q : am_Q} {β : Type} {F : β → am_R} {a b : β} {x z : Int32} {P1 P2 : Prop} {off : Int} (hat : am_at y pc = some (.if_icmp .lt off, 3)) (hq : pc + 3 = q) (hr : (pc : Int) + off = (r : Int)) (hp : if x < z then P1 else P2) (kt : x < z → P1 → Gd y (am_o d mc ms (F a)) kc ks n r L (st) I J Q) (kf : ¬ x < z → P2 → Gd y (am_o d mc ms (F b)) kc ks n q L (st) I J Q) : Gd y (am_o d mc ms (F (if x < z then a else b))) kc ks n pc L (.int z :: .int x :: st) I J Q :=
  gy_icmp_lt hat hq hr (fun hc => kt hc (by rw [if_pos hc] at hp; exact hp)) (fun hc => kf hc (by rw [if_neg hc] at hp; exact hp))
theorem gy_if_ge {y : am_MD} {d mc ms kc ks n pc q r : Nat} {L : List (Option Value)} {st : List Value} {I : am_I} {J : am_J} {Q : am_Q} {β : Type} {F : β → am_R} {a b : β} {x : Int32} {off : Int} (hat : am_at y pc = some (.ifCond .ge off, 3)) (hq : pc + 3 = q) (hr : (pc : Int) + off = (r : Int)) (kt : 0 ≤ x → Gd y (am_o d mc ms (F a)) kc ks n r L (st) I J Q) (kf : ¬ 0 ≤ x → Gd y (am_o d mc ms (F b)) kc ks n q L (st) I J Q) : Gd y (am_o d mc ms (F (if 0 ≤ x then a else b))) kc ks n pc L (.int x :: st) I J Q := by
  by_cases hc : 0 ≤ x
  · rw [if_pos hc]
    exact gd_if_ge hat hq hr (fun _ => kt hc) (fun h => absurd hc h)
  · rw [if_neg hc]
    exact gd_if_ge hat hq hr (fun h => absurd h hc) (fun _ => kf hc)
theorem gx_if_ge {y : am_MD} {d mc ms kc ks n pc q r : Nat} {L : List (Option Value)} {st : List Value} {I : am_I} {J : am_J} {Q : am_Q} {β : Type} {F : β → am_R} {a b : β} {x : Int32} {P1 P2 : Prop} {off : Int} (hat : am_at y pc = some (.ifCond .ge off, 3)) (hq : pc + 3 = q) (hr : (pc : Int) + off = (r : Int)) (hp : if 0 ≤ x then P1 else P2) (kt : 0 ≤ x → P1 → Gd y (am_o d mc ms (F a)) kc ks n r L (st) I J Q) (kf : ¬ 0 ≤ x → P2 → Gd y (am_o d mc ms (F b)) kc ks n q L (st) I J Q) : Gd y (am_o d mc ms (F (if 0 ≤ x then a else b))) kc ks n pc L (.int x :: st) I J Q :=
  gy_if_ge hat hq hr (fun hc => kt hc (by rw [if_pos hc] at hp; exact hp)) (fun hc => kf hc (by rw [if_neg hc] at hp; exact hp))
theorem gy_icmp_ge {y : am_MD} {d mc ms kc ks n pc q r : Nat} {L : List (Option Value)} {st : List Value} {I : am_I} {J : am_J} {Q : am_Q} {β : Type} {F : β → am_R} {a b : β} {x z : Int32} {off : Int} (hat : am_at y pc = some (.if_icmp .ge off, 3)) (hq : pc + 3 = q) (hr : (pc : Int) + off = (r : Int)) (kt : z ≤ x → Gd y (am_o d mc ms (F a)) kc ks n r L (st) I J Q) (kf : ¬ z ≤ x → Gd y (am_o d mc ms (F b)) kc ks n q L (st) I J Q) : Gd y (am_o d mc ms (F (if z ≤ x then a else b))) kc ks n pc L (.int z :: .int x :: st) I J Q := by
  by_cases hc : z ≤ x
  · rw [if_pos hc]
    exact gd_icmp_ge hat hq hr (fun _ => kt hc) (fun h => absurd hc h)
  · rw [if_neg hc]
    exact gd_icmp_ge hat hq hr (fun h => absurd h hc) (fun _ => kf hc)
theorem gx_icmp_ge {y : am_MD} {d mc ms kc ks n pc q r : Nat} {L : List (Option Value)} {st : List Value} {I : am_I} {J : am_J} {Q : am_Q} {β : Type} {F : β → am_R} {a b : β} {x z : Int32} {P1 P2 : Prop} {off : Int} (hat : am_at y pc = some (.if_icmp .ge off, 3)) (hq : pc + 3 = q) (hr : (pc : Int) + off = (r : Int)) (hp : if z ≤ x then P1 else P2) (kt : z ≤ x → P1 → Gd y (am_o d mc ms (F a)) kc ks n r L (st) I J Q) (kf : ¬ z ≤ x → P2 → Gd y (am_o d mc ms (F b)) kc ks n q L (st) I J Q) : Gd y (am_o d mc ms (F (if z ≤ x then a else b))) kc ks n pc L (.int z :: .int x :: st) I J Q :=
  gy_icmp_ge hat hq hr (fun hc => kt hc (by rw [if_pos hc] at hp; exact hp)) (fun hc => kf hc (by rw [if_neg hc] at hp; exact hp))
theorem gy_if_gt {y : am_MD} {d mc ms kc ks n pc q r : Nat} {L : List (Option Value)} {st : List Value} {I : am_I} {J : am_J} {Q : am_Q} {β : Type} {F : β → am_R} {a b : β} {x : Int32} {off : Int} (hat : am_at y pc = some (.ifCond .gt off, 3)) (hq : pc + 3 = q) (hr : (pc : Int) + off = (r : Int)) (kt : 0 < x → Gd y (am_o d mc ms (F a)) kc ks n r L (st) I J Q) (kf : ¬ 0 < x → Gd y (am_o d mc ms (F b)) kc ks n q L (st) I J Q) : Gd y (am_o d mc ms (F (if 0 < x then a else b))) kc ks n pc L (.int x :: st) I J Q := by
  by_cases hc : 0 < x
  · rw [if_pos hc]
    exact gd_if_gt hat hq hr (fun _ => kt hc) (fun h => absurd hc h)
  · rw [if_neg hc]
    exact gd_if_gt hat hq hr (fun h => absurd h hc) (fun _ => kf hc)
theorem gx_if_gt {y : am_MD} {d mc ms kc ks n pc q r : Nat} {L : List (Option Value)} {st : List Value} {I : am_I} {J : am_J} {Q : am_Q} {β : Type} {F : β → am_R} {a b : β} {x : Int32} {P1 P2 : Prop} {off : Int} (hat : am_at y pc = some (.ifCond .gt off, 3)) (hq : pc + 3 = q) (hr : (pc : Int) + off = (r : Int)) (hp : if 0 < x then P1 else P2) (kt : 0 < x → P1 → Gd y (am_o d mc ms (F a)) kc ks n r L (st) I J Q) (kf : ¬ 0 < x → P2 → Gd y (am_o d mc ms (F b)) kc ks n q L (st) I J Q) : Gd y (am_o d mc ms (F (if 0 < x then a else b))) kc ks n pc L (.int x :: st) I J Q :=
  gy_if_gt hat hq hr (fun hc => kt hc (by rw [if_pos hc] at hp; exact hp)) (fun hc => kf hc (by rw [if_neg hc] at hp; exact hp))
theorem gy_icmp_gt {y : am_MD} {d mc ms kc ks n pc q r : Nat} {L : List (Option Value)} {st : List Value} {I : am_I} {J : am_J} {Q : am_Q} {β : Type} {F : β → am_R} {a b : β} {x z : Int32} {off : Int} (hat : am_at y pc = some (.if_icmp .gt off, 3)) (hq : pc + 3 = q) (hr : (pc : Int) + off = (r : Int)) (kt : z < x → Gd y (am_o d mc ms (F a)) kc ks n r L (st) I J Q) (kf : ¬ z < x → Gd y (am_o d mc ms (F b)) kc ks n q L (st) I J Q) : Gd y (am_o d mc ms (F (if z < x then a else b))) kc ks n pc L (.int z :: .int x :: st) I J Q := by
  by_cases hc : z < x
  · rw [if_pos hc]
    exact gd_icmp_gt hat hq hr (fun _ => kt hc) (fun h => absurd hc h)
  · rw [if_neg hc]
    exact gd_icmp_gt hat hq hr (fun h => absurd h hc) (fun _ => kf hc)
theorem gx_icmp_gt {y : am_MD} {d mc ms kc ks n pc q r : Nat} {L : List (Option Value)} {st : List Value} {I : am_I} {J : am_J} {Q : am_Q} {β : Type} {F : β → am_R} {a b : β} {x z : Int32} {P1 P2 : Prop} {off : Int} (hat : am_at y pc = some (.if_icmp .gt off, 3)) (hq : pc + 3 = q) (hr : (pc : Int) + off = (r : Int)) (hp : if z < x then P1 else P2) (kt : z < x → P1 → Gd y (am_o d mc ms (F a)) kc ks n r L (st) I J Q) (kf : ¬ z < x → P2 → Gd y (am_o d mc ms (F b)) kc ks n q L (st) I J Q) : Gd y (am_o d mc ms (F (if z < x then a else b))) kc ks n pc L (.int z :: .int x :: st) I J Q :=
  gy_icmp_gt hat hq hr (fun hc => kt hc (by rw [if_pos hc] at hp; exact hp)) (fun hc => kf hc (by rw [if_neg hc] at hp; exact hp))
theorem gy_if_le {y : am_MD} {d mc ms kc ks n pc q r : Nat} {L : List (Option Value)} {st : List Value} {I : am_I} {J : am_J} {Q : am_Q} {β : Type} {F : β → am_R} {a b : β} {x : Int32} {off : Int} (hat : am_at y pc = some (.ifCond .le off, 3)) (hq : pc + 3 = q) (hr : (pc : Int) + off = (r : Int)) (kt : x ≤ 0 → Gd y (am_o d mc ms (F a)) kc ks n r L (st) I J Q) (kf : ¬ x ≤ 0 → Gd y (am_o d mc ms (F b)) kc ks n q L (st) I J Q) : Gd y (am_o d mc ms (F (if x ≤ 0 then a else b))) kc ks n pc L (.int x :: st) I J Q := by
  by_cases hc : x ≤ 0
  · rw [if_pos hc]
    exact gd_if_le hat hq hr (fun _ => kt hc) (fun h => absurd hc h)
  · rw [if_neg hc]
    exact gd_if_le hat hq hr (fun h => absurd h hc) (fun _ => kf hc)
theorem gx_if_le {y : am_MD} {d mc ms kc ks n pc q r : Nat} {L : List (Option Value)} {st : List Value} {I : am_I} {J : am_J} {Q : am_Q} {β : Type} {F : β → am_R} {a b : β} {x : Int32} {P1 P2 : Prop} {off : Int} (hat : am_at y pc = some (.ifCond .le off, 3)) (hq : pc + 3 = q) (hr : (pc : Int) + off = (r : Int)) (hp : if x ≤ 0 then P1 else P2) (kt : x ≤ 0 → P1 → Gd y (am_o d mc ms (F a)) kc ks n r L (st) I J Q) (kf : ¬ x ≤ 0 → P2 → Gd y (am_o d mc ms (F b)) kc ks n q L (st) I J Q) : Gd y (am_o d mc ms (F (if x ≤ 0 then a else b))) kc ks n pc L (.int x :: st) I J Q :=
  gy_if_le hat hq hr (fun hc => kt hc (by rw [if_pos hc] at hp; exact hp)) (fun hc => kf hc (by rw [if_neg hc] at hp; exact hp))
theorem gy_icmp_le {y : am_MD} {d mc ms kc ks n pc q r : Nat} {L : List (Option Value)} {st : List Value} {I : am_I} {J : am_J} {Q : am_Q} {β : Type} {F : β → am_R} {a b : β} {x z : Int32} {off : Int} (hat : am_at y pc = some (.if_icmp .le off, 3)) (hq : pc + 3 = q) (hr : (pc : Int) + off = (r : Int)) (kt : x ≤ z → Gd y (am_o d mc ms (F a)) kc ks n r L (st) I J Q) (kf : ¬ x ≤ z → Gd y (am_o d mc ms (F b)) kc ks n q L (st) I J Q) : Gd y (am_o d mc ms (F (if x ≤ z then a else b))) kc ks n pc L (.int z :: .int x :: st) I J Q := by
  by_cases hc : x ≤ z
  · rw [if_pos hc]
    exact gd_icmp_le hat hq hr (fun _ => kt hc) (fun h => absurd hc h)
  · rw [if_neg hc]
    exact gd_icmp_le hat hq hr (fun h => absurd h hc) (fun _ => kf hc)
theorem gx_icmp_le {y : am_MD} {d mc ms kc ks n pc q r : Nat} {L : List (Option Value)} {st : List Value} {I : am_I} {J : am_J} {Q : am_Q} {β : Type} {F : β → am_R} {a b : β} {x z : Int32} {P1 P2 : Prop} {off : Int} (hat : am_at y pc = some (.if_icmp .le off, 3)) (hq : pc + 3 = q) (hr : (pc : Int) + off = (r : Int)) (hp : if x ≤ z then P1 else P2) (kt : x ≤ z → P1 → Gd y (am_o d mc ms (F a)) kc ks n r L (st) I J Q) (kf : ¬ x ≤ z → P2 → Gd y (am_o d mc ms (F b)) kc ks n q L (st) I J Q) : Gd y (am_o d mc ms (F (if x ≤ z then a else b))) kc ks n pc L (.int z :: .int x :: st) I J Q :=
  gy_icmp_le hat hq hr (fun hc => kt hc (by rw [if_pos hc] at hp; exact hp)) (fun hc => kf hc (by rw [if_neg hc] at hp; exact hp))
theorem am_H.drop {ls : Array Slot} {nL : Nat} {al : Nat → Nat} {L : List (Option Value)} (h : am_H ls nL al L) (i : Nat) : am_H ls nL al (L.set i none) := by
  refine ⟨h.1, h.2.1, fun q hq => ?_⟩
  obtain ⟨a, w, h1, h2⟩ := (am_ll_mem _ 0 q).mp hq
  by_cases ha : a = i
  · subst ha
    have hlt : a < (L.set a none).length := (List.getElem?_eq_some_iff.mp h1).1
    rw [List.getElem?_set_self (by simpa using hlt)] at h1
    cases h1
  · rw [List.getElem?_set_ne (Ne.symm ha)] at h1
    exact h.2.2 q ((am_ll_mem _ 0 q).mpr ⟨a, w, h1, h2⟩)
theorem gd_drop {y : am_MD} {o : am_O} {kc ks n pc : Nat} {L : List (Option Value)} {st : List Value} {I : am_I} {J : am_J} {Q : am_Q} (i : Nat) (kk : Gd y o kc ks n pc (L.set i none) st I J Q) : Gd y o kc ks n pc L st I J Q := by
  intro p l e s m args below meth c H locs ls D dA ad al al0 n0 A S hkap hal hP hD hS hl
  exact kk p l e s m args below meth c H locs ls D dA ad al al0 n0 A S hkap hal hP hD hS (hl.drop i)
theorem gd_ldcw {y : am_MD} {o : am_O} {kc ks n pc q : Nat} {L : List (Option Value)} {st : List Value} {I : am_I} {J : am_J} {Q : am_Q} {idx : Nat} {v : Int32} (hat : am_at y pc = some (.ldc_w idx, 3)) (hq : pc + 3 = q) (hw : Cond.constant (am_cn y.1) idx v ∈ lw_tbl) (kk : Gd y o kc ks n q L (.int v :: st) I J Q) : Gd y o kc ks n pc L st I J Q := by
  subst hq
  intro p l e s m args below meth c H locs ls D dA ad al al0 n0 A S hkap hal hP hD hS hl
  exact lv_ldcw S.1 S.2.1 S.2.2.2.2.2.2.1 (S.2.2.2.2.2.2.2.1 _ (am_G_in hw rfl)) (S.2.2.2.2.2.2.2.2.1 _ _ hat) (kk p l e s m args below meth c H locs ls D dA ad al al0 n0 A S hkap hal hP hD hS hl)
theorem gd_ldc2 {y : am_MD} {o : am_O} {kc ks n pc q : Nat} {L : List (Option Value)} {st : List Value} {I : am_I} {J : am_J} {Q : am_Q} {idx : Nat} {v : Int64} (hat : am_at y pc = some (.ldc2_w idx, 3)) (hq : pc + 3 = q) (hw : Cond.constantLong (am_cn y.1) idx v ∈ lw_tbl) (kk : Gd y o kc ks n q L (.long v :: st) I J Q) : Gd y o kc ks n pc L st I J Q := by
  subst hq
  intro p l e s m args below meth c H locs ls D dA ad al al0 n0 A S hkap hal hP hD hS hl
  exact lv_ldc2 S.1 S.2.1 S.2.2.2.2.2.2.1 (S.2.2.2.2.2.2.2.1 _ (am_G_in hw rfl)) (S.2.2.2.2.2.2.2.2.1 _ _ hat) (kk p l e s m args below meth c H locs ls D dA ad al al0 n0 A S hkap hal hP hD hS hl)
section Calls0
variable {y y' : am_MD} {d n pc q idx d' pn b ci : Nat} {r : am_R} {nb : Bool} {L : List (Option Value)} {As st rest : List Value} {I I' : am_I} {J J' : am_J} {Q Q' : am_Q} {v : Value}
theorem gd_cVi (hat : am_at y pc = some (.invokevirtual idx, 3)) (hq : pc + 3 = q) (hlk : am_lk y.1 idx nb y') (hm : am_my y' pn) (hv : am_vi y') (hc : Cm y' d' 0 0 n (.ref b :: As) I J Q (some v, n, I', J', Q')) (hst : st = As.reverse ++ .ref b :: rest) (hb : b < n) (hly : am_lay b = .inl ci) (hci : am_cn ci = y'.2.1.cls) (hci2 : ci < 11) (hn : As.length = pn) (hcat : (rest.map fun v => v.category).sum ≤ 8) (hR : d' + 1 ≤ d ∧ 8 + (y'.2.2.2.1 + 11) + 40 * d' ≤ 40 * d) (kk : Gd y (am_o d 0 0 r) 0 0 n q L (v :: rest) I' J' Q') : Gd y (am_o d 0 0 r) 0 0 n pc L st I J Q :=
  gd_callV hat hq hlk hm hv hc hst hb hly hci hci2 hn hcat hR ⟨Nat.le_refl 0, Nat.le_refl 0⟩ kk
theorem gd_cVv (hat : am_at y pc = some (.invokevirtual idx, 3)) (hq : pc + 3 = q) (hlk : am_lk y.1 idx nb y') (hm : am_my y' pn) (hv : am_vi y') (hc : Cm y' d' 0 0 n (.ref b :: As) I J Q (none, n, I', J', Q')) (hst : st = As.reverse ++ .ref b :: rest) (hb : b < n) (hly : am_lay b = .inl ci) (hci : am_cn ci = y'.2.1.cls) (hci2 : ci < 11) (hn : As.length = pn) (hcat : (rest.map fun v => v.category).sum ≤ 8) (hR : d' + 1 ≤ d ∧ 8 + (y'.2.2.2.1 + 11) + 40 * d' ≤ 40 * d) (kk : Gd y (am_o d 0 0 r) 0 0 n q L (rest) I' J' Q') : Gd y (am_o d 0 0 r) 0 0 n pc L st I J Q :=
  gd_callV hat hq hlk hm hv hc hst hb hly hci hci2 hn hcat hR ⟨Nat.le_refl 0, Nat.le_refl 0⟩ kk
theorem gd_cSi (hat : am_at y pc = some (.invokestatic idx, 3)) (hq : pc + 3 = q) (hlk : am_lk y.1 idx nb y') (hm : am_my y' pn) (hv : am_sta y') (hc : Cm y' d' 0 0 n (As) I J Q (some v, n, I', J', Q')) (hst : st = As.reverse ++ rest) (hn : As.length = pn) (hcat : (rest.map fun v => v.category).sum ≤ 8) (hR : d' + 1 ≤ d ∧ 8 + (y'.2.2.2.1 + 11) + 40 * d' ≤ 40 * d) (kk : Gd y (am_o d 0 0 r) 0 0 n q L (v :: rest) I' J' Q') : Gd y (am_o d 0 0 r) 0 0 n pc L st I J Q :=
  gd_callS hat hq hlk hm hv hc hst hn hcat hR ⟨Nat.le_refl 0, Nat.le_refl 0⟩ kk
theorem gd_cSv (hat : am_at y pc = some (.invokestatic idx, 3)) (hq : pc + 3 = q) (hlk : am_lk y.1 idx nb y') (hm : am_my y' pn) (hv : am_sta y') (hc : Cm y' d' 0 0 n (As) I J Q (none, n, I', J', Q')) (hst : st = As.reverse ++ rest) (hn : As.length = pn) (hcat : (rest.map fun v => v.category).sum ≤ 8) (hR : d' + 1 ≤ d ∧ 8 + (y'.2.2.2.1 + 11) + 40 * d' ≤ 40 * d) (kk : Gd y (am_o d 0 0 r) 0 0 n q L (rest) I' J' Q') : Gd y (am_o d 0 0 r) 0 0 n pc L st I J Q :=
  gd_callS hat hq hlk hm hv hc hst hn hcat hR ⟨Nat.le_refl 0, Nat.le_refl 0⟩ kk
end Calls0
def am_Fv (I : am_I) (J : am_J) (Q : am_Q) (_ : Unit) : am_R := (none, 92, I, J, Q)
def am_FvI (J : am_J) (Q : am_Q) (t : am_I) : am_R := (none, 92, t, J, Q)
def am_FvJ (I : am_I) (Q : am_Q) (t : am_J) : am_R := (none, 92, I, t, Q)
def am_FvQ (I : am_I) (J : am_J) (t : am_Q) : am_R := (none, 92, I, J, t)
def am_FvIJ (Q : am_Q) (t : am_I × am_J) : am_R := (none, 92, t.1, t.2, Q)
def am_FvIQ (J : am_J) (t : am_I × am_Q) : am_R := (none, 92, t.1, J, t.2)
def am_FvJQ (I : am_I) (t : am_J × am_Q) : am_R := (none, 92, I, t.1, t.2)
def am_FvIJQ (t : am_I × am_J × am_Q) : am_R := (none, 92, t.1, t.2.1, t.2.2)
def am_Fi (I : am_I) (J : am_J) (Q : am_Q) (t : Int32) : am_R := (some (.int t), 92, I, J, Q)
def am_FiI (J : am_J) (Q : am_Q) (t : Int32 × am_I) : am_R := (some (.int t.1), 92, t.2, J, Q)
def am_FiJ (I : am_I) (Q : am_Q) (t : Int32 × am_J) : am_R := (some (.int t.1), 92, I, t.2, Q)
def am_FiQ (I : am_I) (J : am_J) (t : Int32 × am_Q) : am_R := (some (.int t.1), 92, I, J, t.2)
def am_FiIJ (Q : am_Q) (t : Int32 × am_I × am_J) : am_R := (some (.int t.1), 92, t.2.1, t.2.2, Q)
def am_FiIQ (J : am_J) (t : Int32 × am_I × am_Q) : am_R := (some (.int t.1), 92, t.2.1, J, t.2.2)
def am_FiJQ (I : am_I) (t : Int32 × am_J × am_Q) : am_R := (some (.int t.1), 92, I, t.2.1, t.2.2)
def am_FiIJQ (t : Int32 × am_I × am_J × am_Q) : am_R := (some (.int t.1), 92, t.2.1, t.2.2.1, t.2.2.2)
def am_Fl (I : am_I) (J : am_J) (Q : am_Q) (t : Int64) : am_R := (some (.long t), 92, I, J, Q)
def am_FlI (J : am_J) (Q : am_Q) (t : Int64 × am_I) : am_R := (some (.long t.1), 92, t.2, J, Q)
def am_FlJ (I : am_I) (Q : am_Q) (t : Int64 × am_J) : am_R := (some (.long t.1), 92, I, t.2, Q)
def am_FlQ (I : am_I) (J : am_J) (t : Int64 × am_Q) : am_R := (some (.long t.1), 92, I, J, t.2)
def am_FlIJ (Q : am_Q) (t : Int64 × am_I × am_J) : am_R := (some (.long t.1), 92, t.2.1, t.2.2, Q)
def am_FlIQ (J : am_J) (t : Int64 × am_I × am_Q) : am_R := (some (.long t.1), 92, t.2.1, J, t.2.2)
def am_FlJQ (I : am_I) (t : Int64 × am_J × am_Q) : am_R := (some (.long t.1), 92, I, t.2.1, t.2.2)
def am_FlIJQ (t : Int64 × am_I × am_J × am_Q) : am_R := (some (.long t.1), 92, t.2.1, t.2.2.1, t.2.2.2)
def am_Fr (I : am_I) (J : am_J) (Q : am_Q) (t : Nat) : am_R := (some (.ref t), 92, I, J, Q)
def am_FrI (J : am_J) (Q : am_Q) (t : Nat × am_I) : am_R := (some (.ref t.1), 92, t.2, J, Q)
def am_FrJ (I : am_I) (Q : am_Q) (t : Nat × am_J) : am_R := (some (.ref t.1), 92, I, t.2, Q)
def am_FrQ (I : am_I) (J : am_J) (t : Nat × am_Q) : am_R := (some (.ref t.1), 92, I, J, t.2)
def am_FrIJ (Q : am_Q) (t : Nat × am_I × am_J) : am_R := (some (.ref t.1), 92, t.2.1, t.2.2, Q)
def am_FrIQ (J : am_J) (t : Nat × am_I × am_Q) : am_R := (some (.ref t.1), 92, t.2.1, J, t.2.2)
def am_FrJQ (I : am_I) (t : Nat × am_J × am_Q) : am_R := (some (.ref t.1), 92, I, t.2.1, t.2.2)
def am_FrIJQ (t : Nat × am_I × am_J × am_Q) : am_R := (some (.ref t.1), 92, t.2.1, t.2.2.1, t.2.2.2)
theorem gy_ite {y : am_MD} {d mc ms kc ks n pc : Nat} {L : List (Option Value)} {st : List Value} {I : am_I} {J : am_J} {Q : am_Q} {β : Type} {F : β → am_R} {a b : β} {c : Prop} [Decidable c] (kt : c → Gd y (am_o d mc ms (F a)) kc ks n pc L st I J Q) (kf : ¬ c → Gd y (am_o d mc ms (F b)) kc ks n pc L st I J Q) : Gd y (am_o d mc ms (F (if c then a else b))) kc ks n pc L st I J Q := by
  by_cases hc : c
  · rw [if_pos hc]; exact kt hc
  · rw [if_neg hc]; exact kf hc
theorem gx_ite {y : am_MD} {d mc ms kc ks n pc : Nat} {L : List (Option Value)} {st : List Value} {I : am_I} {J : am_J} {Q : am_Q} {β : Type} {F : β → am_R} {a b : β} {c P1 P2 : Prop} [Decidable c] (hp : if c then P1 else P2) (kt : c → P1 → Gd y (am_o d mc ms (F a)) kc ks n pc L st I J Q) (kf : ¬ c → P2 → Gd y (am_o d mc ms (F b)) kc ks n pc L st I J Q) : Gd y (am_o d mc ms (F (if c then a else b))) kc ks n pc L st I J Q :=
  gy_ite (fun hc => kt hc (by rw [if_pos hc] at hp; exact hp)) (fun hc => kf hc (by rw [if_neg hc] at hp; exact hp))
theorem gd_tsAny {y : am_MD} {o : am_O} {kc ks n pc q : Nat} {L : List (Option Value)} {st : List Value} {I : am_I} {J : am_J} {Q : am_Q} {dflt lo hi : Int} {offs : Array Int} {len : Nat} {x : Int32} (hat : am_at y pc = some (.tableswitch dflt lo hi offs, len)) (h : (x.toInt < lo ∨ hi < x.toInt) ∨ (¬ x.toInt < lo ∧ ¬ hi < x.toInt ∧ offs[(x.toInt - lo).toNat]? = some dflt)) (hr : (pc : Int) + dflt = (q : Int)) (kk : Gd y o kc ks n q L st I J Q) : Gd y o kc ks n pc L (.int x :: st) I J Q := by
  rcases h with h | ⟨h1, h2, h3⟩
  · exact gd_tsOut hat h hr kk
  · exact gd_tsIn hat h1 h2 h3 hr kk
theorem am_zn {x : Int32} (h : x = 0 ∨ x = 1) : narrow .boolean (.int x) = .int x := by rcases h with h | h <;> subst h <;> rfl
/-- how often a loop may go round -/
def FU : Nat := 20000
/-- the objects hold each other as their constructors left them -/
def Gr (Q : am_Q) : Prop := Q 0 0 = some 1 ∧ Q 0 1 = some 3 ∧ Q 0 2 = some 5 ∧ Q 0 3 = some 9 ∧ Q 0 4 = some 13 ∧ Q 0 5 = some 15 ∧ Q 0 6 = some 26 ∧ Q 0 7 = some 29 ∧ Q 0 8 = some 37 ∧ Q 1 0 = some 2 ∧ Q 3 0 = some 4 ∧ Q 5 0 = some 6 ∧ Q 5 1 = some 7 ∧ Q 5 2 = some 8 ∧ Q 9 0 = some 10 ∧ Q 9 1 = some 11 ∧ Q 9 2 = some 12 ∧ Q 13 0 = some 14 ∧ Q 15 0 = some 16 ∧ Q 15 1 = some 17 ∧ Q 15 2 = some 18 ∧ Q 15 4 = some 19 ∧ Q 15 5 = some 20 ∧ Q 15 6 = some 21 ∧ Q 15 7 = some 22 ∧ Q 15 8 = some 23 ∧ Q 15 9 = some 24 ∧ Q 15 10 = some 25 ∧ Q 26 0 = some 27 ∧ Q 26 1 = some 28 ∧ Q 29 0 = some 30 ∧ Q 29 1 = some 31 ∧ Q 29 2 = some 32 ∧ Q 29 3 = some 33 ∧ Q 29 4 = some 34 ∧ Q 29 5 = some 35 ∧ Q 29 6 = some 36 ∧ Q 38 0 = some 39 ∧ Q 38 1 = some 40 ∧ Q 38 2 = some 41 ∧ Q 38 3 = some 42 ∧ Q 38 4 = some 43 ∧ Q 38 5 = some 44 ∧ Q 38 6 = some 45 ∧ Q 46 1 = some 47 ∧ Q 46 3 = some 48 ∧ Q 46 5 = some 49 ∧ Q 46 6 = some 50 ∧ Q 46 7 = some 51 ∧ Q 46 8 = some 52 ∧ Q 46 9 = some 53 ∧ Q 46 18 = some 54 ∧ Q 46 20 = some 55 ∧ Q 46 21 = some 56 ∧ Q 46 22 = some 57 ∧ Q 46 23 = some 58 ∧ Q 46 24 = some 59 ∧ Q 46 25 = some 60 ∧ Q 46 26 = some 61 ∧ Q 46 27 = some 62 ∧ Q 46 28 = some 63 ∧ Q 46 29 = some 64 ∧ Q 46 31 = some 65 ∧ Q 46 32 = some 66 ∧ Q 46 33 = some 67 ∧ Q 46 36 = some 68 ∧ Q 46 37 = some 69 ∧ Q 46 39 = some 70 ∧ Q 46 41 = some 71 ∧ Q 46 42 = some 72 ∧ Q 46 43 = some 73 ∧ Q 46 45 = some 74 ∧ Q 46 46 = some 75 ∧ Q 46 47 = some 76 ∧ Q 46 48 = some 77 ∧ Q 46 49 = some 78 ∧ Q 46 50 = some 79 ∧ Q 46 51 = some 80 ∧ Q 46 53 = some 81 ∧ Q 46 55 = some 82 ∧ Q 46 57 = some 83 ∧ Q 46 58 = some 84 ∧ Q 46 60 = some 85 ∧ Q 46 62 = some 86 ∧ Q 46 63 = some 87 ∧ Q 46 64 = some 88 ∧ Q 46 65 = some 89 ∧ Q 46 66 = some 90 ∧ Q 46 67 = some 91
theorem gr_0_0 {Q : am_Q} (h : Gr Q) : Q 0 0 = some 1 := h.1
theorem gr_0_1 {Q : am_Q} (h : Gr Q) : Q 0 1 = some 3 := h.2.1
theorem gr_0_2 {Q : am_Q} (h : Gr Q) : Q 0 2 = some 5 := h.2.2.1
theorem gr_0_3 {Q : am_Q} (h : Gr Q) : Q 0 3 = some 9 := h.2.2.2.1
theorem gr_0_4 {Q : am_Q} (h : Gr Q) : Q 0 4 = some 13 := h.2.2.2.2.1
theorem gr_0_5 {Q : am_Q} (h : Gr Q) : Q 0 5 = some 15 := h.2.2.2.2.2.1
theorem gr_0_6 {Q : am_Q} (h : Gr Q) : Q 0 6 = some 26 := h.2.2.2.2.2.2.1
theorem gr_0_7 {Q : am_Q} (h : Gr Q) : Q 0 7 = some 29 := h.2.2.2.2.2.2.2.1
theorem gr_0_8 {Q : am_Q} (h : Gr Q) : Q 0 8 = some 37 := h.2.2.2.2.2.2.2.2.1
theorem gr_1_0 {Q : am_Q} (h : Gr Q) : Q 1 0 = some 2 := h.2.2.2.2.2.2.2.2.2.1
theorem gr_3_0 {Q : am_Q} (h : Gr Q) : Q 3 0 = some 4 := h.2.2.2.2.2.2.2.2.2.2.1
theorem gr_5_0 {Q : am_Q} (h : Gr Q) : Q 5 0 = some 6 := h.2.2.2.2.2.2.2.2.2.2.2.1
theorem gr_5_1 {Q : am_Q} (h : Gr Q) : Q 5 1 = some 7 := h.2.2.2.2.2.2.2.2.2.2.2.2.1
theorem gr_5_2 {Q : am_Q} (h : Gr Q) : Q 5 2 = some 8 := h.2.2.2.2.2.2.2.2.2.2.2.2.2.1
theorem gr_9_0 {Q : am_Q} (h : Gr Q) : Q 9 0 = some 10 := h.2.2.2.2.2.2.2.2.2.2.2.2.2.2.1
theorem gr_9_1 {Q : am_Q} (h : Gr Q) : Q 9 1 = some 11 := h.2.2.2.2.2.2.2.2.2.2.2.2.2.2.2.1
theorem gr_9_2 {Q : am_Q} (h : Gr Q) : Q 9 2 = some 12 := h.2.2.2.2.2.2.2.2.2.2.2.2.2.2.2.2.1
theorem gr_13_0 {Q : am_Q} (h : Gr Q) : Q 13 0 = some 14 := h.2.2.2.2.2.2.2.2.2.2.2.2.2.2.2.2.2.1
theorem gr_15_0 {Q : am_Q} (h : Gr Q) : Q 15 0 = some 16 := h.2.2.2.2.2.2.2.2.2.2.2.2.2.2.2.2.2.2.1
theorem gr_15_1 {Q : am_Q} (h : Gr Q) : Q 15 1 = some 17 := h.2.2.2.2.2.2.2.2.2.2.2.2.2.2.2.2.2.2.2.1
theorem gr_15_2 {Q : am_Q} (h : Gr Q) : Q 15 2 = some 18 := h.2.2.2.2.2.2.2.2.2.2.2.2.2.2.2.2.2.2.2.2.1
theorem gr_15_4 {Q : am_Q} (h : Gr Q) : Q 15 4 = some 19 := h.2.2.2.2.2.2.2.2.2.2.2.2.2.2.2.2.2.2.2.2.2.1
theorem gr_15_5 {Q : am_Q} (h : Gr Q) : Q 15 5 = some 20 := h.2.2.2.2.2.2.2.2.2.2.2.2.2.2.2.2.2.2.2.2.2.2.1
theorem gr_15_6 {Q : am_Q} (h : Gr Q) : Q 15 6 = some 21 := h.2.2.2.2.2.2.2.2.2.2.2.2.2.2.2.2.2.2.2.2.2.2.2.1
theorem gr_15_7 {Q : am_Q} (h : Gr Q) : Q 15 7 = some 22 := h.2.2.2.2.2.2.2.2.2.2.2.2.2.2.2.2.2.2.2.2.2.2.2.2.1
theorem gr_15_8 {Q : am_Q} (h : Gr Q) : Q 15 8 = some 23 := h.2.2.2.2.2.2.2.2.2.2.2.2.2.2.2.2.2.2.2.2.2.2.2.2.2.1
theorem gr_15_9 {Q : am_Q} (h : Gr Q) : Q 15 9 = some 24 := h.2.2.2.2.2.2.2.2.2.2.2.2.2.2.2.2.2.2.2.2.2.2.2.2.2.2.1
theorem gr_15_10 {Q : am_Q} (h : Gr Q) : Q 15 10 = some 25 := h.2.2.2.2.2.2.2.2.2.2.2.2.2.2.2.2.2.2.2.2.2.2.2.2.2.2.2.1
theorem gr_26_0 {Q : am_Q} (h : Gr Q) : Q 26 0 = some 27 := h.2.2.2.2.2.2.2.2.2.2.2.2.2.2.2.2.2.2.2.2.2.2.2.2.2.2.2.2.1
theorem gr_26_1 {Q : am_Q} (h : Gr Q) : Q 26 1 = some 28 := h.2.2.2.2.2.2.2.2.2.2.2.2.2.2.2.2.2.2.2.2.2.2.2.2.2.2.2.2.2.1
theorem gr_29_0 {Q : am_Q} (h : Gr Q) : Q 29 0 = some 30 := h.2.2.2.2.2.2.2.2.2.2.2.2.2.2.2.2.2.2.2.2.2.2.2.2.2.2.2.2.2.2.1
theorem gr_29_1 {Q : am_Q} (h : Gr Q) : Q 29 1 = some 31 := h.2.2.2.2.2.2.2.2.2.2.2.2.2.2.2.2.2.2.2.2.2.2.2.2.2.2.2.2.2.2.2.1
theorem gr_29_2 {Q : am_Q} (h : Gr Q) : Q 29 2 = some 32 := h.2.2.2.2.2.2.2.2.2.2.2.2.2.2.2.2.2.2.2.2.2.2.2.2.2.2.2.2.2.2.2.2.1
theorem gr_29_3 {Q : am_Q} (h : Gr Q) : Q 29 3 = some 33 := h.2.2.2.2.2.2.2.2.2.2.2.2.2.2.2.2.2.2.2.2.2.2.2.2.2.2.2.2.2.2.2.2.2.1
theorem gr_29_4 {Q : am_Q} (h : Gr Q) : Q 29 4 = some 34 := h.2.2.2.2.2.2.2.2.2.2.2.2.2.2.2.2.2.2.2.2.2.2.2.2.2.2.2.2.2.2.2.2.2.2.1
theorem gr_29_5 {Q : am_Q} (h : Gr Q) : Q 29 5 = some 35 := h.2.2.2.2.2.2.2.2.2.2.2.2.2.2.2.2.2.2.2.2.2.2.2.2.2.2.2.2.2.2.2.2.2.2.2.1
theorem gr_29_6 {Q : am_Q} (h : Gr Q) : Q 29 6 = some 36 := h.2.2.2.2.2.2.2.2.2.2.2.2.2.2.2.2.2.2.2.2.2.2.2.2.2.2.2.2.2.2.2.2.2.2.2.2.1
theorem gr_38_0 {Q : am_Q} (h : Gr Q) : Q 38 0 = some 39 := h.2.2.2.2.2.2.2.2.2.2.2.2.2.2.2.2.2.2.2.2.2.2.2.2.2.2.2.2.2.2.2.2.2.2.2.2.2.1
theorem gr_38_1 {Q : am_Q} (h : Gr Q) : Q 38 1 = some 40 := h.2.2.2.2.2.2.2.2.2.2.2.2.2.2.2.2.2.2.2.2.2.2.2.2.2.2.2.2.2.2.2.2.2.2.2.2.2.2.1
theorem gr_38_2 {Q : am_Q} (h : Gr Q) : Q 38 2 = some 41 := h.2.2.2.2.2.2.2.2.2.2.2.2.2.2.2.2.2.2.2.2.2.2.2.2.2.2.2.2.2.2.2.2.2.2.2.2.2.2.2.1
theorem gr_38_3 {Q : am_Q} (h : Gr Q) : Q 38 3 = some 42 := h.2.2.2.2.2.2.2.2.2.2.2.2.2.2.2.2.2.2.2.2.2.2.2.2.2.2.2.2.2.2.2.2.2.2.2.2.2.2.2.2.1
theorem gr_38_4 {Q : am_Q} (h : Gr Q) : Q 38 4 = some 43 := h.2.2.2.2.2.2.2.2.2.2.2.2.2.2.2.2.2.2.2.2.2.2.2.2.2.2.2.2.2.2.2.2.2.2.2.2.2.2.2.2.2.1
theorem gr_38_5 {Q : am_Q} (h : Gr Q) : Q 38 5 = some 44 := h.2.2.2.2.2.2.2.2.2.2.2.2.2.2.2.2.2.2.2.2.2.2.2.2.2.2.2.2.2.2.2.2.2.2.2.2.2.2.2.2.2.2.1
theorem gr_38_6 {Q : am_Q} (h : Gr Q) : Q 38 6 = some 45 := h.2.2.2.2.2.2.2.2.2.2.2.2.2.2.2.2.2.2.2.2.2.2.2.2.2.2.2.2.2.2.2.2.2.2.2.2.2.2.2.2.2.2.2.1
theorem gr_46_1 {Q : am_Q} (h : Gr Q) : Q 46 1 = some 47 := h.2.2.2.2.2.2.2.2.2.2.2.2.2.2.2.2.2.2.2.2.2.2.2.2.2.2.2.2.2.2.2.2.2.2.2.2.2.2.2.2.2.2.2.2.1
theorem gr_46_3 {Q : am_Q} (h : Gr Q) : Q 46 3 = some 48 := h.2.2.2.2.2.2.2.2.2.2.2.2.2.2.2.2.2.2.2.2.2.2.2.2.2.2.2.2.2.2.2.2.2.2.2.2.2.2.2.2.2.2.2.2.2.1
theorem gr_46_5 {Q : am_Q} (h : Gr Q) : Q 46 5 = some 49 := h.2.2.2.2.2.2.2.2.2.2.2.2.2.2.2.2.2.2.2.2.2.2.2.2.2.2.2.2.2.2.2.2.2.2.2.2.2.2.2.2.2.2.2.2.2.2.1
theorem gr_46_6 {Q : am_Q} (h : Gr Q) : Q 46 6 = some 50 := h.2.2.2.2.2.2.2.2.2.2.2.2.2.2.2.2.2.2.2.2.2.2.2.2.2.2.2.2.2.2.2.2.2.2.2.2.2.2.2.2.2.2.2.2.2.2.2.1
theorem gr_46_7 {Q : am_Q} (h : Gr Q) : Q 46 7 = some 51 := h.2.2.2.2.2.2.2.2.2.2.2.2.2.2.2.2.2.2.2.2.2.2.2.2.2.2.2.2.2.2.2.2.2.2.2.2.2.2.2.2.2.2.2.2.2.2.2.2.1
theorem gr_46_8 {Q : am_Q} (h : Gr Q) : Q 46 8 = some 52 := h.2.2.2.2.2.2.2.2.2.2.2.2.2.2.2.2.2.2.2.2.2.2.2.2.2.2.2.2.2.2.2.2.2.2.2.2.2.2.2.2.2.2.2.2.2.2.2.2.2.1
theorem gr_46_9 {Q : am_Q} (h : Gr Q) : Q 46 9 = some 53 := h.2.2.2.2.2.2.2.2.2.2.2.2.2.2.2.2.2.2.2.2.2.2.2.2.2.2.2.2.2.2.2.2.2.2.2.2.2.2.2.2.2.2.2.2.2.2.2.2.2.2.1
theorem gr_46_18 {Q : am_Q} (h : Gr Q) : Q 46 18 = some 54 := h.2.2.2.2.2.2.2.2.2.2.2.2.2.2.2.2.2.2.2.2.2.2.2.2.2.2.2.2.2.2.2.2.2.2.2.2.2.2.2.2.2.2.2.2.2.2.2.2.2.2.2.1
theorem gr_46_20 {Q : am_Q} (h : Gr Q) : Q 46 20 = some 55 := h.2.2.2.2.2.2.2.2.2.2.2.2.2.2.2.2.2.2.2.2.2.2.2.2.2.2.2.2.2.2.2.2.2.2.2.2.2.2.2.2.2.2.2.2.2.2.2.2.2.2.2.2.1
theorem gr_46_21 {Q : am_Q} (h : Gr Q) : Q 46 21 = some 56 := h.2.2.2.2.2.2.2.2.2.2.2.2.2.2.2.2.2.2.2.2.2.2.2.2.2.2.2.2.2.2.2.2.2.2.2.2.2.2.2.2.2.2.2.2.2.2.2.2.2.2.2.2.2.1
theorem gr_46_22 {Q : am_Q} (h : Gr Q) : Q 46 22 = some 57 := h.2.2.2.2.2.2.2.2.2.2.2.2.2.2.2.2.2.2.2.2.2.2.2.2.2.2.2.2.2.2.2.2.2.2.2.2.2.2.2.2.2.2.2.2.2.2.2.2.2.2.2.2.2.2.1
theorem gr_46_23 {Q : am_Q} (h : Gr Q) : Q 46 23 = some 58 := h.2.2.2.2.2.2.2.2.2.2.2.2.2.2.2.2.2.2.2.2.2.2.2.2.2.2.2.2.2.2.2.2.2.2.2.2.2.2.2.2.2.2.2.2.2.2.2.2.2.2.2.2.2.2.2.1
theorem gr_46_24 {Q : am_Q} (h : Gr Q) : Q 46 24 = some 59 := h.2.2.2.2.2.2.2.2.2.2.2.2.2.2.2.2.2.2.2.2.2.2.2.2.2.2.2.2.2.2.2.2.2.2.2.2.2.2.2.2.2.2.2.2.2.2.2.2.2.2.2.2.2.2.2.2.1
theorem gr_46_25 {Q : am_Q} (h : Gr Q) : Q 46 25 = some 60 := h.2.2.2.2.2.2.2.2.2.2.2.2.2.2.2.2.2.2.2.2.2.2.2.2.2.2.2.2.2.2.2.2.2.2.2.2.2.2.2.2.2.2.2.2.2.2.2.2.2.2.2.2.2.2.2.2.2.1
theorem gr_46_26 {Q : am_Q} (h : Gr Q) : Q 46 26 = some 61 := h.2.2.2.2.2.2.2.2.2.2.2.2.2.2.2.2.2.2.2.2.2.2.2.2.2.2.2.2.2.2.2.2.2.2.2.2.2.2.2.2.2.2.2.2.2.2.2.2.2.2.2.2.2.2.2.2.2.2.1
theorem gr_46_27 {Q : am_Q} (h : Gr Q) : Q 46 27 = some 62 := h.2.2.2.2.2.2.2.2.2.2.2.2.2.2.2.2.2.2.2.2.2.2.2.2.2.2.2.2.2.2.2.2.2.2.2.2.2.2.2.2.2.2.2.2.2.2.2.2.2.2.2.2.2.2.2.2.2.2.2.1
theorem gr_46_28 {Q : am_Q} (h : Gr Q) : Q 46 28 = some 63 := h.2.2.2.2.2.2.2.2.2.2.2.2.2.2.2.2.2.2.2.2.2.2.2.2.2.2.2.2.2.2.2.2.2.2.2.2.2.2.2.2.2.2.2.2.2.2.2.2.2.2.2.2.2.2.2.2.2.2.2.2.1
theorem gr_46_29 {Q : am_Q} (h : Gr Q) : Q 46 29 = some 64 := h.2.2.2.2.2.2.2.2.2.2.2.2.2.2.2.2.2.2.2.2.2.2.2.2.2.2.2.2.2.2.2.2.2.2.2.2.2.2.2.2.2.2.2.2.2.2.2.2.2.2.2.2.2.2.2.2.2.2.2.2.2.1
theorem gr_46_31 {Q : am_Q} (h : Gr Q) : Q 46 31 = some 65 := h.2.2.2.2.2.2.2.2.2.2.2.2.2.2.2.2.2.2.2.2.2.2.2.2.2.2.2.2.2.2.2.2.2.2.2.2.2.2.2.2.2.2.2.2.2.2.2.2.2.2.2.2.2.2.2.2.2.2.2.2.2.2.1
theorem gr_46_32 {Q : am_Q} (h : Gr Q) : Q 46 32 = some 66 := h.2.2.2.2.2.2.2.2.2.2.2.2.2.2.2.2.2.2.2.2.2.2.2.2.2.2.2.2.2.2.2.2.2.2.2.2.2.2.2.2.2.2.2.2.2.2.2.2.2.2.2.2.2.2.2.2.2.2.2.2.2.2.2.1
theorem gr_46_33 {Q : am_Q} (h : Gr Q) : Q 46 33 = some 67 := h.2.2.2.2.2.2.2.2.2.2.2.2.2.2.2.2.2.2.2.2.2.2.2.2.2.2.2.2.2.2.2.2.2.2.2.2.2.2.2.2.2.2.2.2.2.2.2.2.2.2.2.2.2.2.2.2.2.2.2.2.2.2.2.2.1
theorem gr_46_36 {Q : am_Q} (h : Gr Q) : Q 46 36 = some 68 := h.2.2.2.2.2.2.2.2.2.2.2.2.2.2.2.2.2.2.2.2.2.2.2.2.2.2.2.2.2.2.2.2.2.2.2.2.2.2.2.2.2.2.2.2.2.2.2.2.2.2.2.2.2.2.2.2.2.2.2.2.2.2.2.2.2.1
theorem gr_46_37 {Q : am_Q} (h : Gr Q) : Q 46 37 = some 69 := h.2.2.2.2.2.2.2.2.2.2.2.2.2.2.2.2.2.2.2.2.2.2.2.2.2.2.2.2.2.2.2.2.2.2.2.2.2.2.2.2.2.2.2.2.2.2.2.2.2.2.2.2.2.2.2.2.2.2.2.2.2.2.2.2.2.2.1
theorem gr_46_39 {Q : am_Q} (h : Gr Q) : Q 46 39 = some 70 := h.2.2.2.2.2.2.2.2.2.2.2.2.2.2.2.2.2.2.2.2.2.2.2.2.2.2.2.2.2.2.2.2.2.2.2.2.2.2.2.2.2.2.2.2.2.2.2.2.2.2.2.2.2.2.2.2.2.2.2.2.2.2.2.2.2.2.2.1
theorem gr_46_41 {Q : am_Q} (h : Gr Q) : Q 46 41 = some 71 := h.2.2.2.2.2.2.2.2.2.2.2.2.2.2.2.2.2.2.2.2.2.2.2.2.2.2.2.2.2.2.2.2.2.2.2.2.2.2.2.2.2.2.2.2.2.2.2.2.2.2.2.2.2.2.2.2.2.2.2.2.2.2.2.2.2.2.2.2.1
theorem gr_46_42 {Q : am_Q} (h : Gr Q) : Q 46 42 = some 72 := h.2.2.2.2.2.2.2.2.2.2.2.2.2.2.2.2.2.2.2.2.2.2.2.2.2.2.2.2.2.2.2.2.2.2.2.2.2.2.2.2.2.2.2.2.2.2.2.2.2.2.2.2.2.2.2.2.2.2.2.2.2.2.2.2.2.2.2.2.2.1
theorem gr_46_43 {Q : am_Q} (h : Gr Q) : Q 46 43 = some 73 := h.2.2.2.2.2.2.2.2.2.2.2.2.2.2.2.2.2.2.2.2.2.2.2.2.2.2.2.2.2.2.2.2.2.2.2.2.2.2.2.2.2.2.2.2.2.2.2.2.2.2.2.2.2.2.2.2.2.2.2.2.2.2.2.2.2.2.2.2.2.2.1
theorem gr_46_45 {Q : am_Q} (h : Gr Q) : Q 46 45 = some 74 := h.2.2.2.2.2.2.2.2.2.2.2.2.2.2.2.2.2.2.2.2.2.2.2.2.2.2.2.2.2.2.2.2.2.2.2.2.2.2.2.2.2.2.2.2.2.2.2.2.2.2.2.2.2.2.2.2.2.2.2.2.2.2.2.2.2.2.2.2.2.2.2.1
theorem gr_46_46 {Q : am_Q} (h : Gr Q) : Q 46 46 = some 75 := h.2.2.2.2.2.2.2.2.2.2.2.2.2.2.2.2.2.2.2.2.2.2.2.2.2.2.2.2.2.2.2.2.2.2.2.2.2.2.2.2.2.2.2.2.2.2.2.2.2.2.2.2.2.2.2.2.2.2.2.2.2.2.2.2.2.2.2.2.2.2.2.2.1
theorem gr_46_47 {Q : am_Q} (h : Gr Q) : Q 46 47 = some 76 := h.2.2.2.2.2.2.2.2.2.2.2.2.2.2.2.2.2.2.2.2.2.2.2.2.2.2.2.2.2.2.2.2.2.2.2.2.2.2.2.2.2.2.2.2.2.2.2.2.2.2.2.2.2.2.2.2.2.2.2.2.2.2.2.2.2.2.2.2.2.2.2.2.2.1
theorem gr_46_48 {Q : am_Q} (h : Gr Q) : Q 46 48 = some 77 := h.2.2.2.2.2.2.2.2.2.2.2.2.2.2.2.2.2.2.2.2.2.2.2.2.2.2.2.2.2.2.2.2.2.2.2.2.2.2.2.2.2.2.2.2.2.2.2.2.2.2.2.2.2.2.2.2.2.2.2.2.2.2.2.2.2.2.2.2.2.2.2.2.2.2.1
theorem gr_46_49 {Q : am_Q} (h : Gr Q) : Q 46 49 = some 78 := h.2.2.2.2.2.2.2.2.2.2.2.2.2.2.2.2.2.2.2.2.2.2.2.2.2.2.2.2.2.2.2.2.2.2.2.2.2.2.2.2.2.2.2.2.2.2.2.2.2.2.2.2.2.2.2.2.2.2.2.2.2.2.2.2.2.2.2.2.2.2.2.2.2.2.2.1
theorem gr_46_50 {Q : am_Q} (h : Gr Q) : Q 46 50 = some 79 := h.2.2.2.2.2.2.2.2.2.2.2.2.2.2.2.2.2.2.2.2.2.2.2.2.2.2.2.2.2.2.2.2.2.2.2.2.2.2.2.2.2.2.2.2.2.2.2.2.2.2.2.2.2.2.2.2.2.2.2.2.2.2.2.2.2.2.2.2.2.2.2.2.2.2.2.2.1
theorem gr_46_51 {Q : am_Q} (h : Gr Q) : Q 46 51 = some 80 := h.2.2.2.2.2.2.2.2.2.2.2.2.2.2.2.2.2.2.2.2.2.2.2.2.2.2.2.2.2.2.2.2.2.2.2.2.2.2.2.2.2.2.2.2.2.2.2.2.2.2.2.2.2.2.2.2.2.2.2.2.2.2.2.2.2.2.2.2.2.2.2.2.2.2.2.2.2.1
theorem gr_46_53 {Q : am_Q} (h : Gr Q) : Q 46 53 = some 81 := h.2.2.2.2.2.2.2.2.2.2.2.2.2.2.2.2.2.2.2.2.2.2.2.2.2.2.2.2.2.2.2.2.2.2.2.2.2.2.2.2.2.2.2.2.2.2.2.2.2.2.2.2.2.2.2.2.2.2.2.2.2.2.2.2.2.2.2.2.2.2.2.2.2.2.2.2.2.2.1
theorem gr_46_55 {Q : am_Q} (h : Gr Q) : Q 46 55 = some 82 := h.2.2.2.2.2.2.2.2.2.2.2.2.2.2.2.2.2.2.2.2.2.2.2.2.2.2.2.2.2.2.2.2.2.2.2.2.2.2.2.2.2.2.2.2.2.2.2.2.2.2.2.2.2.2.2.2.2.2.2.2.2.2.2.2.2.2.2.2.2.2.2.2.2.2.2.2.2.2.2.1
theorem gr_46_57 {Q : am_Q} (h : Gr Q) : Q 46 57 = some 83 := h.2.2.2.2.2.2.2.2.2.2.2.2.2.2.2.2.2.2.2.2.2.2.2.2.2.2.2.2.2.2.2.2.2.2.2.2.2.2.2.2.2.2.2.2.2.2.2.2.2.2.2.2.2.2.2.2.2.2.2.2.2.2.2.2.2.2.2.2.2.2.2.2.2.2.2.2.2.2.2.2.1
theorem gr_46_58 {Q : am_Q} (h : Gr Q) : Q 46 58 = some 84 := h.2.2.2.2.2.2.2.2.2.2.2.2.2.2.2.2.2.2.2.2.2.2.2.2.2.2.2.2.2.2.2.2.2.2.2.2.2.2.2.2.2.2.2.2.2.2.2.2.2.2.2.2.2.2.2.2.2.2.2.2.2.2.2.2.2.2.2.2.2.2.2.2.2.2.2.2.2.2.2.2.2.1
theorem gr_46_60 {Q : am_Q} (h : Gr Q) : Q 46 60 = some 85 := h.2.2.2.2.2.2.2.2.2.2.2.2.2.2.2.2.2.2.2.2.2.2.2.2.2.2.2.2.2.2.2.2.2.2.2.2.2.2.2.2.2.2.2.2.2.2.2.2.2.2.2.2.2.2.2.2.2.2.2.2.2.2.2.2.2.2.2.2.2.2.2.2.2.2.2.2.2.2.2.2.2.2.1
theorem gr_46_62 {Q : am_Q} (h : Gr Q) : Q 46 62 = some 86 := h.2.2.2.2.2.2.2.2.2.2.2.2.2.2.2.2.2.2.2.2.2.2.2.2.2.2.2.2.2.2.2.2.2.2.2.2.2.2.2.2.2.2.2.2.2.2.2.2.2.2.2.2.2.2.2.2.2.2.2.2.2.2.2.2.2.2.2.2.2.2.2.2.2.2.2.2.2.2.2.2.2.2.2.1
theorem gr_46_63 {Q : am_Q} (h : Gr Q) : Q 46 63 = some 87 := h.2.2.2.2.2.2.2.2.2.2.2.2.2.2.2.2.2.2.2.2.2.2.2.2.2.2.2.2.2.2.2.2.2.2.2.2.2.2.2.2.2.2.2.2.2.2.2.2.2.2.2.2.2.2.2.2.2.2.2.2.2.2.2.2.2.2.2.2.2.2.2.2.2.2.2.2.2.2.2.2.2.2.2.2.1
theorem gr_46_64 {Q : am_Q} (h : Gr Q) : Q 46 64 = some 88 := h.2.2.2.2.2.2.2.2.2.2.2.2.2.2.2.2.2.2.2.2.2.2.2.2.2.2.2.2.2.2.2.2.2.2.2.2.2.2.2.2.2.2.2.2.2.2.2.2.2.2.2.2.2.2.2.2.2.2.2.2.2.2.2.2.2.2.2.2.2.2.2.2.2.2.2.2.2.2.2.2.2.2.2.2.2.1
theorem gr_46_65 {Q : am_Q} (h : Gr Q) : Q 46 65 = some 89 := h.2.2.2.2.2.2.2.2.2.2.2.2.2.2.2.2.2.2.2.2.2.2.2.2.2.2.2.2.2.2.2.2.2.2.2.2.2.2.2.2.2.2.2.2.2.2.2.2.2.2.2.2.2.2.2.2.2.2.2.2.2.2.2.2.2.2.2.2.2.2.2.2.2.2.2.2.2.2.2.2.2.2.2.2.2.2.1
theorem gr_46_66 {Q : am_Q} (h : Gr Q) : Q 46 66 = some 90 := h.2.2.2.2.2.2.2.2.2.2.2.2.2.2.2.2.2.2.2.2.2.2.2.2.2.2.2.2.2.2.2.2.2.2.2.2.2.2.2.2.2.2.2.2.2.2.2.2.2.2.2.2.2.2.2.2.2.2.2.2.2.2.2.2.2.2.2.2.2.2.2.2.2.2.2.2.2.2.2.2.2.2.2.2.2.2.2.1
theorem gr_46_67 {Q : am_Q} (h : Gr Q) : Q 46 67 = some 91 := h.2.2.2.2.2.2.2.2.2.2.2.2.2.2.2.2.2.2.2.2.2.2.2.2.2.2.2.2.2.2.2.2.2.2.2.2.2.2.2.2.2.2.2.2.2.2.2.2.2.2.2.2.2.2.2.2.2.2.2.2.2.2.2.2.2.2.2.2.2.2.2.2.2.2.2.2.2.2.2.2.2.2.2.2.2.2.2.2
end
section
def s_X9_isBelow  (a0 : Int32) (a1 : Int32) : Int32 := (if a0 < 0 then 0 else (if a1 ≤ a0 then 0 else 1))
theorem z_X9_isBelow  (a0 : Int32) (a1 : Int32) : (s_X9_isBelow a0 a1) = 0 ∨ (s_X9_isBelow a0 a1) = 1 := by
  unfold s_X9_isBelow
  repeat' split
  all_goals first | exact Or.inl rfl | exact Or.inr rfl
set_option maxRecDepth 100000 in
set_option maxHeartbeats 4000000 in
theorem gt_X9_isBelow (f : Nat) (I : am_I) (J : am_J) (Q : am_Q) (hG : Gr Q) (a0 : Int32) (a1 : Int32) : Gd MX9_isBelow (am_o 0 0 0 (am_Fi I J Q (s_X9_isBelow a0 a1))) 0 0 92 0 [some (.int a0), some (.int a1)] [] I J Q := by
  unfold s_X9_isBelow
  refine gd_iload_n (q := 1) rfl rfl rfl ?_
  refine gy_if_lt (q := 4) (r := 13) rfl rfl rfl (fun c_1 => ?_) (fun c_1 => ?_)
  · refine gd_iconst (v := 0) (q := 14) rfl rfl rfl ?_
    exact gd_ireturn rfl rfl rfl (Nat.le_refl 0) (Nat.le_refl 0) rfl
  · refine gd_iload_n (q := 5) rfl rfl rfl ?_
    refine gd_iload_n (q := 6) rfl rfl rfl ?_
    refine gy_icmp_ge (q := 9) (r := 13) rfl rfl rfl (fun c_6 => ?_) (fun c_6 => ?_)
    · refine gd_iconst (v := 0) (q := 14) rfl rfl rfl ?_
      exact gd_ireturn rfl rfl rfl (Nat.le_refl 0) (Nat.le_refl 0) rfl
    · refine gd_iconst (v := 1) (q := 10) rfl rfl rfl ?_
      refine gd_goto (q := 14) rfl rfl ?_
      exact gd_ireturn rfl rfl rfl (Nat.le_refl 0) (Nat.le_refl 0) rfl
theorem ct_X9_isBelow (f : Nat) (I : am_I) (J : am_J) (Q : am_Q) (hG : Gr Q) (a0 : Int32) (a1 : Int32) : Cm MX9_isBelow 0 0 0 92 [.int a0, .int a1] I J Q (am_Fi I J Q (s_X9_isBelow a0 a1)) := cm_of (by decide) rfl IX9_isBelow_ok (Nat.le_of_ble_eq_true rfl) (gt_X9_isBelow f I J Q hG a0 a1)
def s_X0_has (I : am_I) (a1 : Int32) : Int32 := (s_X9_isBelow a1 (I 26 2))
theorem z_X0_has (I : am_I) (a1 : Int32) : (s_X0_has I a1) = 0 ∨ (s_X0_has I a1) = 1 := by
  unfold s_X0_has
  repeat' split
  all_goals first | exact Or.inl rfl | exact Or.inr rfl | exact z_X9_isBelow _ _
set_option maxRecDepth 100000 in
set_option maxHeartbeats 4000000 in
theorem gt_X0_has (f : Nat) (I : am_I) (J : am_J) (Q : am_Q) (hG : Gr Q) (a1 : Int32) : Gd MX0_has (am_o 1 0 0 (am_Fi I J Q (s_X0_has I a1))) 0 0 92 0 [some (.ref 26), some (.int a1)] [] I J Q := by
  unfold s_X0_has
  refine gd_iload_n (q := 1) rfl rfl rfl ?_
  refine gd_aload_n (q := 2) rfl rfl rfl ?_
  refine gd_getI (q := 5) rfl rfl rfl (Nat.le_of_ble_eq_true rfl) rfl rfl ?_
  refine gd_cSi (q := 8) rfl rfl lk0_23 myX9_isBelow sxX9_isBelow (ct_X9_isBelow f I J Q hG a1 (I 26 2)) rfl rfl (Nat.le_of_ble_eq_true rfl) ⟨(Nat.le_of_ble_eq_true rfl), (Nat.le_of_ble_eq_true rfl)⟩ ?_
  exact gd_ireturn rfl rfl (am_zn (z_X9_isBelow a1 (I 26 2))) (Nat.le_refl 0) (Nat.le_refl 0) rfl
theorem ct_X0_has (f : Nat) (I : am_I) (J : am_J) (Q : am_Q) (hG : Gr Q) (a1 : Int32) : Cm MX0_has 1 0 0 92 [.ref 26, .int a1] I J Q (am_Fi I J Q (s_X0_has I a1)) := cm_of (by decide) rfl IX0_has_ok (Nat.le_of_ble_eq_true rfl) (gt_X0_has f I J Q hG a1)
def s_X0_add (I : am_I) (a1 : Int32) : Int32 × am_I := (if (I 26 2) < 6 then ((((I 26 2) + 1) - 1), (am_w (am_w I 27 (I 26 2).toNatClampNeg a1) 26 2 ((I 26 2) + 1))) else ((-1), I))
def p_X0_add (I : am_I) (a1 : Int32) : Prop := (if (I 26 2) < 6 then vp_in (I 26 2) 6 else True)
set_option maxRecDepth 100000 in
set_option maxHeartbeats 4000000 in
theorem gt_X0_add (f : Nat) (I : am_I) (J : am_J) (Q : am_Q) (hG : Gr Q) (a1 : Int32) (hp : p_X0_add I a1) : Gd MX0_add (am_o 0 0 0 (am_FiI J Q (s_X0_add I a1))) 0 0 92 0 [some (.ref 26), some (.int a1)] [] I J Q := by
  unfold s_X0_add
  unfold p_X0_add at hp
  refine gd_aload_n (q := 1) rfl rfl rfl ?_
  refine gd_getI (q := 4) rfl rfl rfl (Nat.le_of_ble_eq_true rfl) rfl rfl ?_
  refine gd_bipush (v := 6) (q := 6) rfl rfl rfl ?_
  refine gx_icmp_lt (q := 9) (r := 11) rfl rfl rfl hp (fun c_6 hp => ?_) (fun c_6 hp => ?_)
  · refine gd_aload_n (q := 12) rfl rfl rfl ?_
    refine gd_getR (q := 15) (r := 27) rfl rfl rfl (Nat.le_of_ble_eq_true rfl) rfl rfl (gr_26_0 hG) ?_
    refine gd_aload_n (q := 16) rfl rfl rfl ?_
    refine gd_getI (q := 19) rfl rfl rfl (Nat.le_of_ble_eq_true rfl) rfl rfl ?_
    refine gd_iload_n (q := 20) rfl rfl rfl ?_
    refine gd_iast (q := 21) rfl rfl (Nat.le_of_ble_eq_true rfl) rfl hp ?_
    refine gd_aload_n (q := 22) rfl rfl rfl ?_
    refine gd_dup (q := 23) rfl rfl rfl ?_
    refine gd_getI (q := 26) rfl rfl rfl (Nat.le_of_ble_eq_true rfl) rfl rfl ?_
    refine gd_iconst (v := 1) (q := 27) rfl rfl rfl ?_
    refine gd_iadd (q := 28) rfl rfl ?_
    refine gd_putI (q := 31) rfl rfl rfl (Nat.le_of_ble_eq_true rfl) rfl rfl rfl (Or.inl rfl) ?_
    refine gd_aload_n (q := 32) rfl rfl rfl ?_
    refine gd_getI (q := 35) rfl rfl rfl (Nat.le_of_ble_eq_true rfl) rfl rfl ?_
    refine gd_iconst (v := 1) (q := 36) rfl rfl rfl ?_
    refine gd_isub (q := 37) rfl rfl ?_
    exact gd_ireturn rfl rfl rfl (Nat.le_refl 0) (Nat.le_refl 0) rfl
  · refine gd_iconst (v := (-1)) (q := 10) rfl rfl rfl ?_
    exact gd_ireturn rfl rfl rfl (Nat.le_refl 0) (Nat.le_refl 0) rfl
theorem ct_X0_add (f : Nat) (I : am_I) (J : am_J) (Q : am_Q) (hG : Gr Q) (a1 : Int32) (hp : p_X0_add I a1) : Cm MX0_add 0 0 0 92 [.ref 26, .int a1] I J Q (am_FiI J Q (s_X0_add I a1)) := cm_of (by decide) rfl IX0_add_ok (Nat.le_of_ble_eq_true rfl) (gt_X0_add f I J Q hG a1 hp)
def s_X0_wayOf (I : am_I) (a1 : Int32) (a2 : Int32) : Int32 := (if (s_X0_has I a1) = 0 then 0 else (if (s_X9_isBelow a2 30) = 0 then 0 else (I 28 ((a1 * 30) + a2).toNatClampNeg)))
def p_X0_wayOf (I : am_I) (a1 : Int32) (a2 : Int32) : Prop := (if (s_X0_has I a1) = 0 then True else (if (s_X9_isBelow a2 30) = 0 then True else vp_in ((a1 * 30) + a2) 180))
set_option maxRecDepth 100000 in
set_option maxHeartbeats 4000000 in
theorem gt_X0_wayOf (f : Nat) (I : am_I) (J : am_J) (Q : am_Q) (hG : Gr Q) (a1 : Int32) (a2 : Int32) (hp : p_X0_wayOf I a1 a2) : Gd MX0_wayOf (am_o 2 0 0 (am_Fi I J Q (s_X0_wayOf I a1 a2))) 0 0 92 0 [some (.ref 26), some (.int a1), some (.int a2)] [] I J Q := by
  unfold s_X0_wayOf
  unfold p_X0_wayOf at hp
  refine gd_aload_n (q := 1) rfl rfl rfl ?_
  refine gd_iload_n (q := 2) rfl rfl rfl ?_
  refine gd_cVi (q := 5) rfl rfl lk0_27 myX0_has vxX0_has (ct_X0_has f I J Q hG a1) rfl (Nat.le_of_ble_eq_true rfl) rfl rfl (Nat.le_of_ble_eq_true rfl) rfl (Nat.le_of_ble_eq_true rfl) ⟨(Nat.le_of_ble_eq_true rfl), (Nat.le_of_ble_eq_true rfl)⟩ ?_
  refine gx_if_eq (q := 8) (r := 31) rfl rfl rfl hp (fun c_5 hp => ?_) (fun c_5 hp => ?_)
  · refine gd_iconst (v := 0) (q := 32) rfl rfl rfl ?_
    exact gd_ireturn rfl rfl rfl (Nat.le_refl 0) (Nat.le_refl 0) rfl
  · refine gd_iload_n (q := 9) rfl rfl rfl ?_
    refine gd_bipush (v := 30) (q := 11) rfl rfl rfl ?_
    refine gd_cSi (q := 14) rfl rfl lk0_23 myX9_isBelow sxX9_isBelow (ct_X9_isBelow f I J Q hG a2 30) rfl rfl (Nat.le_of_ble_eq_true rfl) ⟨(Nat.le_of_ble_eq_true rfl), (Nat.le_of_ble_eq_true rfl)⟩ ?_
    refine gx_if_eq (q := 17) (r := 31) rfl rfl rfl hp (fun c_14 hp => ?_) (fun c_14 hp => ?_)
    · refine gd_iconst (v := 0) (q := 32) rfl rfl rfl ?_
      exact gd_ireturn rfl rfl rfl (Nat.le_refl 0) (Nat.le_refl 0) rfl
    · refine gd_aload_n (q := 18) rfl rfl rfl ?_
      refine gd_getR (q := 21) (r := 28) rfl rfl rfl (Nat.le_of_ble_eq_true rfl) rfl rfl (gr_26_1 hG) ?_
      refine gd_iload_n (q := 22) rfl rfl rfl ?_
      refine gd_bipush (v := 30) (q := 24) rfl rfl rfl ?_
      refine gd_imul (q := 25) rfl rfl ?_
      refine gd_iload_n (q := 26) rfl rfl rfl ?_
      refine gd_iadd (q := 27) rfl rfl ?_
      refine gd_bald (q := 28) rfl rfl (Nat.le_of_ble_eq_true rfl) rfl hp ?_
      refine gd_goto (q := 32) rfl rfl ?_
      exact gd_ireturn rfl rfl rfl (Nat.le_refl 0) (Nat.le_refl 0) rfl
theorem ct_X0_wayOf (f : Nat) (I : am_I) (J : am_J) (Q : am_Q) (hG : Gr Q) (a1 : Int32) (a2 : Int32) (hp : p_X0_wayOf I a1 a2) : Cm MX0_wayOf 2 0 0 92 [.ref 26, .int a1, .int a2] I J Q (am_Fi I J Q (s_X0_wayOf I a1 a2)) := cm_of (by decide) rfl IX0_wayOf_ok (Nat.le_of_ble_eq_true rfl) (gt_X0_wayOf f I J Q hG a1 a2 hp)
def s_X0_hear (I : am_I) (a1 : Int32) (a2 : Int32) (a3 : Int32) : am_I := (if (s_X0_has I a1) = 0 then I else (if (s_X9_isBelow a2 30) = 0 then I else (if (s_X0_wayOf I a1 a2) = 2 then I else (am_w I 28 ((a1 * 30) + a2).toNatClampNeg (vp_nar .byte (a3.toInt8.toInt32))))))
def p_X0_hear (I : am_I) (a1 : Int32) (a2 : Int32) (a3 : Int32) : Prop := (if (s_X0_has I a1) = 0 then True else (if (s_X9_isBelow a2 30) = 0 then True else ((p_X0_wayOf I a1 a2) ∧ (if (s_X0_wayOf I a1 a2) = 2 then True else vp_in ((a1 * 30) + a2) 180))))
set_option maxRecDepth 100000 in
set_option maxHeartbeats 4000000 in
theorem gt_X0_hear (f : Nat) (I : am_I) (J : am_J) (Q : am_Q) (hG : Gr Q) (a1 : Int32) (a2 : Int32) (a3 : Int32) (hp : p_X0_hear I a1 a2 a3) : Gd MX0_hear (am_o 3 0 0 (am_FvI J Q (s_X0_hear I a1 a2 a3))) 0 0 92 0 [some (.ref 26), some (.int a1), some (.int a2), some (.int a3), none] [] I J Q := by
  unfold s_X0_hear
  unfold p_X0_hear at hp
  refine gd_aload_n (q := 1) rfl rfl rfl ?_
  refine gd_iload_n (q := 2) rfl rfl rfl ?_
  refine gd_cVi (q := 5) rfl rfl lk0_27 myX0_has vxX0_has (ct_X0_has f I J Q hG a1) rfl (Nat.le_of_ble_eq_true rfl) rfl rfl (Nat.le_of_ble_eq_true rfl) rfl (Nat.le_of_ble_eq_true rfl) ⟨(Nat.le_of_ble_eq_true rfl), (Nat.le_of_ble_eq_true rfl)⟩ ?_
  refine gx_if_eq (q := 8) (r := 21) rfl rfl rfl hp (fun c_5 hp => ?_) (fun c_5 hp => ?_)
  · refine gd_iconst (v := 0) (q := 22) rfl rfl rfl ?_
    refine gd_istore (q := 24) rfl rfl (Nat.le_of_ble_eq_true rfl) rfl ?_
    refine gd_iload (q := 26) rfl rfl rfl ?_
    refine gd_if_eq (q := 29) (r := 52) rfl rfl rfl (fun _ => ?_) (fun c => absurd c (by decide))
    exact gd_return rfl rfl (Nat.le_refl 0) (Nat.le_refl 0) rfl
  · refine gd_iload_n (q := 9) rfl rfl rfl ?_
    refine gd_bipush (v := 30) (q := 11) rfl rfl rfl ?_
    refine gd_cSi (q := 14) rfl rfl lk0_23 myX9_isBelow sxX9_isBelow (ct_X9_isBelow f I J Q hG a2 30) rfl rfl (Nat.le_of_ble_eq_true rfl) ⟨(Nat.le_of_ble_eq_true rfl), (Nat.le_of_ble_eq_true rfl)⟩ ?_
    refine gx_if_eq (q := 17) (r := 21) rfl rfl rfl hp (fun c_14 hp => ?_) (fun c_14 hp => ?_)
    · refine gd_iconst (v := 0) (q := 22) rfl rfl rfl ?_
      refine gd_istore (q := 24) rfl rfl (Nat.le_of_ble_eq_true rfl) rfl ?_
      refine gd_iload (q := 26) rfl rfl rfl ?_
      refine gd_if_eq (q := 29) (r := 52) rfl rfl rfl (fun _ => ?_) (fun c => absurd c (by decide))
      exact gd_return rfl rfl (Nat.le_refl 0) (Nat.le_refl 0) rfl
    · refine gd_iconst (v := 1) (q := 18) rfl rfl rfl ?_
      refine gd_goto (q := 22) rfl rfl ?_
      refine gd_istore (q := 24) rfl rfl (Nat.le_of_ble_eq_true rfl) rfl ?_
      refine gd_iload (q := 26) rfl rfl rfl ?_
      refine gd_if_eq (q := 29) (r := 52) rfl rfl rfl (fun c => absurd c (by decide)) (fun _ => ?_)
      refine gd_aload_n (q := 30) rfl rfl rfl ?_
      refine gd_iload_n (q := 31) rfl rfl rfl ?_
      refine gd_iload_n (q := 32) rfl rfl rfl ?_
      refine gd_cVi (q := 35) rfl rfl lk0_31 myX0_wayOf vxX0_wayOf (ct_X0_wayOf f I J Q hG a1 a2 hp.1) rfl (Nat.le_of_ble_eq_true rfl) rfl rfl (Nat.le_of_ble_eq_true rfl) rfl (Nat.le_of_ble_eq_true rfl) ⟨(Nat.le_of_ble_eq_true rfl), (Nat.le_of_ble_eq_true rfl)⟩ ?_
      replace hp := hp.2
      refine gd_iconst (v := 2) (q := 36) rfl rfl rfl ?_
      refine gx_icmp_eq (q := 39) (r := 52) rfl rfl rfl hp (fun c_36 hp => ?_) (fun c_36 hp => ?_)
      · exact gd_return rfl rfl (Nat.le_refl 0) (Nat.le_refl 0) rfl
      · refine gd_aload_n (q := 40) rfl rfl rfl ?_
        refine gd_getR (q := 43) (r := 28) rfl rfl rfl (Nat.le_of_ble_eq_true rfl) rfl rfl (gr_26_1 hG) ?_
        refine gd_iload_n (q := 44) rfl rfl rfl ?_
        refine gd_bipush (v := 30) (q := 46) rfl rfl rfl ?_
        refine gd_imul (q := 47) rfl rfl ?_
        refine gd_iload_n (q := 48) rfl rfl rfl ?_
        refine gd_iadd (q := 49) rfl rfl ?_
        refine gd_iload_n (q := 50) rfl rfl rfl ?_
        refine gd_i2b (q := 51) rfl rfl ?_
        refine gd_bast (q := 52) rfl rfl (Nat.le_of_ble_eq_true rfl) rfl hp ?_
        exact gd_return rfl rfl (Nat.le_refl 0) (Nat.le_refl 0) rfl
theorem ct_X0_hear (f : Nat) (I : am_I) (J : am_J) (Q : am_Q) (hG : Gr Q) (a1 : Int32) (a2 : Int32) (a3 : Int32) (hp : p_X0_hear I a1 a2 a3) : Cm MX0_hear 3 0 0 92 [.ref 26, .int a1, .int a2, .int a3] I J Q (am_FvI J Q (s_X0_hear I a1 a2 a3)) := cm_of (by decide) rfl IX0_hear_ok (Nat.le_of_ble_eq_true rfl) (gt_X0_hear f I J Q hG a1 a2 a3 hp)
def s_X9_bound (I : am_I) (a1 : Int32) : Int32 × am_I := (if a1 < 1 then (0, I) else (if 12 < a1 then (0, I) else (1, (am_w I 0 10 a1))))
theorem z_X9_bound (I : am_I) (a1 : Int32) : (s_X9_bound I a1).1 = 0 ∨ (s_X9_bound I a1).1 = 1 := by
  unfold s_X9_bound
  repeat' split
  all_goals first | exact Or.inl rfl | exact Or.inr rfl
set_option maxRecDepth 100000 in
set_option maxHeartbeats 4000000 in
theorem gt_X9_bound (f : Nat) (I : am_I) (J : am_J) (Q : am_Q) (hG : Gr Q) (a1 : Int32) : Gd MX9_bound (am_o 0 0 0 (am_FiI J Q (s_X9_bound I a1))) 0 0 92 0 [some (.ref 0), some (.int a1), none] [] I J Q := by
  unfold s_X9_bound
  refine gd_iload_n (q := 1) rfl rfl rfl ?_
  refine gd_iconst (v := 1) (q := 2) rfl rfl rfl ?_
  refine gy_icmp_lt (q := 5) (r := 15) rfl rfl rfl (fun c_2 => ?_) (fun c_2 => ?_)
  · refine gd_iconst (v := 0) (q := 16) rfl rfl rfl ?_
    refine gd_istore_n (q := 17) rfl rfl (Nat.le_of_ble_eq_true rfl) rfl ?_
    refine gd_iload_n (q := 18) rfl rfl rfl ?_
    refine gd_if_eq (q := 21) (r := 26) rfl rfl rfl (fun _ => ?_) (fun c => absurd c (by decide))
    refine gd_iload_n (q := 27) rfl rfl rfl ?_
    exact gd_ireturn rfl rfl rfl (Nat.le_refl 0) (Nat.le_refl 0) rfl
  · refine gd_iload_n (q := 6) rfl rfl rfl ?_
    refine gd_bipush (v := 12) (q := 8) rfl rfl rfl ?_
    refine gy_icmp_gt (q := 11) (r := 15) rfl rfl rfl (fun c_8 => ?_) (fun c_8 => ?_)
    · refine gd_iconst (v := 0) (q := 16) rfl rfl rfl ?_
      refine gd_istore_n (q := 17) rfl rfl (Nat.le_of_ble_eq_true rfl) rfl ?_
      refine gd_iload_n (q := 18) rfl rfl rfl ?_
      refine gd_if_eq (q := 21) (r := 26) rfl rfl rfl (fun _ => ?_) (fun c => absurd c (by decide))
      refine gd_iload_n (q := 27) rfl rfl rfl ?_
      exact gd_ireturn rfl rfl rfl (Nat.le_refl 0) (Nat.le_refl 0) rfl
    · refine gd_iconst (v := 1) (q := 12) rfl rfl rfl ?_
      refine gd_goto (q := 16) rfl rfl ?_
      refine gd_istore_n (q := 17) rfl rfl (Nat.le_of_ble_eq_true rfl) rfl ?_
      refine gd_iload_n (q := 18) rfl rfl rfl ?_
      refine gd_if_eq (q := 21) (r := 26) rfl rfl rfl (fun c => absurd c (by decide)) (fun _ => ?_)
      refine gd_aload_n (q := 22) rfl rfl rfl ?_
      refine gd_iload_n (q := 23) rfl rfl rfl ?_
      refine gd_putI (q := 26) rfl rfl rfl (Nat.le_of_ble_eq_true rfl) rfl rfl rfl (Or.inl rfl) ?_
      refine gd_iload_n (q := 27) rfl rfl rfl ?_
      exact gd_ireturn rfl rfl rfl (Nat.le_refl 0) (Nat.le_refl 0) rfl
theorem ct_X9_bound (f : Nat) (I : am_I) (J : am_J) (Q : am_Q) (hG : Gr Q) (a1 : Int32) : Cm MX9_bound 0 0 0 92 [.ref 0, .int a1] I J Q (am_FiI J Q (s_X9_bound I a1)) := cm_of (by decide) rfl IX9_bound_ok (Nat.le_of_ble_eq_true rfl) (gt_X9_bound f I J Q hG a1)
def s_X8_has (I : am_I) (a1 : Int32) : Int32 := (s_X9_isBelow a1 (I 9 3))
theorem z_X8_has (I : am_I) (a1 : Int32) : (s_X8_has I a1) = 0 ∨ (s_X8_has I a1) = 1 := by
  unfold s_X8_has
  repeat' split
  all_goals first | exact Or.inl rfl | exact Or.inr rfl | exact z_X9_isBelow _ _
set_option maxRecDepth 100000 in
set_option maxHeartbeats 4000000 in
theorem gt_X8_has (f : Nat) (I : am_I) (J : am_J) (Q : am_Q) (hG : Gr Q) (a1 : Int32) : Gd MX8_has (am_o 1 0 0 (am_Fi I J Q (s_X8_has I a1))) 0 0 92 0 [some (.ref 9), some (.int a1)] [] I J Q := by
  unfold s_X8_has
  refine gd_iload_n (q := 1) rfl rfl rfl ?_
  refine gd_aload_n (q := 2) rfl rfl rfl ?_
  refine gd_getI (q := 5) rfl rfl rfl (Nat.le_of_ble_eq_true rfl) rfl rfl ?_
  refine gd_cSi (q := 8) rfl rfl lk8_28 myX9_isBelow sxX9_isBelow (ct_X9_isBelow f I J Q hG a1 (I 9 3)) rfl rfl (Nat.le_of_ble_eq_true rfl) ⟨(Nat.le_of_ble_eq_true rfl), (Nat.le_of_ble_eq_true rfl)⟩ ?_
  exact gd_ireturn rfl rfl (am_zn (z_X9_isBelow a1 (I 9 3))) (Nat.le_refl 0) (Nat.le_refl 0) rfl
theorem ct_X8_has (f : Nat) (I : am_I) (J : am_J) (Q : am_Q) (hG : Gr Q) (a1 : Int32) : Cm MX8_has 1 0 0 92 [.ref 9, .int a1] I J Q (am_Fi I J Q (s_X8_has I a1)) := cm_of (by decide) rfl IX8_has_ok (Nat.le_of_ble_eq_true rfl) (gt_X8_has f I J Q hG a1)
def s_X8_setDeath (I : am_I) (a1 : Int32) (a2 : Int32) : Int32 × am_I := (if (s_X8_has I a1) = 0 then (0, I) else (if (I 11 a1.toNatClampNeg) = (-1) then (1, (am_w I 11 a1.toNatClampNeg a2)) else (0, I)))
def p_X8_setDeath (I : am_I) (a1 : Int32) (a2 : Int32) : Prop := (if (s_X8_has I a1) = 0 then True else (vp_in a1 12 ∧ (if (I 11 a1.toNatClampNeg) = (-1) then vp_in a1 12 else True)))
theorem z_X8_setDeath (I : am_I) (a1 : Int32) (a2 : Int32) : (s_X8_setDeath I a1 a2).1 = 0 ∨ (s_X8_setDeath I a1 a2).1 = 1 := by
  unfold s_X8_setDeath
  repeat' split
  all_goals first | exact Or.inl rfl | exact Or.inr rfl | exact z_X8_has _ _
set_option maxRecDepth 100000 in
set_option maxHeartbeats 4000000 in
theorem gt_X8_setDeath (f : Nat) (I : am_I) (J : am_J) (Q : am_Q) (hG : Gr Q) (a1 : Int32) (a2 : Int32) (hp : p_X8_setDeath I a1 a2) : Gd MX8_setDeath (am_o 2 0 0 (am_FiI J Q (s_X8_setDeath I a1 a2))) 0 0 92 0 [some (.ref 9), some (.int a1), some (.int a2)] [] I J Q := by
  unfold s_X8_setDeath
  unfold p_X8_setDeath at hp
  refine gd_aload_n (q := 1) rfl rfl rfl ?_
  refine gd_iload_n (q := 2) rfl rfl rfl ?_
  refine gd_cVi (q := 5) rfl rfl lk8_33 myX8_has vxX8_has (ct_X8_has f I J Q hG a1) rfl (Nat.le_of_ble_eq_true rfl) rfl rfl (Nat.le_of_ble_eq_true rfl) rfl (Nat.le_of_ble_eq_true rfl) ⟨(Nat.le_of_ble_eq_true rfl), (Nat.le_of_ble_eq_true rfl)⟩ ?_
  refine gx_if_eq (q := 8) (r := 18) rfl rfl rfl hp (fun c_5 hp => ?_) (fun c_5 hp => ?_)
  · refine gd_iconst (v := 0) (q := 19) rfl rfl rfl ?_
    exact gd_ireturn rfl rfl rfl (Nat.le_refl 0) (Nat.le_refl 0) rfl
  · refine gd_aload_n (q := 9) rfl rfl rfl ?_
    refine gd_getR (q := 12) (r := 11) rfl rfl rfl (Nat.le_of_ble_eq_true rfl) rfl rfl (gr_9_1 hG) ?_
    refine gd_iload_n (q := 13) rfl rfl rfl ?_
    refine gd_iald (q := 14) rfl rfl (Nat.le_of_ble_eq_true rfl) rfl hp.1 ?_
    replace hp := hp.2
    refine gd_iconst (v := (-1)) (q := 15) rfl rfl rfl ?_
    refine gx_icmp_eq (q := 18) (r := 20) rfl rfl rfl hp (fun c_15 hp => ?_) (fun c_15 hp => ?_)
    · refine gd_aload_n (q := 21) rfl rfl rfl ?_
      refine gd_getR (q := 24) (r := 11) rfl rfl rfl (Nat.le_of_ble_eq_true rfl) rfl rfl (gr_9_1 hG) ?_
      refine gd_iload_n (q := 25) rfl rfl rfl ?_
      refine gd_iload_n (q := 26) rfl rfl rfl ?_
      refine gd_iast (q := 27) rfl rfl (Nat.le_of_ble_eq_true rfl) rfl hp ?_
      refine gd_iconst (v := 1) (q := 28) rfl rfl rfl ?_
      exact gd_ireturn rfl rfl rfl (Nat.le_refl 0) (Nat.le_refl 0) rfl
    · refine gd_iconst (v := 0) (q := 19) rfl rfl rfl ?_
      exact gd_ireturn rfl rfl rfl (Nat.le_refl 0) (Nat.le_refl 0) rfl
theorem ct_X8_setDeath (f : Nat) (I : am_I) (J : am_J) (Q : am_Q) (hG : Gr Q) (a1 : Int32) (a2 : Int32) (hp : p_X8_setDeath I a1 a2) : Cm MX8_setDeath 2 0 0 92 [.ref 9, .int a1, .int a2] I J Q (am_FiI J Q (s_X8_setDeath I a1 a2)) := cm_of (by decide) rfl IX8_setDeath_ok (Nat.le_of_ble_eq_true rfl) (gt_X8_setDeath f I J Q hG a1 a2 hp)
def s_X6_signOf  (a0 : Int32) (a1 : Int32) : Int32 := (if a0 = 33 then (if a1 = 0 then 27 else 21) else (if a0 = 40 then 24 else (if a0 = 41 then 25 else (if a0 = 42 then 19 else (if a0 = 43 then 17 else (if a0 = 45 then 18 else (if a0 = 59 then 16 else (if a0 = 60 then (if a1 = 0 then 22 else 23) else (if a0 = 61 then (if a1 = 0 then 27 else 20) else 27)))))))))
theorem am_swX6_signOf_1 {x : Int32} (h0 : ¬ x = 33) (h1 : ¬ x = 40) (h2 : ¬ x = 41) (h3 : ¬ x = 42) (h4 : ¬ x = 43) (h5 : ¬ x = 45) (h6 : ¬ x = 59) (h7 : ¬ x = 60) (h8 : ¬ x = 61) : (x.toInt < 33 ∨ 61 < x.toInt) ∨ (¬ x.toInt < 33 ∧ ¬ 61 < x.toInt ∧ (#[161, 185, 185, 185, 185, 185, 185, 143, 146, 140, 134, 185, 137, 185, 185, 185, 185, 185, 185, 185, 185, 185, 185, 185, 185, 185, 131, 173, 149] : Array Int)[(x.toInt - 33).toNat]? = some 185) := by
  by_cases hlo : x.toInt < 33
  · exact Or.inl (Or.inl hlo)
  by_cases hhi : 61 < x.toInt
  · exact Or.inl (Or.inr hhi)
  refine Or.inr ⟨hlo, hhi, ?_⟩
  have e0 := lv_neT (a := 33) h0 rfl
  have e1 := lv_neT (a := 40) h1 rfl
  have e2 := lv_neT (a := 41) h2 rfl
  have e3 := lv_neT (a := 42) h3 rfl
  have e4 := lv_neT (a := 43) h4 rfl
  have e5 := lv_neT (a := 45) h5 rfl
  have e6 := lv_neT (a := 59) h6 rfl
  have e7 := lv_neT (a := 60) h7 rfl
  have e8 := lv_neT (a := 61) h8 rfl
  rcases (show x.toInt = 34 ∨ x.toInt = 35 ∨ x.toInt = 36 ∨ x.toInt = 37 ∨ x.toInt = 38 ∨ x.toInt = 39 ∨ x.toInt = 44 ∨ x.toInt = 46 ∨ x.toInt = 47 ∨ x.toInt = 48 ∨ x.toInt = 49 ∨ x.toInt = 50 ∨ x.toInt = 51 ∨ x.toInt = 52 ∨ x.toInt = 53 ∨ x.toInt = 54 ∨ x.toInt = 55 ∨ x.toInt = 56 ∨ x.toInt = 57 ∨ x.toInt = 58 by omega) with h | h | h | h | h | h | h | h | h | h | h | h | h | h | h | h | h | h | h | h <;> (rw [h]; rfl)
set_option maxRecDepth 100000 in
set_option maxHeartbeats 4000000 in
theorem gt_X6_signOf (f : Nat) (I : am_I) (J : am_J) (Q : am_Q) (hG : Gr Q) (a0 : Int32) (a1 : Int32) : Gd MX6_signOf (am_o 0 0 0 (am_Fi I J Q (s_X6_signOf a0 a1))) 0 0 92 0 [some (.int a0), some (.int a1)] [] I J Q := by
  unfold s_X6_signOf
  refine gd_iload_n (q := 1) rfl rfl rfl ?_
  refine gy_ite (fun c_1_33 => ?_) (fun c_1_33 => ?_)
  · refine gd_tsIn (q := 162) rfl (by rw [c_1_33]; decide) (by rw [c_1_33]; decide) (by first | (rw [c_1_33]; done) | (rw [c_1_33]; rfl)) rfl ?_
    refine gd_iload_n (q := 163) rfl rfl rfl ?_
    refine gy_if_eq (q := 166) (r := 171) rfl rfl rfl (fun c_163 => ?_) (fun c_163 => ?_)
    · refine gd_bipush (v := 27) (q := 173) rfl rfl rfl ?_
      exact gd_ireturn rfl rfl rfl (Nat.le_refl 0) (Nat.le_refl 0) rfl
    · refine gd_bipush (v := 21) (q := 168) rfl rfl rfl ?_
      refine gd_goto (q := 173) rfl rfl ?_
      exact gd_ireturn rfl rfl rfl (Nat.le_refl 0) (Nat.le_refl 0) rfl
  · refine gy_ite (fun c_1_40 => ?_) (fun c_1_40 => ?_)
    · refine gd_tsIn (q := 144) rfl (by rw [c_1_40]; decide) (by rw [c_1_40]; decide) (by first | (rw [c_1_40]; done) | (rw [c_1_40]; rfl)) rfl ?_
      refine gd_bipush (v := 24) (q := 146) rfl rfl rfl ?_
      exact gd_ireturn rfl rfl rfl (Nat.le_refl 0) (Nat.le_refl 0) rfl
    · refine gy_ite (fun c_1_41 => ?_) (fun c_1_41 => ?_)
      · refine gd_tsIn (q := 147) rfl (by rw [c_1_41]; decide) (by rw [c_1_41]; decide) (by first | (rw [c_1_41]; done) | (rw [c_1_41]; rfl)) rfl ?_
        refine gd_bipush (v := 25) (q := 149) rfl rfl rfl ?_
        exact gd_ireturn rfl rfl rfl (Nat.le_refl 0) (Nat.le_refl 0) rfl
      · refine gy_ite (fun c_1_42 => ?_) (fun c_1_42 => ?_)
        · refine gd_tsIn (q := 141) rfl (by rw [c_1_42]; decide) (by rw [c_1_42]; decide) (by first | (rw [c_1_42]; done) | (rw [c_1_42]; rfl)) rfl ?_
          refine gd_bipush (v := 19) (q := 143) rfl rfl rfl ?_
          exact gd_ireturn rfl rfl rfl (Nat.le_refl 0) (Nat.le_refl 0) rfl
        · refine gy_ite (fun c_1_43 => ?_) (fun c_1_43 => ?_)
          · refine gd_tsIn (q := 135) rfl (by rw [c_1_43]; decide) (by rw [c_1_43]; decide) (by first | (rw [c_1_43]; done) | (rw [c_1_43]; rfl)) rfl ?_
            refine gd_bipush (v := 17) (q := 137) rfl rfl rfl ?_
            exact gd_ireturn rfl rfl rfl (Nat.le_refl 0) (Nat.le_refl 0) rfl
          · refine gy_ite (fun c_1_45 => ?_) (fun c_1_45 => ?_)
            · refine gd_tsIn (q := 138) rfl (by rw [c_1_45]; decide) (by rw [c_1_45]; decide) (by first | (rw [c_1_45]; done) | (rw [c_1_45]; rfl)) rfl ?_
              refine gd_bipush (v := 18) (q := 140) rfl rfl rfl ?_
              exact gd_ireturn rfl rfl rfl (Nat.le_refl 0) (Nat.le_refl 0) rfl
            · refine gy_ite (fun c_1_59 => ?_) (fun c_1_59 => ?_)
              · refine gd_tsIn (q := 132) rfl (by rw [c_1_59]; decide) (by rw [c_1_59]; decide) (by first | (rw [c_1_59]; done) | (rw [c_1_59]; rfl)) rfl ?_
                refine gd_bipush (v := 16) (q := 134) rfl rfl rfl ?_
                exact gd_ireturn rfl rfl rfl (Nat.le_refl 0) (Nat.le_refl 0) rfl
              · refine gy_ite (fun c_1_60 => ?_) (fun c_1_60 => ?_)
                · refine gd_tsIn (q := 174) rfl (by rw [c_1_60]; decide) (by rw [c_1_60]; decide) (by first | (rw [c_1_60]; done) | (rw [c_1_60]; rfl)) rfl ?_
                  refine gd_iload_n (q := 175) rfl rfl rfl ?_
                  refine gy_if_eq (q := 178) (r := 183) rfl rfl rfl (fun c_175 => ?_) (fun c_175 => ?_)
                  · refine gd_bipush (v := 22) (q := 185) rfl rfl rfl ?_
                    exact gd_ireturn rfl rfl rfl (Nat.le_refl 0) (Nat.le_refl 0) rfl
                  · refine gd_bipush (v := 23) (q := 180) rfl rfl rfl ?_
                    refine gd_goto (q := 185) rfl rfl ?_
                    exact gd_ireturn rfl rfl rfl (Nat.le_refl 0) (Nat.le_refl 0) rfl
                · refine gy_ite (fun c_1_61 => ?_) (fun c_1_61 => ?_)
                  · refine gd_tsIn (q := 150) rfl (by rw [c_1_61]; decide) (by rw [c_1_61]; decide) (by first | (rw [c_1_61]; done) | (rw [c_1_61]; rfl)) rfl ?_
                    refine gd_iload_n (q := 151) rfl rfl rfl ?_
                    refine gy_if_eq (q := 154) (r := 159) rfl rfl rfl (fun c_151 => ?_) (fun c_151 => ?_)
                    · refine gd_bipush (v := 27) (q := 161) rfl rfl rfl ?_
                      exact gd_ireturn rfl rfl rfl (Nat.le_refl 0) (Nat.le_refl 0) rfl
                    · refine gd_bipush (v := 20) (q := 156) rfl rfl rfl ?_
                      refine gd_goto (q := 161) rfl rfl ?_
                      exact gd_ireturn rfl rfl rfl (Nat.le_refl 0) (Nat.le_refl 0) rfl
                  · refine gd_tsAny (q := 186) rfl (am_swX6_signOf_1 c_1_33 c_1_40 c_1_41 c_1_42 c_1_43 c_1_45 c_1_59 c_1_60 c_1_61) rfl ?_
                    refine gd_bipush (v := 27) (q := 188) rfl rfl rfl ?_
                    exact gd_ireturn rfl rfl rfl (Nat.le_refl 0) (Nat.le_refl 0) rfl
theorem ct_X6_signOf (f : Nat) (I : am_I) (J : am_J) (Q : am_Q) (hG : Gr Q) (a0 : Int32) (a1 : Int32) : Cm MX6_signOf 0 0 0 92 [.int a0, .int a1] I J Q (am_Fi I J Q (s_X6_signOf a0 a1)) := cm_of (by decide) rfl IX6_signOf_ok (Nat.le_of_ble_eq_true rfl) (gt_X6_signOf f I J Q hG a0 a1)
def s_X6_drop (I : am_I) (a1 : Int32) : Int32 × am_I := (if a1 < 0 then ((-1), I) else (if a1 ≤ (I 1 1) then (((I 1 1) - a1), (am_w I 1 1 ((I 1 1) - a1))) else ((-1), I)))
set_option maxRecDepth 100000 in
set_option maxHeartbeats 4000000 in
theorem gt_X6_drop (f : Nat) (I : am_I) (J : am_J) (Q : am_Q) (hG : Gr Q) (a1 : Int32) : Gd MX6_drop (am_o 0 0 0 (am_FiI J Q (s_X6_drop I a1))) 0 0 92 0 [some (.ref 1), some (.int a1)] [] I J Q := by
  unfold s_X6_drop
  refine gd_iload_n (q := 1) rfl rfl rfl ?_
  refine gy_if_lt (q := 4) (r := 12) rfl rfl rfl (fun c_1 => ?_) (fun c_1 => ?_)
  · refine gd_iconst (v := (-1)) (q := 13) rfl rfl rfl ?_
    exact gd_ireturn rfl rfl rfl (Nat.le_refl 0) (Nat.le_refl 0) rfl
  · refine gd_iload_n (q := 5) rfl rfl rfl ?_
    refine gd_aload_n (q := 6) rfl rfl rfl ?_
    refine gd_getI (q := 9) rfl rfl rfl (Nat.le_of_ble_eq_true rfl) rfl rfl ?_
    refine gy_icmp_le (q := 12) (r := 14) rfl rfl rfl (fun c_9 => ?_) (fun c_9 => ?_)
    · refine gd_aload_n (q := 15) rfl rfl rfl ?_
      refine gd_dup (q := 16) rfl rfl rfl ?_
      refine gd_getI (q := 19) rfl rfl rfl (Nat.le_of_ble_eq_true rfl) rfl rfl ?_
      refine gd_iload_n (q := 20) rfl rfl rfl ?_
      refine gd_isub (q := 21) rfl rfl ?_
      refine gd_putI (q := 24) rfl rfl rfl (Nat.le_of_ble_eq_true rfl) rfl rfl rfl (Or.inl rfl) ?_
      refine gd_aload_n (q := 25) rfl rfl rfl ?_
      refine gd_getI (q := 28) rfl rfl rfl (Nat.le_of_ble_eq_true rfl) rfl rfl ?_
      exact gd_ireturn rfl rfl rfl (Nat.le_refl 0) (Nat.le_refl 0) rfl
    · refine gd_iconst (v := (-1)) (q := 13) rfl rfl rfl ?_
      exact gd_ireturn rfl rfl rfl (Nat.le_refl 0) (Nat.le_refl 0) rfl
theorem ct_X6_drop (f : Nat) (I : am_I) (J : am_J) (Q : am_Q) (hG : Gr Q) (a1 : Int32) : Cm MX6_drop 0 0 0 92 [.ref 1, .int a1] I J Q (am_FiI J Q (s_X6_drop I a1)) := cm_of (by decide) rfl IX6_drop_ok (Nat.le_of_ble_eq_true rfl) (gt_X6_drop f I J Q hG a1)
def s_X6_addFour_L (a1 : Int32)  : Nat → Int32 → am_I → am_I
  | 0, _, I => I
  | g + 1, v2, I => (if v2 < 0 then I else (if 2000 ≤ (I 1 1) then I else (s_X6_addFour_L a1 g (v2 + (-8)) (am_w (am_w I 2 (I 1 1).toNatClampNeg (vp_nar .byte ((a1 >>> (v2 &&& 31)).toInt8.toInt32))) 1 1 ((I 1 1) + 1)))))
def p_X6_addFour_L (a1 : Int32)  : Nat → Int32 → am_I → Prop
  | 0, _, _ => False
  | g + 1, v2, I => (if v2 < 0 then True else (if 2000 ≤ (I 1 1) then True else (vp_in (I 1 1) 2000 ∧ (p_X6_addFour_L a1 g (v2 + (-8)) (am_w (am_w I 2 (I 1 1).toNatClampNeg (vp_nar .byte ((a1 >>> (v2 &&& 31)).toInt8.toInt32))) 1 1 ((I 1 1) + 1))))))
def s_X6_addFour (f : Nat) (I : am_I) (a1 : Int32) : am_I := (s_X6_addFour_L a1 f 24 I)
def p_X6_addFour (f : Nat) (I : am_I) (a1 : Int32) : Prop := (p_X6_addFour_L a1 f 24 I)
set_option maxRecDepth 100000 in
set_option maxHeartbeats 4000000 in
theorem gl_X6_addFour (a1 : Int32) (f : Nat) (J : am_J) (Q : am_Q) (hG : Gr Q) : ∀ g : Nat, (∀ (v2 : Int32) (I : am_I), p_X6_addFour_L a1 g v2 I → Gd MX6_addFour (am_o 0 0 0 (am_FvI J Q (s_X6_addFour_L a1 g v2 I))) 0 0 92 3 [some (.ref 1), some (.int a1), some (.int v2)] [] I J Q) := by
  intro g
  induction g with
  | zero => exact fun _ _ hp => False.elim hp
  | succ g ih =>
    have ih_3 := ih
    intro v2 I hp
    rw [s_X6_addFour_L]
    rw [p_X6_addFour_L] at hp
    refine gd_iload_n (q := 4) rfl rfl rfl ?_
    refine gx_if_lt (q := 7) (r := 48) rfl rfl rfl hp (fun c_4 hp => ?_) (fun c_4 hp => ?_)
    · exact gd_return rfl rfl (Nat.le_refl 0) (Nat.le_refl 0) rfl
    · refine gd_aload_n (q := 8) rfl rfl rfl ?_
      refine gd_getI (q := 11) rfl rfl rfl (Nat.le_of_ble_eq_true rfl) rfl rfl ?_
      refine gd_aload_n (q := 12) rfl rfl rfl ?_
      refine gd_getR (q := 15) (r := 2) rfl rfl rfl (Nat.le_of_ble_eq_true rfl) rfl rfl (gr_1_0 hG) ?_
      refine gd_alen (v := 2000) (ty := .byte) (q := 16) rfl rfl (Nat.le_of_ble_eq_true rfl) rfl (fun _ => rfl) rfl ?_
      refine gx_icmp_ge (q := 19) (r := 48) rfl rfl rfl hp (fun c_16 hp => ?_) (fun c_16 hp => ?_)
      · exact gd_return rfl rfl (Nat.le_refl 0) (Nat.le_refl 0) rfl
      · refine gd_aload_n (q := 20) rfl rfl rfl ?_
        refine gd_getR (q := 23) (r := 2) rfl rfl rfl (Nat.le_of_ble_eq_true rfl) rfl rfl (gr_1_0 hG) ?_
        refine gd_aload_n (q := 24) rfl rfl rfl ?_
        refine gd_getI (q := 27) rfl rfl rfl (Nat.le_of_ble_eq_true rfl) rfl rfl ?_
        refine gd_iload_n (q := 28) rfl rfl rfl ?_
        refine gd_iload_n (q := 29) rfl rfl rfl ?_
        refine gd_ishr (q := 30) rfl rfl ?_
        refine gd_i2b (q := 31) rfl rfl ?_
        refine gd_bast (q := 32) rfl rfl (Nat.le_of_ble_eq_true rfl) rfl hp.1 ?_
        replace hp := hp.2
        refine gd_aload_n (q := 33) rfl rfl rfl ?_
        refine gd_dup (q := 34) rfl rfl rfl ?_
        refine gd_getI (q := 37) rfl rfl rfl (Nat.le_of_ble_eq_true rfl) rfl rfl ?_
        refine gd_iconst (v := 1) (q := 38) rfl rfl rfl ?_
        refine gd_iadd (q := 39) rfl rfl ?_
        refine gd_putI (q := 42) rfl rfl rfl (Nat.le_of_ble_eq_true rfl) rfl rfl rfl (Or.inl rfl) ?_
        refine gd_iinc (v := (v2 + (-8))) (q := 45) rfl rfl rfl rfl (Nat.le_of_ble_eq_true rfl) rfl ?_
        refine gd_goto (q := 3) rfl rfl ?_
        exact ih_3 (v2 + (-8)) (am_w (am_w I 2 (I 1 1).toNatClampNeg (vp_nar .byte ((a1 >>> (v2 &&& 31)).toInt8.toInt32))) 1 1 ((I 1 1) + 1)) hp
theorem gl_X6_addFour_3 (a1 : Int32) (f : Nat) (J : am_J) (Q : am_Q) (hG : Gr Q) (g : Nat) : ∀ (v2 : Int32) (I : am_I), p_X6_addFour_L a1 g v2 I → Gd MX6_addFour (am_o 0 0 0 (am_FvI J Q (s_X6_addFour_L a1 g v2 I))) 0 0 92 3 [some (.ref 1), some (.int a1), some (.int v2)] [] I J Q := (gl_X6_addFour a1 f J Q hG g)
set_option maxRecDepth 100000 in
set_option maxHeartbeats 4000000 in
theorem gt_X6_addFour (f : Nat) (I : am_I) (J : am_J) (Q : am_Q) (hG : Gr Q) (a1 : Int32) (hp : p_X6_addFour f I a1) : Gd MX6_addFour (am_o 0 0 0 (am_FvI J Q (s_X6_addFour f I a1))) 0 0 92 0 [some (.ref 1), some (.int a1), none] [] I J Q := by
  unfold s_X6_addFour
  unfold p_X6_addFour at hp
  refine gd_bipush (v := 24) (q := 2) rfl rfl rfl ?_
  refine gd_istore_n (q := 3) rfl rfl (Nat.le_of_ble_eq_true rfl) rfl ?_
  exact gl_X6_addFour_3 a1 f J Q hG f 24 I hp
theorem ct_X6_addFour (f : Nat) (I : am_I) (J : am_J) (Q : am_Q) (hG : Gr Q) (a1 : Int32) (hp : p_X6_addFour f I a1) : Cm MX6_addFour 0 0 0 92 [.ref 1, .int a1] I J Q (am_FvI J Q (s_X6_addFour f I a1)) := cm_of (by decide) rfl IX6_addFour_ok (Nat.le_of_ble_eq_true rfl) (gt_X6_addFour f I J Q hG a1 hp)
def s_X6_addTwenty (f : Nat) (I : am_I) (a1 : Int32) (a2 : Int32) (a3 : Int32) (a4 : Int32) (a5 : Int32) : Int32 × am_I := (if ((I 1 1) + 20) ≤ 2000 then (((s_X6_addFour f (s_X6_addFour f (s_X6_addFour f (s_X6_addFour f (s_X6_addFour f I a1) a2) a3) a4) a5) 1 1), (s_X6_addFour f (s_X6_addFour f (s_X6_addFour f (s_X6_addFour f (s_X6_addFour f I a1) a2) a3) a4) a5)) else ((-1), I))
def p_X6_addTwenty (f : Nat) (I : am_I) (a1 : Int32) (a2 : Int32) (a3 : Int32) (a4 : Int32) (a5 : Int32) : Prop := (if ((I 1 1) + 20) ≤ 2000 then ((p_X6_addFour f I a1) ∧ ((p_X6_addFour f (s_X6_addFour f I a1) a2) ∧ ((p_X6_addFour f (s_X6_addFour f (s_X6_addFour f I a1) a2) a3) ∧ ((p_X6_addFour f (s_X6_addFour f (s_X6_addFour f (s_X6_addFour f I a1) a2) a3) a4) ∧ (p_X6_addFour f (s_X6_addFour f (s_X6_addFour f (s_X6_addFour f (s_X6_addFour f I a1) a2) a3) a4) a5))))) else True)
set_option maxRecDepth 100000 in
set_option maxHeartbeats 4000000 in
theorem gt_X6_addTwenty (f : Nat) (I : am_I) (J : am_J) (Q : am_Q) (hG : Gr Q) (a1 : Int32) (a2 : Int32) (a3 : Int32) (a4 : Int32) (a5 : Int32) (hp : p_X6_addTwenty f I a1 a2 a3 a4 a5) : Gd MX6_addTwenty (am_o 1 0 0 (am_FiI J Q (s_X6_addTwenty f I a1 a2 a3 a4 a5))) 0 0 92 0 [some (.ref 1), some (.int a1), some (.int a2), some (.int a3), some (.int a4), some (.int a5)] [] I J Q := by
  unfold s_X6_addTwenty
  unfold p_X6_addTwenty at hp
  refine gd_aload_n (q := 1) rfl rfl rfl ?_
  refine gd_getI (q := 4) rfl rfl rfl (Nat.le_of_ble_eq_true rfl) rfl rfl ?_
  refine gd_bipush (v := 20) (q := 6) rfl rfl rfl ?_
  refine gd_iadd (q := 7) rfl rfl ?_
  refine gd_sipush (v := 2000) (q := 10) rfl rfl rfl ?_
  refine gx_icmp_le (q := 13) (r := 15) rfl rfl rfl hp (fun c_10 hp => ?_) (fun c_10 hp => ?_)
  · refine gd_aload_n (q := 16) rfl rfl rfl ?_
    refine gd_iload_n (q := 17) rfl rfl rfl ?_
    refine gd_cVv (q := 20) rfl rfl lk6_19 myX6_addFour vxX6_addFour (ct_X6_addFour f I J Q hG a1 hp.1) rfl (Nat.le_of_ble_eq_true rfl) rfl rfl (Nat.le_of_ble_eq_true rfl) rfl (Nat.le_of_ble_eq_true rfl) ⟨(Nat.le_of_ble_eq_true rfl), (Nat.le_of_ble_eq_true rfl)⟩ ?_
    replace hp := hp.2
    refine gd_aload_n (q := 21) rfl rfl rfl ?_
    refine gd_iload_n (q := 22) rfl rfl rfl ?_
    refine gd_cVv (q := 25) rfl rfl lk6_19 myX6_addFour vxX6_addFour (ct_X6_addFour f (s_X6_addFour f I a1) J Q hG a2 hp.1) rfl (Nat.le_of_ble_eq_true rfl) rfl rfl (Nat.le_of_ble_eq_true rfl) rfl (Nat.le_of_ble_eq_true rfl) ⟨(Nat.le_of_ble_eq_true rfl), (Nat.le_of_ble_eq_true rfl)⟩ ?_
    replace hp := hp.2
    refine gd_aload_n (q := 26) rfl rfl rfl ?_
    refine gd_iload_n (q := 27) rfl rfl rfl ?_
    refine gd_cVv (q := 30) rfl rfl lk6_19 myX6_addFour vxX6_addFour (ct_X6_addFour f (s_X6_addFour f (s_X6_addFour f I a1) a2) J Q hG a3 hp.1) rfl (Nat.le_of_ble_eq_true rfl) rfl rfl (Nat.le_of_ble_eq_true rfl) rfl (Nat.le_of_ble_eq_true rfl) ⟨(Nat.le_of_ble_eq_true rfl), (Nat.le_of_ble_eq_true rfl)⟩ ?_
    replace hp := hp.2
    refine gd_aload_n (q := 31) rfl rfl rfl ?_
    refine gd_iload (q := 33) rfl rfl rfl ?_
    refine gd_cVv (q := 36) rfl rfl lk6_19 myX6_addFour vxX6_addFour (ct_X6_addFour f (s_X6_addFour f (s_X6_addFour f (s_X6_addFour f I a1) a2) a3) J Q hG a4 hp.1) rfl (Nat.le_of_ble_eq_true rfl) rfl rfl (Nat.le_of_ble_eq_true rfl) rfl (Nat.le_of_ble_eq_true rfl) ⟨(Nat.le_of_ble_eq_true rfl), (Nat.le_of_ble_eq_true rfl)⟩ ?_
    replace hp := hp.2
    refine gd_aload_n (q := 37) rfl rfl rfl ?_
    refine gd_iload (q := 39) rfl rfl rfl ?_
    refine gd_cVv (q := 42) rfl rfl lk6_19 myX6_addFour vxX6_addFour (ct_X6_addFour f (s_X6_addFour f (s_X6_addFour f (s_X6_addFour f (s_X6_addFour f I a1) a2) a3) a4) J Q hG a5 hp) rfl (Nat.le_of_ble_eq_true rfl) rfl rfl (Nat.le_of_ble_eq_true rfl) rfl (Nat.le_of_ble_eq_true rfl) ⟨(Nat.le_of_ble_eq_true rfl), (Nat.le_of_ble_eq_true rfl)⟩ ?_
    refine gd_aload_n (q := 43) rfl rfl rfl ?_
    refine gd_getI (q := 46) rfl rfl rfl (Nat.le_of_ble_eq_true rfl) rfl rfl ?_
    exact gd_ireturn rfl rfl rfl (Nat.le_refl 0) (Nat.le_refl 0) rfl
  · refine gd_iconst (v := (-1)) (q := 14) rfl rfl rfl ?_
    exact gd_ireturn rfl rfl rfl (Nat.le_refl 0) (Nat.le_refl 0) rfl
theorem ct_X6_addTwenty (f : Nat) (I : am_I) (J : am_J) (Q : am_Q) (hG : Gr Q) (a1 : Int32) (a2 : Int32) (a3 : Int32) (a4 : Int32) (a5 : Int32) (hp : p_X6_addTwenty f I a1 a2 a3 a4 a5) : Cm MX6_addTwenty 1 0 0 92 [.ref 1, .int a1, .int a2, .int a3, .int a4, .int a5] I J Q (am_FiI J Q (s_X6_addTwenty f I a1 a2 a3 a4 a5)) := cm_of (by decide) rfl IX6_addTwenty_ok (Nat.le_of_ble_eq_true rfl) (gt_X6_addTwenty f I J Q hG a1 a2 a3 a4 a5 hp)
def s_X4_isFree_L (a1 : Int32) (a2 : Int32) (a3 : Int32) (I : am_I) : Nat → Int32 → Int32
  | 0, _ => 0
  | g + 1, v4 => (if (I 15 11) ≤ v4 then 1 else (if (I 19 v4.toNatClampNeg) = a1 then (if (I 21 v4.toNatClampNeg) ≤ a2 then (s_X4_isFree_L a1 a2 a3 I g (v4 + 1)) else (if a3 ≤ (I 20 v4.toNatClampNeg) then (s_X4_isFree_L a1 a2 a3 I g (v4 + 1)) else 0)) else (s_X4_isFree_L a1 a2 a3 I g (v4 + 1))))
def p_X4_isFree_L (a1 : Int32) (a2 : Int32) (a3 : Int32) (I : am_I) : Nat → Int32 → Prop
  | 0, _ => False
  | g + 1, v4 => (if (I 15 11) ≤ v4 then True else (vp_in v4 30 ∧ (if (I 19 v4.toNatClampNeg) = a1 then (vp_in v4 30 ∧ (if (I 21 v4.toNatClampNeg) ≤ a2 then (p_X4_isFree_L a1 a2 a3 I g (v4 + 1)) else (vp_in v4 30 ∧ (if a3 ≤ (I 20 v4.toNatClampNeg) then (p_X4_isFree_L a1 a2 a3 I g (v4 + 1)) else True)))) else (p_X4_isFree_L a1 a2 a3 I g (v4 + 1)))))
def s_X4_isFree (f : Nat) (I : am_I) (a1 : Int32) (a2 : Int32) (a3 : Int32) : Int32 := (if (s_X9_isBelow a1 (I 15 3)) = 0 then 0 else (if a2 < 0 then 0 else (if a3 ≤ a2 then 0 else (if a3 ≤ (I 18 a1.toNatClampNeg) then (s_X4_isFree_L a1 a2 a3 I f 0) else 0))))
def p_X4_isFree (f : Nat) (I : am_I) (a1 : Int32) (a2 : Int32) (a3 : Int32) : Prop := (if (s_X9_isBelow a1 (I 15 3)) = 0 then True else (if a2 < 0 then True else (if a3 ≤ a2 then True else (vp_in a1 6 ∧ (if a3 ≤ (I 18 a1.toNatClampNeg) then (p_X4_isFree_L a1 a2 a3 I f 0) else True)))))
theorem z_X4_isFree_L (a1 : Int32) (a2 : Int32) (a3 : Int32) (I : am_I) : ∀ (g : Nat) (v4 : Int32), (s_X4_isFree_L a1 a2 a3 I g v4) = 0 ∨ (s_X4_isFree_L a1 a2 a3 I g v4) = 1 := by
  intro g
  induction g with
  | zero => intros; exact Or.inl rfl
  | succ g ih =>
    intro v4
    rw [s_X4_isFree_L]
    repeat' split
    all_goals first | exact Or.inl rfl | exact Or.inr rfl | exact z_X9_isBelow _ _ | exact ih _
theorem z_X4_isFree (f : Nat) (I : am_I) (a1 : Int32) (a2 : Int32) (a3 : Int32) : (s_X4_isFree f I a1 a2 a3) = 0 ∨ (s_X4_isFree f I a1 a2 a3) = 1 := by
  unfold s_X4_isFree
  repeat' split
  all_goals first | exact Or.inl rfl | exact Or.inr rfl | exact z_X9_isBelow _ _ | exact z_X4_isFree_L _ _ _ _ _ _
set_option maxRecDepth 100000 in
set_option maxHeartbeats 4000000 in
theorem gl_X4_isFree (a1 : Int32) (a2 : Int32) (a3 : Int32) (f : Nat) (I : am_I) (J : am_J) (Q : am_Q) (hG : Gr Q) : ∀ g : Nat, (∀ (v4 : Int32), p_X4_isFree_L a1 a2 a3 I g v4 → Gd MX4_isFree (am_o 1 0 0 (am_Fi I J Q (s_X4_isFree_L a1 a2 a3 I g v4))) 0 0 92 35 [some (.ref 15), some (.int a1), some (.int a2), some (.int a3), some (.int v4)] [] I J Q) := by
  intro g
  induction g with
  | zero => exact fun _ hp => False.elim hp
  | succ g ih =>
    have ih_35 := ih
    intro v4 hp
    rw [s_X4_isFree_L]
    rw [p_X4_isFree_L] at hp
    refine gd_iload (q := 37) rfl rfl rfl ?_
    refine gd_aload_n (q := 38) rfl rfl rfl ?_
    refine gd_getI (q := 41) rfl rfl rfl (Nat.le_of_ble_eq_true rfl) rfl rfl ?_
    refine gx_icmp_ge (q := 44) (r := 85) rfl rfl rfl hp (fun c_41 hp => ?_) (fun c_41 hp => ?_)
    · refine gd_iconst (v := 1) (q := 86) rfl rfl rfl ?_
      exact gd_ireturn rfl rfl rfl (Nat.le_refl 0) (Nat.le_refl 0) rfl
    · refine gd_aload_n (q := 45) rfl rfl rfl ?_
      refine gd_getR (q := 48) (r := 19) rfl rfl rfl (Nat.le_of_ble_eq_true rfl) rfl rfl (gr_15_4 hG) ?_
      refine gd_iload (q := 50) rfl rfl rfl ?_
      refine gd_iald (q := 51) rfl rfl (Nat.le_of_ble_eq_true rfl) rfl hp.1 ?_
      replace hp := hp.2
      refine gd_iload_n (q := 52) rfl rfl rfl ?_
      refine gx_icmp_ne (q := 55) (r := 79) rfl rfl rfl hp (fun c_52 hp => ?_) (fun c_52 hp => ?_)
      · refine gd_iload_n (q := 56) rfl rfl rfl ?_
        refine gd_aload_n (q := 57) rfl rfl rfl ?_
        refine gd_getR (q := 60) (r := 21) rfl rfl rfl (Nat.le_of_ble_eq_true rfl) rfl rfl (gr_15_6 hG) ?_
        refine gd_iload (q := 62) rfl rfl rfl ?_
        refine gd_iald (q := 63) rfl rfl (Nat.le_of_ble_eq_true rfl) rfl hp.1 ?_
        replace hp := hp.2
        refine gx_icmp_ge (q := 66) (r := 79) rfl rfl rfl hp (fun c_63 hp => ?_) (fun c_63 hp => ?_)
        · refine gd_iinc (v := (v4 + 1)) (q := 82) rfl rfl rfl rfl (Nat.le_of_ble_eq_true rfl) rfl ?_
          refine gd_goto (q := 35) rfl rfl ?_
          exact ih_35 (v4 + 1) hp
        · refine gd_aload_n (q := 67) rfl rfl rfl ?_
          refine gd_getR (q := 70) (r := 20) rfl rfl rfl (Nat.le_of_ble_eq_true rfl) rfl rfl (gr_15_5 hG) ?_
          refine gd_iload (q := 72) rfl rfl rfl ?_
          refine gd_iald (q := 73) rfl rfl (Nat.le_of_ble_eq_true rfl) rfl hp.1 ?_
          replace hp := hp.2
          refine gd_iload_n (q := 74) rfl rfl rfl ?_
          refine gx_icmp_ge (q := 77) (r := 79) rfl rfl rfl hp (fun c_74 hp => ?_) (fun c_74 hp => ?_)
          · refine gd_iinc (v := (v4 + 1)) (q := 82) rfl rfl rfl rfl (Nat.le_of_ble_eq_true rfl) rfl ?_
            refine gd_goto (q := 35) rfl rfl ?_
            exact ih_35 (v4 + 1) hp
          · refine gd_iconst (v := 0) (q := 78) rfl rfl rfl ?_
            exact gd_ireturn rfl rfl rfl (Nat.le_refl 0) (Nat.le_refl 0) rfl
      · refine gd_iinc (v := (v4 + 1)) (q := 82) rfl rfl rfl rfl (Nat.le_of_ble_eq_true rfl) rfl ?_
        refine gd_goto (q := 35) rfl rfl ?_
        exact ih_35 (v4 + 1) hp
theorem gl_X4_isFree_35 (a1 : Int32) (a2 : Int32) (a3 : Int32) (f : Nat) (I : am_I) (J : am_J) (Q : am_Q) (hG : Gr Q) (g : Nat) : ∀ (v4 : Int32), p_X4_isFree_L a1 a2 a3 I g v4 → Gd MX4_isFree (am_o 1 0 0 (am_Fi I J Q (s_X4_isFree_L a1 a2 a3 I g v4))) 0 0 92 35 [some (.ref 15), some (.int a1), some (.int a2), some (.int a3), some (.int v4)] [] I J Q := (gl_X4_isFree a1 a2 a3 f I J Q hG g)
set_option maxRecDepth 100000 in
set_option maxHeartbeats 4000000 in
theorem gt_X4_isFree (f : Nat) (I : am_I) (J : am_J) (Q : am_Q) (hG : Gr Q) (a1 : Int32) (a2 : Int32) (a3 : Int32) (hp : p_X4_isFree f I a1 a2 a3) : Gd MX4_isFree (am_o 1 0 0 (am_Fi I J Q (s_X4_isFree f I a1 a2 a3))) 0 0 92 0 [some (.ref 15), some (.int a1), some (.int a2), some (.int a3), none] [] I J Q := by
  unfold s_X4_isFree
  unfold p_X4_isFree at hp
  refine gd_iload_n (q := 1) rfl rfl rfl ?_
  refine gd_aload_n (q := 2) rfl rfl rfl ?_
  refine gd_getI (q := 5) rfl rfl rfl (Nat.le_of_ble_eq_true rfl) rfl rfl ?_
  refine gd_cSi (q := 8) rfl rfl lk4_46 myX9_isBelow sxX9_isBelow (ct_X9_isBelow f I J Q hG a1 (I 15 3)) rfl rfl (Nat.le_of_ble_eq_true rfl) ⟨(Nat.le_of_ble_eq_true rfl), (Nat.le_of_ble_eq_true rfl)⟩ ?_
  refine gx_if_eq (q := 11) (r := 30) rfl rfl rfl hp (fun c_8 hp => ?_) (fun c_8 hp => ?_)
  · refine gd_iconst (v := 0) (q := 31) rfl rfl rfl ?_
    exact gd_ireturn rfl rfl rfl (Nat.le_refl 0) (Nat.le_refl 0) rfl
  · refine gd_iload_n (q := 12) rfl rfl rfl ?_
    refine gx_if_lt (q := 15) (r := 30) rfl rfl rfl hp (fun c_12 hp => ?_) (fun c_12 hp => ?_)
    · refine gd_iconst (v := 0) (q := 31) rfl rfl rfl ?_
      exact gd_ireturn rfl rfl rfl (Nat.le_refl 0) (Nat.le_refl 0) rfl
    · refine gd_iload_n (q := 16) rfl rfl rfl ?_
      refine gd_iload_n (q := 17) rfl rfl rfl ?_
      refine gx_icmp_ge (q := 20) (r := 30) rfl rfl rfl hp (fun c_17 hp => ?_) (fun c_17 hp => ?_)
      · refine gd_iconst (v := 0) (q := 31) rfl rfl rfl ?_
        exact gd_ireturn rfl rfl rfl (Nat.le_refl 0) (Nat.le_refl 0) rfl
      · refine gd_iload_n (q := 21) rfl rfl rfl ?_
        refine gd_aload_n (q := 22) rfl rfl rfl ?_
        refine gd_getR (q := 25) (r := 18) rfl rfl rfl (Nat.le_of_ble_eq_true rfl) rfl rfl (gr_15_2 hG) ?_
        refine gd_iload_n (q := 26) rfl rfl rfl ?_
        refine gd_iald (q := 27) rfl rfl (Nat.le_of_ble_eq_true rfl) rfl hp.1 ?_
        replace hp := hp.2
        refine gx_icmp_le (q := 30) (r := 32) rfl rfl rfl hp (fun c_27 hp => ?_) (fun c_27 hp => ?_)
        · refine gd_iconst (v := 0) (q := 33) rfl rfl rfl ?_
          refine gd_istore (q := 35) rfl rfl (Nat.le_of_ble_eq_true rfl) rfl ?_
          exact gl_X4_isFree_35 a1 a2 a3 f I J Q hG f 0 hp
        · refine gd_iconst (v := 0) (q := 31) rfl rfl rfl ?_
          exact gd_ireturn rfl rfl rfl (Nat.le_refl 0) (Nat.le_refl 0) rfl
theorem ct_X4_isFree (f : Nat) (I : am_I) (J : am_J) (Q : am_Q) (hG : Gr Q) (a1 : Int32) (a2 : Int32) (a3 : Int32) (hp : p_X4_isFree f I a1 a2 a3) : Cm MX4_isFree 1 0 0 92 [.ref 15, .int a1, .int a2, .int a3] I J Q (am_Fi I J Q (s_X4_isFree f I a1 a2 a3)) := cm_of (by decide) rfl IX4_isFree_ok (Nat.le_of_ble_eq_true rfl) (gt_X4_isFree f I J Q hG a1 a2 a3 hp)
def s_X9_count (I : am_I) (a1 : Int32) : Int32 := (if a1 = 0 then (I 9 3) else (if a1 = 1 then (I 13 1) else (if a1 = 2 then (I 15 3) else (if a1 = 3 then (I 15 11) else (if a1 = 4 then (I 26 2) else (if a1 = 5 then (I 0 9) else (if a1 = 6 then (I 29 7) else (if a1 = 7 then (I 1 1) else (if a1 = 8 then (I 0 10) else (-1))))))))))
theorem am_swX9_count_1 {x : Int32} (h0 : ¬ x = 0) (h1 : ¬ x = 1) (h2 : ¬ x = 2) (h3 : ¬ x = 3) (h4 : ¬ x = 4) (h5 : ¬ x = 5) (h6 : ¬ x = 6) (h7 : ¬ x = 7) (h8 : ¬ x = 8) : (x.toInt < 0 ∨ 8 < x.toInt) ∨ (¬ x.toInt < 0 ∧ ¬ 8 < x.toInt ∧ (#[51, 59, 67, 75, 83, 91, 96, 104, 112] : Array Int)[(x.toInt - 0).toNat]? = some 117) := by
  by_cases hlo : x.toInt < 0
  · exact Or.inl (Or.inl hlo)
  by_cases hhi : 8 < x.toInt
  · exact Or.inl (Or.inr hhi)
  refine Or.inr ⟨hlo, hhi, ?_⟩
  have e0 := lv_neT (a := 0) h0 rfl
  have e1 := lv_neT (a := 1) h1 rfl
  have e2 := lv_neT (a := 2) h2 rfl
  have e3 := lv_neT (a := 3) h3 rfl
  have e4 := lv_neT (a := 4) h4 rfl
  have e5 := lv_neT (a := 5) h5 rfl
  have e6 := lv_neT (a := 6) h6 rfl
  have e7 := lv_neT (a := 7) h7 rfl
  have e8 := lv_neT (a := 8) h8 rfl
  exfalso; omega
set_option maxRecDepth 100000 in
set_option maxHeartbeats 4000000 in
theorem gt_X9_count (f : Nat) (I : am_I) (J : am_J) (Q : am_Q) (hG : Gr Q) (a1 : Int32) : Gd MX9_count (am_o 0 0 0 (am_Fi I J Q (s_X9_count I a1))) 0 0 92 0 [some (.ref 0), some (.int a1)] [] I J Q := by
  unfold s_X9_count
  refine gd_iload_n (q := 1) rfl rfl rfl ?_
  refine gy_ite (fun c_1_0 => ?_) (fun c_1_0 => ?_)
  · refine gd_tsIn (q := 52) rfl (by rw [c_1_0]; decide) (by rw [c_1_0]; decide) (by first | (rw [c_1_0]; done) | (rw [c_1_0]; rfl)) rfl ?_
    refine gd_aload_n (q := 53) rfl rfl rfl ?_
    refine gd_getR (q := 56) (r := 9) rfl rfl rfl (Nat.le_of_ble_eq_true rfl) rfl rfl (gr_0_3 hG) ?_
    refine gd_getI (q := 59) rfl rfl rfl (Nat.le_of_ble_eq_true rfl) rfl rfl ?_
    exact gd_ireturn rfl rfl rfl (Nat.le_refl 0) (Nat.le_refl 0) rfl
  · refine gy_ite (fun c_1_1 => ?_) (fun c_1_1 => ?_)
    · refine gd_tsIn (q := 60) rfl (by rw [c_1_1]; decide) (by rw [c_1_1]; decide) (by first | (rw [c_1_1]; done) | (rw [c_1_1]; rfl)) rfl ?_
      refine gd_aload_n (q := 61) rfl rfl rfl ?_
      refine gd_getR (q := 64) (r := 13) rfl rfl rfl (Nat.le_of_ble_eq_true rfl) rfl rfl (gr_0_4 hG) ?_
      refine gd_getI (q := 67) rfl rfl rfl (Nat.le_of_ble_eq_true rfl) rfl rfl ?_
      exact gd_ireturn rfl rfl rfl (Nat.le_refl 0) (Nat.le_refl 0) rfl
    · refine gy_ite (fun c_1_2 => ?_) (fun c_1_2 => ?_)
      · refine gd_tsIn (q := 68) rfl (by rw [c_1_2]; decide) (by rw [c_1_2]; decide) (by first | (rw [c_1_2]; done) | (rw [c_1_2]; rfl)) rfl ?_
        refine gd_aload_n (q := 69) rfl rfl rfl ?_
        refine gd_getR (q := 72) (r := 15) rfl rfl rfl (Nat.le_of_ble_eq_true rfl) rfl rfl (gr_0_5 hG) ?_
        refine gd_getI (q := 75) rfl rfl rfl (Nat.le_of_ble_eq_true rfl) rfl rfl ?_
        exact gd_ireturn rfl rfl rfl (Nat.le_refl 0) (Nat.le_refl 0) rfl
      · refine gy_ite (fun c_1_3 => ?_) (fun c_1_3 => ?_)
        · refine gd_tsIn (q := 76) rfl (by rw [c_1_3]; decide) (by rw [c_1_3]; decide) (by first | (rw [c_1_3]; done) | (rw [c_1_3]; rfl)) rfl ?_
          refine gd_aload_n (q := 77) rfl rfl rfl ?_
          refine gd_getR (q := 80) (r := 15) rfl rfl rfl (Nat.le_of_ble_eq_true rfl) rfl rfl (gr_0_5 hG) ?_
          refine gd_getI (q := 83) rfl rfl rfl (Nat.le_of_ble_eq_true rfl) rfl rfl ?_
          exact gd_ireturn rfl rfl rfl (Nat.le_refl 0) (Nat.le_refl 0) rfl
        · refine gy_ite (fun c_1_4 => ?_) (fun c_1_4 => ?_)
          · refine gd_tsIn (q := 84) rfl (by rw [c_1_4]; decide) (by rw [c_1_4]; decide) (by first | (rw [c_1_4]; done) | (rw [c_1_4]; rfl)) rfl ?_
            refine gd_aload_n (q := 85) rfl rfl rfl ?_
            refine gd_getR (q := 88) (r := 26) rfl rfl rfl (Nat.le_of_ble_eq_true rfl) rfl rfl (gr_0_6 hG) ?_
            refine gd_getI (q := 91) rfl rfl rfl (Nat.le_of_ble_eq_true rfl) rfl rfl ?_
            exact gd_ireturn rfl rfl rfl (Nat.le_refl 0) (Nat.le_refl 0) rfl
          · refine gy_ite (fun c_1_5 => ?_) (fun c_1_5 => ?_)
            · refine gd_tsIn (q := 92) rfl (by rw [c_1_5]; decide) (by rw [c_1_5]; decide) (by first | (rw [c_1_5]; done) | (rw [c_1_5]; rfl)) rfl ?_
              refine gd_aload_n (q := 93) rfl rfl rfl ?_
              refine gd_getI (q := 96) rfl rfl rfl (Nat.le_of_ble_eq_true rfl) rfl rfl ?_
              exact gd_ireturn rfl rfl rfl (Nat.le_refl 0) (Nat.le_refl 0) rfl
            · refine gy_ite (fun c_1_6 => ?_) (fun c_1_6 => ?_)
              · refine gd_tsIn (q := 97) rfl (by rw [c_1_6]; decide) (by rw [c_1_6]; decide) (by first | (rw [c_1_6]; done) | (rw [c_1_6]; rfl)) rfl ?_
                refine gd_aload_n (q := 98) rfl rfl rfl ?_
                refine gd_getR (q := 101) (r := 29) rfl rfl rfl (Nat.le_of_ble_eq_true rfl) rfl rfl (gr_0_7 hG) ?_
                refine gd_getI (q := 104) rfl rfl rfl (Nat.le_of_ble_eq_true rfl) rfl rfl ?_
                exact gd_ireturn rfl rfl rfl (Nat.le_refl 0) (Nat.le_refl 0) rfl
              · refine gy_ite (fun c_1_7 => ?_) (fun c_1_7 => ?_)
                · refine gd_tsIn (q := 105) rfl (by rw [c_1_7]; decide) (by rw [c_1_7]; decide) (by first | (rw [c_1_7]; done) | (rw [c_1_7]; rfl)) rfl ?_
                  refine gd_aload_n (q := 106) rfl rfl rfl ?_
                  refine gd_getR (q := 109) (r := 1) rfl rfl rfl (Nat.le_of_ble_eq_true rfl) rfl rfl (gr_0_0 hG) ?_
                  refine gd_getI (q := 112) rfl rfl rfl (Nat.le_of_ble_eq_true rfl) rfl rfl ?_
                  exact gd_ireturn rfl rfl rfl (Nat.le_refl 0) (Nat.le_refl 0) rfl
                · refine gy_ite (fun c_1_8 => ?_) (fun c_1_8 => ?_)
                  · refine gd_tsIn (q := 113) rfl (by rw [c_1_8]; decide) (by rw [c_1_8]; decide) (by first | (rw [c_1_8]; done) | (rw [c_1_8]; rfl)) rfl ?_
                    refine gd_aload_n (q := 114) rfl rfl rfl ?_
                    refine gd_getI (q := 117) rfl rfl rfl (Nat.le_of_ble_eq_true rfl) rfl rfl ?_
                    exact gd_ireturn rfl rfl rfl (Nat.le_refl 0) (Nat.le_refl 0) rfl
                  · refine gd_tsAny (q := 118) rfl (am_swX9_count_1 c_1_0 c_1_1 c_1_2 c_1_3 c_1_4 c_1_5 c_1_6 c_1_7 c_1_8) rfl ?_
                    refine gd_iconst (v := (-1)) (q := 119) rfl rfl rfl ?_
                    exact gd_ireturn rfl rfl rfl (Nat.le_refl 0) (Nat.le_refl 0) rfl
theorem ct_X9_count (f : Nat) (I : am_I) (J : am_J) (Q : am_Q) (hG : Gr Q) (a1 : Int32) : Cm MX9_count 0 0 0 92 [.ref 0, .int a1] I J Q (am_Fi I J Q (s_X9_count I a1)) := cm_of (by decide) rfl IX9_count_ok (Nat.le_of_ble_eq_true rfl) (gt_X9_count f I J Q hG a1)
def s_J7_fill_53178_36_L (a1 : Int32)  : Nat → Int32 → Int32 → am_I → am_I
  | 0, _, _, I => I
  | g + 1, v2, v3, I => (if v3 ≤ v2 then I else (s_J7_fill_53178_36_L a1 g (v2 + 1) v3 (am_w I 36 v2.toNatClampNeg a1)))
def p_J7_fill_53178_36_L (a1 : Int32)  : Nat → Int32 → Int32 → am_I → Prop
  | 0, _, _, _ => False
  | g + 1, v2, v3, I => (if v3 ≤ v2 then True else (vp_in v2 10 ∧ (p_J7_fill_53178_36_L a1 g (v2 + 1) v3 (am_w I 36 v2.toNatClampNeg a1))))
def s_J7_fill_53178_36 (f : Nat) (I : am_I) (a1 : Int32) : am_I := (s_J7_fill_53178_36_L a1 f 0 10 I)
def p_J7_fill_53178_36 (f : Nat) (I : am_I) (a1 : Int32) : Prop := (p_J7_fill_53178_36_L a1 f 0 10 I)
set_option maxRecDepth 100000 in
set_option maxHeartbeats 4000000 in
theorem gl_J7_fill_53178_36 (a1 : Int32) (f : Nat) (J : am_J) (Q : am_Q) (hG : Gr Q) : ∀ g : Nat, (∀ (v2 : Int32) (v3 : Int32) (I : am_I), p_J7_fill_53178_36_L a1 g v2 v3 I → Gd MJ7_fill_53178 (am_o 0 0 0 (am_FvI J Q (s_J7_fill_53178_36_L a1 g v2 v3 I))) 0 0 92 5 [some (.ref 36), some (.int a1), some (.int v2), some (.int v3)] [] I J Q) := by
  intro g
  induction g with
  | zero => exact fun _ _ _ hp => False.elim hp
  | succ g ih =>
    have ih_5 := ih
    intro v2 v3 I hp
    rw [s_J7_fill_53178_36_L]
    rw [p_J7_fill_53178_36_L] at hp
    refine gd_iload_n (q := 6) rfl rfl rfl ?_
    refine gd_iload_n (q := 7) rfl rfl rfl ?_
    refine gx_icmp_ge (q := 10) (r := 20) rfl rfl rfl hp (fun c_7 hp => ?_) (fun c_7 hp => ?_)
    · exact gd_return rfl rfl (Nat.le_refl 0) (Nat.le_refl 0) rfl
    · refine gd_aload_n (q := 11) rfl rfl rfl ?_
      refine gd_iload_n (q := 12) rfl rfl rfl ?_
      refine gd_iload_n (q := 13) rfl rfl rfl ?_
      refine gd_iast (q := 14) rfl rfl (Nat.le_of_ble_eq_true rfl) rfl hp.1 ?_
      replace hp := hp.2
      refine gd_iinc (v := (v2 + 1)) (q := 17) rfl rfl rfl rfl (Nat.le_of_ble_eq_true rfl) rfl ?_
      refine gd_goto (q := 5) rfl rfl ?_
      exact ih_5 (v2 + 1) v3 (am_w I 36 v2.toNatClampNeg a1) hp
theorem gl_J7_fill_53178_36_5 (a1 : Int32) (f : Nat) (J : am_J) (Q : am_Q) (hG : Gr Q) (g : Nat) : ∀ (v2 : Int32) (v3 : Int32) (I : am_I), p_J7_fill_53178_36_L a1 g v2 v3 I → Gd MJ7_fill_53178 (am_o 0 0 0 (am_FvI J Q (s_J7_fill_53178_36_L a1 g v2 v3 I))) 0 0 92 5 [some (.ref 36), some (.int a1), some (.int v2), some (.int v3)] [] I J Q := (gl_J7_fill_53178_36 a1 f J Q hG g)
set_option maxRecDepth 100000 in
set_option maxHeartbeats 4000000 in
theorem gt_J7_fill_53178_36 (f : Nat) (I : am_I) (J : am_J) (Q : am_Q) (hG : Gr Q) (a1 : Int32) (hp : p_J7_fill_53178_36 f I a1) : Gd MJ7_fill_53178 (am_o 0 0 0 (am_FvI J Q (s_J7_fill_53178_36 f I a1))) 0 0 92 0 [some (.ref 36), some (.int a1), none, none] [] I J Q := by
  unfold s_J7_fill_53178_36
  unfold p_J7_fill_53178_36 at hp
  refine gd_iconst (v := 0) (q := 1) rfl rfl rfl ?_
  refine gd_istore_n (q := 2) rfl rfl (Nat.le_of_ble_eq_true rfl) rfl ?_
  refine gd_aload_n (q := 3) rfl rfl rfl ?_
  refine gd_alen (v := 10) (ty := .int) (q := 4) rfl rfl (Nat.le_of_ble_eq_true rfl) rfl (fun _ => rfl) rfl ?_
  refine gd_istore_n (q := 5) rfl rfl (Nat.le_of_ble_eq_true rfl) rfl ?_
  exact gl_J7_fill_53178_36_5 a1 f J Q hG f 0 10 I hp
theorem ct_J7_fill_53178_36 (f : Nat) (I : am_I) (J : am_J) (Q : am_Q) (hG : Gr Q) (a1 : Int32) (hp : p_J7_fill_53178_36 f I a1) : Cm MJ7_fill_53178 0 0 0 92 [.ref 36, .int a1] I J Q (am_FvI J Q (s_J7_fill_53178_36 f I a1)) := cm_of (by decide) rfl IJ7_fill_53178_ok (Nat.le_of_ble_eq_true rfl) (gt_J7_fill_53178_36 f I J Q hG a1 hp)
def s_X5_areWithin_L (a1 : Int32) (a2 : Int32) (a3 : Int32) (I : am_I) : Nat → Nat → Int32 → Int32
  | 0, _, _ => 0
  | g + 1, 0, v4 => (if 10 ≤ v4 then (s_X5_areWithin_L a1 a2 a3 I g 1 0) else (if (I 36 v4.toNatClampNeg) ≤ 9999 then (s_X5_areWithin_L a1 a2 a3 I g 0 (v4 + 1)) else 0))
  | g + 1, 1, v4 => (if a1 ≤ v4 then 1 else (if a3 = 0 then (if (I 30 v4.toNatClampNeg) = 0 then (if ((a2 >>> (v4 &&& 31)) &&& 1) = 0 then (if (I 36 (I 31 v4.toNatClampNeg).toNatClampNeg) ≤ (I 34 v4.toNatClampNeg) then (s_X5_areWithin_L a1 a2 a3 I g 1 (v4 + 1)) else 0) else (s_X5_areWithin_L a1 a2 a3 I g 1 (v4 + 1))) else (s_X5_areWithin_L a1 a2 a3 I g 1 (v4 + 1))) else (if (I 30 v4.toNatClampNeg) = 0 then (if ((a2 >>> (v4 &&& 31)) &&& 1) = 0 then (if (I 36 (I 31 v4.toNatClampNeg).toNatClampNeg) ≤ (9999 - (I 33 v4.toNatClampNeg)) then (s_X5_areWithin_L a1 a2 a3 I g 1 (v4 + 1)) else 0) else (s_X5_areWithin_L a1 a2 a3 I g 1 (v4 + 1))) else (s_X5_areWithin_L a1 a2 a3 I g 1 (v4 + 1)))))
  | _ + 1, _ + 2, _ => 0
def p_X5_areWithin_L (a1 : Int32) (a2 : Int32) (a3 : Int32) (I : am_I) : Nat → Nat → Int32 → Prop
  | 0, _, _ => False
  | g + 1, 0, v4 => (if 10 ≤ v4 then (p_X5_areWithin_L a1 a2 a3 I g 1 0) else (vp_in v4 10 ∧ (if (I 36 v4.toNatClampNeg) ≤ 9999 then (p_X5_areWithin_L a1 a2 a3 I g 0 (v4 + 1)) else True)))
  | g + 1, 1, v4 => (if a1 ≤ v4 then True else (if a3 = 0 then (vp_in v4 12 ∧ (vp_in v4 12 ∧ (if (I 30 v4.toNatClampNeg) = 0 then (if ((a2 >>> (v4 &&& 31)) &&& 1) = 0 then (vp_in v4 12 ∧ (vp_in (I 31 v4.toNatClampNeg) 10 ∧ (if (I 36 (I 31 v4.toNatClampNeg).toNatClampNeg) ≤ (I 34 v4.toNatClampNeg) then (p_X5_areWithin_L a1 a2 a3 I g 1 (v4 + 1)) else True))) else (p_X5_areWithin_L a1 a2 a3 I g 1 (v4 + 1))) else (p_X5_areWithin_L a1 a2 a3 I g 1 (v4 + 1))))) else (vp_in v4 12 ∧ (vp_in v4 12 ∧ (if (I 30 v4.toNatClampNeg) = 0 then (if ((a2 >>> (v4 &&& 31)) &&& 1) = 0 then (vp_in v4 12 ∧ (vp_in (I 31 v4.toNatClampNeg) 10 ∧ (if (I 36 (I 31 v4.toNatClampNeg).toNatClampNeg) ≤ (9999 - (I 33 v4.toNatClampNeg)) then (p_X5_areWithin_L a1 a2 a3 I g 1 (v4 + 1)) else True))) else (p_X5_areWithin_L a1 a2 a3 I g 1 (v4 + 1))) else (p_X5_areWithin_L a1 a2 a3 I g 1 (v4 + 1)))))))
  | _ + 1, _ + 2, _ => False
def s_X5_areWithin (f : Nat) (I : am_I) (a1 : Int32) (a2 : Int32) (a3 : Int32) : Int32 := (s_X5_areWithin_L a1 a2 a3 I f 0 0)
def p_X5_areWithin (f : Nat) (I : am_I) (a1 : Int32) (a2 : Int32) (a3 : Int32) : Prop := (p_X5_areWithin_L a1 a2 a3 I f 0 0)
set_option maxRecDepth 100000 in
set_option maxHeartbeats 4000000 in
theorem gl_X5_areWithin (a1 : Int32) (a2 : Int32) (a3 : Int32) (f : Nat) (I : am_I) (J : am_J) (Q : am_Q) (hG : Gr Q) : ∀ g : Nat, (∀ (v4 : Int32), p_X5_areWithin_L a1 a2 a3 I g 0 v4 → Gd MX5_areWithin (am_o 0 0 0 (am_Fi I J Q (s_X5_areWithin_L a1 a2 a3 I g 0 v4))) 0 0 92 3 [some (.ref 29), some (.int a1), some (.int a2), some (.int a3), some (.int v4), none] [] I J Q) ∧ (∀ (v4 : Int32), p_X5_areWithin_L a1 a2 a3 I g 1 v4 → Gd MX5_areWithin (am_o 0 0 0 (am_Fi I J Q (s_X5_areWithin_L a1 a2 a3 I g 1 v4))) 0 0 92 34 [some (.ref 29), some (.int a1), some (.int a2), some (.int a3), some (.int v4), none] [] I J Q) := by
  intro g
  induction g with
  | zero => exact ⟨fun _ hp => False.elim hp, fun _ hp => False.elim hp⟩
  | succ g ih =>
    have ih_3 := ih.1
    have ih_34 := ih.2
    refine ⟨?_, ?_⟩
    · intro v4 hp
      rw [s_X5_areWithin_L]
      rw [p_X5_areWithin_L] at hp
      refine gd_iload (q := 5) rfl rfl rfl ?_
      refine gd_bipush (v := 10) (q := 7) rfl rfl rfl ?_
      refine gx_icmp_ge (q := 10) (r := 31) rfl rfl rfl hp (fun c_7 hp => ?_) (fun c_7 hp => ?_)
      · refine gd_iconst (v := 0) (q := 32) rfl rfl rfl ?_
        refine gd_istore (q := 34) rfl rfl (Nat.le_of_ble_eq_true rfl) rfl ?_
        exact ih_34 0 hp
      · refine gd_aload_n (q := 11) rfl rfl rfl ?_
        refine gd_getR (q := 14) (r := 36) rfl rfl rfl (Nat.le_of_ble_eq_true rfl) rfl rfl (gr_29_6 hG) ?_
        refine gd_iload (q := 16) rfl rfl rfl ?_
        refine gd_iald (q := 17) rfl rfl (Nat.le_of_ble_eq_true rfl) rfl hp.1 ?_
        replace hp := hp.2
        refine gd_sipush (v := 9999) (q := 20) rfl rfl rfl ?_
        refine gx_icmp_le (q := 23) (r := 25) rfl rfl rfl hp (fun c_20 hp => ?_) (fun c_20 hp => ?_)
        · refine gd_iinc (v := (v4 + 1)) (q := 28) rfl rfl rfl rfl (Nat.le_of_ble_eq_true rfl) rfl ?_
          refine gd_goto (q := 3) rfl rfl ?_
          exact ih_3 (v4 + 1) hp
        · refine gd_iconst (v := 0) (q := 24) rfl rfl rfl ?_
          exact gd_ireturn rfl rfl rfl (Nat.le_refl 0) (Nat.le_refl 0) rfl
    · intro v4 hp
      rw [s_X5_areWithin_L]
      rw [p_X5_areWithin_L] at hp
      refine gd_iload (q := 36) rfl rfl rfl ?_
      refine gd_iload_n (q := 37) rfl rfl rfl ?_
      refine gx_icmp_ge (q := 40) (r := 111) rfl rfl rfl hp (fun c_37 hp => ?_) (fun c_37 hp => ?_)
      · refine gd_iconst (v := 1) (q := 112) rfl rfl rfl ?_
        exact gd_ireturn rfl rfl rfl (Nat.le_refl 0) (Nat.le_refl 0) rfl
      · refine gd_iload_n (q := 41) rfl rfl rfl ?_
        refine gx_if_eq (q := 44) (r := 58) rfl rfl rfl hp (fun c_41 hp => ?_) (fun c_41 hp => ?_)
        · refine gd_aload_n (q := 59) rfl rfl rfl ?_
          refine gd_getR (q := 62) (r := 34) rfl rfl rfl (Nat.le_of_ble_eq_true rfl) rfl rfl (gr_29_4 hG) ?_
          refine gd_iload (q := 64) rfl rfl rfl ?_
          refine gd_iald (q := 65) rfl rfl (Nat.le_of_ble_eq_true rfl) rfl hp.1 ?_
          replace hp := hp.2
          refine gd_istore (q := 67) rfl rfl (Nat.le_of_ble_eq_true rfl) rfl ?_
          refine gd_aload_n (q := 68) rfl rfl rfl ?_
          refine gd_getR (q := 71) (r := 30) rfl rfl rfl (Nat.le_of_ble_eq_true rfl) rfl rfl (gr_29_0 hG) ?_
          refine gd_iload (q := 73) rfl rfl rfl ?_
          refine gd_iald (q := 74) rfl rfl (Nat.le_of_ble_eq_true rfl) rfl hp.1 ?_
          replace hp := hp.2
          refine gx_if_ne (q := 77) (r := 105) rfl rfl rfl hp (fun c_74 hp => ?_) (fun c_74 hp => ?_)
          · refine gd_iload_n (q := 78) rfl rfl rfl ?_
            refine gd_iload (q := 80) rfl rfl rfl ?_
            refine gd_ishr (q := 81) rfl rfl ?_
            refine gd_iconst (v := 1) (q := 82) rfl rfl rfl ?_
            refine gd_iand (q := 83) rfl rfl ?_
            refine gx_if_ne (q := 86) (r := 105) rfl rfl rfl hp (fun c_83 hp => ?_) (fun c_83 hp => ?_)
            · refine gd_aload_n (q := 87) rfl rfl rfl ?_
              refine gd_getR (q := 90) (r := 36) rfl rfl rfl (Nat.le_of_ble_eq_true rfl) rfl rfl (gr_29_6 hG) ?_
              refine gd_aload_n (q := 91) rfl rfl rfl ?_
              refine gd_getR (q := 94) (r := 31) rfl rfl rfl (Nat.le_of_ble_eq_true rfl) rfl rfl (gr_29_1 hG) ?_
              refine gd_iload (q := 96) rfl rfl rfl ?_
              refine gd_iald (q := 97) rfl rfl (Nat.le_of_ble_eq_true rfl) rfl hp.1 ?_
              replace hp := hp.2
              refine gd_iald (q := 98) rfl rfl (Nat.le_of_ble_eq_true rfl) rfl hp.1 ?_
              replace hp := hp.2
              refine gd_iload (q := 100) rfl rfl rfl ?_
              refine gx_icmp_le (q := 103) (r := 105) rfl rfl rfl hp (fun c_100 hp => ?_) (fun c_100 hp => ?_)
              · refine gd_iinc (v := (v4 + 1)) (q := 108) rfl rfl rfl rfl (Nat.le_of_ble_eq_true rfl) rfl ?_
                refine gd_goto (q := 34) rfl rfl ?_
                refine gd_drop 5 ?_
                exact ih_34 (v4 + 1) hp
              · refine gd_iconst (v := 0) (q := 104) rfl rfl rfl ?_
                exact gd_ireturn rfl rfl rfl (Nat.le_refl 0) (Nat.le_refl 0) rfl
            · refine gd_iinc (v := (v4 + 1)) (q := 108) rfl rfl rfl rfl (Nat.le_of_ble_eq_true rfl) rfl ?_
              refine gd_goto (q := 34) rfl rfl ?_
              refine gd_drop 5 ?_
              exact ih_34 (v4 + 1) hp
          · refine gd_iinc (v := (v4 + 1)) (q := 108) rfl rfl rfl rfl (Nat.le_of_ble_eq_true rfl) rfl ?_
            refine gd_goto (q := 34) rfl rfl ?_
            refine gd_drop 5 ?_
            exact ih_34 (v4 + 1) hp
        · refine gd_sipush (v := 9999) (q := 47) rfl rfl rfl ?_
          refine gd_aload_n (q := 48) rfl rfl rfl ?_
          refine gd_getR (q := 51) (r := 33) rfl rfl rfl (Nat.le_of_ble_eq_true rfl) rfl rfl (gr_29_3 hG) ?_
          refine gd_iload (q := 53) rfl rfl rfl ?_
          refine gd_iald (q := 54) rfl rfl (Nat.le_of_ble_eq_true rfl) rfl hp.1 ?_
          replace hp := hp.2
          refine gd_isub (q := 55) rfl rfl ?_
          refine gd_goto (q := 65) rfl rfl ?_
          refine gd_istore (q := 67) rfl rfl (Nat.le_of_ble_eq_true rfl) rfl ?_
          refine gd_aload_n (q := 68) rfl rfl rfl ?_
          refine gd_getR (q := 71) (r := 30) rfl rfl rfl (Nat.le_of_ble_eq_true rfl) rfl rfl (gr_29_0 hG) ?_
          refine gd_iload (q := 73) rfl rfl rfl ?_
          refine gd_iald (q := 74) rfl rfl (Nat.le_of_ble_eq_true rfl) rfl hp.1 ?_
          replace hp := hp.2
          refine gx_if_ne (q := 77) (r := 105) rfl rfl rfl hp (fun c_74 hp => ?_) (fun c_74 hp => ?_)
          · refine gd_iload_n (q := 78) rfl rfl rfl ?_
            refine gd_iload (q := 80) rfl rfl rfl ?_
            refine gd_ishr (q := 81) rfl rfl ?_
            refine gd_iconst (v := 1) (q := 82) rfl rfl rfl ?_
            refine gd_iand (q := 83) rfl rfl ?_
            refine gx_if_ne (q := 86) (r := 105) rfl rfl rfl hp (fun c_83 hp => ?_) (fun c_83 hp => ?_)
            · refine gd_aload_n (q := 87) rfl rfl rfl ?_
              refine gd_getR (q := 90) (r := 36) rfl rfl rfl (Nat.le_of_ble_eq_true rfl) rfl rfl (gr_29_6 hG) ?_
              refine gd_aload_n (q := 91) rfl rfl rfl ?_
              refine gd_getR (q := 94) (r := 31) rfl rfl rfl (Nat.le_of_ble_eq_true rfl) rfl rfl (gr_29_1 hG) ?_
              refine gd_iload (q := 96) rfl rfl rfl ?_
              refine gd_iald (q := 97) rfl rfl (Nat.le_of_ble_eq_true rfl) rfl hp.1 ?_
              replace hp := hp.2
              refine gd_iald (q := 98) rfl rfl (Nat.le_of_ble_eq_true rfl) rfl hp.1 ?_
              replace hp := hp.2
              refine gd_iload (q := 100) rfl rfl rfl ?_
              refine gx_icmp_le (q := 103) (r := 105) rfl rfl rfl hp (fun c_100 hp => ?_) (fun c_100 hp => ?_)
              · refine gd_iinc (v := (v4 + 1)) (q := 108) rfl rfl rfl rfl (Nat.le_of_ble_eq_true rfl) rfl ?_
                refine gd_goto (q := 34) rfl rfl ?_
                refine gd_drop 5 ?_
                exact ih_34 (v4 + 1) hp
              · refine gd_iconst (v := 0) (q := 104) rfl rfl rfl ?_
                exact gd_ireturn rfl rfl rfl (Nat.le_refl 0) (Nat.le_refl 0) rfl
            · refine gd_iinc (v := (v4 + 1)) (q := 108) rfl rfl rfl rfl (Nat.le_of_ble_eq_true rfl) rfl ?_
              refine gd_goto (q := 34) rfl rfl ?_
              refine gd_drop 5 ?_
              exact ih_34 (v4 + 1) hp
          · refine gd_iinc (v := (v4 + 1)) (q := 108) rfl rfl rfl rfl (Nat.le_of_ble_eq_true rfl) rfl ?_
            refine gd_goto (q := 34) rfl rfl ?_
            refine gd_drop 5 ?_
            exact ih_34 (v4 + 1) hp
theorem gl_X5_areWithin_3 (a1 : Int32) (a2 : Int32) (a3 : Int32) (f : Nat) (I : am_I) (J : am_J) (Q : am_Q) (hG : Gr Q) (g : Nat) : ∀ (v4 : Int32), p_X5_areWithin_L a1 a2 a3 I g 0 v4 → Gd MX5_areWithin (am_o 0 0 0 (am_Fi I J Q (s_X5_areWithin_L a1 a2 a3 I g 0 v4))) 0 0 92 3 [some (.ref 29), some (.int a1), some (.int a2), some (.int a3), some (.int v4), none] [] I J Q := (gl_X5_areWithin a1 a2 a3 f I J Q hG g).1
theorem gl_X5_areWithin_34 (a1 : Int32) (a2 : Int32) (a3 : Int32) (f : Nat) (I : am_I) (J : am_J) (Q : am_Q) (hG : Gr Q) (g : Nat) : ∀ (v4 : Int32), p_X5_areWithin_L a1 a2 a3 I g 1 v4 → Gd MX5_areWithin (am_o 0 0 0 (am_Fi I J Q (s_X5_areWithin_L a1 a2 a3 I g 1 v4))) 0 0 92 34 [some (.ref 29), some (.int a1), some (.int a2), some (.int a3), some (.int v4), none] [] I J Q := (gl_X5_areWithin a1 a2 a3 f I J Q hG g).2
set_option maxRecDepth 100000 in
set_option maxHeartbeats 4000000 in
theorem gt_X5_areWithin (f : Nat) (I : am_I) (J : am_J) (Q : am_Q) (hG : Gr Q) (a1 : Int32) (a2 : Int32) (a3 : Int32) (hp : p_X5_areWithin f I a1 a2 a3) : Gd MX5_areWithin (am_o 0 0 0 (am_Fi I J Q (s_X5_areWithin f I a1 a2 a3))) 0 0 92 0 [some (.ref 29), some (.int a1), some (.int a2), some (.int a3), none, none] [] I J Q := by
  unfold s_X5_areWithin
  unfold p_X5_areWithin at hp
  refine gd_iconst (v := 0) (q := 1) rfl rfl rfl ?_
  refine gd_istore (q := 3) rfl rfl (Nat.le_of_ble_eq_true rfl) rfl ?_
  exact gl_X5_areWithin_3 a1 a2 a3 f I J Q hG f 0 hp
theorem ct_X5_areWithin (f : Nat) (I : am_I) (J : am_J) (Q : am_Q) (hG : Gr Q) (a1 : Int32) (a2 : Int32) (a3 : Int32) (hp : p_X5_areWithin f I a1 a2 a3) : Cm MX5_areWithin 0 0 0 92 [.ref 29, .int a1, .int a2, .int a3] I J Q (am_Fi I J Q (s_X5_areWithin f I a1 a2 a3)) := cm_of (by decide) rfl IX5_areWithin_ok (Nat.le_of_ble_eq_true rfl) (gt_X5_areWithin f I J Q hG a1 a2 a3 hp)
def s_X9_isEvent  (a0 : Int32) : Int32 := (if a0 < 0 then 0 else (if 10 ≤ a0 then 0 else 1))
theorem z_X9_isEvent  (a0 : Int32) : (s_X9_isEvent a0) = 0 ∨ (s_X9_isEvent a0) = 1 := by
  unfold s_X9_isEvent
  repeat' split
  all_goals first | exact Or.inl rfl | exact Or.inr rfl
set_option maxRecDepth 100000 in
set_option maxHeartbeats 4000000 in
theorem gt_X9_isEvent (f : Nat) (I : am_I) (J : am_J) (Q : am_Q) (hG : Gr Q) (a0 : Int32) : Gd MX9_isEvent (am_o 0 0 0 (am_Fi I J Q (s_X9_isEvent a0))) 0 0 92 0 [some (.int a0)] [] I J Q := by
  unfold s_X9_isEvent
  refine gd_iload_n (q := 1) rfl rfl rfl ?_
  refine gy_if_lt (q := 4) (r := 14) rfl rfl rfl (fun c_1 => ?_) (fun c_1 => ?_)
  · refine gd_iconst (v := 0) (q := 15) rfl rfl rfl ?_
    exact gd_ireturn rfl rfl rfl (Nat.le_refl 0) (Nat.le_refl 0) rfl
  · refine gd_iload_n (q := 5) rfl rfl rfl ?_
    refine gd_bipush (v := 10) (q := 7) rfl rfl rfl ?_
    refine gy_icmp_ge (q := 10) (r := 14) rfl rfl rfl (fun c_7 => ?_) (fun c_7 => ?_)
    · refine gd_iconst (v := 0) (q := 15) rfl rfl rfl ?_
      exact gd_ireturn rfl rfl rfl (Nat.le_refl 0) (Nat.le_refl 0) rfl
    · refine gd_iconst (v := 1) (q := 11) rfl rfl rfl ?_
      refine gd_goto (q := 15) rfl rfl ?_
      exact gd_ireturn rfl rfl rfl (Nat.le_refl 0) (Nat.le_refl 0) rfl
theorem ct_X9_isEvent (f : Nat) (I : am_I) (J : am_J) (Q : am_Q) (hG : Gr Q) (a0 : Int32) : Cm MX9_isEvent 0 0 0 92 [.int a0] I J Q (am_Fi I J Q (s_X9_isEvent a0)) := cm_of (by decide) rfl IX9_isEvent_ok (Nat.le_of_ble_eq_true rfl) (gt_X9_isEvent f I J Q hG a0)
def s_X5_pushTo (I : am_I) (a1 : Int32) (a2 : Int32) : Int32 × am_I := (if (s_X9_isEvent a1) = 0 then (0, I) else (if (I 36 a1.toNatClampNeg) < a2 then (1, (am_w I 36 a1.toNatClampNeg a2)) else (0, I)))
def p_X5_pushTo (I : am_I) (a1 : Int32) (a2 : Int32) : Prop := (if (s_X9_isEvent a1) = 0 then True else (vp_in a1 10 ∧ (if (I 36 a1.toNatClampNeg) < a2 then vp_in a1 10 else True)))
theorem z_X5_pushTo (I : am_I) (a1 : Int32) (a2 : Int32) : (s_X5_pushTo I a1 a2).1 = 0 ∨ (s_X5_pushTo I a1 a2).1 = 1 := by
  unfold s_X5_pushTo
  repeat' split
  all_goals first | exact Or.inl rfl | exact Or.inr rfl | exact z_X9_isEvent _
set_option maxRecDepth 100000 in
set_option maxHeartbeats 4000000 in
theorem gt_X5_pushTo (f : Nat) (I : am_I) (J : am_J) (Q : am_Q) (hG : Gr Q) (a1 : Int32) (a2 : Int32) (hp : p_X5_pushTo I a1 a2) : Gd MX5_pushTo (am_o 1 0 0 (am_FiI J Q (s_X5_pushTo I a1 a2))) 0 0 92 0 [some (.ref 29), some (.int a1), some (.int a2)] [] I J Q := by
  unfold s_X5_pushTo
  unfold p_X5_pushTo at hp
  refine gd_iload_n (q := 1) rfl rfl rfl ?_
  refine gd_cSi (q := 4) rfl rfl lk5_41 myX9_isEvent sxX9_isEvent (ct_X9_isEvent f I J Q hG a1) rfl rfl (Nat.le_of_ble_eq_true rfl) ⟨(Nat.le_of_ble_eq_true rfl), (Nat.le_of_ble_eq_true rfl)⟩ ?_
  refine gx_if_eq (q := 7) (r := 17) rfl rfl rfl hp (fun c_4 hp => ?_) (fun c_4 hp => ?_)
  · refine gd_iconst (v := 0) (q := 18) rfl rfl rfl ?_
    exact gd_ireturn rfl rfl rfl (Nat.le_refl 0) (Nat.le_refl 0) rfl
  · refine gd_aload_n (q := 8) rfl rfl rfl ?_
    refine gd_getR (q := 11) (r := 36) rfl rfl rfl (Nat.le_of_ble_eq_true rfl) rfl rfl (gr_29_6 hG) ?_
    refine gd_iload_n (q := 12) rfl rfl rfl ?_
    refine gd_iald (q := 13) rfl rfl (Nat.le_of_ble_eq_true rfl) rfl hp.1 ?_
    replace hp := hp.2
    refine gd_iload_n (q := 14) rfl rfl rfl ?_
    refine gx_icmp_lt (q := 17) (r := 19) rfl rfl rfl hp (fun c_14 hp => ?_) (fun c_14 hp => ?_)
    · refine gd_aload_n (q := 20) rfl rfl rfl ?_
      refine gd_getR (q := 23) (r := 36) rfl rfl rfl (Nat.le_of_ble_eq_true rfl) rfl rfl (gr_29_6 hG) ?_
      refine gd_iload_n (q := 24) rfl rfl rfl ?_
      refine gd_iload_n (q := 25) rfl rfl rfl ?_
      refine gd_iast (q := 26) rfl rfl (Nat.le_of_ble_eq_true rfl) rfl hp ?_
      refine gd_iconst (v := 1) (q := 27) rfl rfl rfl ?_
      exact gd_ireturn rfl rfl rfl (Nat.le_refl 0) (Nat.le_refl 0) rfl
    · refine gd_iconst (v := 0) (q := 18) rfl rfl rfl ?_
      exact gd_ireturn rfl rfl rfl (Nat.le_refl 0) (Nat.le_refl 0) rfl
theorem ct_X5_pushTo (f : Nat) (I : am_I) (J : am_J) (Q : am_Q) (hG : Gr Q) (a1 : Int32) (a2 : Int32) (hp : p_X5_pushTo I a1 a2) : Cm MX5_pushTo 1 0 0 92 [.ref 29, .int a1, .int a2] I J Q (am_FiI J Q (s_X5_pushTo I a1 a2)) := cm_of (by decide) rfl IX5_pushTo_ok (Nat.le_of_ble_eq_true rfl) (gt_X5_pushTo f I J Q hG a1 a2 hp)
def s_X5_pushDays (I : am_I) (a1 : Int32) (a2 : Int32) : Int32 × am_I := (if (I 30 a1.toNatClampNeg) = 0 then (if a2 = 0 then (((s_X5_pushTo I (I 31 a1.toNatClampNeg) (I 33 a1.toNatClampNeg)).1), ((s_X5_pushTo I (I 31 a1.toNatClampNeg) (I 33 a1.toNatClampNeg)).2)) else (((s_X5_pushTo I (I 31 a1.toNatClampNeg) (9999 - (I 34 a1.toNatClampNeg))).1), ((s_X5_pushTo I (I 31 a1.toNatClampNeg) (9999 - (I 34 a1.toNatClampNeg))).2))) else (if (I 30 a1.toNatClampNeg) = 1 then (if a2 = 0 then (((s_X5_pushTo I (I 31 a1.toNatClampNeg) ((I 36 (I 32 a1.toNatClampNeg).toNatClampNeg) + (I 33 a1.toNatClampNeg))).1), ((s_X5_pushTo I (I 31 a1.toNatClampNeg) ((I 36 (I 32 a1.toNatClampNeg).toNatClampNeg) + (I 33 a1.toNatClampNeg))).2)) else (((s_X5_pushTo I (I 32 a1.toNatClampNeg) ((I 36 (I 31 a1.toNatClampNeg).toNatClampNeg) + (I 33 a1.toNatClampNeg))).1), ((s_X5_pushTo I (I 32 a1.toNatClampNeg) ((I 36 (I 31 a1.toNatClampNeg).toNatClampNeg) + (I 33 a1.toNatClampNeg))).2))) else (if ((s_X5_pushTo I (I 31 a1.toNatClampNeg) (I 36 (I 32 a1.toNatClampNeg).toNatClampNeg)).1) = 0 then (if ((s_X5_pushTo ((s_X5_pushTo I (I 31 a1.toNatClampNeg) (I 36 (I 32 a1.toNatClampNeg).toNatClampNeg)).2) (I 32 a1.toNatClampNeg) (((s_X5_pushTo I (I 31 a1.toNatClampNeg) (I 36 (I 32 a1.toNatClampNeg).toNatClampNeg)).2) 36 (I 31 a1.toNatClampNeg).toNatClampNeg)).1) = 0 then (0, ((s_X5_pushTo ((s_X5_pushTo I (I 31 a1.toNatClampNeg) (I 36 (I 32 a1.toNatClampNeg).toNatClampNeg)).2) (I 32 a1.toNatClampNeg) (((s_X5_pushTo I (I 31 a1.toNatClampNeg) (I 36 (I 32 a1.toNatClampNeg).toNatClampNeg)).2) 36 (I 31 a1.toNatClampNeg).toNatClampNeg)).2)) else (1, ((s_X5_pushTo ((s_X5_pushTo I (I 31 a1.toNatClampNeg) (I 36 (I 32 a1.toNatClampNeg).toNatClampNeg)).2) (I 32 a1.toNatClampNeg) (((s_X5_pushTo I (I 31 a1.toNatClampNeg) (I 36 (I 32 a1.toNatClampNeg).toNatClampNeg)).2) 36 (I 31 a1.toNatClampNeg).toNatClampNeg)).2))) else (1, ((s_X5_pushTo ((s_X5_pushTo I (I 31 a1.toNatClampNeg) (I 36 (I 32 a1.toNatClampNeg).toNatClampNeg)).2) (I 32 a1.toNatClampNeg) (((s_X5_pushTo I (I 31 a1.toNatClampNeg) (I 36 (I 32 a1.toNatClampNeg).toNatClampNeg)).2) 36 (I 31 a1.toNatClampNeg).toNatClampNeg)).2)))))
def p_X5_pushDays (I : am_I) (a1 : Int32) (a2 : Int32) : Prop := (vp_in a1 12 ∧ (vp_in a1 12 ∧ (vp_in a1 12 ∧ (if (I 30 a1.toNatClampNeg) = 0 then (if a2 = 0 then (vp_in a1 12 ∧ (p_X5_pushTo I (I 31 a1.toNatClampNeg) (I 33 a1.toNatClampNeg))) else (vp_in a1 12 ∧ (p_X5_pushTo I (I 31 a1.toNatClampNeg) (9999 - (I 34 a1.toNatClampNeg))))) else (if (I 30 a1.toNatClampNeg) = 1 then (if a2 = 0 then (vp_in (I 32 a1.toNatClampNeg) 10 ∧ (vp_in a1 12 ∧ (p_X5_pushTo I (I 31 a1.toNatClampNeg) ((I 36 (I 32 a1.toNatClampNeg).toNatClampNeg) + (I 33 a1.toNatClampNeg))))) else (vp_in (I 31 a1.toNatClampNeg) 10 ∧ (vp_in a1 12 ∧ (p_X5_pushTo I (I 32 a1.toNatClampNeg) ((I 36 (I 31 a1.toNatClampNeg).toNatClampNeg) + (I 33 a1.toNatClampNeg)))))) else (vp_in (I 32 a1.toNatClampNeg) 10 ∧ ((p_X5_pushTo I (I 31 a1.toNatClampNeg) (I 36 (I 32 a1.toNatClampNeg).toNatClampNeg)) ∧ (vp_in (I 31 a1.toNatClampNeg) 10 ∧ (p_X5_pushTo ((s_X5_pushTo I (I 31 a1.toNatClampNeg) (I 36 (I 32 a1.toNatClampNeg).toNatClampNeg)).2) (I 32 a1.toNatClampNeg) (((s_X5_pushTo I (I 31 a1.toNatClampNeg) (I 36 (I 32 a1.toNatClampNeg).toNatClampNeg)).2) 36 (I 31 a1.toNatClampNeg).toNatClampNeg))))))))))
theorem z_X5_pushDays (I : am_I) (a1 : Int32) (a2 : Int32) : (s_X5_pushDays I a1 a2).1 = 0 ∨ (s_X5_pushDays I a1 a2).1 = 1 := by
  unfold s_X5_pushDays
  repeat' split
  all_goals first | exact Or.inl rfl | exact Or.inr rfl | exact z_X5_pushTo _ _ _
set_option maxRecDepth 100000 in
set_option maxHeartbeats 4000000 in
theorem gt_X5_pushDays (f : Nat) (I : am_I) (J : am_J) (Q : am_Q) (hG : Gr Q) (a1 : Int32) (a2 : Int32) (hp : p_X5_pushDays I a1 a2) : Gd MX5_pushDays (am_o 2 0 0 (am_FiI J Q (s_X5_pushDays I a1 a2))) 0 0 92 0 [some (.ref 29), some (.int a1), some (.int a2), none, none, none, none] [] I J Q := by
  unfold s_X5_pushDays
  unfold p_X5_pushDays at hp
  refine gd_aload_n (q := 1) rfl rfl rfl ?_
  refine gd_getR (q := 4) (r := 31) rfl rfl rfl (Nat.le_of_ble_eq_true rfl) rfl rfl (gr_29_1 hG) ?_
  refine gd_iload_n (q := 5) rfl rfl rfl ?_
  refine gd_iald (q := 6) rfl rfl (Nat.le_of_ble_eq_true rfl) rfl hp.1 ?_
  replace hp := hp.2
  refine gd_istore_n (q := 7) rfl rfl (Nat.le_of_ble_eq_true rfl) rfl ?_
  refine gd_aload_n (q := 8) rfl rfl rfl ?_
  refine gd_getR (q := 11) (r := 32) rfl rfl rfl (Nat.le_of_ble_eq_true rfl) rfl rfl (gr_29_2 hG) ?_
  refine gd_iload_n (q := 12) rfl rfl rfl ?_
  refine gd_iald (q := 13) rfl rfl (Nat.le_of_ble_eq_true rfl) rfl hp.1 ?_
  replace hp := hp.2
  refine gd_istore (q := 15) rfl rfl (Nat.le_of_ble_eq_true rfl) rfl ?_
  refine gd_aload_n (q := 16) rfl rfl rfl ?_
  refine gd_getR (q := 19) (r := 30) rfl rfl rfl (Nat.le_of_ble_eq_true rfl) rfl rfl (gr_29_0 hG) ?_
  refine gd_iload_n (q := 20) rfl rfl rfl ?_
  refine gd_iald (q := 21) rfl rfl (Nat.le_of_ble_eq_true rfl) rfl hp.1 ?_
  replace hp := hp.2
  refine gx_ite hp (fun c_21_0 hp => ?_) (fun c_21_0 hp => ?_)
  · refine gd_lookup (q := 48) rfl (by decide) (by first | (rw [c_21_0]; done) | (rw [c_21_0]; rfl)) rfl ?_
    refine gd_aload_n (q := 49) rfl rfl rfl ?_
    refine gd_iload_n (q := 50) rfl rfl rfl ?_
    refine gd_iload_n (q := 51) rfl rfl rfl ?_
    refine gx_if_eq (q := 54) (r := 67) rfl rfl rfl hp (fun c_51 hp => ?_) (fun c_51 hp => ?_)
    · refine gd_aload_n (q := 68) rfl rfl rfl ?_
      refine gd_getR (q := 71) (r := 33) rfl rfl rfl (Nat.le_of_ble_eq_true rfl) rfl rfl (gr_29_3 hG) ?_
      refine gd_iload_n (q := 72) rfl rfl rfl ?_
      refine gd_iald (q := 73) rfl rfl (Nat.le_of_ble_eq_true rfl) rfl hp.1 ?_
      replace hp := hp.2
      refine gd_cVi (q := 76) rfl rfl lk5_68 myX5_pushTo vxX5_pushTo (ct_X5_pushTo f I J Q hG (I 31 a1.toNatClampNeg) (I 33 a1.toNatClampNeg) hp) rfl (Nat.le_of_ble_eq_true rfl) rfl rfl (Nat.le_of_ble_eq_true rfl) rfl (Nat.le_of_ble_eq_true rfl) ⟨(Nat.le_of_ble_eq_true rfl), (Nat.le_of_ble_eq_true rfl)⟩ ?_
      exact gd_ireturn rfl rfl (am_zn (z_X5_pushTo I (I 31 a1.toNatClampNeg) (I 33 a1.toNatClampNeg))) (Nat.le_refl 0) (Nat.le_refl 0) rfl
    · refine gd_sipush (v := 9999) (q := 57) rfl rfl rfl ?_
      refine gd_aload_n (q := 58) rfl rfl rfl ?_
      refine gd_getR (q := 61) (r := 34) rfl rfl rfl (Nat.le_of_ble_eq_true rfl) rfl rfl (gr_29_4 hG) ?_
      refine gd_iload_n (q := 62) rfl rfl rfl ?_
      refine gd_iald (q := 63) rfl rfl (Nat.le_of_ble_eq_true rfl) rfl hp.1 ?_
      replace hp := hp.2
      refine gd_isub (q := 64) rfl rfl ?_
      refine gd_goto (q := 73) rfl rfl ?_
      refine gd_cVi (q := 76) rfl rfl lk5_68 myX5_pushTo vxX5_pushTo (ct_X5_pushTo f I J Q hG (I 31 a1.toNatClampNeg) (9999 - (I 34 a1.toNatClampNeg)) hp) rfl (Nat.le_of_ble_eq_true rfl) rfl rfl (Nat.le_of_ble_eq_true rfl) rfl (Nat.le_of_ble_eq_true rfl) ⟨(Nat.le_of_ble_eq_true rfl), (Nat.le_of_ble_eq_true rfl)⟩ ?_
      exact gd_ireturn rfl rfl (am_zn (z_X5_pushTo I (I 31 a1.toNatClampNeg) (9999 - (I 34 a1.toNatClampNeg)))) (Nat.le_refl 0) (Nat.le_refl 0) rfl
  · refine gx_ite hp (fun c_21_1 hp => ?_) (fun c_21_1 hp => ?_)
    · refine gd_lookup (q := 77) rfl (by decide) (by first | (rw [c_21_1]; done) | (rw [c_21_1]; rfl)) rfl ?_
      refine gd_iload_n (q := 78) rfl rfl rfl ?_
      refine gx_if_eq (q := 81) (r := 103) rfl rfl rfl hp (fun c_78 hp => ?_) (fun c_78 hp => ?_)
      · refine gd_aload_n (q := 104) rfl rfl rfl ?_
        refine gd_iload_n (q := 105) rfl rfl rfl ?_
        refine gd_aload_n (q := 106) rfl rfl rfl ?_
        refine gd_getR (q := 109) (r := 36) rfl rfl rfl (Nat.le_of_ble_eq_true rfl) rfl rfl (gr_29_6 hG) ?_
        refine gd_iload (q := 111) rfl rfl rfl ?_
        refine gd_iald (q := 112) rfl rfl (Nat.le_of_ble_eq_true rfl) rfl hp.1 ?_
        replace hp := hp.2
        refine gd_aload_n (q := 113) rfl rfl rfl ?_
        refine gd_getR (q := 116) (r := 33) rfl rfl rfl (Nat.le_of_ble_eq_true rfl) rfl rfl (gr_29_3 hG) ?_
        refine gd_iload_n (q := 117) rfl rfl rfl ?_
        refine gd_iald (q := 118) rfl rfl (Nat.le_of_ble_eq_true rfl) rfl hp.1 ?_
        replace hp := hp.2
        refine gd_iadd (q := 119) rfl rfl ?_
        refine gd_cVi (q := 122) rfl rfl lk5_68 myX5_pushTo vxX5_pushTo (ct_X5_pushTo f I J Q hG (I 31 a1.toNatClampNeg) ((I 36 (I 32 a1.toNatClampNeg).toNatClampNeg) + (I 33 a1.toNatClampNeg)) hp) rfl (Nat.le_of_ble_eq_true rfl) rfl rfl (Nat.le_of_ble_eq_true rfl) rfl (Nat.le_of_ble_eq_true rfl) ⟨(Nat.le_of_ble_eq_true rfl), (Nat.le_of_ble_eq_true rfl)⟩ ?_
        exact gd_ireturn rfl rfl (am_zn (z_X5_pushTo I (I 31 a1.toNatClampNeg) ((I 36 (I 32 a1.toNatClampNeg).toNatClampNeg) + (I 33 a1.toNatClampNeg)))) (Nat.le_refl 0) (Nat.le_refl 0) rfl
      · refine gd_aload_n (q := 82) rfl rfl rfl ?_
        refine gd_iload (q := 84) rfl rfl rfl ?_
        refine gd_aload_n (q := 85) rfl rfl rfl ?_
        refine gd_getR (q := 88) (r := 36) rfl rfl rfl (Nat.le_of_ble_eq_true rfl) rfl rfl (gr_29_6 hG) ?_
        refine gd_iload_n (q := 89) rfl rfl rfl ?_
        refine gd_iald (q := 90) rfl rfl (Nat.le_of_ble_eq_true rfl) rfl hp.1 ?_
        replace hp := hp.2
        refine gd_aload_n (q := 91) rfl rfl rfl ?_
        refine gd_getR (q := 94) (r := 33) rfl rfl rfl (Nat.le_of_ble_eq_true rfl) rfl rfl (gr_29_3 hG) ?_
        refine gd_iload_n (q := 95) rfl rfl rfl ?_
        refine gd_iald (q := 96) rfl rfl (Nat.le_of_ble_eq_true rfl) rfl hp.1 ?_
        replace hp := hp.2
        refine gd_iadd (q := 97) rfl rfl ?_
        refine gd_cVi (q := 100) rfl rfl lk5_68 myX5_pushTo vxX5_pushTo (ct_X5_pushTo f I J Q hG (I 32 a1.toNatClampNeg) ((I 36 (I 31 a1.toNatClampNeg).toNatClampNeg) + (I 33 a1.toNatClampNeg)) hp) rfl (Nat.le_of_ble_eq_true rfl) rfl rfl (Nat.le_of_ble_eq_true rfl) rfl (Nat.le_of_ble_eq_true rfl) ⟨(Nat.le_of_ble_eq_true rfl), (Nat.le_of_ble_eq_true rfl)⟩ ?_
        refine gd_goto (q := 122) rfl rfl ?_
        exact gd_ireturn rfl rfl (am_zn (z_X5_pushTo I (I 32 a1.toNatClampNeg) ((I 36 (I 31 a1.toNatClampNeg).toNatClampNeg) + (I 33 a1.toNatClampNeg)))) (Nat.le_refl 0) (Nat.le_refl 0) rfl
    · refine gd_lookup (off := 102) (q := 123) rfl (by decide) (by show Op.lookupswitch.offset [(0, 27), (1, 56)] 102 _ = _; rw [lv_osw c_21_0 rfl]; rw [lv_osw c_21_1 rfl]; first | done | rfl) rfl ?_
      refine gd_aload_n (q := 124) rfl rfl rfl ?_
      refine gd_iload_n (q := 125) rfl rfl rfl ?_
      refine gd_aload_n (q := 126) rfl rfl rfl ?_
      refine gd_getR (q := 129) (r := 36) rfl rfl rfl (Nat.le_of_ble_eq_true rfl) rfl rfl (gr_29_6 hG) ?_
      refine gd_iload (q := 131) rfl rfl rfl ?_
      refine gd_iald (q := 132) rfl rfl (Nat.le_of_ble_eq_true rfl) rfl hp.1 ?_
      replace hp := hp.2
      refine gd_cVi (q := 135) rfl rfl lk5_68 myX5_pushTo vxX5_pushTo (ct_X5_pushTo f I J Q hG (I 31 a1.toNatClampNeg) (I 36 (I 32 a1.toNatClampNeg).toNatClampNeg) hp.1) rfl (Nat.le_of_ble_eq_true rfl) rfl rfl (Nat.le_of_ble_eq_true rfl) rfl (Nat.le_of_ble_eq_true rfl) ⟨(Nat.le_of_ble_eq_true rfl), (Nat.le_of_ble_eq_true rfl)⟩ ?_
      replace hp := hp.2
      refine gd_istore (q := 137) rfl rfl (Nat.le_of_ble_eq_true rfl) rfl ?_
      refine gd_aload_n (q := 138) rfl rfl rfl ?_
      refine gd_iload (q := 140) rfl rfl rfl ?_
      refine gd_aload_n (q := 141) rfl rfl rfl ?_
      refine gd_getR (q := 144) (r := 36) rfl rfl rfl (Nat.le_of_ble_eq_true rfl) rfl rfl (gr_29_6 hG) ?_
      refine gd_iload_n (q := 145) rfl rfl rfl ?_
      refine gd_iald (q := 146) rfl rfl (Nat.le_of_ble_eq_true rfl) rfl hp.1 ?_
      replace hp := hp.2
      refine gd_cVi (q := 149) rfl rfl lk5_68 myX5_pushTo vxX5_pushTo (ct_X5_pushTo f ((s_X5_pushTo I (I 31 a1.toNatClampNeg) (I 36 (I 32 a1.toNatClampNeg).toNatClampNeg)).2) J Q hG (I 32 a1.toNatClampNeg) (((s_X5_pushTo I (I 31 a1.toNatClampNeg) (I 36 (I 32 a1.toNatClampNeg).toNatClampNeg)).2) 36 (I 31 a1.toNatClampNeg).toNatClampNeg) hp) rfl (Nat.le_of_ble_eq_true rfl) rfl rfl (Nat.le_of_ble_eq_true rfl) rfl (Nat.le_of_ble_eq_true rfl) ⟨(Nat.le_of_ble_eq_true rfl), (Nat.le_of_ble_eq_true rfl)⟩ ?_
      refine gd_istore (q := 151) rfl rfl (Nat.le_of_ble_eq_true rfl) rfl ?_
      refine gd_iload (q := 153) rfl rfl rfl ?_
      refine gy_if_ne (q := 156) (r := 161) rfl rfl rfl (fun c_153 => ?_) (fun c_153 => ?_)
      · refine gd_iload (q := 158) rfl rfl rfl ?_
        refine gy_if_eq (q := 161) (r := 165) rfl rfl rfl (fun c_158 => ?_) (fun c_158 => ?_)
        · refine gd_iconst (v := 0) (q := 166) rfl rfl rfl ?_
          exact gd_ireturn rfl rfl rfl (Nat.le_refl 0) (Nat.le_refl 0) rfl
        · refine gd_iconst (v := 1) (q := 162) rfl rfl rfl ?_
          refine gd_goto (q := 166) rfl rfl ?_
          exact gd_ireturn rfl rfl rfl (Nat.le_refl 0) (Nat.le_refl 0) rfl
      · refine gd_iconst (v := 1) (q := 162) rfl rfl rfl ?_
        refine gd_goto (q := 166) rfl rfl ?_
        exact gd_ireturn rfl rfl rfl (Nat.le_refl 0) (Nat.le_refl 0) rfl
theorem ct_X5_pushDays (f : Nat) (I : am_I) (J : am_J) (Q : am_Q) (hG : Gr Q) (a1 : Int32) (a2 : Int32) (hp : p_X5_pushDays I a1 a2) : Cm MX5_pushDays 2 0 0 92 [.ref 29, .int a1, .int a2] I J Q (am_FiI J Q (s_X5_pushDays I a1 a2)) := cm_of (by decide) rfl IX5_pushDays_ok (Nat.le_of_ble_eq_true rfl) (gt_X5_pushDays f I J Q hG a1 a2 hp)
def s_X5_settle_L (a1 : Int32) (a2 : Int32) (a3 : Int32) (f : Nat) : Nat → Nat → Int32 → Int32 → Int32 → am_I → Int32 × am_I
  | 0, _, _, _, _, I => (0, I)
  | g + 1, 0, v4, v5, v6, I => (if 10 < v4 then (0, I) else (s_X5_settle_L a1 a2 a3 f g 1 v4 0 0 I))
  | g + 1, 1, v4, v5, v6, I => (if a1 ≤ v6 then (if v5 = 0 then ((s_X5_areWithin f I a1 a2 a3), I) else (s_X5_settle_L a1 a2 a3 f g 0 (v4 + 1) 0 0 I)) else (if ((a2 >>> (v6 &&& 31)) &&& 1) = 0 then (if ((s_X5_pushDays I v6 a3).1) = 0 then (s_X5_settle_L a1 a2 a3 f g 1 v4 v5 (v6 + 1) ((s_X5_pushDays I v6 a3).2)) else (s_X5_settle_L a1 a2 a3 f g 1 v4 1 (v6 + 1) ((s_X5_pushDays I v6 a3).2))) else (s_X5_settle_L a1 a2 a3 f g 1 v4 v5 (v6 + 1) I)))
  | _ + 1, _ + 2, _, _, _, I => (0, I)
def p_X5_settle_L (a1 : Int32) (a2 : Int32) (a3 : Int32) (f : Nat) : Nat → Nat → Int32 → Int32 → Int32 → am_I → Prop
  | 0, _, _, _, _, _ => False
  | g + 1, 0, v4, v5, v6, I => (if 10 < v4 then True else (p_X5_settle_L a1 a2 a3 f g 1 v4 0 0 I))
  | g + 1, 1, v4, v5, v6, I => (if a1 ≤ v6 then (if v5 = 0 then ((p_X5_areWithin f I a1 a2 a3) ∧ ((s_X5_areWithin f I a1 a2 a3) = 0 ∨ (s_X5_areWithin f I a1 a2 a3) = 1)) else (p_X5_settle_L a1 a2 a3 f g 0 (v4 + 1) 0 0 I)) else (if ((a2 >>> (v6 &&& 31)) &&& 1) = 0 then ((p_X5_pushDays I v6 a3) ∧ (if ((s_X5_pushDays I v6 a3).1) = 0 then (p_X5_settle_L a1 a2 a3 f g 1 v4 v5 (v6 + 1) ((s_X5_pushDays I v6 a3).2)) else (p_X5_settle_L a1 a2 a3 f g 1 v4 1 (v6 + 1) ((s_X5_pushDays I v6 a3).2)))) else (p_X5_settle_L a1 a2 a3 f g 1 v4 v5 (v6 + 1) I)))
  | _ + 1, _ + 2, _, _, _, _ => False
def s_X5_settle (f : Nat) (I : am_I) (a1 : Int32) (a2 : Int32) (a3 : Int32) : Int32 × am_I := (s_X5_settle_L a1 a2 a3 f f 0 0 0 0 (s_J7_fill_53178_36 f I 0))
def p_X5_settle (f : Nat) (I : am_I) (a1 : Int32) (a2 : Int32) (a3 : Int32) : Prop := ((p_J7_fill_53178_36 f I 0) ∧ (p_X5_settle_L a1 a2 a3 f f 0 0 0 0 (s_J7_fill_53178_36 f I 0)))
set_option maxRecDepth 100000 in
set_option maxHeartbeats 4000000 in
theorem gl_X5_settle (a1 : Int32) (a2 : Int32) (a3 : Int32) (f : Nat) (J : am_J) (Q : am_Q) (hG : Gr Q) : ∀ g : Nat, (∀ (v4 : Int32) (v5 : Int32) (v6 : Int32) (I : am_I), p_X5_settle_L a1 a2 a3 f g 0 v4 0 0 I → Gd MX5_settle (am_o 3 0 0 (am_FiI J Q (s_X5_settle_L a1 a2 a3 f g 0 v4 0 0 I))) 0 0 92 11 [some (.ref 29), some (.int a1), some (.int a2), some (.int a3), some (.int v4), none, none] [] I J Q) ∧ (∀ (v4 : Int32) (v5 : Int32) (v6 : Int32) (I : am_I), p_X5_settle_L a1 a2 a3 f g 1 v4 v5 v6 I → Gd MX5_settle (am_o 3 0 0 (am_FiI J Q (s_X5_settle_L a1 a2 a3 f g 1 v4 v5 v6 I))) 0 0 92 24 [some (.ref 29), some (.int a1), some (.int a2), some (.int a3), some (.int v4), some (.int v5), some (.int v6)] [] I J Q) := by
  intro g
  induction g with
  | zero => exact ⟨fun _ _ _ _ hp => False.elim hp, fun _ _ _ _ hp => False.elim hp⟩
  | succ g ih =>
    have ih_11 := ih.1
    have ih_24 := ih.2
    refine ⟨?_, ?_⟩
    · intro v4 v5 v6 I hp
      rw [s_X5_settle_L]
      rw [p_X5_settle_L] at hp
      refine gd_iload (q := 13) rfl rfl rfl ?_
      refine gd_bipush (v := 10) (q := 15) rfl rfl rfl ?_
      refine gx_icmp_gt (q := 18) (r := 77) rfl rfl rfl hp (fun c_15 hp => ?_) (fun c_15 hp => ?_)
      · refine gd_iconst (v := 0) (q := 78) rfl rfl rfl ?_
        exact gd_ireturn rfl rfl rfl (Nat.le_refl 0) (Nat.le_refl 0) rfl
      · refine gd_iconst (v := 0) (q := 19) rfl rfl rfl ?_
        refine gd_istore (q := 21) rfl rfl (Nat.le_of_ble_eq_true rfl) rfl ?_
        refine gd_iconst (v := 0) (q := 22) rfl rfl rfl ?_
        refine gd_istore (q := 24) rfl rfl (Nat.le_of_ble_eq_true rfl) rfl ?_
        exact ih_24 v4 0 0 I hp
    · intro v4 v5 v6 I hp
      rw [s_X5_settle_L]
      rw [p_X5_settle_L] at hp
      refine gd_iload (q := 26) rfl rfl rfl ?_
      refine gd_iload_n (q := 27) rfl rfl rfl ?_
      refine gx_icmp_ge (q := 30) (r := 58) rfl rfl rfl hp (fun c_27 hp => ?_) (fun c_27 hp => ?_)
      · refine gd_iload (q := 60) rfl rfl rfl ?_
        refine gx_if_ne (q := 63) (r := 71) rfl rfl rfl hp (fun c_60 hp => ?_) (fun c_60 hp => ?_)
        · refine gd_aload_n (q := 64) rfl rfl rfl ?_
          refine gd_iload_n (q := 65) rfl rfl rfl ?_
          refine gd_iload_n (q := 66) rfl rfl rfl ?_
          refine gd_iload_n (q := 67) rfl rfl rfl ?_
          refine gd_cVi (q := 70) rfl rfl lk5_65 myX5_areWithin vxX5_areWithin (ct_X5_areWithin f I J Q hG a1 a2 a3 hp.1) rfl (Nat.le_of_ble_eq_true rfl) rfl rfl (Nat.le_of_ble_eq_true rfl) rfl (Nat.le_of_ble_eq_true rfl) ⟨(Nat.le_of_ble_eq_true rfl), (Nat.le_of_ble_eq_true rfl)⟩ ?_
          replace hp := hp.2
          exact gd_ireturn rfl rfl (am_zn hp) (Nat.le_refl 0) (Nat.le_refl 0) rfl
        · refine gd_iinc (v := (v4 + 1)) (q := 74) rfl rfl rfl rfl (Nat.le_of_ble_eq_true rfl) rfl ?_
          refine gd_goto (q := 11) rfl rfl ?_
          refine gd_drop 5 ?_
          refine gd_drop 6 ?_
          exact ih_11 (v4 + 1) 0 0 I hp
      · refine gd_iload_n (q := 31) rfl rfl rfl ?_
        refine gd_iload (q := 33) rfl rfl rfl ?_
        refine gd_ishr (q := 34) rfl rfl ?_
        refine gd_iconst (v := 1) (q := 35) rfl rfl rfl ?_
        refine gd_iand (q := 36) rfl rfl ?_
        refine gx_if_ne (q := 39) (r := 52) rfl rfl rfl hp (fun c_36 hp => ?_) (fun c_36 hp => ?_)
        · refine gd_aload_n (q := 40) rfl rfl rfl ?_
          refine gd_iload (q := 42) rfl rfl rfl ?_
          refine gd_iload_n (q := 43) rfl rfl rfl ?_
          refine gd_cVi (q := 46) rfl rfl lk5_61 myX5_pushDays vxX5_pushDays (ct_X5_pushDays f I J Q hG v6 a3 hp.1) rfl (Nat.le_of_ble_eq_true rfl) rfl rfl (Nat.le_of_ble_eq_true rfl) rfl (Nat.le_of_ble_eq_true rfl) ⟨(Nat.le_of_ble_eq_true rfl), (Nat.le_of_ble_eq_true rfl)⟩ ?_
          replace hp := hp.2
          refine gx_if_eq (q := 49) (r := 52) rfl rfl rfl hp (fun c_46 hp => ?_) (fun c_46 hp => ?_)
          · refine gd_iinc (v := (v6 + 1)) (q := 55) rfl rfl rfl rfl (Nat.le_of_ble_eq_true rfl) rfl ?_
            refine gd_goto (q := 24) rfl rfl ?_
            exact ih_24 v4 v5 (v6 + 1) ((s_X5_pushDays I v6 a3).2) hp
          · refine gd_iconst (v := 1) (q := 50) rfl rfl rfl ?_
            refine gd_istore (q := 52) rfl rfl (Nat.le_of_ble_eq_true rfl) rfl ?_
            refine gd_iinc (v := (v6 + 1)) (q := 55) rfl rfl rfl rfl (Nat.le_of_ble_eq_true rfl) rfl ?_
            refine gd_goto (q := 24) rfl rfl ?_
            exact ih_24 v4 1 (v6 + 1) ((s_X5_pushDays I v6 a3).2) hp
        · refine gd_iinc (v := (v6 + 1)) (q := 55) rfl rfl rfl rfl (Nat.le_of_ble_eq_true rfl) rfl ?_
          refine gd_goto (q := 24) rfl rfl ?_
          exact ih_24 v4 v5 (v6 + 1) I hp
theorem gl_X5_settle_11 (a1 : Int32) (a2 : Int32) (a3 : Int32) (f : Nat) (J : am_J) (Q : am_Q) (hG : Gr Q) (g : Nat) : ∀ (v4 : Int32) (v5 : Int32) (v6 : Int32) (I : am_I), p_X5_settle_L a1 a2 a3 f g 0 v4 0 0 I → Gd MX5_settle (am_o 3 0 0 (am_FiI J Q (s_X5_settle_L a1 a2 a3 f g 0 v4 0 0 I))) 0 0 92 11 [some (.ref 29), some (.int a1), some (.int a2), some (.int a3), some (.int v4), none, none] [] I J Q := (gl_X5_settle a1 a2 a3 f J Q hG g).1
theorem gl_X5_settle_24 (a1 : Int32) (a2 : Int32) (a3 : Int32) (f : Nat) (J : am_J) (Q : am_Q) (hG : Gr Q) (g : Nat) : ∀ (v4 : Int32) (v5 : Int32) (v6 : Int32) (I : am_I), p_X5_settle_L a1 a2 a3 f g 1 v4 v5 v6 I → Gd MX5_settle (am_o 3 0 0 (am_FiI J Q (s_X5_settle_L a1 a2 a3 f g 1 v4 v5 v6 I))) 0 0 92 24 [some (.ref 29), some (.int a1), some (.int a2), some (.int a3), some (.int v4), some (.int v5), some (.int v6)] [] I J Q := (gl_X5_settle a1 a2 a3 f J Q hG g).2
set_option maxRecDepth 100000 in
set_option maxHeartbeats 4000000 in
theorem gt_X5_settle (f : Nat) (I : am_I) (J : am_J) (Q : am_Q) (hG : Gr Q) (a1 : Int32) (a2 : Int32) (a3 : Int32) (hp : p_X5_settle f I a1 a2 a3) : Gd MX5_settle (am_o 3 0 0 (am_FiI J Q (s_X5_settle f I a1 a2 a3))) 0 0 92 0 [some (.ref 29), some (.int a1), some (.int a2), some (.int a3), none, none, none] [] I J Q := by
  unfold s_X5_settle
  unfold p_X5_settle at hp
  refine gd_aload_n (q := 1) rfl rfl rfl ?_
  refine gd_getR (q := 4) (r := 36) rfl rfl rfl (Nat.le_of_ble_eq_true rfl) rfl rfl (gr_29_6 hG) ?_
  refine gd_iconst (v := 0) (q := 5) rfl rfl rfl ?_
  refine gd_cSv (q := 8) rfl rfl lk5_55 myJ7_fill_53178 sxJ7_fill_53178 (ct_J7_fill_53178_36 f I J Q hG 0 hp.1) rfl rfl (Nat.le_of_ble_eq_true rfl) ⟨(Nat.le_of_ble_eq_true rfl), (Nat.le_of_ble_eq_true rfl)⟩ ?_
  replace hp := hp.2
  refine gd_iconst (v := 0) (q := 9) rfl rfl rfl ?_
  refine gd_istore (q := 11) rfl rfl (Nat.le_of_ble_eq_true rfl) rfl ?_
  exact gl_X5_settle_11 a1 a2 a3 f J Q hG f 0 0 0 (s_J7_fill_53178_36 f I 0) hp
theorem ct_X5_settle (f : Nat) (I : am_I) (J : am_J) (Q : am_Q) (hG : Gr Q) (a1 : Int32) (a2 : Int32) (a3 : Int32) (hp : p_X5_settle f I a1 a2 a3) : Cm MX5_settle 3 0 0 92 [.ref 29, .int a1, .int a2, .int a3] I J Q (am_FiI J Q (s_X5_settle f I a1 a2 a3)) := cm_of (by decide) rfl IX5_settle_ok (Nat.le_of_ble_eq_true rfl) (gt_X5_settle f I J Q hG a1 a2 a3 hp)
end

section
/-- a private method of a class that the tables say can be made, by its rows of tables_1 -/
def lw_okq (q : MethodName × Nat) : Prop := (q.1.cls ≠ "java/lang/invoke/MethodHandle" ∧ q.1.cls ≠ "java/lang/invoke/VarHandle") ∧ Cond.instantiable q.1.cls q.2 ∈ tables_1 ∧ Cond.privateMethod q.1 ∈ tables_1 ∧ Cond.instanceMethod q.1 ∈ tables_1
theorem lw_p0 : lw_okq (⟨"WideNames$Statuses", "keep", "(III)Z"⟩, 6) := ⟨⟨by decide +kernel, by decide +kernel⟩, List.mem_of_getElem? (i := 38) (by decide +kernel), List.mem_of_getElem? (i := 354) (by decide +kernel), List.mem_of_getElem? (i := 355) (by decide +kernel)⟩
theorem lw_p1 : lw_okq (⟨"WideNames$Partings", "findPair", "(II)I"⟩, 5) := ⟨⟨by decide +kernel, by decide +kernel⟩, List.mem_of_getElem? (i := 63) (by decide +kernel), List.mem_of_getElem? (i := 402) (by decide +kernel), List.mem_of_getElem? (i := 403) (by decide +kernel)⟩
theorem lw_p2 : lw_okq (⟨"WideNames$Ranks", "find", "(I)I"⟩, 3) := ⟨⟨by decide +kernel, by decide +kernel⟩, List.mem_of_getElem? (i := 86) (by decide +kernel), List.mem_of_getElem? (i := 415) (by decide +kernel), List.mem_of_getElem? (i := 416) (by decide +kernel)⟩
theorem lw_p3 : lw_okq (⟨"WideNames$Statuses", "latestAbout", "(I)I"⟩, 6) := ⟨⟨by decide +kernel, by decide +kernel⟩, List.mem_of_getElem? (i := 38) (by decide +kernel), List.mem_of_getElem? (i := 439) (by decide +kernel), List.mem_of_getElem? (i := 440) (by decide +kernel)⟩
theorem lw_p4 : lw_okq (⟨"WideNames$Forms", "appendParts", "(ILWideNames$Row;)Z"⟩, 4) := ⟨⟨by decide +kernel, by decide +kernel⟩, List.mem_of_getElem? (i := 124) (by decide +kernel), List.mem_of_getElem? (i := 482) (by decide +kernel), List.mem_of_getElem? (i := 483) (by decide +kernel)⟩
theorem lw_p5 : lw_okq (⟨"WideNames$Forms", "sortByRanks", "(LWideNames$Row;)V"⟩, 4) := ⟨⟨by decide +kernel, by decide +kernel⟩, List.mem_of_getElem? (i := 124) (by decide +kernel), List.mem_of_getElem? (i := 504) (by decide +kernel), List.mem_of_getElem? (i := 505) (by decide +kernel)⟩
theorem lw_p6 : lw_okq (⟨"WideNames$Forms", "reaches", "(III)Z"⟩, 4) := ⟨⟨by decide +kernel, by decide +kernel⟩, List.mem_of_getElem? (i := 124) (by decide +kernel), List.mem_of_getElem? (i := 517) (by decide +kernel), List.mem_of_getElem? (i := 518) (by decide +kernel)⟩
theorem lw_p7 : lw_okq (⟨"WideNames$Domain", "takeText", "(LWideNames$Row;)Z"⟩, 13) := ⟨⟨by decide +kernel, by decide +kernel⟩, List.mem_of_getElem? (i := 145) (by decide +kernel), List.mem_of_getElem? (i := 619) (by decide +kernel), List.mem_of_getElem? (i := 620) (by decide +kernel)⟩
theorem lw_p8 : lw_okq (⟨"WideNames$Domain", "fail", "(III)Z"⟩, 13) := ⟨⟨by decide +kernel, by decide +kernel⟩, List.mem_of_getElem? (i := 145) (by decide +kernel), List.mem_of_getElem? (i := 624) (by decide +kernel), List.mem_of_getElem? (i := 625) (by decide +kernel)⟩
theorem lw_p9 : lw_okq (⟨"WideNames$Domain", "replaceAll", "()Z"⟩, 13) := ⟨⟨by decide +kernel, by decide +kernel⟩, List.mem_of_getElem? (i := 145) (by decide +kernel), List.mem_of_getElem? (i := 628) (by decide +kernel), List.mem_of_getElem? (i := 629) (by decide +kernel)⟩
theorem lw_p10 : lw_okq (⟨"WideNames$Domain", "formAll", "()Z"⟩, 13) := ⟨⟨by decide +kernel, by decide +kernel⟩, List.mem_of_getElem? (i := 145) (by decide +kernel), List.mem_of_getElem? (i := 641) (by decide +kernel), List.mem_of_getElem? (i := 642) (by decide +kernel)⟩
theorem lw_p11 : lw_okq (⟨"WideNames$Domain", "lookAtLabels", "()Z"⟩, 13) := ⟨⟨by decide +kernel, by decide +kernel⟩, List.mem_of_getElem? (i := 145) (by decide +kernel), List.mem_of_getElem? (i := 646) (by decide +kernel), List.mem_of_getElem? (i := 647) (by decide +kernel)⟩
theorem lw_p12 : lw_okq (⟨"WideNames$Domain", "unfoldLabel", "()Z"⟩, 13) := ⟨⟨by decide +kernel, by decide +kernel⟩, List.mem_of_getElem? (i := 145) (by decide +kernel), List.mem_of_getElem? (i := 651) (by decide +kernel), List.mem_of_getElem? (i := 652) (by decide +kernel)⟩
theorem lw_p13 : lw_okq (⟨"WideNames$Domain", "hasPrefix", "()Z"⟩, 13) := ⟨⟨by decide +kernel, by decide +kernel⟩, List.mem_of_getElem? (i := 145) (by decide +kernel), List.mem_of_getElem? (i := 655) (by decide +kernel), List.mem_of_getElem? (i := 656) (by decide +kernel)⟩
theorem lw_p14 : lw_okq (⟨"WideNames$Domain", "followsRules", "()Z"⟩, 13) := ⟨⟨by decide +kernel, by decide +kernel⟩, List.mem_of_getElem? (i := 145) (by decide +kernel), List.mem_of_getElem? (i := 670) (by decide +kernel), List.mem_of_getElem? (i := 671) (by decide +kernel)⟩
theorem lw_p15 : lw_okq (⟨"WideNames$LabelRules", "found", "(II)I"⟩, 6) := ⟨⟨by decide +kernel, by decide +kernel⟩, List.mem_of_getElem? (i := 147) (by decide +kernel), List.mem_of_getElem? (i := 680) (by decide +kernel), List.mem_of_getElem? (i := 681) (by decide +kernel)⟩
def lw_privs_1 : List (MethodName × Nat) := [(⟨"WideNames$Statuses", "keep", "(III)Z"⟩, 6), (⟨"WideNames$Partings", "findPair", "(II)I"⟩, 5), (⟨"WideNames$Ranks", "find", "(I)I"⟩, 3), (⟨"WideNames$Statuses", "latestAbout", "(I)I"⟩, 6), (⟨"WideNames$Forms", "appendParts", "(ILWideNames$Row;)Z"⟩, 4), (⟨"WideNames$Forms", "sortByRanks", "(LWideNames$Row;)V"⟩, 4), (⟨"WideNames$Forms", "reaches", "(III)Z"⟩, 4), (⟨"WideNames$Domain", "takeText", "(LWideNames$Row;)Z"⟩, 13), (⟨"WideNames$Domain", "fail", "(III)Z"⟩, 13), (⟨"WideNames$Domain", "replaceAll", "()Z"⟩, 13), (⟨"WideNames$Domain", "formAll", "()Z"⟩, 13), (⟨"WideNames$Domain", "lookAtLabels", "()Z"⟩, 13), (⟨"WideNames$Domain", "unfoldLabel", "()Z"⟩, 13), (⟨"WideNames$Domain", "hasPrefix", "()Z"⟩, 13), (⟨"WideNames$Domain", "followsRules", "()Z"⟩, 13), (⟨"WideNames$LabelRules", "found", "(II)I"⟩, 6)]
theorem lw_r1 : ∀ q ∈ lw_privs_1, lw_okq q := List.forall_mem_cons.mpr ⟨lw_p0, List.forall_mem_cons.mpr ⟨lw_p1, List.forall_mem_cons.mpr ⟨lw_p2, List.forall_mem_cons.mpr ⟨lw_p3, List.forall_mem_cons.mpr ⟨lw_p4, List.forall_mem_cons.mpr ⟨lw_p5, List.forall_mem_cons.mpr ⟨lw_p6, List.forall_mem_cons.mpr ⟨lw_p7, List.forall_mem_cons.mpr ⟨lw_p8, List.forall_mem_cons.mpr ⟨lw_p9, List.forall_mem_cons.mpr ⟨lw_p10, List.forall_mem_cons.mpr ⟨lw_p11, List.forall_mem_cons.mpr ⟨lw_p12, List.forall_mem_cons.mpr ⟨lw_p13, List.forall_mem_cons.mpr ⟨lw_p14, List.forall_mem_cons.mpr ⟨lw_p15, fun _ h => absurd h List.not_mem_nil⟩⟩⟩⟩⟩⟩⟩⟩⟩⟩⟩⟩⟩⟩⟩⟩
theorem lw_p16 : lw_okq (⟨"WideNames$LabelRules", "lookAtJoiners", "(LWideNames$Row;)I"⟩, 6) := ⟨⟨by decide +kernel, by decide +kernel⟩, List.mem_of_getElem? (i := 147) (by decide +kernel), List.mem_of_getElem? (i := 686) (by decide +kernel), List.mem_of_getElem? (i := 687) (by decide +kernel)⟩
theorem lw_p17 : lw_okq (⟨"WideNames$LabelRules", "standsBetweenJoining", "(I)Z"⟩, 6) := ⟨⟨by decide +kernel, by decide +kernel⟩, List.mem_of_getElem? (i := 147) (by decide +kernel), List.mem_of_getElem? (i := 693) (by decide +kernel), List.mem_of_getElem? (i := 694) (by decide +kernel)⟩
theorem lw_p18 : lw_okq (⟨"WideNames$Domain", "lookAtDirections", "()Z"⟩, 13) := ⟨⟨by decide +kernel, by decide +kernel⟩, List.mem_of_getElem? (i := 145) (by decide +kernel), List.mem_of_getElem? (i := 710) (by decide +kernel), List.mem_of_getElem? (i := 711) (by decide +kernel)⟩
theorem lw_p19 : lw_okq (⟨"WideNames$LabelRules", "placeOfOtherNumber", "(II)I"⟩, 6) := ⟨⟨by decide +kernel, by decide +kernel⟩, List.mem_of_getElem? (i := 147) (by decide +kernel), List.mem_of_getElem? (i := 743) (by decide +kernel), List.mem_of_getElem? (i := 744) (by decide +kernel)⟩
theorem lw_p20 : lw_okq (⟨"WideNames$Domain", "writePlain", "()Z"⟩, 13) := ⟨⟨by decide +kernel, by decide +kernel⟩, List.mem_of_getElem? (i := 145) (by decide +kernel), List.mem_of_getElem? (i := 747) (by decide +kernel), List.mem_of_getElem? (i := 748) (by decide +kernel)⟩
theorem lw_p21 : lw_okq (⟨"WideNames$Domain", "takePlainLabel", "(I)Z"⟩, 13) := ⟨⟨by decide +kernel, by decide +kernel⟩, List.mem_of_getElem? (i := 145) (by decide +kernel), List.mem_of_getElem? (i := 751) (by decide +kernel), List.mem_of_getElem? (i := 752) (by decide +kernel)⟩
theorem lw_p22 : lw_okq (⟨"WideNames$Domain", "lookAtPlainSizes", "()Z"⟩, 13) := ⟨⟨by decide +kernel, by decide +kernel⟩, List.mem_of_getElem? (i := 145) (by decide +kernel), List.mem_of_getElem? (i := 761) (by decide +kernel), List.mem_of_getElem? (i := 762) (by decide +kernel)⟩
theorem lw_p23 : lw_okq (⟨"WideNames$Domain", "writeWide", "()Z"⟩, 13) := ⟨⟨by decide +kernel, by decide +kernel⟩, List.mem_of_getElem? (i := 145) (by decide +kernel), List.mem_of_getElem? (i := 765) (by decide +kernel), List.mem_of_getElem? (i := 766) (by decide +kernel)⟩
theorem lw_p24 : lw_okq (⟨"WideNamesModel", "readText", "()V"⟩, 53) := ⟨⟨by decide +kernel, by decide +kernel⟩, List.mem_of_getElem? (i := 797) (by decide +kernel), List.mem_of_getElem? (i := 975) (by decide +kernel), List.mem_of_getElem? (i := 976) (by decide +kernel)⟩
theorem lw_p25 : lw_okq (⟨"WideNamesModel", "octetAt", "(I)I"⟩, 53) := ⟨⟨by decide +kernel, by decide +kernel⟩, List.mem_of_getElem? (i := 797) (by decide +kernel), List.mem_of_getElem? (i := 979) (by decide +kernel), List.mem_of_getElem? (i := 980) (by decide +kernel)⟩
theorem lw_p26 : lw_okq (⟨"WideNamesModel", "told", "(III)V"⟩, 53) := ⟨⟨by decide +kernel, by decide +kernel⟩, List.mem_of_getElem? (i := 797) (by decide +kernel), List.mem_of_getElem? (i := 1001) (by decide +kernel), List.mem_of_getElem? (i := 1002) (by decide +kernel)⟩
theorem lw_p27 : lw_okq (⟨"WideNamesModel", "rankAt", "(I)I"⟩, 53) := ⟨⟨by decide +kernel, by decide +kernel⟩, List.mem_of_getElem? (i := 797) (by decide +kernel), List.mem_of_getElem? (i := 1025) (by decide +kernel), List.mem_of_getElem? (i := 1026) (by decide +kernel)⟩
theorem lw_p28 : lw_okq (⟨"WideNamesModel", "rankOf", "(I)I"⟩, 53) := ⟨⟨by decide +kernel, by decide +kernel⟩, List.mem_of_getElem? (i := 797) (by decide +kernel), List.mem_of_getElem? (i := 1029) (by decide +kernel), List.mem_of_getElem? (i := 1030) (by decide +kernel)⟩
theorem lw_p29 : lw_okq (⟨"WideNamesModel", "statusOf", "(I)I"⟩, 53) := ⟨⟨by decide +kernel, by decide +kernel⟩, List.mem_of_getElem? (i := 797) (by decide +kernel), List.mem_of_getElem? (i := 1041) (by decide +kernel), List.mem_of_getElem? (i := 1042) (by decide +kernel)⟩
theorem lw_p30 : lw_okq (⟨"WideNamesModel", "thing", "(I)I"⟩, 53) := ⟨⟨by decide +kernel, by decide +kernel⟩, List.mem_of_getElem? (i := 797) (by decide +kernel), List.mem_of_getElem? (i := 1045) (by decide +kernel), List.mem_of_getElem? (i := 1046) (by decide +kernel)⟩
theorem lw_p31 : lw_okq (⟨"WideNamesModel", "rangeOf", "(II)I"⟩, 53) := ⟨⟨by decide +kernel, by decide +kernel⟩, List.mem_of_getElem? (i := 797) (by decide +kernel), List.mem_of_getElem? (i := 1049) (by decide +kernel), List.mem_of_getElem? (i := 1050) (by decide +kernel)⟩
def lw_privs_2 : List (MethodName × Nat) := [(⟨"WideNames$LabelRules", "lookAtJoiners", "(LWideNames$Row;)I"⟩, 6), (⟨"WideNames$LabelRules", "standsBetweenJoining", "(I)Z"⟩, 6), (⟨"WideNames$Domain", "lookAtDirections", "()Z"⟩, 13), (⟨"WideNames$LabelRules", "placeOfOtherNumber", "(II)I"⟩, 6), (⟨"WideNames$Domain", "writePlain", "()Z"⟩, 13), (⟨"WideNames$Domain", "takePlainLabel", "(I)Z"⟩, 13), (⟨"WideNames$Domain", "lookAtPlainSizes", "()Z"⟩, 13), (⟨"WideNames$Domain", "writeWide", "()Z"⟩, 13), (⟨"WideNamesModel", "readText", "()V"⟩, 53), (⟨"WideNamesModel", "octetAt", "(I)I"⟩, 53), (⟨"WideNamesModel", "told", "(III)V"⟩, 53), (⟨"WideNamesModel", "rankAt", "(I)I"⟩, 53), (⟨"WideNamesModel", "rankOf", "(I)I"⟩, 53), (⟨"WideNamesModel", "statusOf", "(I)I"⟩, 53), (⟨"WideNamesModel", "thing", "(I)I"⟩, 53), (⟨"WideNamesModel", "rangeOf", "(II)I"⟩, 53)]
theorem lw_r2 : ∀ q ∈ lw_privs_2, lw_okq q := List.forall_mem_cons.mpr ⟨lw_p16, List.forall_mem_cons.mpr ⟨lw_p17, List.forall_mem_cons.mpr ⟨lw_p18, List.forall_mem_cons.mpr ⟨lw_p19, List.forall_mem_cons.mpr ⟨lw_p20, List.forall_mem_cons.mpr ⟨lw_p21, List.forall_mem_cons.mpr ⟨lw_p22, List.forall_mem_cons.mpr ⟨lw_p23, List.forall_mem_cons.mpr ⟨lw_p24, List.forall_mem_cons.mpr ⟨lw_p25, List.forall_mem_cons.mpr ⟨lw_p26, List.forall_mem_cons.mpr ⟨lw_p27, List.forall_mem_cons.mpr ⟨lw_p28, List.forall_mem_cons.mpr ⟨lw_p29, List.forall_mem_cons.mpr ⟨lw_p30, List.forall_mem_cons.mpr ⟨lw_p31, fun _ h => absurd h List.not_mem_nil⟩⟩⟩⟩⟩⟩⟩⟩⟩⟩⟩⟩⟩⟩⟩⟩
theorem lw_p32 : lw_okq (⟨"WideNamesModel", "oneForm", "([III)Z"⟩, 53) := ⟨⟨by decide +kernel, by decide +kernel⟩, List.mem_of_getElem? (i := 797) (by decide +kernel), List.mem_of_getElem? (i := 1057) (by decide +kernel), List.mem_of_getElem? (i := 1058) (by decide +kernel)⟩
theorem lw_p33 : lw_okq (⟨"WideNamesModel", "takeApart", "([III)Z"⟩, 53) := ⟨⟨by decide +kernel, by decide +kernel⟩, List.mem_of_getElem? (i := 797) (by decide +kernel), List.mem_of_getElem? (i := 1061) (by decide +kernel), List.mem_of_getElem? (i := 1062) (by decide +kernel)⟩
theorem lw_p34 : lw_okq (⟨"WideNamesModel", "partOf", "(I)I"⟩, 53) := ⟨⟨by decide +kernel, by decide +kernel⟩, List.mem_of_getElem? (i := 797) (by decide +kernel), List.mem_of_getElem? (i := 1065) (by decide +kernel), List.mem_of_getElem? (i := 1066) (by decide +kernel)⟩
theorem lw_p35 : lw_okq (⟨"WideNamesModel", "together", "(II)I"⟩, 53) := ⟨⟨by decide +kernel, by decide +kernel⟩, List.mem_of_getElem? (i := 797) (by decide +kernel), List.mem_of_getElem? (i := 1069) (by decide +kernel), List.mem_of_getElem? (i := 1070) (by decide +kernel)⟩
theorem lw_p36 : lw_okq (⟨"WideNamesModel", "firstOther", "([III)I"⟩, 53) := ⟨⟨by decide +kernel, by decide +kernel⟩, List.mem_of_getElem? (i := 797) (by decide +kernel), List.mem_of_getElem? (i := 1077) (by decide +kernel), List.mem_of_getElem? (i := 1078) (by decide +kernel)⟩
theorem lw_p37 : lw_okq (⟨"WideNamesModel", "encoded", "([III)Z"⟩, 53) := ⟨⟨by decide +kernel, by decide +kernel⟩, List.mem_of_getElem? (i := 797) (by decide +kernel), List.mem_of_getElem? (i := 1089) (by decide +kernel), List.mem_of_getElem? (i := 1090) (by decide +kernel)⟩
theorem lw_p38 : lw_okq (⟨"WideNamesModel", "letter", "(I)V"⟩, 53) := ⟨⟨by decide +kernel, by decide +kernel⟩, List.mem_of_getElem? (i := 797) (by decide +kernel), List.mem_of_getElem? (i := 1093) (by decide +kernel), List.mem_of_getElem? (i := 1094) (by decide +kernel)⟩
theorem lw_p39 : lw_okq (⟨"WideNamesModel", "write", "(JI)V"⟩, 53) := ⟨⟨by decide +kernel, by decide +kernel⟩, List.mem_of_getElem? (i := 797) (by decide +kernel), List.mem_of_getElem? (i := 1099) (by decide +kernel), List.mem_of_getElem? (i := 1100) (by decide +kernel)⟩
theorem lw_p40 : lw_okq (⟨"WideNamesModel", "decoded", "([III)I"⟩, 53) := ⟨⟨by decide +kernel, by decide +kernel⟩, List.mem_of_getElem? (i := 797) (by decide +kernel), List.mem_of_getElem? (i := 1122) (by decide +kernel), List.mem_of_getElem? (i := 1123) (by decide +kernel)⟩
theorem lw_p41 : lw_okq (⟨"WideNamesModel", "makeAll", "(Z)V"⟩, 53) := ⟨⟨by decide +kernel, by decide +kernel⟩, List.mem_of_getElem? (i := 797) (by decide +kernel), List.mem_of_getElem? (i := 1135) (by decide +kernel), List.mem_of_getElem? (i := 1136) (by decide +kernel)⟩
theorem lw_p42 : lw_okq (⟨"WideNamesModel", "wrong", "(III)Z"⟩, 53) := ⟨⟨by decide +kernel, by decide +kernel⟩, List.mem_of_getElem? (i := 797) (by decide +kernel), List.mem_of_getElem? (i := 1139) (by decide +kernel), List.mem_of_getElem? (i := 1140) (by decide +kernel)⟩
theorem lw_p43 : lw_okq (⟨"WideNamesModel", "mapAll", "()Z"⟩, 53) := ⟨⟨by decide +kernel, by decide +kernel⟩, List.mem_of_getElem? (i := 797) (by decide +kernel), List.mem_of_getElem? (i := 1143) (by decide +kernel), List.mem_of_getElem? (i := 1144) (by decide +kernel)⟩
theorem lw_p44 : lw_okq (⟨"WideNamesModel", "part", "()V"⟩, 53) := ⟨⟨by decide +kernel, by decide +kernel⟩, List.mem_of_getElem? (i := 797) (by decide +kernel), List.mem_of_getElem? (i := 1147) (by decide +kernel), List.mem_of_getElem? (i := 1148) (by decide +kernel)⟩
theorem lw_p45 : lw_okq (⟨"WideNamesModel", "lookAt", "(I)Z"⟩, 53) := ⟨⟨by decide +kernel, by decide +kernel⟩, List.mem_of_getElem? (i := 797) (by decide +kernel), List.mem_of_getElem? (i := 1151) (by decide +kernel), List.mem_of_getElem? (i := 1152) (by decide +kernel)⟩
theorem lw_p46 : lw_okq (⟨"WideNamesModel", "unfold", "(I)Z"⟩, 53) := ⟨⟨by decide +kernel, by decide +kernel⟩, List.mem_of_getElem? (i := 797) (by decide +kernel), List.mem_of_getElem? (i := 1155) (by decide +kernel), List.mem_of_getElem? (i := 1156) (by decide +kernel)⟩
theorem lw_p47 : lw_okq (⟨"WideNamesModel", "fits", "(III)Z"⟩, 53) := ⟨⟨by decide +kernel, by decide +kernel⟩, List.mem_of_getElem? (i := 797) (by decide +kernel), List.mem_of_getElem? (i := 1159) (by decide +kernel), List.mem_of_getElem? (i := 1160) (by decide +kernel)⟩
def lw_privs_3 : List (MethodName × Nat) := [(⟨"WideNamesModel", "oneForm", "([III)Z"⟩, 53), (⟨"WideNamesModel", "takeApart", "([III)Z"⟩, 53), (⟨"WideNamesModel", "partOf", "(I)I"⟩, 53), (⟨"WideNamesModel", "together", "(II)I"⟩, 53), (⟨"WideNamesModel", "firstOther", "([III)I"⟩, 53), (⟨"WideNamesModel", "encoded", "([III)Z"⟩, 53), (⟨"WideNamesModel", "letter", "(I)V"⟩, 53), (⟨"WideNamesModel", "write", "(JI)V"⟩, 53), (⟨"WideNamesModel", "decoded", "([III)I"⟩, 53), (⟨"WideNamesModel", "makeAll", "(Z)V"⟩, 53), (⟨"WideNamesModel", "wrong", "(III)Z"⟩, 53), (⟨"WideNamesModel", "mapAll", "()Z"⟩, 53), (⟨"WideNamesModel", "part", "()V"⟩, 53), (⟨"WideNamesModel", "lookAt", "(I)Z"⟩, 53), (⟨"WideNamesModel", "unfold", "(I)Z"⟩, 53), (⟨"WideNamesModel", "fits", "(III)Z"⟩, 53)]
theorem lw_r3 : ∀ q ∈ lw_privs_3, lw_okq q := List.forall_mem_cons.mpr ⟨lw_p32, List.forall_mem_cons.mpr ⟨lw_p33, List.forall_mem_cons.mpr ⟨lw_p34, List.forall_mem_cons.mpr ⟨lw_p35, List.forall_mem_cons.mpr ⟨lw_p36, List.forall_mem_cons.mpr ⟨lw_p37, List.forall_mem_cons.mpr ⟨lw_p38, List.forall_mem_cons.mpr ⟨lw_p39, List.forall_mem_cons.mpr ⟨lw_p40, List.forall_mem_cons.mpr ⟨lw_p41, List.forall_mem_cons.mpr ⟨lw_p42, List.forall_mem_cons.mpr ⟨lw_p43, List.forall_mem_cons.mpr ⟨lw_p44, List.forall_mem_cons.mpr ⟨lw_p45, List.forall_mem_cons.mpr ⟨lw_p46, List.forall_mem_cons.mpr ⟨lw_p47, fun _ h => absurd h List.not_mem_nil⟩⟩⟩⟩⟩⟩⟩⟩⟩⟩⟩⟩⟩⟩⟩⟩
theorem lw_p48 : lw_okq (⟨"WideNamesModel", "directions", "()Z"⟩, 53) := ⟨⟨by decide +kernel, by decide +kernel⟩, List.mem_of_getElem? (i := 797) (by decide +kernel), List.mem_of_getElem? (i := 1163) (by decide +kernel), List.mem_of_getElem? (i := 1164) (by decide +kernel)⟩
theorem lw_p49 : lw_okq (⟨"WideNamesModel", "direction", "(I)Z"⟩, 53) := ⟨⟨by decide +kernel, by decide +kernel⟩, List.mem_of_getElem? (i := 797) (by decide +kernel), List.mem_of_getElem? (i := 1167) (by decide +kernel), List.mem_of_getElem? (i := 1168) (by decide +kernel)⟩
theorem lw_p50 : lw_okq (⟨"WideNamesModel", "plain", "()V"⟩, 53) := ⟨⟨by decide +kernel, by decide +kernel⟩, List.mem_of_getElem? (i := 797) (by decide +kernel), List.mem_of_getElem? (i := 1171) (by decide +kernel), List.mem_of_getElem? (i := 1172) (by decide +kernel)⟩
theorem lw_p51 : lw_okq (⟨"WideNamesModel", "octetOut", "(I)V"⟩, 53) := ⟨⟨by decide +kernel, by decide +kernel⟩, List.mem_of_getElem? (i := 797) (by decide +kernel), List.mem_of_getElem? (i := 1175) (by decide +kernel), List.mem_of_getElem? (i := 1176) (by decide +kernel)⟩
theorem lw_p52 : lw_okq (⟨"WideNamesModel", "plainLabel", "(I)V"⟩, 53) := ⟨⟨by decide +kernel, by decide +kernel⟩, List.mem_of_getElem? (i := 797) (by decide +kernel), List.mem_of_getElem? (i := 1179) (by decide +kernel), List.mem_of_getElem? (i := 1180) (by decide +kernel)⟩
theorem lw_p53 : lw_okq (⟨"WideNamesModel", "wide", "()V"⟩, 53) := ⟨⟨by decide +kernel, by decide +kernel⟩, List.mem_of_getElem? (i := 797) (by decide +kernel), List.mem_of_getElem? (i := 1183) (by decide +kernel), List.mem_of_getElem? (i := 1184) (by decide +kernel)⟩
theorem lw_p54 : lw_okq (⟨"WideNamesModel", "pointOut", "(I)V"⟩, 53) := ⟨⟨by decide +kernel, by decide +kernel⟩, List.mem_of_getElem? (i := 797) (by decide +kernel), List.mem_of_getElem? (i := 1187) (by decide +kernel), List.mem_of_getElem? (i := 1188) (by decide +kernel)⟩
def lw_privs_4 : List (MethodName × Nat) := [(⟨"WideNamesModel", "directions", "()Z"⟩, 53), (⟨"WideNamesModel", "direction", "(I)Z"⟩, 53), (⟨"WideNamesModel", "plain", "()V"⟩, 53), (⟨"WideNamesModel", "octetOut", "(I)V"⟩, 53), (⟨"WideNamesModel", "plainLabel", "(I)V"⟩, 53), (⟨"WideNamesModel", "wide", "()V"⟩, 53), (⟨"WideNamesModel", "pointOut", "(I)V"⟩, 53)]
theorem lw_r4 : ∀ q ∈ lw_privs_4, lw_okq q := List.forall_mem_cons.mpr ⟨lw_p48, List.forall_mem_cons.mpr ⟨lw_p49, List.forall_mem_cons.mpr ⟨lw_p50, List.forall_mem_cons.mpr ⟨lw_p51, List.forall_mem_cons.mpr ⟨lw_p52, List.forall_mem_cons.mpr ⟨lw_p53, List.forall_mem_cons.mpr ⟨lw_p54, fun _ h => absurd h List.not_mem_nil⟩⟩⟩⟩⟩⟩⟩
def lw_privs : List (MethodName × Nat) := lw_privs_1 ++ (lw_privs_2 ++ (lw_privs_3 ++ (lw_privs_4)))
def lw_tbl : List Cond := k2_sels lw_privs ++ tables_1
theorem lw_privs_ok : ∀ q ∈ lw_privs, lw_okq q := by
  show ∀ q ∈ lw_privs_1 ++ (lw_privs_2 ++ (lw_privs_3 ++ (lw_privs_4))), lw_okq q
  exact List.forall_mem_append.mpr ⟨lw_r1, List.forall_mem_append.mpr ⟨lw_r2, List.forall_mem_append.mpr ⟨lw_r3, lw_r4⟩⟩⟩
end
section
def RX0 : String := "WideNames$Domain"
def RX1 : String := "WideNames$Forms"
def RX2 : String := "WideNames$LabelRules"
def RX3 : String := "WideNames$Labels"
def RX4 : String := "WideNames$Letters"
def RX5 : String := "WideNames$Octets"
def RX6 : String := "WideNames$Partings"
def RX7 : String := "WideNames$Ranges"
def RX8 : String := "WideNames$Ranks"
def RX9 : String := "WideNames$Row"
def RX10 : String := "WideNames$Statuses"
def RX11 : String := "WideNames"
def RX12 : String := "WideNamesModel"
def RJ9 : String := "java/lang/Math"
def RL : String := "WideNamesLaw"
def TX0 : u_T := fun k => match k with
  | 0 => ("WideNames$Domain", "statuses", "LWideNames$Statuses;", true)
  | 1 => ("WideNames$Domain", "forms", "LWideNames$Forms;", true)
  | 2 => ("WideNames$Domain", "rules", "LWideNames$LabelRules;", true)
  | 3 => ("WideNames$Domain", "points", "LWideNames$Row;", true)
  | 4 => ("WideNames$Domain", "spare", "LWideNames$Row;", true)
  | 5 => ("WideNames$Domain", "label", "LWideNames$Row;", true)
  | 6 => ("WideNames$Domain", "labels", "LWideNames$Labels;", true)
  | 7 => ("WideNames$Domain", "plainSizes", "[I", true)
  | 8 => ("WideNames$Domain", "draft", "LWideNames$Row;", true)
  | 9 => ("WideNames$Domain", "made", "LWideNames$Row;", true)
  | 10 => ("WideNames$Domain", "fault", "I", false)
  | 11 => ("WideNames$Domain", "faultLabel", "I", false)
  | _ => ("WideNames$Domain", "faultPlace", "I", false)
def tyX0 : Nat → FieldType := fun k => match k with
  | 0 => .object "WideNames$Statuses"
  | 1 => .object "WideNames$Forms"
  | 2 => .object "WideNames$LabelRules"
  | 3 => .object "WideNames$Row"
  | 4 => .object "WideNames$Row"
  | 5 => .object "WideNames$Row"
  | 6 => .object "WideNames$Labels"
  | 7 => .array .int
  | 8 => .object "WideNames$Row"
  | 9 => .object "WideNames$Row"
  | 10 => .int
  | 11 => .int
  | _ => .int
theorem nmX0 : ∀ a, a < 13 → ∀ b, b < 13 → a ≠ b → (TX0 a).2.1 ≠ (TX0 b).2.1 := by decide +kernel
theorem tyX0_ok : ∀ k, k < 13 → parseFieldDescriptor (TX0 k).2.2.1 = some (tyX0 k) := by decide +kernel
def TX1 : u_T := fun k => match k with
  | 0 => ("WideNames$Forms", "partings", "LWideNames$Partings;", true)
  | 1 => ("WideNames$Forms", "ranks", "LWideNames$Ranks;", true)
  | 2 => ("WideNames$Forms", "pending", "[I", true)
  | _ => ("WideNames$Forms", "besides", "LWideNames$Row;", true)
def tyX1 : Nat → FieldType := fun k => match k with
  | 0 => .object "WideNames$Partings"
  | 1 => .object "WideNames$Ranks"
  | 2 => .array .int
  | _ => .object "WideNames$Row"
theorem nmX1 : ∀ a, a < 4 → ∀ b, b < 4 → a ≠ b → (TX1 a).2.1 ≠ (TX1 b).2.1 := by decide +kernel
theorem tyX1_ok : ∀ k, k < 4 → parseFieldDescriptor (TX1 k).2.2.1 = some (tyX1 k) := by decide +kernel
def TX2 : u_T := fun k => match k with
  | 0 => ("WideNames$LabelRules", "statuses", "LWideNames$Statuses;", true)
  | 1 => ("WideNames$LabelRules", "ranks", "LWideNames$Ranks;", true)
  | 2 => ("WideNames$LabelRules", "ranges", "LWideNames$Ranges;", true)
  | 3 => ("WideNames$LabelRules", "joinings", "LWideNames$Row;", true)
  | 4 => ("WideNames$LabelRules", "directions", "LWideNames$Row;", true)
  | _ => ("WideNames$LabelRules", "place", "I", false)
def tyX2 : Nat → FieldType := fun k => match k with
  | 0 => .object "WideNames$Statuses"
  | 1 => .object "WideNames$Ranks"
  | 2 => .object "WideNames$Ranges"
  | 3 => .object "WideNames$Row"
  | 4 => .object "WideNames$Row"
  | _ => .int
theorem nmX2 : ∀ a, a < 6 → ∀ b, b < 6 → a ≠ b → (TX2 a).2.1 ≠ (TX2 b).2.1 := by decide +kernel
theorem tyX2_ok : ∀ k, k < 6 → parseFieldDescriptor (TX2 k).2.2.1 = some (tyX2 k) := by decide +kernel
def TX3 : u_T := fun k => match k with
  | 0 => ("WideNames$Labels", "points", "LWideNames$Row;", true)
  | 1 => ("WideNames$Labels", "ends", "[I", true)
  | _ => ("WideNames$Labels", "count", "I", false)
def tyX3 : Nat → FieldType := fun k => match k with
  | 0 => .object "WideNames$Row"
  | 1 => .array .int
  | _ => .int
theorem nmX3 : ∀ a, a < 3 → ∀ b, b < 3 → a ≠ b → (TX3 a).2.1 ≠ (TX3 b).2.1 := by decide +kernel
theorem tyX3_ok : ∀ k, k < 3 → parseFieldDescriptor (TX3 k).2.2.1 = some (tyX3 k) := by decide +kernel
def TX6 : u_T := fun k => match k with
  | 0 => ("WideNames$Partings", "points", "[I", true)
  | 1 => ("WideNames$Partings", "earlier", "[I", true)
  | 2 => ("WideNames$Partings", "later", "[I", true)
  | 3 => ("WideNames$Partings", "excluded", "[Z", true)
  | _ => ("WideNames$Partings", "told", "I", false)
def tyX6 : Nat → FieldType := fun k => match k with
  | 0 => .array .int
  | 1 => .array .int
  | 2 => .array .int
  | 3 => .array .boolean
  | _ => .int
theorem nmX6 : ∀ a, a < 5 → ∀ b, b < 5 → a ≠ b → (TX6 a).2.1 ≠ (TX6 b).2.1 := by decide +kernel
theorem tyX6_ok : ∀ k, k < 5 → parseFieldDescriptor (TX6 k).2.2.1 = some (tyX6 k) := by decide +kernel
def TX7 : u_T := fun k => match k with
  | 0 => ("WideNames$Ranges", "kinds", "[I", true)
  | 1 => ("WideNames$Ranges", "firsts", "[I", true)
  | 2 => ("WideNames$Ranges", "lasts", "[I", true)
  | 3 => ("WideNames$Ranges", "values", "[I", true)
  | _ => ("WideNames$Ranges", "told", "I", false)
def tyX7 : Nat → FieldType := fun k => match k with
  | 0 => .array .int
  | 1 => .array .int
  | 2 => .array .int
  | 3 => .array .int
  | _ => .int
theorem nmX7 : ∀ a, a < 5 → ∀ b, b < 5 → a ≠ b → (TX7 a).2.1 ≠ (TX7 b).2.1 := by decide +kernel
theorem tyX7_ok : ∀ k, k < 5 → parseFieldDescriptor (TX7 k).2.2.1 = some (tyX7 k) := by decide +kernel
def TX8 : u_T := fun k => match k with
  | 0 => ("WideNames$Ranks", "points", "[I", true)
  | 1 => ("WideNames$Ranks", "values", "[I", true)
  | _ => ("WideNames$Ranks", "told", "I", false)
def tyX8 : Nat → FieldType := fun k => match k with
  | 0 => .array .int
  | 1 => .array .int
  | _ => .int
theorem nmX8 : ∀ a, a < 3 → ∀ b, b < 3 → a ≠ b → (TX8 a).2.1 ≠ (TX8 b).2.1 := by decide +kernel
theorem tyX8_ok : ∀ k, k < 3 → parseFieldDescriptor (TX8 k).2.2.1 = some (tyX8 k) := by decide +kernel
def TX9 : u_T := fun k => match k with
  | 0 => ("WideNames$Row", "items", "[I", true)
  | _ => ("WideNames$Row", "size", "I", false)
def tyX9 : Nat → FieldType := fun k => match k with
  | 0 => .array .int
  | _ => .int
theorem nmX9 : ∀ a, a < 2 → ∀ b, b < 2 → a ≠ b → (TX9 a).2.1 ≠ (TX9 b).2.1 := by decide +kernel
theorem tyX9_ok : ∀ k, k < 2 → parseFieldDescriptor (TX9 k).2.2.1 = some (tyX9 k) := by decide +kernel
def TX10 : u_T := fun k => match k with
  | 0 => ("WideNames$Statuses", "firsts", "[I", true)
  | 1 => ("WideNames$Statuses", "lasts", "[I", true)
  | 2 => ("WideNames$Statuses", "values", "[I", true)
  | 3 => ("WideNames$Statuses", "mappingSizes", "[I", true)
  | 4 => ("WideNames$Statuses", "mappings", "[I", true)
  | _ => ("WideNames$Statuses", "told", "I", false)
def tyX10 : Nat → FieldType := fun k => match k with
  | 0 => .array .int
  | 1 => .array .int
  | 2 => .array .int
  | 3 => .array .int
  | 4 => .array .int
  | _ => .int
theorem nmX10 : ∀ a, a < 6 → ∀ b, b < 6 → a ≠ b → (TX10 a).2.1 ≠ (TX10 b).2.1 := by decide +kernel
theorem tyX10_ok : ∀ k, k < 6 → parseFieldDescriptor (TX10 k).2.2.1 = some (tyX10 k) := by decide +kernel
def TX11 : u_T := fun k => match k with
  | 0 => ("WideNames", "text", "LWideNames$Row;", true)
  | 1 => ("WideNames", "row", "LWideNames$Row;", true)
  | 2 => ("WideNames", "spare", "LWideNames$Row;", true)
  | 3 => ("WideNames", "otherSpare", "LWideNames$Row;", true)
  | 4 => ("WideNames", "statuses", "LWideNames$Statuses;", true)
  | 5 => ("WideNames", "partings", "LWideNames$Partings;", true)
  | 6 => ("WideNames", "ranks", "LWideNames$Ranks;", true)
  | 7 => ("WideNames", "ranges", "LWideNames$Ranges;", true)
  | 8 => ("WideNames", "forms", "LWideNames$Forms;", true)
  | _ => ("WideNames", "domain", "LWideNames$Domain;", true)
def tyX11 : Nat → FieldType := fun k => match k with
  | 0 => .object "WideNames$Row"
  | 1 => .object "WideNames$Row"
  | 2 => .object "WideNames$Row"
  | 3 => .object "WideNames$Row"
  | 4 => .object "WideNames$Statuses"
  | 5 => .object "WideNames$Partings"
  | 6 => .object "WideNames$Ranks"
  | 7 => .object "WideNames$Ranges"
  | 8 => .object "WideNames$Forms"
  | _ => .object "WideNames$Domain"
theorem nmX11 : ∀ a, a < 10 → ∀ b, b < 10 → a ≠ b → (TX11 a).2.1 ≠ (TX11 b).2.1 := by decide +kernel
theorem tyX11_ok : ∀ k, k < 10 → parseFieldDescriptor (TX11 k).2.2.1 = some (tyX11 k) := by decide +kernel
def TX12 : u_T := fun k => match k with
  | 0 => ("WideNamesModel", "code", "I", false)
  | 1 => ("WideNamesModel", "text", "[B", true)
  | 2 => ("WideNamesModel", "textSize", "I", false)
  | 3 => ("WideNamesModel", "row", "[I", true)
  | 4 => ("WideNamesModel", "size", "I", false)
  | 5 => ("WideNamesModel", "statuses", "I", false)
  | 6 => ("WideNamesModel", "sFirst", "[I", true)
  | 7 => ("WideNamesModel", "sLast", "[I", true)
  | 8 => ("WideNamesModel", "sStatus", "[I", true)
  | 9 => ("WideNamesModel", "sMap", "[I", true)
  | 10 => ("WideNamesModel", "sSize", "[I", true)
  | 11 => ("WideNamesModel", "partsTold", "I", false)
  | 12 => ("WideNamesModel", "pPoint", "[I", true)
  | 13 => ("WideNamesModel", "pA", "[I", true)
  | 14 => ("WideNamesModel", "pB", "[I", true)
  | 15 => ("WideNamesModel", "pOut", "[Z", true)
  | 16 => ("WideNamesModel", "ranks", "I", false)
  | 17 => ("WideNamesModel", "rPoint", "[I", true)
  | 18 => ("WideNamesModel", "rRank", "[I", true)
  | 19 => ("WideNamesModel", "ranges", "I", false)
  | 20 => ("WideNamesModel", "gKind", "[I", true)
  | 21 => ("WideNamesModel", "gFirst", "[I", true)
  | 22 => ("WideNamesModel", "gLast", "[I", true)
  | 23 => ("WideNamesModel", "gValue", "[I", true)
  | 24 => ("WideNamesModel", "got", "[I", true)
  | 25 => ("WideNamesModel", "gotSize", "I", false)
  | 26 => ("WideNamesModel", "gotFault", "I", false)
  | 27 => ("WideNamesModel", "apart", "[I", true)
  | 28 => ("WideNamesModel", "apartSize", "I", false)
  | 29 => ("WideNamesModel", "stack", "[I", true)
  | 30 => ("WideNamesModel", "one", "[I", true)
  | 31 => ("WideNamesModel", "oneSize", "I", false)
  | 32 => ("WideNamesModel", "other", "[I", true)
  | 33 => ("WideNamesModel", "few", "[I", true)
  | 34 => ("WideNamesModel", "fewSize", "I", false)
  | 35 => ("WideNamesModel", "back", "[I", true)
  | 36 => ("WideNamesModel", "backSize", "I", false)
  | 37 => ("WideNamesModel", "fault", "I", false)
  | 38 => ("WideNamesModel", "faultLabel", "I", false)
  | 39 => ("WideNamesModel", "faultPlace", "I", false)
  | 40 => ("WideNamesModel", "whole", "I", false)
  | 41 => ("WideNamesModel", "mapped", "[I", true)
  | 42 => ("WideNamesModel", "mappedSize", "I", false)
  | 43 => ("WideNamesModel", "labels", "I", false)
  | 44 => ("WideNamesModel", "label", "[I", true)
  | 45 => ("WideNamesModel", "labelAt", "[I", true)
  | 46 => ("WideNamesModel", "labelSize", "[I", true)
  | 47 => ("WideNamesModel", "made", "[B", true)
  | 48 => ("WideNamesModel", "madeSize", "I", false)
  | 49 => ("WideNamesModel", "draft", "[B", true)
  | 50 => ("WideNamesModel", "draftSize", "I", false)
  | 51 => ("WideNamesModel", "hand", "[I", true)
  | _ => ("WideNamesModel", "plainSize", "[I", true)
def tyX12 : Nat → FieldType := fun k => match k with
  | 0 => .int
  | 1 => .array .byte
  | 2 => .int
  | 3 => .array .int
  | 4 => .int
  | 5 => .int
  | 6 => .array .int
  | 7 => .array .int
  | 8 => .array .int
  | 9 => .array .int
  | 10 => .array .int
  | 11 => .int
  | 12 => .array .int
  | 13 => .array .int
  | 14 => .array .int
  | 15 => .array .boolean
  | 16 => .int
  | 17 => .array .int
  | 18 => .array .int
  | 19 => .int
  | 20 => .array .int
  | 21 => .array .int
  | 22 => .array .int
  | 23 => .array .int
  | 24 => .array .int
  | 25 => .int
  | 26 => .int
  | 27 => .array .int
  | 28 => .int
  | 29 => .array .int
  | 30 => .array .int
  | 31 => .int
  | 32 => .array .int
  | 33 => .array .int
  | 34 => .int
  | 35 => .array .int
  | 36 => .int
  | 37 => .int
  | 38 => .int
  | 39 => .int
  | 40 => .int
  | 41 => .array .int
  | 42 => .int
  | 43 => .int
  | 44 => .array .int
  | 45 => .array .int
  | 46 => .array .int
  | 47 => .array .byte
  | 48 => .int
  | 49 => .array .byte
  | 50 => .int
  | 51 => .array .int
  | _ => .array .int
theorem nmX12 : ∀ a, a < 53 → ∀ b, b < 53 → a ≠ b → (TX12 a).2.1 ≠ (TX12 b).2.1 := by decide +kernel
theorem tyX12_ok : ∀ k, k < 53 → parseFieldDescriptor (TX12 k).2.2.1 = some (tyX12 k) := by decide +kernel
abbrev cL_law : ByteArray := code
def yL_law : MethodName := ⟨RL, "law", "([I)Z"⟩
abbrev cX11_init : ByteArray := prog_1_method_1_code
def yX11_init : MethodName := ⟨RX11, "<init>", "()V"⟩
abbrev cX9_init : ByteArray := prog_11_method_1_code
def yX9_init : MethodName := ⟨RX9, "<init>", "(I)V"⟩
abbrev cX10_init : ByteArray := prog_12_method_1_code
def yX10_init : MethodName := ⟨RX10, "<init>", "()V"⟩
abbrev cX6_init : ByteArray := prog_8_method_1_code
def yX6_init : MethodName := ⟨RX6, "<init>", "()V"⟩
abbrev cX8_init : ByteArray := prog_10_method_1_code
def yX8_init : MethodName := ⟨RX8, "<init>", "()V"⟩
abbrev cX7_init : ByteArray := prog_9_method_1_code
def yX7_init : MethodName := ⟨RX7, "<init>", "()V"⟩
abbrev cX1_init : ByteArray := prog_3_method_1_code
def yX1_init : MethodName := ⟨RX1, "<init>", "(LWideNames$Partings;LWideNames$Ranks;)V"⟩
abbrev cX2_init : ByteArray := prog_4_method_1_code
def yX2_init : MethodName := ⟨RX2, "<init>", "(LWideNames$Statuses;LWideNames$Ranks;LWideNames$Ranges;)V"⟩
abbrev cX0_init : ByteArray := prog_2_method_1_code
def yX0_init : MethodName := ⟨RX0, "<init>", "(LWideNames$Statuses;LWideNames$Forms;LWideNames$LabelRules;)V"⟩
abbrev cX3_init : ByteArray := prog_5_method_1_code
def yX3_init : MethodName := ⟨RX3, "<init>", "()V"⟩
abbrev cX11_feed : ByteArray := prog_1_method_2_code
def yX11_feed : MethodName := ⟨RX11, "feed", "(JI)I"⟩
abbrev cX9_clear : ByteArray := prog_11_method_5_code
def yX9_clear : MethodName := ⟨RX9, "clear", "()V"⟩
abbrev cX9_size : ByteArray := prog_11_method_2_code
def yX9_size : MethodName := ⟨RX9, "size", "()I"⟩
abbrev cX9_append : ByteArray := prog_11_method_7_code
def yX9_append : MethodName := ⟨RX9, "append", "(I)Z"⟩
abbrev cX11_read : ByteArray := prog_1_method_3_code
def yX11_read : MethodName := ⟨RX11, "read", "()I"⟩
abbrev cX5_takeIn : ByteArray := prog_7_method_4_code
def yX5_takeIn : MethodName := ⟨RX5, "takeIn", "(LWideNames$Row;LWideNames$Row;)I"⟩
abbrev cX9_at : ByteArray := prog_11_method_3_code
def yX9_at : MethodName := ⟨RX9, "at", "(I)I"⟩
abbrev cX5_followersOf : ByteArray := prog_7_method_5_code
def yX5_followersOf : MethodName := ⟨RX5, "followersOf", "(I)I"⟩
abbrev cX5_bitsOfFirst : ByteArray := prog_7_method_6_code
def yX5_bitsOfFirst : MethodName := ⟨RX5, "bitsOfFirst", "(II)I"⟩
abbrev cX5_lowestSecond : ByteArray := prog_7_method_7_code
def yX5_lowestSecond : MethodName := ⟨RX5, "lowestSecond", "(I)I"⟩
abbrev cX5_highestSecond : ByteArray := prog_7_method_8_code
def yX5_highestSecond : MethodName := ⟨RX5, "highestSecond", "(I)I"⟩
abbrev cX11_refusalOfText : ByteArray := prog_1_method_20_code
def yX11_refusalOfText : MethodName := ⟨RX11, "refusalOfText", "(I)I"⟩
abbrev cX9_become : ByteArray := prog_11_method_10_code
def yX9_become : MethodName := ⟨RX9, "become", "(LWideNames$Row;)V"⟩
abbrev cX9_appendFrom : ByteArray := prog_11_method_8_code
def yX9_appendFrom : MethodName := ⟨RX9, "appendFrom", "(LWideNames$Row;II)Z"⟩
abbrev cX11_point : ByteArray := prog_1_method_4_code
def yX11_point : MethodName := ⟨RX11, "point", "(I)I"⟩
abbrev cX11_add : ByteArray := prog_1_method_5_code
def yX11_add : MethodName := ⟨RX11, "add", "(I)I"⟩
abbrev cX5_isPoint : ByteArray := prog_7_method_2_code
def yX5_isPoint : MethodName := ⟨RX5, "isPoint", "(J)Z"⟩
abbrev cX11_status : ByteArray := prog_1_method_6_code
def yX11_status : MethodName := ⟨RX11, "status", "(III)I"⟩
abbrev cX10_tell : ByteArray := prog_12_method_2_code
def yX10_tell : MethodName := ⟨RX10, "tell", "(III)I"⟩
abbrev cX5_isSpan : ByteArray := prog_7_method_3_code
def yX5_isSpan : MethodName := ⟨RX5, "isSpan", "(II)Z"⟩
abbrev cX10_keep : ByteArray := prog_12_method_4_code
def yX10_keep : MethodName := ⟨RX10, "keep", "(III)Z"⟩
abbrev cX11_map : ByteArray := prog_1_method_7_code
def yX11_map : MethodName := ⟨RX11, "map", "(I)I"⟩
abbrev cX10_tellMapping : ByteArray := prog_12_method_3_code
def yX10_tellMapping : MethodName := ⟨RX10, "tellMapping", "(ILWideNames$Row;)I"⟩
abbrev cX11_parts : ByteArray := prog_1_method_8_code
def yX11_parts : MethodName := ⟨RX11, "parts", "(IIIZ)I"⟩
abbrev cX6_tell : ByteArray := prog_8_method_2_code
def yX6_tell : MethodName := ⟨RX6, "tell", "(IIIZ)I"⟩
abbrev cX6_mayBePart : ByteArray := prog_8_method_3_code
def yX6_mayBePart : MethodName := ⟨RX6, "mayBePart", "(II)Z"⟩
abbrev cX6_isOfSyllables : ByteArray := prog_8_method_4_code
def yX6_isOfSyllables : MethodName := ⟨RX6, "isOfSyllables", "(I)Z"⟩
abbrev cX6_isSyllable : ByteArray := prog_8_method_5_code
def yX6_isSyllable : MethodName := ⟨RX6, "isSyllable", "(I)Z"⟩
abbrev cX6_isLead : ByteArray := prog_8_method_6_code
def yX6_isLead : MethodName := ⟨RX6, "isLead", "(I)Z"⟩
abbrev cX6_isVowel : ByteArray := prog_8_method_7_code
def yX6_isVowel : MethodName := ⟨RX6, "isVowel", "(I)Z"⟩
abbrev cX6_isTail : ByteArray := prog_8_method_8_code
def yX6_isTail : MethodName := ⟨RX6, "isTail", "(I)Z"⟩
abbrev cX6_find : ByteArray := prog_8_method_9_code
def yX6_find : MethodName := ⟨RX6, "find", "(I)I"⟩
abbrev cX6_findPair : ByteArray := prog_8_method_12_code
def yX6_findPair : MethodName := ⟨RX6, "findPair", "(II)I"⟩
abbrev cX11_rank : ByteArray := prog_1_method_9_code
def yX11_rank : MethodName := ⟨RX11, "rank", "(II)I"⟩
abbrev cX8_tell : ByteArray := prog_10_method_2_code
def yX8_tell : MethodName := ⟨RX8, "tell", "(II)I"⟩
abbrev cX8_find : ByteArray := prog_10_method_5_code
def yX8_find : MethodName := ⟨RX8, "find", "(I)I"⟩
abbrev cX11_range : ByteArray := prog_1_method_10_code
def yX11_range : MethodName := ⟨RX11, "range", "(IIII)I"⟩
abbrev cX7_tell : ByteArray := prog_9_method_2_code
def yX7_tell : MethodName := ⟨RX7, "tell", "(IIII)I"⟩
abbrev cX7_highestOf : ByteArray := prog_9_method_3_code
def yX7_highestOf : MethodName := ⟨RX7, "highestOf", "(I)I"⟩
abbrev cX11_about : ByteArray := prog_1_method_11_code
def yX11_about : MethodName := ⟨RX11, "about", "(II)I"⟩
abbrev cX10_of : ByteArray := prog_12_method_5_code
def yX10_of : MethodName := ⟨RX10, "of", "(I)I"⟩
abbrev cX10_latestAbout : ByteArray := prog_12_method_6_code
def yX10_latestAbout : MethodName := ⟨RX10, "latestAbout", "(I)I"⟩
abbrev cX10_atFirst : ByteArray := prog_12_method_7_code
def yX10_atFirst : MethodName := ⟨RX10, "atFirst", "(I)I"⟩
abbrev cX8_of : ByteArray := prog_10_method_3_code
def yX8_of : MethodName := ⟨RX8, "of", "(I)I"⟩
abbrev cX7_of : ByteArray := prog_9_method_4_code
def yX7_of : MethodName := ⟨RX7, "of", "(II)I"⟩
abbrev cX7_directionAtFirst : ByteArray := prog_9_method_5_code
def yX7_directionAtFirst : MethodName := ⟨RX7, "directionAtFirst", "(I)I"⟩
abbrev cX11_form : ByteArray := prog_1_method_12_code
def yX11_form : MethodName := ⟨RX11, "form", "(I)I"⟩
abbrev cX1_takeApart : ByteArray := prog_3_method_2_code
def yX1_takeApart : MethodName := ⟨RX1, "takeApart", "(LWideNames$Row;LWideNames$Row;)Z"⟩
abbrev cX1_appendSyllable : ByteArray := prog_3_method_3_code
def yX1_appendSyllable : MethodName := ⟨RX1, "appendSyllable", "(ILWideNames$Row;)Z"⟩
abbrev cX6_tailOf : ByteArray := prog_8_method_15_code
def yX6_tailOf : MethodName := ⟨RX6, "tailOf", "(I)I"⟩
abbrev cX6_leadOf : ByteArray := prog_8_method_13_code
def yX6_leadOf : MethodName := ⟨RX6, "leadOf", "(I)I"⟩
abbrev cX6_vowelOf : ByteArray := prog_8_method_14_code
def yX6_vowelOf : MethodName := ⟨RX6, "vowelOf", "(I)I"⟩
abbrev cX1_appendParts : ByteArray := prog_3_method_4_code
def yX1_appendParts : MethodName := ⟨RX1, "appendParts", "(ILWideNames$Row;)Z"⟩
abbrev cX6_laterAt : ByteArray := prog_8_method_11_code
def yX6_laterAt : MethodName := ⟨RX6, "laterAt", "(I)I"⟩
abbrev cX6_earlierAt : ByteArray := prog_8_method_10_code
def yX6_earlierAt : MethodName := ⟨RX6, "earlierAt", "(I)I"⟩
abbrev cX8_takeAll : ByteArray := prog_10_method_4_code
def yX8_takeAll : MethodName := ⟨RX8, "takeAll", "(LWideNames$Row;LWideNames$Row;)V"⟩
abbrev cX1_sortByRanks : ByteArray := prog_3_method_5_code
def yX1_sortByRanks : MethodName := ⟨RX1, "sortByRanks", "(LWideNames$Row;)V"⟩
abbrev cX9_put : ByteArray := prog_11_method_4_code
def yX9_put : MethodName := ⟨RX9, "put", "(II)V"⟩
abbrev cX1_bringIntoForm : ByteArray := prog_3_method_6_code
def yX1_bringIntoForm : MethodName := ⟨RX1, "bringIntoForm", "(LWideNames$Row;LWideNames$Row;)Z"⟩
abbrev cX1_reaches : ByteArray := prog_3_method_7_code
def yX1_reaches : MethodName := ⟨RX1, "reaches", "(III)Z"⟩
abbrev cX6_together : ByteArray := prog_8_method_16_code
def yX6_together : MethodName := ⟨RX6, "together", "(II)I"⟩
abbrev cX9_cut : ByteArray := prog_11_method_6_code
def yX9_cut : MethodName := ⟨RX9, "cut", "(I)V"⟩
abbrev cX11_inForm : ByteArray := prog_1_method_13_code
def yX11_inForm : MethodName := ⟨RX11, "inForm", "()I"⟩
abbrev cX9_isLike : ByteArray := prog_11_method_12_code
def yX9_isLike : MethodName := ⟨RX9, "isLike", "(LWideNames$Row;)Z"⟩
abbrev cX9_firstDifference : ByteArray := prog_11_method_11_code
def yX9_firstDifference : MethodName := ⟨RX9, "firstDifference", "(LWideNames$Row;)I"⟩
abbrev cJ9_min_7cf53 : ByteArray := prog_15_method_69_code
def yJ9_min_7cf53 : MethodName := ⟨RJ9, "min", "(II)I"⟩
abbrev cX11_alike : ByteArray := prog_1_method_14_code
def yX11_alike : MethodName := ⟨RX11, "alike", "()I"⟩
abbrev cX11_encode : ByteArray := prog_1_method_15_code
def yX11_encode : MethodName := ⟨RX11, "encode", "()I"⟩
abbrev cX4_fold : ByteArray := prog_6_method_2_code
def yX4_fold : MethodName := ⟨RX4, "fold", "(LWideNames$Row;IILWideNames$Row;)I"⟩
abbrev cX4_foldWide : ByteArray := prog_6_method_3_code
def yX4_foldWide : MethodName := ⟨RX4, "foldWide", "(LWideNames$Row;IIILWideNames$Row;)I"⟩
abbrev cX4_leastFrom : ByteArray := prog_6_method_4_code
def yX4_leastFrom : MethodName := ⟨RX4, "leastFrom", "(LWideNames$Row;III)I"⟩
abbrev cX4_appendNumber : ByteArray := prog_6_method_5_code
def yX4_appendNumber : MethodName := ⟨RX4, "appendNumber", "(JILWideNames$Row;)Z"⟩
abbrev cX4_threshold : ByteArray := prog_6_method_6_code
def yX4_threshold : MethodName := ⟨RX4, "threshold", "(II)I"⟩
abbrev cX4_digitOf : ByteArray := prog_6_method_8_code
def yX4_digitOf : MethodName := ⟨RX4, "digitOf", "(I)I"⟩
abbrev cX4_adapted : ByteArray := prog_6_method_7_code
def yX4_adapted : MethodName := ⟨RX4, "adapted", "(JIZ)I"⟩
abbrev cX11_decode : ByteArray := prog_1_method_16_code
def yX11_decode : MethodName := ⟨RX11, "decode", "()I"⟩
abbrev cX4_unfold : ByteArray := prog_6_method_10_code
def yX4_unfold : MethodName := ⟨RX4, "unfold", "(LWideNames$Row;ILWideNames$Row;)I"⟩
abbrev cX4_unfoldDigits : ByteArray := prog_6_method_11_code
def yX4_unfoldDigits : MethodName := ⟨RX4, "unfoldDigits", "(LWideNames$Row;ILWideNames$Row;)I"⟩
abbrev cX4_valueOf : ByteArray := prog_6_method_9_code
def yX4_valueOf : MethodName := ⟨RX4, "valueOf", "(I)I"⟩
abbrev cX9_insert : ByteArray := prog_11_method_9_code
def yX9_insert : MethodName := ⟨RX9, "insert", "(II)Z"⟩
abbrev cX11_make : ByteArray := prog_1_method_17_code
def yX11_make : MethodName := ⟨RX11, "make", "(Z)I"⟩
abbrev cX0_build : ByteArray := prog_2_method_5_code
def yX0_build : MethodName := ⟨RX0, "build", "(LWideNames$Row;Z)Z"⟩
abbrev cX3_clear : ByteArray := prog_5_method_2_code
def yX3_clear : MethodName := ⟨RX3, "clear", "()V"⟩
abbrev cX0_takeText : ByteArray := prog_2_method_7_code
def yX0_takeText : MethodName := ⟨RX0, "takeText", "(LWideNames$Row;)Z"⟩
abbrev cX0_fail : ByteArray := prog_2_method_6_code
def yX0_fail : MethodName := ⟨RX0, "fail", "(III)Z"⟩
abbrev cX0_replaceAll : ByteArray := prog_2_method_8_code
def yX0_replaceAll : MethodName := ⟨RX0, "replaceAll", "()Z"⟩
abbrev cX10_appendMapped : ByteArray := prog_12_method_8_code
def yX10_appendMapped : MethodName := ⟨RX10, "appendMapped", "(ILWideNames$Row;)Z"⟩
abbrev cX0_formAll : ByteArray := prog_2_method_9_code
def yX0_formAll : MethodName := ⟨RX0, "formAll", "()Z"⟩
abbrev cX0_lookAtLabels : ByteArray := prog_2_method_10_code
def yX0_lookAtLabels : MethodName := ⟨RX0, "lookAtLabels", "()Z"⟩
abbrev cX0_unfoldLabel : ByteArray := prog_2_method_13_code
def yX0_unfoldLabel : MethodName := ⟨RX0, "unfoldLabel", "()Z"⟩
abbrev cX0_hasPrefix : ByteArray := prog_2_method_12_code
def yX0_hasPrefix : MethodName := ⟨RX0, "hasPrefix", "()Z"⟩
abbrev cX3_count : ByteArray := prog_5_method_4_code
def yX3_count : MethodName := ⟨RX3, "count", "()I"⟩
abbrev cX3_hasWide : ByteArray := prog_5_method_10_code
def yX3_hasWide : MethodName := ⟨RX3, "hasWide", "(LWideNames$Row;II)Z"⟩
abbrev cX0_followsRules : ByteArray := prog_2_method_11_code
def yX0_followsRules : MethodName := ⟨RX0, "followsRules", "()Z"⟩
abbrev cX2_look : ByteArray := prog_4_method_3_code
def yX2_look : MethodName := ⟨RX2, "look", "(LWideNames$Row;)I"⟩
abbrev cX2_found : ByteArray := prog_4_method_4_code
def yX2_found : MethodName := ⟨RX2, "found", "(II)I"⟩
abbrev cX2_lookAtJoiners : ByteArray := prog_4_method_5_code
def yX2_lookAtJoiners : MethodName := ⟨RX2, "lookAtJoiners", "(LWideNames$Row;)I"⟩
abbrev cX2_standsBetweenJoining : ByteArray := prog_4_method_6_code
def yX2_standsBetweenJoining : MethodName := ⟨RX2, "standsBetweenJoining", "(I)Z"⟩
abbrev cX2_joins : ByteArray := prog_4_method_7_code
def yX2_joins : MethodName := ⟨RX2, "joins", "(II)Z"⟩
abbrev cX2_place : ByteArray := prog_4_method_2_code
def yX2_place : MethodName := ⟨RX2, "place", "()I"⟩
abbrev cX3_append : ByteArray := prog_5_method_3_code
def yX3_append : MethodName := ⟨RX3, "append", "(LWideNames$Row;)V"⟩
abbrev cX0_lookAtDirections : ByteArray := prog_2_method_14_code
def yX0_lookAtDirections : MethodName := ⟨RX0, "lookAtDirections", "()Z"⟩
abbrev cX3_points : ByteArray := prog_5_method_5_code
def yX3_points : MethodName := ⟨RX3, "points", "()LWideNames$Row;"⟩
abbrev cX2_goesRight : ByteArray := prog_4_method_8_code
def yX2_goesRight : MethodName := ⟨RX2, "goesRight", "(LWideNames$Row;)Z"⟩
abbrev cX2_isOf : ByteArray := prog_4_method_9_code
def yX2_isOf : MethodName := ⟨RX2, "isOf", "(II)Z"⟩
abbrev cX3_isEmpty : ByteArray := prog_5_method_8_code
def yX3_isEmpty : MethodName := ⟨RX3, "isEmpty", "(I)Z"⟩
abbrev cX3_start : ByteArray := prog_5_method_6_code
def yX3_start : MethodName := ⟨RX3, "start", "(I)I"⟩
abbrev cX3_end : ByteArray := prog_5_method_7_code
def yX3_end : MethodName := ⟨RX3, "end", "(I)I"⟩
abbrev cX2_placeOfWrongDirection : ByteArray := prog_4_method_10_code
def yX2_placeOfWrongDirection : MethodName := ⟨RX2, "placeOfWrongDirection", "(II)I"⟩
abbrev cX2_placeOfOtherNumber : ByteArray := prog_4_method_11_code
def yX2_placeOfOtherNumber : MethodName := ⟨RX2, "placeOfOtherNumber", "(II)I"⟩
abbrev cX0_writePlain : ByteArray := prog_2_method_16_code
def yX0_writePlain : MethodName := ⟨RX0, "writePlain", "()Z"⟩
abbrev cX0_takePlainLabel : ByteArray := prog_2_method_17_code
def yX0_takePlainLabel : MethodName := ⟨RX0, "takePlainLabel", "(I)Z"⟩
abbrev cX3_isWide : ByteArray := prog_5_method_9_code
def yX3_isWide : MethodName := ⟨RX3, "isWide", "(I)Z"⟩
abbrev cX0_lookAtPlainSizes : ByteArray := prog_2_method_18_code
def yX0_lookAtPlainSizes : MethodName := ⟨RX0, "lookAtPlainSizes", "()Z"⟩
abbrev cX0_writeWide : ByteArray := prog_2_method_15_code
def yX0_writeWide : MethodName := ⟨RX0, "writeWide", "()Z"⟩
abbrev cX5_putOut : ByteArray := prog_7_method_9_code
def yX5_putOut : MethodName := ⟨RX5, "putOut", "(ILWideNames$Row;)Z"⟩
abbrev cX5_putFollower : ByteArray := prog_7_method_10_code
def yX5_putFollower : MethodName := ⟨RX5, "putFollower", "(ILWideNames$Row;)Z"⟩
abbrev cX0_madeSize : ByteArray := prog_2_method_2_code
def yX0_madeSize : MethodName := ⟨RX0, "madeSize", "()I"⟩
abbrev cX0_told : ByteArray := prog_2_method_4_code
def yX0_told : MethodName := ⟨RX0, "told", "(I)I"⟩
abbrev cX11_fault : ByteArray := prog_1_method_18_code
def yX11_fault : MethodName := ⟨RX11, "fault", "(I)I"⟩
abbrev cX11_octet : ByteArray := prog_1_method_19_code
def yX11_octet : MethodName := ⟨RX11, "octet", "(I)I"⟩
abbrev cX0_madeOctet : ByteArray := prog_2_method_3_code
def yX0_madeOctet : MethodName := ⟨RX0, "madeOctet", "(I)I"⟩
abbrev cX12_init : ByteArray := prog_14_method_1_code
def yX12_init : MethodName := ⟨RX12, "<init>", "()V"⟩
abbrev cX12_feed : ByteArray := prog_14_method_5_code
def yX12_feed : MethodName := ⟨RX12, "feed", "(JI)I"⟩
abbrev cX12_in : ByteArray := prog_14_method_3_code
def yX12_in : MethodName := ⟨RX12, "in", "(III)Z"⟩
abbrev cX12_read : ByteArray := prog_14_method_8_code
def yX12_read : MethodName := ⟨RX12, "read", "()I"⟩
abbrev cX12_readText : ByteArray := prog_14_method_7_code
def yX12_readText : MethodName := ⟨RX12, "readText", "()V"⟩
abbrev cX12_octetAt : ByteArray := prog_14_method_6_code
def yX12_octetAt : MethodName := ⟨RX12, "octetAt", "(I)I"⟩
abbrev cX12_point : ByteArray := prog_14_method_9_code
def yX12_point : MethodName := ⟨RX12, "point", "(I)I"⟩
abbrev cX12_add : ByteArray := prog_14_method_10_code
def yX12_add : MethodName := ⟨RX12, "add", "(I)I"⟩
abbrev cX12_isPoint : ByteArray := prog_14_method_4_code
def yX12_isPoint : MethodName := ⟨RX12, "isPoint", "(I)Z"⟩
abbrev cX12_status : ByteArray := prog_14_method_12_code
def yX12_status : MethodName := ⟨RX12, "status", "(III)I"⟩
abbrev cX12_told : ByteArray := prog_14_method_11_code
def yX12_told : MethodName := ⟨RX12, "told", "(III)V"⟩
abbrev cX12_map : ByteArray := prog_14_method_13_code
def yX12_map : MethodName := ⟨RX12, "map", "(I)I"⟩
abbrev cX12_parts : ByteArray := prog_14_method_18_code
def yX12_parts : MethodName := ⟨RX12, "parts", "(IIIZ)I"⟩
abbrev cX12_isLetter : ByteArray := prog_14_method_17_code
def yX12_isLetter : MethodName := ⟨RX12, "isLetter", "(I)Z"⟩
abbrev cX12_isSyllable : ByteArray := prog_14_method_16_code
def yX12_isSyllable : MethodName := ⟨RX12, "isSyllable", "(I)Z"⟩
abbrev cX12_rank : ByteArray := prog_14_method_21_code
def yX12_rank : MethodName := ⟨RX12, "rank", "(II)I"⟩
abbrev cX12_rankAt : ByteArray := prog_14_method_19_code
def yX12_rankAt : MethodName := ⟨RX12, "rankAt", "(I)I"⟩
abbrev cX12_rankOf : ByteArray := prog_14_method_20_code
def yX12_rankOf : MethodName := ⟨RX12, "rankOf", "(I)I"⟩
abbrev cX12_range : ByteArray := prog_14_method_22_code
def yX12_range : MethodName := ⟨RX12, "range", "(IIII)I"⟩
abbrev cX12_about : ByteArray := prog_14_method_24_code
def yX12_about : MethodName := ⟨RX12, "about", "(II)I"⟩
abbrev cX12_statusOf : ByteArray := prog_14_method_15_code
def yX12_statusOf : MethodName := ⟨RX12, "statusOf", "(I)I"⟩
abbrev cX12_thing : ByteArray := prog_14_method_14_code
def yX12_thing : MethodName := ⟨RX12, "thing", "(I)I"⟩
abbrev cX12_rangeOf : ByteArray := prog_14_method_23_code
def yX12_rangeOf : MethodName := ⟨RX12, "rangeOf", "(II)I"⟩
abbrev cX12_form : ByteArray := prog_14_method_29_code
def yX12_form : MethodName := ⟨RX12, "form", "(I)I"⟩
abbrev cX12_oneForm : ByteArray := prog_14_method_28_code
def yX12_oneForm : MethodName := ⟨RX12, "oneForm", "([III)Z"⟩
abbrev cX12_takeApart : ByteArray := prog_14_method_26_code
def yX12_takeApart : MethodName := ⟨RX12, "takeApart", "([III)Z"⟩
abbrev cX12_partOf : ByteArray := prog_14_method_25_code
def yX12_partOf : MethodName := ⟨RX12, "partOf", "(I)I"⟩
abbrev cX12_together : ByteArray := prog_14_method_27_code
def yX12_together : MethodName := ⟨RX12, "together", "(II)I"⟩
abbrev cX12_inForm : ByteArray := prog_14_method_31_code
def yX12_inForm : MethodName := ⟨RX12, "inForm", "()I"⟩
abbrev cX12_firstOther : ByteArray := prog_14_method_30_code
def yX12_firstOther : MethodName := ⟨RX12, "firstOther", "([III)I"⟩
abbrev cX12_alike : ByteArray := prog_14_method_32_code
def yX12_alike : MethodName := ⟨RX12, "alike", "()I"⟩
abbrev cX12_encode : ByteArray := prog_14_method_39_code
def yX12_encode : MethodName := ⟨RX12, "encode", "()I"⟩
abbrev cX12_encoded : ByteArray := prog_14_method_37_code
def yX12_encoded : MethodName := ⟨RX12, "encoded", "([III)Z"⟩
abbrev cX12_letter : ByteArray := prog_14_method_36_code
def yX12_letter : MethodName := ⟨RX12, "letter", "(I)V"⟩
abbrev cX12_write : ByteArray := prog_14_method_38_code
def yX12_write : MethodName := ⟨RX12, "write", "(JI)V"⟩
abbrev cX12_bound : ByteArray := prog_14_method_34_code
def yX12_bound : MethodName := ⟨RX12, "bound", "(II)I"⟩
abbrev cX12_digit : ByteArray := prog_14_method_33_code
def yX12_digit : MethodName := ⟨RX12, "digit", "(I)I"⟩
abbrev cX12_adapted : ByteArray := prog_14_method_35_code
def yX12_adapted : MethodName := ⟨RX12, "adapted", "(JIZ)I"⟩
abbrev cX12_decode : ByteArray := prog_14_method_42_code
def yX12_decode : MethodName := ⟨RX12, "decode", "()I"⟩
abbrev cX12_decoded : ByteArray := prog_14_method_41_code
def yX12_decoded : MethodName := ⟨RX12, "decoded", "([III)I"⟩
abbrev cX12_value : ByteArray := prog_14_method_40_code
def yX12_value : MethodName := ⟨RX12, "value", "(I)I"⟩
abbrev cX12_make : ByteArray := prog_14_method_57_code
def yX12_make : MethodName := ⟨RX12, "make", "(Z)I"⟩
abbrev cX12_makeAll : ByteArray := prog_14_method_56_code
def yX12_makeAll : MethodName := ⟨RX12, "makeAll", "(Z)V"⟩
abbrev cX12_wrong : ByteArray := prog_14_method_43_code
def yX12_wrong : MethodName := ⟨RX12, "wrong", "(III)Z"⟩
abbrev cX12_mapAll : ByteArray := prog_14_method_44_code
def yX12_mapAll : MethodName := ⟨RX12, "mapAll", "()Z"⟩
abbrev cX12_part : ByteArray := prog_14_method_45_code
def yX12_part : MethodName := ⟨RX12, "part", "()V"⟩
abbrev cX12_lookAt : ByteArray := prog_14_method_47_code
def yX12_lookAt : MethodName := ⟨RX12, "lookAt", "(I)Z"⟩
abbrev cX12_unfold : ByteArray := prog_14_method_46_code
def yX12_unfold : MethodName := ⟨RX12, "unfold", "(I)Z"⟩
abbrev cX12_fits : ByteArray := prog_14_method_48_code
def yX12_fits : MethodName := ⟨RX12, "fits", "(III)Z"⟩
abbrev cX12_directions : ByteArray := prog_14_method_49_code
def yX12_directions : MethodName := ⟨RX12, "directions", "()Z"⟩
abbrev cX12_direction : ByteArray := prog_14_method_50_code
def yX12_direction : MethodName := ⟨RX12, "direction", "(I)Z"⟩
abbrev cX12_plain : ByteArray := prog_14_method_55_code
def yX12_plain : MethodName := ⟨RX12, "plain", "()V"⟩
abbrev cX12_octetOut : ByteArray := prog_14_method_51_code
def yX12_octetOut : MethodName := ⟨RX12, "octetOut", "(I)V"⟩
abbrev cX12_plainLabel : ByteArray := prog_14_method_54_code
def yX12_plainLabel : MethodName := ⟨RX12, "plainLabel", "(I)V"⟩
abbrev cX12_wide : ByteArray := prog_14_method_53_code
def yX12_wide : MethodName := ⟨RX12, "wide", "()V"⟩
abbrev cX12_pointOut : ByteArray := prog_14_method_52_code
def yX12_pointOut : MethodName := ⟨RX12, "pointOut", "(I)V"⟩
abbrev cX12_fault : ByteArray := prog_14_method_58_code
def yX12_fault : MethodName := ⟨RX12, "fault", "(I)I"⟩
abbrev cX12_octet : ByteArray := prog_14_method_59_code
def yX12_octet : MethodName := ⟨RX12, "octet", "(I)I"⟩
abbrev vwCl : List vw_C := [(RX0, TX0, 13), (RX1, TX1, 4), (RX2, TX2, 6), (RX3, TX3, 3), (RX6, TX6, 5), (RX7, TX7, 5), (RX8, TX8, 3), (RX9, TX9, 2), (RX10, TX10, 6), (RX11, TX11, 10), (RX12, TX12, 53)]
/-- the tables' words that stay true, each at its place (the others give way to tt) -/
def mm_gw (w : Jvm.Cond) : Jvm.Cond := if goodWord w = true then w else .tt
def mm_tbl : List Jvm.Cond := lw_tbl.map mm_gw
theorem mm_gw_good (w : Jvm.Cond) : goodWord (mm_gw w) = true := by
  unfold mm_gw
  split
  · assumption
  · rfl
theorem mm_tbl_good : ∀ w ∈ mm_tbl, goodWord w = true := by
  intro w hw
  obtain ⟨v, -, rfl⟩ := List.mem_map.mp hw
  exact mm_gw_good v
theorem mm_tbl_of {w : Jvm.Cond} (h : w ∈ lw_tbl) (hg : goodWord w = true) : w ∈ mm_tbl := List.mem_map.mpr ⟨w, h, if_pos hg⟩
theorem mm_tin {ws : List Jvm.Cond} (h : ∀ w ∈ ws, w ∈ lw_tbl) (hg : ws.all goodWord = true) : ∀ w ∈ ws, w ∈ mm_tbl := fun w hw => mm_tbl_of (h w hw) (List.all_eq_true.mp hg w hw)
theorem mm_tbl_hts {args : Array Value} {s : State} (h : ∀ w ∈ lw_tbl, w.before args s = true) : ∀ w ∈ mm_tbl, w.before args s = true := by
  intro w hw
  obtain ⟨v, hv, rfl⟩ := List.mem_map.mp hw
  unfold mm_gw
  split
  · exact h v hv
  · rfl
theorem mm_in0 : ∀ w ∈ u_ws RX0 TX0 13, w ∈ mm_tbl := mm_tin (by decide +kernel) (by decide +kernel)
theorem mm_in1 : ∀ w ∈ u_ws RX1 TX1 4, w ∈ mm_tbl := mm_tin (by decide +kernel) (by decide +kernel)
theorem mm_in2 : ∀ w ∈ u_ws RX2 TX2 6, w ∈ mm_tbl := mm_tin (by decide +kernel) (by decide +kernel)
theorem mm_in3 : ∀ w ∈ u_ws RX3 TX3 3, w ∈ mm_tbl := mm_tin (by decide +kernel) (by decide +kernel)
theorem mm_in4 : ∀ w ∈ u_ws RX6 TX6 5, w ∈ mm_tbl := mm_tin (by decide +kernel) (by decide +kernel)
theorem mm_in5 : ∀ w ∈ u_ws RX7 TX7 5, w ∈ mm_tbl := mm_tin (by decide +kernel) (by decide +kernel)
theorem mm_in6 : ∀ w ∈ u_ws RX8 TX8 3, w ∈ mm_tbl := mm_tin (by decide +kernel) (by decide +kernel)
theorem mm_in7 : ∀ w ∈ u_ws RX9 TX9 2, w ∈ mm_tbl := mm_tin (by decide +kernel) (by decide +kernel)
theorem mm_in8 : ∀ w ∈ u_ws RX10 TX10 6, w ∈ mm_tbl := mm_tin (by decide +kernel) (by decide +kernel)
theorem mm_in9 : ∀ w ∈ u_ws RX11 TX11 10, w ∈ mm_tbl := mm_tin (by decide +kernel) (by decide +kernel)
theorem mm_in10 : ∀ w ∈ u_ws RX12 TX12 53, w ∈ mm_tbl := mm_tin (by decide +kernel) (by decide +kernel)
/-- the fields' types, by class and place -/
def mm_ty (ci k : Nat) : FieldType := match ci with
  | 0 => tyX0 k
  | 1 => tyX1 k
  | 2 => tyX2 k
  | 3 => tyX3 k
  | 4 => tyX6 k
  | 5 => tyX7 k
  | 6 => tyX8 k
  | 7 => tyX9 k
  | 8 => tyX10 k
  | 9 => tyX11 k
  | _ => tyX12 k
theorem mm_cls_ok : ∀ (ci : Nat) (C : String) (T : u_T) (N : Nat), vwCl[ci]? = some (C, T, N) → (∀ w ∈ u_ws C T N, w ∈ mm_tbl) ∧ (∀ k, k < N → parseFieldDescriptor (T k).2.2.1 = some (mm_ty ci k)) ∧ (∀ a, a < N → ∀ b, b < N → a ≠ b → (T a).2.1 ≠ (T b).2.1) := by
  intro ci C T N h
  match ci, h with
  | 0, h => cases h; exact ⟨mm_in0, tyX0_ok, nmX0⟩
  | 1, h => cases h; exact ⟨mm_in1, tyX1_ok, nmX1⟩
  | 2, h => cases h; exact ⟨mm_in2, tyX2_ok, nmX2⟩
  | 3, h => cases h; exact ⟨mm_in3, tyX3_ok, nmX3⟩
  | 4, h => cases h; exact ⟨mm_in4, tyX6_ok, nmX6⟩
  | 5, h => cases h; exact ⟨mm_in5, tyX7_ok, nmX7⟩
  | 6, h => cases h; exact ⟨mm_in6, tyX8_ok, nmX8⟩
  | 7, h => cases h; exact ⟨mm_in7, tyX9_ok, nmX9⟩
  | 8, h => cases h; exact ⟨mm_in8, tyX10_ok, nmX10⟩
  | 9, h => cases h; exact ⟨mm_in9, tyX11_ok, nmX11⟩
  | 10, h => cases h; exact ⟨mm_in10, tyX12_ok, nmX12⟩
  | j + 11, h => exact absurd h (by simp [vwCl])
end
section
/-! A SMALL MACHINE, in pure words: cells by numbers, ints and longs as integers. Part 05 says that the Statement's machine does what it does. -/
abbrev mm_V : Type := Int ⊕ (Int ⊕ Option Nat)
abbrev mm_C : Type := (Nat × Nat × (Nat → Int)) ⊕ (Nat × List mm_V)
abbrev mm_H : Type := Nat → mm_C
/-- an instruction: itself, its length, a constant, two numbers, the places of its words among lw_tbl -/
abbrev mm_I : Type := Instr × Nat × Int × Nat × Nat × List Nat
abbrev mm_F : Type := Nat × List mm_V × List mm_V × mm_H
abbrev mm_O : Type := mm_F ⊕ ((Option mm_V × mm_H) ⊕ (Nat × List mm_V × Nat × List mm_V × List mm_V × mm_H))
def mm_w32 (z : Int) : Int := (z + 2147483648) % 4294967296 - 2147483648
def mm_w64 (z : Int) : Int := (z + 9223372036854775808) % 18446744073709551616 - 9223372036854775808
def mm_w8 (z : Int) : Int := (z + 128) % 256 - 128
def mm_null : mm_V := .inr (.inr none)
def mm_dead : mm_C := .inr (99, [])
def mm_up (h : mm_H) (a : Nat) (c : mm_C) : mm_H := fun b => if b = a then c else h b
def mm_st (f : Nat → Int) (k : Nat) (z : Int) : Nat → Int := fun j => if j = k then z else f j
def mm_get (ls : List mm_V) (i : Nat) : mm_V := ls.getD i mm_null
def mm_wide : mm_V → Bool
  | .inr (.inl _) => true
  | _ => false
def mm_ok1 (ls : List mm_V) : Nat → Bool
  | 0 => true
  | j + 1 => !(mm_wide (mm_get ls j))
def mm_cat : List mm_V → Nat
  | [] => 0
  | v :: r => (if mm_wide v = true then 2 else 1) + mm_cat r
def mm_spread : List mm_V → List mm_V
  | [] => []
  | v :: r => if mm_wide v = true then v :: mm_null :: mm_spread r else v :: mm_spread r
def mm_pad (n : Nat) (l : List mm_V) : List mm_V := l ++ List.replicate (n - l.length) mm_null
def mm_arr (h : mm_H) (r : Option Nat) : Option (Nat × Nat × (Nat → Int)) := match r with
  | none => none
  | some a => match h a with
    | .inl x => some x
    | .inr _ => none
def mm_obj (h : mm_H) (r : Option Nat) (ci : Nat) : Option (List mm_V) := match r with
  | none => none
  | some a => match h a with
    | .inl _ => none
    | .inr x => if x.1 = ci then some x.2 else none
def mm_cmp : Jvm.ClassFile.Cond → Int → Int → Bool
  | .eq, x, y => decide (x = y)
  | .ne, x, y => decide (x ≠ y)
  | .lt, x, y => decide (x < y)
  | .ge, x, y => decide (y ≤ x)
  | .gt, x, y => decide (y < x)
  | .le, x, y => decide (x ≤ y)
-- the steps by kind
def mm_push (pc : Nat) (ls st : List mm_V) (h : mm_H) (v : mm_V) : Option mm_O := some (.inl (pc, ls, v :: st, h))
def mm_iload (pc : Nat) (ls st : List mm_V) (h : mm_H) (i : Nat) : Option mm_O := match mm_get ls i with
  | .inl z => some (.inl (pc, ls, .inl z :: st, h))
  | _ => none
def mm_lload (pc : Nat) (ls st : List mm_V) (h : mm_H) (i : Nat) : Option mm_O := match mm_get ls i with
  | .inr (.inl z) => some (.inl (pc, ls, .inr (.inl z) :: st, h))
  | _ => none
def mm_aload (pc : Nat) (ls st : List mm_V) (h : mm_H) (i : Nat) : Option mm_O := match mm_get ls i with
  | .inr (.inr (some a)) => some (.inl (pc, ls, .inr (.inr (some a)) :: st, h))
  | _ => none
def mm_istore (pc : Nat) (ls st : List mm_V) (h : mm_H) (i : Nat) : Option mm_O := match st with
  | .inl z :: r => if mm_ok1 ls i = true then some (.inl (pc, ls.set i (.inl z), r, h)) else none
  | _ => none
def mm_lstore (pc : Nat) (ls st : List mm_V) (h : mm_H) (i : Nat) : Option mm_O := match st with
  | .inr (.inl z) :: r => if mm_ok1 ls i = true then some (.inl (pc, (ls.set i (.inr (.inl z))).set (i + 1) mm_null, r, h)) else none
  | _ => none
def mm_astore (pc : Nat) (ls st : List mm_V) (h : mm_H) (i : Nat) : Option mm_O := match st with
  | .inr (.inr (some a)) :: r => if mm_ok1 ls i = true then some (.inl (pc, ls.set i (.inr (.inr (some a))), r, h)) else none
  | _ => none
def mm_iinc (pc : Nat) (ls st : List mm_V) (h : mm_H) (i : Nat) (c : Int) : Option mm_O := match mm_get ls i with
  | .inl z => if mm_ok1 ls i = true then some (.inl (pc, ls.set i (.inl (mm_w32 (z + c))), st, h)) else none
  | _ => none
def mm_bin (pc : Nat) (ls st : List mm_V) (h : mm_H) (f : Int → Int → Int) : Option mm_O := match st with
  | .inl y :: .inl x :: r => some (.inl (pc, ls, .inl (f x y) :: r, h))
  | _ => none
def mm_binz (pc : Nat) (ls st : List mm_V) (h : mm_H) (f : Int → Int → Int) : Option mm_O := match st with
  | .inl y :: .inl x :: r => if y = 0 then none else some (.inl (pc, ls, .inl (f x y) :: r, h))
  | _ => none
def mm_lbin (pc : Nat) (ls st : List mm_V) (h : mm_H) (f : Int → Int → Int) : Option mm_O := match st with
  | .inr (.inl y) :: .inr (.inl x) :: r => some (.inl (pc, ls, .inr (.inl (f x y)) :: r, h))
  | _ => none
def mm_lbinz (pc : Nat) (ls st : List mm_V) (h : mm_H) (f : Int → Int → Int) : Option mm_O := match st with
  | .inr (.inl y) :: .inr (.inl x) :: r => if y = 0 then none else some (.inl (pc, ls, .inr (.inl (f x y)) :: r, h))
  | _ => none
def mm_lsh (pc : Nat) (ls st : List mm_V) (h : mm_H) (f : Int → Int → Int) : Option mm_O := match st with
  | .inl y :: .inr (.inl x) :: r => some (.inl (pc, ls, .inr (.inl (f x y)) :: r, h))
  | _ => none
def mm_un (pc : Nat) (ls st : List mm_V) (h : mm_H) (f : Int → Int) : Option mm_O := match st with
  | .inl x :: r => some (.inl (pc, ls, .inl (f x) :: r, h))
  | _ => none
def mm_i2l (pc : Nat) (ls st : List mm_V) (h : mm_H) : Option mm_O := match st with
  | .inl x :: r => some (.inl (pc, ls, .inr (.inl x) :: r, h))
  | _ => none
def mm_l2i (pc : Nat) (ls st : List mm_V) (h : mm_H) : Option mm_O := match st with
  | .inr (.inl x) :: r => some (.inl (pc, ls, .inl (mm_w32 x) :: r, h))
  | _ => none
def mm_lcmp (pc : Nat) (ls st : List mm_V) (h : mm_H) : Option mm_O := match st with
  | .inr (.inl y) :: .inr (.inl x) :: r => some (.inl (pc, ls, .inl (if x < y then -1 else if x = y then 0 else 1) :: r, h))
  | _ => none
def mm_if (c : Jvm.ClassFile.Cond) (t pc : Nat) (ls st : List mm_V) (h : mm_H) : Option mm_O := match st with
  | .inl x :: r => if mm_cmp c x 0 = true then some (.inl (t, ls, r, h)) else some (.inl (pc, ls, r, h))
  | _ => none
def mm_icmp (c : Jvm.ClassFile.Cond) (t pc : Nat) (ls st : List mm_V) (h : mm_H) : Option mm_O := match st with
  | .inl y :: .inl x :: r => if mm_cmp c x y = true then some (.inl (t, ls, r, h)) else some (.inl (pc, ls, r, h))
  | _ => none
def mm_switch (pc : Nat) (d lo hi : Int) (offs : Array Int) (ls st : List mm_V) (h : mm_H) : Option mm_O := match st with
  | .inl x :: r => if x < lo ∨ hi < x then some (.inl (((pc : Int) + d).toNat, ls, r, h)) else
      match offs[(x - lo).toNat]? with
      | some o => some (.inl (((pc : Int) + o).toNat, ls, r, h))
      | none => none
  | _ => none
def mm_dup (pc : Nat) (ls st : List mm_V) (h : mm_H) : Option mm_O := match st with
  | v :: r => if mm_wide v = true then none else some (.inl (pc, ls, v :: v :: r, h))
  | _ => none
def mm_dup2 (pc : Nat) (ls st : List mm_V) (h : mm_H) : Option mm_O := match st with
  | v :: w :: r => if mm_wide v = true ∨ mm_wide w = true then none else some (.inl (pc, ls, v :: w :: v :: w :: r, h))
  | _ => none
def mm_pop (pc : Nat) (ls st : List mm_V) (h : mm_H) : Option mm_O := match st with
  | v :: r => if mm_wide v = true then none else some (.inl (pc, ls, r, h))
  | _ => none
def mm_getf (pc : Nat) (ls st : List mm_V) (h : mm_H) (ci k : Nat) : Option mm_O := match st with
  | .inr (.inr r) :: rest => match mm_obj h r ci with
    | some fs => match fs[k]? with
      | some v => some (.inl (pc, ls, v :: rest, h))
      | none => none
    | none => none
  | _ => none
/-- q: whether the field is an int (1) or a reference (0) -/
def mm_putf (pc : Nat) (ls st : List mm_V) (h : mm_H) (ci k : Nat) (q : Int) : Option mm_O := match st with
  | .inl z :: .inr (.inr (some a)) :: rest => match mm_obj h (some a) ci with
    | some fs => if q = 1 ∧ k < fs.length then some (.inl (pc, ls, rest, mm_up h a (.inr (ci, fs.set k (.inl z))))) else none
    | none => none
  | .inr (.inr (some b)) :: .inr (.inr (some a)) :: rest => match mm_obj h (some a) ci with
    | some fs => if q = 0 ∧ k < fs.length then some (.inl (pc, ls, rest, mm_up h a (.inr (ci, fs.set k (.inr (.inr (some b))))))) else none
    | none => none
  | _ => none
def mm_iald (pc : Nat) (ls st : List mm_V) (h : mm_H) : Option mm_O := match st with
  | .inl j :: .inr (.inr r) :: rest => match mm_arr h r with
    | some (t, n, f) => if (t = 0 ∨ t = 3) ∧ 0 ≤ j ∧ j < n then some (.inl (pc, ls, .inl (f j.toNat) :: rest, h)) else none
    | none => none
  | _ => none
def mm_bald (pc : Nat) (ls st : List mm_V) (h : mm_H) : Option mm_O := match st with
  | .inl j :: .inr (.inr r) :: rest => match mm_arr h r with
    | some (t, n, f) => if (t = 1 ∨ t = 2) ∧ 0 ≤ j ∧ j < n then some (.inl (pc, ls, .inl (f j.toNat) :: rest, h)) else none
    | none => none
  | _ => none
def mm_iast (pc : Nat) (ls st : List mm_V) (h : mm_H) : Option mm_O := match st with
  | .inl z :: .inl j :: .inr (.inr (some a)) :: rest => match mm_arr h (some a) with
    | some (t, n, f) => if t = 0 ∧ 0 ≤ j ∧ j < n then some (.inl (pc, ls, rest, mm_up h a (.inl (t, n, mm_st f j.toNat z)))) else none
    | none => none
  | _ => none
def mm_bast (pc : Nat) (ls st : List mm_V) (h : mm_H) : Option mm_O := match st with
  | .inl z :: .inl j :: .inr (.inr (some a)) :: rest => match mm_arr h (some a) with
    | some (t, n, f) => if t = 2 ∧ 0 ≤ j ∧ j < n then some (.inl (pc, ls, rest, mm_up h a (.inl (t, n, mm_st f j.toNat (mm_w8 z)))))
        else if t = 1 ∧ 0 ≤ j ∧ j < n ∧ (z = 0 ∨ z = 1) then some (.inl (pc, ls, rest, mm_up h a (.inl (t, n, mm_st f j.toNat z)))) else none
    | none => none
  | _ => none
def mm_alen (pc : Nat) (ls st : List mm_V) (h : mm_H) : Option mm_O := match st with
  | .inr (.inr r) :: rest => match mm_arr h r with
    | some (t, n, _) => if t < 4 ∧ n < 2147483648 then some (.inl (pc, ls, .inl (n : Int) :: rest, h)) else none
    | none => none
  | _ => none
/-- cell 0 tells what the next cell's number is, and how many slots all have (100 more) -/
def mm_alloc (h : mm_H) (c : mm_C) (sl : Nat) : Option (Nat × mm_H) := match h 0 with
  | .inl (t, n, f) => if 100 ≤ t ∧ 2 ≤ n then some (n, mm_up (mm_up h n c) 0 (.inl (t + sl, n + 1, f))) else none
  | .inr _ => none
def mm_newa (pc : Nat) (ls st : List mm_V) (h : mm_H) (t : Nat) : Option mm_O := match st with
  | .inl z :: rest => if 0 ≤ z ∧ z ≤ 100000 then match mm_alloc h (.inl (t, z.toNat, fun _ => 0)) z.toNat with
      | some (a, h') => some (.inl (pc, ls, .inr (.inr (some a)) :: rest, h'))
      | none => none
    else none
  | _ => none
def mm_new (pc : Nat) (ls st : List mm_V) (h : mm_H) (ci : Nat) (fs : List mm_V) : Option mm_O := match mm_alloc h (.inr (ci, fs)) fs.length with
  | some (a, h') => some (.inl (pc, ls, .inr (.inr (some a)) :: st, h'))
  | none => none
/-- m: the callee; k: how many arguments behind the receiver -/
def mm_callS (pc : Nat) (ls st : List mm_V) (h : mm_H) (m k : Nat) : Option mm_O :=
  if k ≤ st.length ∧ mm_cat (st.drop k) ≤ 8 then some (.inr (.inr (m, (st.take k).reverse, pc, ls, st.drop k, h))) else none
def mm_callV (pc : Nat) (ls st : List mm_V) (h : mm_H) (m k ci : Nat) : Option mm_O := match st.drop k with
  | .inr (.inr (some a)) :: rest => match mm_obj h (some a) ci with
    | some _ => if mm_cat rest ≤ 8 then some (.inr (.inr (m, .inr (.inr (some a)) :: (st.take k).reverse, pc, ls, rest, h))) else none
    | none => none
  | _ => none
def mm_callI (pc : Nat) (ls st : List mm_V) (h : mm_H) (m k : Nat) : Option mm_O := match st.drop k with
  | .inr (.inr (some a)) :: rest => if mm_cat rest ≤ 8 then
      if k = 1000 then none else some (.inr (.inr (m, .inr (.inr (some a)) :: (st.take k).reverse, pc, ls, rest, h)))
    else none
  | _ => none
def mm_objInit (pc : Nat) (ls st : List mm_V) (h : mm_H) : Option mm_O := match st with
  | .inr (.inr (some _)) :: rest => if mm_cat rest ≤ 8 then some (.inl (pc, ls, rest, h)) else none
  | _ => none
def mm_iret (st : List mm_V) (h : mm_H) (c : Int) : Option mm_O := match st with
  | [.inl z] => if c = 1 → (z = 0 ∨ z = 1) then some (.inr (.inl (some (.inl z), h))) else none
  | _ => none
def mm_aret (st : List mm_V) (h : mm_H) : Option mm_O := match st with
  | [.inr (.inr (some a))] => some (.inr (.inl (some (.inr (.inr (some a))), h)))
  | _ => none
def mm_s32 (f : Int32 → Int32 → Int32) : Int → Int → Int := fun x y => (f (Int32.ofInt x) (Int32.ofInt y)).toInt
def mm_s64 (f : Int64 → Int64 → Int64) : Int → Int → Int := fun x y => (f (Int64.ofInt x) (Int64.ofInt y)).toInt
def mm_lshl1 : Int → Int → Int := fun x y => (Int64.ofInt x <<< ((Int32.ofInt y).toInt64 &&& 63)).toInt
def mm_lshr1 : Int → Int → Int := fun x y => (Int64.ofInt x >>> ((Int32.ofInt y).toInt64 &&& 63)).toInt
def mm_lushr1 : Int → Int → Int := fun x y => (((Int64.ofInt x).toUInt64 >>> ((Int32.ofInt y).toInt64.toUInt64 &&& Int64.toUInt64 63)).toInt64).toInt
def mm_aty : ArrayType → Nat
  | .int => 0
  | .boolean => 1
  | .byte => 2
  | _ => 9
/-- what a new object of a class holds: by its fields' types -/
def mm_dfl (ty : FieldType) : mm_V := match ty with
  | .int => .inl 0
  | _ => mm_null
def mm_blank (ci : Nat) : List mm_V := match vwCl[ci]? with
  | some (_, _, N) => (List.range N).map (fun k => mm_dfl (mm_ty ci k))
  | none => []
def mm_step (I : mm_I) (pc : Nat) (ls st : List mm_V) (h : mm_H) : Option mm_O := match I.1 with
  | .iconst _ => mm_push (pc + 1) ls st h (.inl I.2.2.1)
  | .bipush _ => mm_push (pc + 2) ls st h (.inl I.2.2.1)
  | .sipush _ => mm_push (pc + 3) ls st h (.inl I.2.2.1)
  | .ldc _ => mm_push (pc + 2) ls st h (.inl I.2.2.1)
  | .ldc_w _ => mm_push (pc + 3) ls st h (.inl I.2.2.1)
  | .lconst _ => mm_push (pc + 1) ls st h (.inr (.inl I.2.2.1))
  | .ldc2_w _ => mm_push (pc + 3) ls st h (.inr (.inl I.2.2.1))
  | .iload i => mm_iload (pc + 2) ls st h i
  | .iload_n i => mm_iload (pc + 1) ls st h i
  | .lload i => mm_lload (pc + 2) ls st h i
  | .lload_n i => mm_lload (pc + 1) ls st h i
  | .aload i => mm_aload (pc + 2) ls st h i
  | .aload_n i => mm_aload (pc + 1) ls st h i
  | .istore i => mm_istore (pc + 2) ls st h i
  | .istore_n i => mm_istore (pc + 1) ls st h i
  | .lstore i => mm_lstore (pc + 2) ls st h i
  | .lstore_n i => mm_lstore (pc + 1) ls st h i
  | .astore i => mm_astore (pc + 2) ls st h i
  | .astore_n i => mm_astore (pc + 1) ls st h i
  | .iinc i c => mm_iinc (pc + 3) ls st h i c
  | .iadd => mm_bin (pc + 1) ls st h (fun x y => mm_w32 (x + y))
  | .isub => mm_bin (pc + 1) ls st h (fun x y => mm_w32 (x - y))
  | .imul => mm_bin (pc + 1) ls st h (fun x y => mm_w32 (x * y))
  | .iand => mm_bin (pc + 1) ls st h (mm_s32 (fun x y => x &&& y))
  | .ior => mm_bin (pc + 1) ls st h (mm_s32 (fun x y => x ||| y))
  | .ishl => mm_bin (pc + 1) ls st h (mm_s32 (fun x y => x <<< (y &&& 31)))
  | .ishr => mm_bin (pc + 1) ls st h (mm_s32 (fun x y => x >>> (y &&& 31)))
  | .idiv => mm_binz (pc + 1) ls st h (fun x y => mm_w32 (Int.tdiv x y))
  | .irem => mm_binz (pc + 1) ls st h (fun x y => Int.tmod x y)
  | .ladd => mm_lbin (pc + 1) ls st h (fun x y => mm_w64 (x + y))
  | .lsub => mm_lbin (pc + 1) ls st h (fun x y => mm_w64 (x - y))
  | .lmul => mm_lbin (pc + 1) ls st h (fun x y => mm_w64 (x * y))
  | .land => mm_lbin (pc + 1) ls st h (mm_s64 (fun x y => x &&& y))
  | .lor => mm_lbin (pc + 1) ls st h (mm_s64 (fun x y => x ||| y))
  | .ldiv => mm_lbinz (pc + 1) ls st h (fun x y => mm_w64 (Int.tdiv x y))
  | .lrem => mm_lbinz (pc + 1) ls st h (fun x y => Int.tmod x y)
  | .lshl => mm_lsh (pc + 1) ls st h mm_lshl1
  | .lshr => mm_lsh (pc + 1) ls st h mm_lshr1
  | .lushr => mm_lsh (pc + 1) ls st h mm_lushr1
  | .i2b => mm_un (pc + 1) ls st h mm_w8
  | .i2l => mm_i2l (pc + 1) ls st h
  | .l2i => mm_l2i (pc + 1) ls st h
  | .lcmp => mm_lcmp (pc + 1) ls st h
  | .ifCond c _ => mm_if c I.2.2.2.1 (pc + 3) ls st h
  | .if_icmp c _ => mm_icmp c I.2.2.2.1 (pc + 3) ls st h
  | .goto _ => some (.inl (I.2.2.2.1, ls, st, h))
  | .tableswitch d lo hi offs => mm_switch pc d lo hi offs ls st h
  | .dup => mm_dup (pc + 1) ls st h
  | .dup2 => mm_dup2 (pc + 1) ls st h
  | .pop => mm_pop (pc + 1) ls st h
  | .getfield _ => mm_getf (pc + 3) ls st h I.2.2.2.1 I.2.2.2.2.1
  | .putfield _ => mm_putf (pc + 3) ls st h I.2.2.2.1 I.2.2.2.2.1 I.2.2.1
  | .iaload => mm_iald (pc + 1) ls st h
  | .baload => mm_bald (pc + 1) ls st h
  | .iastore => mm_iast (pc + 1) ls st h
  | .bastore => mm_bast (pc + 1) ls st h
  | .arraylength => mm_alen (pc + 1) ls st h
  | .newarray t => mm_newa (pc + 2) ls st h (mm_aty t)
  | .new _ => mm_new (pc + 3) ls st h I.2.2.2.1 (mm_blank I.2.2.2.1)
  | .invokestatic _ => mm_callS (pc + 3) ls st h I.2.2.2.1 I.2.2.2.2.1
  | .invokevirtual _ => mm_callV (pc + 3) ls st h I.2.2.2.1 I.2.2.2.2.1 I.2.2.1.toNat
  | .invokespecial _ => if I.2.2.2.2.1 = 1000 then mm_objInit (pc + 3) ls st h else mm_callI (pc + 3) ls st h I.2.2.2.1 I.2.2.2.2.1
  | .ireturn => mm_iret st h I.2.2.1
  | .areturn => mm_aret st h
  | .return_ => match st with
    | [] => some (.inr (.inl (none, h)))
    | _ => none
  | _ => none
end
section
/-! the methods: name, bytes, locals, what it returns, kind (0 static, 1 of an object, 2 constructor), depth -/
abbrev mm_MI : Type := MethodName × ByteArray × Nat × Option FieldType × Nat × Nat
def mm_meths : List mm_MI := [
  (yL_law, cL_law, 4, (some .boolean), 0, 8),
  (yX11_init, cX11_init, 1, none, 2, 4),
  (yX9_init, cX9_init, 2, none, 2, 1),
  (yX10_init, cX10_init, 1, none, 2, 1),
  (yX6_init, cX6_init, 1, none, 2, 1),
  (yX8_init, cX8_init, 1, none, 2, 1),
  (yX7_init, cX7_init, 1, none, 2, 1),
  (yX1_init, cX1_init, 3, none, 2, 2),
  (yX2_init, cX2_init, 4, none, 2, 2),
  (yX0_init, cX0_init, 4, none, 2, 3),
  (yX3_init, cX3_init, 1, none, 2, 2),
  (yX11_feed, cX11_feed, 5, (some .int), 1, 1),
  (yX9_clear, cX9_clear, 1, none, 1, 0),
  (yX9_size, cX9_size, 1, (some .int), 1, 0),
  (yX9_append, cX9_append, 2, (some .boolean), 1, 0),
  (yX11_read, cX11_read, 2, (some .int), 1, 3),
  (yX5_takeIn, cX5_takeIn, 8, (some .int), 0, 1),
  (yX9_at, cX9_at, 2, (some .int), 1, 0),
  (yX5_followersOf, cX5_followersOf, 1, (some .int), 0, 0),
  (yX5_bitsOfFirst, cX5_bitsOfFirst, 2, (some .int), 0, 0),
  (yX5_lowestSecond, cX5_lowestSecond, 1, (some .int), 0, 0),
  (yX5_highestSecond, cX5_highestSecond, 1, (some .int), 0, 0),
  (yX11_refusalOfText, cX11_refusalOfText, 1, (some .int), 0, 0),
  (yX9_become, cX9_become, 2, none, 1, 2),
  (yX9_appendFrom, cX9_appendFrom, 5, (some .boolean), 1, 1),
  (yX11_point, cX11_point, 2, (some .int), 1, 1),
  (yX11_add, cX11_add, 2, (some .int), 1, 1),
  (yX5_isPoint, cX5_isPoint, 2, (some .boolean), 0, 0),
  (yX11_status, cX11_status, 4, (some .int), 1, 2),
  (yX10_tell, cX10_tell, 4, (some .int), 1, 1),
  (yX5_isSpan, cX5_isSpan, 2, (some .boolean), 0, 0),
  (yX10_keep, cX10_keep, 4, (some .boolean), 1, 0),
  (yX11_map, cX11_map, 2, (some .int), 1, 2),
  (yX10_tellMapping, cX10_tellMapping, 5, (some .int), 1, 1),
  (yX11_parts, cX11_parts, 5, (some .int), 1, 4),
  (yX6_tell, cX6_tell, 5, (some .int), 1, 3),
  (yX6_mayBePart, cX6_mayBePart, 2, (some .boolean), 0, 2),
  (yX6_isOfSyllables, cX6_isOfSyllables, 1, (some .boolean), 0, 1),
  (yX6_isSyllable, cX6_isSyllable, 1, (some .boolean), 0, 0),
  (yX6_isLead, cX6_isLead, 1, (some .boolean), 0, 0),
  (yX6_isVowel, cX6_isVowel, 1, (some .boolean), 0, 0),
  (yX6_isTail, cX6_isTail, 1, (some .boolean), 0, 0),
  (yX6_find, cX6_find, 3, (some .int), 1, 0),
  (yX6_findPair, cX6_findPair, 4, (some .int), 1, 0),
  (yX11_rank, cX11_rank, 3, (some .int), 1, 2),
  (yX8_tell, cX8_tell, 5, (some .int), 1, 1),
  (yX8_find, cX8_find, 3, (some .int), 1, 0),
  (yX11_range, cX11_range, 5, (some .int), 1, 2),
  (yX7_tell, cX7_tell, 5, (some .int), 1, 1),
  (yX7_highestOf, cX7_highestOf, 1, (some .int), 0, 0),
  (yX11_about, cX11_about, 3, (some .int), 1, 2),
  (yX10_of, cX10_of, 3, (some .int), 1, 1),
  (yX10_latestAbout, cX10_latestAbout, 3, (some .int), 1, 0),
  (yX10_atFirst, cX10_atFirst, 1, (some .int), 0, 0),
  (yX8_of, cX8_of, 3, (some .int), 1, 1),
  (yX7_of, cX7_of, 4, (some .int), 1, 1),
  (yX7_directionAtFirst, cX7_directionAtFirst, 1, (some .int), 0, 0),
  (yX11_form, cX11_form, 3, (some .int), 1, 4),
  (yX1_takeApart, cX1_takeApart, 5, (some .boolean), 1, 2),
  (yX1_appendSyllable, cX1_appendSyllable, 3, (some .boolean), 0, 1),
  (yX6_tailOf, cX6_tailOf, 2, (some .int), 0, 0),
  (yX6_leadOf, cX6_leadOf, 1, (some .int), 0, 0),
  (yX6_vowelOf, cX6_vowelOf, 1, (some .int), 0, 0),
  (yX1_appendParts, cX1_appendParts, 7, (some .boolean), 1, 1),
  (yX6_laterAt, cX6_laterAt, 2, (some .int), 1, 0),
  (yX6_earlierAt, cX6_earlierAt, 2, (some .int), 1, 0),
  (yX8_takeAll, cX8_takeAll, 5, none, 1, 1),
  (yX1_sortByRanks, cX1_sortByRanks, 6, none, 1, 1),
  (yX9_put, cX9_put, 3, none, 1, 0),
  (yX1_bringIntoForm, cX1_bringIntoForm, 9, (some .boolean), 1, 3),
  (yX1_reaches, cX1_reaches, 5, (some .boolean), 1, 1),
  (yX6_together, cX6_together, 4, (some .int), 1, 1),
  (yX9_cut, cX9_cut, 2, none, 1, 0),
  (yX11_inForm, cX11_inForm, 1, (some .int), 1, 4),
  (yX9_isLike, cX9_isLike, 2, (some .boolean), 1, 2),
  (yX9_firstDifference, cX9_firstDifference, 4, (some .int), 1, 1),
  (yJ9_min_7cf53, cJ9_min_7cf53, 2, (some .int), 0, 0),
  (yX11_alike, cX11_alike, 2, (some .int), 1, 3),
  (yX11_encode, cX11_encode, 1, (some .int), 1, 4),
  (yX4_fold, cX4_fold, 6, (some .int), 0, 3),
  (yX4_foldWide, cX4_foldWide, 13, (some .int), 0, 2),
  (yX4_leastFrom, cX4_leastFrom, 6, (some .int), 0, 1),
  (yX4_appendNumber, cX4_appendNumber, 8, (some .boolean), 0, 1),
  (yX4_threshold, cX4_threshold, 2, (some .int), 0, 0),
  (yX4_digitOf, cX4_digitOf, 1, (some .int), 0, 0),
  (yX4_adapted, cX4_adapted, 8, (some .int), 0, 0),
  (yX11_decode, cX11_decode, 2, (some .int), 1, 3),
  (yX4_unfold, cX4_unfold, 5, (some .int), 0, 2),
  (yX4_unfoldDigits, cX4_unfoldDigits, 18, (some .int), 0, 1),
  (yX4_valueOf, cX4_valueOf, 1, (some .int), 0, 0),
  (yX9_insert, cX9_insert, 4, (some .boolean), 1, 0),
  (yX11_make, cX11_make, 2, (some .int), 1, 7),
  (yX0_build, cX0_build, 4, (some .boolean), 1, 6),
  (yX3_clear, cX3_clear, 1, none, 1, 1),
  (yX0_takeText, cX0_takeText, 3, (some .boolean), 1, 2),
  (yX0_fail, cX0_fail, 4, (some .boolean), 1, 0),
  (yX0_replaceAll, cX0_replaceAll, 5, (some .boolean), 1, 2),
  (yX10_appendMapped, cX10_appendMapped, 5, (some .boolean), 1, 1),
  (yX0_formAll, cX0_formAll, 1, (some .boolean), 1, 4),
  (yX0_lookAtLabels, cX0_lookAtLabels, 3, (some .boolean), 1, 5),
  (yX0_unfoldLabel, cX0_unfoldLabel, 4, (some .boolean), 1, 4),
  (yX0_hasPrefix, cX0_hasPrefix, 1, (some .boolean), 1, 1),
  (yX3_count, cX3_count, 1, (some .int), 1, 0),
  (yX3_hasWide, cX3_hasWide, 4, (some .boolean), 0, 1),
  (yX0_followsRules, cX0_followsRules, 2, (some .boolean), 1, 4),
  (yX2_look, cX2_look, 4, (some .int), 1, 3),
  (yX2_found, cX2_found, 3, (some .int), 1, 0),
  (yX2_lookAtJoiners, cX2_lookAtJoiners, 6, (some .int), 1, 2),
  (yX2_standsBetweenJoining, cX2_standsBetweenJoining, 4, (some .boolean), 1, 1),
  (yX2_joins, cX2_joins, 2, (some .boolean), 0, 0),
  (yX2_place, cX2_place, 1, (some .int), 1, 0),
  (yX3_append, cX3_append, 2, none, 1, 2),
  (yX0_lookAtDirections, cX0_lookAtDirections, 3, (some .boolean), 1, 3),
  (yX3_points, cX3_points, 1, (some (.object "WideNames$Row")), 1, 0),
  (yX2_goesRight, cX2_goesRight, 5, (some .boolean), 1, 2),
  (yX2_isOf, cX2_isOf, 2, (some .boolean), 0, 0),
  (yX3_isEmpty, cX3_isEmpty, 2, (some .boolean), 1, 2),
  (yX3_start, cX3_start, 2, (some .int), 1, 0),
  (yX3_end, cX3_end, 2, (some .int), 1, 1),
  (yX2_placeOfWrongDirection, cX2_placeOfWrongDirection, 7, (some .int), 1, 2),
  (yX2_placeOfOtherNumber, cX2_placeOfOtherNumber, 6, (some .int), 1, 1),
  (yX0_writePlain, cX0_writePlain, 2, (some .boolean), 1, 5),
  (yX0_takePlainLabel, cX0_takePlainLabel, 2, (some .boolean), 1, 4),
  (yX3_isWide, cX3_isWide, 2, (some .boolean), 1, 2),
  (yX0_lookAtPlainSizes, cX0_lookAtPlainSizes, 4, (some .boolean), 1, 1),
  (yX0_writeWide, cX0_writeWide, 3, (some .boolean), 1, 3),
  (yX5_putOut, cX5_putOut, 2, (some .boolean), 0, 2),
  (yX5_putFollower, cX5_putFollower, 2, (some .boolean), 0, 1),
  (yX0_madeSize, cX0_madeSize, 1, (some .int), 1, 1),
  (yX0_told, cX0_told, 2, (some .int), 1, 1),
  (yX11_fault, cX11_fault, 2, (some .int), 1, 2),
  (yX11_octet, cX11_octet, 2, (some .int), 1, 2),
  (yX0_madeOctet, cX0_madeOctet, 2, (some .int), 1, 1),
  (yX12_init, cX12_init, 1, none, 2, 1),
  (yX12_feed, cX12_feed, 5, (some .int), 1, 1),
  (yX12_in, cX12_in, 3, (some .boolean), 0, 0),
  (yX12_read, cX12_read, 2, (some .int), 1, 2),
  (yX12_readText, cX12_readText, 9, none, 1, 1),
  (yX12_octetAt, cX12_octetAt, 2, (some .int), 1, 0),
  (yX12_point, cX12_point, 2, (some .int), 1, 1),
  (yX12_add, cX12_add, 2, (some .int), 1, 2),
  (yX12_isPoint, cX12_isPoint, 1, (some .boolean), 0, 1),
  (yX12_status, cX12_status, 4, (some .int), 1, 1),
  (yX12_told, cX12_told, 4, none, 1, 0),
  (yX12_map, cX12_map, 3, (some .int), 1, 2),
  (yX12_parts, cX12_parts, 7, (some .int), 1, 3),
  (yX12_isLetter, cX12_isLetter, 1, (some .boolean), 0, 2),
  (yX12_isSyllable, cX12_isSyllable, 1, (some .boolean), 0, 1),
  (yX12_rank, cX12_rank, 5, (some .int), 1, 2),
  (yX12_rankAt, cX12_rankAt, 3, (some .int), 1, 0),
  (yX12_rankOf, cX12_rankOf, 3, (some .int), 1, 1),
  (yX12_range, cX12_range, 6, (some .int), 1, 1),
  (yX12_about, cX12_about, 3, (some .int), 1, 3),
  (yX12_statusOf, cX12_statusOf, 3, (some .int), 1, 2),
  (yX12_thing, cX12_thing, 3, (some .int), 1, 1),
  (yX12_rangeOf, cX12_rangeOf, 4, (some .int), 1, 1),
  (yX12_form, cX12_form, 3, (some .int), 1, 4),
  (yX12_oneForm, cX12_oneForm, 10, (some .boolean), 1, 3),
  (yX12_takeApart, cX12_takeApart, 9, (some .boolean), 1, 2),
  (yX12_partOf, cX12_partOf, 3, (some .int), 1, 0),
  (yX12_together, cX12_together, 4, (some .int), 1, 2),
  (yX12_inForm, cX12_inForm, 1, (some .int), 1, 4),
  (yX12_firstOther, cX12_firstOther, 5, (some .int), 1, 0),
  (yX12_alike, cX12_alike, 4, (some .int), 1, 3),
  (yX12_encode, cX12_encode, 2, (some .int), 1, 3),
  (yX12_encoded, cX12_encoded, 13, (some .boolean), 1, 2),
  (yX12_letter, cX12_letter, 2, none, 1, 0),
  (yX12_write, cX12_write, 8, none, 1, 1),
  (yX12_bound, cX12_bound, 3, (some .int), 0, 0),
  (yX12_digit, cX12_digit, 1, (some .int), 0, 0),
  (yX12_adapted, cX12_adapted, 7, (some .int), 0, 0),
  (yX12_decode, cX12_decode, 3, (some .int), 1, 3),
  (yX12_decoded, cX12_decoded, 20, (some .int), 1, 2),
  (yX12_value, cX12_value, 1, (some .int), 0, 1),
  (yX12_make, cX12_make, 3, (some .int), 1, 7),
  (yX12_makeAll, cX12_makeAll, 3, none, 1, 6),
  (yX12_wrong, cX12_wrong, 4, (some .boolean), 1, 0),
  (yX12_mapAll, cX12_mapAll, 7, (some .boolean), 1, 4),
  (yX12_part, cX12_part, 3, none, 1, 0),
  (yX12_lookAt, cX12_lookAt, 6, (some .boolean), 1, 5),
  (yX12_unfold, cX12_unfold, 6, (some .boolean), 1, 4),
  (yX12_fits, cX12_fits, 8, (some .boolean), 1, 2),
  (yX12_directions, cX12_directions, 4, (some .boolean), 1, 3),
  (yX12_direction, cX12_direction, 12, (some .boolean), 1, 2),
  (yX12_plain, cX12_plain, 3, none, 1, 4),
  (yX12_octetOut, cX12_octetOut, 2, none, 1, 0),
  (yX12_plainLabel, cX12_plainLabel, 5, none, 1, 3),
  (yX12_wide, cX12_wide, 3, none, 1, 2),
  (yX12_pointOut, cX12_pointOut, 2, none, 1, 1),
  (yX12_fault, cX12_fault, 2, (some .int), 1, 0),
  (yX12_octet, cX12_octet, 2, (some .int), 1, 1)]
def mm_mi (y : Nat) : mm_MI := mm_meths.getD y (yL_law, cL_law, 4, some .boolean, 0, 8)
def mm_name (y : Nat) : MethodName := (mm_mi y).1
def mm_cls (y : Nat) : String := (mm_mi y).1.cls
def mm_bytes (y : Nat) : ByteArray := (mm_mi y).2.1
def mm_maxL (y : Nat) : Nat := (mm_mi y).2.2.1
def mm_ret (y : Nat) : Option FieldType := (mm_mi y).2.2.2.1
def mm_kind (y : Nat) : Nat := (mm_mi y).2.2.2.2.1
def mm_dep (y : Nat) : Nat := (mm_mi y).2.2.2.2.2
def mm_isCode (q : mm_MI) : Prop := Cond.code q.1 q.2.1 q.2.2.1 q.2.2.2.1 ∈ mm_tbl
set_option maxRecDepth 100000 in
theorem mm_cw0 : ∀ q ∈ (mm_meths.drop 1).take 16, mm_isCode q := List.forall_mem_cons.mpr ⟨List.mem_of_getElem? (i := 74) (by decide +kernel), List.forall_mem_cons.mpr ⟨List.mem_of_getElem? (i := 82) (by decide +kernel), List.forall_mem_cons.mpr ⟨List.mem_of_getElem? (i := 96) (by decide +kernel), List.forall_mem_cons.mpr ⟨List.mem_of_getElem? (i := 121) (by decide +kernel), List.forall_mem_cons.mpr ⟨List.mem_of_getElem? (i := 144) (by decide +kernel), List.forall_mem_cons.mpr ⟨List.mem_of_getElem? (i := 160) (by decide +kernel), List.forall_mem_cons.mpr ⟨List.mem_of_getElem? (i := 182) (by decide +kernel), List.forall_mem_cons.mpr ⟨List.mem_of_getElem? (i := 205) (by decide +kernel), List.forall_mem_cons.mpr ⟨List.mem_of_getElem? (i := 230) (by decide +kernel), List.forall_mem_cons.mpr ⟨List.mem_of_getElem? (i := 238) (by decide +kernel), List.forall_mem_cons.mpr ⟨List.mem_of_getElem? (i := 326) (by decide +kernel), List.forall_mem_cons.mpr ⟨List.mem_of_getElem? (i := 330) (by decide +kernel), List.forall_mem_cons.mpr ⟨List.mem_of_getElem? (i := 334) (by decide +kernel), List.forall_mem_cons.mpr ⟨List.mem_of_getElem? (i := 339) (by decide +kernel), List.forall_mem_cons.mpr ⟨List.mem_of_getElem? (i := 343) (by decide +kernel), List.forall_mem_cons.mpr ⟨List.mem_of_getElem? (i := 346) (by decide +kernel), fun _ h => absurd h List.not_mem_nil⟩⟩⟩⟩⟩⟩⟩⟩⟩⟩⟩⟩⟩⟩⟩⟩
set_option maxRecDepth 100000 in
theorem mm_cw1 : ∀ q ∈ (mm_meths.drop 17).take 16, mm_isCode q := List.forall_mem_cons.mpr ⟨List.mem_of_getElem? (i := 352) (by decide +kernel), List.forall_mem_cons.mpr ⟨List.mem_of_getElem? (i := 355) (by decide +kernel), List.forall_mem_cons.mpr ⟨List.mem_of_getElem? (i := 358) (by decide +kernel), List.forall_mem_cons.mpr ⟨List.mem_of_getElem? (i := 361) (by decide +kernel), List.forall_mem_cons.mpr ⟨List.mem_of_getElem? (i := 364) (by decide +kernel), List.forall_mem_cons.mpr ⟨List.mem_of_getElem? (i := 368) (by decide +kernel), List.forall_mem_cons.mpr ⟨List.mem_of_getElem? (i := 372) (by decide +kernel), List.forall_mem_cons.mpr ⟨List.mem_of_getElem? (i := 378) (by decide +kernel), List.forall_mem_cons.mpr ⟨List.mem_of_getElem? (i := 384) (by decide +kernel), List.forall_mem_cons.mpr ⟨List.mem_of_getElem? (i := 389) (by decide +kernel), List.forall_mem_cons.mpr ⟨List.mem_of_getElem? (i := 392) (by decide +kernel), List.forall_mem_cons.mpr ⟨List.mem_of_getElem? (i := 399) (by decide +kernel), List.forall_mem_cons.mpr ⟨List.mem_of_getElem? (i := 403) (by decide +kernel), List.forall_mem_cons.mpr ⟨List.mem_of_getElem? (i := 406) (by decide +kernel), List.forall_mem_cons.mpr ⟨List.mem_of_getElem? (i := 411) (by decide +kernel), List.forall_mem_cons.mpr ⟨List.mem_of_getElem? (i := 415) (by decide +kernel), fun _ h => absurd h List.not_mem_nil⟩⟩⟩⟩⟩⟩⟩⟩⟩⟩⟩⟩⟩⟩⟩⟩
set_option maxRecDepth 100000 in
theorem mm_cw2 : ∀ q ∈ (mm_meths.drop 33).take 16, mm_isCode q := List.forall_mem_cons.mpr ⟨List.mem_of_getElem? (i := 419) (by decide +kernel), List.forall_mem_cons.mpr ⟨List.mem_of_getElem? (i := 426) (by decide +kernel), List.forall_mem_cons.mpr ⟨List.mem_of_getElem? (i := 430) (by decide +kernel), List.forall_mem_cons.mpr ⟨List.mem_of_getElem? (i := 434) (by decide +kernel), List.forall_mem_cons.mpr ⟨List.mem_of_getElem? (i := 437) (by decide +kernel), List.forall_mem_cons.mpr ⟨List.mem_of_getElem? (i := 440) (by decide +kernel), List.forall_mem_cons.mpr ⟨List.mem_of_getElem? (i := 445) (by decide +kernel), List.forall_mem_cons.mpr ⟨List.mem_of_getElem? (i := 448) (by decide +kernel), List.forall_mem_cons.mpr ⟨List.mem_of_getElem? (i := 451) (by decide +kernel), List.forall_mem_cons.mpr ⟨List.mem_of_getElem? (i := 455) (by decide +kernel), List.forall_mem_cons.mpr ⟨List.mem_of_getElem? (i := 459) (by decide +kernel), List.forall_mem_cons.mpr ⟨List.mem_of_getElem? (i := 463) (by decide +kernel), List.forall_mem_cons.mpr ⟨List.mem_of_getElem? (i := 467) (by decide +kernel), List.forall_mem_cons.mpr ⟨List.mem_of_getElem? (i := 472) (by decide +kernel), List.forall_mem_cons.mpr ⟨List.mem_of_getElem? (i := 476) (by decide +kernel), List.forall_mem_cons.mpr ⟨List.mem_of_getElem? (i := 480) (by decide +kernel), fun _ h => absurd h List.not_mem_nil⟩⟩⟩⟩⟩⟩⟩⟩⟩⟩⟩⟩⟩⟩⟩⟩
set_option maxRecDepth 100000 in
theorem mm_cw3 : ∀ q ∈ (mm_meths.drop 49).take 16, mm_isCode q := List.forall_mem_cons.mpr ⟨List.mem_of_getElem? (i := 483) (by decide +kernel), List.forall_mem_cons.mpr ⟨List.mem_of_getElem? (i := 488) (by decide +kernel), List.forall_mem_cons.mpr ⟨List.mem_of_getElem? (i := 492) (by decide +kernel), List.forall_mem_cons.mpr ⟨List.mem_of_getElem? (i := 496) (by decide +kernel), List.forall_mem_cons.mpr ⟨List.mem_of_getElem? (i := 499) (by decide +kernel), List.forall_mem_cons.mpr ⟨List.mem_of_getElem? (i := 503) (by decide +kernel), List.forall_mem_cons.mpr ⟨List.mem_of_getElem? (i := 507) (by decide +kernel), List.forall_mem_cons.mpr ⟨List.mem_of_getElem? (i := 510) (by decide +kernel), List.forall_mem_cons.mpr ⟨List.mem_of_getElem? (i := 514) (by decide +kernel), List.forall_mem_cons.mpr ⟨List.mem_of_getElem? (i := 518) (by decide +kernel), List.forall_mem_cons.mpr ⟨List.mem_of_getElem? (i := 525) (by decide +kernel), List.forall_mem_cons.mpr ⟨List.mem_of_getElem? (i := 528) (by decide +kernel), List.forall_mem_cons.mpr ⟨List.mem_of_getElem? (i := 531) (by decide +kernel), List.forall_mem_cons.mpr ⟨List.mem_of_getElem? (i := 535) (by decide +kernel), List.forall_mem_cons.mpr ⟨List.mem_of_getElem? (i := 539) (by decide +kernel), List.forall_mem_cons.mpr ⟨List.mem_of_getElem? (i := 545) (by decide +kernel), fun _ h => absurd h List.not_mem_nil⟩⟩⟩⟩⟩⟩⟩⟩⟩⟩⟩⟩⟩⟩⟩⟩
set_option maxRecDepth 100000 in
theorem mm_cw4 : ∀ q ∈ (mm_meths.drop 65).take 16, mm_isCode q := List.forall_mem_cons.mpr ⟨List.mem_of_getElem? (i := 549) (by decide +kernel), List.forall_mem_cons.mpr ⟨List.mem_of_getElem? (i := 553) (by decide +kernel), List.forall_mem_cons.mpr ⟨List.mem_of_getElem? (i := 561) (by decide +kernel), List.forall_mem_cons.mpr ⟨List.mem_of_getElem? (i := 565) (by decide +kernel), List.forall_mem_cons.mpr ⟨List.mem_of_getElem? (i := 569) (by decide +kernel), List.forall_mem_cons.mpr ⟨List.mem_of_getElem? (i := 574) (by decide +kernel), List.forall_mem_cons.mpr ⟨List.mem_of_getElem? (i := 578) (by decide +kernel), List.forall_mem_cons.mpr ⟨List.mem_of_getElem? (i := 582) (by decide +kernel), List.forall_mem_cons.mpr ⟨List.mem_of_getElem? (i := 586) (by decide +kernel), List.forall_mem_cons.mpr ⟨List.mem_of_getElem? (i := 590) (by decide +kernel), List.forall_mem_cons.mpr ⟨List.mem_of_getElem? (i := 594) (by decide +kernel), List.forall_mem_cons.mpr ⟨List.mem_of_getElem? (i := 597) (by decide +kernel), List.forall_mem_cons.mpr ⟨List.mem_of_getElem? (i := 601) (by decide +kernel), List.forall_mem_cons.mpr ⟨List.mem_of_getElem? (i := 605) (by decide +kernel), List.forall_mem_cons.mpr ⟨List.mem_of_getElem? (i := 608) (by decide +kernel), List.forall_mem_cons.mpr ⟨List.mem_of_getElem? (i := 613) (by decide +kernel), fun _ h => absurd h List.not_mem_nil⟩⟩⟩⟩⟩⟩⟩⟩⟩⟩⟩⟩⟩⟩⟩⟩
set_option maxRecDepth 100000 in
theorem mm_cw5 : ∀ q ∈ (mm_meths.drop 81).take 16, mm_isCode q := List.forall_mem_cons.mpr ⟨List.mem_of_getElem? (i := 616) (by decide +kernel), List.forall_mem_cons.mpr ⟨List.mem_of_getElem? (i := 621) (by decide +kernel), List.forall_mem_cons.mpr ⟨List.mem_of_getElem? (i := 624) (by decide +kernel), List.forall_mem_cons.mpr ⟨List.mem_of_getElem? (i := 627) (by decide +kernel), List.forall_mem_cons.mpr ⟨List.mem_of_getElem? (i := 630) (by decide +kernel), List.forall_mem_cons.mpr ⟨List.mem_of_getElem? (i := 640) (by decide +kernel), List.forall_mem_cons.mpr ⟨List.mem_of_getElem? (i := 643) (by decide +kernel), List.forall_mem_cons.mpr ⟨List.mem_of_getElem? (i := 649) (by decide +kernel), List.forall_mem_cons.mpr ⟨List.mem_of_getElem? (i := 653) (by decide +kernel), List.forall_mem_cons.mpr ⟨List.mem_of_getElem? (i := 658) (by decide +kernel), List.forall_mem_cons.mpr ⟨List.mem_of_getElem? (i := 662) (by decide +kernel), List.forall_mem_cons.mpr ⟨List.mem_of_getElem? (i := 666) (by decide +kernel), List.forall_mem_cons.mpr ⟨List.mem_of_getElem? (i := 670) (by decide +kernel), List.forall_mem_cons.mpr ⟨List.mem_of_getElem? (i := 676) (by decide +kernel), List.forall_mem_cons.mpr ⟨List.mem_of_getElem? (i := 681) (by decide +kernel), List.forall_mem_cons.mpr ⟨List.mem_of_getElem? (i := 685) (by decide +kernel), fun _ h => absurd h List.not_mem_nil⟩⟩⟩⟩⟩⟩⟩⟩⟩⟩⟩⟩⟩⟩⟩⟩
set_option maxRecDepth 100000 in
theorem mm_cw6 : ∀ q ∈ (mm_meths.drop 97).take 16, mm_isCode q := List.forall_mem_cons.mpr ⟨List.mem_of_getElem? (i := 693) (by decide +kernel), List.forall_mem_cons.mpr ⟨List.mem_of_getElem? (i := 698) (by decide +kernel), List.forall_mem_cons.mpr ⟨List.mem_of_getElem? (i := 703) (by decide +kernel), List.forall_mem_cons.mpr ⟨List.mem_of_getElem? (i := 708) (by decide +kernel), List.forall_mem_cons.mpr ⟨List.mem_of_getElem? (i := 712) (by decide +kernel), List.forall_mem_cons.mpr ⟨List.mem_of_getElem? (i := 716) (by decide +kernel), List.forall_mem_cons.mpr ⟨List.mem_of_getElem? (i := 720) (by decide +kernel), List.forall_mem_cons.mpr ⟨List.mem_of_getElem? (i := 727) (by decide +kernel), List.forall_mem_cons.mpr ⟨List.mem_of_getElem? (i := 731) (by decide +kernel), List.forall_mem_cons.mpr ⟨List.mem_of_getElem? (i := 737) (by decide +kernel), List.forall_mem_cons.mpr ⟨List.mem_of_getElem? (i := 743) (by decide +kernel), List.forall_mem_cons.mpr ⟨List.mem_of_getElem? (i := 750) (by decide +kernel), List.forall_mem_cons.mpr ⟨List.mem_of_getElem? (i := 753) (by decide +kernel), List.forall_mem_cons.mpr ⟨List.mem_of_getElem? (i := 757) (by decide +kernel), List.forall_mem_cons.mpr ⟨List.mem_of_getElem? (i := 761) (by decide +kernel), List.forall_mem_cons.mpr ⟨List.mem_of_getElem? (i := 767) (by decide +kernel), fun _ h => absurd h List.not_mem_nil⟩⟩⟩⟩⟩⟩⟩⟩⟩⟩⟩⟩⟩⟩⟩⟩
set_option maxRecDepth 100000 in
theorem mm_cw7 : ∀ q ∈ (mm_meths.drop 113).take 16, mm_isCode q := List.forall_mem_cons.mpr ⟨List.mem_of_getElem? (i := 771) (by decide +kernel), List.forall_mem_cons.mpr ⟨List.mem_of_getElem? (i := 775) (by decide +kernel), List.forall_mem_cons.mpr ⟨List.mem_of_getElem? (i := 778) (by decide +kernel), List.forall_mem_cons.mpr ⟨List.mem_of_getElem? (i := 782) (by decide +kernel), List.forall_mem_cons.mpr ⟨List.mem_of_getElem? (i := 786) (by decide +kernel), List.forall_mem_cons.mpr ⟨List.mem_of_getElem? (i := 790) (by decide +kernel), List.forall_mem_cons.mpr ⟨List.mem_of_getElem? (i := 796) (by decide +kernel), List.forall_mem_cons.mpr ⟨List.mem_of_getElem? (i := 800) (by decide +kernel), List.forall_mem_cons.mpr ⟨List.mem_of_getElem? (i := 804) (by decide +kernel), List.forall_mem_cons.mpr ⟨List.mem_of_getElem? (i := 808) (by decide +kernel), List.forall_mem_cons.mpr ⟨List.mem_of_getElem? (i := 812) (by decide +kernel), List.forall_mem_cons.mpr ⟨List.mem_of_getElem? (i := 818) (by decide +kernel), List.forall_mem_cons.mpr ⟨List.mem_of_getElem? (i := 822) (by decide +kernel), List.forall_mem_cons.mpr ⟨List.mem_of_getElem? (i := 825) (by decide +kernel), List.forall_mem_cons.mpr ⟨List.mem_of_getElem? (i := 828) (by decide +kernel), List.forall_mem_cons.mpr ⟨List.mem_of_getElem? (i := 834) (by decide +kernel), fun _ h => absurd h List.not_mem_nil⟩⟩⟩⟩⟩⟩⟩⟩⟩⟩⟩⟩⟩⟩⟩⟩
set_option maxRecDepth 100000 in
theorem mm_cw8 : ∀ q ∈ (mm_meths.drop 129).take 16, mm_isCode q := List.forall_mem_cons.mpr ⟨List.mem_of_getElem? (i := 838) (by decide +kernel), List.forall_mem_cons.mpr ⟨List.mem_of_getElem? (i := 842) (by decide +kernel), List.forall_mem_cons.mpr ⟨List.mem_of_getElem? (i := 846) (by decide +kernel), List.forall_mem_cons.mpr ⟨List.mem_of_getElem? (i := 850) (by decide +kernel), List.forall_mem_cons.mpr ⟨List.mem_of_getElem? (i := 855) (by decide +kernel), List.forall_mem_cons.mpr ⟨List.mem_of_getElem? (i := 1021) (by decide +kernel), List.forall_mem_cons.mpr ⟨List.mem_of_getElem? (i := 1024) (by decide +kernel), List.forall_mem_cons.mpr ⟨List.mem_of_getElem? (i := 1028) (by decide +kernel), List.forall_mem_cons.mpr ⟨List.mem_of_getElem? (i := 1032) (by decide +kernel), List.forall_mem_cons.mpr ⟨List.mem_of_getElem? (i := 1036) (by decide +kernel), List.forall_mem_cons.mpr ⟨List.mem_of_getElem? (i := 1040) (by decide +kernel), List.forall_mem_cons.mpr ⟨List.mem_of_getElem? (i := 1044) (by decide +kernel), List.forall_mem_cons.mpr ⟨List.mem_of_getElem? (i := 1047) (by decide +kernel), List.forall_mem_cons.mpr ⟨List.mem_of_getElem? (i := 1054) (by decide +kernel), List.forall_mem_cons.mpr ⟨List.mem_of_getElem? (i := 1058) (by decide +kernel), List.forall_mem_cons.mpr ⟨List.mem_of_getElem? (i := 1062) (by decide +kernel), fun _ h => absurd h List.not_mem_nil⟩⟩⟩⟩⟩⟩⟩⟩⟩⟩⟩⟩⟩⟩⟩⟩
set_option maxRecDepth 100000 in
theorem mm_cw9 : ∀ q ∈ (mm_meths.drop 145).take 16, mm_isCode q := List.forall_mem_cons.mpr ⟨List.mem_of_getElem? (i := 1066) (by decide +kernel), List.forall_mem_cons.mpr ⟨List.mem_of_getElem? (i := 1069) (by decide +kernel), List.forall_mem_cons.mpr ⟨List.mem_of_getElem? (i := 1072) (by decide +kernel), List.forall_mem_cons.mpr ⟨List.mem_of_getElem? (i := 1078) (by decide +kernel), List.forall_mem_cons.mpr ⟨List.mem_of_getElem? (i := 1082) (by decide +kernel), List.forall_mem_cons.mpr ⟨List.mem_of_getElem? (i := 1086) (by decide +kernel), List.forall_mem_cons.mpr ⟨List.mem_of_getElem? (i := 1090) (by decide +kernel), List.forall_mem_cons.mpr ⟨List.mem_of_getElem? (i := 1094) (by decide +kernel), List.forall_mem_cons.mpr ⟨List.mem_of_getElem? (i := 1098) (by decide +kernel), List.forall_mem_cons.mpr ⟨List.mem_of_getElem? (i := 1102) (by decide +kernel), List.forall_mem_cons.mpr ⟨List.mem_of_getElem? (i := 1106) (by decide +kernel), List.forall_mem_cons.mpr ⟨List.mem_of_getElem? (i := 1110) (by decide +kernel), List.forall_mem_cons.mpr ⟨List.mem_of_getElem? (i := 1114) (by decide +kernel), List.forall_mem_cons.mpr ⟨List.mem_of_getElem? (i := 1118) (by decide +kernel), List.forall_mem_cons.mpr ⟨List.mem_of_getElem? (i := 1122) (by decide +kernel), List.forall_mem_cons.mpr ⟨List.mem_of_getElem? (i := 1126) (by decide +kernel), fun _ h => absurd h List.not_mem_nil⟩⟩⟩⟩⟩⟩⟩⟩⟩⟩⟩⟩⟩⟩⟩⟩
set_option maxRecDepth 100000 in
theorem mm_cw10 : ∀ q ∈ (mm_meths.drop 161).take 16, mm_isCode q := List.forall_mem_cons.mpr ⟨List.mem_of_getElem? (i := 1130) (by decide +kernel), List.forall_mem_cons.mpr ⟨List.mem_of_getElem? (i := 1134) (by decide +kernel), List.forall_mem_cons.mpr ⟨List.mem_of_getElem? (i := 1138) (by decide +kernel), List.forall_mem_cons.mpr ⟨List.mem_of_getElem? (i := 1142) (by decide +kernel), List.forall_mem_cons.mpr ⟨List.mem_of_getElem? (i := 1146) (by decide +kernel), List.forall_mem_cons.mpr ⟨List.mem_of_getElem? (i := 1150) (by decide +kernel), List.forall_mem_cons.mpr ⟨List.mem_of_getElem? (i := 1156) (by decide +kernel), List.forall_mem_cons.mpr ⟨List.mem_of_getElem? (i := 1159) (by decide +kernel), List.forall_mem_cons.mpr ⟨List.mem_of_getElem? (i := 1162) (by decide +kernel), List.forall_mem_cons.mpr ⟨List.mem_of_getElem? (i := 1165) (by decide +kernel), List.forall_mem_cons.mpr ⟨List.mem_of_getElem? (i := 1175) (by decide +kernel), List.forall_mem_cons.mpr ⟨List.mem_of_getElem? (i := 1179) (by decide +kernel), List.forall_mem_cons.mpr ⟨List.mem_of_getElem? (i := 1183) (by decide +kernel), List.forall_mem_cons.mpr ⟨List.mem_of_getElem? (i := 1188) (by decide +kernel), List.forall_mem_cons.mpr ⟨List.mem_of_getElem? (i := 1192) (by decide +kernel), List.forall_mem_cons.mpr ⟨List.mem_of_getElem? (i := 1196) (by decide +kernel), fun _ h => absurd h List.not_mem_nil⟩⟩⟩⟩⟩⟩⟩⟩⟩⟩⟩⟩⟩⟩⟩⟩
set_option maxRecDepth 100000 in
theorem mm_cw11 : ∀ q ∈ (mm_meths.drop 177).take 14, mm_isCode q := List.forall_mem_cons.mpr ⟨List.mem_of_getElem? (i := 1200) (by decide +kernel), List.forall_mem_cons.mpr ⟨List.mem_of_getElem? (i := 1204) (by decide +kernel), List.forall_mem_cons.mpr ⟨List.mem_of_getElem? (i := 1208) (by decide +kernel), List.forall_mem_cons.mpr ⟨List.mem_of_getElem? (i := 1212) (by decide +kernel), List.forall_mem_cons.mpr ⟨List.mem_of_getElem? (i := 1216) (by decide +kernel), List.forall_mem_cons.mpr ⟨List.mem_of_getElem? (i := 1220) (by decide +kernel), List.forall_mem_cons.mpr ⟨List.mem_of_getElem? (i := 1224) (by decide +kernel), List.forall_mem_cons.mpr ⟨List.mem_of_getElem? (i := 1228) (by decide +kernel), List.forall_mem_cons.mpr ⟨List.mem_of_getElem? (i := 1232) (by decide +kernel), List.forall_mem_cons.mpr ⟨List.mem_of_getElem? (i := 1236) (by decide +kernel), List.forall_mem_cons.mpr ⟨List.mem_of_getElem? (i := 1240) (by decide +kernel), List.forall_mem_cons.mpr ⟨List.mem_of_getElem? (i := 1244) (by decide +kernel), List.forall_mem_cons.mpr ⟨List.mem_of_getElem? (i := 1249) (by decide +kernel), List.forall_mem_cons.mpr ⟨List.mem_of_getElem? (i := 1253) (by decide +kernel), fun _ h => absurd h List.not_mem_nil⟩⟩⟩⟩⟩⟩⟩⟩⟩⟩⟩⟩⟩⟩
theorem mm_code_in : ∀ m, 1 ≤ m → m < 191 → mm_isCode (mm_mi m) := by
  intro m h1 h2
  have key : ∀ k n, 1 + 16 * k ≤ m → m < 1 + 16 * k + n → (∀ q ∈ (mm_meths.drop (1 + 16 * k)).take n, mm_isCode q) → mm_isCode (mm_mi m) := by
    intro k n a1 a2 a3
    refine a3 _ (List.mem_of_getElem? (i := m - (1 + 16 * k)) ?_)
    rw [List.getElem?_take_of_lt (by omega), List.getElem?_drop, show 1 + 16 * k + (m - (1 + 16 * k)) = m by omega]
    have hl : m < mm_meths.length := by show m < 191; omega
    rw [List.getElem?_eq_getElem hl, mm_mi, List.getD_eq_getElem?_getD, List.getElem?_eq_getElem hl]
    rfl
  rcases Nat.lt_or_ge m 17 with h | h3
  · exact key 0 16 (by omega) (by omega) mm_cw0
  skip
  rcases Nat.lt_or_ge m 33 with h | h3
  · exact key 1 16 (by omega) (by omega) mm_cw1
  skip
  rcases Nat.lt_or_ge m 49 with h | h3
  · exact key 2 16 (by omega) (by omega) mm_cw2
  skip
  rcases Nat.lt_or_ge m 65 with h | h3
  · exact key 3 16 (by omega) (by omega) mm_cw3
  skip
  rcases Nat.lt_or_ge m 81 with h | h3
  · exact key 4 16 (by omega) (by omega) mm_cw4
  skip
  rcases Nat.lt_or_ge m 97 with h | h3
  · exact key 5 16 (by omega) (by omega) mm_cw5
  skip
  rcases Nat.lt_or_ge m 113 with h | h3
  · exact key 6 16 (by omega) (by omega) mm_cw6
  skip
  rcases Nat.lt_or_ge m 129 with h | h3
  · exact key 7 16 (by omega) (by omega) mm_cw7
  skip
  rcases Nat.lt_or_ge m 145 with h | h3
  · exact key 8 16 (by omega) (by omega) mm_cw8
  skip
  rcases Nat.lt_or_ge m 161 with h | h3
  · exact key 9 16 (by omega) (by omega) mm_cw9
  skip
  rcases Nat.lt_or_ge m 177 with h | h3
  · exact key 10 16 (by omega) (by omega) mm_cw10
  skip
  exact key 11 14 (by omega) (by omega) mm_cw11
end
section
def mm_T0 : List (Nat × mm_I) := [(0, Instr.new 7, 3, 0, 9, 10, [70, 71, 56]), (3, Instr.dup, 1, 0, 0, 0, []), (4, Instr.invokespecial 9, 3, 0, 1, 0, [72, 73, 56, 74]), (7, Instr.astore_n 1, 1, 0, 0, 0, []), (8, Instr.new 10, 3, 0, 10, 53, [851, 852, 66]), (11, Instr.dup, 1, 0, 0, 0, []), (12, Instr.invokespecial 12, 3, 0, 133, 0, [853, 854, 66, 855]), (15, Instr.astore_n 2, 1, 0, 0, 0, []), (16, Instr.iconst 0, 1, 0, 0, 0, []), (17, Instr.istore_n 3, 1, 0, 0, 0, []), (18, Instr.iload_n 3, 1, 0, 0, 0, []), (19, Instr.aload_n 0, 1, 0, 0, 0, []), (20, Instr.arraylength, 1, 0, 0, 0, []), (21, Instr.iconst 5, 1, 5, 0, 0, []), (22, Instr.isub, 1, 0, 0, 0, []), (23, Instr.if_icmp .gt 639, 3, 0, 662, 0, []), (26, Instr.aload_n 0, 1, 0, 0, 0, []), (27, Instr.iload_n 3, 1, 0, 0, 0, []), (28, Instr.iaload, 1, 0, 0, 0, []), (29, Instr.bipush 31, 2, 31, 0, 0, []), (31, Instr.iand, 1, 0, 0, 0, []), (32, Instr.tableswitch 624 0 17 #[88, 151, 164, 187, 210, 253, 276, 345, 378, 431, 464, 487, 500, 513, 526, 539, 578, 601], 88, 0, 0, 0, []), (120, Instr.aload_n 1, 1, 0, 0, 0, []), (121, Instr.aload_n 0, 1, 0, 0, 0, []), (122, Instr.iload_n 3, 1, 0, 0, 0, []), (123, Instr.iconst 1, 1, 1, 0, 0, []), (124, Instr.iadd, 1, 0, 0, 0, []), (125, Instr.iaload, 1, 0, 0, 0, []), (126, Instr.i2l, 1, 0, 0, 0, []), (127, Instr.bipush 32, 2, 32, 0, 0, []), (129, Instr.lshl, 1, 0, 0, 0, []), (130, Instr.aload_n 0, 1, 0, 0, 0, []), (131, Instr.iload_n 3, 1, 0, 0, 0, []), (132, Instr.iconst 2, 1, 2, 0, 0, []), (133, Instr.iadd, 1, 0, 0, 0, []), (134, Instr.iaload, 1, 0, 0, 0, []), (135, Instr.i2l, 1, 0, 0, 0, []), (136, Instr.ldc2_w 13, 3, 4294967295, 0, 0, [1254]), (139, Instr.land, 1, 0, 0, 0, []), (140, Instr.lor, 1, 0, 0, 0, []), (141, Instr.aload_n 0, 1, 0, 0, 0, []), (142, Instr.iload_n 3, 1, 0, 0, 0, []), (143, Instr.iconst 3, 1, 3, 0, 0, []), (144, Instr.iadd, 1, 0, 0, 0, []), (145, Instr.iaload, 1, 0, 0, 0, []), (146, Instr.invokevirtual 15, 3, 9, 11, 2, [323, 324, 325, 56, 326]), (149, Instr.aload_n 2, 1, 0, 0, 0, []), (150, Instr.aload_n 0, 1, 0, 0, 0, []), (151, Instr.iload_n 3, 1, 0, 0, 0, []), (152, Instr.iconst 1, 1, 1, 0, 0, []), (153, Instr.iadd, 1, 0, 0, 0, []), (154, Instr.iaload, 1, 0, 0, 0, []), (155, Instr.i2l, 1, 0, 0, 0, []), (156, Instr.bipush 32, 2, 32, 0, 0, []), (158, Instr.lshl, 1, 0, 0, 0, []), (159, Instr.aload_n 0, 1, 0, 0, 0, []), (160, Instr.iload_n 3, 1, 0, 0, 0, []), (161, Instr.iconst 2, 1, 2, 0, 0, []), (162, Instr.iadd, 1, 0, 0, 0, []), (163, Instr.iaload, 1, 0, 0, 0, []), (164, Instr.i2l, 1, 0, 0, 0, []), (165, Instr.ldc2_w 13, 3, 4294967295, 0, 0, [1254]), (168, Instr.land, 1, 0, 0, 0, []), (169, Instr.lor, 1, 0, 0, 0, []), (170, Instr.aload_n 0, 1, 0, 0, 0, []), (171, Instr.iload_n 3, 1, 0, 0, 0, []), (172, Instr.iconst 3, 1, 3, 0, 0, []), (173, Instr.iadd, 1, 0, 0, 0, []), (174, Instr.iaload, 1, 0, 0, 0, []), (175, Instr.invokevirtual 19, 3, 10, 134, 2, [1018, 1019, 1020, 66, 1021]), (178, Instr.if_icmp .eq 478, 3, 0, 656, 0, []), (181, Instr.iconst 0, 1, 0, 0, 0, []), (182, Instr.ireturn, 1, 1, 0, 0, []), (183, Instr.aload_n 1, 1, 0, 0, 0, []), (184, Instr.invokevirtual 20, 3, 9, 15, 0, [340, 341, 342, 56, 343]), (187, Instr.aload_n 2, 1, 0, 0, 0, []), (188, Instr.invokevirtual 24, 3, 10, 136, 0, [1025, 1026, 1027, 66, 1028]), (191, Instr.if_icmp .eq 465, 3, 0, 656, 0, []), (194, Instr.iconst 0, 1, 0, 0, 0, []), (195, Instr.ireturn, 1, 1, 0, 0, []), (196, Instr.aload_n 1, 1, 0, 0, 0, []), (197, Instr.aload_n 0, 1, 0, 0, 0, []), (198, Instr.iload_n 3, 1, 0, 0, 0, []), (199, Instr.iconst 1, 1, 1, 0, 0, []), (200, Instr.iadd, 1, 0, 0, 0, []), (201, Instr.iaload, 1, 0, 0, 0, []), (202, Instr.invokevirtual 25, 3, 9, 25, 1, [381, 382, 383, 56, 384]), (205, Instr.aload_n 2, 1, 0, 0, 0, []), (206, Instr.aload_n 0, 1, 0, 0, 0, []), (207, Instr.iload_n 3, 1, 0, 0, 0, []), (208, Instr.iconst 1, 1, 1, 0, 0, []), (209, Instr.iadd, 1, 0, 0, 0, []), (210, Instr.iaload, 1, 0, 0, 0, []), (211, Instr.invokevirtual 29, 3, 10, 139, 1, [1037, 1038, 1039, 66, 1040]), (214, Instr.if_icmp .eq 442, 3, 0, 656, 0, []), (217, Instr.iconst 0, 1, 0, 0, 0, []), (218, Instr.ireturn, 1, 1, 0, 0, []), (219, Instr.aload_n 1, 1, 0, 0, 0, []), (220, Instr.aload_n 0, 1, 0, 0, 0, []), (221, Instr.iload_n 3, 1, 0, 0, 0, []), (222, Instr.iconst 1, 1, 1, 0, 0, []), (223, Instr.iadd, 1, 0, 0, 0, []), (224, Instr.iaload, 1, 0, 0, 0, []), (225, Instr.invokevirtual 30, 3, 9, 26, 1, [386, 387, 388, 56, 389]), (228, Instr.aload_n 2, 1, 0, 0, 0, []), (229, Instr.aload_n 0, 1, 0, 0, 0, []), (230, Instr.iload_n 3, 1, 0, 0, 0, []), (231, Instr.iconst 1, 1, 1, 0, 0, []), (232, Instr.iadd, 1, 0, 0, 0, []), (233, Instr.iaload, 1, 0, 0, 0, []), (234, Instr.invokevirtual 33, 3, 10, 140, 1, [1041, 1042, 1043, 66, 1044]), (237, Instr.if_icmp .eq 419, 3, 0, 656, 0, []), (240, Instr.iconst 0, 1, 0, 0, 0, []), (241, Instr.ireturn, 1, 1, 0, 0, []), (242, Instr.aload_n 1, 1, 0, 0, 0, []), (243, Instr.aload_n 0, 1, 0, 0, 0, []), (244, Instr.iload_n 3, 1, 0, 0, 0, []), (245, Instr.iconst 1, 1, 1, 0, 0, []), (246, Instr.iadd, 1, 0, 0, 0, []), (247, Instr.iaload, 1, 0, 0, 0, []), (248, Instr.aload_n 0, 1, 0, 0, 0, []), (249, Instr.iload_n 3, 1, 0, 0, 0, []), (250, Instr.iconst 2, 1, 2, 0, 0, []), (251, Instr.iadd, 1, 0, 0, 0, []), (252, Instr.iaload, 1, 0, 0, 0, []), (253, Instr.aload_n 0, 1, 0, 0, 0, []), (254, Instr.iload_n 3, 1, 0, 0, 0, []), (255, Instr.iconst 3, 1, 3, 0, 0, []), (256, Instr.iadd, 1, 0, 0, 0, []), (257, Instr.iaload, 1, 0, 0, 0, []), (258, Instr.invokevirtual 34, 3, 9, 28, 3, [396, 397, 398, 56, 399]), (261, Instr.aload_n 2, 1, 0, 0, 0, []), (262, Instr.aload_n 0, 1, 0, 0, 0, []), (263, Instr.iload_n 3, 1, 0, 0, 0, []), (264, Instr.iconst 1, 1, 1, 0, 0, []), (265, Instr.iadd, 1, 0, 0, 0, []), (266, Instr.iaload, 1, 0, 0, 0, []), (267, Instr.aload_n 0, 1, 0, 0, 0, []), (268, Instr.iload_n 3, 1, 0, 0, 0, []), (269, Instr.iconst 2, 1, 2, 0, 0, []), (270, Instr.iadd, 1, 0, 0, 0, []), (271, Instr.iaload, 1, 0, 0, 0, []), (272, Instr.aload_n 0, 1, 0, 0, 0, []), (273, Instr.iload_n 3, 1, 0, 0, 0, []), (274, Instr.iconst 3, 1, 3, 0, 0, []), (275, Instr.iadd, 1, 0, 0, 0, []), (276, Instr.iaload, 1, 0, 0, 0, []), (277, Instr.invokevirtual 38, 3, 10, 142, 3, [1051, 1052, 1053, 66, 1054]), (280, Instr.if_icmp .eq 376, 3, 0, 656, 0, []), (283, Instr.iconst 0, 1, 0, 0, 0, []), (284, Instr.ireturn, 1, 1, 0, 0, []), (285, Instr.aload_n 1, 1, 0, 0, 0, []), (286, Instr.aload_n 0, 1, 0, 0, 0, []), (287, Instr.iload_n 3, 1, 0, 0, 0, []), (288, Instr.iconst 1, 1, 1, 0, 0, []), (289, Instr.iadd, 1, 0, 0, 0, []), (290, Instr.iaload, 1, 0, 0, 0, []), (291, Instr.invokevirtual 39, 3, 9, 32, 1, [412, 413, 414, 56, 415]), (294, Instr.aload_n 2, 1, 0, 0, 0, []), (295, Instr.aload_n 0, 1, 0, 0, 0, []), (296, Instr.iload_n 3, 1, 0, 0, 0, []), (297, Instr.iconst 1, 1, 1, 0, 0, []), (298, Instr.iadd, 1, 0, 0, 0, []), (299, Instr.iaload, 1, 0, 0, 0, []), (300, Instr.invokevirtual 42, 3, 10, 144, 1, [1059, 1060, 1061, 66, 1062]), (303, Instr.if_icmp .eq 353, 3, 0, 656, 0, []), (306, Instr.iconst 0, 1, 0, 0, 0, []), (307, Instr.ireturn, 1, 1, 0, 0, []), (308, Instr.aload_n 1, 1, 0, 0, 0, []), (309, Instr.aload_n 0, 1, 0, 0, 0, []), (310, Instr.iload_n 3, 1, 0, 0, 0, []), (311, Instr.iconst 1, 1, 1, 0, 0, []), (312, Instr.iadd, 1, 0, 0, 0, []), (313, Instr.iaload, 1, 0, 0, 0, []), (314, Instr.aload_n 0, 1, 0, 0, 0, []), (315, Instr.iload_n 3, 1, 0, 0, 0, []), (316, Instr.iconst 2, 1, 2, 0, 0, []), (317, Instr.iadd, 1, 0, 0, 0, []), (318, Instr.iaload, 1, 0, 0, 0, []), (319, Instr.aload_n 0, 1, 0, 0, 0, []), (320, Instr.iload_n 3, 1, 0, 0, 0, []), (321, Instr.iconst 3, 1, 3, 0, 0, []), (322, Instr.iadd, 1, 0, 0, 0, []), (323, Instr.iaload, 1, 0, 0, 0, []), (324, Instr.aload_n 0, 1, 0, 0, 0, []), (325, Instr.iload_n 3, 1, 0, 0, 0, []), (326, Instr.iconst 4, 1, 4, 0, 0, []), (327, Instr.iadd, 1, 0, 0, 0, []), (328, Instr.iaload, 1, 0, 0, 0, []), (329, Instr.ifCond .eq 7, 3, 0, 336, 0, []), (332, Instr.iconst 1, 1, 1, 0, 0, []), (333, Instr.goto 4, 3, 0, 337, 0, []), (336, Instr.iconst 0, 1, 0, 0, 0, []), (337, Instr.invokevirtual 43, 3, 9, 34, 4, [423, 424, 425, 56, 426]), (340, Instr.aload_n 2, 1, 0, 0, 0, []), (341, Instr.aload_n 0, 1, 0, 0, 0, []), (342, Instr.iload_n 3, 1, 0, 0, 0, []), (343, Instr.iconst 1, 1, 1, 0, 0, []), (344, Instr.iadd, 1, 0, 0, 0, []), (345, Instr.iaload, 1, 0, 0, 0, []), (346, Instr.aload_n 0, 1, 0, 0, 0, []), (347, Instr.iload_n 3, 1, 0, 0, 0, []), (348, Instr.iconst 2, 1, 2, 0, 0, []), (349, Instr.iadd, 1, 0, 0, 0, []), (350, Instr.iaload, 1, 0, 0, 0, []), (351, Instr.aload_n 0, 1, 0, 0, 0, []), (352, Instr.iload_n 3, 1, 0, 0, 0, []), (353, Instr.iconst 3, 1, 3, 0, 0, []), (354, Instr.iadd, 1, 0, 0, 0, []), (355, Instr.iaload, 1, 0, 0, 0, []), (356, Instr.aload_n 0, 1, 0, 0, 0, []), (357, Instr.iload_n 3, 1, 0, 0, 0, []), (358, Instr.iconst 4, 1, 4, 0, 0, []), (359, Instr.iadd, 1, 0, 0, 0, []), (360, Instr.iaload, 1, 0, 0, 0, []), (361, Instr.ifCond .eq 7, 3, 0, 368, 0, []), (364, Instr.iconst 1, 1, 1, 0, 0, []), (365, Instr.goto 4, 3, 0, 369, 0, []), (368, Instr.iconst 0, 1, 0, 0, 0, []), (369, Instr.invokevirtual 47, 3, 10, 145, 4, [1063, 1064, 1065, 66, 1066]), (372, Instr.if_icmp .eq 284, 3, 0, 656, 0, []), (375, Instr.iconst 0, 1, 0, 0, 0, []), (376, Instr.ireturn, 1, 1, 0, 0, []), (377, Instr.aload_n 1, 1, 0, 0, 0, []), (378, Instr.aload_n 0, 1, 0, 0, 0, []), (379, Instr.iload_n 3, 1, 0, 0, 0, []), (380, Instr.iconst 1, 1, 1, 0, 0, []), (381, Instr.iadd, 1, 0, 0, 0, []), (382, Instr.iaload, 1, 0, 0, 0, []), (383, Instr.aload_n 0, 1, 0, 0, 0, []), (384, Instr.iload_n 3, 1, 0, 0, 0, []), (385, Instr.iconst 2, 1, 2, 0, 0, []), (386, Instr.iadd, 1, 0, 0, 0, []), (387, Instr.iaload, 1, 0, 0, 0, []), (388, Instr.invokevirtual 48, 3, 9, 44, 2, [460, 461, 462, 56, 463]), (391, Instr.aload_n 2, 1, 0, 0, 0, []), (392, Instr.aload_n 0, 1, 0, 0, 0, []), (393, Instr.iload_n 3, 1, 0, 0, 0, []), (394, Instr.iconst 1, 1, 1, 0, 0, []), (395, Instr.iadd, 1, 0, 0, 0, []), (396, Instr.iaload, 1, 0, 0, 0, []), (397, Instr.aload_n 0, 1, 0, 0, 0, []), (398, Instr.iload_n 3, 1, 0, 0, 0, []), (399, Instr.iconst 2, 1, 2, 0, 0, []), (400, Instr.iadd, 1, 0, 0, 0, []), (401, Instr.iaload, 1, 0, 0, 0, []), (402, Instr.invokevirtual 52, 3, 10, 148, 2, [1075, 1076, 1077, 66, 1078]), (405, Instr.if_icmp .eq 251, 3, 0, 656, 0, []), (408, Instr.iconst 0, 1, 0, 0, 0, []), (409, Instr.ireturn, 1, 1, 0, 0, []), (410, Instr.aload_n 1, 1, 0, 0, 0, []), (411, Instr.aload_n 0, 1, 0, 0, 0, []), (412, Instr.iload_n 3, 1, 0, 0, 0, []), (413, Instr.iconst 1, 1, 1, 0, 0, []), (414, Instr.iadd, 1, 0, 0, 0, []), (415, Instr.iaload, 1, 0, 0, 0, []), (416, Instr.aload_n 0, 1, 0, 0, 0, []), (417, Instr.iload_n 3, 1, 0, 0, 0, []), (418, Instr.iconst 2, 1, 2, 0, 0, []), (419, Instr.iadd, 1, 0, 0, 0, []), (420, Instr.iaload, 1, 0, 0, 0, []), (421, Instr.aload_n 0, 1, 0, 0, 0, []), (422, Instr.iload_n 3, 1, 0, 0, 0, []), (423, Instr.iconst 3, 1, 3, 0, 0, []), (424, Instr.iadd, 1, 0, 0, 0, []), (425, Instr.iaload, 1, 0, 0, 0, []), (426, Instr.aload_n 0, 1, 0, 0, 0, []), (427, Instr.iload_n 3, 1, 0, 0, 0, []), (428, Instr.iconst 4, 1, 4, 0, 0, []), (429, Instr.iadd, 1, 0, 0, 0, []), (430, Instr.iaload, 1, 0, 0, 0, []), (431, Instr.invokevirtual 53, 3, 9, 47, 4, [473, 474, 475, 56, 476]), (434, Instr.aload_n 2, 1, 0, 0, 0, []), (435, Instr.aload_n 0, 1, 0, 0, 0, []), (436, Instr.iload_n 3, 1, 0, 0, 0, []), (437, Instr.iconst 1, 1, 1, 0, 0, []), (438, Instr.iadd, 1, 0, 0, 0, []), (439, Instr.iaload, 1, 0, 0, 0, []), (440, Instr.aload_n 0, 1, 0, 0, 0, []), (441, Instr.iload_n 3, 1, 0, 0, 0, []), (442, Instr.iconst 2, 1, 2, 0, 0, []), (443, Instr.iadd, 1, 0, 0, 0, []), (444, Instr.iaload, 1, 0, 0, 0, []), (445, Instr.aload_n 0, 1, 0, 0, 0, []), (446, Instr.iload_n 3, 1, 0, 0, 0, []), (447, Instr.iconst 3, 1, 3, 0, 0, []), (448, Instr.iadd, 1, 0, 0, 0, []), (449, Instr.iaload, 1, 0, 0, 0, []), (450, Instr.aload_n 0, 1, 0, 0, 0, []), (451, Instr.iload_n 3, 1, 0, 0, 0, []), (452, Instr.iconst 4, 1, 4, 0, 0, []), (453, Instr.iadd, 1, 0, 0, 0, []), (454, Instr.iaload, 1, 0, 0, 0, []), (455, Instr.invokevirtual 57, 3, 10, 151, 4, [1087, 1088, 1089, 66, 1090]), (458, Instr.if_icmp .eq 198, 3, 0, 656, 0, []), (461, Instr.iconst 0, 1, 0, 0, 0, []), (462, Instr.ireturn, 1, 1, 0, 0, []), (463, Instr.aload_n 1, 1, 0, 0, 0, []), (464, Instr.aload_n 0, 1, 0, 0, 0, []), (465, Instr.iload_n 3, 1, 0, 0, 0, []), (466, Instr.iconst 1, 1, 1, 0, 0, []), (467, Instr.iadd, 1, 0, 0, 0, []), (468, Instr.iaload, 1, 0, 0, 0, []), (469, Instr.aload_n 0, 1, 0, 0, 0, []), (470, Instr.iload_n 3, 1, 0, 0, 0, []), (471, Instr.iconst 2, 1, 2, 0, 0, []), (472, Instr.iadd, 1, 0, 0, 0, []), (473, Instr.iaload, 1, 0, 0, 0, []), (474, Instr.invokevirtual 58, 3, 9, 50, 2, [485, 486, 487, 56, 488]), (477, Instr.aload_n 2, 1, 0, 0, 0, []), (478, Instr.aload_n 0, 1, 0, 0, 0, []), (479, Instr.iload_n 3, 1, 0, 0, 0, []), (480, Instr.iconst 1, 1, 1, 0, 0, []), (481, Instr.iadd, 1, 0, 0, 0, []), (482, Instr.iaload, 1, 0, 0, 0, []), (483, Instr.aload_n 0, 1, 0, 0, 0, []), (484, Instr.iload_n 3, 1, 0, 0, 0, []), (485, Instr.iconst 2, 1, 2, 0, 0, []), (486, Instr.iadd, 1, 0, 0, 0, []), (487, Instr.iaload, 1, 0, 0, 0, []), (488, Instr.invokevirtual 61, 3, 10, 152, 2, [1091, 1092, 1093, 66, 1094]), (491, Instr.if_icmp .eq 165, 3, 0, 656, 0, []), (494, Instr.iconst 0, 1, 0, 0, 0, []), (495, Instr.ireturn, 1, 1, 0, 0, []), (496, Instr.aload_n 1, 1, 0, 0, 0, []), (497, Instr.aload_n 0, 1, 0, 0, 0, []), (498, Instr.iload_n 3, 1, 0, 0, 0, []), (499, Instr.iconst 1, 1, 1, 0, 0, []), (500, Instr.iadd, 1, 0, 0, 0, []), (501, Instr.iaload, 1, 0, 0, 0, []), (502, Instr.invokevirtual 62, 3, 9, 57, 1, [511, 512, 513, 56, 514]), (505, Instr.aload_n 2, 1, 0, 0, 0, []), (506, Instr.aload_n 0, 1, 0, 0, 0, []), (507, Instr.iload_n 3, 1, 0, 0, 0, []), (508, Instr.iconst 1, 1, 1, 0, 0, []), (509, Instr.iadd, 1, 0, 0, 0, []), (510, Instr.iaload, 1, 0, 0, 0, []), (511, Instr.invokevirtual 65, 3, 10, 156, 1, [1107, 1108, 1109, 66, 1110]), (514, Instr.if_icmp .eq 142, 3, 0, 656, 0, []), (517, Instr.iconst 0, 1, 0, 0, 0, []), (518, Instr.ireturn, 1, 1, 0, 0, []), (519, Instr.aload_n 1, 1, 0, 0, 0, []), (520, Instr.invokevirtual 66, 3, 9, 73, 0, [583, 584, 585, 56, 586]), (523, Instr.aload_n 2, 1, 0, 0, 0, []), (524, Instr.invokevirtual 69, 3, 10, 161, 0, [1127, 1128, 1129, 66, 1130]), (527, Instr.if_icmp .eq 129, 3, 0, 656, 0, []), (530, Instr.iconst 0, 1, 0, 0, 0, []), (531, Instr.ireturn, 1, 1, 0, 0, []), (532, Instr.aload_n 1, 1, 0, 0, 0, []), (533, Instr.invokevirtual 70, 3, 9, 77, 0, [598, 599, 600, 56, 601]), (536, Instr.aload_n 2, 1, 0, 0, 0, []), (537, Instr.invokevirtual 73, 3, 10, 163, 0, [1135, 1136, 1137, 66, 1138]), (540, Instr.if_icmp .eq 116, 3, 0, 656, 0, []), (543, Instr.iconst 0, 1, 0, 0, 0, []), (544, Instr.ireturn, 1, 1, 0, 0, []), (545, Instr.aload_n 1, 1, 0, 0, 0, []), (546, Instr.invokevirtual 74, 3, 9, 78, 0, [602, 603, 604, 56, 605]), (549, Instr.aload_n 2, 1, 0, 0, 0, []), (550, Instr.invokevirtual 77, 3, 10, 164, 0, [1139, 1140, 1141, 66, 1142]), (553, Instr.if_icmp .eq 103, 3, 0, 656, 0, []), (556, Instr.iconst 0, 1, 0, 0, 0, []), (557, Instr.ireturn, 1, 1, 0, 0, []), (558, Instr.aload_n 1, 1, 0, 0, 0, []), (559, Instr.invokevirtual 78, 3, 9, 86, 0, [637, 638, 639, 56, 640]), (562, Instr.aload_n 2, 1, 0, 0, 0, []), (563, Instr.invokevirtual 81, 3, 10, 171, 0, [1172, 1173, 1174, 66, 1175]), (566, Instr.if_icmp .eq 90, 3, 0, 656, 0, []), (569, Instr.iconst 0, 1, 0, 0, 0, []), (570, Instr.ireturn, 1, 1, 0, 0, []), (571, Instr.aload_n 1, 1, 0, 0, 0, []), (572, Instr.aload_n 0, 1, 0, 0, 0, []), (573, Instr.iload_n 3, 1, 0, 0, 0, []), (574, Instr.iconst 1, 1, 1, 0, 0, []), (575, Instr.iadd, 1, 0, 0, 0, []), (576, Instr.iaload, 1, 0, 0, 0, []), (577, Instr.ifCond .eq 7, 3, 0, 584, 0, []), (580, Instr.iconst 1, 1, 1, 0, 0, []), (581, Instr.goto 4, 3, 0, 585, 0, []), (584, Instr.iconst 0, 1, 0, 0, 0, []), (585, Instr.invokevirtual 82, 3, 9, 91, 1, [659, 660, 661, 56, 662]), (588, Instr.aload_n 2, 1, 0, 0, 0, []), (589, Instr.aload_n 0, 1, 0, 0, 0, []), (590, Instr.iload_n 3, 1, 0, 0, 0, []), (591, Instr.iconst 1, 1, 1, 0, 0, []), (592, Instr.iadd, 1, 0, 0, 0, []), (593, Instr.iaload, 1, 0, 0, 0, []), (594, Instr.ifCond .eq 7, 3, 0, 601, 0, []), (597, Instr.iconst 1, 1, 1, 0, 0, []), (598, Instr.goto 4, 3, 0, 602, 0, []), (601, Instr.iconst 0, 1, 0, 0, 0, []), (602, Instr.invokevirtual 86, 3, 10, 174, 1, [1185, 1186, 1187, 66, 1188]), (605, Instr.if_icmp .eq 51, 3, 0, 656, 0, []), (608, Instr.iconst 0, 1, 0, 0, 0, []), (609, Instr.ireturn, 1, 1, 0, 0, []), (610, Instr.aload_n 1, 1, 0, 0, 0, []), (611, Instr.aload_n 0, 1, 0, 0, 0, []), (612, Instr.iload_n 3, 1, 0, 0, 0, []), (613, Instr.iconst 1, 1, 1, 0, 0, []), (614, Instr.iadd, 1, 0, 0, 0, []), (615, Instr.iaload, 1, 0, 0, 0, []), (616, Instr.invokevirtual 87, 3, 9, 130, 1, [839, 840, 841, 56, 842]), (619, Instr.aload_n 2, 1, 0, 0, 0, []), (620, Instr.aload_n 0, 1, 0, 0, 0, []), (621, Instr.iload_n 3, 1, 0, 0, 0, []), (622, Instr.iconst 1, 1, 1, 0, 0, []), (623, Instr.iadd, 1, 0, 0, 0, []), (624, Instr.iaload, 1, 0, 0, 0, []), (625, Instr.invokevirtual 90, 3, 10, 189, 1, [1246, 1247, 1248, 66, 1249]), (628, Instr.if_icmp .eq 28, 3, 0, 656, 0, []), (631, Instr.iconst 0, 1, 0, 0, 0, []), (632, Instr.ireturn, 1, 1, 0, 0, []), (633, Instr.aload_n 1, 1, 0, 0, 0, []), (634, Instr.aload_n 0, 1, 0, 0, 0, []), (635, Instr.iload_n 3, 1, 0, 0, 0, []), (636, Instr.iconst 1, 1, 1, 0, 0, []), (637, Instr.iadd, 1, 0, 0, 0, []), (638, Instr.iaload, 1, 0, 0, 0, []), (639, Instr.invokevirtual 91, 3, 9, 131, 1, [843, 844, 845, 56, 846]), (642, Instr.aload_n 2, 1, 0, 0, 0, []), (643, Instr.aload_n 0, 1, 0, 0, 0, []), (644, Instr.iload_n 3, 1, 0, 0, 0, []), (645, Instr.iconst 1, 1, 1, 0, 0, []), (646, Instr.iadd, 1, 0, 0, 0, []), (647, Instr.iaload, 1, 0, 0, 0, []), (648, Instr.invokevirtual 94, 3, 10, 190, 1, [1250, 1251, 1252, 66, 1253]), (651, Instr.if_icmp .eq 5, 3, 0, 656, 0, []), (654, Instr.iconst 0, 1, 0, 0, 0, []), (655, Instr.ireturn, 1, 1, 0, 0, []), (656, Instr.iinc 3 5, 3, 0, 0, 0, []), (659, Instr.goto (-641), 3, 0, 18, 0, []), (662, Instr.iconst 1, 1, 1, 0, 0, []), (663, Instr.ireturn, 1, 1, 0, 0, [])]
def mm_T1 : List (Nat × mm_I) := [(0, Instr.aload_n 0, 1, 0, 0, 0, []), (1, Instr.invokespecial 1, 3, 0, 0, 1000, [75, 76, 77]), (4, Instr.aload_n 0, 1, 0, 0, 0, []), (5, Instr.new 7, 3, 0, 7, 2, [78, 79, 57]), (8, Instr.dup, 1, 0, 0, 0, []), (9, Instr.sipush 400, 3, 400, 0, 0, []), (12, Instr.invokespecial 11, 3, 0, 2, 1, [80, 81, 57, 82]), (15, Instr.putfield 14, 3, 0, 9, 0, [292]), (18, Instr.aload_n 0, 1, 0, 0, 0, []), (19, Instr.new 7, 3, 0, 7, 2, [78, 79, 57]), (22, Instr.dup, 1, 0, 0, 0, []), (23, Instr.sipush 300, 3, 300, 0, 0, []), (26, Instr.invokespecial 11, 3, 0, 2, 1, [80, 81, 57, 82]), (29, Instr.putfield 18, 3, 0, 9, 1, [293]), (32, Instr.aload_n 0, 1, 0, 0, 0, []), (33, Instr.new 7, 3, 0, 7, 2, [78, 79, 57]), (36, Instr.dup, 1, 0, 0, 0, []), (37, Instr.sipush 300, 3, 300, 0, 0, []), (40, Instr.invokespecial 11, 3, 0, 2, 1, [80, 81, 57, 82]), (43, Instr.putfield 21, 3, 0, 9, 2, [294]), (46, Instr.aload_n 0, 1, 0, 0, 0, []), (47, Instr.new 7, 3, 0, 7, 2, [78, 79, 57]), (50, Instr.dup, 1, 0, 0, 0, []), (51, Instr.sipush 300, 3, 300, 0, 0, []), (54, Instr.invokespecial 11, 3, 0, 2, 1, [80, 81, 57, 82]), (57, Instr.putfield 24, 3, 0, 9, 3, [295]), (60, Instr.aload_n 0, 1, 0, 0, 0, []), (61, Instr.new 27, 3, 0, 8, 6, [92, 93, 58]), (64, Instr.dup, 1, 0, 0, 0, []), (65, Instr.invokespecial 29, 3, 0, 3, 0, [94, 95, 58, 96]), (68, Instr.putfield 30, 3, 0, 9, 4, [296]), (71, Instr.aload_n 0, 1, 0, 0, 0, []), (72, Instr.new 34, 3, 0, 4, 5, [117, 118, 59]), (75, Instr.dup, 1, 0, 0, 0, []), (76, Instr.invokespecial 36, 3, 0, 4, 0, [119, 120, 59, 121]), (79, Instr.putfield 37, 3, 0, 9, 5, [297]), (82, Instr.aload_n 0, 1, 0, 0, 0, []), (83, Instr.new 41, 3, 0, 6, 3, [140, 141, 60]), (86, Instr.dup, 1, 0, 0, 0, []), (87, Instr.invokespecial 43, 3, 0, 5, 0, [142, 143, 60, 144]), (90, Instr.putfield 44, 3, 0, 9, 6, [298]), (93, Instr.aload_n 0, 1, 0, 0, 0, []), (94, Instr.new 48, 3, 0, 5, 5, [156, 157, 61]), (97, Instr.dup, 1, 0, 0, 0, []), (98, Instr.invokespecial 50, 3, 0, 6, 0, [158, 159, 61, 160]), (101, Instr.putfield 51, 3, 0, 9, 7, [299]), (104, Instr.aload_n 0, 1, 0, 0, 0, []), (105, Instr.new 55, 3, 0, 1, 4, [178, 179, 62]), (108, Instr.dup, 1, 0, 0, 0, []), (109, Instr.aload_n 0, 1, 0, 0, 0, []), (110, Instr.getfield 37, 3, 0, 9, 5, [297]), (113, Instr.aload_n 0, 1, 0, 0, 0, []), (114, Instr.getfield 44, 3, 0, 9, 6, [298]), (117, Instr.invokespecial 57, 3, 0, 7, 2, [180, 181, 62, 182]), (120, Instr.putfield 60, 3, 0, 9, 8, [300]), (123, Instr.aload_n 0, 1, 0, 0, 0, []), (124, Instr.new 64, 3, 0, 0, 13, [199, 200, 63]), (127, Instr.dup, 1, 0, 0, 0, []), (128, Instr.aload_n 0, 1, 0, 0, 0, []), (129, Instr.getfield 30, 3, 0, 9, 4, [296]), (132, Instr.aload_n 0, 1, 0, 0, 0, []), (133, Instr.getfield 60, 3, 0, 9, 8, [300]), (136, Instr.new 66, 3, 0, 2, 6, [201, 202, 64]), (139, Instr.dup, 1, 0, 0, 0, []), (140, Instr.aload_n 0, 1, 0, 0, 0, []), (141, Instr.getfield 30, 3, 0, 9, 4, [296]), (144, Instr.aload_n 0, 1, 0, 0, 0, []), (145, Instr.getfield 44, 3, 0, 9, 6, [298]), (148, Instr.aload_n 0, 1, 0, 0, 0, []), (149, Instr.getfield 51, 3, 0, 9, 7, [299]), (152, Instr.invokespecial 68, 3, 0, 8, 3, [203, 204, 64, 205]), (155, Instr.invokespecial 71, 3, 0, 9, 3, [228, 229, 63, 230]), (158, Instr.putfield 74, 3, 0, 9, 9, [301]), (161, Instr.return_, 1, 0, 0, 0, [])]
def mm_T2 : List (Nat × mm_I) := [(0, Instr.aload_n 0, 1, 0, 0, 0, []), (1, Instr.invokespecial 1, 3, 0, 0, 1000, [83, 76, 77]), (4, Instr.aload_n 0, 1, 0, 0, 0, []), (5, Instr.iload_n 1, 1, 0, 0, 0, []), (6, Instr.newarray .int, 2, 0, 0, 0, [91]), (8, Instr.putfield 7, 3, 0, 7, 0, [84]), (11, Instr.aload_n 0, 1, 0, 0, 0, []), (12, Instr.iconst 0, 1, 0, 0, 0, []), (13, Instr.putfield 13, 3, 1, 7, 1, [85]), (16, Instr.return_, 1, 0, 0, 0, [])]
def mm_T3 : List (Nat × mm_I) := [(0, Instr.aload_n 0, 1, 0, 0, 0, []), (1, Instr.invokespecial 3, 3, 0, 0, 1000, [97, 76, 77]), (4, Instr.aload_n 0, 1, 0, 0, 0, []), (5, Instr.sipush 200, 3, 200, 0, 0, []), (8, Instr.newarray .int, 2, 0, 0, 0, [91]), (10, Instr.putfield 11, 3, 0, 8, 0, [98]), (13, Instr.aload_n 0, 1, 0, 0, 0, []), (14, Instr.sipush 200, 3, 200, 0, 0, []), (17, Instr.newarray .int, 2, 0, 0, 0, [91]), (19, Instr.putfield 15, 3, 0, 8, 1, [99]), (22, Instr.aload_n 0, 1, 0, 0, 0, []), (23, Instr.sipush 200, 3, 200, 0, 0, []), (26, Instr.newarray .int, 2, 0, 0, 0, [91]), (28, Instr.putfield 18, 3, 0, 8, 2, [100]), (31, Instr.aload_n 0, 1, 0, 0, 0, []), (32, Instr.sipush 200, 3, 200, 0, 0, []), (35, Instr.newarray .int, 2, 0, 0, 0, [91]), (37, Instr.putfield 21, 3, 0, 8, 3, [101]), (40, Instr.aload_n 0, 1, 0, 0, 0, []), (41, Instr.sipush 800, 3, 800, 0, 0, []), (44, Instr.newarray .int, 2, 0, 0, 0, [91]), (46, Instr.putfield 24, 3, 0, 8, 4, [102]), (49, Instr.aload_n 0, 1, 0, 0, 0, []), (50, Instr.iconst 0, 1, 0, 0, 0, []), (51, Instr.putfield 27, 3, 1, 8, 5, [103]), (54, Instr.return_, 1, 0, 0, 0, [])]
def mm_T4 : List (Nat × mm_I) := [(0, Instr.aload_n 0, 1, 0, 0, 0, []), (1, Instr.invokespecial 3, 3, 0, 0, 1000, [122, 76, 77]), (4, Instr.aload_n 0, 1, 0, 0, 0, []), (5, Instr.bipush 100, 2, 100, 0, 0, []), (7, Instr.newarray .int, 2, 0, 0, 0, [91]), (9, Instr.putfield 11, 3, 0, 4, 0, [123]), (12, Instr.aload_n 0, 1, 0, 0, 0, []), (13, Instr.bipush 100, 2, 100, 0, 0, []), (15, Instr.newarray .int, 2, 0, 0, 0, [91]), (17, Instr.putfield 15, 3, 0, 4, 1, [124]), (20, Instr.aload_n 0, 1, 0, 0, 0, []), (21, Instr.bipush 100, 2, 100, 0, 0, []), (23, Instr.newarray .int, 2, 0, 0, 0, [91]), (25, Instr.putfield 18, 3, 0, 4, 2, [125]), (28, Instr.aload_n 0, 1, 0, 0, 0, []), (29, Instr.bipush 100, 2, 100, 0, 0, []), (31, Instr.newarray .boolean, 2, 0, 0, 0, [139]), (33, Instr.putfield 21, 3, 0, 4, 3, [126]), (36, Instr.aload_n 0, 1, 0, 0, 0, []), (37, Instr.iconst 0, 1, 0, 0, 0, []), (38, Instr.putfield 25, 3, 1, 4, 4, [127]), (41, Instr.return_, 1, 0, 0, 0, [])]
def mm_T5 : List (Nat × mm_I) := [(0, Instr.aload_n 0, 1, 0, 0, 0, []), (1, Instr.invokespecial 3, 3, 0, 0, 1000, [145, 76, 77]), (4, Instr.aload_n 0, 1, 0, 0, 0, []), (5, Instr.bipush 100, 2, 100, 0, 0, []), (7, Instr.newarray .int, 2, 0, 0, 0, [91]), (9, Instr.putfield 11, 3, 0, 6, 0, [146]), (12, Instr.aload_n 0, 1, 0, 0, 0, []), (13, Instr.bipush 100, 2, 100, 0, 0, []), (15, Instr.newarray .int, 2, 0, 0, 0, [91]), (17, Instr.putfield 15, 3, 0, 6, 1, [147]), (20, Instr.aload_n 0, 1, 0, 0, 0, []), (21, Instr.iconst 0, 1, 0, 0, 0, []), (22, Instr.putfield 18, 3, 1, 6, 2, [148]), (25, Instr.return_, 1, 0, 0, 0, [])]
def mm_T6 : List (Nat × mm_I) := [(0, Instr.aload_n 0, 1, 0, 0, 0, []), (1, Instr.invokespecial 3, 3, 0, 0, 1000, [161, 76, 77]), (4, Instr.aload_n 0, 1, 0, 0, 0, []), (5, Instr.sipush 200, 3, 200, 0, 0, []), (8, Instr.newarray .int, 2, 0, 0, 0, [91]), (10, Instr.putfield 11, 3, 0, 5, 0, [162]), (13, Instr.aload_n 0, 1, 0, 0, 0, []), (14, Instr.sipush 200, 3, 200, 0, 0, []), (17, Instr.newarray .int, 2, 0, 0, 0, [91]), (19, Instr.putfield 15, 3, 0, 5, 1, [163]), (22, Instr.aload_n 0, 1, 0, 0, 0, []), (23, Instr.sipush 200, 3, 200, 0, 0, []), (26, Instr.newarray .int, 2, 0, 0, 0, [91]), (28, Instr.putfield 18, 3, 0, 5, 2, [164]), (31, Instr.aload_n 0, 1, 0, 0, 0, []), (32, Instr.sipush 200, 3, 200, 0, 0, []), (35, Instr.newarray .int, 2, 0, 0, 0, [91]), (37, Instr.putfield 21, 3, 0, 5, 3, [165]), (40, Instr.aload_n 0, 1, 0, 0, 0, []), (41, Instr.iconst 0, 1, 0, 0, 0, []), (42, Instr.putfield 24, 3, 1, 5, 4, [166]), (45, Instr.return_, 1, 0, 0, 0, [])]
def mm_T7 : List (Nat × mm_I) := [(0, Instr.aload_n 0, 1, 0, 0, 0, []), (1, Instr.invokespecial 3, 3, 0, 0, 1000, [183, 76, 77]), (4, Instr.aload_n 0, 1, 0, 0, 0, []), (5, Instr.aload_n 1, 1, 0, 0, 0, []), (6, Instr.putfield 9, 3, 0, 1, 0, [186]), (9, Instr.aload_n 0, 1, 0, 0, 0, []), (10, Instr.aload_n 2, 1, 0, 0, 0, []), (11, Instr.putfield 15, 3, 0, 1, 1, [187]), (14, Instr.aload_n 0, 1, 0, 0, 0, []), (15, Instr.sipush 128, 3, 128, 0, 0, []), (18, Instr.newarray .int, 2, 0, 0, 0, [91]), (20, Instr.putfield 19, 3, 0, 1, 2, [188]), (23, Instr.aload_n 0, 1, 0, 0, 0, []), (24, Instr.new 23, 3, 0, 7, 2, [184, 79, 57]), (27, Instr.dup, 1, 0, 0, 0, []), (28, Instr.sipush 300, 3, 300, 0, 0, []), (31, Instr.invokespecial 25, 3, 0, 2, 1, [185, 81, 57, 82]), (34, Instr.putfield 28, 3, 0, 1, 3, [189]), (37, Instr.return_, 1, 0, 0, 0, [])]
def mm_T8 : List (Nat × mm_I) := [(0, Instr.aload_n 0, 1, 0, 0, 0, []), (1, Instr.invokespecial 3, 3, 0, 0, 1000, [206, 76, 77]), (4, Instr.aload_n 0, 1, 0, 0, 0, []), (5, Instr.aload_n 1, 1, 0, 0, 0, []), (6, Instr.putfield 9, 3, 0, 2, 0, [209]), (9, Instr.aload_n 0, 1, 0, 0, 0, []), (10, Instr.aload_n 2, 1, 0, 0, 0, []), (11, Instr.putfield 15, 3, 0, 2, 1, [210]), (14, Instr.aload_n 0, 1, 0, 0, 0, []), (15, Instr.aload_n 3, 1, 0, 0, 0, []), (16, Instr.putfield 19, 3, 0, 2, 2, [211]), (19, Instr.aload_n 0, 1, 0, 0, 0, []), (20, Instr.new 23, 3, 0, 7, 2, [207, 79, 57]), (23, Instr.dup, 1, 0, 0, 0, []), (24, Instr.sipush 300, 3, 300, 0, 0, []), (27, Instr.invokespecial 25, 3, 0, 2, 1, [208, 81, 57, 82]), (30, Instr.putfield 28, 3, 0, 2, 3, [212]), (33, Instr.aload_n 0, 1, 0, 0, 0, []), (34, Instr.new 23, 3, 0, 7, 2, [207, 79, 57]), (37, Instr.dup, 1, 0, 0, 0, []), (38, Instr.sipush 300, 3, 300, 0, 0, []), (41, Instr.invokespecial 25, 3, 0, 2, 1, [208, 81, 57, 82]), (44, Instr.putfield 32, 3, 0, 2, 4, [213]), (47, Instr.aload_n 0, 1, 0, 0, 0, []), (48, Instr.iconst 0, 1, 0, 0, 0, []), (49, Instr.putfield 35, 3, 1, 2, 5, [214]), (52, Instr.return_, 1, 0, 0, 0, [])]
def mm_T9 : List (Nat × mm_I) := [(0, Instr.aload_n 0, 1, 0, 0, 0, []), (1, Instr.invokespecial 3, 3, 0, 0, 1000, [231, 76, 77]), (4, Instr.aload_n 0, 1, 0, 0, 0, []), (5, Instr.aload_n 1, 1, 0, 0, 0, []), (6, Instr.putfield 9, 3, 0, 0, 0, [252]), (9, Instr.aload_n 0, 1, 0, 0, 0, []), (10, Instr.aload_n 2, 1, 0, 0, 0, []), (11, Instr.putfield 15, 3, 0, 0, 1, [253]), (14, Instr.aload_n 0, 1, 0, 0, 0, []), (15, Instr.aload_n 3, 1, 0, 0, 0, []), (16, Instr.putfield 19, 3, 0, 0, 2, [254]), (19, Instr.aload_n 0, 1, 0, 0, 0, []), (20, Instr.new 23, 3, 0, 7, 2, [232, 79, 57]), (23, Instr.dup, 1, 0, 0, 0, []), (24, Instr.sipush 300, 3, 300, 0, 0, []), (27, Instr.invokespecial 25, 3, 0, 2, 1, [233, 81, 57, 82]), (30, Instr.putfield 28, 3, 0, 0, 3, [255]), (33, Instr.aload_n 0, 1, 0, 0, 0, []), (34, Instr.new 23, 3, 0, 7, 2, [232, 79, 57]), (37, Instr.dup, 1, 0, 0, 0, []), (38, Instr.sipush 300, 3, 300, 0, 0, []), (41, Instr.invokespecial 25, 3, 0, 2, 1, [233, 81, 57, 82]), (44, Instr.putfield 32, 3, 0, 0, 4, [256]), (47, Instr.aload_n 0, 1, 0, 0, 0, []), (48, Instr.new 23, 3, 0, 7, 2, [232, 79, 57]), (51, Instr.dup, 1, 0, 0, 0, []), (52, Instr.sipush 300, 3, 300, 0, 0, []), (55, Instr.invokespecial 25, 3, 0, 2, 1, [233, 81, 57, 82]), (58, Instr.putfield 35, 3, 0, 0, 5, [257]), (61, Instr.aload_n 0, 1, 0, 0, 0, []), (62, Instr.new 38, 3, 0, 3, 3, [234, 235, 65]), (65, Instr.dup, 1, 0, 0, 0, []), (66, Instr.invokespecial 40, 3, 0, 10, 0, [236, 237, 65, 238]), (69, Instr.putfield 41, 3, 0, 0, 6, [258]), (72, Instr.aload_n 0, 1, 0, 0, 0, []), (73, Instr.sipush 301, 3, 301, 0, 0, []), (76, Instr.newarray .int, 2, 0, 0, 0, [91]), (78, Instr.putfield 45, 3, 0, 0, 7, [259]), (81, Instr.aload_n 0, 1, 0, 0, 0, []), (82, Instr.new 23, 3, 0, 7, 2, [232, 79, 57]), (85, Instr.dup, 1, 0, 0, 0, []), (86, Instr.sipush 1200, 3, 1200, 0, 0, []), (89, Instr.invokespecial 25, 3, 0, 2, 1, [233, 81, 57, 82]), (92, Instr.putfield 49, 3, 0, 0, 8, [260]), (95, Instr.aload_n 0, 1, 0, 0, 0, []), (96, Instr.new 23, 3, 0, 7, 2, [232, 79, 57]), (99, Instr.dup, 1, 0, 0, 0, []), (100, Instr.sipush 1200, 3, 1200, 0, 0, []), (103, Instr.invokespecial 25, 3, 0, 2, 1, [233, 81, 57, 82]), (106, Instr.putfield 52, 3, 0, 0, 9, [261]), (109, Instr.aload_n 0, 1, 0, 0, 0, []), (110, Instr.iconst 0, 1, 0, 0, 0, []), (111, Instr.putfield 55, 3, 1, 0, 10, [262]), (114, Instr.aload_n 0, 1, 0, 0, 0, []), (115, Instr.iconst 0, 1, 0, 0, 0, []), (116, Instr.putfield 59, 3, 1, 0, 11, [263]), (119, Instr.aload_n 0, 1, 0, 0, 0, []), (120, Instr.iconst 0, 1, 0, 0, 0, []), (121, Instr.putfield 62, 3, 1, 0, 12, [264]), (124, Instr.return_, 1, 0, 0, 0, [])]
def mm_T10 : List (Nat × mm_I) := [(0, Instr.aload_n 0, 1, 0, 0, 0, []), (1, Instr.invokespecial 3, 3, 0, 0, 1000, [239, 76, 77]), (4, Instr.aload_n 0, 1, 0, 0, 0, []), (5, Instr.new 9, 3, 0, 7, 2, [240, 79, 57]), (8, Instr.dup, 1, 0, 0, 0, []), (9, Instr.sipush 300, 3, 300, 0, 0, []), (12, Instr.invokespecial 11, 3, 0, 2, 1, [241, 81, 57, 82]), (15, Instr.putfield 14, 3, 0, 3, 0, [242]), (18, Instr.aload_n 0, 1, 0, 0, 0, []), (19, Instr.sipush 301, 3, 301, 0, 0, []), (22, Instr.newarray .int, 2, 0, 0, 0, [91]), (24, Instr.putfield 20, 3, 0, 3, 1, [243]), (27, Instr.aload_n 0, 1, 0, 0, 0, []), (28, Instr.iconst 0, 1, 0, 0, 0, []), (29, Instr.putfield 24, 3, 1, 3, 2, [244]), (32, Instr.return_, 1, 0, 0, 0, [])]
def mm_T11 : List (Nat × mm_I) := [(0, Instr.iload_n 3, 1, 0, 0, 0, []), (1, Instr.ifCond .lt 9, 3, 0, 10, 0, []), (4, Instr.iload_n 3, 1, 0, 0, 0, []), (5, Instr.bipush 8, 2, 8, 0, 0, []), (7, Instr.if_icmp .le 6, 3, 0, 13, 0, []), (10, Instr.bipush (-2), 2, (-2), 0, 0, []), (12, Instr.ireturn, 1, 0, 0, 0, []), (13, Instr.iload_n 3, 1, 0, 0, 0, []), (14, Instr.ifCond .ne 12, 3, 0, 26, 0, []), (17, Instr.aload_n 0, 1, 0, 0, 0, []), (18, Instr.getfield 14, 3, 0, 9, 0, [292]), (21, Instr.invokevirtual 78, 3, 7, 12, 0, [327, 328, 329, 57, 330]), (24, Instr.iconst 0, 1, 0, 0, 0, []), (25, Instr.ireturn, 1, 0, 0, 0, []), (26, Instr.aload_n 0, 1, 0, 0, 0, []), (27, Instr.getfield 14, 3, 0, 9, 0, [292]), (30, Instr.invokevirtual 81, 3, 7, 13, 0, [331, 332, 333, 57, 334]), (33, Instr.iload_n 3, 1, 0, 0, 0, []), (34, Instr.iadd, 1, 0, 0, 0, []), (35, Instr.sipush 400, 3, 400, 0, 0, []), (38, Instr.if_icmp .le 6, 3, 0, 44, 0, []), (41, Instr.bipush (-4), 2, (-4), 0, 0, []), (43, Instr.ireturn, 1, 0, 0, 0, []), (44, Instr.iload_n 3, 1, 0, 0, 0, []), (45, Instr.iconst 1, 1, 1, 0, 0, []), (46, Instr.isub, 1, 0, 0, 0, []), (47, Instr.istore 4, 2, 0, 0, 0, []), (49, Instr.iload 4, 2, 0, 0, 0, []), (51, Instr.ifCond .lt 29, 3, 0, 80, 0, []), (54, Instr.aload_n 0, 1, 0, 0, 0, []), (55, Instr.getfield 14, 3, 0, 9, 0, [292]), (58, Instr.lload_n 1, 1, 0, 0, 0, []), (59, Instr.bipush 8, 2, 8, 0, 0, []), (61, Instr.iload 4, 2, 0, 0, 0, []), (63, Instr.imul, 1, 0, 0, 0, []), (64, Instr.lushr, 1, 0, 0, 0, []), (65, Instr.ldc2_w 85, 3, 255, 0, 0, [335]), (68, Instr.land, 1, 0, 0, 0, []), (69, Instr.l2i, 1, 0, 0, 0, []), (70, Instr.invokevirtual 87, 3, 7, 14, 1, [336, 337, 338, 57, 339]), (73, Instr.pop, 1, 0, 0, 0, []), (74, Instr.iinc 4 (-1), 3, 0, 0, 0, []), (77, Instr.goto (-28), 3, 0, 49, 0, []), (80, Instr.aload_n 0, 1, 0, 0, 0, []), (81, Instr.getfield 14, 3, 0, 9, 0, [292]), (84, Instr.invokevirtual 81, 3, 7, 13, 0, [331, 332, 333, 57, 334]), (87, Instr.ireturn, 1, 0, 0, 0, [])]
def mm_T12 : List (Nat × mm_I) := [(0, Instr.aload_n 0, 1, 0, 0, 0, []), (1, Instr.iconst 0, 1, 0, 0, 0, []), (2, Instr.putfield 13, 3, 1, 7, 1, [85]), (5, Instr.return_, 1, 0, 0, 0, [])]
def mm_T13 : List (Nat × mm_I) := [(0, Instr.aload_n 0, 1, 0, 0, 0, []), (1, Instr.getfield 13, 3, 0, 7, 1, [85]), (4, Instr.ireturn, 1, 0, 0, 0, [])]
def mm_T14 : List (Nat × mm_I) := [(0, Instr.aload_n 0, 1, 0, 0, 0, []), (1, Instr.getfield 13, 3, 0, 7, 1, [85]), (4, Instr.aload_n 0, 1, 0, 0, 0, []), (5, Instr.getfield 7, 3, 0, 7, 0, [84]), (8, Instr.arraylength, 1, 0, 0, 0, []), (9, Instr.if_icmp .lt 5, 3, 0, 14, 0, []), (12, Instr.iconst 0, 1, 0, 0, 0, []), (13, Instr.ireturn, 1, 1, 0, 0, []), (14, Instr.aload_n 0, 1, 0, 0, 0, []), (15, Instr.getfield 7, 3, 0, 7, 0, [84]), (18, Instr.aload_n 0, 1, 0, 0, 0, []), (19, Instr.getfield 13, 3, 0, 7, 1, [85]), (22, Instr.iload_n 1, 1, 0, 0, 0, []), (23, Instr.iastore, 1, 0, 0, 0, []), (24, Instr.aload_n 0, 1, 0, 0, 0, []), (25, Instr.dup, 1, 0, 0, 0, []), (26, Instr.getfield 13, 3, 0, 7, 1, [85]), (29, Instr.iconst 1, 1, 1, 0, 0, []), (30, Instr.iadd, 1, 0, 0, 0, []), (31, Instr.putfield 13, 3, 1, 7, 1, [85]), (34, Instr.iconst 1, 1, 1, 0, 0, []), (35, Instr.ireturn, 1, 1, 0, 0, [])]
def mm_T15 : List (Nat × mm_I) := [(0, Instr.aload_n 0, 1, 0, 0, 0, []), (1, Instr.getfield 14, 3, 0, 9, 0, [292]), (4, Instr.aload_n 0, 1, 0, 0, 0, []), (5, Instr.getfield 21, 3, 0, 9, 2, [294]), (8, Instr.invokestatic 91, 3, 0, 16, 2, [344, 345, 67, 346]), (11, Instr.istore_n 1, 1, 0, 0, 0, []), (12, Instr.iload_n 1, 1, 0, 0, 0, []), (13, Instr.iconst (-1), 1, (-1), 0, 0, []), (14, Instr.if_icmp .eq 8, 3, 0, 22, 0, []), (17, Instr.iload_n 1, 1, 0, 0, 0, []), (18, Instr.invokestatic 97, 3, 0, 22, 1, [366, 367, 56, 368]), (21, Instr.ireturn, 1, 0, 0, 0, []), (22, Instr.aload_n 0, 1, 0, 0, 0, []), (23, Instr.getfield 18, 3, 0, 9, 1, [293]), (26, Instr.aload_n 0, 1, 0, 0, 0, []), (27, Instr.getfield 21, 3, 0, 9, 2, [294]), (30, Instr.invokevirtual 101, 3, 7, 23, 1, [369, 370, 371, 57, 372]), (33, Instr.aload_n 0, 1, 0, 0, 0, []), (34, Instr.getfield 18, 3, 0, 9, 1, [293]), (37, Instr.invokevirtual 81, 3, 7, 13, 0, [331, 332, 333, 57, 334]), (40, Instr.ireturn, 1, 0, 0, 0, [])]
def mm_T16 : List (Nat × mm_I) := [(0, Instr.aload_n 1, 1, 0, 0, 0, []), (1, Instr.invokevirtual 16, 3, 7, 12, 0, [347, 328, 329, 57, 330]), (4, Instr.iconst 0, 1, 0, 0, 0, []), (5, Instr.istore_n 2, 1, 0, 0, 0, []), (6, Instr.iconst 0, 1, 0, 0, 0, []), (7, Instr.istore_n 3, 1, 0, 0, 0, []), (8, Instr.sipush 128, 3, 128, 0, 0, []), (11, Instr.istore 4, 2, 0, 0, 0, []), (13, Instr.sipush 191, 3, 191, 0, 0, []), (16, Instr.istore 5, 2, 0, 0, 0, []), (18, Instr.iconst 0, 1, 0, 0, 0, []), (19, Instr.istore 6, 2, 0, 0, 0, []), (21, Instr.iload 6, 2, 0, 0, 0, []), (23, Instr.aload_n 0, 1, 0, 0, 0, []), (24, Instr.invokevirtual 21, 3, 7, 13, 0, [348, 332, 333, 57, 334]), (27, Instr.if_icmp .ge 115, 3, 0, 142, 0, []), (30, Instr.aload_n 0, 1, 0, 0, 0, []), (31, Instr.iload 6, 2, 0, 0, 0, []), (33, Instr.invokevirtual 25, 3, 7, 17, 1, [349, 350, 351, 57, 352]), (36, Instr.istore 7, 2, 0, 0, 0, []), (38, Instr.iload_n 3, 1, 0, 0, 0, []), (39, Instr.ifCond .ne 40, 3, 0, 79, 0, []), (42, Instr.iload 7, 2, 0, 0, 0, []), (44, Instr.invokestatic 29, 3, 0, 18, 1, [353, 354, 67, 355]), (47, Instr.istore_n 3, 1, 0, 0, 0, []), (48, Instr.iload_n 3, 1, 0, 0, 0, []), (49, Instr.ifCond .ge 6, 3, 0, 55, 0, []), (52, Instr.iload 6, 2, 0, 0, 0, []), (54, Instr.ireturn, 1, 0, 0, 0, []), (55, Instr.iload 7, 2, 0, 0, 0, []), (57, Instr.iload_n 3, 1, 0, 0, 0, []), (58, Instr.invokestatic 32, 3, 0, 19, 2, [356, 357, 67, 358]), (61, Instr.istore_n 2, 1, 0, 0, 0, []), (62, Instr.iload 7, 2, 0, 0, 0, []), (64, Instr.invokestatic 36, 3, 0, 20, 1, [359, 360, 67, 361]), (67, Instr.istore 4, 2, 0, 0, 0, []), (69, Instr.iload 7, 2, 0, 0, 0, []), (71, Instr.invokestatic 39, 3, 0, 21, 1, [362, 363, 67, 364]), (74, Instr.istore 5, 2, 0, 0, 0, []), (76, Instr.goto 45, 3, 0, 121, 0, []), (79, Instr.iload 7, 2, 0, 0, 0, []), (81, Instr.iload 4, 2, 0, 0, 0, []), (83, Instr.if_icmp .lt 10, 3, 0, 93, 0, []), (86, Instr.iload 7, 2, 0, 0, 0, []), (88, Instr.iload 5, 2, 0, 0, 0, []), (90, Instr.if_icmp .le 6, 3, 0, 96, 0, []), (93, Instr.iload 6, 2, 0, 0, 0, []), (95, Instr.ireturn, 1, 0, 0, 0, []), (96, Instr.iload_n 2, 1, 0, 0, 0, []), (97, Instr.bipush 64, 2, 64, 0, 0, []), (99, Instr.imul, 1, 0, 0, 0, []), (100, Instr.iload 7, 2, 0, 0, 0, []), (102, Instr.iadd, 1, 0, 0, 0, []), (103, Instr.sipush 128, 3, 128, 0, 0, []), (106, Instr.isub, 1, 0, 0, 0, []), (107, Instr.istore_n 2, 1, 0, 0, 0, []), (108, Instr.iinc 3 (-1), 3, 0, 0, 0, []), (111, Instr.sipush 128, 3, 128, 0, 0, []), (114, Instr.istore 4, 2, 0, 0, 0, []), (116, Instr.sipush 191, 3, 191, 0, 0, []), (119, Instr.istore 5, 2, 0, 0, 0, []), (121, Instr.iload_n 3, 1, 0, 0, 0, []), (122, Instr.ifCond .ne 14, 3, 0, 136, 0, []), (125, Instr.aload_n 1, 1, 0, 0, 0, []), (126, Instr.iload_n 2, 1, 0, 0, 0, []), (127, Instr.invokevirtual 42, 3, 7, 14, 1, [365, 337, 338, 57, 339]), (130, Instr.ifCond .ne 6, 3, 0, 136, 0, []), (133, Instr.bipush (-2), 2, (-2), 0, 0, []), (135, Instr.ireturn, 1, 0, 0, 0, []), (136, Instr.iinc 6 1, 3, 0, 0, 0, []), (139, Instr.goto (-118), 3, 0, 21, 0, []), (142, Instr.iload_n 3, 1, 0, 0, 0, []), (143, Instr.ifCond .ne 7, 3, 0, 150, 0, []), (146, Instr.iconst (-1), 1, (-1), 0, 0, []), (147, Instr.goto 7, 3, 0, 154, 0, []), (150, Instr.aload_n 0, 1, 0, 0, 0, []), (151, Instr.invokevirtual 21, 3, 7, 13, 0, [348, 332, 333, 57, 334]), (154, Instr.ireturn, 1, 0, 0, 0, [])]
def mm_T17 : List (Nat × mm_I) := [(0, Instr.iload_n 1, 1, 0, 0, 0, []), (1, Instr.ifCond .lt 20, 3, 0, 21, 0, []), (4, Instr.iload_n 1, 1, 0, 0, 0, []), (5, Instr.aload_n 0, 1, 0, 0, 0, []), (6, Instr.getfield 13, 3, 0, 7, 1, [85]), (9, Instr.if_icmp .ge 12, 3, 0, 21, 0, []), (12, Instr.aload_n 0, 1, 0, 0, 0, []), (13, Instr.getfield 7, 3, 0, 7, 0, [84]), (16, Instr.iload_n 1, 1, 0, 0, 0, []), (17, Instr.iaload, 1, 0, 0, 0, []), (18, Instr.goto 4, 3, 0, 22, 0, []), (21, Instr.iconst (-1), 1, (-1), 0, 0, []), (22, Instr.ireturn, 1, 0, 0, 0, [])]
def mm_T18 : List (Nat × mm_I) := [(0, Instr.iload_n 0, 1, 0, 0, 0, []), (1, Instr.sipush 128, 3, 128, 0, 0, []), (4, Instr.if_icmp .ge 5, 3, 0, 9, 0, []), (7, Instr.iconst 0, 1, 0, 0, 0, []), (8, Instr.ireturn, 1, 0, 0, 0, []), (9, Instr.iload_n 0, 1, 0, 0, 0, []), (10, Instr.sipush 194, 3, 194, 0, 0, []), (13, Instr.if_icmp .lt 10, 3, 0, 23, 0, []), (16, Instr.iload_n 0, 1, 0, 0, 0, []), (17, Instr.sipush 244, 3, 244, 0, 0, []), (20, Instr.if_icmp .le 5, 3, 0, 25, 0, []), (23, Instr.iconst (-1), 1, (-1), 0, 0, []), (24, Instr.ireturn, 1, 0, 0, 0, []), (25, Instr.iload_n 0, 1, 0, 0, 0, []), (26, Instr.sipush 224, 3, 224, 0, 0, []), (29, Instr.if_icmp .ge 7, 3, 0, 36, 0, []), (32, Instr.iconst 1, 1, 1, 0, 0, []), (33, Instr.goto 15, 3, 0, 48, 0, []), (36, Instr.iload_n 0, 1, 0, 0, 0, []), (37, Instr.sipush 240, 3, 240, 0, 0, []), (40, Instr.if_icmp .ge 7, 3, 0, 47, 0, []), (43, Instr.iconst 2, 1, 2, 0, 0, []), (44, Instr.goto 4, 3, 0, 48, 0, []), (47, Instr.iconst 3, 1, 3, 0, 0, []), (48, Instr.ireturn, 1, 0, 0, 0, [])]
def mm_T19 : List (Nat × mm_I) := [(0, Instr.iload_n 1, 1, 0, 0, 0, []), (1, Instr.tableswitch 45 1 3 #[27, 33, 39], 27, 0, 0, 0, []), (28, Instr.iload_n 0, 1, 0, 0, 0, []), (29, Instr.sipush 192, 3, 192, 0, 0, []), (32, Instr.isub, 1, 0, 0, 0, []), (33, Instr.ireturn, 1, 0, 0, 0, []), (34, Instr.iload_n 0, 1, 0, 0, 0, []), (35, Instr.sipush 224, 3, 224, 0, 0, []), (38, Instr.isub, 1, 0, 0, 0, []), (39, Instr.ireturn, 1, 0, 0, 0, []), (40, Instr.iload_n 0, 1, 0, 0, 0, []), (41, Instr.sipush 240, 3, 240, 0, 0, []), (44, Instr.isub, 1, 0, 0, 0, []), (45, Instr.ireturn, 1, 0, 0, 0, []), (46, Instr.iload_n 0, 1, 0, 0, 0, []), (47, Instr.ireturn, 1, 0, 0, 0, [])]
def mm_T20 : List (Nat × mm_I) := [(0, Instr.iload_n 0, 1, 0, 0, 0, []), (1, Instr.sipush 224, 3, 224, 0, 0, []), (4, Instr.if_icmp .ne 9, 3, 0, 13, 0, []), (7, Instr.sipush 160, 3, 160, 0, 0, []), (10, Instr.goto 19, 3, 0, 29, 0, []), (13, Instr.iload_n 0, 1, 0, 0, 0, []), (14, Instr.sipush 240, 3, 240, 0, 0, []), (17, Instr.if_icmp .ne 9, 3, 0, 26, 0, []), (20, Instr.sipush 144, 3, 144, 0, 0, []), (23, Instr.goto 6, 3, 0, 29, 0, []), (26, Instr.sipush 128, 3, 128, 0, 0, []), (29, Instr.ireturn, 1, 0, 0, 0, [])]
def mm_T21 : List (Nat × mm_I) := [(0, Instr.iload_n 0, 1, 0, 0, 0, []), (1, Instr.sipush 237, 3, 237, 0, 0, []), (4, Instr.if_icmp .ne 9, 3, 0, 13, 0, []), (7, Instr.sipush 159, 3, 159, 0, 0, []), (10, Instr.goto 19, 3, 0, 29, 0, []), (13, Instr.iload_n 0, 1, 0, 0, 0, []), (14, Instr.sipush 244, 3, 244, 0, 0, []), (17, Instr.if_icmp .ne 9, 3, 0, 26, 0, []), (20, Instr.sipush 143, 3, 143, 0, 0, []), (23, Instr.goto 6, 3, 0, 29, 0, []), (26, Instr.sipush 191, 3, 191, 0, 0, []), (29, Instr.ireturn, 1, 0, 0, 0, [])]
def mm_T22 : List (Nat × mm_I) := [(0, Instr.iload_n 0, 1, 0, 0, 0, []), (1, Instr.bipush (-2), 2, (-2), 0, 0, []), (3, Instr.if_icmp .ne 8, 3, 0, 11, 0, []), (6, Instr.bipush (-4), 2, (-4), 0, 0, []), (8, Instr.goto 7, 3, 0, 15, 0, []), (11, Instr.bipush (-10), 2, (-10), 0, 0, []), (13, Instr.iload_n 0, 1, 0, 0, 0, []), (14, Instr.isub, 1, 0, 0, 0, []), (15, Instr.ireturn, 1, 0, 0, 0, [])]
def mm_T23 : List (Nat × mm_I) := [(0, Instr.aload_n 0, 1, 0, 0, 0, []), (1, Instr.invokevirtual 25, 3, 7, 12, 0, [373, 328, 329, 57, 330]), (4, Instr.aload_n 0, 1, 0, 0, 0, []), (5, Instr.aload_n 1, 1, 0, 0, 0, []), (6, Instr.iconst 0, 1, 0, 0, 0, []), (7, Instr.aload_n 1, 1, 0, 0, 0, []), (8, Instr.invokevirtual 28, 3, 7, 13, 0, [374, 332, 333, 57, 334]), (11, Instr.invokevirtual 31, 3, 7, 24, 3, [375, 376, 377, 57, 378]), (14, Instr.pop, 1, 0, 0, 0, []), (15, Instr.return_, 1, 0, 0, 0, [])]
def mm_T24 : List (Nat × mm_I) := [(0, Instr.iload_n 2, 1, 0, 0, 0, []), (1, Instr.istore 4, 2, 0, 0, 0, []), (3, Instr.iload 4, 2, 0, 0, 0, []), (5, Instr.iload_n 3, 1, 0, 0, 0, []), (6, Instr.if_icmp .ge 24, 3, 0, 30, 0, []), (9, Instr.aload_n 0, 1, 0, 0, 0, []), (10, Instr.aload_n 1, 1, 0, 0, 0, []), (11, Instr.iload 4, 2, 0, 0, 0, []), (13, Instr.invokevirtual 17, 3, 7, 17, 1, [379, 350, 351, 57, 352]), (16, Instr.invokevirtual 21, 3, 7, 14, 1, [380, 337, 338, 57, 339]), (19, Instr.ifCond .ne 5, 3, 0, 24, 0, []), (22, Instr.iconst 0, 1, 0, 0, 0, []), (23, Instr.ireturn, 1, 1, 0, 0, []), (24, Instr.iinc 4 1, 3, 0, 0, 0, []), (27, Instr.goto (-24), 3, 0, 3, 0, []), (30, Instr.iconst 1, 1, 1, 0, 0, []), (31, Instr.ireturn, 1, 1, 0, 0, [])]
def mm_T25 : List (Nat × mm_I) := [(0, Instr.iload_n 1, 1, 0, 0, 0, []), (1, Instr.ifCond .lt 25, 3, 0, 26, 0, []), (4, Instr.iload_n 1, 1, 0, 0, 0, []), (5, Instr.aload_n 0, 1, 0, 0, 0, []), (6, Instr.getfield 18, 3, 0, 9, 1, [293]), (9, Instr.invokevirtual 81, 3, 7, 13, 0, [331, 332, 333, 57, 334]), (12, Instr.if_icmp .ge 14, 3, 0, 26, 0, []), (15, Instr.aload_n 0, 1, 0, 0, 0, []), (16, Instr.getfield 18, 3, 0, 9, 1, [293]), (19, Instr.iload_n 1, 1, 0, 0, 0, []), (20, Instr.invokevirtual 105, 3, 7, 17, 1, [385, 350, 351, 57, 352]), (23, Instr.goto 4, 3, 0, 27, 0, []), (26, Instr.iconst (-1), 1, (-1), 0, 0, []), (27, Instr.ireturn, 1, 0, 0, 0, [])]
def mm_T26 : List (Nat × mm_I) := [(0, Instr.iload_n 1, 1, 0, 0, 0, []), (1, Instr.iconst (-1), 1, (-1), 0, 0, []), (2, Instr.if_icmp .ne 12, 3, 0, 14, 0, []), (5, Instr.aload_n 0, 1, 0, 0, 0, []), (6, Instr.getfield 18, 3, 0, 9, 1, [293]), (9, Instr.invokevirtual 78, 3, 7, 12, 0, [327, 328, 329, 57, 330]), (12, Instr.iconst 0, 1, 0, 0, 0, []), (13, Instr.ireturn, 1, 0, 0, 0, []), (14, Instr.iload_n 1, 1, 0, 0, 0, []), (15, Instr.i2l, 1, 0, 0, 0, []), (16, Instr.invokestatic 108, 3, 0, 27, 1, [390, 391, 67, 392]), (19, Instr.ifCond .ne 6, 3, 0, 25, 0, []), (22, Instr.bipush (-2), 2, (-2), 0, 0, []), (24, Instr.ireturn, 1, 0, 0, 0, []), (25, Instr.aload_n 0, 1, 0, 0, 0, []), (26, Instr.getfield 18, 3, 0, 9, 1, [293]), (29, Instr.iload_n 1, 1, 0, 0, 0, []), (30, Instr.invokevirtual 87, 3, 7, 14, 1, [336, 337, 338, 57, 339]), (33, Instr.ifCond .eq 13, 3, 0, 46, 0, []), (36, Instr.aload_n 0, 1, 0, 0, 0, []), (37, Instr.getfield 18, 3, 0, 9, 1, [293]), (40, Instr.invokevirtual 81, 3, 7, 13, 0, [331, 332, 333, 57, 334]), (43, Instr.goto 5, 3, 0, 48, 0, []), (46, Instr.bipush (-4), 2, (-4), 0, 0, []), (48, Instr.ireturn, 1, 0, 0, 0, [])]
def mm_T27 : List (Nat × mm_I) := [(0, Instr.lload_n 0, 1, 0, 0, 0, []), (1, Instr.lconst 0, 1, 0, 0, 0, []), (2, Instr.lcmp, 1, 0, 0, 0, []), (3, Instr.ifCond .lt 31, 3, 0, 34, 0, []), (6, Instr.lload_n 0, 1, 0, 0, 0, []), (7, Instr.ldc2_w 9, 3, 1114111, 0, 0, [393]), (10, Instr.lcmp, 1, 0, 0, 0, []), (11, Instr.ifCond .gt 23, 3, 0, 34, 0, []), (14, Instr.lload_n 0, 1, 0, 0, 0, []), (15, Instr.ldc2_w 11, 3, 55296, 0, 0, [394]), (18, Instr.lcmp, 1, 0, 0, 0, []), (19, Instr.ifCond .lt 11, 3, 0, 30, 0, []), (22, Instr.lload_n 0, 1, 0, 0, 0, []), (23, Instr.ldc2_w 13, 3, 57343, 0, 0, [395]), (26, Instr.lcmp, 1, 0, 0, 0, []), (27, Instr.ifCond .le 7, 3, 0, 34, 0, []), (30, Instr.iconst 1, 1, 1, 0, 0, []), (31, Instr.goto 4, 3, 0, 35, 0, []), (34, Instr.iconst 0, 1, 0, 0, 0, []), (35, Instr.ireturn, 1, 1, 0, 0, [])]
def mm_T28 : List (Nat × mm_I) := [(0, Instr.aload_n 0, 1, 0, 0, 0, []), (1, Instr.getfield 30, 3, 0, 9, 4, [296]), (4, Instr.iload_n 1, 1, 0, 0, 0, []), (5, Instr.iload_n 2, 1, 0, 0, 0, []), (6, Instr.iload_n 3, 1, 0, 0, 0, []), (7, Instr.invokevirtual 112, 3, 8, 29, 3, [400, 401, 402, 58, 403]), (10, Instr.ireturn, 1, 0, 0, 0, [])]
def mm_T29 : List (Nat × mm_I) := [(0, Instr.iload_n 1, 1, 0, 0, 0, []), (1, Instr.iload_n 2, 1, 0, 0, 0, []), (2, Instr.invokestatic 31, 3, 0, 30, 2, [404, 405, 67, 406]), (5, Instr.ifCond .eq 17, 3, 0, 22, 0, []), (8, Instr.iload_n 3, 1, 0, 0, 0, []), (9, Instr.ifCond .eq 16, 3, 0, 25, 0, []), (12, Instr.iload_n 3, 1, 0, 0, 0, []), (13, Instr.iconst 1, 1, 1, 0, 0, []), (14, Instr.if_icmp .eq 11, 3, 0, 25, 0, []), (17, Instr.iload_n 3, 1, 0, 0, 0, []), (18, Instr.iconst 3, 1, 3, 0, 0, []), (19, Instr.if_icmp .eq 6, 3, 0, 25, 0, []), (22, Instr.bipush (-2), 2, (-2), 0, 0, []), (24, Instr.ireturn, 1, 0, 0, 0, []), (25, Instr.aload_n 0, 1, 0, 0, 0, []), (26, Instr.iload_n 1, 1, 0, 0, 0, []), (27, Instr.iload_n 2, 1, 0, 0, 0, []), (28, Instr.iload_n 3, 1, 0, 0, 0, []), (29, Instr.invokevirtual 37, 3, 8, 31, 3, [408, 410, 0, 58, 411]), (32, Instr.ifCond .eq 7, 3, 0, 39, 0, []), (35, Instr.iconst 1, 1, 1, 0, 0, []), (36, Instr.goto 5, 3, 0, 41, 0, []), (39, Instr.bipush (-4), 2, (-4), 0, 0, []), (41, Instr.ireturn, 1, 0, 0, 0, [])]
def mm_T30 : List (Nat × mm_I) := [(0, Instr.iload_n 0, 1, 0, 0, 0, []), (1, Instr.ifCond .lt 18, 3, 0, 19, 0, []), (4, Instr.iload_n 0, 1, 0, 0, 0, []), (5, Instr.iload_n 1, 1, 0, 0, 0, []), (6, Instr.if_icmp .gt 13, 3, 0, 19, 0, []), (9, Instr.iload_n 1, 1, 0, 0, 0, []), (10, Instr.ldc 15, 2, 1114111, 0, 0, [407]), (12, Instr.if_icmp .gt 7, 3, 0, 19, 0, []), (15, Instr.iconst 1, 1, 1, 0, 0, []), (16, Instr.goto 4, 3, 0, 20, 0, []), (19, Instr.iconst 0, 1, 0, 0, 0, []), (20, Instr.ireturn, 1, 1, 0, 0, [])]
def mm_T31 : List (Nat × mm_I) := [(0, Instr.aload_n 0, 1, 0, 0, 0, []), (1, Instr.getfield 27, 3, 0, 8, 5, [103]), (4, Instr.sipush 200, 3, 200, 0, 0, []), (7, Instr.if_icmp .lt 5, 3, 0, 12, 0, []), (10, Instr.iconst 0, 1, 0, 0, 0, []), (11, Instr.ireturn, 1, 1, 0, 0, []), (12, Instr.aload_n 0, 1, 0, 0, 0, []), (13, Instr.getfield 11, 3, 0, 8, 0, [98]), (16, Instr.aload_n 0, 1, 0, 0, 0, []), (17, Instr.getfield 27, 3, 0, 8, 5, [103]), (20, Instr.iload_n 1, 1, 0, 0, 0, []), (21, Instr.iastore, 1, 0, 0, 0, []), (22, Instr.aload_n 0, 1, 0, 0, 0, []), (23, Instr.getfield 15, 3, 0, 8, 1, [99]), (26, Instr.aload_n 0, 1, 0, 0, 0, []), (27, Instr.getfield 27, 3, 0, 8, 5, [103]), (30, Instr.iload_n 2, 1, 0, 0, 0, []), (31, Instr.iastore, 1, 0, 0, 0, []), (32, Instr.aload_n 0, 1, 0, 0, 0, []), (33, Instr.getfield 18, 3, 0, 8, 2, [100]), (36, Instr.aload_n 0, 1, 0, 0, 0, []), (37, Instr.getfield 27, 3, 0, 8, 5, [103]), (40, Instr.iload_n 3, 1, 0, 0, 0, []), (41, Instr.iastore, 1, 0, 0, 0, []), (42, Instr.aload_n 0, 1, 0, 0, 0, []), (43, Instr.dup, 1, 0, 0, 0, []), (44, Instr.getfield 27, 3, 0, 8, 5, [103]), (47, Instr.iconst 1, 1, 1, 0, 0, []), (48, Instr.iadd, 1, 0, 0, 0, []), (49, Instr.putfield 27, 3, 1, 8, 5, [103]), (52, Instr.iconst 1, 1, 1, 0, 0, []), (53, Instr.ireturn, 1, 1, 0, 0, [])]
def mm_T32 : List (Nat × mm_I) := [(0, Instr.aload_n 0, 1, 0, 0, 0, []), (1, Instr.getfield 30, 3, 0, 9, 4, [296]), (4, Instr.iload_n 1, 1, 0, 0, 0, []), (5, Instr.aload_n 0, 1, 0, 0, 0, []), (6, Instr.getfield 18, 3, 0, 9, 1, [293]), (9, Instr.invokevirtual 116, 3, 8, 33, 2, [416, 417, 418, 58, 419]), (12, Instr.ireturn, 1, 0, 0, 0, [])]
def mm_T33 : List (Nat × mm_I) := [(0, Instr.iload_n 1, 1, 0, 0, 0, []), (1, Instr.i2l, 1, 0, 0, 0, []), (2, Instr.invokestatic 41, 3, 0, 27, 1, [420, 391, 67, 392]), (5, Instr.ifCond .eq 19, 3, 0, 24, 0, []), (8, Instr.aload_n 2, 1, 0, 0, 0, []), (9, Instr.invokevirtual 45, 3, 7, 13, 0, [421, 332, 333, 57, 334]), (12, Instr.iconst 1, 1, 1, 0, 0, []), (13, Instr.if_icmp .lt 11, 3, 0, 24, 0, []), (16, Instr.aload_n 2, 1, 0, 0, 0, []), (17, Instr.invokevirtual 45, 3, 7, 13, 0, [421, 332, 333, 57, 334]), (20, Instr.iconst 4, 1, 4, 0, 0, []), (21, Instr.if_icmp .le 6, 3, 0, 27, 0, []), (24, Instr.bipush (-2), 2, (-2), 0, 0, []), (26, Instr.ireturn, 1, 0, 0, 0, []), (27, Instr.aload_n 0, 1, 0, 0, 0, []), (28, Instr.iload_n 1, 1, 0, 0, 0, []), (29, Instr.iload_n 1, 1, 0, 0, 0, []), (30, Instr.iconst 2, 1, 2, 0, 0, []), (31, Instr.invokevirtual 37, 3, 8, 31, 3, [408, 410, 0, 58, 411]), (34, Instr.ifCond .ne 6, 3, 0, 40, 0, []), (37, Instr.bipush (-4), 2, (-4), 0, 0, []), (39, Instr.ireturn, 1, 0, 0, 0, []), (40, Instr.aload_n 0, 1, 0, 0, 0, []), (41, Instr.getfield 27, 3, 0, 8, 5, [103]), (44, Instr.iconst 1, 1, 1, 0, 0, []), (45, Instr.isub, 1, 0, 0, 0, []), (46, Instr.istore_n 3, 1, 0, 0, 0, []), (47, Instr.aload_n 0, 1, 0, 0, 0, []), (48, Instr.getfield 21, 3, 0, 8, 3, [101]), (51, Instr.iload_n 3, 1, 0, 0, 0, []), (52, Instr.aload_n 2, 1, 0, 0, 0, []), (53, Instr.invokevirtual 45, 3, 7, 13, 0, [421, 332, 333, 57, 334]), (56, Instr.iastore, 1, 0, 0, 0, []), (57, Instr.iconst 0, 1, 0, 0, 0, []), (58, Instr.istore 4, 2, 0, 0, 0, []), (60, Instr.iload 4, 2, 0, 0, 0, []), (62, Instr.aload_n 2, 1, 0, 0, 0, []), (63, Instr.invokevirtual 45, 3, 7, 13, 0, [421, 332, 333, 57, 334]), (66, Instr.if_icmp .ge 26, 3, 0, 92, 0, []), (69, Instr.aload_n 0, 1, 0, 0, 0, []), (70, Instr.getfield 24, 3, 0, 8, 4, [102]), (73, Instr.iload_n 3, 1, 0, 0, 0, []), (74, Instr.iconst 4, 1, 4, 0, 0, []), (75, Instr.imul, 1, 0, 0, 0, []), (76, Instr.iload 4, 2, 0, 0, 0, []), (78, Instr.iadd, 1, 0, 0, 0, []), (79, Instr.aload_n 2, 1, 0, 0, 0, []), (80, Instr.iload 4, 2, 0, 0, 0, []), (82, Instr.invokevirtual 51, 3, 7, 17, 1, [422, 350, 351, 57, 352]), (85, Instr.iastore, 1, 0, 0, 0, []), (86, Instr.iinc 4 1, 3, 0, 0, 0, []), (89, Instr.goto (-29), 3, 0, 60, 0, []), (92, Instr.iconst 1, 1, 1, 0, 0, []), (93, Instr.ireturn, 1, 0, 0, 0, [])]
def mm_T34 : List (Nat × mm_I) := [(0, Instr.aload_n 0, 1, 0, 0, 0, []), (1, Instr.getfield 37, 3, 0, 9, 5, [297]), (4, Instr.iload_n 1, 1, 0, 0, 0, []), (5, Instr.iload_n 2, 1, 0, 0, 0, []), (6, Instr.iload_n 3, 1, 0, 0, 0, []), (7, Instr.iload 4, 2, 0, 0, 0, []), (9, Instr.invokevirtual 120, 3, 4, 35, 4, [427, 428, 429, 59, 430]), (12, Instr.ireturn, 1, 0, 0, 0, [])]
def mm_T35 : List (Nat × mm_I) := [(0, Instr.iload_n 1, 1, 0, 0, 0, []), (1, Instr.i2l, 1, 0, 0, 0, []), (2, Instr.invokestatic 29, 3, 0, 27, 1, [431, 391, 67, 392]), (5, Instr.ifCond .eq 19, 3, 0, 24, 0, []), (8, Instr.iload_n 2, 1, 0, 0, 0, []), (9, Instr.iload_n 1, 1, 0, 0, 0, []), (10, Instr.invokestatic 35, 3, 0, 36, 2, [432, 433, 59, 434]), (13, Instr.ifCond .eq 11, 3, 0, 24, 0, []), (16, Instr.iload_n 3, 1, 0, 0, 0, []), (17, Instr.iload_n 1, 1, 0, 0, 0, []), (18, Instr.invokestatic 35, 3, 0, 36, 2, [432, 433, 59, 434]), (21, Instr.ifCond .ne 6, 3, 0, 27, 0, []), (24, Instr.bipush (-2), 2, (-2), 0, 0, []), (26, Instr.ireturn, 1, 0, 0, 0, []), (27, Instr.iload_n 2, 1, 0, 0, 0, []), (28, Instr.ifCond .eq 17, 3, 0, 45, 0, []), (31, Instr.iload_n 1, 1, 0, 0, 0, []), (32, Instr.sipush 128, 3, 128, 0, 0, []), (35, Instr.if_icmp .lt 10, 3, 0, 45, 0, []), (38, Instr.iload_n 1, 1, 0, 0, 0, []), (39, Instr.invokestatic 39, 3, 0, 37, 1, [435, 436, 59, 437]), (42, Instr.ifCond .eq 6, 3, 0, 48, 0, []), (45, Instr.bipush (-2), 2, (-2), 0, 0, []), (47, Instr.ireturn, 1, 0, 0, 0, []), (48, Instr.aload_n 0, 1, 0, 0, 0, []), (49, Instr.iload_n 1, 1, 0, 0, 0, []), (50, Instr.invokevirtual 43, 3, 4, 42, 1, [452, 453, 454, 59, 455]), (53, Instr.ifCond .ge 21, 3, 0, 74, 0, []), (56, Instr.iload_n 3, 1, 0, 0, 0, []), (57, Instr.ifCond .eq 20, 3, 0, 77, 0, []), (60, Instr.iload 4, 2, 0, 0, 0, []), (62, Instr.ifCond .ne 15, 3, 0, 77, 0, []), (65, Instr.aload_n 0, 1, 0, 0, 0, []), (66, Instr.iload_n 2, 1, 0, 0, 0, []), (67, Instr.iload_n 3, 1, 0, 0, 0, []), (68, Instr.invokevirtual 47, 3, 4, 43, 2, [456, 458, 1, 59, 459]), (71, Instr.ifCond .lt 6, 3, 0, 77, 0, []), (74, Instr.bipush (-3), 2, (-3), 0, 0, []), (76, Instr.ireturn, 1, 0, 0, 0, []), (77, Instr.aload_n 0, 1, 0, 0, 0, []), (78, Instr.getfield 25, 3, 0, 4, 4, [127]), (81, Instr.bipush 100, 2, 100, 0, 0, []), (83, Instr.if_icmp .lt 6, 3, 0, 89, 0, []), (86, Instr.bipush (-4), 2, (-4), 0, 0, []), (88, Instr.ireturn, 1, 0, 0, 0, []), (89, Instr.aload_n 0, 1, 0, 0, 0, []), (90, Instr.getfield 11, 3, 0, 4, 0, [123]), (93, Instr.aload_n 0, 1, 0, 0, 0, []), (94, Instr.getfield 25, 3, 0, 4, 4, [127]), (97, Instr.iload_n 1, 1, 0, 0, 0, []), (98, Instr.iastore, 1, 0, 0, 0, []), (99, Instr.aload_n 0, 1, 0, 0, 0, []), (100, Instr.getfield 15, 3, 0, 4, 1, [124]), (103, Instr.aload_n 0, 1, 0, 0, 0, []), (104, Instr.getfield 25, 3, 0, 4, 4, [127]), (107, Instr.iload_n 2, 1, 0, 0, 0, []), (108, Instr.iastore, 1, 0, 0, 0, []), (109, Instr.aload_n 0, 1, 0, 0, 0, []), (110, Instr.getfield 18, 3, 0, 4, 2, [125]), (113, Instr.aload_n 0, 1, 0, 0, 0, []), (114, Instr.getfield 25, 3, 0, 4, 4, [127]), (117, Instr.iload_n 3, 1, 0, 0, 0, []), (118, Instr.iastore, 1, 0, 0, 0, []), (119, Instr.aload_n 0, 1, 0, 0, 0, []), (120, Instr.getfield 21, 3, 0, 4, 3, [126]), (123, Instr.aload_n 0, 1, 0, 0, 0, []), (124, Instr.getfield 25, 3, 0, 4, 4, [127]), (127, Instr.iload 4, 2, 0, 0, 0, []), (129, Instr.bastore, 1, 0, 0, 0, []), (130, Instr.aload_n 0, 1, 0, 0, 0, []), (131, Instr.dup, 1, 0, 0, 0, []), (132, Instr.getfield 25, 3, 0, 4, 4, [127]), (135, Instr.iconst 1, 1, 1, 0, 0, []), (136, Instr.iadd, 1, 0, 0, 0, []), (137, Instr.putfield 25, 3, 1, 4, 4, [127]), (140, Instr.aload_n 0, 1, 0, 0, 0, []), (141, Instr.getfield 25, 3, 0, 4, 4, [127]), (144, Instr.ireturn, 1, 0, 0, 0, [])]
def mm_T36 : List (Nat × mm_I) := [(0, Instr.iload_n 0, 1, 0, 0, 0, []), (1, Instr.i2l, 1, 0, 0, 0, []), (2, Instr.invokestatic 29, 3, 0, 27, 1, [431, 391, 67, 392]), (5, Instr.ifCond .eq 19, 3, 0, 24, 0, []), (8, Instr.iload_n 0, 1, 0, 0, 0, []), (9, Instr.iload_n 1, 1, 0, 0, 0, []), (10, Instr.if_icmp .ge 14, 3, 0, 24, 0, []), (13, Instr.iload_n 0, 1, 0, 0, 0, []), (14, Instr.invokestatic 39, 3, 0, 37, 1, [435, 436, 59, 437]), (17, Instr.ifCond .ne 7, 3, 0, 24, 0, []), (20, Instr.iconst 1, 1, 1, 0, 0, []), (21, Instr.goto 4, 3, 0, 25, 0, []), (24, Instr.iconst 0, 1, 0, 0, 0, []), (25, Instr.ireturn, 1, 1, 0, 0, [])]
def mm_T37 : List (Nat × mm_I) := [(0, Instr.iload_n 0, 1, 0, 0, 0, []), (1, Instr.invokestatic 51, 3, 0, 38, 1, [438, 439, 59, 440]), (4, Instr.ifCond .ne 24, 3, 0, 28, 0, []), (7, Instr.iload_n 0, 1, 0, 0, 0, []), (8, Instr.invokestatic 54, 3, 0, 39, 1, [443, 444, 59, 445]), (11, Instr.ifCond .ne 17, 3, 0, 28, 0, []), (14, Instr.iload_n 0, 1, 0, 0, 0, []), (15, Instr.invokestatic 57, 3, 0, 40, 1, [446, 447, 59, 448]), (18, Instr.ifCond .ne 10, 3, 0, 28, 0, []), (21, Instr.iload_n 0, 1, 0, 0, 0, []), (22, Instr.invokestatic 60, 3, 0, 41, 1, [449, 450, 59, 451]), (25, Instr.ifCond .eq 7, 3, 0, 32, 0, []), (28, Instr.iconst 1, 1, 1, 0, 0, []), (29, Instr.goto 4, 3, 0, 33, 0, []), (32, Instr.iconst 0, 1, 0, 0, 0, []), (33, Instr.ireturn, 1, 1, 0, 0, [])]
def mm_T38 : List (Nat × mm_I) := [(0, Instr.iload_n 0, 1, 0, 0, 0, []), (1, Instr.ldc 63, 2, 44032, 0, 0, [441]), (3, Instr.if_icmp .lt 13, 3, 0, 16, 0, []), (6, Instr.iload_n 0, 1, 0, 0, 0, []), (7, Instr.ldc 64, 2, 55203, 0, 0, [442]), (9, Instr.if_icmp .gt 7, 3, 0, 16, 0, []), (12, Instr.iconst 1, 1, 1, 0, 0, []), (13, Instr.goto 4, 3, 0, 17, 0, []), (16, Instr.iconst 0, 1, 0, 0, 0, []), (17, Instr.ireturn, 1, 1, 0, 0, [])]
def mm_T39 : List (Nat × mm_I) := [(0, Instr.iload_n 0, 1, 0, 0, 0, []), (1, Instr.sipush 4352, 3, 4352, 0, 0, []), (4, Instr.if_icmp .lt 14, 3, 0, 18, 0, []), (7, Instr.iload_n 0, 1, 0, 0, 0, []), (8, Instr.sipush 4370, 3, 4370, 0, 0, []), (11, Instr.if_icmp .gt 7, 3, 0, 18, 0, []), (14, Instr.iconst 1, 1, 1, 0, 0, []), (15, Instr.goto 4, 3, 0, 19, 0, []), (18, Instr.iconst 0, 1, 0, 0, 0, []), (19, Instr.ireturn, 1, 1, 0, 0, [])]
def mm_T40 : List (Nat × mm_I) := [(0, Instr.iload_n 0, 1, 0, 0, 0, []), (1, Instr.sipush 4449, 3, 4449, 0, 0, []), (4, Instr.if_icmp .lt 14, 3, 0, 18, 0, []), (7, Instr.iload_n 0, 1, 0, 0, 0, []), (8, Instr.sipush 4469, 3, 4469, 0, 0, []), (11, Instr.if_icmp .gt 7, 3, 0, 18, 0, []), (14, Instr.iconst 1, 1, 1, 0, 0, []), (15, Instr.goto 4, 3, 0, 19, 0, []), (18, Instr.iconst 0, 1, 0, 0, 0, []), (19, Instr.ireturn, 1, 1, 0, 0, [])]
def mm_T41 : List (Nat × mm_I) := [(0, Instr.iload_n 0, 1, 0, 0, 0, []), (1, Instr.sipush 4519, 3, 4519, 0, 0, []), (4, Instr.if_icmp .le 14, 3, 0, 18, 0, []), (7, Instr.iload_n 0, 1, 0, 0, 0, []), (8, Instr.sipush 4546, 3, 4546, 0, 0, []), (11, Instr.if_icmp .gt 7, 3, 0, 18, 0, []), (14, Instr.iconst 1, 1, 1, 0, 0, []), (15, Instr.goto 4, 3, 0, 19, 0, []), (18, Instr.iconst 0, 1, 0, 0, 0, []), (19, Instr.ireturn, 1, 1, 0, 0, [])]
def mm_T42 : List (Nat × mm_I) := [(0, Instr.iload_n 1, 1, 0, 0, 0, []), (1, Instr.sipush 128, 3, 128, 0, 0, []), (4, Instr.if_icmp .ge 5, 3, 0, 9, 0, []), (7, Instr.iconst (-1), 1, (-1), 0, 0, []), (8, Instr.ireturn, 1, 0, 0, 0, []), (9, Instr.iconst 0, 1, 0, 0, 0, []), (10, Instr.istore_n 2, 1, 0, 0, 0, []), (11, Instr.iload_n 2, 1, 0, 0, 0, []), (12, Instr.aload_n 0, 1, 0, 0, 0, []), (13, Instr.getfield 25, 3, 0, 4, 4, [127]), (16, Instr.if_icmp .ge 21, 3, 0, 37, 0, []), (19, Instr.aload_n 0, 1, 0, 0, 0, []), (20, Instr.getfield 11, 3, 0, 4, 0, [123]), (23, Instr.iload_n 2, 1, 0, 0, 0, []), (24, Instr.iaload, 1, 0, 0, 0, []), (25, Instr.iload_n 1, 1, 0, 0, 0, []), (26, Instr.if_icmp .ne 5, 3, 0, 31, 0, []), (29, Instr.iload_n 2, 1, 0, 0, 0, []), (30, Instr.ireturn, 1, 0, 0, 0, []), (31, Instr.iinc 2 1, 3, 0, 0, 0, []), (34, Instr.goto (-23), 3, 0, 11, 0, []), (37, Instr.iconst (-1), 1, (-1), 0, 0, []), (38, Instr.ireturn, 1, 0, 0, 0, [])]
def mm_T43 : List (Nat × mm_I) := [(0, Instr.iconst 0, 1, 0, 0, 0, []), (1, Instr.istore_n 3, 1, 0, 0, 0, []), (2, Instr.iload_n 3, 1, 0, 0, 0, []), (3, Instr.aload_n 0, 1, 0, 0, 0, []), (4, Instr.getfield 25, 3, 0, 4, 4, [127]), (7, Instr.if_icmp .ge 40, 3, 0, 47, 0, []), (10, Instr.aload_n 0, 1, 0, 0, 0, []), (11, Instr.getfield 15, 3, 0, 4, 1, [124]), (14, Instr.iload_n 3, 1, 0, 0, 0, []), (15, Instr.iaload, 1, 0, 0, 0, []), (16, Instr.iload_n 1, 1, 0, 0, 0, []), (17, Instr.if_icmp .ne 24, 3, 0, 41, 0, []), (20, Instr.aload_n 0, 1, 0, 0, 0, []), (21, Instr.getfield 18, 3, 0, 4, 2, [125]), (24, Instr.iload_n 3, 1, 0, 0, 0, []), (25, Instr.iaload, 1, 0, 0, 0, []), (26, Instr.iload_n 2, 1, 0, 0, 0, []), (27, Instr.if_icmp .ne 14, 3, 0, 41, 0, []), (30, Instr.aload_n 0, 1, 0, 0, 0, []), (31, Instr.getfield 21, 3, 0, 4, 3, [126]), (34, Instr.iload_n 3, 1, 0, 0, 0, []), (35, Instr.baload, 1, 0, 0, 0, []), (36, Instr.ifCond .ne 5, 3, 0, 41, 0, []), (39, Instr.iload_n 3, 1, 0, 0, 0, []), (40, Instr.ireturn, 1, 0, 0, 0, []), (41, Instr.iinc 3 1, 3, 0, 0, 0, []), (44, Instr.goto (-42), 3, 0, 2, 0, []), (47, Instr.iconst (-1), 1, (-1), 0, 0, []), (48, Instr.ireturn, 1, 0, 0, 0, [])]
def mm_T44 : List (Nat × mm_I) := [(0, Instr.aload_n 0, 1, 0, 0, 0, []), (1, Instr.getfield 44, 3, 0, 9, 6, [298]), (4, Instr.iload_n 1, 1, 0, 0, 0, []), (5, Instr.iload_n 2, 1, 0, 0, 0, []), (6, Instr.invokevirtual 123, 3, 6, 45, 2, [464, 465, 466, 60, 467]), (9, Instr.ireturn, 1, 0, 0, 0, [])]
def mm_T45 : List (Nat × mm_I) := [(0, Instr.iload_n 1, 1, 0, 0, 0, []), (1, Instr.i2l, 1, 0, 0, 0, []), (2, Instr.invokestatic 22, 3, 0, 27, 1, [468, 391, 67, 392]), (5, Instr.ifCond .eq 21, 3, 0, 26, 0, []), (8, Instr.iload_n 1, 1, 0, 0, 0, []), (9, Instr.sipush 128, 3, 128, 0, 0, []), (12, Instr.if_icmp .lt 14, 3, 0, 26, 0, []), (15, Instr.iload_n 2, 1, 0, 0, 0, []), (16, Instr.ifCond .lt 10, 3, 0, 26, 0, []), (19, Instr.iload_n 2, 1, 0, 0, 0, []), (20, Instr.sipush 254, 3, 254, 0, 0, []), (23, Instr.if_icmp .le 6, 3, 0, 29, 0, []), (26, Instr.bipush (-2), 2, (-2), 0, 0, []), (28, Instr.ireturn, 1, 0, 0, 0, []), (29, Instr.aload_n 0, 1, 0, 0, 0, []), (30, Instr.iload_n 1, 1, 0, 0, 0, []), (31, Instr.invokevirtual 28, 3, 6, 46, 1, [469, 471, 2, 60, 472]), (34, Instr.istore_n 3, 1, 0, 0, 0, []), (35, Instr.iload_n 3, 1, 0, 0, 0, []), (36, Instr.ifCond .lt 21, 3, 0, 57, 0, []), (39, Instr.aload_n 0, 1, 0, 0, 0, []), (40, Instr.getfield 15, 3, 0, 6, 1, [147]), (43, Instr.iload_n 3, 1, 0, 0, 0, []), (44, Instr.iaload, 1, 0, 0, 0, []), (45, Instr.istore 4, 2, 0, 0, 0, []), (47, Instr.aload_n 0, 1, 0, 0, 0, []), (48, Instr.getfield 15, 3, 0, 6, 1, [147]), (51, Instr.iload_n 3, 1, 0, 0, 0, []), (52, Instr.iload_n 2, 1, 0, 0, 0, []), (53, Instr.iastore, 1, 0, 0, 0, []), (54, Instr.iload 4, 2, 0, 0, 0, []), (56, Instr.ireturn, 1, 0, 0, 0, []), (57, Instr.aload_n 0, 1, 0, 0, 0, []), (58, Instr.getfield 18, 3, 0, 6, 2, [148]), (61, Instr.bipush 100, 2, 100, 0, 0, []), (63, Instr.if_icmp .lt 6, 3, 0, 69, 0, []), (66, Instr.bipush (-4), 2, (-4), 0, 0, []), (68, Instr.ireturn, 1, 0, 0, 0, []), (69, Instr.aload_n 0, 1, 0, 0, 0, []), (70, Instr.getfield 11, 3, 0, 6, 0, [146]), (73, Instr.aload_n 0, 1, 0, 0, 0, []), (74, Instr.getfield 18, 3, 0, 6, 2, [148]), (77, Instr.iload_n 1, 1, 0, 0, 0, []), (78, Instr.iastore, 1, 0, 0, 0, []), (79, Instr.aload_n 0, 1, 0, 0, 0, []), (80, Instr.getfield 15, 3, 0, 6, 1, [147]), (83, Instr.aload_n 0, 1, 0, 0, 0, []), (84, Instr.getfield 18, 3, 0, 6, 2, [148]), (87, Instr.iload_n 2, 1, 0, 0, 0, []), (88, Instr.iastore, 1, 0, 0, 0, []), (89, Instr.aload_n 0, 1, 0, 0, 0, []), (90, Instr.dup, 1, 0, 0, 0, []), (91, Instr.getfield 18, 3, 0, 6, 2, [148]), (94, Instr.iconst 1, 1, 1, 0, 0, []), (95, Instr.iadd, 1, 0, 0, 0, []), (96, Instr.putfield 18, 3, 1, 6, 2, [148]), (99, Instr.iconst 0, 1, 0, 0, 0, []), (100, Instr.ireturn, 1, 0, 0, 0, [])]
def mm_T46 : List (Nat × mm_I) := [(0, Instr.iload_n 1, 1, 0, 0, 0, []), (1, Instr.sipush 128, 3, 128, 0, 0, []), (4, Instr.if_icmp .ge 5, 3, 0, 9, 0, []), (7, Instr.iconst (-1), 1, (-1), 0, 0, []), (8, Instr.ireturn, 1, 0, 0, 0, []), (9, Instr.iconst 0, 1, 0, 0, 0, []), (10, Instr.istore_n 2, 1, 0, 0, 0, []), (11, Instr.iload_n 2, 1, 0, 0, 0, []), (12, Instr.aload_n 0, 1, 0, 0, 0, []), (13, Instr.getfield 18, 3, 0, 6, 2, [148]), (16, Instr.if_icmp .ge 21, 3, 0, 37, 0, []), (19, Instr.aload_n 0, 1, 0, 0, 0, []), (20, Instr.getfield 11, 3, 0, 6, 0, [146]), (23, Instr.iload_n 2, 1, 0, 0, 0, []), (24, Instr.iaload, 1, 0, 0, 0, []), (25, Instr.iload_n 1, 1, 0, 0, 0, []), (26, Instr.if_icmp .ne 5, 3, 0, 31, 0, []), (29, Instr.iload_n 2, 1, 0, 0, 0, []), (30, Instr.ireturn, 1, 0, 0, 0, []), (31, Instr.iinc 2 1, 3, 0, 0, 0, []), (34, Instr.goto (-23), 3, 0, 11, 0, []), (37, Instr.iconst (-1), 1, (-1), 0, 0, []), (38, Instr.ireturn, 1, 0, 0, 0, [])]
def mm_T47 : List (Nat × mm_I) := [(0, Instr.aload_n 0, 1, 0, 0, 0, []), (1, Instr.getfield 51, 3, 0, 9, 7, [299]), (4, Instr.iload_n 1, 1, 0, 0, 0, []), (5, Instr.iload_n 2, 1, 0, 0, 0, []), (6, Instr.iload_n 3, 1, 0, 0, 0, []), (7, Instr.iload 4, 2, 0, 0, 0, []), (9, Instr.invokevirtual 126, 3, 5, 48, 4, [477, 478, 479, 61, 480]), (12, Instr.ireturn, 1, 0, 0, 0, [])]
def mm_T48 : List (Nat × mm_I) := [(0, Instr.iload 4, 2, 0, 0, 0, []), (2, Instr.ifCond .lt 20, 3, 0, 22, 0, []), (5, Instr.iload 4, 2, 0, 0, 0, []), (7, Instr.iload_n 1, 1, 0, 0, 0, []), (8, Instr.invokestatic 28, 3, 0, 49, 1, [481, 482, 61, 483]), (11, Instr.if_icmp .gt 11, 3, 0, 22, 0, []), (14, Instr.iload_n 2, 1, 0, 0, 0, []), (15, Instr.iload_n 3, 1, 0, 0, 0, []), (16, Instr.invokestatic 32, 3, 0, 30, 2, [484, 405, 67, 406]), (19, Instr.ifCond .ne 6, 3, 0, 25, 0, []), (22, Instr.bipush (-2), 2, (-2), 0, 0, []), (24, Instr.ireturn, 1, 0, 0, 0, []), (25, Instr.aload_n 0, 1, 0, 0, 0, []), (26, Instr.getfield 24, 3, 0, 5, 4, [166]), (29, Instr.sipush 200, 3, 200, 0, 0, []), (32, Instr.if_icmp .lt 6, 3, 0, 38, 0, []), (35, Instr.bipush (-4), 2, (-4), 0, 0, []), (37, Instr.ireturn, 1, 0, 0, 0, []), (38, Instr.aload_n 0, 1, 0, 0, 0, []), (39, Instr.getfield 11, 3, 0, 5, 0, [162]), (42, Instr.aload_n 0, 1, 0, 0, 0, []), (43, Instr.getfield 24, 3, 0, 5, 4, [166]), (46, Instr.iload_n 1, 1, 0, 0, 0, []), (47, Instr.iastore, 1, 0, 0, 0, []), (48, Instr.aload_n 0, 1, 0, 0, 0, []), (49, Instr.getfield 15, 3, 0, 5, 1, [163]), (52, Instr.aload_n 0, 1, 0, 0, 0, []), (53, Instr.getfield 24, 3, 0, 5, 4, [166]), (56, Instr.iload_n 2, 1, 0, 0, 0, []), (57, Instr.iastore, 1, 0, 0, 0, []), (58, Instr.aload_n 0, 1, 0, 0, 0, []), (59, Instr.getfield 18, 3, 0, 5, 2, [164]), (62, Instr.aload_n 0, 1, 0, 0, 0, []), (63, Instr.getfield 24, 3, 0, 5, 4, [166]), (66, Instr.iload_n 3, 1, 0, 0, 0, []), (67, Instr.iastore, 1, 0, 0, 0, []), (68, Instr.aload_n 0, 1, 0, 0, 0, []), (69, Instr.getfield 21, 3, 0, 5, 3, [165]), (72, Instr.aload_n 0, 1, 0, 0, 0, []), (73, Instr.getfield 24, 3, 0, 5, 4, [166]), (76, Instr.iload 4, 2, 0, 0, 0, []), (78, Instr.iastore, 1, 0, 0, 0, []), (79, Instr.aload_n 0, 1, 0, 0, 0, []), (80, Instr.dup, 1, 0, 0, 0, []), (81, Instr.getfield 24, 3, 0, 5, 4, [166]), (84, Instr.iconst 1, 1, 1, 0, 0, []), (85, Instr.iadd, 1, 0, 0, 0, []), (86, Instr.putfield 24, 3, 1, 5, 4, [166]), (89, Instr.iconst 1, 1, 1, 0, 0, []), (90, Instr.ireturn, 1, 0, 0, 0, [])]
def mm_T49 : List (Nat × mm_I) := [(0, Instr.iload_n 0, 1, 0, 0, 0, []), (1, Instr.tableswitch 34 0 2 #[27, 29, 32], 27, 0, 0, 0, []), (28, Instr.iconst 1, 1, 1, 0, 0, []), (29, Instr.ireturn, 1, 0, 0, 0, []), (30, Instr.bipush 10, 2, 10, 0, 0, []), (32, Instr.ireturn, 1, 0, 0, 0, []), (33, Instr.iconst 4, 1, 4, 0, 0, []), (34, Instr.ireturn, 1, 0, 0, 0, []), (35, Instr.iconst (-1), 1, (-1), 0, 0, []), (36, Instr.ireturn, 1, 0, 0, 0, [])]
def mm_T50 : List (Nat × mm_I) := [(0, Instr.iload_n 1, 1, 0, 0, 0, []), (1, Instr.i2l, 1, 0, 0, 0, []), (2, Instr.invokestatic 108, 3, 0, 27, 1, [390, 391, 67, 392]), (5, Instr.ifCond .ne 5, 3, 0, 10, 0, []), (8, Instr.iconst (-1), 1, (-1), 0, 0, []), (9, Instr.ireturn, 1, 0, 0, 0, []), (10, Instr.iload_n 2, 1, 0, 0, 0, []), (11, Instr.tableswitch 81 0 4 #[33, 42, 51, 61, 71], 33, 0, 0, 0, []), (44, Instr.aload_n 0, 1, 0, 0, 0, []), (45, Instr.getfield 30, 3, 0, 9, 4, [296]), (48, Instr.iload_n 1, 1, 0, 0, 0, []), (49, Instr.invokevirtual 129, 3, 8, 51, 1, [489, 490, 491, 58, 492]), (52, Instr.ireturn, 1, 0, 0, 0, []), (53, Instr.aload_n 0, 1, 0, 0, 0, []), (54, Instr.getfield 44, 3, 0, 9, 6, [298]), (57, Instr.iload_n 1, 1, 0, 0, 0, []), (58, Instr.invokevirtual 132, 3, 6, 54, 1, [500, 501, 502, 60, 503]), (61, Instr.ireturn, 1, 0, 0, 0, []), (62, Instr.aload_n 0, 1, 0, 0, 0, []), (63, Instr.getfield 51, 3, 0, 9, 7, [299]), (66, Instr.iconst 0, 1, 0, 0, 0, []), (67, Instr.iload_n 1, 1, 0, 0, 0, []), (68, Instr.invokevirtual 133, 3, 5, 55, 2, [504, 505, 506, 61, 507]), (71, Instr.ireturn, 1, 0, 0, 0, []), (72, Instr.aload_n 0, 1, 0, 0, 0, []), (73, Instr.getfield 51, 3, 0, 9, 7, [299]), (76, Instr.iconst 1, 1, 1, 0, 0, []), (77, Instr.iload_n 1, 1, 0, 0, 0, []), (78, Instr.invokevirtual 133, 3, 5, 55, 2, [504, 505, 506, 61, 507]), (81, Instr.ireturn, 1, 0, 0, 0, []), (82, Instr.aload_n 0, 1, 0, 0, 0, []), (83, Instr.getfield 51, 3, 0, 9, 7, [299]), (86, Instr.iconst 2, 1, 2, 0, 0, []), (87, Instr.iload_n 1, 1, 0, 0, 0, []), (88, Instr.invokevirtual 133, 3, 5, 55, 2, [504, 505, 506, 61, 507]), (91, Instr.ireturn, 1, 0, 0, 0, []), (92, Instr.bipush (-2), 2, (-2), 0, 0, []), (94, Instr.ireturn, 1, 0, 0, 0, [])]
def mm_T51 : List (Nat × mm_I) := [(0, Instr.aload_n 0, 1, 0, 0, 0, []), (1, Instr.iload_n 1, 1, 0, 0, 0, []), (2, Instr.invokevirtual 55, 3, 8, 52, 1, [493, 495, 3, 58, 496]), (5, Instr.istore_n 2, 1, 0, 0, 0, []), (6, Instr.iload_n 2, 1, 0, 0, 0, []), (7, Instr.ifCond .lt 12, 3, 0, 19, 0, []), (10, Instr.aload_n 0, 1, 0, 0, 0, []), (11, Instr.getfield 18, 3, 0, 8, 2, [100]), (14, Instr.iload_n 2, 1, 0, 0, 0, []), (15, Instr.iaload, 1, 0, 0, 0, []), (16, Instr.goto 7, 3, 0, 23, 0, []), (19, Instr.iload_n 1, 1, 0, 0, 0, []), (20, Instr.invokestatic 58, 3, 0, 53, 1, [497, 498, 58, 499]), (23, Instr.ireturn, 1, 0, 0, 0, [])]
def mm_T52 : List (Nat × mm_I) := [(0, Instr.aload_n 0, 1, 0, 0, 0, []), (1, Instr.getfield 27, 3, 0, 8, 5, [103]), (4, Instr.iconst 1, 1, 1, 0, 0, []), (5, Instr.isub, 1, 0, 0, 0, []), (6, Instr.istore_n 2, 1, 0, 0, 0, []), (7, Instr.iload_n 2, 1, 0, 0, 0, []), (8, Instr.ifCond .lt 31, 3, 0, 39, 0, []), (11, Instr.aload_n 0, 1, 0, 0, 0, []), (12, Instr.getfield 11, 3, 0, 8, 0, [98]), (15, Instr.iload_n 2, 1, 0, 0, 0, []), (16, Instr.iaload, 1, 0, 0, 0, []), (17, Instr.iload_n 1, 1, 0, 0, 0, []), (18, Instr.if_icmp .gt 15, 3, 0, 33, 0, []), (21, Instr.iload_n 1, 1, 0, 0, 0, []), (22, Instr.aload_n 0, 1, 0, 0, 0, []), (23, Instr.getfield 15, 3, 0, 8, 1, [99]), (26, Instr.iload_n 2, 1, 0, 0, 0, []), (27, Instr.iaload, 1, 0, 0, 0, []), (28, Instr.if_icmp .gt 5, 3, 0, 33, 0, []), (31, Instr.iload_n 2, 1, 0, 0, 0, []), (32, Instr.ireturn, 1, 0, 0, 0, []), (33, Instr.iinc 2 (-1), 3, 0, 0, 0, []), (36, Instr.goto (-29), 3, 0, 7, 0, []), (39, Instr.iconst (-1), 1, (-1), 0, 0, []), (40, Instr.ireturn, 1, 0, 0, 0, [])]
def mm_T53 : List (Nat × mm_I) := [(0, Instr.iload_n 0, 1, 0, 0, 0, []), (1, Instr.sipush 128, 3, 128, 0, 0, []), (4, Instr.if_icmp .ge 27, 3, 0, 31, 0, []), (7, Instr.iload_n 0, 1, 0, 0, 0, []), (8, Instr.bipush 97, 2, 97, 0, 0, []), (10, Instr.if_icmp .lt 9, 3, 0, 19, 0, []), (13, Instr.iload_n 0, 1, 0, 0, 0, []), (14, Instr.bipush 122, 2, 122, 0, 0, []), (16, Instr.if_icmp .le 15, 3, 0, 31, 0, []), (19, Instr.iload_n 0, 1, 0, 0, 0, []), (20, Instr.bipush 48, 2, 48, 0, 0, []), (22, Instr.if_icmp .lt 11, 3, 0, 33, 0, []), (25, Instr.iload_n 0, 1, 0, 0, 0, []), (26, Instr.bipush 57, 2, 57, 0, 0, []), (28, Instr.if_icmp .gt 5, 3, 0, 33, 0, []), (31, Instr.iconst 0, 1, 0, 0, 0, []), (32, Instr.ireturn, 1, 0, 0, 0, []), (33, Instr.iload_n 0, 1, 0, 0, 0, []), (34, Instr.bipush 45, 2, 45, 0, 0, []), (36, Instr.if_icmp .eq 9, 3, 0, 45, 0, []), (39, Instr.iload_n 0, 1, 0, 0, 0, []), (40, Instr.bipush 46, 2, 46, 0, 0, []), (42, Instr.if_icmp .ne 5, 3, 0, 47, 0, []), (45, Instr.iconst 0, 1, 0, 0, 0, []), (46, Instr.ireturn, 1, 0, 0, 0, []), (47, Instr.iload_n 0, 1, 0, 0, 0, []), (48, Instr.bipush 65, 2, 65, 0, 0, []), (50, Instr.if_icmp .lt 13, 3, 0, 63, 0, []), (53, Instr.iload_n 0, 1, 0, 0, 0, []), (54, Instr.bipush 90, 2, 90, 0, 0, []), (56, Instr.if_icmp .gt 7, 3, 0, 63, 0, []), (59, Instr.iconst 2, 1, 2, 0, 0, []), (60, Instr.goto 4, 3, 0, 64, 0, []), (63, Instr.iconst 3, 1, 3, 0, 0, []), (64, Instr.ireturn, 1, 0, 0, 0, [])]
def mm_T54 : List (Nat × mm_I) := [(0, Instr.aload_n 0, 1, 0, 0, 0, []), (1, Instr.iload_n 1, 1, 0, 0, 0, []), (2, Instr.invokevirtual 28, 3, 6, 46, 1, [469, 471, 2, 60, 472]), (5, Instr.istore_n 2, 1, 0, 0, 0, []), (6, Instr.iload_n 2, 1, 0, 0, 0, []), (7, Instr.ifCond .lt 12, 3, 0, 19, 0, []), (10, Instr.aload_n 0, 1, 0, 0, 0, []), (11, Instr.getfield 15, 3, 0, 6, 1, [147]), (14, Instr.iload_n 2, 1, 0, 0, 0, []), (15, Instr.iaload, 1, 0, 0, 0, []), (16, Instr.goto 4, 3, 0, 20, 0, []), (19, Instr.iconst 0, 1, 0, 0, 0, []), (20, Instr.ireturn, 1, 0, 0, 0, [])]
def mm_T55 : List (Nat × mm_I) := [(0, Instr.aload_n 0, 1, 0, 0, 0, []), (1, Instr.getfield 24, 3, 0, 5, 4, [166]), (4, Instr.iconst 1, 1, 1, 0, 0, []), (5, Instr.isub, 1, 0, 0, 0, []), (6, Instr.istore_n 3, 1, 0, 0, 0, []), (7, Instr.iload_n 3, 1, 0, 0, 0, []), (8, Instr.ifCond .lt 46, 3, 0, 54, 0, []), (11, Instr.aload_n 0, 1, 0, 0, 0, []), (12, Instr.getfield 11, 3, 0, 5, 0, [162]), (15, Instr.iload_n 3, 1, 0, 0, 0, []), (16, Instr.iaload, 1, 0, 0, 0, []), (17, Instr.iload_n 1, 1, 0, 0, 0, []), (18, Instr.if_icmp .ne 30, 3, 0, 48, 0, []), (21, Instr.aload_n 0, 1, 0, 0, 0, []), (22, Instr.getfield 15, 3, 0, 5, 1, [163]), (25, Instr.iload_n 3, 1, 0, 0, 0, []), (26, Instr.iaload, 1, 0, 0, 0, []), (27, Instr.iload_n 2, 1, 0, 0, 0, []), (28, Instr.if_icmp .gt 20, 3, 0, 48, 0, []), (31, Instr.iload_n 2, 1, 0, 0, 0, []), (32, Instr.aload_n 0, 1, 0, 0, 0, []), (33, Instr.getfield 18, 3, 0, 5, 2, [164]), (36, Instr.iload_n 3, 1, 0, 0, 0, []), (37, Instr.iaload, 1, 0, 0, 0, []), (38, Instr.if_icmp .gt 10, 3, 0, 48, 0, []), (41, Instr.aload_n 0, 1, 0, 0, 0, []), (42, Instr.getfield 21, 3, 0, 5, 3, [165]), (45, Instr.iload_n 3, 1, 0, 0, 0, []), (46, Instr.iaload, 1, 0, 0, 0, []), (47, Instr.ireturn, 1, 0, 0, 0, []), (48, Instr.iinc 3 (-1), 3, 0, 0, 0, []), (51, Instr.goto (-44), 3, 0, 7, 0, []), (54, Instr.iload_n 1, 1, 0, 0, 0, []), (55, Instr.iconst 1, 1, 1, 0, 0, []), (56, Instr.if_icmp .ne 10, 3, 0, 66, 0, []), (59, Instr.iload_n 2, 1, 0, 0, 0, []), (60, Instr.invokestatic 38, 3, 0, 56, 1, [508, 509, 61, 510]), (63, Instr.goto 4, 3, 0, 67, 0, []), (66, Instr.iconst 0, 1, 0, 0, 0, []), (67, Instr.ireturn, 1, 0, 0, 0, [])]
def mm_T56 : List (Nat × mm_I) := [(0, Instr.iload_n 0, 1, 0, 0, 0, []), (1, Instr.bipush 48, 2, 48, 0, 0, []), (3, Instr.if_icmp .lt 11, 3, 0, 14, 0, []), (6, Instr.iload_n 0, 1, 0, 0, 0, []), (7, Instr.bipush 57, 2, 57, 0, 0, []), (9, Instr.if_icmp .gt 5, 3, 0, 14, 0, []), (12, Instr.iconst 4, 1, 4, 0, 0, []), (13, Instr.ireturn, 1, 0, 0, 0, []), (14, Instr.iload_n 0, 1, 0, 0, 0, []), (15, Instr.bipush 45, 2, 45, 0, 0, []), (17, Instr.if_icmp .ne 7, 3, 0, 24, 0, []), (20, Instr.iconst 5, 1, 5, 0, 0, []), (21, Instr.goto 4, 3, 0, 25, 0, []), (24, Instr.iconst 0, 1, 0, 0, 0, []), (25, Instr.ireturn, 1, 0, 0, 0, [])]
def mm_T57 : List (Nat × mm_I) := [(0, Instr.iload_n 1, 1, 0, 0, 0, []), (1, Instr.ifCond .eq 11, 3, 0, 12, 0, []), (4, Instr.iload_n 1, 1, 0, 0, 0, []), (5, Instr.iconst 1, 1, 1, 0, 0, []), (6, Instr.if_icmp .eq 6, 3, 0, 12, 0, []), (9, Instr.bipush (-2), 2, (-2), 0, 0, []), (11, Instr.ireturn, 1, 0, 0, 0, []), (12, Instr.iload_n 1, 1, 0, 0, 0, []), (13, Instr.ifCond .ne 21, 3, 0, 34, 0, []), (16, Instr.aload_n 0, 1, 0, 0, 0, []), (17, Instr.getfield 60, 3, 0, 9, 8, [300]), (20, Instr.aload_n 0, 1, 0, 0, 0, []), (21, Instr.getfield 18, 3, 0, 9, 1, [293]), (24, Instr.aload_n 0, 1, 0, 0, 0, []), (25, Instr.getfield 21, 3, 0, 9, 2, [294]), (28, Instr.invokevirtual 135, 3, 1, 58, 2, [515, 516, 517, 62, 518]), (31, Instr.goto 18, 3, 0, 49, 0, []), (34, Instr.aload_n 0, 1, 0, 0, 0, []), (35, Instr.getfield 60, 3, 0, 9, 8, [300]), (38, Instr.aload_n 0, 1, 0, 0, 0, []), (39, Instr.getfield 18, 3, 0, 9, 1, [293]), (42, Instr.aload_n 0, 1, 0, 0, 0, []), (43, Instr.getfield 21, 3, 0, 9, 2, [294]), (46, Instr.invokevirtual 139, 3, 1, 69, 2, [566, 567, 568, 62, 569]), (49, Instr.istore_n 2, 1, 0, 0, 0, []), (50, Instr.iload_n 2, 1, 0, 0, 0, []), (51, Instr.ifCond .ne 6, 3, 0, 57, 0, []), (54, Instr.bipush (-4), 2, (-4), 0, 0, []), (56, Instr.ireturn, 1, 0, 0, 0, []), (57, Instr.aload_n 0, 1, 0, 0, 0, []), (58, Instr.getfield 18, 3, 0, 9, 1, [293]), (61, Instr.aload_n 0, 1, 0, 0, 0, []), (62, Instr.getfield 21, 3, 0, 9, 2, [294]), (65, Instr.invokevirtual 101, 3, 7, 23, 1, [369, 370, 371, 57, 372]), (68, Instr.aload_n 0, 1, 0, 0, 0, []), (69, Instr.getfield 18, 3, 0, 9, 1, [293]), (72, Instr.invokevirtual 81, 3, 7, 13, 0, [331, 332, 333, 57, 334]), (75, Instr.ireturn, 1, 0, 0, 0, [])]
def mm_T58 : List (Nat × mm_I) := [(0, Instr.aload_n 2, 1, 0, 0, 0, []), (1, Instr.invokevirtual 32, 3, 7, 12, 0, [519, 328, 329, 57, 330]), (4, Instr.iconst 0, 1, 0, 0, 0, []), (5, Instr.istore_n 3, 1, 0, 0, 0, []), (6, Instr.iload_n 3, 1, 0, 0, 0, []), (7, Instr.aload_n 1, 1, 0, 0, 0, []), (8, Instr.invokevirtual 35, 3, 7, 13, 0, [520, 332, 333, 57, 334]), (11, Instr.if_icmp .ge 48, 3, 0, 59, 0, []), (14, Instr.aload_n 1, 1, 0, 0, 0, []), (15, Instr.iload_n 3, 1, 0, 0, 0, []), (16, Instr.invokevirtual 39, 3, 7, 17, 1, [521, 350, 351, 57, 352]), (19, Instr.istore 4, 2, 0, 0, 0, []), (21, Instr.iload 4, 2, 0, 0, 0, []), (23, Instr.invokestatic 43, 3, 0, 38, 1, [522, 439, 59, 440]), (26, Instr.ifCond .eq 15, 3, 0, 41, 0, []), (29, Instr.iload 4, 2, 0, 0, 0, []), (31, Instr.aload_n 2, 1, 0, 0, 0, []), (32, Instr.invokestatic 49, 3, 0, 59, 2, [523, 524, 62, 525]), (35, Instr.ifCond .eq 16, 3, 0, 51, 0, []), (38, Instr.goto 15, 3, 0, 53, 0, []), (41, Instr.aload_n 0, 1, 0, 0, 0, []), (42, Instr.iload 4, 2, 0, 0, 0, []), (44, Instr.aload_n 2, 1, 0, 0, 0, []), (45, Instr.invokevirtual 53, 3, 1, 63, 2, [536, 538, 4, 62, 539]), (48, Instr.ifCond .ne 5, 3, 0, 53, 0, []), (51, Instr.iconst 0, 1, 0, 0, 0, []), (52, Instr.ireturn, 1, 1, 0, 0, []), (53, Instr.iinc 3 1, 3, 0, 0, 0, []), (56, Instr.goto (-50), 3, 0, 6, 0, []), (59, Instr.aload_n 0, 1, 0, 0, 0, []), (60, Instr.getfield 15, 3, 0, 1, 1, [187]), (63, Instr.aload_n 2, 1, 0, 0, 0, []), (64, Instr.aload_n 0, 1, 0, 0, 0, []), (65, Instr.getfield 28, 3, 0, 1, 3, [189]), (68, Instr.invokevirtual 56, 3, 6, 66, 2, [550, 551, 552, 60, 553]), (71, Instr.aload_n 0, 1, 0, 0, 0, []), (72, Instr.aload_n 2, 1, 0, 0, 0, []), (73, Instr.invokevirtual 62, 3, 1, 67, 1, [558, 560, 5, 62, 561]), (76, Instr.iconst 1, 1, 1, 0, 0, []), (77, Instr.ireturn, 1, 1, 0, 0, [])]
def mm_T59 : List (Nat × mm_I) := [(0, Instr.iload_n 0, 1, 0, 0, 0, []), (1, Instr.invokestatic 66, 3, 0, 60, 1, [526, 527, 59, 528]), (4, Instr.istore_n 2, 1, 0, 0, 0, []), (5, Instr.aload_n 1, 1, 0, 0, 0, []), (6, Instr.iload_n 0, 1, 0, 0, 0, []), (7, Instr.invokestatic 69, 3, 0, 61, 1, [529, 530, 59, 531]), (10, Instr.invokevirtual 72, 3, 7, 14, 1, [532, 337, 338, 57, 339]), (13, Instr.ifCond .eq 30, 3, 0, 43, 0, []), (16, Instr.aload_n 1, 1, 0, 0, 0, []), (17, Instr.iload_n 0, 1, 0, 0, 0, []), (18, Instr.invokestatic 75, 3, 0, 62, 1, [533, 534, 59, 535]), (21, Instr.invokevirtual 72, 3, 7, 14, 1, [532, 337, 338, 57, 339]), (24, Instr.ifCond .eq 19, 3, 0, 43, 0, []), (27, Instr.iload_n 2, 1, 0, 0, 0, []), (28, Instr.ifCond .eq 11, 3, 0, 39, 0, []), (31, Instr.aload_n 1, 1, 0, 0, 0, []), (32, Instr.iload_n 2, 1, 0, 0, 0, []), (33, Instr.invokevirtual 72, 3, 7, 14, 1, [532, 337, 338, 57, 339]), (36, Instr.ifCond .eq 7, 3, 0, 43, 0, []), (39, Instr.iconst 1, 1, 1, 0, 0, []), (40, Instr.goto 4, 3, 0, 44, 0, []), (43, Instr.iconst 0, 1, 0, 0, 0, []), (44, Instr.ireturn, 1, 1, 0, 0, [])]
def mm_T60 : List (Nat × mm_I) := [(0, Instr.iload_n 0, 1, 0, 0, 0, []), (1, Instr.ldc 63, 2, 44032, 0, 0, [441]), (3, Instr.isub, 1, 0, 0, 0, []), (4, Instr.bipush 28, 2, 28, 0, 0, []), (6, Instr.irem, 1, 0, 0, 0, []), (7, Instr.istore_n 1, 1, 0, 0, 0, []), (8, Instr.iload_n 1, 1, 0, 0, 0, []), (9, Instr.ifCond .ne 7, 3, 0, 16, 0, []), (12, Instr.iconst 0, 1, 0, 0, 0, []), (13, Instr.goto 8, 3, 0, 21, 0, []), (16, Instr.sipush 4519, 3, 4519, 0, 0, []), (19, Instr.iload_n 1, 1, 0, 0, 0, []), (20, Instr.iadd, 1, 0, 0, 0, []), (21, Instr.ireturn, 1, 0, 0, 0, [])]
def mm_T61 : List (Nat × mm_I) := [(0, Instr.sipush 4352, 3, 4352, 0, 0, []), (3, Instr.iload_n 0, 1, 0, 0, 0, []), (4, Instr.ldc 63, 2, 44032, 0, 0, [441]), (6, Instr.isub, 1, 0, 0, 0, []), (7, Instr.sipush 588, 3, 588, 0, 0, []), (10, Instr.idiv, 1, 0, 0, 0, []), (11, Instr.iadd, 1, 0, 0, 0, []), (12, Instr.ireturn, 1, 0, 0, 0, [])]
def mm_T62 : List (Nat × mm_I) := [(0, Instr.sipush 4449, 3, 4449, 0, 0, []), (3, Instr.iload_n 0, 1, 0, 0, 0, []), (4, Instr.ldc 63, 2, 44032, 0, 0, [441]), (6, Instr.isub, 1, 0, 0, 0, []), (7, Instr.sipush 588, 3, 588, 0, 0, []), (10, Instr.irem, 1, 0, 0, 0, []), (11, Instr.bipush 28, 2, 28, 0, 0, []), (13, Instr.idiv, 1, 0, 0, 0, []), (14, Instr.iadd, 1, 0, 0, 0, []), (15, Instr.ireturn, 1, 0, 0, 0, [])]
def mm_T63 : List (Nat × mm_I) := [(0, Instr.iconst 1, 1, 1, 0, 0, []), (1, Instr.istore_n 3, 1, 0, 0, 0, []), (2, Instr.aload_n 0, 1, 0, 0, 0, []), (3, Instr.getfield 19, 3, 0, 1, 2, [188]), (6, Instr.iconst 0, 1, 0, 0, 0, []), (7, Instr.iload_n 1, 1, 0, 0, 0, []), (8, Instr.iastore, 1, 0, 0, 0, []), (9, Instr.iconst 0, 1, 0, 0, 0, []), (10, Instr.istore 4, 2, 0, 0, 0, []), (12, Instr.iload_n 3, 1, 0, 0, 0, []), (13, Instr.ifCond .le 113, 3, 0, 126, 0, []), (16, Instr.iload 4, 2, 0, 0, 0, []), (18, Instr.ldc 78, 2, 1000000, 0, 0, [540]), (20, Instr.if_icmp .ge 106, 3, 0, 126, 0, []), (23, Instr.iinc 3 (-1), 3, 0, 0, 0, []), (26, Instr.aload_n 0, 1, 0, 0, 0, []), (27, Instr.getfield 19, 3, 0, 1, 2, [188]), (30, Instr.iload_n 3, 1, 0, 0, 0, []), (31, Instr.iaload, 1, 0, 0, 0, []), (32, Instr.istore 5, 2, 0, 0, 0, []), (34, Instr.aload_n 0, 1, 0, 0, 0, []), (35, Instr.getfield 9, 3, 0, 1, 0, [186]), (38, Instr.iload 5, 2, 0, 0, 0, []), (40, Instr.invokevirtual 79, 3, 4, 42, 1, [541, 453, 454, 59, 455]), (43, Instr.istore 6, 2, 0, 0, 0, []), (45, Instr.iload 6, 2, 0, 0, 0, []), (47, Instr.ifCond .ge 14, 3, 0, 61, 0, []), (50, Instr.aload_n 2, 1, 0, 0, 0, []), (51, Instr.iload 5, 2, 0, 0, 0, []), (53, Instr.invokevirtual 72, 3, 7, 14, 1, [532, 337, 338, 57, 339]), (56, Instr.ifCond .ne 64, 3, 0, 120, 0, []), (59, Instr.iconst 0, 1, 0, 0, 0, []), (60, Instr.ireturn, 1, 1, 0, 0, []), (61, Instr.iload_n 3, 1, 0, 0, 0, []), (62, Instr.iconst 2, 1, 2, 0, 0, []), (63, Instr.iadd, 1, 0, 0, 0, []), (64, Instr.sipush 128, 3, 128, 0, 0, []), (67, Instr.if_icmp .le 5, 3, 0, 72, 0, []), (70, Instr.iconst 0, 1, 0, 0, 0, []), (71, Instr.ireturn, 1, 1, 0, 0, []), (72, Instr.aload_n 0, 1, 0, 0, 0, []), (73, Instr.getfield 9, 3, 0, 1, 0, [186]), (76, Instr.iload 6, 2, 0, 0, 0, []), (78, Instr.invokevirtual 82, 3, 4, 64, 1, [542, 543, 544, 59, 545]), (81, Instr.ifCond .eq 21, 3, 0, 102, 0, []), (84, Instr.aload_n 0, 1, 0, 0, 0, []), (85, Instr.getfield 19, 3, 0, 1, 2, [188]), (88, Instr.iload_n 3, 1, 0, 0, 0, []), (89, Instr.aload_n 0, 1, 0, 0, 0, []), (90, Instr.getfield 9, 3, 0, 1, 0, [186]), (93, Instr.iload 6, 2, 0, 0, 0, []), (95, Instr.invokevirtual 82, 3, 4, 64, 1, [542, 543, 544, 59, 545]), (98, Instr.iastore, 1, 0, 0, 0, []), (99, Instr.iinc 3 1, 3, 0, 0, 0, []), (102, Instr.aload_n 0, 1, 0, 0, 0, []), (103, Instr.getfield 19, 3, 0, 1, 2, [188]), (106, Instr.iload_n 3, 1, 0, 0, 0, []), (107, Instr.aload_n 0, 1, 0, 0, 0, []), (108, Instr.getfield 9, 3, 0, 1, 0, [186]), (111, Instr.iload 6, 2, 0, 0, 0, []), (113, Instr.invokevirtual 85, 3, 4, 65, 1, [546, 547, 548, 59, 549]), (116, Instr.iastore, 1, 0, 0, 0, []), (117, Instr.iinc 3 1, 3, 0, 0, 0, []), (120, Instr.iinc 4 1, 3, 0, 0, 0, []), (123, Instr.goto (-111), 3, 0, 12, 0, []), (126, Instr.iload_n 3, 1, 0, 0, 0, []), (127, Instr.ifCond .ne 7, 3, 0, 134, 0, []), (130, Instr.iconst 1, 1, 1, 0, 0, []), (131, Instr.goto 4, 3, 0, 135, 0, []), (134, Instr.iconst 0, 1, 0, 0, 0, []), (135, Instr.ireturn, 1, 1, 0, 0, [])]
def mm_T64 : List (Nat × mm_I) := [(0, Instr.iload_n 1, 1, 0, 0, 0, []), (1, Instr.ifCond .lt 20, 3, 0, 21, 0, []), (4, Instr.iload_n 1, 1, 0, 0, 0, []), (5, Instr.aload_n 0, 1, 0, 0, 0, []), (6, Instr.getfield 25, 3, 0, 4, 4, [127]), (9, Instr.if_icmp .ge 12, 3, 0, 21, 0, []), (12, Instr.aload_n 0, 1, 0, 0, 0, []), (13, Instr.getfield 18, 3, 0, 4, 2, [125]), (16, Instr.iload_n 1, 1, 0, 0, 0, []), (17, Instr.iaload, 1, 0, 0, 0, []), (18, Instr.goto 4, 3, 0, 22, 0, []), (21, Instr.iconst 0, 1, 0, 0, 0, []), (22, Instr.ireturn, 1, 0, 0, 0, [])]
def mm_T65 : List (Nat × mm_I) := [(0, Instr.iload_n 1, 1, 0, 0, 0, []), (1, Instr.ifCond .lt 20, 3, 0, 21, 0, []), (4, Instr.iload_n 1, 1, 0, 0, 0, []), (5, Instr.aload_n 0, 1, 0, 0, 0, []), (6, Instr.getfield 25, 3, 0, 4, 4, [127]), (9, Instr.if_icmp .ge 12, 3, 0, 21, 0, []), (12, Instr.aload_n 0, 1, 0, 0, 0, []), (13, Instr.getfield 15, 3, 0, 4, 1, [124]), (16, Instr.iload_n 1, 1, 0, 0, 0, []), (17, Instr.iaload, 1, 0, 0, 0, []), (18, Instr.goto 4, 3, 0, 22, 0, []), (21, Instr.iconst 0, 1, 0, 0, 0, []), (22, Instr.ireturn, 1, 0, 0, 0, [])]
def mm_T66 : List (Nat × mm_I) := [(0, Instr.aload_n 2, 1, 0, 0, 0, []), (1, Instr.invokevirtual 32, 3, 7, 12, 0, [554, 328, 329, 57, 330]), (4, Instr.iconst 0, 1, 0, 0, 0, []), (5, Instr.istore_n 3, 1, 0, 0, 0, []), (6, Instr.iload_n 3, 1, 0, 0, 0, []), (7, Instr.aload_n 1, 1, 0, 0, 0, []), (8, Instr.invokevirtual 37, 3, 7, 13, 0, [555, 332, 333, 57, 334]), (11, Instr.if_icmp .ge 41, 3, 0, 52, 0, []), (14, Instr.aload_n 0, 1, 0, 0, 0, []), (15, Instr.aload_n 1, 1, 0, 0, 0, []), (16, Instr.iload_n 3, 1, 0, 0, 0, []), (17, Instr.invokevirtual 41, 3, 7, 17, 1, [556, 350, 351, 57, 352]), (20, Instr.invokevirtual 28, 3, 6, 46, 1, [469, 471, 2, 60, 472]), (23, Instr.istore 4, 2, 0, 0, 0, []), (25, Instr.aload_n 2, 1, 0, 0, 0, []), (26, Instr.iload 4, 2, 0, 0, 0, []), (28, Instr.ifCond .lt 13, 3, 0, 41, 0, []), (31, Instr.aload_n 0, 1, 0, 0, 0, []), (32, Instr.getfield 15, 3, 0, 6, 1, [147]), (35, Instr.iload 4, 2, 0, 0, 0, []), (37, Instr.iaload, 1, 0, 0, 0, []), (38, Instr.goto 4, 3, 0, 42, 0, []), (41, Instr.iconst 0, 1, 0, 0, 0, []), (42, Instr.invokevirtual 44, 3, 7, 14, 1, [557, 337, 338, 57, 339]), (45, Instr.pop, 1, 0, 0, 0, []), (46, Instr.iinc 3 1, 3, 0, 0, 0, []), (49, Instr.goto (-43), 3, 0, 6, 0, []), (52, Instr.return_, 1, 0, 0, 0, [])]
def mm_T67 : List (Nat × mm_I) := [(0, Instr.iconst 1, 1, 1, 0, 0, []), (1, Instr.istore_n 2, 1, 0, 0, 0, []), (2, Instr.iload_n 2, 1, 0, 0, 0, []), (3, Instr.aload_n 1, 1, 0, 0, 0, []), (4, Instr.invokevirtual 35, 3, 7, 13, 0, [520, 332, 333, 57, 334]), (7, Instr.if_icmp .ge 112, 3, 0, 119, 0, []), (10, Instr.aload_n 1, 1, 0, 0, 0, []), (11, Instr.iload_n 2, 1, 0, 0, 0, []), (12, Instr.invokevirtual 39, 3, 7, 17, 1, [521, 350, 351, 57, 352]), (15, Instr.istore_n 3, 1, 0, 0, 0, []), (16, Instr.aload_n 0, 1, 0, 0, 0, []), (17, Instr.getfield 28, 3, 0, 1, 3, [189]), (20, Instr.iload_n 2, 1, 0, 0, 0, []), (21, Instr.invokevirtual 39, 3, 7, 17, 1, [521, 350, 351, 57, 352]), (24, Instr.istore 4, 2, 0, 0, 0, []), (26, Instr.iload_n 2, 1, 0, 0, 0, []), (27, Instr.istore 5, 2, 0, 0, 0, []), (29, Instr.iload 4, 2, 0, 0, 0, []), (31, Instr.ifCond .le 64, 3, 0, 95, 0, []), (34, Instr.iload 5, 2, 0, 0, 0, []), (36, Instr.ifCond .le 59, 3, 0, 95, 0, []), (39, Instr.aload_n 0, 1, 0, 0, 0, []), (40, Instr.getfield 28, 3, 0, 1, 3, [189]), (43, Instr.iload 5, 2, 0, 0, 0, []), (45, Instr.iconst 1, 1, 1, 0, 0, []), (46, Instr.isub, 1, 0, 0, 0, []), (47, Instr.invokevirtual 39, 3, 7, 17, 1, [521, 350, 351, 57, 352]), (50, Instr.iload 4, 2, 0, 0, 0, []), (52, Instr.if_icmp .le 43, 3, 0, 95, 0, []), (55, Instr.aload_n 1, 1, 0, 0, 0, []), (56, Instr.iload 5, 2, 0, 0, 0, []), (58, Instr.aload_n 1, 1, 0, 0, 0, []), (59, Instr.iload 5, 2, 0, 0, 0, []), (61, Instr.iconst 1, 1, 1, 0, 0, []), (62, Instr.isub, 1, 0, 0, 0, []), (63, Instr.invokevirtual 39, 3, 7, 17, 1, [521, 350, 351, 57, 352]), (66, Instr.invokevirtual 88, 3, 7, 68, 2, [562, 563, 564, 57, 565]), (69, Instr.aload_n 0, 1, 0, 0, 0, []), (70, Instr.getfield 28, 3, 0, 1, 3, [189]), (73, Instr.iload 5, 2, 0, 0, 0, []), (75, Instr.aload_n 0, 1, 0, 0, 0, []), (76, Instr.getfield 28, 3, 0, 1, 3, [189]), (79, Instr.iload 5, 2, 0, 0, 0, []), (81, Instr.iconst 1, 1, 1, 0, 0, []), (82, Instr.isub, 1, 0, 0, 0, []), (83, Instr.invokevirtual 39, 3, 7, 17, 1, [521, 350, 351, 57, 352]), (86, Instr.invokevirtual 88, 3, 7, 68, 2, [562, 563, 564, 57, 565]), (89, Instr.iinc 5 (-1), 3, 0, 0, 0, []), (92, Instr.goto (-63), 3, 0, 29, 0, []), (95, Instr.aload_n 1, 1, 0, 0, 0, []), (96, Instr.iload 5, 2, 0, 0, 0, []), (98, Instr.iload_n 3, 1, 0, 0, 0, []), (99, Instr.invokevirtual 88, 3, 7, 68, 2, [562, 563, 564, 57, 565]), (102, Instr.aload_n 0, 1, 0, 0, 0, []), (103, Instr.getfield 28, 3, 0, 1, 3, [189]), (106, Instr.iload 5, 2, 0, 0, 0, []), (108, Instr.iload 4, 2, 0, 0, 0, []), (110, Instr.invokevirtual 88, 3, 7, 68, 2, [562, 563, 564, 57, 565]), (113, Instr.iinc 2 1, 3, 0, 0, 0, []), (116, Instr.goto (-114), 3, 0, 2, 0, []), (119, Instr.return_, 1, 0, 0, 0, [])]
def mm_T68 : List (Nat × mm_I) := [(0, Instr.iload_n 1, 1, 0, 0, 0, []), (1, Instr.ifCond .lt 18, 3, 0, 19, 0, []), (4, Instr.iload_n 1, 1, 0, 0, 0, []), (5, Instr.aload_n 0, 1, 0, 0, 0, []), (6, Instr.getfield 13, 3, 0, 7, 1, [85]), (9, Instr.if_icmp .ge 10, 3, 0, 19, 0, []), (12, Instr.aload_n 0, 1, 0, 0, 0, []), (13, Instr.getfield 7, 3, 0, 7, 0, [84]), (16, Instr.iload_n 1, 1, 0, 0, 0, []), (17, Instr.iload_n 2, 1, 0, 0, 0, []), (18, Instr.iastore, 1, 0, 0, 0, []), (19, Instr.return_, 1, 0, 0, 0, [])]
def mm_T69 : List (Nat × mm_I) := [(0, Instr.aload_n 0, 1, 0, 0, 0, []), (1, Instr.aload_n 1, 1, 0, 0, 0, []), (2, Instr.aload_n 2, 1, 0, 0, 0, []), (3, Instr.invokevirtual 92, 3, 1, 58, 2, [570, 516, 517, 62, 518]), (6, Instr.ifCond .ne 5, 3, 0, 11, 0, []), (9, Instr.iconst 0, 1, 0, 0, 0, []), (10, Instr.ireturn, 1, 1, 0, 0, []), (11, Instr.iconst (-1), 1, (-1), 0, 0, []), (12, Instr.istore_n 3, 1, 0, 0, 0, []), (13, Instr.iconst 0, 1, 0, 0, 0, []), (14, Instr.istore 4, 2, 0, 0, 0, []), (16, Instr.iconst 0, 1, 0, 0, 0, []), (17, Instr.istore 5, 2, 0, 0, 0, []), (19, Instr.iload 5, 2, 0, 0, 0, []), (21, Instr.aload_n 2, 1, 0, 0, 0, []), (22, Instr.invokevirtual 35, 3, 7, 13, 0, [520, 332, 333, 57, 334]), (25, Instr.if_icmp .ge 109, 3, 0, 134, 0, []), (28, Instr.aload_n 2, 1, 0, 0, 0, []), (29, Instr.iload 5, 2, 0, 0, 0, []), (31, Instr.invokevirtual 39, 3, 7, 17, 1, [521, 350, 351, 57, 352]), (34, Instr.istore 6, 2, 0, 0, 0, []), (36, Instr.aload_n 0, 1, 0, 0, 0, []), (37, Instr.getfield 28, 3, 0, 1, 3, [189]), (40, Instr.iload 5, 2, 0, 0, 0, []), (42, Instr.invokevirtual 39, 3, 7, 17, 1, [521, 350, 351, 57, 352]), (45, Instr.istore 7, 2, 0, 0, 0, []), (47, Instr.iconst (-1), 1, (-1), 0, 0, []), (48, Instr.istore 8, 2, 0, 0, 0, []), (50, Instr.iload_n 3, 1, 0, 0, 0, []), (51, Instr.ifCond .lt 31, 3, 0, 82, 0, []), (54, Instr.aload_n 0, 1, 0, 0, 0, []), (55, Instr.iload_n 3, 1, 0, 0, 0, []), (56, Instr.iload 4, 2, 0, 0, 0, []), (58, Instr.iload 7, 2, 0, 0, 0, []), (60, Instr.invokevirtual 96, 3, 1, 70, 3, [571, 573, 6, 62, 574]), (63, Instr.ifCond .eq 19, 3, 0, 82, 0, []), (66, Instr.aload_n 0, 1, 0, 0, 0, []), (67, Instr.getfield 9, 3, 0, 1, 0, [186]), (70, Instr.aload_n 2, 1, 0, 0, 0, []), (71, Instr.iload_n 3, 1, 0, 0, 0, []), (72, Instr.invokevirtual 39, 3, 7, 17, 1, [521, 350, 351, 57, 352]), (75, Instr.iload 6, 2, 0, 0, 0, []), (77, Instr.invokevirtual 100, 3, 4, 71, 2, [575, 576, 577, 59, 578]), (80, Instr.istore 8, 2, 0, 0, 0, []), (82, Instr.iload 8, 2, 0, 0, 0, []), (84, Instr.iconst (-1), 1, (-1), 0, 0, []), (85, Instr.if_icmp .eq 13, 3, 0, 98, 0, []), (88, Instr.aload_n 2, 1, 0, 0, 0, []), (89, Instr.iload_n 3, 1, 0, 0, 0, []), (90, Instr.iload 8, 2, 0, 0, 0, []), (92, Instr.invokevirtual 88, 3, 7, 68, 2, [562, 563, 564, 57, 565]), (95, Instr.goto 33, 3, 0, 128, 0, []), (98, Instr.iload 7, 2, 0, 0, 0, []), (100, Instr.ifCond .ne 6, 3, 0, 106, 0, []), (103, Instr.iload 4, 2, 0, 0, 0, []), (105, Instr.istore_n 3, 1, 0, 0, 0, []), (106, Instr.aload_n 2, 1, 0, 0, 0, []), (107, Instr.iload 4, 2, 0, 0, 0, []), (109, Instr.iload 6, 2, 0, 0, 0, []), (111, Instr.invokevirtual 88, 3, 7, 68, 2, [562, 563, 564, 57, 565]), (114, Instr.aload_n 0, 1, 0, 0, 0, []), (115, Instr.getfield 28, 3, 0, 1, 3, [189]), (118, Instr.iload 4, 2, 0, 0, 0, []), (120, Instr.iload 7, 2, 0, 0, 0, []), (122, Instr.invokevirtual 88, 3, 7, 68, 2, [562, 563, 564, 57, 565]), (125, Instr.iinc 4 1, 3, 0, 0, 0, []), (128, Instr.iinc 5 1, 3, 0, 0, 0, []), (131, Instr.goto (-112), 3, 0, 19, 0, []), (134, Instr.aload_n 2, 1, 0, 0, 0, []), (135, Instr.iload 4, 2, 0, 0, 0, []), (137, Instr.invokevirtual 104, 3, 7, 72, 1, [579, 580, 581, 57, 582]), (140, Instr.iconst 1, 1, 1, 0, 0, []), (141, Instr.ireturn, 1, 1, 0, 0, [])]
def mm_T70 : List (Nat × mm_I) := [(0, Instr.aload_n 0, 1, 0, 0, 0, []), (1, Instr.getfield 28, 3, 0, 1, 3, [189]), (4, Instr.iload_n 2, 1, 0, 0, 0, []), (5, Instr.iconst 1, 1, 1, 0, 0, []), (6, Instr.isub, 1, 0, 0, 0, []), (7, Instr.invokevirtual 39, 3, 7, 17, 1, [521, 350, 351, 57, 352]), (10, Instr.istore 4, 2, 0, 0, 0, []), (12, Instr.iload_n 1, 1, 0, 0, 0, []), (13, Instr.iload_n 2, 1, 0, 0, 0, []), (14, Instr.iconst 1, 1, 1, 0, 0, []), (15, Instr.isub, 1, 0, 0, 0, []), (16, Instr.if_icmp .eq 14, 3, 0, 30, 0, []), (19, Instr.iload 4, 2, 0, 0, 0, []), (21, Instr.ifCond .le 13, 3, 0, 34, 0, []), (24, Instr.iload 4, 2, 0, 0, 0, []), (26, Instr.iload_n 3, 1, 0, 0, 0, []), (27, Instr.if_icmp .ge 7, 3, 0, 34, 0, []), (30, Instr.iconst 1, 1, 1, 0, 0, []), (31, Instr.goto 4, 3, 0, 35, 0, []), (34, Instr.iconst 0, 1, 0, 0, 0, []), (35, Instr.ireturn, 1, 1, 0, 0, [])]
def mm_T71 : List (Nat × mm_I) := [(0, Instr.iload_n 1, 1, 0, 0, 0, []), (1, Instr.invokestatic 54, 3, 0, 39, 1, [443, 444, 59, 445]), (4, Instr.ifCond .eq 32, 3, 0, 36, 0, []), (7, Instr.iload_n 2, 1, 0, 0, 0, []), (8, Instr.invokestatic 57, 3, 0, 40, 1, [446, 447, 59, 448]), (11, Instr.ifCond .eq 25, 3, 0, 36, 0, []), (14, Instr.ldc 63, 2, 44032, 0, 0, [441]), (16, Instr.iload_n 1, 1, 0, 0, 0, []), (17, Instr.sipush 4352, 3, 4352, 0, 0, []), (20, Instr.isub, 1, 0, 0, 0, []), (21, Instr.sipush 588, 3, 588, 0, 0, []), (24, Instr.imul, 1, 0, 0, 0, []), (25, Instr.iadd, 1, 0, 0, 0, []), (26, Instr.iload_n 2, 1, 0, 0, 0, []), (27, Instr.sipush 4449, 3, 4449, 0, 0, []), (30, Instr.isub, 1, 0, 0, 0, []), (31, Instr.bipush 28, 2, 28, 0, 0, []), (33, Instr.imul, 1, 0, 0, 0, []), (34, Instr.iadd, 1, 0, 0, 0, []), (35, Instr.ireturn, 1, 0, 0, 0, []), (36, Instr.iload_n 1, 1, 0, 0, 0, []), (37, Instr.invokestatic 51, 3, 0, 38, 1, [438, 439, 59, 440]), (40, Instr.ifCond .eq 28, 3, 0, 68, 0, []), (43, Instr.iload_n 1, 1, 0, 0, 0, []), (44, Instr.ldc 63, 2, 44032, 0, 0, [441]), (46, Instr.isub, 1, 0, 0, 0, []), (47, Instr.bipush 28, 2, 28, 0, 0, []), (49, Instr.irem, 1, 0, 0, 0, []), (50, Instr.ifCond .ne 18, 3, 0, 68, 0, []), (53, Instr.iload_n 2, 1, 0, 0, 0, []), (54, Instr.invokestatic 60, 3, 0, 41, 1, [449, 450, 59, 451]), (57, Instr.ifCond .eq 11, 3, 0, 68, 0, []), (60, Instr.iload_n 1, 1, 0, 0, 0, []), (61, Instr.iload_n 2, 1, 0, 0, 0, []), (62, Instr.iadd, 1, 0, 0, 0, []), (63, Instr.sipush 4519, 3, 4519, 0, 0, []), (66, Instr.isub, 1, 0, 0, 0, []), (67, Instr.ireturn, 1, 0, 0, 0, []), (68, Instr.iload_n 2, 1, 0, 0, 0, []), (69, Instr.ifCond .ne 7, 3, 0, 76, 0, []), (72, Instr.iconst (-1), 1, (-1), 0, 0, []), (73, Instr.goto 9, 3, 0, 82, 0, []), (76, Instr.aload_n 0, 1, 0, 0, 0, []), (77, Instr.iload_n 1, 1, 0, 0, 0, []), (78, Instr.iload_n 2, 1, 0, 0, 0, []), (79, Instr.invokevirtual 47, 3, 4, 43, 2, [456, 458, 1, 59, 459]), (82, Instr.istore_n 3, 1, 0, 0, 0, []), (83, Instr.iload_n 3, 1, 0, 0, 0, []), (84, Instr.ifCond .lt 12, 3, 0, 96, 0, []), (87, Instr.aload_n 0, 1, 0, 0, 0, []), (88, Instr.getfield 11, 3, 0, 4, 0, [123]), (91, Instr.iload_n 3, 1, 0, 0, 0, []), (92, Instr.iaload, 1, 0, 0, 0, []), (93, Instr.goto 4, 3, 0, 97, 0, []), (96, Instr.iconst (-1), 1, (-1), 0, 0, []), (97, Instr.ireturn, 1, 0, 0, 0, [])]
def mm_T72 : List (Nat × mm_I) := [(0, Instr.iload_n 1, 1, 0, 0, 0, []), (1, Instr.ifCond .lt 16, 3, 0, 17, 0, []), (4, Instr.iload_n 1, 1, 0, 0, 0, []), (5, Instr.aload_n 0, 1, 0, 0, 0, []), (6, Instr.getfield 13, 3, 0, 7, 1, [85]), (9, Instr.if_icmp .ge 8, 3, 0, 17, 0, []), (12, Instr.aload_n 0, 1, 0, 0, 0, []), (13, Instr.iload_n 1, 1, 0, 0, 0, []), (14, Instr.putfield 13, 3, 1, 7, 1, [85]), (17, Instr.return_, 1, 0, 0, 0, [])]
def mm_T73 : List (Nat × mm_I) := [(0, Instr.aload_n 0, 1, 0, 0, 0, []), (1, Instr.getfield 60, 3, 0, 9, 8, [300]), (4, Instr.aload_n 0, 1, 0, 0, 0, []), (5, Instr.getfield 18, 3, 0, 9, 1, [293]), (8, Instr.aload_n 0, 1, 0, 0, 0, []), (9, Instr.getfield 21, 3, 0, 9, 2, [294]), (12, Instr.invokevirtual 139, 3, 1, 69, 2, [566, 567, 568, 62, 569]), (15, Instr.ifCond .eq 21, 3, 0, 36, 0, []), (18, Instr.aload_n 0, 1, 0, 0, 0, []), (19, Instr.getfield 18, 3, 0, 9, 1, [293]), (22, Instr.aload_n 0, 1, 0, 0, 0, []), (23, Instr.getfield 21, 3, 0, 9, 2, [294]), (26, Instr.invokevirtual 142, 3, 7, 74, 1, [587, 588, 589, 57, 590]), (29, Instr.ifCond .eq 7, 3, 0, 36, 0, []), (32, Instr.iconst 1, 1, 1, 0, 0, []), (33, Instr.goto 4, 3, 0, 37, 0, []), (36, Instr.iconst 0, 1, 0, 0, 0, []), (37, Instr.ireturn, 1, 0, 0, 0, [])]
def mm_T74 : List (Nat × mm_I) := [(0, Instr.aload_n 0, 1, 0, 0, 0, []), (1, Instr.aload_n 1, 1, 0, 0, 0, []), (2, Instr.invokevirtual 41, 3, 7, 75, 1, [591, 592, 593, 57, 594]), (5, Instr.ifCond .ge 7, 3, 0, 12, 0, []), (8, Instr.iconst 1, 1, 1, 0, 0, []), (9, Instr.goto 4, 3, 0, 13, 0, []), (12, Instr.iconst 0, 1, 0, 0, 0, []), (13, Instr.ireturn, 1, 1, 0, 0, [])]
def mm_T75 : List (Nat × mm_I) := [(0, Instr.aload_n 0, 1, 0, 0, 0, []), (1, Instr.getfield 13, 3, 0, 7, 1, [85]), (4, Instr.aload_n 1, 1, 0, 0, 0, []), (5, Instr.invokevirtual 28, 3, 7, 13, 0, [374, 332, 333, 57, 334]), (8, Instr.invokestatic 35, 3, 0, 76, 2, [595, 596, 68, 597]), (11, Instr.istore_n 2, 1, 0, 0, 0, []), (12, Instr.iconst 0, 1, 0, 0, 0, []), (13, Instr.istore_n 3, 1, 0, 0, 0, []), (14, Instr.iload_n 3, 1, 0, 0, 0, []), (15, Instr.iload_n 2, 1, 0, 0, 0, []), (16, Instr.if_icmp .ge 24, 3, 0, 40, 0, []), (19, Instr.aload_n 0, 1, 0, 0, 0, []), (20, Instr.iload_n 3, 1, 0, 0, 0, []), (21, Instr.invokevirtual 17, 3, 7, 17, 1, [379, 350, 351, 57, 352]), (24, Instr.aload_n 1, 1, 0, 0, 0, []), (25, Instr.iload_n 3, 1, 0, 0, 0, []), (26, Instr.invokevirtual 17, 3, 7, 17, 1, [379, 350, 351, 57, 352]), (29, Instr.if_icmp .eq 5, 3, 0, 34, 0, []), (32, Instr.iload_n 3, 1, 0, 0, 0, []), (33, Instr.ireturn, 1, 0, 0, 0, []), (34, Instr.iinc 3 1, 3, 0, 0, 0, []), (37, Instr.goto (-23), 3, 0, 14, 0, []), (40, Instr.aload_n 0, 1, 0, 0, 0, []), (41, Instr.getfield 13, 3, 0, 7, 1, [85]), (44, Instr.aload_n 1, 1, 0, 0, 0, []), (45, Instr.invokevirtual 28, 3, 7, 13, 0, [374, 332, 333, 57, 334]), (48, Instr.if_icmp .ne 7, 3, 0, 55, 0, []), (51, Instr.iconst (-1), 1, (-1), 0, 0, []), (52, Instr.goto 4, 3, 0, 56, 0, []), (55, Instr.iload_n 2, 1, 0, 0, 0, []), (56, Instr.ireturn, 1, 0, 0, 0, [])]
def mm_T76 : List (Nat × mm_I) := [(0, Instr.iload_n 0, 1, 0, 0, 0, []), (1, Instr.iload_n 1, 1, 0, 0, 0, []), (2, Instr.if_icmp .gt 7, 3, 0, 9, 0, []), (5, Instr.iload_n 0, 1, 0, 0, 0, []), (6, Instr.goto 4, 3, 0, 10, 0, []), (9, Instr.iload_n 1, 1, 0, 0, 0, []), (10, Instr.ireturn, 1, 0, 0, 0, [])]
def mm_T77 : List (Nat × mm_I) := [(0, Instr.aload_n 0, 1, 0, 0, 0, []), (1, Instr.getfield 14, 3, 0, 9, 0, [292]), (4, Instr.aload_n 0, 1, 0, 0, 0, []), (5, Instr.getfield 21, 3, 0, 9, 2, [294]), (8, Instr.invokestatic 91, 3, 0, 16, 2, [344, 345, 67, 346]), (11, Instr.istore_n 1, 1, 0, 0, 0, []), (12, Instr.iload_n 1, 1, 0, 0, 0, []), (13, Instr.iconst (-1), 1, (-1), 0, 0, []), (14, Instr.if_icmp .eq 8, 3, 0, 22, 0, []), (17, Instr.iload_n 1, 1, 0, 0, 0, []), (18, Instr.invokestatic 97, 3, 0, 22, 1, [366, 367, 56, 368]), (21, Instr.ireturn, 1, 0, 0, 0, []), (22, Instr.aload_n 0, 1, 0, 0, 0, []), (23, Instr.getfield 60, 3, 0, 9, 8, [300]), (26, Instr.aload_n 0, 1, 0, 0, 0, []), (27, Instr.getfield 21, 3, 0, 9, 2, [294]), (30, Instr.aload_n 0, 1, 0, 0, 0, []), (31, Instr.getfield 24, 3, 0, 9, 3, [295]), (34, Instr.invokevirtual 135, 3, 1, 58, 2, [515, 516, 517, 62, 518]), (37, Instr.ifCond .eq 21, 3, 0, 58, 0, []), (40, Instr.aload_n 0, 1, 0, 0, 0, []), (41, Instr.getfield 60, 3, 0, 9, 8, [300]), (44, Instr.aload_n 0, 1, 0, 0, 0, []), (45, Instr.getfield 18, 3, 0, 9, 1, [293]), (48, Instr.aload_n 0, 1, 0, 0, 0, []), (49, Instr.getfield 21, 3, 0, 9, 2, [294]), (52, Instr.invokevirtual 135, 3, 1, 58, 2, [515, 516, 517, 62, 518]), (55, Instr.ifCond .ne 6, 3, 0, 61, 0, []), (58, Instr.bipush (-4), 2, (-4), 0, 0, []), (60, Instr.ireturn, 1, 0, 0, 0, []), (61, Instr.aload_n 0, 1, 0, 0, 0, []), (62, Instr.getfield 21, 3, 0, 9, 2, [294]), (65, Instr.aload_n 0, 1, 0, 0, 0, []), (66, Instr.getfield 24, 3, 0, 9, 3, [295]), (69, Instr.invokevirtual 142, 3, 7, 74, 1, [587, 588, 589, 57, 590]), (72, Instr.ifCond .eq 7, 3, 0, 79, 0, []), (75, Instr.iconst 1, 1, 1, 0, 0, []), (76, Instr.goto 4, 3, 0, 80, 0, []), (79, Instr.iconst 0, 1, 0, 0, 0, []), (80, Instr.ireturn, 1, 0, 0, 0, [])]
def mm_T78 : List (Nat × mm_I) := [(0, Instr.aload_n 0, 1, 0, 0, 0, []), (1, Instr.getfield 21, 3, 0, 9, 2, [294]), (4, Instr.invokevirtual 78, 3, 7, 12, 0, [327, 328, 329, 57, 330]), (7, Instr.aload_n 0, 1, 0, 0, 0, []), (8, Instr.getfield 18, 3, 0, 9, 1, [293]), (11, Instr.iconst 0, 1, 0, 0, 0, []), (12, Instr.aload_n 0, 1, 0, 0, 0, []), (13, Instr.getfield 18, 3, 0, 9, 1, [293]), (16, Instr.invokevirtual 81, 3, 7, 13, 0, [331, 332, 333, 57, 334]), (19, Instr.aload_n 0, 1, 0, 0, 0, []), (20, Instr.getfield 21, 3, 0, 9, 2, [294]), (23, Instr.invokestatic 146, 3, 0, 79, 4, [606, 607, 69, 608]), (26, Instr.iconst (-1), 1, (-1), 0, 0, []), (27, Instr.if_icmp .eq 6, 3, 0, 33, 0, []), (30, Instr.bipush (-4), 2, (-4), 0, 0, []), (32, Instr.ireturn, 1, 0, 0, 0, []), (33, Instr.aload_n 0, 1, 0, 0, 0, []), (34, Instr.getfield 18, 3, 0, 9, 1, [293]), (37, Instr.aload_n 0, 1, 0, 0, 0, []), (38, Instr.getfield 21, 3, 0, 9, 2, [294]), (41, Instr.invokevirtual 101, 3, 7, 23, 1, [369, 370, 371, 57, 372]), (44, Instr.aload_n 0, 1, 0, 0, 0, []), (45, Instr.getfield 18, 3, 0, 9, 1, [293]), (48, Instr.invokevirtual 81, 3, 7, 13, 0, [331, 332, 333, 57, 334]), (51, Instr.ireturn, 1, 0, 0, 0, [])]
def mm_T79 : List (Nat × mm_I) := [(0, Instr.iconst 0, 1, 0, 0, 0, []), (1, Instr.istore 4, 2, 0, 0, 0, []), (3, Instr.iload_n 1, 1, 0, 0, 0, []), (4, Instr.istore 5, 2, 0, 0, 0, []), (6, Instr.iload 5, 2, 0, 0, 0, []), (8, Instr.iload_n 2, 1, 0, 0, 0, []), (9, Instr.if_icmp .ge 40, 3, 0, 49, 0, []), (12, Instr.aload_n 0, 1, 0, 0, 0, []), (13, Instr.iload 5, 2, 0, 0, 0, []), (15, Instr.invokevirtual 7, 3, 7, 17, 1, [609, 350, 351, 57, 352]), (18, Instr.sipush 128, 3, 128, 0, 0, []), (21, Instr.if_icmp .ge 22, 3, 0, 43, 0, []), (24, Instr.iinc 4 1, 3, 0, 0, 0, []), (27, Instr.aload_n 3, 1, 0, 0, 0, []), (28, Instr.aload_n 0, 1, 0, 0, 0, []), (29, Instr.iload 5, 2, 0, 0, 0, []), (31, Instr.invokevirtual 7, 3, 7, 17, 1, [609, 350, 351, 57, 352]), (34, Instr.invokevirtual 15, 3, 7, 14, 1, [610, 337, 338, 57, 339]), (37, Instr.ifCond .ne 6, 3, 0, 43, 0, []), (40, Instr.bipush (-3), 2, (-3), 0, 0, []), (42, Instr.ireturn, 1, 0, 0, 0, []), (43, Instr.iinc 5 1, 3, 0, 0, 0, []), (46, Instr.goto (-40), 3, 0, 6, 0, []), (49, Instr.iload 4, 2, 0, 0, 0, []), (51, Instr.ifCond .le 15, 3, 0, 66, 0, []), (54, Instr.aload_n 3, 1, 0, 0, 0, []), (55, Instr.bipush 45, 2, 45, 0, 0, []), (57, Instr.invokevirtual 15, 3, 7, 14, 1, [610, 337, 338, 57, 339]), (60, Instr.ifCond .ne 6, 3, 0, 66, 0, []), (63, Instr.bipush (-3), 2, (-3), 0, 0, []), (65, Instr.ireturn, 1, 0, 0, 0, []), (66, Instr.aload_n 0, 1, 0, 0, 0, []), (67, Instr.iload_n 1, 1, 0, 0, 0, []), (68, Instr.iload_n 2, 1, 0, 0, 0, []), (69, Instr.iload 4, 2, 0, 0, 0, []), (71, Instr.aload_n 3, 1, 0, 0, 0, []), (72, Instr.invokestatic 19, 3, 0, 80, 5, [611, 612, 69, 613]), (75, Instr.ireturn, 1, 0, 0, 0, [])]
def mm_T80 : List (Nat × mm_I) := [(0, Instr.sipush 128, 3, 128, 0, 0, []), (3, Instr.istore 5, 2, 0, 0, 0, []), (5, Instr.lconst 0, 1, 0, 0, 0, []), (6, Instr.lstore 6, 2, 0, 0, 0, []), (8, Instr.bipush 72, 2, 72, 0, 0, []), (10, Instr.istore 8, 2, 0, 0, 0, []), (12, Instr.iload_n 3, 1, 0, 0, 0, []), (13, Instr.istore 9, 2, 0, 0, 0, []), (15, Instr.iload_n 1, 1, 0, 0, 0, []), (16, Instr.istore 10, 2, 0, 0, 0, []), (18, Instr.iload 10, 2, 0, 0, 0, []), (20, Instr.iload_n 2, 1, 0, 0, 0, []), (21, Instr.if_icmp .ge 167, 3, 0, 188, 0, []), (24, Instr.iload 9, 2, 0, 0, 0, []), (26, Instr.iload_n 2, 1, 0, 0, 0, []), (27, Instr.iload_n 1, 1, 0, 0, 0, []), (28, Instr.isub, 1, 0, 0, 0, []), (29, Instr.if_icmp .ge 159, 3, 0, 188, 0, []), (32, Instr.aload_n 0, 1, 0, 0, 0, []), (33, Instr.iload_n 1, 1, 0, 0, 0, []), (34, Instr.iload_n 2, 1, 0, 0, 0, []), (35, Instr.iload 5, 2, 0, 0, 0, []), (37, Instr.invokestatic 23, 3, 0, 81, 4, [614, 615, 69, 616]), (40, Instr.istore 11, 2, 0, 0, 0, []), (42, Instr.lload 6, 2, 0, 0, 0, []), (44, Instr.iload 11, 2, 0, 0, 0, []), (46, Instr.iload 5, 2, 0, 0, 0, []), (48, Instr.isub, 1, 0, 0, 0, []), (49, Instr.i2l, 1, 0, 0, 0, []), (50, Instr.iload 9, 2, 0, 0, 0, []), (52, Instr.iconst 1, 1, 1, 0, 0, []), (53, Instr.iadd, 1, 0, 0, 0, []), (54, Instr.i2l, 1, 0, 0, 0, []), (55, Instr.lmul, 1, 0, 0, 0, []), (56, Instr.ladd, 1, 0, 0, 0, []), (57, Instr.lstore 6, 2, 0, 0, 0, []), (59, Instr.iload 11, 2, 0, 0, 0, []), (61, Instr.istore 5, 2, 0, 0, 0, []), (63, Instr.lload 6, 2, 0, 0, 0, []), (65, Instr.ldc2_w 27, 3, 2147483647, 0, 0, [618]), (68, Instr.lcmp, 1, 0, 0, 0, []), (69, Instr.ifCond .le 6, 3, 0, 75, 0, []), (72, Instr.bipush (-2), 2, (-2), 0, 0, []), (74, Instr.ireturn, 1, 0, 0, 0, []), (75, Instr.iload_n 1, 1, 0, 0, 0, []), (76, Instr.istore 12, 2, 0, 0, 0, []), (78, Instr.iload 12, 2, 0, 0, 0, []), (80, Instr.iload_n 2, 1, 0, 0, 0, []), (81, Instr.if_icmp .ge 92, 3, 0, 173, 0, []), (84, Instr.aload_n 0, 1, 0, 0, 0, []), (85, Instr.iload 12, 2, 0, 0, 0, []), (87, Instr.invokevirtual 7, 3, 7, 17, 1, [609, 350, 351, 57, 352]), (90, Instr.iload 5, 2, 0, 0, 0, []), (92, Instr.if_icmp .ge 21, 3, 0, 113, 0, []), (95, Instr.lload 6, 2, 0, 0, 0, []), (97, Instr.lconst 1, 1, 1, 0, 0, []), (98, Instr.ladd, 1, 0, 0, 0, []), (99, Instr.lstore 6, 2, 0, 0, 0, []), (101, Instr.lload 6, 2, 0, 0, 0, []), (103, Instr.ldc2_w 27, 3, 2147483647, 0, 0, [618]), (106, Instr.lcmp, 1, 0, 0, 0, []), (107, Instr.ifCond .le 6, 3, 0, 113, 0, []), (110, Instr.bipush (-2), 2, (-2), 0, 0, []), (112, Instr.ireturn, 1, 0, 0, 0, []), (113, Instr.aload_n 0, 1, 0, 0, 0, []), (114, Instr.iload 12, 2, 0, 0, 0, []), (116, Instr.invokevirtual 7, 3, 7, 17, 1, [609, 350, 351, 57, 352]), (119, Instr.iload 5, 2, 0, 0, 0, []), (121, Instr.if_icmp .ne 46, 3, 0, 167, 0, []), (124, Instr.lload 6, 2, 0, 0, 0, []), (126, Instr.iload 8, 2, 0, 0, 0, []), (128, Instr.aload 4, 2, 0, 0, 0, []), (130, Instr.invokestatic 29, 3, 0, 82, 3, [619, 620, 69, 621]), (133, Instr.ifCond .ne 6, 3, 0, 139, 0, []), (136, Instr.bipush (-3), 2, (-3), 0, 0, []), (138, Instr.ireturn, 1, 0, 0, 0, []), (139, Instr.lload 6, 2, 0, 0, 0, []), (141, Instr.iload 9, 2, 0, 0, 0, []), (143, Instr.iconst 1, 1, 1, 0, 0, []), (144, Instr.iadd, 1, 0, 0, 0, []), (145, Instr.iload 9, 2, 0, 0, 0, []), (147, Instr.iload_n 3, 1, 0, 0, 0, []), (148, Instr.if_icmp .ne 7, 3, 0, 155, 0, []), (151, Instr.iconst 1, 1, 1, 0, 0, []), (152, Instr.goto 4, 3, 0, 156, 0, []), (155, Instr.iconst 0, 1, 0, 0, 0, []), (156, Instr.invokestatic 33, 3, 0, 85, 3, [628, 629, 69, 630]), (159, Instr.istore 8, 2, 0, 0, 0, []), (161, Instr.lconst 0, 1, 0, 0, 0, []), (162, Instr.lstore 6, 2, 0, 0, 0, []), (164, Instr.iinc 9 1, 3, 0, 0, 0, []), (167, Instr.iinc 12 1, 3, 0, 0, 0, []), (170, Instr.goto (-92), 3, 0, 78, 0, []), (173, Instr.lload 6, 2, 0, 0, 0, []), (175, Instr.lconst 1, 1, 1, 0, 0, []), (176, Instr.ladd, 1, 0, 0, 0, []), (177, Instr.lstore 6, 2, 0, 0, 0, []), (179, Instr.iinc 5 1, 3, 0, 0, 0, []), (182, Instr.iinc 10 1, 3, 0, 0, 0, []), (185, Instr.goto (-167), 3, 0, 18, 0, []), (188, Instr.iconst (-1), 1, (-1), 0, 0, []), (189, Instr.ireturn, 1, 0, 0, 0, [])]
def mm_T81 : List (Nat × mm_I) := [(0, Instr.ldc 39, 2, 1114111, 0, 0, [617]), (2, Instr.istore 4, 2, 0, 0, 0, []), (4, Instr.iload_n 1, 1, 0, 0, 0, []), (5, Instr.istore 5, 2, 0, 0, 0, []), (7, Instr.iload 5, 2, 0, 0, 0, []), (9, Instr.iload_n 2, 1, 0, 0, 0, []), (10, Instr.if_icmp .ge 38, 3, 0, 48, 0, []), (13, Instr.aload_n 0, 1, 0, 0, 0, []), (14, Instr.iload 5, 2, 0, 0, 0, []), (16, Instr.invokevirtual 7, 3, 7, 17, 1, [609, 350, 351, 57, 352]), (19, Instr.iload_n 3, 1, 0, 0, 0, []), (20, Instr.if_icmp .lt 22, 3, 0, 42, 0, []), (23, Instr.aload_n 0, 1, 0, 0, 0, []), (24, Instr.iload 5, 2, 0, 0, 0, []), (26, Instr.invokevirtual 7, 3, 7, 17, 1, [609, 350, 351, 57, 352]), (29, Instr.iload 4, 2, 0, 0, 0, []), (31, Instr.if_icmp .ge 11, 3, 0, 42, 0, []), (34, Instr.aload_n 0, 1, 0, 0, 0, []), (35, Instr.iload 5, 2, 0, 0, 0, []), (37, Instr.invokevirtual 7, 3, 7, 17, 1, [609, 350, 351, 57, 352]), (40, Instr.istore 4, 2, 0, 0, 0, []), (42, Instr.iinc 5 1, 3, 0, 0, 0, []), (45, Instr.goto (-38), 3, 0, 7, 0, []), (48, Instr.iload 4, 2, 0, 0, 0, []), (50, Instr.ireturn, 1, 0, 0, 0, [])]
def mm_T82 : List (Nat × mm_I) := [(0, Instr.lload_n 0, 1, 0, 0, 0, []), (1, Instr.lstore 4, 2, 0, 0, 0, []), (3, Instr.iconst 1, 1, 1, 0, 0, []), (4, Instr.istore 6, 2, 0, 0, 0, []), (6, Instr.iload 6, 2, 0, 0, 0, []), (8, Instr.bipush 40, 2, 40, 0, 0, []), (10, Instr.if_icmp .gt 85, 3, 0, 95, 0, []), (13, Instr.bipush 36, 2, 36, 0, 0, []), (15, Instr.iload 6, 2, 0, 0, 0, []), (17, Instr.imul, 1, 0, 0, 0, []), (18, Instr.iload_n 2, 1, 0, 0, 0, []), (19, Instr.invokestatic 40, 3, 0, 83, 2, [622, 623, 69, 624]), (22, Instr.istore 7, 2, 0, 0, 0, []), (24, Instr.lload 4, 2, 0, 0, 0, []), (26, Instr.iload 7, 2, 0, 0, 0, []), (28, Instr.i2l, 1, 0, 0, 0, []), (29, Instr.lcmp, 1, 0, 0, 0, []), (30, Instr.ifCond .ge 14, 3, 0, 44, 0, []), (33, Instr.aload_n 3, 1, 0, 0, 0, []), (34, Instr.lload 4, 2, 0, 0, 0, []), (36, Instr.l2i, 1, 0, 0, 0, []), (37, Instr.invokestatic 44, 3, 0, 84, 1, [625, 626, 69, 627]), (40, Instr.invokevirtual 15, 3, 7, 14, 1, [610, 337, 338, 57, 339]), (43, Instr.ireturn, 1, 1, 0, 0, []), (44, Instr.aload_n 3, 1, 0, 0, 0, []), (45, Instr.iload 7, 2, 0, 0, 0, []), (47, Instr.i2l, 1, 0, 0, 0, []), (48, Instr.lload 4, 2, 0, 0, 0, []), (50, Instr.iload 7, 2, 0, 0, 0, []), (52, Instr.i2l, 1, 0, 0, 0, []), (53, Instr.lsub, 1, 0, 0, 0, []), (54, Instr.bipush 36, 2, 36, 0, 0, []), (56, Instr.iload 7, 2, 0, 0, 0, []), (58, Instr.isub, 1, 0, 0, 0, []), (59, Instr.i2l, 1, 0, 0, 0, []), (60, Instr.lrem, 1, 0, 0, 0, []), (61, Instr.ladd, 1, 0, 0, 0, []), (62, Instr.l2i, 1, 0, 0, 0, []), (63, Instr.invokestatic 44, 3, 0, 84, 1, [625, 626, 69, 627]), (66, Instr.invokevirtual 15, 3, 7, 14, 1, [610, 337, 338, 57, 339]), (69, Instr.ifCond .ne 5, 3, 0, 74, 0, []), (72, Instr.iconst 0, 1, 0, 0, 0, []), (73, Instr.ireturn, 1, 1, 0, 0, []), (74, Instr.lload 4, 2, 0, 0, 0, []), (76, Instr.iload 7, 2, 0, 0, 0, []), (78, Instr.i2l, 1, 0, 0, 0, []), (79, Instr.lsub, 1, 0, 0, 0, []), (80, Instr.bipush 36, 2, 36, 0, 0, []), (82, Instr.iload 7, 2, 0, 0, 0, []), (84, Instr.isub, 1, 0, 0, 0, []), (85, Instr.i2l, 1, 0, 0, 0, []), (86, Instr.ldiv, 1, 0, 0, 0, []), (87, Instr.lstore 4, 2, 0, 0, 0, []), (89, Instr.iinc 6 1, 3, 0, 0, 0, []), (92, Instr.goto (-86), 3, 0, 6, 0, []), (95, Instr.iconst 0, 1, 0, 0, 0, []), (96, Instr.ireturn, 1, 1, 0, 0, [])]
def mm_T83 : List (Nat × mm_I) := [(0, Instr.iload_n 0, 1, 0, 0, 0, []), (1, Instr.iload_n 1, 1, 0, 0, 0, []), (2, Instr.isub, 1, 0, 0, 0, []), (3, Instr.iconst 1, 1, 1, 0, 0, []), (4, Instr.if_icmp .ge 7, 3, 0, 11, 0, []), (7, Instr.iconst 1, 1, 1, 0, 0, []), (8, Instr.goto 19, 3, 0, 27, 0, []), (11, Instr.iload_n 0, 1, 0, 0, 0, []), (12, Instr.iload_n 1, 1, 0, 0, 0, []), (13, Instr.isub, 1, 0, 0, 0, []), (14, Instr.bipush 26, 2, 26, 0, 0, []), (16, Instr.if_icmp .le 8, 3, 0, 24, 0, []), (19, Instr.bipush 26, 2, 26, 0, 0, []), (21, Instr.goto 6, 3, 0, 27, 0, []), (24, Instr.iload_n 0, 1, 0, 0, 0, []), (25, Instr.iload_n 1, 1, 0, 0, 0, []), (26, Instr.isub, 1, 0, 0, 0, []), (27, Instr.ireturn, 1, 0, 0, 0, [])]
def mm_T84 : List (Nat × mm_I) := [(0, Instr.iload_n 0, 1, 0, 0, 0, []), (1, Instr.bipush 26, 2, 26, 0, 0, []), (3, Instr.if_icmp .ge 10, 3, 0, 13, 0, []), (6, Instr.bipush 97, 2, 97, 0, 0, []), (8, Instr.iload_n 0, 1, 0, 0, 0, []), (9, Instr.iadd, 1, 0, 0, 0, []), (10, Instr.goto 10, 3, 0, 20, 0, []), (13, Instr.bipush 48, 2, 48, 0, 0, []), (15, Instr.iload_n 0, 1, 0, 0, 0, []), (16, Instr.iadd, 1, 0, 0, 0, []), (17, Instr.bipush 26, 2, 26, 0, 0, []), (19, Instr.isub, 1, 0, 0, 0, []), (20, Instr.ireturn, 1, 0, 0, 0, [])]
def mm_T85 : List (Nat × mm_I) := [(0, Instr.iload_n 3, 1, 0, 0, 0, []), (1, Instr.ifCond .eq 11, 3, 0, 12, 0, []), (4, Instr.lload_n 0, 1, 0, 0, 0, []), (5, Instr.ldc2_w 47, 3, 700, 0, 0, [631]), (8, Instr.ldiv, 1, 0, 0, 0, []), (9, Instr.goto 8, 3, 0, 17, 0, []), (12, Instr.lload_n 0, 1, 0, 0, 0, []), (13, Instr.ldc2_w 49, 3, 2, 0, 0, [632]), (16, Instr.ldiv, 1, 0, 0, 0, []), (17, Instr.lstore 4, 2, 0, 0, 0, []), (19, Instr.lload 4, 2, 0, 0, 0, []), (21, Instr.lload 4, 2, 0, 0, 0, []), (23, Instr.iload_n 2, 1, 0, 0, 0, []), (24, Instr.i2l, 1, 0, 0, 0, []), (25, Instr.ldiv, 1, 0, 0, 0, []), (26, Instr.ladd, 1, 0, 0, 0, []), (27, Instr.lstore 4, 2, 0, 0, 0, []), (29, Instr.iconst 0, 1, 0, 0, 0, []), (30, Instr.istore 6, 2, 0, 0, 0, []), (32, Instr.iconst 0, 1, 0, 0, 0, []), (33, Instr.istore 7, 2, 0, 0, 0, []), (35, Instr.lload 4, 2, 0, 0, 0, []), (37, Instr.ldc2_w 51, 3, 455, 0, 0, [633]), (40, Instr.lcmp, 1, 0, 0, 0, []), (41, Instr.ifCond .le 27, 3, 0, 68, 0, []), (44, Instr.iload 7, 2, 0, 0, 0, []), (46, Instr.bipush 40, 2, 40, 0, 0, []), (48, Instr.if_icmp .ge 20, 3, 0, 68, 0, []), (51, Instr.lload 4, 2, 0, 0, 0, []), (53, Instr.ldc2_w 53, 3, 35, 0, 0, [634]), (56, Instr.ldiv, 1, 0, 0, 0, []), (57, Instr.lstore 4, 2, 0, 0, 0, []), (59, Instr.iinc 6 36, 3, 0, 0, 0, []), (62, Instr.iinc 7 1, 3, 0, 0, 0, []), (65, Instr.goto (-30), 3, 0, 35, 0, []), (68, Instr.iload 6, 2, 0, 0, 0, []), (70, Instr.ldc2_w 55, 3, 36, 0, 0, [635]), (73, Instr.lload 4, 2, 0, 0, 0, []), (75, Instr.lmul, 1, 0, 0, 0, []), (76, Instr.lload 4, 2, 0, 0, 0, []), (78, Instr.ldc2_w 57, 3, 38, 0, 0, [636]), (81, Instr.ladd, 1, 0, 0, 0, []), (82, Instr.ldiv, 1, 0, 0, 0, []), (83, Instr.l2i, 1, 0, 0, 0, []), (84, Instr.iadd, 1, 0, 0, 0, []), (85, Instr.ireturn, 1, 0, 0, 0, [])]
def mm_T86 : List (Nat × mm_I) := [(0, Instr.aload_n 0, 1, 0, 0, 0, []), (1, Instr.getfield 18, 3, 0, 9, 1, [293]), (4, Instr.iconst 0, 1, 0, 0, 0, []), (5, Instr.aload_n 0, 1, 0, 0, 0, []), (6, Instr.getfield 21, 3, 0, 9, 2, [294]), (9, Instr.invokestatic 152, 3, 0, 87, 3, [641, 642, 69, 643]), (12, Instr.istore_n 1, 1, 0, 0, 0, []), (13, Instr.iload_n 1, 1, 0, 0, 0, []), (14, Instr.iconst (-1), 1, (-1), 0, 0, []), (15, Instr.if_icmp .eq 8, 3, 0, 23, 0, []), (18, Instr.bipush (-10), 2, (-10), 0, 0, []), (20, Instr.iload_n 1, 1, 0, 0, 0, []), (21, Instr.isub, 1, 0, 0, 0, []), (22, Instr.ireturn, 1, 0, 0, 0, []), (23, Instr.aload_n 0, 1, 0, 0, 0, []), (24, Instr.getfield 18, 3, 0, 9, 1, [293]), (27, Instr.aload_n 0, 1, 0, 0, 0, []), (28, Instr.getfield 21, 3, 0, 9, 2, [294]), (31, Instr.invokevirtual 101, 3, 7, 23, 1, [369, 370, 371, 57, 372]), (34, Instr.aload_n 0, 1, 0, 0, 0, []), (35, Instr.getfield 18, 3, 0, 9, 1, [293]), (38, Instr.invokevirtual 81, 3, 7, 13, 0, [331, 332, 333, 57, 334]), (41, Instr.ireturn, 1, 0, 0, 0, [])]
def mm_T87 : List (Nat × mm_I) := [(0, Instr.iload_n 1, 1, 0, 0, 0, []), (1, Instr.istore_n 3, 1, 0, 0, 0, []), (2, Instr.iload_n 1, 1, 0, 0, 0, []), (3, Instr.istore 4, 2, 0, 0, 0, []), (5, Instr.iload 4, 2, 0, 0, 0, []), (7, Instr.aload_n 0, 1, 0, 0, 0, []), (8, Instr.invokevirtual 59, 3, 7, 13, 0, [644, 332, 333, 57, 334]), (11, Instr.if_icmp .ge 40, 3, 0, 51, 0, []), (14, Instr.aload_n 0, 1, 0, 0, 0, []), (15, Instr.iload 4, 2, 0, 0, 0, []), (17, Instr.invokevirtual 7, 3, 7, 17, 1, [609, 350, 351, 57, 352]), (20, Instr.sipush 128, 3, 128, 0, 0, []), (23, Instr.if_icmp .lt 8, 3, 0, 31, 0, []), (26, Instr.iload 4, 2, 0, 0, 0, []), (28, Instr.iload_n 1, 1, 0, 0, 0, []), (29, Instr.isub, 1, 0, 0, 0, []), (30, Instr.ireturn, 1, 0, 0, 0, []), (31, Instr.aload_n 0, 1, 0, 0, 0, []), (32, Instr.iload 4, 2, 0, 0, 0, []), (34, Instr.invokevirtual 7, 3, 7, 17, 1, [609, 350, 351, 57, 352]), (37, Instr.bipush 45, 2, 45, 0, 0, []), (39, Instr.if_icmp .ne 6, 3, 0, 45, 0, []), (42, Instr.iload 4, 2, 0, 0, 0, []), (44, Instr.istore_n 3, 1, 0, 0, 0, []), (45, Instr.iinc 4 1, 3, 0, 0, 0, []), (48, Instr.goto (-43), 3, 0, 5, 0, []), (51, Instr.aload_n 2, 1, 0, 0, 0, []), (52, Instr.invokevirtual 63, 3, 7, 12, 0, [645, 328, 329, 57, 330]), (55, Instr.aload_n 2, 1, 0, 0, 0, []), (56, Instr.aload_n 0, 1, 0, 0, 0, []), (57, Instr.iload_n 1, 1, 0, 0, 0, []), (58, Instr.iload_n 3, 1, 0, 0, 0, []), (59, Instr.invokevirtual 66, 3, 7, 24, 3, [646, 376, 377, 57, 378]), (62, Instr.pop, 1, 0, 0, 0, []), (63, Instr.aload_n 0, 1, 0, 0, 0, []), (64, Instr.iload_n 3, 1, 0, 0, 0, []), (65, Instr.iload_n 1, 1, 0, 0, 0, []), (66, Instr.if_icmp .le 9, 3, 0, 75, 0, []), (69, Instr.iload_n 3, 1, 0, 0, 0, []), (70, Instr.iconst 1, 1, 1, 0, 0, []), (71, Instr.iadd, 1, 0, 0, 0, []), (72, Instr.goto 4, 3, 0, 76, 0, []), (75, Instr.iload_n 1, 1, 0, 0, 0, []), (76, Instr.aload_n 2, 1, 0, 0, 0, []), (77, Instr.invokestatic 70, 3, 0, 88, 3, [647, 648, 69, 649]), (80, Instr.istore 4, 2, 0, 0, 0, []), (82, Instr.iload 4, 2, 0, 0, 0, []), (84, Instr.iconst (-1), 1, (-1), 0, 0, []), (85, Instr.if_icmp .ne 7, 3, 0, 92, 0, []), (88, Instr.iconst (-1), 1, (-1), 0, 0, []), (89, Instr.goto 7, 3, 0, 96, 0, []), (92, Instr.iload 4, 2, 0, 0, 0, []), (94, Instr.iload_n 1, 1, 0, 0, 0, []), (95, Instr.isub, 1, 0, 0, 0, []), (96, Instr.ireturn, 1, 0, 0, 0, [])]
def mm_T88 : List (Nat × mm_I) := [(0, Instr.ldc2_w 74, 3, 128, 0, 0, [650]), (3, Instr.lstore_n 3, 1, 0, 0, 0, []), (4, Instr.lconst 0, 1, 0, 0, 0, []), (5, Instr.lstore 5, 2, 0, 0, 0, []), (7, Instr.lconst 0, 1, 0, 0, 0, []), (8, Instr.lstore 7, 2, 0, 0, 0, []), (10, Instr.lconst 1, 1, 1, 0, 0, []), (11, Instr.lstore 9, 2, 0, 0, 0, []), (13, Instr.bipush 36, 2, 36, 0, 0, []), (15, Instr.istore 11, 2, 0, 0, 0, []), (17, Instr.bipush 72, 2, 72, 0, 0, []), (19, Instr.istore 12, 2, 0, 0, 0, []), (21, Instr.iload_n 1, 1, 0, 0, 0, []), (22, Instr.istore 13, 2, 0, 0, 0, []), (24, Instr.iload 13, 2, 0, 0, 0, []), (26, Instr.aload_n 0, 1, 0, 0, 0, []), (27, Instr.invokevirtual 59, 3, 7, 13, 0, [644, 332, 333, 57, 334]), (30, Instr.if_icmp .ge 206, 3, 0, 236, 0, []), (33, Instr.aload_n 0, 1, 0, 0, 0, []), (34, Instr.iload 13, 2, 0, 0, 0, []), (36, Instr.invokevirtual 7, 3, 7, 17, 1, [609, 350, 351, 57, 352]), (39, Instr.invokestatic 76, 3, 0, 89, 1, [651, 652, 69, 653]), (42, Instr.istore 14, 2, 0, 0, 0, []), (44, Instr.iload 14, 2, 0, 0, 0, []), (46, Instr.ifCond .ge 6, 3, 0, 52, 0, []), (49, Instr.iload 13, 2, 0, 0, 0, []), (51, Instr.ireturn, 1, 0, 0, 0, []), (52, Instr.lload 5, 2, 0, 0, 0, []), (54, Instr.iload 14, 2, 0, 0, 0, []), (56, Instr.i2l, 1, 0, 0, 0, []), (57, Instr.lload 9, 2, 0, 0, 0, []), (59, Instr.lmul, 1, 0, 0, 0, []), (60, Instr.ladd, 1, 0, 0, 0, []), (61, Instr.lstore 5, 2, 0, 0, 0, []), (63, Instr.iload 11, 2, 0, 0, 0, []), (65, Instr.iload 12, 2, 0, 0, 0, []), (67, Instr.invokestatic 40, 3, 0, 83, 2, [622, 623, 69, 624]), (70, Instr.istore 15, 2, 0, 0, 0, []), (72, Instr.iload 14, 2, 0, 0, 0, []), (74, Instr.iload 15, 2, 0, 0, 0, []), (76, Instr.if_icmp .lt 7, 3, 0, 83, 0, []), (79, Instr.iconst 1, 1, 1, 0, 0, []), (80, Instr.goto 4, 3, 0, 84, 0, []), (83, Instr.iconst 0, 1, 0, 0, 0, []), (84, Instr.istore 16, 2, 0, 0, 0, []), (86, Instr.iload 16, 2, 0, 0, 0, []), (88, Instr.ifCond .eq 15, 3, 0, 103, 0, []), (91, Instr.lload 9, 2, 0, 0, 0, []), (93, Instr.bipush 36, 2, 36, 0, 0, []), (95, Instr.iload 15, 2, 0, 0, 0, []), (97, Instr.isub, 1, 0, 0, 0, []), (98, Instr.i2l, 1, 0, 0, 0, []), (99, Instr.lmul, 1, 0, 0, 0, []), (100, Instr.goto 4, 3, 0, 104, 0, []), (103, Instr.lconst 1, 1, 1, 0, 0, []), (104, Instr.lstore 9, 2, 0, 0, 0, []), (106, Instr.iload 16, 2, 0, 0, 0, []), (108, Instr.ifCond .eq 11, 3, 0, 119, 0, []), (111, Instr.iload 11, 2, 0, 0, 0, []), (113, Instr.bipush 36, 2, 36, 0, 0, []), (115, Instr.iadd, 1, 0, 0, 0, []), (116, Instr.goto 5, 3, 0, 121, 0, []), (119, Instr.bipush 36, 2, 36, 0, 0, []), (121, Instr.istore 11, 2, 0, 0, 0, []), (123, Instr.lload 5, 2, 0, 0, 0, []), (125, Instr.ldc2_w 27, 3, 2147483647, 0, 0, [618]), (128, Instr.lcmp, 1, 0, 0, 0, []), (129, Instr.ifCond .gt 12, 3, 0, 141, 0, []), (132, Instr.lload 9, 2, 0, 0, 0, []), (134, Instr.ldc2_w 27, 3, 2147483647, 0, 0, [618]), (137, Instr.lcmp, 1, 0, 0, 0, []), (138, Instr.ifCond .le 6, 3, 0, 144, 0, []), (141, Instr.iload 13, 2, 0, 0, 0, []), (143, Instr.ireturn, 1, 0, 0, 0, []), (144, Instr.iload 16, 2, 0, 0, 0, []), (146, Instr.ifCond .ne 84, 3, 0, 230, 0, []), (149, Instr.aload_n 2, 1, 0, 0, 0, []), (150, Instr.invokevirtual 59, 3, 7, 13, 0, [644, 332, 333, 57, 334]), (153, Instr.iconst 1, 1, 1, 0, 0, []), (154, Instr.iadd, 1, 0, 0, 0, []), (155, Instr.istore 17, 2, 0, 0, 0, []), (157, Instr.lload 5, 2, 0, 0, 0, []), (159, Instr.lload 7, 2, 0, 0, 0, []), (161, Instr.lsub, 1, 0, 0, 0, []), (162, Instr.iload 17, 2, 0, 0, 0, []), (164, Instr.lload 7, 2, 0, 0, 0, []), (166, Instr.lconst 0, 1, 0, 0, 0, []), (167, Instr.lcmp, 1, 0, 0, 0, []), (168, Instr.ifCond .ne 7, 3, 0, 175, 0, []), (171, Instr.iconst 1, 1, 1, 0, 0, []), (172, Instr.goto 4, 3, 0, 176, 0, []), (175, Instr.iconst 0, 1, 0, 0, 0, []), (176, Instr.invokestatic 33, 3, 0, 85, 3, [628, 629, 69, 630]), (179, Instr.istore 12, 2, 0, 0, 0, []), (181, Instr.lload_n 3, 1, 0, 0, 0, []), (182, Instr.lload 5, 2, 0, 0, 0, []), (184, Instr.iload 17, 2, 0, 0, 0, []), (186, Instr.i2l, 1, 0, 0, 0, []), (187, Instr.ldiv, 1, 0, 0, 0, []), (188, Instr.ladd, 1, 0, 0, 0, []), (189, Instr.lstore_n 3, 1, 0, 0, 0, []), (190, Instr.lload 5, 2, 0, 0, 0, []), (192, Instr.iload 17, 2, 0, 0, 0, []), (194, Instr.i2l, 1, 0, 0, 0, []), (195, Instr.lrem, 1, 0, 0, 0, []), (196, Instr.lstore 5, 2, 0, 0, 0, []), (198, Instr.lload_n 3, 1, 0, 0, 0, []), (199, Instr.invokestatic 79, 3, 0, 27, 1, [654, 391, 67, 392]), (202, Instr.ifCond .eq 15, 3, 0, 217, 0, []), (205, Instr.aload_n 2, 1, 0, 0, 0, []), (206, Instr.lload 5, 2, 0, 0, 0, []), (208, Instr.l2i, 1, 0, 0, 0, []), (209, Instr.lload_n 3, 1, 0, 0, 0, []), (210, Instr.l2i, 1, 0, 0, 0, []), (211, Instr.invokevirtual 83, 3, 7, 90, 2, [655, 656, 657, 57, 658]), (214, Instr.ifCond .ne 6, 3, 0, 220, 0, []), (217, Instr.iload 13, 2, 0, 0, 0, []), (219, Instr.ireturn, 1, 0, 0, 0, []), (220, Instr.lload 5, 2, 0, 0, 0, []), (222, Instr.lconst 1, 1, 1, 0, 0, []), (223, Instr.ladd, 1, 0, 0, 0, []), (224, Instr.lstore 5, 2, 0, 0, 0, []), (226, Instr.lload 5, 2, 0, 0, 0, []), (228, Instr.lstore 7, 2, 0, 0, 0, []), (230, Instr.iinc 13 1, 3, 0, 0, 0, []), (233, Instr.goto (-209), 3, 0, 24, 0, []), (236, Instr.iload 11, 2, 0, 0, 0, []), (238, Instr.bipush 36, 2, 36, 0, 0, []), (240, Instr.if_icmp .ne 7, 3, 0, 247, 0, []), (243, Instr.iconst (-1), 1, (-1), 0, 0, []), (244, Instr.goto 7, 3, 0, 251, 0, []), (247, Instr.aload_n 0, 1, 0, 0, 0, []), (248, Instr.invokevirtual 59, 3, 7, 13, 0, [644, 332, 333, 57, 334]), (251, Instr.ireturn, 1, 0, 0, 0, [])]
def mm_T89 : List (Nat × mm_I) := [(0, Instr.iload_n 0, 1, 0, 0, 0, []), (1, Instr.bipush 97, 2, 97, 0, 0, []), (3, Instr.if_icmp .lt 14, 3, 0, 17, 0, []), (6, Instr.iload_n 0, 1, 0, 0, 0, []), (7, Instr.bipush 122, 2, 122, 0, 0, []), (9, Instr.if_icmp .gt 8, 3, 0, 17, 0, []), (12, Instr.iload_n 0, 1, 0, 0, 0, []), (13, Instr.bipush 97, 2, 97, 0, 0, []), (15, Instr.isub, 1, 0, 0, 0, []), (16, Instr.ireturn, 1, 0, 0, 0, []), (17, Instr.iload_n 0, 1, 0, 0, 0, []), (18, Instr.bipush 65, 2, 65, 0, 0, []), (20, Instr.if_icmp .lt 14, 3, 0, 34, 0, []), (23, Instr.iload_n 0, 1, 0, 0, 0, []), (24, Instr.bipush 90, 2, 90, 0, 0, []), (26, Instr.if_icmp .gt 8, 3, 0, 34, 0, []), (29, Instr.iload_n 0, 1, 0, 0, 0, []), (30, Instr.bipush 65, 2, 65, 0, 0, []), (32, Instr.isub, 1, 0, 0, 0, []), (33, Instr.ireturn, 1, 0, 0, 0, []), (34, Instr.iload_n 0, 1, 0, 0, 0, []), (35, Instr.bipush 48, 2, 48, 0, 0, []), (37, Instr.if_icmp .lt 19, 3, 0, 56, 0, []), (40, Instr.iload_n 0, 1, 0, 0, 0, []), (41, Instr.bipush 57, 2, 57, 0, 0, []), (43, Instr.if_icmp .gt 13, 3, 0, 56, 0, []), (46, Instr.iload_n 0, 1, 0, 0, 0, []), (47, Instr.bipush 48, 2, 48, 0, 0, []), (49, Instr.isub, 1, 0, 0, 0, []), (50, Instr.bipush 26, 2, 26, 0, 0, []), (52, Instr.iadd, 1, 0, 0, 0, []), (53, Instr.goto 4, 3, 0, 57, 0, []), (56, Instr.iconst (-1), 1, (-1), 0, 0, []), (57, Instr.ireturn, 1, 0, 0, 0, [])]
def mm_T90 : List (Nat × mm_I) := [(0, Instr.aload_n 0, 1, 0, 0, 0, []), (1, Instr.getfield 13, 3, 0, 7, 1, [85]), (4, Instr.aload_n 0, 1, 0, 0, 0, []), (5, Instr.getfield 7, 3, 0, 7, 0, [84]), (8, Instr.arraylength, 1, 0, 0, 0, []), (9, Instr.if_icmp .ge 15, 3, 0, 24, 0, []), (12, Instr.iload_n 1, 1, 0, 0, 0, []), (13, Instr.ifCond .lt 11, 3, 0, 24, 0, []), (16, Instr.iload_n 1, 1, 0, 0, 0, []), (17, Instr.aload_n 0, 1, 0, 0, 0, []), (18, Instr.getfield 13, 3, 0, 7, 1, [85]), (21, Instr.if_icmp .le 5, 3, 0, 26, 0, []), (24, Instr.iconst 0, 1, 0, 0, 0, []), (25, Instr.ireturn, 1, 1, 0, 0, []), (26, Instr.aload_n 0, 1, 0, 0, 0, []), (27, Instr.getfield 13, 3, 0, 7, 1, [85]), (30, Instr.istore_n 3, 1, 0, 0, 0, []), (31, Instr.iload_n 3, 1, 0, 0, 0, []), (32, Instr.iload_n 1, 1, 0, 0, 0, []), (33, Instr.if_icmp .le 23, 3, 0, 56, 0, []), (36, Instr.aload_n 0, 1, 0, 0, 0, []), (37, Instr.getfield 7, 3, 0, 7, 0, [84]), (40, Instr.iload_n 3, 1, 0, 0, 0, []), (41, Instr.aload_n 0, 1, 0, 0, 0, []), (42, Instr.getfield 7, 3, 0, 7, 0, [84]), (45, Instr.iload_n 3, 1, 0, 0, 0, []), (46, Instr.iconst 1, 1, 1, 0, 0, []), (47, Instr.isub, 1, 0, 0, 0, []), (48, Instr.iaload, 1, 0, 0, 0, []), (49, Instr.iastore, 1, 0, 0, 0, []), (50, Instr.iinc 3 (-1), 3, 0, 0, 0, []), (53, Instr.goto (-22), 3, 0, 31, 0, []), (56, Instr.aload_n 0, 1, 0, 0, 0, []), (57, Instr.getfield 7, 3, 0, 7, 0, [84]), (60, Instr.iload_n 1, 1, 0, 0, 0, []), (61, Instr.iload_n 2, 1, 0, 0, 0, []), (62, Instr.iastore, 1, 0, 0, 0, []), (63, Instr.aload_n 0, 1, 0, 0, 0, []), (64, Instr.dup, 1, 0, 0, 0, []), (65, Instr.getfield 13, 3, 0, 7, 1, [85]), (68, Instr.iconst 1, 1, 1, 0, 0, []), (69, Instr.iadd, 1, 0, 0, 0, []), (70, Instr.putfield 13, 3, 1, 7, 1, [85]), (73, Instr.iconst 1, 1, 1, 0, 0, []), (74, Instr.ireturn, 1, 1, 0, 0, [])]
def mm_T91 : List (Nat × mm_I) := [(0, Instr.aload_n 0, 1, 0, 0, 0, []), (1, Instr.getfield 74, 3, 0, 9, 9, [301]), (4, Instr.aload_n 0, 1, 0, 0, 0, []), (5, Instr.getfield 14, 3, 0, 9, 0, [292]), (8, Instr.iload_n 1, 1, 0, 0, 0, []), (9, Instr.invokevirtual 156, 3, 0, 92, 2, [663, 664, 665, 63, 666]), (12, Instr.ifCond .eq 13, 3, 0, 25, 0, []), (15, Instr.aload_n 0, 1, 0, 0, 0, []), (16, Instr.getfield 74, 3, 0, 9, 9, [301]), (19, Instr.invokevirtual 160, 3, 0, 128, 0, [831, 832, 833, 63, 834]), (22, Instr.goto 14, 3, 0, 36, 0, []), (25, Instr.bipush (-10), 2, (-10), 0, 0, []), (27, Instr.aload_n 0, 1, 0, 0, 0, []), (28, Instr.getfield 74, 3, 0, 9, 9, [301]), (31, Instr.iconst 0, 1, 0, 0, 0, []), (32, Instr.invokevirtual 163, 3, 0, 129, 1, [835, 836, 837, 63, 838]), (35, Instr.isub, 1, 0, 0, 0, []), (36, Instr.ireturn, 1, 0, 0, 0, [])]
def mm_T92 : List (Nat × mm_I) := [(0, Instr.aload_n 0, 1, 0, 0, 0, []), (1, Instr.iconst 0, 1, 0, 0, 0, []), (2, Instr.putfield 55, 3, 1, 0, 10, [262]), (5, Instr.aload_n 0, 1, 0, 0, 0, []), (6, Instr.iconst 0, 1, 0, 0, 0, []), (7, Instr.putfield 59, 3, 1, 0, 11, [263]), (10, Instr.aload_n 0, 1, 0, 0, 0, []), (11, Instr.iconst 0, 1, 0, 0, 0, []), (12, Instr.putfield 62, 3, 1, 0, 12, [264]), (15, Instr.aload_n 0, 1, 0, 0, 0, []), (16, Instr.getfield 41, 3, 0, 0, 6, [258]), (19, Instr.invokevirtual 76, 3, 3, 93, 0, [667, 668, 669, 65, 670]), (22, Instr.aload_n 0, 1, 0, 0, 0, []), (23, Instr.getfield 49, 3, 0, 0, 8, [260]), (26, Instr.invokevirtual 79, 3, 7, 12, 0, [672, 328, 329, 57, 330]), (29, Instr.aload_n 0, 1, 0, 0, 0, []), (30, Instr.aload_n 1, 1, 0, 0, 0, []), (31, Instr.invokevirtual 80, 3, 0, 94, 1, [673, 675, 7, 63, 676]), (34, Instr.ifCond .eq 35, 3, 0, 69, 0, []), (37, Instr.aload_n 0, 1, 0, 0, 0, []), (38, Instr.invokevirtual 84, 3, 0, 96, 0, [682, 684, 9, 63, 685]), (41, Instr.ifCond .eq 28, 3, 0, 69, 0, []), (44, Instr.aload_n 0, 1, 0, 0, 0, []), (45, Instr.invokevirtual 88, 3, 0, 98, 0, [695, 697, 10, 63, 698]), (48, Instr.ifCond .eq 21, 3, 0, 69, 0, []), (51, Instr.aload_n 0, 1, 0, 0, 0, []), (52, Instr.invokevirtual 91, 3, 0, 99, 0, [700, 702, 11, 63, 703]), (55, Instr.ifCond .eq 14, 3, 0, 69, 0, []), (58, Instr.aload_n 0, 1, 0, 0, 0, []), (59, Instr.invokevirtual 94, 3, 0, 112, 0, [764, 766, 18, 63, 767]), (62, Instr.ifCond .eq 7, 3, 0, 69, 0, []), (65, Instr.iconst 1, 1, 1, 0, 0, []), (66, Instr.goto 4, 3, 0, 70, 0, []), (69, Instr.iconst 0, 1, 0, 0, 0, []), (70, Instr.istore_n 3, 1, 0, 0, 0, []), (71, Instr.iload_n 3, 1, 0, 0, 0, []), (72, Instr.ifCond .eq 37, 3, 0, 109, 0, []), (75, Instr.iload_n 2, 1, 0, 0, 0, []), (76, Instr.ifCond .eq 13, 3, 0, 89, 0, []), (79, Instr.aload_n 0, 1, 0, 0, 0, []), (80, Instr.invokevirtual 97, 3, 0, 121, 0, [801, 803, 20, 63, 804]), (83, Instr.ifCond .eq 26, 3, 0, 109, 0, []), (86, Instr.goto 10, 3, 0, 96, 0, []), (89, Instr.aload_n 0, 1, 0, 0, 0, []), (90, Instr.invokevirtual 100, 3, 0, 125, 0, [819, 821, 23, 63, 822]), (93, Instr.ifCond .eq 16, 3, 0, 109, 0, []), (96, Instr.aload_n 0, 1, 0, 0, 0, []), (97, Instr.getfield 52, 3, 0, 0, 9, [261]), (100, Instr.aload_n 0, 1, 0, 0, 0, []), (101, Instr.getfield 49, 3, 0, 0, 8, [260]), (104, Instr.invokevirtual 103, 3, 7, 23, 1, [722, 370, 371, 57, 372]), (107, Instr.iconst 1, 1, 1, 0, 0, []), (108, Instr.ireturn, 1, 1, 0, 0, []), (109, Instr.iconst 0, 1, 0, 0, 0, []), (110, Instr.ireturn, 1, 1, 0, 0, [])]
def mm_T93 : List (Nat × mm_I) := [(0, Instr.aload_n 0, 1, 0, 0, 0, []), (1, Instr.getfield 14, 3, 0, 3, 0, [242]), (4, Instr.invokevirtual 28, 3, 7, 12, 0, [671, 328, 329, 57, 330]), (7, Instr.aload_n 0, 1, 0, 0, 0, []), (8, Instr.iconst 0, 1, 0, 0, 0, []), (9, Instr.putfield 24, 3, 1, 3, 2, [244]), (12, Instr.return_, 1, 0, 0, 0, [])]
def mm_T94 : List (Nat × mm_I) := [(0, Instr.aload_n 1, 1, 0, 0, 0, []), (1, Instr.aload_n 0, 1, 0, 0, 0, []), (2, Instr.getfield 28, 3, 0, 0, 3, [255]), (5, Instr.invokestatic 107, 3, 0, 16, 2, [677, 345, 67, 346]), (8, Instr.istore_n 2, 1, 0, 0, 0, []), (9, Instr.iload_n 2, 1, 0, 0, 0, []), (10, Instr.bipush (-2), 2, (-2), 0, 0, []), (12, Instr.if_icmp .ne 14, 3, 0, 26, 0, []), (15, Instr.aload_n 0, 1, 0, 0, 0, []), (16, Instr.bipush 60, 2, 60, 0, 0, []), (18, Instr.iconst 0, 1, 0, 0, 0, []), (19, Instr.sipush 300, 3, 300, 0, 0, []), (22, Instr.invokevirtual 113, 3, 0, 95, 3, [678, 680, 8, 63, 681]), (25, Instr.ireturn, 1, 1, 0, 0, []), (26, Instr.iload_n 2, 1, 0, 0, 0, []), (27, Instr.iconst (-1), 1, (-1), 0, 0, []), (28, Instr.if_icmp .eq 14, 3, 0, 42, 0, []), (31, Instr.aload_n 0, 1, 0, 0, 0, []), (32, Instr.bipush 10, 2, 10, 0, 0, []), (34, Instr.iconst 0, 1, 0, 0, 0, []), (35, Instr.iload_n 2, 1, 0, 0, 0, []), (36, Instr.invokevirtual 113, 3, 0, 95, 3, [678, 680, 8, 63, 681]), (39, Instr.ifCond .eq 7, 3, 0, 46, 0, []), (42, Instr.iconst 1, 1, 1, 0, 0, []), (43, Instr.goto 4, 3, 0, 47, 0, []), (46, Instr.iconst 0, 1, 0, 0, 0, []), (47, Instr.ireturn, 1, 1, 0, 0, [])]
def mm_T95 : List (Nat × mm_I) := [(0, Instr.aload_n 0, 1, 0, 0, 0, []), (1, Instr.iload_n 1, 1, 0, 0, 0, []), (2, Instr.putfield 55, 3, 1, 0, 10, [262]), (5, Instr.aload_n 0, 1, 0, 0, 0, []), (6, Instr.iload_n 2, 1, 0, 0, 0, []), (7, Instr.putfield 59, 3, 1, 0, 11, [263]), (10, Instr.aload_n 0, 1, 0, 0, 0, []), (11, Instr.iload_n 3, 1, 0, 0, 0, []), (12, Instr.putfield 62, 3, 1, 0, 12, [264]), (15, Instr.iconst 0, 1, 0, 0, 0, []), (16, Instr.ireturn, 1, 1, 0, 0, [])]
def mm_T96 : List (Nat × mm_I) := [(0, Instr.aload_n 0, 1, 0, 0, 0, []), (1, Instr.getfield 32, 3, 0, 0, 4, [256]), (4, Instr.invokevirtual 79, 3, 7, 12, 0, [672, 328, 329, 57, 330]), (7, Instr.iconst 0, 1, 0, 0, 0, []), (8, Instr.istore_n 1, 1, 0, 0, 0, []), (9, Instr.iload_n 1, 1, 0, 0, 0, []), (10, Instr.aload_n 0, 1, 0, 0, 0, []), (11, Instr.getfield 28, 3, 0, 0, 3, [255]), (14, Instr.invokevirtual 65, 3, 7, 13, 0, [686, 332, 333, 57, 334]), (17, Instr.if_icmp .ge 94, 3, 0, 111, 0, []), (20, Instr.aload_n 0, 1, 0, 0, 0, []), (21, Instr.getfield 28, 3, 0, 0, 3, [255]), (24, Instr.iload_n 1, 1, 0, 0, 0, []), (25, Instr.invokevirtual 69, 3, 7, 17, 1, [687, 350, 351, 57, 352]), (28, Instr.istore_n 2, 1, 0, 0, 0, []), (29, Instr.aload_n 0, 1, 0, 0, 0, []), (30, Instr.getfield 9, 3, 0, 0, 0, [252]), (33, Instr.iload_n 2, 1, 0, 0, 0, []), (34, Instr.invokevirtual 117, 3, 8, 51, 1, [688, 490, 491, 58, 492]), (37, Instr.istore_n 3, 1, 0, 0, 0, []), (38, Instr.iload_n 3, 1, 0, 0, 0, []), (39, Instr.iconst 3, 1, 3, 0, 0, []), (40, Instr.if_icmp .ne 12, 3, 0, 52, 0, []), (43, Instr.aload_n 0, 1, 0, 0, 0, []), (44, Instr.bipush 20, 2, 20, 0, 0, []), (46, Instr.iconst 0, 1, 0, 0, 0, []), (47, Instr.iload_n 1, 1, 0, 0, 0, []), (48, Instr.invokevirtual 113, 3, 0, 95, 3, [678, 680, 8, 63, 681]), (51, Instr.ireturn, 1, 1, 0, 0, []), (52, Instr.iconst 1, 1, 1, 0, 0, []), (53, Instr.istore 4, 2, 0, 0, 0, []), (55, Instr.iload_n 3, 1, 0, 0, 0, []), (56, Instr.ifCond .ne 16, 3, 0, 72, 0, []), (59, Instr.aload_n 0, 1, 0, 0, 0, []), (60, Instr.getfield 32, 3, 0, 0, 4, [256]), (63, Instr.iload_n 2, 1, 0, 0, 0, []), (64, Instr.invokevirtual 122, 3, 7, 14, 1, [689, 337, 338, 57, 339]), (67, Instr.istore 4, 2, 0, 0, 0, []), (69, Instr.goto 22, 3, 0, 91, 0, []), (72, Instr.iload_n 3, 1, 0, 0, 0, []), (73, Instr.iconst 2, 1, 2, 0, 0, []), (74, Instr.if_icmp .ne 17, 3, 0, 91, 0, []), (77, Instr.aload_n 0, 1, 0, 0, 0, []), (78, Instr.getfield 9, 3, 0, 0, 0, [252]), (81, Instr.iload_n 2, 1, 0, 0, 0, []), (82, Instr.aload_n 0, 1, 0, 0, 0, []), (83, Instr.getfield 32, 3, 0, 0, 4, [256]), (86, Instr.invokevirtual 126, 3, 8, 97, 2, [690, 691, 692, 58, 693]), (89, Instr.istore 4, 2, 0, 0, 0, []), (91, Instr.iload 4, 2, 0, 0, 0, []), (93, Instr.ifCond .ne 12, 3, 0, 105, 0, []), (96, Instr.aload_n 0, 1, 0, 0, 0, []), (97, Instr.bipush 60, 2, 60, 0, 0, []), (99, Instr.iconst 0, 1, 0, 0, 0, []), (100, Instr.iload_n 1, 1, 0, 0, 0, []), (101, Instr.invokevirtual 113, 3, 0, 95, 3, [678, 680, 8, 63, 681]), (104, Instr.ireturn, 1, 1, 0, 0, []), (105, Instr.iinc 1 1, 3, 0, 0, 0, []), (108, Instr.goto (-99), 3, 0, 9, 0, []), (111, Instr.iconst 1, 1, 1, 0, 0, []), (112, Instr.ireturn, 1, 1, 0, 0, [])]
def mm_T97 : List (Nat × mm_I) := [(0, Instr.aload_n 0, 1, 0, 0, 0, []), (1, Instr.iload_n 1, 1, 0, 0, 0, []), (2, Instr.invokevirtual 55, 3, 8, 52, 1, [493, 495, 3, 58, 496]), (5, Instr.istore_n 3, 1, 0, 0, 0, []), (6, Instr.iload_n 3, 1, 0, 0, 0, []), (7, Instr.ifCond .ge 15, 3, 0, 22, 0, []), (10, Instr.aload_n 2, 1, 0, 0, 0, []), (11, Instr.iload_n 1, 1, 0, 0, 0, []), (12, Instr.bipush 65, 2, 65, 0, 0, []), (14, Instr.isub, 1, 0, 0, 0, []), (15, Instr.bipush 97, 2, 97, 0, 0, []), (17, Instr.iadd, 1, 0, 0, 0, []), (18, Instr.invokevirtual 61, 3, 7, 14, 1, [694, 337, 338, 57, 339]), (21, Instr.ireturn, 1, 1, 0, 0, []), (22, Instr.iconst 0, 1, 0, 0, 0, []), (23, Instr.istore 4, 2, 0, 0, 0, []), (25, Instr.iload 4, 2, 0, 0, 0, []), (27, Instr.aload_n 0, 1, 0, 0, 0, []), (28, Instr.getfield 21, 3, 0, 8, 3, [101]), (31, Instr.iload_n 3, 1, 0, 0, 0, []), (32, Instr.iaload, 1, 0, 0, 0, []), (33, Instr.if_icmp .ge 29, 3, 0, 62, 0, []), (36, Instr.aload_n 2, 1, 0, 0, 0, []), (37, Instr.aload_n 0, 1, 0, 0, 0, []), (38, Instr.getfield 24, 3, 0, 8, 4, [102]), (41, Instr.iload_n 3, 1, 0, 0, 0, []), (42, Instr.iconst 4, 1, 4, 0, 0, []), (43, Instr.imul, 1, 0, 0, 0, []), (44, Instr.iload 4, 2, 0, 0, 0, []), (46, Instr.iadd, 1, 0, 0, 0, []), (47, Instr.iaload, 1, 0, 0, 0, []), (48, Instr.invokevirtual 61, 3, 7, 14, 1, [694, 337, 338, 57, 339]), (51, Instr.ifCond .ne 5, 3, 0, 56, 0, []), (54, Instr.iconst 0, 1, 0, 0, 0, []), (55, Instr.ireturn, 1, 1, 0, 0, []), (56, Instr.iinc 4 1, 3, 0, 0, 0, []), (59, Instr.goto (-34), 3, 0, 25, 0, []), (62, Instr.iconst 1, 1, 1, 0, 0, []), (63, Instr.ireturn, 1, 1, 0, 0, [])]
def mm_T98 : List (Nat × mm_I) := [(0, Instr.aload_n 0, 1, 0, 0, 0, []), (1, Instr.getfield 15, 3, 0, 0, 1, [253]), (4, Instr.aload_n 0, 1, 0, 0, 0, []), (5, Instr.getfield 32, 3, 0, 0, 4, [256]), (8, Instr.aload_n 0, 1, 0, 0, 0, []), (9, Instr.getfield 28, 3, 0, 0, 3, [255]), (12, Instr.invokevirtual 130, 3, 1, 69, 2, [699, 567, 568, 62, 569]), (15, Instr.ifCond .ne 14, 3, 0, 29, 0, []), (18, Instr.aload_n 0, 1, 0, 0, 0, []), (19, Instr.bipush 60, 2, 60, 0, 0, []), (21, Instr.iconst 0, 1, 0, 0, 0, []), (22, Instr.iconst 0, 1, 0, 0, 0, []), (23, Instr.invokevirtual 113, 3, 0, 95, 3, [678, 680, 8, 63, 681]), (26, Instr.ifCond .eq 7, 3, 0, 33, 0, []), (29, Instr.iconst 1, 1, 1, 0, 0, []), (30, Instr.goto 4, 3, 0, 34, 0, []), (33, Instr.iconst 0, 1, 0, 0, 0, []), (34, Instr.ireturn, 1, 1, 0, 0, [])]
def mm_T99 : List (Nat × mm_I) := [(0, Instr.iconst 0, 1, 0, 0, 0, []), (1, Instr.istore_n 1, 1, 0, 0, 0, []), (2, Instr.iconst 0, 1, 0, 0, 0, []), (3, Instr.istore_n 2, 1, 0, 0, 0, []), (4, Instr.iload_n 2, 1, 0, 0, 0, []), (5, Instr.aload_n 0, 1, 0, 0, 0, []), (6, Instr.getfield 28, 3, 0, 0, 3, [255]), (9, Instr.invokevirtual 65, 3, 7, 13, 0, [686, 332, 333, 57, 334]), (12, Instr.if_icmp .gt 95, 3, 0, 107, 0, []), (15, Instr.iload_n 2, 1, 0, 0, 0, []), (16, Instr.aload_n 0, 1, 0, 0, 0, []), (17, Instr.getfield 28, 3, 0, 0, 3, [255]), (20, Instr.invokevirtual 65, 3, 7, 13, 0, [686, 332, 333, 57, 334]), (23, Instr.if_icmp .eq 16, 3, 0, 39, 0, []), (26, Instr.aload_n 0, 1, 0, 0, 0, []), (27, Instr.getfield 28, 3, 0, 0, 3, [255]), (30, Instr.iload_n 2, 1, 0, 0, 0, []), (31, Instr.invokevirtual 69, 3, 7, 17, 1, [687, 350, 351, 57, 352]), (34, Instr.bipush 46, 2, 46, 0, 0, []), (36, Instr.if_icmp .ne 65, 3, 0, 101, 0, []), (39, Instr.aload_n 0, 1, 0, 0, 0, []), (40, Instr.getfield 35, 3, 0, 0, 5, [257]), (43, Instr.invokevirtual 79, 3, 7, 12, 0, [672, 328, 329, 57, 330]), (46, Instr.aload_n 0, 1, 0, 0, 0, []), (47, Instr.getfield 35, 3, 0, 0, 5, [257]), (50, Instr.aload_n 0, 1, 0, 0, 0, []), (51, Instr.getfield 28, 3, 0, 0, 3, [255]), (54, Instr.iload_n 1, 1, 0, 0, 0, []), (55, Instr.iload_n 2, 1, 0, 0, 0, []), (56, Instr.invokevirtual 136, 3, 7, 24, 3, [704, 376, 377, 57, 378]), (59, Instr.pop, 1, 0, 0, 0, []), (60, Instr.aload_n 0, 1, 0, 0, 0, []), (61, Instr.getfield 35, 3, 0, 0, 5, [257]), (64, Instr.invokevirtual 65, 3, 7, 13, 0, [686, 332, 333, 57, 334]), (67, Instr.ifCond .le 19, 3, 0, 86, 0, []), (70, Instr.aload_n 0, 1, 0, 0, 0, []), (71, Instr.invokevirtual 140, 3, 0, 100, 0, [705, 707, 12, 63, 708]), (74, Instr.ifCond .eq 10, 3, 0, 84, 0, []), (77, Instr.aload_n 0, 1, 0, 0, 0, []), (78, Instr.invokevirtual 143, 3, 0, 104, 0, [724, 726, 14, 63, 727]), (81, Instr.ifCond .ne 5, 3, 0, 86, 0, []), (84, Instr.iconst 0, 1, 0, 0, 0, []), (85, Instr.ireturn, 1, 1, 0, 0, []), (86, Instr.aload_n 0, 1, 0, 0, 0, []), (87, Instr.getfield 41, 3, 0, 0, 6, [258]), (90, Instr.aload_n 0, 1, 0, 0, 0, []), (91, Instr.getfield 35, 3, 0, 0, 5, [257]), (94, Instr.invokevirtual 146, 3, 3, 111, 1, [758, 759, 760, 65, 761]), (97, Instr.iload_n 2, 1, 0, 0, 0, []), (98, Instr.iconst 1, 1, 1, 0, 0, []), (99, Instr.iadd, 1, 0, 0, 0, []), (100, Instr.istore_n 1, 1, 0, 0, 0, []), (101, Instr.iinc 2 1, 3, 0, 0, 0, []), (104, Instr.goto (-100), 3, 0, 4, 0, []), (107, Instr.iconst 1, 1, 1, 0, 0, []), (108, Instr.ireturn, 1, 1, 0, 0, [])]
def mm_T100 : List (Nat × mm_I) := [(0, Instr.aload_n 0, 1, 0, 0, 0, []), (1, Instr.invokevirtual 157, 3, 0, 101, 0, [709, 711, 13, 63, 712]), (4, Instr.ifCond .ne 5, 3, 0, 9, 0, []), (7, Instr.iconst 1, 1, 1, 0, 0, []), (8, Instr.ireturn, 1, 1, 0, 0, []), (9, Instr.aload_n 0, 1, 0, 0, 0, []), (10, Instr.getfield 41, 3, 0, 0, 6, [258]), (13, Instr.invokevirtual 73, 3, 3, 102, 0, [713, 714, 715, 65, 716]), (16, Instr.istore_n 1, 1, 0, 0, 0, []), (17, Instr.aload_n 0, 1, 0, 0, 0, []), (18, Instr.getfield 35, 3, 0, 0, 5, [257]), (21, Instr.iconst 4, 1, 4, 0, 0, []), (22, Instr.aload_n 0, 1, 0, 0, 0, []), (23, Instr.getfield 32, 3, 0, 0, 4, [256]), (26, Instr.invokestatic 160, 3, 0, 87, 3, [717, 642, 69, 643]), (29, Instr.istore_n 2, 1, 0, 0, 0, []), (30, Instr.iload_n 2, 1, 0, 0, 0, []), (31, Instr.iconst (-1), 1, (-1), 0, 0, []), (32, Instr.if_icmp .eq 14, 3, 0, 46, 0, []), (35, Instr.aload_n 0, 1, 0, 0, 0, []), (36, Instr.bipush 30, 2, 30, 0, 0, []), (38, Instr.iload_n 1, 1, 0, 0, 0, []), (39, Instr.iconst 4, 1, 4, 0, 0, []), (40, Instr.iload_n 2, 1, 0, 0, 0, []), (41, Instr.iadd, 1, 0, 0, 0, []), (42, Instr.invokevirtual 113, 3, 0, 95, 3, [678, 680, 8, 63, 681]), (45, Instr.ireturn, 1, 1, 0, 0, []), (46, Instr.aload_n 0, 1, 0, 0, 0, []), (47, Instr.getfield 32, 3, 0, 0, 4, [256]), (50, Instr.iconst 0, 1, 0, 0, 0, []), (51, Instr.aload_n 0, 1, 0, 0, 0, []), (52, Instr.getfield 32, 3, 0, 0, 4, [256]), (55, Instr.invokevirtual 65, 3, 7, 13, 0, [686, 332, 333, 57, 334]), (58, Instr.invokestatic 166, 3, 0, 103, 3, [718, 719, 65, 720]), (61, Instr.ifCond .ne 12, 3, 0, 73, 0, []), (64, Instr.aload_n 0, 1, 0, 0, 0, []), (65, Instr.bipush 32, 2, 32, 0, 0, []), (67, Instr.iload_n 1, 1, 0, 0, 0, []), (68, Instr.iconst 0, 1, 0, 0, 0, []), (69, Instr.invokevirtual 113, 3, 0, 95, 3, [678, 680, 8, 63, 681]), (72, Instr.ireturn, 1, 1, 0, 0, []), (73, Instr.aload_n 0, 1, 0, 0, 0, []), (74, Instr.getfield 35, 3, 0, 0, 5, [257]), (77, Instr.aload_n 0, 1, 0, 0, 0, []), (78, Instr.getfield 32, 3, 0, 0, 4, [256]), (81, Instr.invokevirtual 103, 3, 7, 23, 1, [722, 370, 371, 57, 372]), (84, Instr.aload_n 0, 1, 0, 0, 0, []), (85, Instr.getfield 15, 3, 0, 0, 1, [253]), (88, Instr.aload_n 0, 1, 0, 0, 0, []), (89, Instr.getfield 35, 3, 0, 0, 5, [257]), (92, Instr.aload_n 0, 1, 0, 0, 0, []), (93, Instr.getfield 32, 3, 0, 0, 4, [256]), (96, Instr.invokevirtual 130, 3, 1, 69, 2, [699, 567, 568, 62, 569]), (99, Instr.ifCond .ne 12, 3, 0, 111, 0, []), (102, Instr.aload_n 0, 1, 0, 0, 0, []), (103, Instr.bipush 60, 2, 60, 0, 0, []), (105, Instr.iload_n 1, 1, 0, 0, 0, []), (106, Instr.iconst 0, 1, 0, 0, 0, []), (107, Instr.invokevirtual 113, 3, 0, 95, 3, [678, 680, 8, 63, 681]), (110, Instr.ireturn, 1, 1, 0, 0, []), (111, Instr.aload_n 0, 1, 0, 0, 0, []), (112, Instr.getfield 35, 3, 0, 0, 5, [257]), (115, Instr.aload_n 0, 1, 0, 0, 0, []), (116, Instr.getfield 32, 3, 0, 0, 4, [256]), (119, Instr.invokevirtual 169, 3, 7, 75, 1, [723, 592, 593, 57, 594]), (122, Instr.istore_n 3, 1, 0, 0, 0, []), (123, Instr.iload_n 3, 1, 0, 0, 0, []), (124, Instr.ifCond .lt 14, 3, 0, 138, 0, []), (127, Instr.aload_n 0, 1, 0, 0, 0, []), (128, Instr.bipush 40, 2, 40, 0, 0, []), (130, Instr.iload_n 1, 1, 0, 0, 0, []), (131, Instr.iload_n 3, 1, 0, 0, 0, []), (132, Instr.invokevirtual 113, 3, 0, 95, 3, [678, 680, 8, 63, 681]), (135, Instr.ifCond .eq 7, 3, 0, 142, 0, []), (138, Instr.iconst 1, 1, 1, 0, 0, []), (139, Instr.goto 4, 3, 0, 143, 0, []), (142, Instr.iconst 0, 1, 0, 0, 0, []), (143, Instr.ireturn, 1, 1, 0, 0, [])]
def mm_T101 : List (Nat × mm_I) := [(0, Instr.aload_n 0, 1, 0, 0, 0, []), (1, Instr.getfield 35, 3, 0, 0, 5, [257]), (4, Instr.iconst 0, 1, 0, 0, 0, []), (5, Instr.invokevirtual 69, 3, 7, 17, 1, [687, 350, 351, 57, 352]), (8, Instr.bipush 120, 2, 120, 0, 0, []), (10, Instr.if_icmp .ne 46, 3, 0, 56, 0, []), (13, Instr.aload_n 0, 1, 0, 0, 0, []), (14, Instr.getfield 35, 3, 0, 0, 5, [257]), (17, Instr.iconst 1, 1, 1, 0, 0, []), (18, Instr.invokevirtual 69, 3, 7, 17, 1, [687, 350, 351, 57, 352]), (21, Instr.bipush 110, 2, 110, 0, 0, []), (23, Instr.if_icmp .ne 33, 3, 0, 56, 0, []), (26, Instr.aload_n 0, 1, 0, 0, 0, []), (27, Instr.getfield 35, 3, 0, 0, 5, [257]), (30, Instr.iconst 2, 1, 2, 0, 0, []), (31, Instr.invokevirtual 69, 3, 7, 17, 1, [687, 350, 351, 57, 352]), (34, Instr.bipush 45, 2, 45, 0, 0, []), (36, Instr.if_icmp .ne 20, 3, 0, 56, 0, []), (39, Instr.aload_n 0, 1, 0, 0, 0, []), (40, Instr.getfield 35, 3, 0, 0, 5, [257]), (43, Instr.iconst 3, 1, 3, 0, 0, []), (44, Instr.invokevirtual 69, 3, 7, 17, 1, [687, 350, 351, 57, 352]), (47, Instr.bipush 45, 2, 45, 0, 0, []), (49, Instr.if_icmp .ne 7, 3, 0, 56, 0, []), (52, Instr.iconst 1, 1, 1, 0, 0, []), (53, Instr.goto 4, 3, 0, 57, 0, []), (56, Instr.iconst 0, 1, 0, 0, 0, []), (57, Instr.ireturn, 1, 1, 0, 0, [])]
def mm_T102 : List (Nat × mm_I) := [(0, Instr.aload_n 0, 1, 0, 0, 0, []), (1, Instr.getfield 24, 3, 0, 3, 2, [244]), (4, Instr.ireturn, 1, 0, 0, 0, [])]
def mm_T103 : List (Nat × mm_I) := [(0, Instr.iload_n 1, 1, 0, 0, 0, []), (1, Instr.istore_n 3, 1, 0, 0, 0, []), (2, Instr.iload_n 3, 1, 0, 0, 0, []), (3, Instr.iload_n 2, 1, 0, 0, 0, []), (4, Instr.if_icmp .ge 21, 3, 0, 25, 0, []), (7, Instr.aload_n 0, 1, 0, 0, 0, []), (8, Instr.iload_n 3, 1, 0, 0, 0, []), (9, Instr.invokevirtual 49, 3, 7, 17, 1, [721, 350, 351, 57, 352]), (12, Instr.bipush 127, 2, 127, 0, 0, []), (14, Instr.if_icmp .le 5, 3, 0, 19, 0, []), (17, Instr.iconst 1, 1, 1, 0, 0, []), (18, Instr.ireturn, 1, 1, 0, 0, []), (19, Instr.iinc 3 1, 3, 0, 0, 0, []), (22, Instr.goto (-20), 3, 0, 2, 0, []), (25, Instr.iconst 0, 1, 0, 0, 0, []), (26, Instr.ireturn, 1, 1, 0, 0, [])]
def mm_T104 : List (Nat × mm_I) := [(0, Instr.aload_n 0, 1, 0, 0, 0, []), (1, Instr.getfield 19, 3, 0, 0, 2, [254]), (4, Instr.aload_n 0, 1, 0, 0, 0, []), (5, Instr.getfield 35, 3, 0, 0, 5, [257]), (8, Instr.invokevirtual 148, 3, 2, 105, 1, [728, 729, 730, 64, 731]), (11, Instr.istore_n 1, 1, 0, 0, 0, []), (12, Instr.iload_n 1, 1, 0, 0, 0, []), (13, Instr.ifCond .eq 25, 3, 0, 38, 0, []), (16, Instr.aload_n 0, 1, 0, 0, 0, []), (17, Instr.iload_n 1, 1, 0, 0, 0, []), (18, Instr.aload_n 0, 1, 0, 0, 0, []), (19, Instr.getfield 41, 3, 0, 0, 6, [258]), (22, Instr.invokevirtual 73, 3, 3, 102, 0, [713, 714, 715, 65, 716]), (25, Instr.aload_n 0, 1, 0, 0, 0, []), (26, Instr.getfield 19, 3, 0, 0, 2, [254]), (29, Instr.invokevirtual 154, 3, 2, 110, 0, [754, 755, 756, 64, 757]), (32, Instr.invokevirtual 113, 3, 0, 95, 3, [678, 680, 8, 63, 681]), (35, Instr.ifCond .eq 7, 3, 0, 42, 0, []), (38, Instr.iconst 1, 1, 1, 0, 0, []), (39, Instr.goto 4, 3, 0, 43, 0, []), (42, Instr.iconst 0, 1, 0, 0, 0, []), (43, Instr.ireturn, 1, 1, 0, 0, [])]
def mm_T105 : List (Nat × mm_I) := [(0, Instr.aload_n 1, 1, 0, 0, 0, []), (1, Instr.invokevirtual 39, 3, 7, 13, 0, [732, 332, 333, 57, 334]), (4, Instr.iconst 1, 1, 1, 0, 0, []), (5, Instr.isub, 1, 0, 0, 0, []), (6, Instr.istore_n 2, 1, 0, 0, 0, []), (7, Instr.aload_n 1, 1, 0, 0, 0, []), (8, Instr.iconst 2, 1, 2, 0, 0, []), (9, Instr.invokevirtual 43, 3, 7, 17, 1, [733, 350, 351, 57, 352]), (12, Instr.bipush 45, 2, 45, 0, 0, []), (14, Instr.if_icmp .ne 21, 3, 0, 35, 0, []), (17, Instr.aload_n 1, 1, 0, 0, 0, []), (18, Instr.iconst 3, 1, 3, 0, 0, []), (19, Instr.invokevirtual 43, 3, 7, 17, 1, [733, 350, 351, 57, 352]), (22, Instr.bipush 45, 2, 45, 0, 0, []), (24, Instr.if_icmp .ne 11, 3, 0, 35, 0, []), (27, Instr.aload_n 0, 1, 0, 0, 0, []), (28, Instr.bipush 41, 2, 41, 0, 0, []), (30, Instr.iconst 2, 1, 2, 0, 0, []), (31, Instr.invokevirtual 47, 3, 2, 106, 2, [734, 736, 15, 64, 737]), (34, Instr.ireturn, 1, 0, 0, 0, []), (35, Instr.aload_n 1, 1, 0, 0, 0, []), (36, Instr.iconst 0, 1, 0, 0, 0, []), (37, Instr.invokevirtual 43, 3, 7, 17, 1, [733, 350, 351, 57, 352]), (40, Instr.bipush 45, 2, 45, 0, 0, []), (42, Instr.if_icmp .ne 11, 3, 0, 53, 0, []), (45, Instr.aload_n 0, 1, 0, 0, 0, []), (46, Instr.bipush 42, 2, 42, 0, 0, []), (48, Instr.iconst 0, 1, 0, 0, 0, []), (49, Instr.invokevirtual 47, 3, 2, 106, 2, [734, 736, 15, 64, 737]), (52, Instr.ireturn, 1, 0, 0, 0, []), (53, Instr.aload_n 1, 1, 0, 0, 0, []), (54, Instr.iload_n 2, 1, 0, 0, 0, []), (55, Instr.invokevirtual 43, 3, 7, 17, 1, [733, 350, 351, 57, 352]), (58, Instr.bipush 45, 2, 45, 0, 0, []), (60, Instr.if_icmp .ne 11, 3, 0, 71, 0, []), (63, Instr.aload_n 0, 1, 0, 0, 0, []), (64, Instr.bipush 42, 2, 42, 0, 0, []), (66, Instr.iload_n 2, 1, 0, 0, 0, []), (67, Instr.invokevirtual 47, 3, 2, 106, 2, [734, 736, 15, 64, 737]), (70, Instr.ireturn, 1, 0, 0, 0, []), (71, Instr.aload_n 0, 1, 0, 0, 0, []), (72, Instr.getfield 19, 3, 0, 2, 2, [211]), (75, Instr.iconst 0, 1, 0, 0, 0, []), (76, Instr.aload_n 1, 1, 0, 0, 0, []), (77, Instr.iconst 0, 1, 0, 0, 0, []), (78, Instr.invokevirtual 43, 3, 7, 17, 1, [733, 350, 351, 57, 352]), (81, Instr.invokevirtual 53, 3, 5, 55, 2, [738, 505, 506, 61, 507]), (84, Instr.iconst 1, 1, 1, 0, 0, []), (85, Instr.if_icmp .ne 11, 3, 0, 96, 0, []), (88, Instr.aload_n 0, 1, 0, 0, 0, []), (89, Instr.bipush 43, 2, 43, 0, 0, []), (91, Instr.iconst 0, 1, 0, 0, 0, []), (92, Instr.invokevirtual 47, 3, 2, 106, 2, [734, 736, 15, 64, 737]), (95, Instr.ireturn, 1, 0, 0, 0, []), (96, Instr.iconst 0, 1, 0, 0, 0, []), (97, Instr.istore_n 3, 1, 0, 0, 0, []), (98, Instr.iload_n 3, 1, 0, 0, 0, []), (99, Instr.iload_n 2, 1, 0, 0, 0, []), (100, Instr.if_icmp .gt 42, 3, 0, 142, 0, []), (103, Instr.aload_n 1, 1, 0, 0, 0, []), (104, Instr.iload_n 3, 1, 0, 0, 0, []), (105, Instr.invokevirtual 43, 3, 7, 17, 1, [733, 350, 351, 57, 352]), (108, Instr.bipush 46, 2, 46, 0, 0, []), (110, Instr.if_icmp .eq 18, 3, 0, 128, 0, []), (113, Instr.aload_n 0, 1, 0, 0, 0, []), (114, Instr.getfield 9, 3, 0, 2, 0, [209]), (117, Instr.aload_n 1, 1, 0, 0, 0, []), (118, Instr.iload_n 3, 1, 0, 0, 0, []), (119, Instr.invokevirtual 43, 3, 7, 17, 1, [733, 350, 351, 57, 352]), (122, Instr.invokevirtual 56, 3, 8, 51, 1, [739, 490, 491, 58, 492]), (125, Instr.ifCond .eq 11, 3, 0, 136, 0, []), (128, Instr.aload_n 0, 1, 0, 0, 0, []), (129, Instr.bipush 44, 2, 44, 0, 0, []), (131, Instr.iload_n 3, 1, 0, 0, 0, []), (132, Instr.invokevirtual 47, 3, 2, 106, 2, [734, 736, 15, 64, 737]), (135, Instr.ireturn, 1, 0, 0, 0, []), (136, Instr.iinc 3 1, 3, 0, 0, 0, []), (139, Instr.goto (-41), 3, 0, 98, 0, []), (142, Instr.aload_n 0, 1, 0, 0, 0, []), (143, Instr.aload_n 1, 1, 0, 0, 0, []), (144, Instr.invokevirtual 60, 3, 2, 107, 1, [740, 742, 16, 64, 743]), (147, Instr.ireturn, 1, 0, 0, 0, [])]
def mm_T106 : List (Nat × mm_I) := [(0, Instr.aload_n 0, 1, 0, 0, 0, []), (1, Instr.iload_n 2, 1, 0, 0, 0, []), (2, Instr.putfield 35, 3, 1, 2, 5, [214]), (5, Instr.iload_n 1, 1, 0, 0, 0, []), (6, Instr.ireturn, 1, 0, 0, 0, [])]
def mm_T107 : List (Nat × mm_I) := [(0, Instr.aload_n 0, 1, 0, 0, 0, []), (1, Instr.getfield 28, 3, 0, 2, 3, [212]), (4, Instr.invokevirtual 64, 3, 7, 12, 0, [744, 328, 329, 57, 330]), (7, Instr.iconst 0, 1, 0, 0, 0, []), (8, Instr.istore_n 2, 1, 0, 0, 0, []), (9, Instr.iload_n 2, 1, 0, 0, 0, []), (10, Instr.aload_n 1, 1, 0, 0, 0, []), (11, Instr.invokevirtual 39, 3, 7, 13, 0, [732, 332, 333, 57, 334]), (14, Instr.if_icmp .ge 129, 3, 0, 143, 0, []), (17, Instr.aload_n 1, 1, 0, 0, 0, []), (18, Instr.iload_n 2, 1, 0, 0, 0, []), (19, Instr.invokevirtual 43, 3, 7, 17, 1, [733, 350, 351, 57, 352]), (22, Instr.istore_n 3, 1, 0, 0, 0, []), (23, Instr.iload_n 3, 1, 0, 0, 0, []), (24, Instr.sipush 8204, 3, 8204, 0, 0, []), (27, Instr.if_icmp .eq 10, 3, 0, 37, 0, []), (30, Instr.iload_n 3, 1, 0, 0, 0, []), (31, Instr.sipush 8205, 3, 8205, 0, 0, []), (34, Instr.if_icmp .ne 7, 3, 0, 41, 0, []), (37, Instr.iconst 1, 1, 1, 0, 0, []), (38, Instr.goto 4, 3, 0, 42, 0, []), (41, Instr.iconst 0, 1, 0, 0, 0, []), (42, Instr.istore 4, 2, 0, 0, 0, []), (44, Instr.iload 4, 2, 0, 0, 0, []), (46, Instr.ifCond .eq 91, 3, 0, 137, 0, []), (49, Instr.aload_n 0, 1, 0, 0, 0, []), (50, Instr.getfield 15, 3, 0, 2, 1, [210]), (53, Instr.aload_n 1, 1, 0, 0, 0, []), (54, Instr.iload_n 2, 1, 0, 0, 0, []), (55, Instr.iconst 1, 1, 1, 0, 0, []), (56, Instr.isub, 1, 0, 0, 0, []), (57, Instr.invokevirtual 43, 3, 7, 17, 1, [733, 350, 351, 57, 352]), (60, Instr.invokevirtual 67, 3, 6, 54, 1, [745, 501, 502, 60, 503]), (63, Instr.bipush 9, 2, 9, 0, 0, []), (65, Instr.if_icmp .eq 72, 3, 0, 137, 0, []), (68, Instr.aload_n 0, 1, 0, 0, 0, []), (69, Instr.getfield 28, 3, 0, 2, 3, [212]), (72, Instr.invokevirtual 39, 3, 7, 13, 0, [732, 332, 333, 57, 334]), (75, Instr.istore 5, 2, 0, 0, 0, []), (77, Instr.iload 5, 2, 0, 0, 0, []), (79, Instr.aload_n 1, 1, 0, 0, 0, []), (80, Instr.invokevirtual 39, 3, 7, 13, 0, [732, 332, 333, 57, 334]), (83, Instr.if_icmp .ge 31, 3, 0, 114, 0, []), (86, Instr.aload_n 0, 1, 0, 0, 0, []), (87, Instr.getfield 28, 3, 0, 2, 3, [212]), (90, Instr.aload_n 0, 1, 0, 0, 0, []), (91, Instr.getfield 19, 3, 0, 2, 2, [211]), (94, Instr.iconst 2, 1, 2, 0, 0, []), (95, Instr.aload_n 1, 1, 0, 0, 0, []), (96, Instr.iload 5, 2, 0, 0, 0, []), (98, Instr.invokevirtual 43, 3, 7, 17, 1, [733, 350, 351, 57, 352]), (101, Instr.invokevirtual 53, 3, 5, 55, 2, [738, 505, 506, 61, 507]), (104, Instr.invokevirtual 70, 3, 7, 14, 1, [746, 337, 338, 57, 339]), (107, Instr.pop, 1, 0, 0, 0, []), (108, Instr.iinc 5 1, 3, 0, 0, 0, []), (111, Instr.goto (-34), 3, 0, 77, 0, []), (114, Instr.iload_n 3, 1, 0, 0, 0, []), (115, Instr.sipush 8205, 3, 8205, 0, 0, []), (118, Instr.if_icmp .eq 11, 3, 0, 129, 0, []), (121, Instr.aload_n 0, 1, 0, 0, 0, []), (122, Instr.iload_n 2, 1, 0, 0, 0, []), (123, Instr.invokevirtual 74, 3, 2, 108, 1, [747, 749, 17, 64, 750]), (126, Instr.ifCond .ne 11, 3, 0, 137, 0, []), (129, Instr.aload_n 0, 1, 0, 0, 0, []), (130, Instr.bipush 45, 2, 45, 0, 0, []), (132, Instr.iload_n 2, 1, 0, 0, 0, []), (133, Instr.invokevirtual 47, 3, 2, 106, 2, [734, 736, 15, 64, 737]), (136, Instr.ireturn, 1, 0, 0, 0, []), (137, Instr.iinc 2 1, 3, 0, 0, 0, []), (140, Instr.goto (-131), 3, 0, 9, 0, []), (143, Instr.iconst 0, 1, 0, 0, 0, []), (144, Instr.ireturn, 1, 0, 0, 0, [])]
def mm_T108 : List (Nat × mm_I) := [(0, Instr.iload_n 1, 1, 0, 0, 0, []), (1, Instr.iconst 1, 1, 1, 0, 0, []), (2, Instr.isub, 1, 0, 0, 0, []), (3, Instr.istore_n 2, 1, 0, 0, 0, []), (4, Instr.iload_n 2, 1, 0, 0, 0, []), (5, Instr.ifCond .lt 21, 3, 0, 26, 0, []), (8, Instr.aload_n 0, 1, 0, 0, 0, []), (9, Instr.getfield 28, 3, 0, 2, 3, [212]), (12, Instr.iload_n 2, 1, 0, 0, 0, []), (13, Instr.invokevirtual 43, 3, 7, 17, 1, [733, 350, 351, 57, 352]), (16, Instr.iconst 4, 1, 4, 0, 0, []), (17, Instr.if_icmp .ne 9, 3, 0, 26, 0, []), (20, Instr.iinc 2 (-1), 3, 0, 0, 0, []), (23, Instr.goto (-19), 3, 0, 4, 0, []), (26, Instr.iload_n 1, 1, 0, 0, 0, []), (27, Instr.iconst 1, 1, 1, 0, 0, []), (28, Instr.iadd, 1, 0, 0, 0, []), (29, Instr.istore_n 3, 1, 0, 0, 0, []), (30, Instr.iload_n 3, 1, 0, 0, 0, []), (31, Instr.aload_n 0, 1, 0, 0, 0, []), (32, Instr.getfield 28, 3, 0, 2, 3, [212]), (35, Instr.invokevirtual 39, 3, 7, 13, 0, [732, 332, 333, 57, 334]), (38, Instr.if_icmp .ge 21, 3, 0, 59, 0, []), (41, Instr.aload_n 0, 1, 0, 0, 0, []), (42, Instr.getfield 28, 3, 0, 2, 3, [212]), (45, Instr.iload_n 3, 1, 0, 0, 0, []), (46, Instr.invokevirtual 43, 3, 7, 17, 1, [733, 350, 351, 57, 352]), (49, Instr.iconst 4, 1, 4, 0, 0, []), (50, Instr.if_icmp .ne 9, 3, 0, 59, 0, []), (53, Instr.iinc 3 1, 3, 0, 0, 0, []), (56, Instr.goto (-26), 3, 0, 30, 0, []), (59, Instr.aload_n 0, 1, 0, 0, 0, []), (60, Instr.getfield 28, 3, 0, 2, 3, [212]), (63, Instr.iload_n 2, 1, 0, 0, 0, []), (64, Instr.invokevirtual 43, 3, 7, 17, 1, [733, 350, 351, 57, 352]), (67, Instr.iconst 1, 1, 1, 0, 0, []), (68, Instr.invokestatic 77, 3, 0, 109, 2, [751, 752, 64, 753]), (71, Instr.ifCond .eq 22, 3, 0, 93, 0, []), (74, Instr.aload_n 0, 1, 0, 0, 0, []), (75, Instr.getfield 28, 3, 0, 2, 3, [212]), (78, Instr.iload_n 3, 1, 0, 0, 0, []), (79, Instr.invokevirtual 43, 3, 7, 17, 1, [733, 350, 351, 57, 352]), (82, Instr.iconst 2, 1, 2, 0, 0, []), (83, Instr.invokestatic 77, 3, 0, 109, 2, [751, 752, 64, 753]), (86, Instr.ifCond .eq 7, 3, 0, 93, 0, []), (89, Instr.iconst 1, 1, 1, 0, 0, []), (90, Instr.goto 4, 3, 0, 94, 0, []), (93, Instr.iconst 0, 1, 0, 0, 0, []), (94, Instr.ireturn, 1, 1, 0, 0, [])]
def mm_T109 : List (Nat × mm_I) := [(0, Instr.iload_n 0, 1, 0, 0, 0, []), (1, Instr.iload_n 1, 1, 0, 0, 0, []), (2, Instr.if_icmp .eq 8, 3, 0, 10, 0, []), (5, Instr.iload_n 0, 1, 0, 0, 0, []), (6, Instr.iconst 3, 1, 3, 0, 0, []), (7, Instr.if_icmp .ne 7, 3, 0, 14, 0, []), (10, Instr.iconst 1, 1, 1, 0, 0, []), (11, Instr.goto 4, 3, 0, 15, 0, []), (14, Instr.iconst 0, 1, 0, 0, 0, []), (15, Instr.ireturn, 1, 1, 0, 0, [])]
def mm_T110 : List (Nat × mm_I) := [(0, Instr.aload_n 0, 1, 0, 0, 0, []), (1, Instr.getfield 35, 3, 0, 2, 5, [214]), (4, Instr.ireturn, 1, 0, 0, 0, [])]
def mm_T111 : List (Nat × mm_I) := [(0, Instr.aload_n 0, 1, 0, 0, 0, []), (1, Instr.getfield 24, 3, 0, 3, 2, [244]), (4, Instr.aload_n 0, 1, 0, 0, 0, []), (5, Instr.getfield 20, 3, 0, 3, 1, [243]), (8, Instr.arraylength, 1, 0, 0, 0, []), (9, Instr.if_icmp .ge 45, 3, 0, 54, 0, []), (12, Instr.aload_n 0, 1, 0, 0, 0, []), (13, Instr.getfield 14, 3, 0, 3, 0, [242]), (16, Instr.aload_n 1, 1, 0, 0, 0, []), (17, Instr.iconst 0, 1, 0, 0, 0, []), (18, Instr.aload_n 1, 1, 0, 0, 0, []), (19, Instr.invokevirtual 31, 3, 7, 13, 0, [762, 332, 333, 57, 334]), (22, Instr.invokevirtual 35, 3, 7, 24, 3, [763, 376, 377, 57, 378]), (25, Instr.ifCond .eq 29, 3, 0, 54, 0, []), (28, Instr.aload_n 0, 1, 0, 0, 0, []), (29, Instr.getfield 20, 3, 0, 3, 1, [243]), (32, Instr.aload_n 0, 1, 0, 0, 0, []), (33, Instr.getfield 24, 3, 0, 3, 2, [244]), (36, Instr.aload_n 0, 1, 0, 0, 0, []), (37, Instr.getfield 14, 3, 0, 3, 0, [242]), (40, Instr.invokevirtual 31, 3, 7, 13, 0, [762, 332, 333, 57, 334]), (43, Instr.iastore, 1, 0, 0, 0, []), (44, Instr.aload_n 0, 1, 0, 0, 0, []), (45, Instr.dup, 1, 0, 0, 0, []), (46, Instr.getfield 24, 3, 0, 3, 2, [244]), (49, Instr.iconst 1, 1, 1, 0, 0, []), (50, Instr.iadd, 1, 0, 0, 0, []), (51, Instr.putfield 24, 3, 1, 3, 2, [244]), (54, Instr.return_, 1, 0, 0, 0, [])]
def mm_T112 : List (Nat × mm_I) := [(0, Instr.aload_n 0, 1, 0, 0, 0, []), (1, Instr.getfield 19, 3, 0, 0, 2, [254]), (4, Instr.aload_n 0, 1, 0, 0, 0, []), (5, Instr.getfield 41, 3, 0, 0, 6, [258]), (8, Instr.invokevirtual 172, 3, 3, 113, 0, [768, 769, 770, 65, 771]), (11, Instr.invokevirtual 175, 3, 2, 114, 1, [772, 773, 774, 64, 775]), (14, Instr.ifCond .ne 5, 3, 0, 19, 0, []), (17, Instr.iconst 1, 1, 1, 0, 0, []), (18, Instr.ireturn, 1, 1, 0, 0, []), (19, Instr.iconst 0, 1, 0, 0, 0, []), (20, Instr.istore_n 1, 1, 0, 0, 0, []), (21, Instr.iload_n 1, 1, 0, 0, 0, []), (22, Instr.aload_n 0, 1, 0, 0, 0, []), (23, Instr.getfield 41, 3, 0, 0, 6, [258]), (26, Instr.invokevirtual 73, 3, 3, 102, 0, [713, 714, 715, 65, 716]), (29, Instr.if_icmp .ge 57, 3, 0, 86, 0, []), (32, Instr.aload_n 0, 1, 0, 0, 0, []), (33, Instr.getfield 41, 3, 0, 0, 6, [258]), (36, Instr.iload_n 1, 1, 0, 0, 0, []), (37, Instr.invokevirtual 178, 3, 3, 116, 1, [779, 780, 781, 65, 782]), (40, Instr.ifCond .ne 40, 3, 0, 80, 0, []), (43, Instr.aload_n 0, 1, 0, 0, 0, []), (44, Instr.getfield 19, 3, 0, 0, 2, [254]), (47, Instr.aload_n 0, 1, 0, 0, 0, []), (48, Instr.getfield 41, 3, 0, 0, 6, [258]), (51, Instr.iload_n 1, 1, 0, 0, 0, []), (52, Instr.invokevirtual 181, 3, 3, 117, 1, [791, 784, 785, 65, 786]), (55, Instr.aload_n 0, 1, 0, 0, 0, []), (56, Instr.getfield 41, 3, 0, 0, 6, [258]), (59, Instr.iload_n 1, 1, 0, 0, 0, []), (60, Instr.invokevirtual 184, 3, 3, 118, 1, [792, 788, 789, 65, 790]), (63, Instr.invokevirtual 187, 3, 2, 119, 2, [793, 794, 795, 64, 796]), (66, Instr.istore_n 2, 1, 0, 0, 0, []), (67, Instr.iload_n 2, 1, 0, 0, 0, []), (68, Instr.ifCond .lt 12, 3, 0, 80, 0, []), (71, Instr.aload_n 0, 1, 0, 0, 0, []), (72, Instr.bipush 46, 2, 46, 0, 0, []), (74, Instr.iload_n 1, 1, 0, 0, 0, []), (75, Instr.iload_n 2, 1, 0, 0, 0, []), (76, Instr.invokevirtual 113, 3, 0, 95, 3, [678, 680, 8, 63, 681]), (79, Instr.ireturn, 1, 1, 0, 0, []), (80, Instr.iinc 1 1, 3, 0, 0, 0, []), (83, Instr.goto (-62), 3, 0, 21, 0, []), (86, Instr.iconst 1, 1, 1, 0, 0, []), (87, Instr.ireturn, 1, 1, 0, 0, [])]
def mm_T113 : List (Nat × mm_I) := [(0, Instr.aload_n 0, 1, 0, 0, 0, []), (1, Instr.getfield 14, 3, 0, 3, 0, [242]), (4, Instr.areturn, 1, 0, 0, 0, [])]
def mm_T114 : List (Nat × mm_I) := [(0, Instr.aload_n 0, 1, 0, 0, 0, []), (1, Instr.getfield 32, 3, 0, 2, 4, [213]), (4, Instr.invokevirtual 64, 3, 7, 12, 0, [744, 328, 329, 57, 330]), (7, Instr.iconst 0, 1, 0, 0, 0, []), (8, Instr.istore_n 2, 1, 0, 0, 0, []), (9, Instr.iconst 0, 1, 0, 0, 0, []), (10, Instr.istore_n 3, 1, 0, 0, 0, []), (11, Instr.iload_n 3, 1, 0, 0, 0, []), (12, Instr.aload_n 1, 1, 0, 0, 0, []), (13, Instr.invokevirtual 39, 3, 7, 13, 0, [732, 332, 333, 57, 334]), (16, Instr.if_icmp .ge 54, 3, 0, 70, 0, []), (19, Instr.aload_n 0, 1, 0, 0, 0, []), (20, Instr.getfield 19, 3, 0, 2, 2, [211]), (23, Instr.iconst 1, 1, 1, 0, 0, []), (24, Instr.aload_n 1, 1, 0, 0, 0, []), (25, Instr.iload_n 3, 1, 0, 0, 0, []), (26, Instr.invokevirtual 43, 3, 7, 17, 1, [733, 350, 351, 57, 352]), (29, Instr.invokevirtual 53, 3, 5, 55, 2, [738, 505, 506, 61, 507]), (32, Instr.istore 4, 2, 0, 0, 0, []), (34, Instr.aload_n 0, 1, 0, 0, 0, []), (35, Instr.getfield 32, 3, 0, 2, 4, [213]), (38, Instr.iload 4, 2, 0, 0, 0, []), (40, Instr.invokevirtual 70, 3, 7, 14, 1, [746, 337, 338, 57, 339]), (43, Instr.pop, 1, 0, 0, 0, []), (44, Instr.iload_n 2, 1, 0, 0, 0, []), (45, Instr.ifCond .ne 13, 3, 0, 58, 0, []), (48, Instr.iload 4, 2, 0, 0, 0, []), (50, Instr.bipush 14, 2, 14, 0, 0, []), (52, Instr.invokestatic 81, 3, 0, 115, 2, [776, 777, 64, 778]), (55, Instr.ifCond .eq 7, 3, 0, 62, 0, []), (58, Instr.iconst 1, 1, 1, 0, 0, []), (59, Instr.goto 4, 3, 0, 63, 0, []), (62, Instr.iconst 0, 1, 0, 0, 0, []), (63, Instr.istore_n 2, 1, 0, 0, 0, []), (64, Instr.iinc 3 1, 3, 0, 0, 0, []), (67, Instr.goto (-56), 3, 0, 11, 0, []), (70, Instr.iload_n 2, 1, 0, 0, 0, []), (71, Instr.ireturn, 1, 1, 0, 0, [])]
def mm_T115 : List (Nat × mm_I) := [(0, Instr.iload_n 0, 1, 0, 0, 0, []), (1, Instr.ifCond .lt 16, 3, 0, 17, 0, []), (4, Instr.iload_n 1, 1, 0, 0, 0, []), (5, Instr.iload_n 0, 1, 0, 0, 0, []), (6, Instr.ishr, 1, 0, 0, 0, []), (7, Instr.iconst 1, 1, 1, 0, 0, []), (8, Instr.iand, 1, 0, 0, 0, []), (9, Instr.iconst 1, 1, 1, 0, 0, []), (10, Instr.if_icmp .ne 7, 3, 0, 17, 0, []), (13, Instr.iconst 1, 1, 1, 0, 0, []), (14, Instr.goto 4, 3, 0, 18, 0, []), (17, Instr.iconst 0, 1, 0, 0, 0, []), (18, Instr.ireturn, 1, 1, 0, 0, [])]
def mm_T116 : List (Nat × mm_I) := [(0, Instr.aload_n 0, 1, 0, 0, 0, []), (1, Instr.iload_n 1, 1, 0, 0, 0, []), (2, Instr.invokevirtual 39, 3, 3, 117, 1, [783, 784, 785, 65, 786]), (5, Instr.aload_n 0, 1, 0, 0, 0, []), (6, Instr.iload_n 1, 1, 0, 0, 0, []), (7, Instr.invokevirtual 43, 3, 3, 118, 1, [787, 788, 789, 65, 790]), (10, Instr.if_icmp .ne 7, 3, 0, 17, 0, []), (13, Instr.iconst 1, 1, 1, 0, 0, []), (14, Instr.goto 4, 3, 0, 18, 0, []), (17, Instr.iconst 0, 1, 0, 0, 0, []), (18, Instr.ireturn, 1, 1, 0, 0, [])]
def mm_T117 : List (Nat × mm_I) := [(0, Instr.iload_n 1, 1, 0, 0, 0, []), (1, Instr.ifCond .le 22, 3, 0, 23, 0, []), (4, Instr.iload_n 1, 1, 0, 0, 0, []), (5, Instr.aload_n 0, 1, 0, 0, 0, []), (6, Instr.getfield 24, 3, 0, 3, 2, [244]), (9, Instr.if_icmp .gt 14, 3, 0, 23, 0, []), (12, Instr.aload_n 0, 1, 0, 0, 0, []), (13, Instr.getfield 20, 3, 0, 3, 1, [243]), (16, Instr.iload_n 1, 1, 0, 0, 0, []), (17, Instr.iconst 1, 1, 1, 0, 0, []), (18, Instr.isub, 1, 0, 0, 0, []), (19, Instr.iaload, 1, 0, 0, 0, []), (20, Instr.goto 4, 3, 0, 24, 0, []), (23, Instr.iconst 0, 1, 0, 0, 0, []), (24, Instr.ireturn, 1, 0, 0, 0, [])]
def mm_T118 : List (Nat × mm_I) := [(0, Instr.iload_n 1, 1, 0, 0, 0, []), (1, Instr.ifCond .lt 20, 3, 0, 21, 0, []), (4, Instr.iload_n 1, 1, 0, 0, 0, []), (5, Instr.aload_n 0, 1, 0, 0, 0, []), (6, Instr.getfield 24, 3, 0, 3, 2, [244]), (9, Instr.if_icmp .ge 12, 3, 0, 21, 0, []), (12, Instr.aload_n 0, 1, 0, 0, 0, []), (13, Instr.getfield 20, 3, 0, 3, 1, [243]), (16, Instr.iload_n 1, 1, 0, 0, 0, []), (17, Instr.iaload, 1, 0, 0, 0, []), (18, Instr.goto 10, 3, 0, 28, 0, []), (21, Instr.aload_n 0, 1, 0, 0, 0, []), (22, Instr.getfield 14, 3, 0, 3, 0, [242]), (25, Instr.invokevirtual 31, 3, 7, 13, 0, [762, 332, 333, 57, 334]), (28, Instr.ireturn, 1, 0, 0, 0, [])]
def mm_T119 : List (Nat × mm_I) := [(0, Instr.aload_n 0, 1, 0, 0, 0, []), (1, Instr.getfield 32, 3, 0, 2, 4, [213]), (4, Instr.iload_n 1, 1, 0, 0, 0, []), (5, Instr.invokevirtual 43, 3, 7, 17, 1, [733, 350, 351, 57, 352]), (8, Instr.istore_n 3, 1, 0, 0, 0, []), (9, Instr.iload_n 3, 1, 0, 0, 0, []), (10, Instr.bipush 7, 2, 7, 0, 0, []), (12, Instr.invokestatic 81, 3, 0, 115, 2, [776, 777, 64, 778]), (15, Instr.ifCond .ne 5, 3, 0, 20, 0, []), (18, Instr.iconst 0, 1, 0, 0, 0, []), (19, Instr.ireturn, 1, 0, 0, 0, []), (20, Instr.iload_n 3, 1, 0, 0, 0, []), (21, Instr.bipush 6, 2, 6, 0, 0, []), (23, Instr.invokestatic 81, 3, 0, 115, 2, [776, 777, 64, 778]), (26, Instr.istore 4, 2, 0, 0, 0, []), (28, Instr.sipush 2032, 3, 2032, 0, 0, []), (31, Instr.iload 4, 2, 0, 0, 0, []), (33, Instr.ifCond .eq 8, 3, 0, 41, 0, []), (36, Instr.bipush 14, 2, 14, 0, 0, []), (38, Instr.goto 4, 3, 0, 42, 0, []), (41, Instr.iconst 1, 1, 1, 0, 0, []), (42, Instr.ior, 1, 0, 0, 0, []), (43, Instr.istore 5, 2, 0, 0, 0, []), (45, Instr.iload_n 1, 1, 0, 0, 0, []), (46, Instr.istore 6, 2, 0, 0, 0, []), (48, Instr.iload 6, 2, 0, 0, 0, []), (50, Instr.iload_n 2, 1, 0, 0, 0, []), (51, Instr.if_icmp .ge 31, 3, 0, 82, 0, []), (54, Instr.aload_n 0, 1, 0, 0, 0, []), (55, Instr.getfield 32, 3, 0, 2, 4, [213]), (58, Instr.iload 6, 2, 0, 0, 0, []), (60, Instr.invokevirtual 43, 3, 7, 17, 1, [733, 350, 351, 57, 352]), (63, Instr.iload 5, 2, 0, 0, 0, []), (65, Instr.invokestatic 81, 3, 0, 115, 2, [776, 777, 64, 778]), (68, Instr.ifCond .ne 8, 3, 0, 76, 0, []), (71, Instr.iload 6, 2, 0, 0, 0, []), (73, Instr.iload_n 1, 1, 0, 0, 0, []), (74, Instr.isub, 1, 0, 0, 0, []), (75, Instr.ireturn, 1, 0, 0, 0, []), (76, Instr.iinc 6 1, 3, 0, 0, 0, []), (79, Instr.goto (-31), 3, 0, 48, 0, []), (82, Instr.iload_n 2, 1, 0, 0, 0, []), (83, Instr.iconst 1, 1, 1, 0, 0, []), (84, Instr.isub, 1, 0, 0, 0, []), (85, Instr.istore 6, 2, 0, 0, 0, []), (87, Instr.iload 6, 2, 0, 0, 0, []), (89, Instr.iload_n 1, 1, 0, 0, 0, []), (90, Instr.if_icmp .le 27, 3, 0, 117, 0, []), (93, Instr.aload_n 0, 1, 0, 0, 0, []), (94, Instr.getfield 32, 3, 0, 2, 4, [213]), (97, Instr.iload 6, 2, 0, 0, 0, []), (99, Instr.invokevirtual 43, 3, 7, 17, 1, [733, 350, 351, 57, 352]), (102, Instr.sipush 1024, 3, 1024, 0, 0, []), (105, Instr.invokestatic 81, 3, 0, 115, 2, [776, 777, 64, 778]), (108, Instr.ifCond .eq 9, 3, 0, 117, 0, []), (111, Instr.iinc 6 (-1), 3, 0, 0, 0, []), (114, Instr.goto (-27), 3, 0, 87, 0, []), (117, Instr.aload_n 0, 1, 0, 0, 0, []), (118, Instr.getfield 32, 3, 0, 2, 4, [213]), (121, Instr.iload 6, 2, 0, 0, 0, []), (123, Instr.invokevirtual 43, 3, 7, 17, 1, [733, 350, 351, 57, 352]), (126, Instr.iload 4, 2, 0, 0, 0, []), (128, Instr.ifCond .eq 8, 3, 0, 136, 0, []), (131, Instr.bipush 30, 2, 30, 0, 0, []), (133, Instr.goto 5, 3, 0, 138, 0, []), (136, Instr.bipush 17, 2, 17, 0, 0, []), (138, Instr.invokestatic 81, 3, 0, 115, 2, [776, 777, 64, 778]), (141, Instr.ifCond .ne 8, 3, 0, 149, 0, []), (144, Instr.iload 6, 2, 0, 0, 0, []), (146, Instr.iload_n 1, 1, 0, 0, 0, []), (147, Instr.isub, 1, 0, 0, 0, []), (148, Instr.ireturn, 1, 0, 0, 0, []), (149, Instr.iload 4, 2, 0, 0, 0, []), (151, Instr.ifCond .eq 12, 3, 0, 163, 0, []), (154, Instr.aload_n 0, 1, 0, 0, 0, []), (155, Instr.iload_n 1, 1, 0, 0, 0, []), (156, Instr.iload_n 2, 1, 0, 0, 0, []), (157, Instr.invokevirtual 84, 3, 2, 120, 2, [797, 799, 19, 64, 800]), (160, Instr.goto 4, 3, 0, 164, 0, []), (163, Instr.iconst (-1), 1, (-1), 0, 0, []), (164, Instr.ireturn, 1, 0, 0, 0, [])]
def mm_T120 : List (Nat × mm_I) := [(0, Instr.iconst (-1), 1, (-1), 0, 0, []), (1, Instr.istore_n 3, 1, 0, 0, 0, []), (2, Instr.iload_n 1, 1, 0, 0, 0, []), (3, Instr.istore 4, 2, 0, 0, 0, []), (5, Instr.iload 4, 2, 0, 0, 0, []), (7, Instr.iload_n 2, 1, 0, 0, 0, []), (8, Instr.if_icmp .ge 48, 3, 0, 56, 0, []), (11, Instr.aload_n 0, 1, 0, 0, 0, []), (12, Instr.getfield 32, 3, 0, 2, 4, [213]), (15, Instr.iload 4, 2, 0, 0, 0, []), (17, Instr.invokevirtual 43, 3, 7, 17, 1, [733, 350, 351, 57, 352]), (20, Instr.istore 5, 2, 0, 0, 0, []), (22, Instr.iload 5, 2, 0, 0, 0, []), (24, Instr.bipush 24, 2, 24, 0, 0, []), (26, Instr.invokestatic 81, 3, 0, 115, 2, [776, 777, 64, 778]), (29, Instr.ifCond .eq 21, 3, 0, 50, 0, []), (32, Instr.iload_n 3, 1, 0, 0, 0, []), (33, Instr.ifCond .lt 14, 3, 0, 47, 0, []), (36, Instr.iload 5, 2, 0, 0, 0, []), (38, Instr.iload_n 3, 1, 0, 0, 0, []), (39, Instr.if_icmp .eq 8, 3, 0, 47, 0, []), (42, Instr.iload 4, 2, 0, 0, 0, []), (44, Instr.iload_n 1, 1, 0, 0, 0, []), (45, Instr.isub, 1, 0, 0, 0, []), (46, Instr.ireturn, 1, 0, 0, 0, []), (47, Instr.iload 5, 2, 0, 0, 0, []), (49, Instr.istore_n 3, 1, 0, 0, 0, []), (50, Instr.iinc 4 1, 3, 0, 0, 0, []), (53, Instr.goto (-48), 3, 0, 5, 0, []), (56, Instr.iconst (-1), 1, (-1), 0, 0, []), (57, Instr.ireturn, 1, 0, 0, 0, [])]
def mm_T121 : List (Nat × mm_I) := [(0, Instr.iconst 0, 1, 0, 0, 0, []), (1, Instr.istore_n 1, 1, 0, 0, 0, []), (2, Instr.iload_n 1, 1, 0, 0, 0, []), (3, Instr.aload_n 0, 1, 0, 0, 0, []), (4, Instr.getfield 41, 3, 0, 0, 6, [258]), (7, Instr.invokevirtual 73, 3, 3, 102, 0, [713, 714, 715, 65, 716]), (10, Instr.if_icmp .ge 73, 3, 0, 83, 0, []), (13, Instr.aload_n 0, 1, 0, 0, 0, []), (14, Instr.iload_n 1, 1, 0, 0, 0, []), (15, Instr.invokevirtual 194, 3, 0, 122, 1, [805, 807, 21, 63, 808]), (18, Instr.ifCond .ne 12, 3, 0, 30, 0, []), (21, Instr.aload_n 0, 1, 0, 0, 0, []), (22, Instr.bipush 50, 2, 50, 0, 0, []), (24, Instr.iload_n 1, 1, 0, 0, 0, []), (25, Instr.iconst 0, 1, 0, 0, 0, []), (26, Instr.invokevirtual 113, 3, 0, 95, 3, [678, 680, 8, 63, 681]), (29, Instr.ireturn, 1, 1, 0, 0, []), (30, Instr.iload_n 1, 1, 0, 0, 0, []), (31, Instr.ifCond .le 13, 3, 0, 44, 0, []), (34, Instr.aload_n 0, 1, 0, 0, 0, []), (35, Instr.getfield 49, 3, 0, 0, 8, [260]), (38, Instr.bipush 46, 2, 46, 0, 0, []), (40, Instr.invokevirtual 122, 3, 7, 14, 1, [689, 337, 338, 57, 339]), (43, Instr.pop, 1, 0, 0, 0, []), (44, Instr.aload_n 0, 1, 0, 0, 0, []), (45, Instr.getfield 49, 3, 0, 0, 8, [260]), (48, Instr.aload_n 0, 1, 0, 0, 0, []), (49, Instr.getfield 32, 3, 0, 0, 4, [256]), (52, Instr.iconst 0, 1, 0, 0, 0, []), (53, Instr.aload_n 0, 1, 0, 0, 0, []), (54, Instr.getfield 32, 3, 0, 0, 4, [256]), (57, Instr.invokevirtual 65, 3, 7, 13, 0, [686, 332, 333, 57, 334]), (60, Instr.invokevirtual 136, 3, 7, 24, 3, [704, 376, 377, 57, 378]), (63, Instr.pop, 1, 0, 0, 0, []), (64, Instr.aload_n 0, 1, 0, 0, 0, []), (65, Instr.getfield 45, 3, 0, 0, 7, [259]), (68, Instr.iload_n 1, 1, 0, 0, 0, []), (69, Instr.aload_n 0, 1, 0, 0, 0, []), (70, Instr.getfield 32, 3, 0, 0, 4, [256]), (73, Instr.invokevirtual 65, 3, 7, 13, 0, [686, 332, 333, 57, 334]), (76, Instr.iastore, 1, 0, 0, 0, []), (77, Instr.iinc 1 1, 3, 0, 0, 0, []), (80, Instr.goto (-78), 3, 0, 2, 0, []), (83, Instr.aload_n 0, 1, 0, 0, 0, []), (84, Instr.invokevirtual 197, 3, 0, 124, 0, [815, 817, 22, 63, 818]), (87, Instr.ireturn, 1, 1, 0, 0, [])]
def mm_T122 : List (Nat × mm_I) := [(0, Instr.aload_n 0, 1, 0, 0, 0, []), (1, Instr.getfield 32, 3, 0, 0, 4, [256]), (4, Instr.invokevirtual 79, 3, 7, 12, 0, [672, 328, 329, 57, 330]), (7, Instr.aload_n 0, 1, 0, 0, 0, []), (8, Instr.getfield 41, 3, 0, 0, 6, [258]), (11, Instr.iload_n 1, 1, 0, 0, 0, []), (12, Instr.invokevirtual 200, 3, 3, 123, 1, [809, 810, 811, 65, 812]), (15, Instr.ifCond .ne 36, 3, 0, 51, 0, []), (18, Instr.aload_n 0, 1, 0, 0, 0, []), (19, Instr.getfield 32, 3, 0, 0, 4, [256]), (22, Instr.aload_n 0, 1, 0, 0, 0, []), (23, Instr.getfield 41, 3, 0, 0, 6, [258]), (26, Instr.invokevirtual 172, 3, 3, 113, 0, [768, 769, 770, 65, 771]), (29, Instr.aload_n 0, 1, 0, 0, 0, []), (30, Instr.getfield 41, 3, 0, 0, 6, [258]), (33, Instr.iload_n 1, 1, 0, 0, 0, []), (34, Instr.invokevirtual 181, 3, 3, 117, 1, [791, 784, 785, 65, 786]), (37, Instr.aload_n 0, 1, 0, 0, 0, []), (38, Instr.getfield 41, 3, 0, 0, 6, [258]), (41, Instr.iload_n 1, 1, 0, 0, 0, []), (42, Instr.invokevirtual 184, 3, 3, 118, 1, [792, 788, 789, 65, 790]), (45, Instr.invokevirtual 136, 3, 7, 24, 3, [704, 376, 377, 57, 378]), (48, Instr.pop, 1, 0, 0, 0, []), (49, Instr.iconst 1, 1, 1, 0, 0, []), (50, Instr.ireturn, 1, 1, 0, 0, []), (51, Instr.aload_n 0, 1, 0, 0, 0, []), (52, Instr.getfield 32, 3, 0, 0, 4, [256]), (55, Instr.bipush 120, 2, 120, 0, 0, []), (57, Instr.invokevirtual 122, 3, 7, 14, 1, [689, 337, 338, 57, 339]), (60, Instr.pop, 1, 0, 0, 0, []), (61, Instr.aload_n 0, 1, 0, 0, 0, []), (62, Instr.getfield 32, 3, 0, 0, 4, [256]), (65, Instr.bipush 110, 2, 110, 0, 0, []), (67, Instr.invokevirtual 122, 3, 7, 14, 1, [689, 337, 338, 57, 339]), (70, Instr.pop, 1, 0, 0, 0, []), (71, Instr.aload_n 0, 1, 0, 0, 0, []), (72, Instr.getfield 32, 3, 0, 0, 4, [256]), (75, Instr.bipush 45, 2, 45, 0, 0, []), (77, Instr.invokevirtual 122, 3, 7, 14, 1, [689, 337, 338, 57, 339]), (80, Instr.pop, 1, 0, 0, 0, []), (81, Instr.aload_n 0, 1, 0, 0, 0, []), (82, Instr.getfield 32, 3, 0, 0, 4, [256]), (85, Instr.bipush 45, 2, 45, 0, 0, []), (87, Instr.invokevirtual 122, 3, 7, 14, 1, [689, 337, 338, 57, 339]), (90, Instr.pop, 1, 0, 0, 0, []), (91, Instr.aload_n 0, 1, 0, 0, 0, []), (92, Instr.getfield 41, 3, 0, 0, 6, [258]), (95, Instr.invokevirtual 172, 3, 3, 113, 0, [768, 769, 770, 65, 771]), (98, Instr.aload_n 0, 1, 0, 0, 0, []), (99, Instr.getfield 41, 3, 0, 0, 6, [258]), (102, Instr.iload_n 1, 1, 0, 0, 0, []), (103, Instr.invokevirtual 181, 3, 3, 117, 1, [791, 784, 785, 65, 786]), (106, Instr.aload_n 0, 1, 0, 0, 0, []), (107, Instr.getfield 41, 3, 0, 0, 6, [258]), (110, Instr.iload_n 1, 1, 0, 0, 0, []), (111, Instr.invokevirtual 184, 3, 3, 118, 1, [792, 788, 789, 65, 790]), (114, Instr.aload_n 0, 1, 0, 0, 0, []), (115, Instr.getfield 32, 3, 0, 0, 4, [256]), (118, Instr.invokestatic 203, 3, 0, 79, 4, [814, 607, 69, 608]), (121, Instr.bipush (-2), 2, (-2), 0, 0, []), (123, Instr.if_icmp .eq 7, 3, 0, 130, 0, []), (126, Instr.iconst 1, 1, 1, 0, 0, []), (127, Instr.goto 4, 3, 0, 131, 0, []), (130, Instr.iconst 0, 1, 0, 0, 0, []), (131, Instr.ireturn, 1, 1, 0, 0, [])]
def mm_T123 : List (Nat × mm_I) := [(0, Instr.aload_n 0, 1, 0, 0, 0, []), (1, Instr.getfield 14, 3, 0, 3, 0, [242]), (4, Instr.aload_n 0, 1, 0, 0, 0, []), (5, Instr.iload_n 1, 1, 0, 0, 0, []), (6, Instr.invokevirtual 39, 3, 3, 117, 1, [783, 784, 785, 65, 786]), (9, Instr.aload_n 0, 1, 0, 0, 0, []), (10, Instr.iload_n 1, 1, 0, 0, 0, []), (11, Instr.invokevirtual 43, 3, 3, 118, 1, [787, 788, 789, 65, 790]), (14, Instr.invokestatic 46, 3, 0, 103, 3, [813, 719, 65, 720]), (17, Instr.ireturn, 1, 1, 0, 0, [])]
def mm_T124 : List (Nat × mm_I) := [(0, Instr.aload_n 0, 1, 0, 0, 0, []), (1, Instr.getfield 41, 3, 0, 0, 6, [258]), (4, Instr.invokevirtual 73, 3, 3, 102, 0, [713, 714, 715, 65, 716]), (7, Instr.iconst 1, 1, 1, 0, 0, []), (8, Instr.isub, 1, 0, 0, 0, []), (9, Instr.istore_n 1, 1, 0, 0, 0, []), (10, Instr.iload_n 1, 1, 0, 0, 0, []), (11, Instr.istore_n 2, 1, 0, 0, 0, []), (12, Instr.iconst 0, 1, 0, 0, 0, []), (13, Instr.istore_n 3, 1, 0, 0, 0, []), (14, Instr.iload_n 3, 1, 0, 0, 0, []), (15, Instr.iload_n 1, 1, 0, 0, 0, []), (16, Instr.if_icmp .gt 45, 3, 0, 61, 0, []), (19, Instr.aload_n 0, 1, 0, 0, 0, []), (20, Instr.getfield 45, 3, 0, 0, 7, [259]), (23, Instr.iload_n 3, 1, 0, 0, 0, []), (24, Instr.iaload, 1, 0, 0, 0, []), (25, Instr.ifCond .ne 21, 3, 0, 46, 0, []), (28, Instr.iload_n 3, 1, 0, 0, 0, []), (29, Instr.iload_n 1, 1, 0, 0, 0, []), (30, Instr.if_icmp .lt 7, 3, 0, 37, 0, []), (33, Instr.iload_n 1, 1, 0, 0, 0, []), (34, Instr.ifCond .ne 12, 3, 0, 46, 0, []), (37, Instr.aload_n 0, 1, 0, 0, 0, []), (38, Instr.bipush 51, 2, 51, 0, 0, []), (40, Instr.iload_n 3, 1, 0, 0, 0, []), (41, Instr.iconst 0, 1, 0, 0, 0, []), (42, Instr.invokevirtual 113, 3, 0, 95, 3, [678, 680, 8, 63, 681]), (45, Instr.ireturn, 1, 1, 0, 0, []), (46, Instr.iload_n 2, 1, 0, 0, 0, []), (47, Instr.aload_n 0, 1, 0, 0, 0, []), (48, Instr.getfield 45, 3, 0, 0, 7, [259]), (51, Instr.iload_n 3, 1, 0, 0, 0, []), (52, Instr.iaload, 1, 0, 0, 0, []), (53, Instr.iadd, 1, 0, 0, 0, []), (54, Instr.istore_n 2, 1, 0, 0, 0, []), (55, Instr.iinc 3 1, 3, 0, 0, 0, []), (58, Instr.goto (-44), 3, 0, 14, 0, []), (61, Instr.iconst 0, 1, 0, 0, 0, []), (62, Instr.istore_n 3, 1, 0, 0, 0, []), (63, Instr.iload_n 3, 1, 0, 0, 0, []), (64, Instr.iload_n 1, 1, 0, 0, 0, []), (65, Instr.if_icmp .gt 30, 3, 0, 95, 0, []), (68, Instr.aload_n 0, 1, 0, 0, 0, []), (69, Instr.getfield 45, 3, 0, 0, 7, [259]), (72, Instr.iload_n 3, 1, 0, 0, 0, []), (73, Instr.iaload, 1, 0, 0, 0, []), (74, Instr.bipush 63, 2, 63, 0, 0, []), (76, Instr.if_icmp .le 13, 3, 0, 89, 0, []), (79, Instr.aload_n 0, 1, 0, 0, 0, []), (80, Instr.bipush 52, 2, 52, 0, 0, []), (82, Instr.iload_n 3, 1, 0, 0, 0, []), (83, Instr.bipush 63, 2, 63, 0, 0, []), (85, Instr.invokevirtual 113, 3, 0, 95, 3, [678, 680, 8, 63, 681]), (88, Instr.ireturn, 1, 1, 0, 0, []), (89, Instr.iinc 3 1, 3, 0, 0, 0, []), (92, Instr.goto (-29), 3, 0, 63, 0, []), (95, Instr.iload_n 1, 1, 0, 0, 0, []), (96, Instr.ifCond .le 15, 3, 0, 111, 0, []), (99, Instr.aload_n 0, 1, 0, 0, 0, []), (100, Instr.getfield 45, 3, 0, 0, 7, [259]), (103, Instr.iload_n 1, 1, 0, 0, 0, []), (104, Instr.iaload, 1, 0, 0, 0, []), (105, Instr.ifCond .ne 6, 3, 0, 111, 0, []), (108, Instr.iinc 2 (-1), 3, 0, 0, 0, []), (111, Instr.iload_n 2, 1, 0, 0, 0, []), (112, Instr.ifCond .le 10, 3, 0, 122, 0, []), (115, Instr.iload_n 2, 1, 0, 0, 0, []), (116, Instr.sipush 253, 3, 253, 0, 0, []), (119, Instr.if_icmp .le 14, 3, 0, 133, 0, []), (122, Instr.aload_n 0, 1, 0, 0, 0, []), (123, Instr.bipush 53, 2, 53, 0, 0, []), (125, Instr.iload_n 1, 1, 0, 0, 0, []), (126, Instr.iconst 0, 1, 0, 0, 0, []), (127, Instr.invokevirtual 113, 3, 0, 95, 3, [678, 680, 8, 63, 681]), (130, Instr.ifCond .eq 7, 3, 0, 137, 0, []), (133, Instr.iconst 1, 1, 1, 0, 0, []), (134, Instr.goto 4, 3, 0, 138, 0, []), (137, Instr.iconst 0, 1, 0, 0, 0, []), (138, Instr.ireturn, 1, 1, 0, 0, [])]
def mm_T125 : List (Nat × mm_I) := [(0, Instr.iconst 0, 1, 0, 0, 0, []), (1, Instr.istore_n 1, 1, 0, 0, 0, []), (2, Instr.iload_n 1, 1, 0, 0, 0, []), (3, Instr.aload_n 0, 1, 0, 0, 0, []), (4, Instr.getfield 41, 3, 0, 0, 6, [258]), (7, Instr.invokevirtual 73, 3, 3, 102, 0, [713, 714, 715, 65, 716]), (10, Instr.if_icmp .ge 69, 3, 0, 79, 0, []), (13, Instr.iload_n 1, 1, 0, 0, 0, []), (14, Instr.ifCond .le 13, 3, 0, 27, 0, []), (17, Instr.aload_n 0, 1, 0, 0, 0, []), (18, Instr.getfield 49, 3, 0, 0, 8, [260]), (21, Instr.bipush 46, 2, 46, 0, 0, []), (23, Instr.invokevirtual 122, 3, 7, 14, 1, [689, 337, 338, 57, 339]), (26, Instr.pop, 1, 0, 0, 0, []), (27, Instr.aload_n 0, 1, 0, 0, 0, []), (28, Instr.getfield 41, 3, 0, 0, 6, [258]), (31, Instr.iload_n 1, 1, 0, 0, 0, []), (32, Instr.invokevirtual 181, 3, 3, 117, 1, [791, 784, 785, 65, 786]), (35, Instr.istore_n 2, 1, 0, 0, 0, []), (36, Instr.iload_n 2, 1, 0, 0, 0, []), (37, Instr.aload_n 0, 1, 0, 0, 0, []), (38, Instr.getfield 41, 3, 0, 0, 6, [258]), (41, Instr.iload_n 1, 1, 0, 0, 0, []), (42, Instr.invokevirtual 184, 3, 3, 118, 1, [792, 788, 789, 65, 790]), (45, Instr.if_icmp .ge 28, 3, 0, 73, 0, []), (48, Instr.aload_n 0, 1, 0, 0, 0, []), (49, Instr.getfield 41, 3, 0, 0, 6, [258]), (52, Instr.invokevirtual 172, 3, 3, 113, 0, [768, 769, 770, 65, 771]), (55, Instr.iload_n 2, 1, 0, 0, 0, []), (56, Instr.invokevirtual 69, 3, 7, 17, 1, [687, 350, 351, 57, 352]), (59, Instr.aload_n 0, 1, 0, 0, 0, []), (60, Instr.getfield 49, 3, 0, 0, 8, [260]), (63, Instr.invokestatic 191, 3, 0, 126, 2, [823, 824, 67, 825]), (66, Instr.pop, 1, 0, 0, 0, []), (67, Instr.iinc 2 1, 3, 0, 0, 0, []), (70, Instr.goto (-34), 3, 0, 36, 0, []), (73, Instr.iinc 1 1, 3, 0, 0, 0, []), (76, Instr.goto (-74), 3, 0, 2, 0, []), (79, Instr.iconst 1, 1, 1, 0, 0, []), (80, Instr.ireturn, 1, 1, 0, 0, [])]
def mm_T126 : List (Nat × mm_I) := [(0, Instr.iload_n 0, 1, 0, 0, 0, []), (1, Instr.sipush 128, 3, 128, 0, 0, []), (4, Instr.if_icmp .ge 9, 3, 0, 13, 0, []), (7, Instr.aload_n 1, 1, 0, 0, 0, []), (8, Instr.iload_n 0, 1, 0, 0, 0, []), (9, Instr.invokevirtual 42, 3, 7, 14, 1, [365, 337, 338, 57, 339]), (12, Instr.ireturn, 1, 1, 0, 0, []), (13, Instr.iload_n 0, 1, 0, 0, 0, []), (14, Instr.sipush 2048, 3, 2048, 0, 0, []), (17, Instr.if_icmp .ge 32, 3, 0, 49, 0, []), (20, Instr.aload_n 1, 1, 0, 0, 0, []), (21, Instr.sipush 192, 3, 192, 0, 0, []), (24, Instr.iload_n 0, 1, 0, 0, 0, []), (25, Instr.bipush 64, 2, 64, 0, 0, []), (27, Instr.idiv, 1, 0, 0, 0, []), (28, Instr.iadd, 1, 0, 0, 0, []), (29, Instr.invokevirtual 42, 3, 7, 14, 1, [365, 337, 338, 57, 339]), (32, Instr.ifCond .eq 15, 3, 0, 47, 0, []), (35, Instr.iload_n 0, 1, 0, 0, 0, []), (36, Instr.aload_n 1, 1, 0, 0, 0, []), (37, Instr.invokestatic 46, 3, 0, 127, 2, [826, 827, 67, 828]), (40, Instr.ifCond .eq 7, 3, 0, 47, 0, []), (43, Instr.iconst 1, 1, 1, 0, 0, []), (44, Instr.goto 4, 3, 0, 48, 0, []), (47, Instr.iconst 0, 1, 0, 0, 0, []), (48, Instr.ireturn, 1, 1, 0, 0, []), (49, Instr.iload_n 0, 1, 0, 0, 0, []), (50, Instr.ldc 50, 2, 65536, 0, 0, [829]), (52, Instr.if_icmp .ge 44, 3, 0, 96, 0, []), (55, Instr.aload_n 1, 1, 0, 0, 0, []), (56, Instr.sipush 224, 3, 224, 0, 0, []), (59, Instr.iload_n 0, 1, 0, 0, 0, []), (60, Instr.sipush 4096, 3, 4096, 0, 0, []), (63, Instr.idiv, 1, 0, 0, 0, []), (64, Instr.iadd, 1, 0, 0, 0, []), (65, Instr.invokevirtual 42, 3, 7, 14, 1, [365, 337, 338, 57, 339]), (68, Instr.ifCond .eq 26, 3, 0, 94, 0, []), (71, Instr.iload_n 0, 1, 0, 0, 0, []), (72, Instr.bipush 64, 2, 64, 0, 0, []), (74, Instr.idiv, 1, 0, 0, 0, []), (75, Instr.aload_n 1, 1, 0, 0, 0, []), (76, Instr.invokestatic 46, 3, 0, 127, 2, [826, 827, 67, 828]), (79, Instr.ifCond .eq 15, 3, 0, 94, 0, []), (82, Instr.iload_n 0, 1, 0, 0, 0, []), (83, Instr.aload_n 1, 1, 0, 0, 0, []), (84, Instr.invokestatic 46, 3, 0, 127, 2, [826, 827, 67, 828]), (87, Instr.ifCond .eq 7, 3, 0, 94, 0, []), (90, Instr.iconst 1, 1, 1, 0, 0, []), (91, Instr.goto 4, 3, 0, 95, 0, []), (94, Instr.iconst 0, 1, 0, 0, 0, []), (95, Instr.ireturn, 1, 1, 0, 0, []), (96, Instr.aload_n 1, 1, 0, 0, 0, []), (97, Instr.sipush 240, 3, 240, 0, 0, []), (100, Instr.iload_n 0, 1, 0, 0, 0, []), (101, Instr.ldc 51, 2, 262144, 0, 0, [830]), (103, Instr.idiv, 1, 0, 0, 0, []), (104, Instr.iadd, 1, 0, 0, 0, []), (105, Instr.invokevirtual 42, 3, 7, 14, 1, [365, 337, 338, 57, 339]), (108, Instr.ifCond .eq 38, 3, 0, 146, 0, []), (111, Instr.iload_n 0, 1, 0, 0, 0, []), (112, Instr.sipush 4096, 3, 4096, 0, 0, []), (115, Instr.idiv, 1, 0, 0, 0, []), (116, Instr.aload_n 1, 1, 0, 0, 0, []), (117, Instr.invokestatic 46, 3, 0, 127, 2, [826, 827, 67, 828]), (120, Instr.ifCond .eq 26, 3, 0, 146, 0, []), (123, Instr.iload_n 0, 1, 0, 0, 0, []), (124, Instr.bipush 64, 2, 64, 0, 0, []), (126, Instr.idiv, 1, 0, 0, 0, []), (127, Instr.aload_n 1, 1, 0, 0, 0, []), (128, Instr.invokestatic 46, 3, 0, 127, 2, [826, 827, 67, 828]), (131, Instr.ifCond .eq 15, 3, 0, 146, 0, []), (134, Instr.iload_n 0, 1, 0, 0, 0, []), (135, Instr.aload_n 1, 1, 0, 0, 0, []), (136, Instr.invokestatic 46, 3, 0, 127, 2, [826, 827, 67, 828]), (139, Instr.ifCond .eq 7, 3, 0, 146, 0, []), (142, Instr.iconst 1, 1, 1, 0, 0, []), (143, Instr.goto 4, 3, 0, 147, 0, []), (146, Instr.iconst 0, 1, 0, 0, 0, []), (147, Instr.ireturn, 1, 1, 0, 0, [])]
def mm_T127 : List (Nat × mm_I) := [(0, Instr.aload_n 1, 1, 0, 0, 0, []), (1, Instr.sipush 128, 3, 128, 0, 0, []), (4, Instr.iload_n 0, 1, 0, 0, 0, []), (5, Instr.bipush 64, 2, 64, 0, 0, []), (7, Instr.irem, 1, 0, 0, 0, []), (8, Instr.iadd, 1, 0, 0, 0, []), (9, Instr.invokevirtual 42, 3, 7, 14, 1, [365, 337, 338, 57, 339]), (12, Instr.ireturn, 1, 1, 0, 0, [])]
def mm_T128 : List (Nat × mm_I) := [(0, Instr.aload_n 0, 1, 0, 0, 0, []), (1, Instr.getfield 52, 3, 0, 0, 9, [261]), (4, Instr.invokevirtual 65, 3, 7, 13, 0, [686, 332, 333, 57, 334]), (7, Instr.ireturn, 1, 0, 0, 0, [])]
def mm_T129 : List (Nat × mm_I) := [(0, Instr.iload_n 1, 1, 0, 0, 0, []), (1, Instr.tableswitch 42 0 2 #[27, 32, 37], 27, 0, 0, 0, []), (28, Instr.aload_n 0, 1, 0, 0, 0, []), (29, Instr.getfield 55, 3, 0, 0, 10, [262]), (32, Instr.ireturn, 1, 0, 0, 0, []), (33, Instr.aload_n 0, 1, 0, 0, 0, []), (34, Instr.getfield 59, 3, 0, 0, 11, [263]), (37, Instr.ireturn, 1, 0, 0, 0, []), (38, Instr.aload_n 0, 1, 0, 0, 0, []), (39, Instr.getfield 62, 3, 0, 0, 12, [264]), (42, Instr.ireturn, 1, 0, 0, 0, []), (43, Instr.aload_n 0, 1, 0, 0, 0, []), (44, Instr.getfield 41, 3, 0, 0, 6, [258]), (47, Instr.invokevirtual 73, 3, 3, 102, 0, [713, 714, 715, 65, 716]), (50, Instr.ireturn, 1, 0, 0, 0, [])]
def mm_T130 : List (Nat × mm_I) := [(0, Instr.iload_n 1, 1, 0, 0, 0, []), (1, Instr.ifCond .lt 19, 3, 0, 20, 0, []), (4, Instr.iload_n 1, 1, 0, 0, 0, []), (5, Instr.iconst 3, 1, 3, 0, 0, []), (6, Instr.if_icmp .gt 14, 3, 0, 20, 0, []), (9, Instr.aload_n 0, 1, 0, 0, 0, []), (10, Instr.getfield 74, 3, 0, 9, 9, [301]), (13, Instr.iload_n 1, 1, 0, 0, 0, []), (14, Instr.invokevirtual 163, 3, 0, 129, 1, [835, 836, 837, 63, 838]), (17, Instr.goto 5, 3, 0, 22, 0, []), (20, Instr.bipush (-2), 2, (-2), 0, 0, []), (22, Instr.ireturn, 1, 0, 0, 0, [])]
def mm_T131 : List (Nat × mm_I) := [(0, Instr.iload_n 1, 1, 0, 0, 0, []), (1, Instr.ifCond .lt 25, 3, 0, 26, 0, []), (4, Instr.iload_n 1, 1, 0, 0, 0, []), (5, Instr.aload_n 0, 1, 0, 0, 0, []), (6, Instr.getfield 74, 3, 0, 9, 9, [301]), (9, Instr.invokevirtual 160, 3, 0, 128, 0, [831, 832, 833, 63, 834]), (12, Instr.if_icmp .ge 14, 3, 0, 26, 0, []), (15, Instr.aload_n 0, 1, 0, 0, 0, []), (16, Instr.getfield 74, 3, 0, 9, 9, [301]), (19, Instr.iload_n 1, 1, 0, 0, 0, []), (20, Instr.invokevirtual 166, 3, 0, 132, 1, [847, 848, 849, 63, 850]), (23, Instr.goto 4, 3, 0, 27, 0, []), (26, Instr.iconst (-1), 1, (-1), 0, 0, []), (27, Instr.ireturn, 1, 0, 0, 0, [])]
def mm_T132 : List (Nat × mm_I) := [(0, Instr.aload_n 0, 1, 0, 0, 0, []), (1, Instr.getfield 52, 3, 0, 0, 9, [261]), (4, Instr.iload_n 1, 1, 0, 0, 0, []), (5, Instr.invokevirtual 69, 3, 7, 17, 1, [687, 350, 351, 57, 352]), (8, Instr.ireturn, 1, 0, 0, 0, [])]
def mm_T133 : List (Nat × mm_I) := [(0, Instr.aload_n 0, 1, 0, 0, 0, []), (1, Instr.invokespecial 1, 3, 0, 0, 1000, [856, 76, 77]), (4, Instr.aload_n 0, 1, 0, 0, 0, []), (5, Instr.sipush 400, 3, 400, 0, 0, []), (8, Instr.newarray .byte, 2, 0, 0, 0, [1017]), (10, Instr.putfield 7, 3, 0, 10, 1, [858]), (13, Instr.aload_n 0, 1, 0, 0, 0, []), (14, Instr.sipush 300, 3, 300, 0, 0, []), (17, Instr.newarray .int, 2, 0, 0, 0, [91]), (19, Instr.putfield 13, 3, 0, 10, 3, [860]), (22, Instr.aload_n 0, 1, 0, 0, 0, []), (23, Instr.sipush 200, 3, 200, 0, 0, []), (26, Instr.newarray .int, 2, 0, 0, 0, [91]), (28, Instr.putfield 17, 3, 0, 10, 6, [863]), (31, Instr.aload_n 0, 1, 0, 0, 0, []), (32, Instr.sipush 200, 3, 200, 0, 0, []), (35, Instr.newarray .int, 2, 0, 0, 0, [91]), (37, Instr.putfield 20, 3, 0, 10, 7, [864]), (40, Instr.aload_n 0, 1, 0, 0, 0, []), (41, Instr.sipush 200, 3, 200, 0, 0, []), (44, Instr.newarray .int, 2, 0, 0, 0, [91]), (46, Instr.putfield 23, 3, 0, 10, 8, [865]), (49, Instr.aload_n 0, 1, 0, 0, 0, []), (50, Instr.sipush 800, 3, 800, 0, 0, []), (53, Instr.newarray .int, 2, 0, 0, 0, [91]), (55, Instr.putfield 26, 3, 0, 10, 9, [866]), (58, Instr.aload_n 0, 1, 0, 0, 0, []), (59, Instr.sipush 200, 3, 200, 0, 0, []), (62, Instr.newarray .int, 2, 0, 0, 0, [91]), (64, Instr.putfield 29, 3, 0, 10, 10, [867]), (67, Instr.aload_n 0, 1, 0, 0, 0, []), (68, Instr.bipush 100, 2, 100, 0, 0, []), (70, Instr.newarray .int, 2, 0, 0, 0, [91]), (72, Instr.putfield 32, 3, 0, 10, 12, [869]), (75, Instr.aload_n 0, 1, 0, 0, 0, []), (76, Instr.bipush 100, 2, 100, 0, 0, []), (78, Instr.newarray .int, 2, 0, 0, 0, [91]), (80, Instr.putfield 35, 3, 0, 10, 13, [870]), (83, Instr.aload_n 0, 1, 0, 0, 0, []), (84, Instr.bipush 100, 2, 100, 0, 0, []), (86, Instr.newarray .int, 2, 0, 0, 0, [91]), (88, Instr.putfield 38, 3, 0, 10, 14, [871]), (91, Instr.aload_n 0, 1, 0, 0, 0, []), (92, Instr.bipush 100, 2, 100, 0, 0, []), (94, Instr.newarray .boolean, 2, 0, 0, 0, [139]), (96, Instr.putfield 41, 3, 0, 10, 15, [872]), (99, Instr.aload_n 0, 1, 0, 0, 0, []), (100, Instr.bipush 100, 2, 100, 0, 0, []), (102, Instr.newarray .int, 2, 0, 0, 0, [91]), (104, Instr.putfield 45, 3, 0, 10, 17, [874]), (107, Instr.aload_n 0, 1, 0, 0, 0, []), (108, Instr.bipush 100, 2, 100, 0, 0, []), (110, Instr.newarray .int, 2, 0, 0, 0, [91]), (112, Instr.putfield 48, 3, 0, 10, 18, [875]), (115, Instr.aload_n 0, 1, 0, 0, 0, []), (116, Instr.sipush 200, 3, 200, 0, 0, []), (119, Instr.newarray .int, 2, 0, 0, 0, [91]), (121, Instr.putfield 51, 3, 0, 10, 20, [877]), (124, Instr.aload_n 0, 1, 0, 0, 0, []), (125, Instr.sipush 200, 3, 200, 0, 0, []), (128, Instr.newarray .int, 2, 0, 0, 0, [91]), (130, Instr.putfield 54, 3, 0, 10, 21, [878]), (133, Instr.aload_n 0, 1, 0, 0, 0, []), (134, Instr.sipush 200, 3, 200, 0, 0, []), (137, Instr.newarray .int, 2, 0, 0, 0, [91]), (139, Instr.putfield 57, 3, 0, 10, 22, [879]), (142, Instr.aload_n 0, 1, 0, 0, 0, []), (143, Instr.sipush 200, 3, 200, 0, 0, []), (146, Instr.newarray .int, 2, 0, 0, 0, [91]), (148, Instr.putfield 60, 3, 0, 10, 23, [880]), (151, Instr.aload_n 0, 1, 0, 0, 0, []), (152, Instr.sipush 400, 3, 400, 0, 0, []), (155, Instr.newarray .int, 2, 0, 0, 0, [91]), (157, Instr.putfield 63, 3, 0, 10, 24, [881]), (160, Instr.aload_n 0, 1, 0, 0, 0, []), (161, Instr.sipush 301, 3, 301, 0, 0, []), (164, Instr.newarray .int, 2, 0, 0, 0, [91]), (166, Instr.putfield 66, 3, 0, 10, 27, [884]), (169, Instr.aload_n 0, 1, 0, 0, 0, []), (170, Instr.sipush 400, 3, 400, 0, 0, []), (173, Instr.newarray .int, 2, 0, 0, 0, [91]), (175, Instr.putfield 69, 3, 0, 10, 29, [886]), (178, Instr.aload_n 0, 1, 0, 0, 0, []), (179, Instr.sipush 301, 3, 301, 0, 0, []), (182, Instr.newarray .int, 2, 0, 0, 0, [91]), (184, Instr.putfield 72, 3, 0, 10, 30, [887]), (187, Instr.aload_n 0, 1, 0, 0, 0, []), (188, Instr.sipush 300, 3, 300, 0, 0, []), (191, Instr.newarray .int, 2, 0, 0, 0, [91]), (193, Instr.putfield 75, 3, 0, 10, 32, [889]), (196, Instr.aload_n 0, 1, 0, 0, 0, []), (197, Instr.sipush 2600, 3, 2600, 0, 0, []), (200, Instr.newarray .int, 2, 0, 0, 0, [91]), (202, Instr.putfield 78, 3, 0, 10, 33, [890]), (205, Instr.aload_n 0, 1, 0, 0, 0, []), (206, Instr.sipush 301, 3, 301, 0, 0, []), (209, Instr.newarray .int, 2, 0, 0, 0, [91]), (211, Instr.putfield 81, 3, 0, 10, 35, [892]), (214, Instr.aload_n 0, 1, 0, 0, 0, []), (215, Instr.sipush 305, 3, 305, 0, 0, []), (218, Instr.newarray .int, 2, 0, 0, 0, [91]), (220, Instr.putfield 84, 3, 0, 10, 41, [898]), (223, Instr.aload_n 0, 1, 0, 0, 0, []), (224, Instr.sipush 2000, 3, 2000, 0, 0, []), (227, Instr.newarray .int, 2, 0, 0, 0, [91]), (229, Instr.putfield 87, 3, 0, 10, 44, [901]), (232, Instr.aload_n 0, 1, 0, 0, 0, []), (233, Instr.sipush 402, 3, 402, 0, 0, []), (236, Instr.newarray .int, 2, 0, 0, 0, [91]), (238, Instr.putfield 90, 3, 0, 10, 45, [902]), (241, Instr.aload_n 0, 1, 0, 0, 0, []), (242, Instr.sipush 402, 3, 402, 0, 0, []), (245, Instr.newarray .int, 2, 0, 0, 0, [91]), (247, Instr.putfield 93, 3, 0, 10, 46, [903]), (250, Instr.aload_n 0, 1, 0, 0, 0, []), (251, Instr.sipush 8000, 3, 8000, 0, 0, []), (254, Instr.newarray .byte, 2, 0, 0, 0, [1017]), (256, Instr.putfield 96, 3, 0, 10, 47, [904]), (259, Instr.aload_n 0, 1, 0, 0, 0, []), (260, Instr.sipush 8000, 3, 8000, 0, 0, []), (263, Instr.newarray .byte, 2, 0, 0, 0, [1017]), (265, Instr.putfield 99, 3, 0, 10, 49, [906]), (268, Instr.aload_n 0, 1, 0, 0, 0, []), (269, Instr.sipush 301, 3, 301, 0, 0, []), (272, Instr.newarray .int, 2, 0, 0, 0, [91]), (274, Instr.putfield 102, 3, 0, 10, 51, [908]), (277, Instr.aload_n 0, 1, 0, 0, 0, []), (278, Instr.sipush 402, 3, 402, 0, 0, []), (281, Instr.newarray .int, 2, 0, 0, 0, [91]), (283, Instr.putfield 105, 3, 0, 10, 52, [909]), (286, Instr.aload_n 0, 1, 0, 0, 0, []), (287, Instr.iconst 0, 1, 0, 0, 0, []), (288, Instr.putfield 108, 3, 1, 10, 4, [861]), (291, Instr.return_, 1, 0, 0, 0, [])]
def mm_T134 : List (Nat × mm_I) := [(0, Instr.aload_n 0, 1, 0, 0, 0, []), (1, Instr.iconst 0, 1, 0, 0, 0, []), (2, Instr.putfield 112, 3, 1, 10, 0, [857]), (5, Instr.iload_n 3, 1, 0, 0, 0, []), (6, Instr.iconst 0, 1, 0, 0, 0, []), (7, Instr.bipush 8, 2, 8, 0, 0, []), (9, Instr.invokestatic 116, 3, 0, 135, 3, [1022, 1023, 66, 1024]), (12, Instr.ifCond .ne 6, 3, 0, 18, 0, []), (15, Instr.bipush (-2), 2, (-2), 0, 0, []), (17, Instr.ireturn, 1, 0, 0, 0, []), (18, Instr.iload_n 3, 1, 0, 0, 0, []), (19, Instr.ifCond .ne 10, 3, 0, 29, 0, []), (22, Instr.aload_n 0, 1, 0, 0, 0, []), (23, Instr.iconst 0, 1, 0, 0, 0, []), (24, Instr.putfield 122, 3, 1, 10, 2, [859]), (27, Instr.iconst 0, 1, 0, 0, 0, []), (28, Instr.ireturn, 1, 0, 0, 0, []), (29, Instr.aload_n 0, 1, 0, 0, 0, []), (30, Instr.getfield 122, 3, 0, 10, 2, [859]), (33, Instr.iload_n 3, 1, 0, 0, 0, []), (34, Instr.iadd, 1, 0, 0, 0, []), (35, Instr.sipush 400, 3, 400, 0, 0, []), (38, Instr.if_icmp .le 6, 3, 0, 44, 0, []), (41, Instr.bipush (-4), 2, (-4), 0, 0, []), (43, Instr.ireturn, 1, 0, 0, 0, []), (44, Instr.iload_n 3, 1, 0, 0, 0, []), (45, Instr.iconst 1, 1, 1, 0, 0, []), (46, Instr.isub, 1, 0, 0, 0, []), (47, Instr.istore 4, 2, 0, 0, 0, []), (49, Instr.iload 4, 2, 0, 0, 0, []), (51, Instr.ifCond .lt 37, 3, 0, 88, 0, []), (54, Instr.aload_n 0, 1, 0, 0, 0, []), (55, Instr.getfield 7, 3, 0, 10, 1, [858]), (58, Instr.aload_n 0, 1, 0, 0, 0, []), (59, Instr.getfield 122, 3, 0, 10, 2, [859]), (62, Instr.lload_n 1, 1, 0, 0, 0, []), (63, Instr.bipush 8, 2, 8, 0, 0, []), (65, Instr.iload 4, 2, 0, 0, 0, []), (67, Instr.imul, 1, 0, 0, 0, []), (68, Instr.lshr, 1, 0, 0, 0, []), (69, Instr.l2i, 1, 0, 0, 0, []), (70, Instr.i2b, 1, 0, 0, 0, []), (71, Instr.bastore, 1, 0, 0, 0, []), (72, Instr.aload_n 0, 1, 0, 0, 0, []), (73, Instr.dup, 1, 0, 0, 0, []), (74, Instr.getfield 122, 3, 0, 10, 2, [859]), (77, Instr.iconst 1, 1, 1, 0, 0, []), (78, Instr.iadd, 1, 0, 0, 0, []), (79, Instr.putfield 122, 3, 1, 10, 2, [859]), (82, Instr.iinc 4 (-1), 3, 0, 0, 0, []), (85, Instr.goto (-36), 3, 0, 49, 0, []), (88, Instr.aload_n 0, 1, 0, 0, 0, []), (89, Instr.getfield 122, 3, 0, 10, 2, [859]), (92, Instr.ireturn, 1, 0, 0, 0, [])]
def mm_T135 : List (Nat × mm_I) := [(0, Instr.iload_n 0, 1, 0, 0, 0, []), (1, Instr.iload_n 1, 1, 0, 0, 0, []), (2, Instr.if_icmp .lt 12, 3, 0, 14, 0, []), (5, Instr.iload_n 0, 1, 0, 0, 0, []), (6, Instr.iload_n 2, 1, 0, 0, 0, []), (7, Instr.if_icmp .gt 7, 3, 0, 14, 0, []), (10, Instr.iconst 1, 1, 1, 0, 0, []), (11, Instr.goto 4, 3, 0, 15, 0, []), (14, Instr.iconst 0, 1, 0, 0, 0, []), (15, Instr.ireturn, 1, 1, 0, 0, [])]
def mm_T136 : List (Nat × mm_I) := [(0, Instr.aload_n 0, 1, 0, 0, 0, []), (1, Instr.iconst 0, 1, 0, 0, 0, []), (2, Instr.putfield 112, 3, 1, 10, 0, [857]), (5, Instr.aload_n 0, 1, 0, 0, 0, []), (6, Instr.invokevirtual 135, 3, 10, 137, 0, [1029, 1031, 24, 66, 1032]), (9, Instr.aload_n 0, 1, 0, 0, 0, []), (10, Instr.getfield 128, 3, 0, 10, 26, [883]), (13, Instr.bipush (-2), 2, (-2), 0, 0, []), (15, Instr.if_icmp .ne 6, 3, 0, 21, 0, []), (18, Instr.bipush (-4), 2, (-4), 0, 0, []), (20, Instr.ireturn, 1, 0, 0, 0, []), (21, Instr.aload_n 0, 1, 0, 0, 0, []), (22, Instr.getfield 128, 3, 0, 10, 26, [883]), (25, Instr.ifCond .lt 11, 3, 0, 36, 0, []), (28, Instr.bipush (-10), 2, (-10), 0, 0, []), (30, Instr.aload_n 0, 1, 0, 0, 0, []), (31, Instr.getfield 128, 3, 0, 10, 26, [883]), (34, Instr.isub, 1, 0, 0, 0, []), (35, Instr.ireturn, 1, 0, 0, 0, []), (36, Instr.iconst 0, 1, 0, 0, 0, []), (37, Instr.istore_n 1, 1, 0, 0, 0, []), (38, Instr.iload_n 1, 1, 0, 0, 0, []), (39, Instr.aload_n 0, 1, 0, 0, 0, []), (40, Instr.getfield 125, 3, 0, 10, 25, [882]), (43, Instr.if_icmp .ge 21, 3, 0, 64, 0, []), (46, Instr.aload_n 0, 1, 0, 0, 0, []), (47, Instr.getfield 13, 3, 0, 10, 3, [860]), (50, Instr.iload_n 1, 1, 0, 0, 0, []), (51, Instr.aload_n 0, 1, 0, 0, 0, []), (52, Instr.getfield 63, 3, 0, 10, 24, [881]), (55, Instr.iload_n 1, 1, 0, 0, 0, []), (56, Instr.iaload, 1, 0, 0, 0, []), (57, Instr.iastore, 1, 0, 0, 0, []), (58, Instr.iinc 1 1, 3, 0, 0, 0, []), (61, Instr.goto (-23), 3, 0, 38, 0, []), (64, Instr.aload_n 0, 1, 0, 0, 0, []), (65, Instr.aload_n 0, 1, 0, 0, 0, []), (66, Instr.getfield 125, 3, 0, 10, 25, [882]), (69, Instr.putfield 108, 3, 1, 10, 4, [861]), (72, Instr.aload_n 0, 1, 0, 0, 0, []), (73, Instr.getfield 108, 3, 0, 10, 4, [861]), (76, Instr.ireturn, 1, 0, 0, 0, [])]
def mm_T137 : List (Nat × mm_I) := [(0, Instr.aload_n 0, 1, 0, 0, 0, []), (1, Instr.iconst 0, 1, 0, 0, 0, []), (2, Instr.putfield 125, 3, 1, 10, 25, [882]), (5, Instr.aload_n 0, 1, 0, 0, 0, []), (6, Instr.iconst (-1), 1, (-1), 0, 0, []), (7, Instr.putfield 128, 3, 1, 10, 26, [883]), (10, Instr.iconst 0, 1, 0, 0, 0, []), (11, Instr.istore_n 1, 1, 0, 0, 0, []), (12, Instr.iload_n 1, 1, 0, 0, 0, []), (13, Instr.aload_n 0, 1, 0, 0, 0, []), (14, Instr.getfield 122, 3, 0, 10, 2, [859]), (17, Instr.if_icmp .ge 321, 3, 0, 338, 0, []), (20, Instr.aload_n 0, 1, 0, 0, 0, []), (21, Instr.getfield 128, 3, 0, 10, 26, [883]), (24, Instr.iconst (-1), 1, (-1), 0, 0, []), (25, Instr.if_icmp .ne 313, 3, 0, 338, 0, []), (28, Instr.aload_n 0, 1, 0, 0, 0, []), (29, Instr.iload_n 1, 1, 0, 0, 0, []), (30, Instr.invokevirtual 131, 3, 10, 138, 1, [1033, 1035, 25, 66, 1036]), (33, Instr.istore_n 2, 1, 0, 0, 0, []), (34, Instr.iload_n 2, 1, 0, 0, 0, []), (35, Instr.sipush 128, 3, 128, 0, 0, []), (38, Instr.if_icmp .ge 7, 3, 0, 45, 0, []), (41, Instr.iconst 0, 1, 0, 0, 0, []), (42, Instr.goto 55, 3, 0, 97, 0, []), (45, Instr.iload_n 2, 1, 0, 0, 0, []), (46, Instr.sipush 194, 3, 194, 0, 0, []), (49, Instr.sipush 223, 3, 223, 0, 0, []), (52, Instr.invokestatic 116, 3, 0, 135, 3, [1022, 1023, 66, 1024]), (55, Instr.ifCond .eq 7, 3, 0, 62, 0, []), (58, Instr.iconst 1, 1, 1, 0, 0, []), (59, Instr.goto 38, 3, 0, 97, 0, []), (62, Instr.iload_n 2, 1, 0, 0, 0, []), (63, Instr.sipush 224, 3, 224, 0, 0, []), (66, Instr.sipush 239, 3, 239, 0, 0, []), (69, Instr.invokestatic 116, 3, 0, 135, 3, [1022, 1023, 66, 1024]), (72, Instr.ifCond .eq 7, 3, 0, 79, 0, []), (75, Instr.iconst 2, 1, 2, 0, 0, []), (76, Instr.goto 21, 3, 0, 97, 0, []), (79, Instr.iload_n 2, 1, 0, 0, 0, []), (80, Instr.sipush 240, 3, 240, 0, 0, []), (83, Instr.sipush 244, 3, 244, 0, 0, []), (86, Instr.invokestatic 116, 3, 0, 135, 3, [1022, 1023, 66, 1024]), (89, Instr.ifCond .eq 7, 3, 0, 96, 0, []), (92, Instr.iconst 3, 1, 3, 0, 0, []), (93, Instr.goto 4, 3, 0, 97, 0, []), (96, Instr.iconst (-1), 1, (-1), 0, 0, []), (97, Instr.istore_n 3, 1, 0, 0, 0, []), (98, Instr.iload_n 3, 1, 0, 0, 0, []), (99, Instr.ifCond .ge 9, 3, 0, 108, 0, []), (102, Instr.aload_n 0, 1, 0, 0, 0, []), (103, Instr.iload_n 1, 1, 0, 0, 0, []), (104, Instr.putfield 128, 3, 1, 10, 26, [883]), (107, Instr.return_, 1, 0, 0, 0, []), (108, Instr.iload_n 3, 1, 0, 0, 0, []), (109, Instr.ifCond .ne 7, 3, 0, 116, 0, []), (112, Instr.iload_n 2, 1, 0, 0, 0, []), (113, Instr.goto 31, 3, 0, 144, 0, []), (116, Instr.iload_n 3, 1, 0, 0, 0, []), (117, Instr.iconst 1, 1, 1, 0, 0, []), (118, Instr.if_icmp .ne 10, 3, 0, 128, 0, []), (121, Instr.iload_n 2, 1, 0, 0, 0, []), (122, Instr.bipush 31, 2, 31, 0, 0, []), (124, Instr.iand, 1, 0, 0, 0, []), (125, Instr.goto 19, 3, 0, 144, 0, []), (128, Instr.iload_n 3, 1, 0, 0, 0, []), (129, Instr.iconst 2, 1, 2, 0, 0, []), (130, Instr.if_icmp .ne 10, 3, 0, 140, 0, []), (133, Instr.iload_n 2, 1, 0, 0, 0, []), (134, Instr.bipush 15, 2, 15, 0, 0, []), (136, Instr.iand, 1, 0, 0, 0, []), (137, Instr.goto 7, 3, 0, 144, 0, []), (140, Instr.iload_n 2, 1, 0, 0, 0, []), (141, Instr.bipush 7, 2, 7, 0, 0, []), (143, Instr.iand, 1, 0, 0, 0, []), (144, Instr.istore 4, 2, 0, 0, 0, []), (146, Instr.iconst 1, 1, 1, 0, 0, []), (147, Instr.istore 5, 2, 0, 0, 0, []), (149, Instr.iload 5, 2, 0, 0, 0, []), (151, Instr.iload_n 3, 1, 0, 0, 0, []), (152, Instr.if_icmp .gt 139, 3, 0, 291, 0, []), (155, Instr.aload_n 0, 1, 0, 0, 0, []), (156, Instr.iload_n 1, 1, 0, 0, 0, []), (157, Instr.iload 5, 2, 0, 0, 0, []), (159, Instr.iadd, 1, 0, 0, 0, []), (160, Instr.invokevirtual 131, 3, 10, 138, 1, [1033, 1035, 25, 66, 1036]), (163, Instr.istore 6, 2, 0, 0, 0, []), (165, Instr.iload 5, 2, 0, 0, 0, []), (167, Instr.iconst 1, 1, 1, 0, 0, []), (168, Instr.if_icmp .le 9, 3, 0, 177, 0, []), (171, Instr.sipush 128, 3, 128, 0, 0, []), (174, Instr.goto 32, 3, 0, 206, 0, []), (177, Instr.iload_n 2, 1, 0, 0, 0, []), (178, Instr.sipush 224, 3, 224, 0, 0, []), (181, Instr.if_icmp .ne 9, 3, 0, 190, 0, []), (184, Instr.sipush 160, 3, 160, 0, 0, []), (187, Instr.goto 19, 3, 0, 206, 0, []), (190, Instr.iload_n 2, 1, 0, 0, 0, []), (191, Instr.sipush 240, 3, 240, 0, 0, []), (194, Instr.if_icmp .ne 9, 3, 0, 203, 0, []), (197, Instr.sipush 144, 3, 144, 0, 0, []), (200, Instr.goto 6, 3, 0, 206, 0, []), (203, Instr.sipush 128, 3, 128, 0, 0, []), (206, Instr.istore 7, 2, 0, 0, 0, []), (208, Instr.iload 5, 2, 0, 0, 0, []), (210, Instr.iconst 1, 1, 1, 0, 0, []), (211, Instr.if_icmp .le 9, 3, 0, 220, 0, []), (214, Instr.sipush 191, 3, 191, 0, 0, []), (217, Instr.goto 32, 3, 0, 249, 0, []), (220, Instr.iload_n 2, 1, 0, 0, 0, []), (221, Instr.sipush 237, 3, 237, 0, 0, []), (224, Instr.if_icmp .ne 9, 3, 0, 233, 0, []), (227, Instr.sipush 159, 3, 159, 0, 0, []), (230, Instr.goto 19, 3, 0, 249, 0, []), (233, Instr.iload_n 2, 1, 0, 0, 0, []), (234, Instr.sipush 244, 3, 244, 0, 0, []), (237, Instr.if_icmp .ne 9, 3, 0, 246, 0, []), (240, Instr.sipush 143, 3, 143, 0, 0, []), (243, Instr.goto 6, 3, 0, 249, 0, []), (246, Instr.sipush 191, 3, 191, 0, 0, []), (249, Instr.istore 8, 2, 0, 0, 0, []), (251, Instr.iload 6, 2, 0, 0, 0, []), (253, Instr.iload 7, 2, 0, 0, 0, []), (255, Instr.iload 8, 2, 0, 0, 0, []), (257, Instr.invokestatic 116, 3, 0, 135, 3, [1022, 1023, 66, 1024]), (260, Instr.ifCond .ne 12, 3, 0, 272, 0, []), (263, Instr.aload_n 0, 1, 0, 0, 0, []), (264, Instr.iload_n 1, 1, 0, 0, 0, []), (265, Instr.iload 5, 2, 0, 0, 0, []), (267, Instr.iadd, 1, 0, 0, 0, []), (268, Instr.putfield 128, 3, 1, 10, 26, [883]), (271, Instr.return_, 1, 0, 0, 0, []), (272, Instr.iload 4, 2, 0, 0, 0, []), (274, Instr.bipush 6, 2, 6, 0, 0, []), (276, Instr.ishl, 1, 0, 0, 0, []), (277, Instr.iload 6, 2, 0, 0, 0, []), (279, Instr.bipush 63, 2, 63, 0, 0, []), (281, Instr.iand, 1, 0, 0, 0, []), (282, Instr.ior, 1, 0, 0, 0, []), (283, Instr.istore 4, 2, 0, 0, 0, []), (285, Instr.iinc 5 1, 3, 0, 0, 0, []), (288, Instr.goto (-139), 3, 0, 149, 0, []), (291, Instr.aload_n 0, 1, 0, 0, 0, []), (292, Instr.getfield 125, 3, 0, 10, 25, [882]), (295, Instr.sipush 300, 3, 300, 0, 0, []), (298, Instr.if_icmp .ne 10, 3, 0, 308, 0, []), (301, Instr.aload_n 0, 1, 0, 0, 0, []), (302, Instr.bipush (-2), 2, (-2), 0, 0, []), (304, Instr.putfield 128, 3, 1, 10, 26, [883]), (307, Instr.return_, 1, 0, 0, 0, []), (308, Instr.aload_n 0, 1, 0, 0, 0, []), (309, Instr.getfield 63, 3, 0, 10, 24, [881]), (312, Instr.aload_n 0, 1, 0, 0, 0, []), (313, Instr.getfield 125, 3, 0, 10, 25, [882]), (316, Instr.iload 4, 2, 0, 0, 0, []), (318, Instr.iastore, 1, 0, 0, 0, []), (319, Instr.aload_n 0, 1, 0, 0, 0, []), (320, Instr.dup, 1, 0, 0, 0, []), (321, Instr.getfield 125, 3, 0, 10, 25, [882]), (324, Instr.iconst 1, 1, 1, 0, 0, []), (325, Instr.iadd, 1, 0, 0, 0, []), (326, Instr.putfield 125, 3, 1, 10, 25, [882]), (329, Instr.iload_n 1, 1, 0, 0, 0, []), (330, Instr.iload_n 3, 1, 0, 0, 0, []), (331, Instr.iconst 1, 1, 1, 0, 0, []), (332, Instr.iadd, 1, 0, 0, 0, []), (333, Instr.iadd, 1, 0, 0, 0, []), (334, Instr.istore_n 1, 1, 0, 0, 0, []), (335, Instr.goto (-323), 3, 0, 12, 0, []), (338, Instr.return_, 1, 0, 0, 0, [])]
def mm_T138 : List (Nat × mm_I) := [(0, Instr.iload_n 1, 1, 0, 0, 0, []), (1, Instr.aload_n 0, 1, 0, 0, 0, []), (2, Instr.getfield 122, 3, 0, 10, 2, [859]), (5, Instr.if_icmp .ge 16, 3, 0, 21, 0, []), (8, Instr.aload_n 0, 1, 0, 0, 0, []), (9, Instr.getfield 7, 3, 0, 10, 1, [858]), (12, Instr.iload_n 1, 1, 0, 0, 0, []), (13, Instr.baload, 1, 0, 0, 0, []), (14, Instr.sipush 255, 3, 255, 0, 0, []), (17, Instr.iand, 1, 0, 0, 0, []), (18, Instr.goto 4, 3, 0, 22, 0, []), (21, Instr.iconst (-1), 1, (-1), 0, 0, []), (22, Instr.ireturn, 1, 0, 0, 0, [])]
def mm_T139 : List (Nat × mm_I) := [(0, Instr.aload_n 0, 1, 0, 0, 0, []), (1, Instr.iconst 0, 1, 0, 0, 0, []), (2, Instr.putfield 112, 3, 1, 10, 0, [857]), (5, Instr.iload_n 1, 1, 0, 0, 0, []), (6, Instr.iconst 0, 1, 0, 0, 0, []), (7, Instr.aload_n 0, 1, 0, 0, 0, []), (8, Instr.getfield 108, 3, 0, 10, 4, [861]), (11, Instr.iconst 1, 1, 1, 0, 0, []), (12, Instr.isub, 1, 0, 0, 0, []), (13, Instr.invokestatic 116, 3, 0, 135, 3, [1022, 1023, 66, 1024]), (16, Instr.ifCond .eq 12, 3, 0, 28, 0, []), (19, Instr.aload_n 0, 1, 0, 0, 0, []), (20, Instr.getfield 13, 3, 0, 10, 3, [860]), (23, Instr.iload_n 1, 1, 0, 0, 0, []), (24, Instr.iaload, 1, 0, 0, 0, []), (25, Instr.goto 4, 3, 0, 29, 0, []), (28, Instr.iconst (-1), 1, (-1), 0, 0, []), (29, Instr.ireturn, 1, 0, 0, 0, [])]
def mm_T140 : List (Nat × mm_I) := [(0, Instr.aload_n 0, 1, 0, 0, 0, []), (1, Instr.iconst 0, 1, 0, 0, 0, []), (2, Instr.putfield 112, 3, 1, 10, 0, [857]), (5, Instr.iload_n 1, 1, 0, 0, 0, []), (6, Instr.iconst (-1), 1, (-1), 0, 0, []), (7, Instr.if_icmp .ne 10, 3, 0, 17, 0, []), (10, Instr.aload_n 0, 1, 0, 0, 0, []), (11, Instr.iconst 0, 1, 0, 0, 0, []), (12, Instr.putfield 108, 3, 1, 10, 4, [861]), (15, Instr.iconst 0, 1, 0, 0, 0, []), (16, Instr.ireturn, 1, 0, 0, 0, []), (17, Instr.iload_n 1, 1, 0, 0, 0, []), (18, Instr.invokestatic 138, 3, 0, 141, 1, [1045, 1046, 66, 1047]), (21, Instr.ifCond .ne 6, 3, 0, 27, 0, []), (24, Instr.bipush (-2), 2, (-2), 0, 0, []), (26, Instr.ireturn, 1, 0, 0, 0, []), (27, Instr.aload_n 0, 1, 0, 0, 0, []), (28, Instr.getfield 108, 3, 0, 10, 4, [861]), (31, Instr.sipush 300, 3, 300, 0, 0, []), (34, Instr.if_icmp .ne 6, 3, 0, 40, 0, []), (37, Instr.bipush (-4), 2, (-4), 0, 0, []), (39, Instr.ireturn, 1, 0, 0, 0, []), (40, Instr.aload_n 0, 1, 0, 0, 0, []), (41, Instr.getfield 13, 3, 0, 10, 3, [860]), (44, Instr.aload_n 0, 1, 0, 0, 0, []), (45, Instr.getfield 108, 3, 0, 10, 4, [861]), (48, Instr.iload_n 1, 1, 0, 0, 0, []), (49, Instr.iastore, 1, 0, 0, 0, []), (50, Instr.aload_n 0, 1, 0, 0, 0, []), (51, Instr.dup, 1, 0, 0, 0, []), (52, Instr.getfield 108, 3, 0, 10, 4, [861]), (55, Instr.iconst 1, 1, 1, 0, 0, []), (56, Instr.iadd, 1, 0, 0, 0, []), (57, Instr.putfield 108, 3, 1, 10, 4, [861]), (60, Instr.aload_n 0, 1, 0, 0, 0, []), (61, Instr.getfield 108, 3, 0, 10, 4, [861]), (64, Instr.ireturn, 1, 0, 0, 0, [])]
def mm_T141 : List (Nat × mm_I) := [(0, Instr.iload_n 0, 1, 0, 0, 0, []), (1, Instr.iconst 0, 1, 0, 0, 0, []), (2, Instr.ldc 115, 2, 1114111, 0, 0, [1048]), (4, Instr.invokestatic 116, 3, 0, 135, 3, [1022, 1023, 66, 1024]), (7, Instr.ifCond .eq 18, 3, 0, 25, 0, []), (10, Instr.iload_n 0, 1, 0, 0, 0, []), (11, Instr.ldc 120, 2, 55296, 0, 0, [1049]), (13, Instr.ldc 121, 2, 57343, 0, 0, [1050]), (15, Instr.invokestatic 116, 3, 0, 135, 3, [1022, 1023, 66, 1024]), (18, Instr.ifCond .ne 7, 3, 0, 25, 0, []), (21, Instr.iconst 1, 1, 1, 0, 0, []), (22, Instr.goto 4, 3, 0, 26, 0, []), (25, Instr.iconst 0, 1, 0, 0, 0, []), (26, Instr.ireturn, 1, 1, 0, 0, [])]
def mm_T142 : List (Nat × mm_I) := [(0, Instr.aload_n 0, 1, 0, 0, 0, []), (1, Instr.iconst 0, 1, 0, 0, 0, []), (2, Instr.putfield 112, 3, 1, 10, 0, [857]), (5, Instr.iload_n 1, 1, 0, 0, 0, []), (6, Instr.iconst 0, 1, 0, 0, 0, []), (7, Instr.ldc 115, 2, 1114111, 0, 0, [1048]), (9, Instr.invokestatic 116, 3, 0, 135, 3, [1022, 1023, 66, 1024]), (12, Instr.ifCond .eq 32, 3, 0, 44, 0, []), (15, Instr.iload_n 2, 1, 0, 0, 0, []), (16, Instr.iconst 0, 1, 0, 0, 0, []), (17, Instr.ldc 115, 2, 1114111, 0, 0, [1048]), (19, Instr.invokestatic 116, 3, 0, 135, 3, [1022, 1023, 66, 1024]), (22, Instr.ifCond .eq 22, 3, 0, 44, 0, []), (25, Instr.iload_n 1, 1, 0, 0, 0, []), (26, Instr.iload_n 2, 1, 0, 0, 0, []), (27, Instr.if_icmp .gt 17, 3, 0, 44, 0, []), (30, Instr.iload_n 3, 1, 0, 0, 0, []), (31, Instr.ifCond .eq 16, 3, 0, 47, 0, []), (34, Instr.iload_n 3, 1, 0, 0, 0, []), (35, Instr.iconst 1, 1, 1, 0, 0, []), (36, Instr.if_icmp .eq 11, 3, 0, 47, 0, []), (39, Instr.iload_n 3, 1, 0, 0, 0, []), (40, Instr.iconst 3, 1, 3, 0, 0, []), (41, Instr.if_icmp .eq 6, 3, 0, 47, 0, []), (44, Instr.bipush (-2), 2, (-2), 0, 0, []), (46, Instr.ireturn, 1, 0, 0, 0, []), (47, Instr.aload_n 0, 1, 0, 0, 0, []), (48, Instr.getfield 142, 3, 0, 10, 5, [862]), (51, Instr.sipush 200, 3, 200, 0, 0, []), (54, Instr.if_icmp .ne 6, 3, 0, 60, 0, []), (57, Instr.bipush (-4), 2, (-4), 0, 0, []), (59, Instr.ireturn, 1, 0, 0, 0, []), (60, Instr.aload_n 0, 1, 0, 0, 0, []), (61, Instr.iload_n 1, 1, 0, 0, 0, []), (62, Instr.iload_n 2, 1, 0, 0, 0, []), (63, Instr.iload_n 3, 1, 0, 0, 0, []), (64, Instr.invokevirtual 145, 3, 10, 143, 3, [1055, 1057, 26, 66, 1058]), (67, Instr.iconst 1, 1, 1, 0, 0, []), (68, Instr.ireturn, 1, 0, 0, 0, [])]
def mm_T143 : List (Nat × mm_I) := [(0, Instr.aload_n 0, 1, 0, 0, 0, []), (1, Instr.getfield 17, 3, 0, 10, 6, [863]), (4, Instr.aload_n 0, 1, 0, 0, 0, []), (5, Instr.getfield 142, 3, 0, 10, 5, [862]), (8, Instr.iload_n 1, 1, 0, 0, 0, []), (9, Instr.iastore, 1, 0, 0, 0, []), (10, Instr.aload_n 0, 1, 0, 0, 0, []), (11, Instr.getfield 20, 3, 0, 10, 7, [864]), (14, Instr.aload_n 0, 1, 0, 0, 0, []), (15, Instr.getfield 142, 3, 0, 10, 5, [862]), (18, Instr.iload_n 2, 1, 0, 0, 0, []), (19, Instr.iastore, 1, 0, 0, 0, []), (20, Instr.aload_n 0, 1, 0, 0, 0, []), (21, Instr.getfield 23, 3, 0, 10, 8, [865]), (24, Instr.aload_n 0, 1, 0, 0, 0, []), (25, Instr.getfield 142, 3, 0, 10, 5, [862]), (28, Instr.iload_n 3, 1, 0, 0, 0, []), (29, Instr.iastore, 1, 0, 0, 0, []), (30, Instr.aload_n 0, 1, 0, 0, 0, []), (31, Instr.getfield 29, 3, 0, 10, 10, [867]), (34, Instr.aload_n 0, 1, 0, 0, 0, []), (35, Instr.getfield 142, 3, 0, 10, 5, [862]), (38, Instr.iconst 0, 1, 0, 0, 0, []), (39, Instr.iastore, 1, 0, 0, 0, []), (40, Instr.aload_n 0, 1, 0, 0, 0, []), (41, Instr.dup, 1, 0, 0, 0, []), (42, Instr.getfield 142, 3, 0, 10, 5, [862]), (45, Instr.iconst 1, 1, 1, 0, 0, []), (46, Instr.iadd, 1, 0, 0, 0, []), (47, Instr.putfield 142, 3, 1, 10, 5, [862]), (50, Instr.return_, 1, 0, 0, 0, [])]
def mm_T144 : List (Nat × mm_I) := [(0, Instr.aload_n 0, 1, 0, 0, 0, []), (1, Instr.iconst 0, 1, 0, 0, 0, []), (2, Instr.putfield 112, 3, 1, 10, 0, [857]), (5, Instr.iload_n 1, 1, 0, 0, 0, []), (6, Instr.invokestatic 138, 3, 0, 141, 1, [1045, 1046, 66, 1047]), (9, Instr.ifCond .eq 15, 3, 0, 24, 0, []), (12, Instr.aload_n 0, 1, 0, 0, 0, []), (13, Instr.getfield 108, 3, 0, 10, 4, [861]), (16, Instr.iconst 1, 1, 1, 0, 0, []), (17, Instr.iconst 4, 1, 4, 0, 0, []), (18, Instr.invokestatic 116, 3, 0, 135, 3, [1022, 1023, 66, 1024]), (21, Instr.ifCond .ne 6, 3, 0, 27, 0, []), (24, Instr.bipush (-2), 2, (-2), 0, 0, []), (26, Instr.ireturn, 1, 0, 0, 0, []), (27, Instr.aload_n 0, 1, 0, 0, 0, []), (28, Instr.getfield 142, 3, 0, 10, 5, [862]), (31, Instr.sipush 200, 3, 200, 0, 0, []), (34, Instr.if_icmp .ne 6, 3, 0, 40, 0, []), (37, Instr.bipush (-4), 2, (-4), 0, 0, []), (39, Instr.ireturn, 1, 0, 0, 0, []), (40, Instr.aload_n 0, 1, 0, 0, 0, []), (41, Instr.iload_n 1, 1, 0, 0, 0, []), (42, Instr.iload_n 1, 1, 0, 0, 0, []), (43, Instr.iconst 2, 1, 2, 0, 0, []), (44, Instr.invokevirtual 145, 3, 10, 143, 3, [1055, 1057, 26, 66, 1058]), (47, Instr.iconst 0, 1, 0, 0, 0, []), (48, Instr.istore_n 2, 1, 0, 0, 0, []), (49, Instr.iload_n 2, 1, 0, 0, 0, []), (50, Instr.aload_n 0, 1, 0, 0, 0, []), (51, Instr.getfield 108, 3, 0, 10, 4, [861]), (54, Instr.if_icmp .ge 30, 3, 0, 84, 0, []), (57, Instr.aload_n 0, 1, 0, 0, 0, []), (58, Instr.getfield 26, 3, 0, 10, 9, [866]), (61, Instr.iconst 4, 1, 4, 0, 0, []), (62, Instr.aload_n 0, 1, 0, 0, 0, []), (63, Instr.getfield 142, 3, 0, 10, 5, [862]), (66, Instr.iconst 1, 1, 1, 0, 0, []), (67, Instr.isub, 1, 0, 0, 0, []), (68, Instr.imul, 1, 0, 0, 0, []), (69, Instr.iload_n 2, 1, 0, 0, 0, []), (70, Instr.iadd, 1, 0, 0, 0, []), (71, Instr.aload_n 0, 1, 0, 0, 0, []), (72, Instr.getfield 13, 3, 0, 10, 3, [860]), (75, Instr.iload_n 2, 1, 0, 0, 0, []), (76, Instr.iaload, 1, 0, 0, 0, []), (77, Instr.iastore, 1, 0, 0, 0, []), (78, Instr.iinc 2 1, 3, 0, 0, 0, []), (81, Instr.goto (-32), 3, 0, 49, 0, []), (84, Instr.aload_n 0, 1, 0, 0, 0, []), (85, Instr.getfield 29, 3, 0, 10, 10, [867]), (88, Instr.aload_n 0, 1, 0, 0, 0, []), (89, Instr.getfield 142, 3, 0, 10, 5, [862]), (92, Instr.iconst 1, 1, 1, 0, 0, []), (93, Instr.isub, 1, 0, 0, 0, []), (94, Instr.aload_n 0, 1, 0, 0, 0, []), (95, Instr.getfield 108, 3, 0, 10, 4, [861]), (98, Instr.iastore, 1, 0, 0, 0, []), (99, Instr.iconst 1, 1, 1, 0, 0, []), (100, Instr.ireturn, 1, 0, 0, 0, [])]
def mm_T145 : List (Nat × mm_I) := [(0, Instr.aload_n 0, 1, 0, 0, 0, []), (1, Instr.iconst 0, 1, 0, 0, 0, []), (2, Instr.putfield 112, 3, 1, 10, 0, [857]), (5, Instr.iload_n 1, 1, 0, 0, 0, []), (6, Instr.invokestatic 138, 3, 0, 141, 1, [1045, 1046, 66, 1047]), (9, Instr.ifCond .eq 59, 3, 0, 68, 0, []), (12, Instr.iload_n 2, 1, 0, 0, 0, []), (13, Instr.invokestatic 138, 3, 0, 141, 1, [1045, 1046, 66, 1047]), (16, Instr.ifCond .eq 52, 3, 0, 68, 0, []), (19, Instr.iload_n 3, 1, 0, 0, 0, []), (20, Instr.invokestatic 138, 3, 0, 141, 1, [1045, 1046, 66, 1047]), (23, Instr.ifCond .eq 45, 3, 0, 68, 0, []), (26, Instr.iload_n 2, 1, 0, 0, 0, []), (27, Instr.iload_n 1, 1, 0, 0, 0, []), (28, Instr.if_icmp .ge 40, 3, 0, 68, 0, []), (31, Instr.iload_n 3, 1, 0, 0, 0, []), (32, Instr.iload_n 1, 1, 0, 0, 0, []), (33, Instr.if_icmp .ge 35, 3, 0, 68, 0, []), (36, Instr.iload_n 2, 1, 0, 0, 0, []), (37, Instr.ifCond .eq 31, 3, 0, 68, 0, []), (40, Instr.iload_n 1, 1, 0, 0, 0, []), (41, Instr.sipush 128, 3, 128, 0, 0, []), (44, Instr.if_icmp .lt 24, 3, 0, 68, 0, []), (47, Instr.iload_n 1, 1, 0, 0, 0, []), (48, Instr.invokestatic 157, 3, 0, 146, 1, [1067, 1068, 66, 1069]), (51, Instr.ifCond .ne 17, 3, 0, 68, 0, []), (54, Instr.iload_n 2, 1, 0, 0, 0, []), (55, Instr.invokestatic 157, 3, 0, 146, 1, [1067, 1068, 66, 1069]), (58, Instr.ifCond .ne 10, 3, 0, 68, 0, []), (61, Instr.iload_n 3, 1, 0, 0, 0, []), (62, Instr.invokestatic 157, 3, 0, 146, 1, [1067, 1068, 66, 1069]), (65, Instr.ifCond .eq 6, 3, 0, 71, 0, []), (68, Instr.bipush (-2), 2, (-2), 0, 0, []), (70, Instr.ireturn, 1, 0, 0, 0, []), (71, Instr.iconst 0, 1, 0, 0, 0, []), (72, Instr.istore 5, 2, 0, 0, 0, []), (74, Instr.iload 5, 2, 0, 0, 0, []), (76, Instr.aload_n 0, 1, 0, 0, 0, []), (77, Instr.getfield 160, 3, 0, 10, 11, [868]), (80, Instr.if_icmp .ge 76, 3, 0, 156, 0, []), (83, Instr.iload_n 3, 1, 0, 0, 0, []), (84, Instr.ifCond .eq 44, 3, 0, 128, 0, []), (87, Instr.iload 4, 2, 0, 0, 0, []), (89, Instr.ifCond .ne 39, 3, 0, 128, 0, []), (92, Instr.aload_n 0, 1, 0, 0, 0, []), (93, Instr.getfield 41, 3, 0, 10, 15, [872]), (96, Instr.iload 5, 2, 0, 0, 0, []), (98, Instr.baload, 1, 0, 0, 0, []), (99, Instr.ifCond .ne 29, 3, 0, 128, 0, []), (102, Instr.aload_n 0, 1, 0, 0, 0, []), (103, Instr.getfield 35, 3, 0, 10, 13, [870]), (106, Instr.iload 5, 2, 0, 0, 0, []), (108, Instr.iaload, 1, 0, 0, 0, []), (109, Instr.iload_n 2, 1, 0, 0, 0, []), (110, Instr.if_icmp .ne 18, 3, 0, 128, 0, []), (113, Instr.aload_n 0, 1, 0, 0, 0, []), (114, Instr.getfield 38, 3, 0, 10, 14, [871]), (117, Instr.iload 5, 2, 0, 0, 0, []), (119, Instr.iaload, 1, 0, 0, 0, []), (120, Instr.iload_n 3, 1, 0, 0, 0, []), (121, Instr.if_icmp .ne 7, 3, 0, 128, 0, []), (124, Instr.iconst 1, 1, 1, 0, 0, []), (125, Instr.goto 4, 3, 0, 129, 0, []), (128, Instr.iconst 0, 1, 0, 0, 0, []), (129, Instr.istore 6, 2, 0, 0, 0, []), (131, Instr.aload_n 0, 1, 0, 0, 0, []), (132, Instr.getfield 32, 3, 0, 10, 12, [869]), (135, Instr.iload 5, 2, 0, 0, 0, []), (137, Instr.iaload, 1, 0, 0, 0, []), (138, Instr.iload_n 1, 1, 0, 0, 0, []), (139, Instr.if_icmp .eq 8, 3, 0, 147, 0, []), (142, Instr.iload 6, 2, 0, 0, 0, []), (144, Instr.ifCond .eq 6, 3, 0, 150, 0, []), (147, Instr.bipush (-3), 2, (-3), 0, 0, []), (149, Instr.ireturn, 1, 0, 0, 0, []), (150, Instr.iinc 5 1, 3, 0, 0, 0, []), (153, Instr.goto (-79), 3, 0, 74, 0, []), (156, Instr.aload_n 0, 1, 0, 0, 0, []), (157, Instr.getfield 160, 3, 0, 10, 11, [868]), (160, Instr.bipush 100, 2, 100, 0, 0, []), (162, Instr.if_icmp .ne 6, 3, 0, 168, 0, []), (165, Instr.bipush (-4), 2, (-4), 0, 0, []), (167, Instr.ireturn, 1, 0, 0, 0, []), (168, Instr.aload_n 0, 1, 0, 0, 0, []), (169, Instr.getfield 32, 3, 0, 10, 12, [869]), (172, Instr.aload_n 0, 1, 0, 0, 0, []), (173, Instr.getfield 160, 3, 0, 10, 11, [868]), (176, Instr.iload_n 1, 1, 0, 0, 0, []), (177, Instr.iastore, 1, 0, 0, 0, []), (178, Instr.aload_n 0, 1, 0, 0, 0, []), (179, Instr.getfield 35, 3, 0, 10, 13, [870]), (182, Instr.aload_n 0, 1, 0, 0, 0, []), (183, Instr.getfield 160, 3, 0, 10, 11, [868]), (186, Instr.iload_n 2, 1, 0, 0, 0, []), (187, Instr.iastore, 1, 0, 0, 0, []), (188, Instr.aload_n 0, 1, 0, 0, 0, []), (189, Instr.getfield 38, 3, 0, 10, 14, [871]), (192, Instr.aload_n 0, 1, 0, 0, 0, []), (193, Instr.getfield 160, 3, 0, 10, 11, [868]), (196, Instr.iload_n 3, 1, 0, 0, 0, []), (197, Instr.iastore, 1, 0, 0, 0, []), (198, Instr.aload_n 0, 1, 0, 0, 0, []), (199, Instr.getfield 41, 3, 0, 10, 15, [872]), (202, Instr.aload_n 0, 1, 0, 0, 0, []), (203, Instr.getfield 160, 3, 0, 10, 11, [868]), (206, Instr.iload 4, 2, 0, 0, 0, []), (208, Instr.bastore, 1, 0, 0, 0, []), (209, Instr.aload_n 0, 1, 0, 0, 0, []), (210, Instr.dup, 1, 0, 0, 0, []), (211, Instr.getfield 160, 3, 0, 10, 11, [868]), (214, Instr.iconst 1, 1, 1, 0, 0, []), (215, Instr.iadd, 1, 0, 0, 0, []), (216, Instr.putfield 160, 3, 1, 10, 11, [868]), (219, Instr.aload_n 0, 1, 0, 0, 0, []), (220, Instr.getfield 160, 3, 0, 10, 11, [868]), (223, Instr.ireturn, 1, 0, 0, 0, [])]
def mm_T146 : List (Nat × mm_I) := [(0, Instr.iload_n 0, 1, 0, 0, 0, []), (1, Instr.invokestatic 154, 3, 0, 147, 1, [1070, 1071, 66, 1072]), (4, Instr.ifCond .ne 42, 3, 0, 46, 0, []), (7, Instr.iload_n 0, 1, 0, 0, 0, []), (8, Instr.sipush 4352, 3, 4352, 0, 0, []), (11, Instr.sipush 4370, 3, 4370, 0, 0, []), (14, Instr.invokestatic 116, 3, 0, 135, 3, [1022, 1023, 66, 1024]), (17, Instr.ifCond .ne 29, 3, 0, 46, 0, []), (20, Instr.iload_n 0, 1, 0, 0, 0, []), (21, Instr.sipush 4449, 3, 4449, 0, 0, []), (24, Instr.sipush 4469, 3, 4469, 0, 0, []), (27, Instr.invokestatic 116, 3, 0, 135, 3, [1022, 1023, 66, 1024]), (30, Instr.ifCond .ne 16, 3, 0, 46, 0, []), (33, Instr.iload_n 0, 1, 0, 0, 0, []), (34, Instr.sipush 4520, 3, 4520, 0, 0, []), (37, Instr.sipush 4546, 3, 4546, 0, 0, []), (40, Instr.invokestatic 116, 3, 0, 135, 3, [1022, 1023, 66, 1024]), (43, Instr.ifCond .eq 7, 3, 0, 50, 0, []), (46, Instr.iconst 1, 1, 1, 0, 0, []), (47, Instr.goto 4, 3, 0, 51, 0, []), (50, Instr.iconst 0, 1, 0, 0, 0, []), (51, Instr.ireturn, 1, 1, 0, 0, [])]
def mm_T147 : List (Nat × mm_I) := [(0, Instr.iload_n 0, 1, 0, 0, 0, []), (1, Instr.ldc 152, 2, 44032, 0, 0, [1073]), (3, Instr.ldc 153, 2, 55203, 0, 0, [1074]), (5, Instr.invokestatic 116, 3, 0, 135, 3, [1022, 1023, 66, 1024]), (8, Instr.ireturn, 1, 1, 0, 0, [])]
def mm_T148 : List (Nat × mm_I) := [(0, Instr.aload_n 0, 1, 0, 0, 0, []), (1, Instr.iconst 0, 1, 0, 0, 0, []), (2, Instr.putfield 112, 3, 1, 10, 0, [857]), (5, Instr.iload_n 1, 1, 0, 0, 0, []), (6, Instr.invokestatic 138, 3, 0, 141, 1, [1045, 1046, 66, 1047]), (9, Instr.ifCond .eq 21, 3, 0, 30, 0, []), (12, Instr.iload_n 1, 1, 0, 0, 0, []), (13, Instr.sipush 128, 3, 128, 0, 0, []), (16, Instr.if_icmp .lt 14, 3, 0, 30, 0, []), (19, Instr.iload_n 2, 1, 0, 0, 0, []), (20, Instr.iconst 0, 1, 0, 0, 0, []), (21, Instr.sipush 254, 3, 254, 0, 0, []), (24, Instr.invokestatic 116, 3, 0, 135, 3, [1022, 1023, 66, 1024]), (27, Instr.ifCond .ne 6, 3, 0, 33, 0, []), (30, Instr.bipush (-2), 2, (-2), 0, 0, []), (32, Instr.ireturn, 1, 0, 0, 0, []), (33, Instr.aload_n 0, 1, 0, 0, 0, []), (34, Instr.iload_n 1, 1, 0, 0, 0, []), (35, Instr.invokevirtual 166, 3, 10, 149, 1, [1079, 1081, 27, 66, 1082]), (38, Instr.istore_n 3, 1, 0, 0, 0, []), (39, Instr.iload_n 3, 1, 0, 0, 0, []), (40, Instr.ifCond .ge 15, 3, 0, 55, 0, []), (43, Instr.aload_n 0, 1, 0, 0, 0, []), (44, Instr.getfield 163, 3, 0, 10, 16, [873]), (47, Instr.bipush 100, 2, 100, 0, 0, []), (49, Instr.if_icmp .ne 6, 3, 0, 55, 0, []), (52, Instr.bipush (-4), 2, (-4), 0, 0, []), (54, Instr.ireturn, 1, 0, 0, 0, []), (55, Instr.aload_n 0, 1, 0, 0, 0, []), (56, Instr.iload_n 1, 1, 0, 0, 0, []), (57, Instr.invokevirtual 169, 3, 10, 150, 1, [1083, 1085, 28, 66, 1086]), (60, Instr.istore 4, 2, 0, 0, 0, []), (62, Instr.iload_n 3, 1, 0, 0, 0, []), (63, Instr.ifCond .ge 18, 3, 0, 81, 0, []), (66, Instr.aload_n 0, 1, 0, 0, 0, []), (67, Instr.getfield 163, 3, 0, 10, 16, [873]), (70, Instr.istore_n 3, 1, 0, 0, 0, []), (71, Instr.aload_n 0, 1, 0, 0, 0, []), (72, Instr.dup, 1, 0, 0, 0, []), (73, Instr.getfield 163, 3, 0, 10, 16, [873]), (76, Instr.iconst 1, 1, 1, 0, 0, []), (77, Instr.iadd, 1, 0, 0, 0, []), (78, Instr.putfield 163, 3, 1, 10, 16, [873]), (81, Instr.aload_n 0, 1, 0, 0, 0, []), (82, Instr.getfield 45, 3, 0, 10, 17, [874]), (85, Instr.iload_n 3, 1, 0, 0, 0, []), (86, Instr.iload_n 1, 1, 0, 0, 0, []), (87, Instr.iastore, 1, 0, 0, 0, []), (88, Instr.aload_n 0, 1, 0, 0, 0, []), (89, Instr.getfield 48, 3, 0, 10, 18, [875]), (92, Instr.iload_n 3, 1, 0, 0, 0, []), (93, Instr.iload_n 2, 1, 0, 0, 0, []), (94, Instr.iastore, 1, 0, 0, 0, []), (95, Instr.iload 4, 2, 0, 0, 0, []), (97, Instr.ireturn, 1, 0, 0, 0, [])]
def mm_T149 : List (Nat × mm_I) := [(0, Instr.iconst 0, 1, 0, 0, 0, []), (1, Instr.istore_n 2, 1, 0, 0, 0, []), (2, Instr.iload_n 2, 1, 0, 0, 0, []), (3, Instr.aload_n 0, 1, 0, 0, 0, []), (4, Instr.getfield 163, 3, 0, 10, 16, [873]), (7, Instr.if_icmp .ge 21, 3, 0, 28, 0, []), (10, Instr.aload_n 0, 1, 0, 0, 0, []), (11, Instr.getfield 45, 3, 0, 10, 17, [874]), (14, Instr.iload_n 2, 1, 0, 0, 0, []), (15, Instr.iaload, 1, 0, 0, 0, []), (16, Instr.iload_n 1, 1, 0, 0, 0, []), (17, Instr.if_icmp .ne 5, 3, 0, 22, 0, []), (20, Instr.iload_n 2, 1, 0, 0, 0, []), (21, Instr.ireturn, 1, 0, 0, 0, []), (22, Instr.iinc 2 1, 3, 0, 0, 0, []), (25, Instr.goto (-23), 3, 0, 2, 0, []), (28, Instr.iconst (-1), 1, (-1), 0, 0, []), (29, Instr.ireturn, 1, 0, 0, 0, [])]
def mm_T150 : List (Nat × mm_I) := [(0, Instr.aload_n 0, 1, 0, 0, 0, []), (1, Instr.iload_n 1, 1, 0, 0, 0, []), (2, Instr.invokevirtual 166, 3, 10, 149, 1, [1079, 1081, 27, 66, 1082]), (5, Instr.istore_n 2, 1, 0, 0, 0, []), (6, Instr.iload_n 2, 1, 0, 0, 0, []), (7, Instr.ifCond .ge 7, 3, 0, 14, 0, []), (10, Instr.iconst 0, 1, 0, 0, 0, []), (11, Instr.goto 9, 3, 0, 20, 0, []), (14, Instr.aload_n 0, 1, 0, 0, 0, []), (15, Instr.getfield 48, 3, 0, 10, 18, [875]), (18, Instr.iload_n 2, 1, 0, 0, 0, []), (19, Instr.iaload, 1, 0, 0, 0, []), (20, Instr.ireturn, 1, 0, 0, 0, [])]
def mm_T151 : List (Nat × mm_I) := [(0, Instr.aload_n 0, 1, 0, 0, 0, []), (1, Instr.iconst 0, 1, 0, 0, 0, []), (2, Instr.putfield 112, 3, 1, 10, 0, [857]), (5, Instr.iload_n 1, 1, 0, 0, 0, []), (6, Instr.ifCond .ne 7, 3, 0, 13, 0, []), (9, Instr.iconst 1, 1, 1, 0, 0, []), (10, Instr.goto 14, 3, 0, 24, 0, []), (13, Instr.iload_n 1, 1, 0, 0, 0, []), (14, Instr.iconst 1, 1, 1, 0, 0, []), (15, Instr.if_icmp .ne 8, 3, 0, 23, 0, []), (18, Instr.bipush 10, 2, 10, 0, 0, []), (20, Instr.goto 4, 3, 0, 24, 0, []), (23, Instr.iconst 4, 1, 4, 0, 0, []), (24, Instr.istore 5, 2, 0, 0, 0, []), (26, Instr.iload_n 1, 1, 0, 0, 0, []), (27, Instr.iconst 0, 1, 0, 0, 0, []), (28, Instr.iconst 2, 1, 2, 0, 0, []), (29, Instr.invokestatic 116, 3, 0, 135, 3, [1022, 1023, 66, 1024]), (32, Instr.ifCond .eq 39, 3, 0, 71, 0, []), (35, Instr.iload 4, 2, 0, 0, 0, []), (37, Instr.iconst 0, 1, 0, 0, 0, []), (38, Instr.iload 5, 2, 0, 0, 0, []), (40, Instr.invokestatic 116, 3, 0, 135, 3, [1022, 1023, 66, 1024]), (43, Instr.ifCond .eq 28, 3, 0, 71, 0, []), (46, Instr.iload_n 2, 1, 0, 0, 0, []), (47, Instr.iconst 0, 1, 0, 0, 0, []), (48, Instr.ldc 115, 2, 1114111, 0, 0, [1048]), (50, Instr.invokestatic 116, 3, 0, 135, 3, [1022, 1023, 66, 1024]), (53, Instr.ifCond .eq 18, 3, 0, 71, 0, []), (56, Instr.iload_n 3, 1, 0, 0, 0, []), (57, Instr.iconst 0, 1, 0, 0, 0, []), (58, Instr.ldc 115, 2, 1114111, 0, 0, [1048]), (60, Instr.invokestatic 116, 3, 0, 135, 3, [1022, 1023, 66, 1024]), (63, Instr.ifCond .eq 8, 3, 0, 71, 0, []), (66, Instr.iload_n 2, 1, 0, 0, 0, []), (67, Instr.iload_n 3, 1, 0, 0, 0, []), (68, Instr.if_icmp .le 6, 3, 0, 74, 0, []), (71, Instr.bipush (-2), 2, (-2), 0, 0, []), (73, Instr.ireturn, 1, 0, 0, 0, []), (74, Instr.aload_n 0, 1, 0, 0, 0, []), (75, Instr.getfield 172, 3, 0, 10, 19, [876]), (78, Instr.sipush 200, 3, 200, 0, 0, []), (81, Instr.if_icmp .ne 6, 3, 0, 87, 0, []), (84, Instr.bipush (-4), 2, (-4), 0, 0, []), (86, Instr.ireturn, 1, 0, 0, 0, []), (87, Instr.aload_n 0, 1, 0, 0, 0, []), (88, Instr.getfield 51, 3, 0, 10, 20, [877]), (91, Instr.aload_n 0, 1, 0, 0, 0, []), (92, Instr.getfield 172, 3, 0, 10, 19, [876]), (95, Instr.iload_n 1, 1, 0, 0, 0, []), (96, Instr.iastore, 1, 0, 0, 0, []), (97, Instr.aload_n 0, 1, 0, 0, 0, []), (98, Instr.getfield 54, 3, 0, 10, 21, [878]), (101, Instr.aload_n 0, 1, 0, 0, 0, []), (102, Instr.getfield 172, 3, 0, 10, 19, [876]), (105, Instr.iload_n 2, 1, 0, 0, 0, []), (106, Instr.iastore, 1, 0, 0, 0, []), (107, Instr.aload_n 0, 1, 0, 0, 0, []), (108, Instr.getfield 57, 3, 0, 10, 22, [879]), (111, Instr.aload_n 0, 1, 0, 0, 0, []), (112, Instr.getfield 172, 3, 0, 10, 19, [876]), (115, Instr.iload_n 3, 1, 0, 0, 0, []), (116, Instr.iastore, 1, 0, 0, 0, []), (117, Instr.aload_n 0, 1, 0, 0, 0, []), (118, Instr.getfield 60, 3, 0, 10, 23, [880]), (121, Instr.aload_n 0, 1, 0, 0, 0, []), (122, Instr.getfield 172, 3, 0, 10, 19, [876]), (125, Instr.iload 4, 2, 0, 0, 0, []), (127, Instr.iastore, 1, 0, 0, 0, []), (128, Instr.aload_n 0, 1, 0, 0, 0, []), (129, Instr.dup, 1, 0, 0, 0, []), (130, Instr.getfield 172, 3, 0, 10, 19, [876]), (133, Instr.iconst 1, 1, 1, 0, 0, []), (134, Instr.iadd, 1, 0, 0, 0, []), (135, Instr.putfield 172, 3, 1, 10, 19, [876]), (138, Instr.iconst 1, 1, 1, 0, 0, []), (139, Instr.ireturn, 1, 0, 0, 0, [])]
def mm_T152 : List (Nat × mm_I) := [(0, Instr.aload_n 0, 1, 0, 0, 0, []), (1, Instr.iconst 0, 1, 0, 0, 0, []), (2, Instr.putfield 112, 3, 1, 10, 0, [857]), (5, Instr.iload_n 1, 1, 0, 0, 0, []), (6, Instr.invokestatic 138, 3, 0, 141, 1, [1045, 1046, 66, 1047]), (9, Instr.ifCond .ne 5, 3, 0, 14, 0, []), (12, Instr.iconst (-1), 1, (-1), 0, 0, []), (13, Instr.ireturn, 1, 0, 0, 0, []), (14, Instr.iload_n 2, 1, 0, 0, 0, []), (15, Instr.tableswitch 66 0 4 #[33, 39, 45, 52, 59], 33, 0, 0, 0, []), (48, Instr.aload_n 0, 1, 0, 0, 0, []), (49, Instr.iload_n 1, 1, 0, 0, 0, []), (50, Instr.invokevirtual 175, 3, 10, 153, 1, [1095, 1097, 29, 66, 1098]), (53, Instr.ireturn, 1, 0, 0, 0, []), (54, Instr.aload_n 0, 1, 0, 0, 0, []), (55, Instr.iload_n 1, 1, 0, 0, 0, []), (56, Instr.invokevirtual 169, 3, 10, 150, 1, [1083, 1085, 28, 66, 1086]), (59, Instr.ireturn, 1, 0, 0, 0, []), (60, Instr.aload_n 0, 1, 0, 0, 0, []), (61, Instr.iconst 0, 1, 0, 0, 0, []), (62, Instr.iload_n 1, 1, 0, 0, 0, []), (63, Instr.invokevirtual 178, 3, 10, 155, 2, [1103, 1105, 31, 66, 1106]), (66, Instr.ireturn, 1, 0, 0, 0, []), (67, Instr.aload_n 0, 1, 0, 0, 0, []), (68, Instr.iconst 1, 1, 1, 0, 0, []), (69, Instr.iload_n 1, 1, 0, 0, 0, []), (70, Instr.invokevirtual 178, 3, 10, 155, 2, [1103, 1105, 31, 66, 1106]), (73, Instr.ireturn, 1, 0, 0, 0, []), (74, Instr.aload_n 0, 1, 0, 0, 0, []), (75, Instr.iconst 2, 1, 2, 0, 0, []), (76, Instr.iload_n 1, 1, 0, 0, 0, []), (77, Instr.invokevirtual 178, 3, 10, 155, 2, [1103, 1105, 31, 66, 1106]), (80, Instr.ireturn, 1, 0, 0, 0, []), (81, Instr.bipush (-2), 2, (-2), 0, 0, []), (83, Instr.ireturn, 1, 0, 0, 0, [])]
def mm_T153 : List (Nat × mm_I) := [(0, Instr.aload_n 0, 1, 0, 0, 0, []), (1, Instr.iload_n 1, 1, 0, 0, 0, []), (2, Instr.invokevirtual 149, 3, 10, 154, 1, [1099, 1101, 30, 66, 1102]), (5, Instr.istore_n 2, 1, 0, 0, 0, []), (6, Instr.iload_n 2, 1, 0, 0, 0, []), (7, Instr.ifCond .lt 10, 3, 0, 17, 0, []), (10, Instr.aload_n 0, 1, 0, 0, 0, []), (11, Instr.getfield 23, 3, 0, 10, 8, [865]), (14, Instr.iload_n 2, 1, 0, 0, 0, []), (15, Instr.iaload, 1, 0, 0, 0, []), (16, Instr.ireturn, 1, 0, 0, 0, []), (17, Instr.iload_n 1, 1, 0, 0, 0, []), (18, Instr.bipush 127, 2, 127, 0, 0, []), (20, Instr.if_icmp .gt 37, 3, 0, 57, 0, []), (23, Instr.iload_n 1, 1, 0, 0, 0, []), (24, Instr.bipush 97, 2, 97, 0, 0, []), (26, Instr.bipush 122, 2, 122, 0, 0, []), (28, Instr.invokestatic 116, 3, 0, 135, 3, [1022, 1023, 66, 1024]), (31, Instr.ifCond .ne 26, 3, 0, 57, 0, []), (34, Instr.iload_n 1, 1, 0, 0, 0, []), (35, Instr.bipush 48, 2, 48, 0, 0, []), (37, Instr.bipush 57, 2, 57, 0, 0, []), (39, Instr.invokestatic 116, 3, 0, 135, 3, [1022, 1023, 66, 1024]), (42, Instr.ifCond .ne 15, 3, 0, 57, 0, []), (45, Instr.iload_n 1, 1, 0, 0, 0, []), (46, Instr.bipush 45, 2, 45, 0, 0, []), (48, Instr.if_icmp .eq 9, 3, 0, 57, 0, []), (51, Instr.iload_n 1, 1, 0, 0, 0, []), (52, Instr.bipush 46, 2, 46, 0, 0, []), (54, Instr.if_icmp .ne 7, 3, 0, 61, 0, []), (57, Instr.iconst 0, 1, 0, 0, 0, []), (58, Instr.goto 19, 3, 0, 77, 0, []), (61, Instr.iload_n 1, 1, 0, 0, 0, []), (62, Instr.bipush 65, 2, 65, 0, 0, []), (64, Instr.bipush 90, 2, 90, 0, 0, []), (66, Instr.invokestatic 116, 3, 0, 135, 3, [1022, 1023, 66, 1024]), (69, Instr.ifCond .eq 7, 3, 0, 76, 0, []), (72, Instr.iconst 2, 1, 2, 0, 0, []), (73, Instr.goto 4, 3, 0, 77, 0, []), (76, Instr.iconst 3, 1, 3, 0, 0, []), (77, Instr.ireturn, 1, 0, 0, 0, [])]
def mm_T154 : List (Nat × mm_I) := [(0, Instr.aload_n 0, 1, 0, 0, 0, []), (1, Instr.getfield 142, 3, 0, 10, 5, [862]), (4, Instr.iconst 1, 1, 1, 0, 0, []), (5, Instr.isub, 1, 0, 0, 0, []), (6, Instr.istore_n 2, 1, 0, 0, 0, []), (7, Instr.iload_n 2, 1, 0, 0, 0, []), (8, Instr.ifCond .lt 30, 3, 0, 38, 0, []), (11, Instr.iload_n 1, 1, 0, 0, 0, []), (12, Instr.aload_n 0, 1, 0, 0, 0, []), (13, Instr.getfield 17, 3, 0, 10, 6, [863]), (16, Instr.iload_n 2, 1, 0, 0, 0, []), (17, Instr.iaload, 1, 0, 0, 0, []), (18, Instr.aload_n 0, 1, 0, 0, 0, []), (19, Instr.getfield 20, 3, 0, 10, 7, [864]), (22, Instr.iload_n 2, 1, 0, 0, 0, []), (23, Instr.iaload, 1, 0, 0, 0, []), (24, Instr.invokestatic 116, 3, 0, 135, 3, [1022, 1023, 66, 1024]), (27, Instr.ifCond .eq 5, 3, 0, 32, 0, []), (30, Instr.iload_n 2, 1, 0, 0, 0, []), (31, Instr.ireturn, 1, 0, 0, 0, []), (32, Instr.iinc 2 (-1), 3, 0, 0, 0, []), (35, Instr.goto (-28), 3, 0, 7, 0, []), (38, Instr.iconst (-1), 1, (-1), 0, 0, []), (39, Instr.ireturn, 1, 0, 0, 0, [])]
def mm_T155 : List (Nat × mm_I) := [(0, Instr.aload_n 0, 1, 0, 0, 0, []), (1, Instr.getfield 172, 3, 0, 10, 19, [876]), (4, Instr.iconst 1, 1, 1, 0, 0, []), (5, Instr.isub, 1, 0, 0, 0, []), (6, Instr.istore_n 3, 1, 0, 0, 0, []), (7, Instr.iload_n 3, 1, 0, 0, 0, []), (8, Instr.ifCond .lt 45, 3, 0, 53, 0, []), (11, Instr.aload_n 0, 1, 0, 0, 0, []), (12, Instr.getfield 51, 3, 0, 10, 20, [877]), (15, Instr.iload_n 3, 1, 0, 0, 0, []), (16, Instr.iaload, 1, 0, 0, 0, []), (17, Instr.iload_n 1, 1, 0, 0, 0, []), (18, Instr.if_icmp .ne 29, 3, 0, 47, 0, []), (21, Instr.iload_n 2, 1, 0, 0, 0, []), (22, Instr.aload_n 0, 1, 0, 0, 0, []), (23, Instr.getfield 54, 3, 0, 10, 21, [878]), (26, Instr.iload_n 3, 1, 0, 0, 0, []), (27, Instr.iaload, 1, 0, 0, 0, []), (28, Instr.aload_n 0, 1, 0, 0, 0, []), (29, Instr.getfield 57, 3, 0, 10, 22, [879]), (32, Instr.iload_n 3, 1, 0, 0, 0, []), (33, Instr.iaload, 1, 0, 0, 0, []), (34, Instr.invokestatic 116, 3, 0, 135, 3, [1022, 1023, 66, 1024]), (37, Instr.ifCond .eq 10, 3, 0, 47, 0, []), (40, Instr.aload_n 0, 1, 0, 0, 0, []), (41, Instr.getfield 60, 3, 0, 10, 23, [880]), (44, Instr.iload_n 3, 1, 0, 0, 0, []), (45, Instr.iaload, 1, 0, 0, 0, []), (46, Instr.ireturn, 1, 0, 0, 0, []), (47, Instr.iinc 3 (-1), 3, 0, 0, 0, []), (50, Instr.goto (-43), 3, 0, 7, 0, []), (53, Instr.iload_n 1, 1, 0, 0, 0, []), (54, Instr.iconst 1, 1, 1, 0, 0, []), (55, Instr.if_icmp .eq 7, 3, 0, 62, 0, []), (58, Instr.iconst 0, 1, 0, 0, 0, []), (59, Instr.goto 29, 3, 0, 88, 0, []), (62, Instr.iload_n 2, 1, 0, 0, 0, []), (63, Instr.bipush 48, 2, 48, 0, 0, []), (65, Instr.bipush 57, 2, 57, 0, 0, []), (67, Instr.invokestatic 116, 3, 0, 135, 3, [1022, 1023, 66, 1024]), (70, Instr.ifCond .eq 7, 3, 0, 77, 0, []), (73, Instr.iconst 4, 1, 4, 0, 0, []), (74, Instr.goto 14, 3, 0, 88, 0, []), (77, Instr.iload_n 2, 1, 0, 0, 0, []), (78, Instr.bipush 45, 2, 45, 0, 0, []), (80, Instr.if_icmp .ne 7, 3, 0, 87, 0, []), (83, Instr.iconst 5, 1, 5, 0, 0, []), (84, Instr.goto 4, 3, 0, 88, 0, []), (87, Instr.iconst 0, 1, 0, 0, 0, []), (88, Instr.ireturn, 1, 0, 0, 0, [])]
def mm_T156 : List (Nat × mm_I) := [(0, Instr.aload_n 0, 1, 0, 0, 0, []), (1, Instr.iconst 0, 1, 0, 0, 0, []), (2, Instr.putfield 112, 3, 1, 10, 0, [857]), (5, Instr.iload_n 1, 1, 0, 0, 0, []), (6, Instr.iconst 0, 1, 0, 0, 0, []), (7, Instr.iconst 1, 1, 1, 0, 0, []), (8, Instr.invokestatic 116, 3, 0, 135, 3, [1022, 1023, 66, 1024]), (11, Instr.ifCond .ne 6, 3, 0, 17, 0, []), (14, Instr.bipush (-2), 2, (-2), 0, 0, []), (16, Instr.ireturn, 1, 0, 0, 0, []), (17, Instr.aload_n 0, 1, 0, 0, 0, []), (18, Instr.aload_n 0, 1, 0, 0, 0, []), (19, Instr.getfield 13, 3, 0, 10, 3, [860]), (22, Instr.iconst 0, 1, 0, 0, 0, []), (23, Instr.aload_n 0, 1, 0, 0, 0, []), (24, Instr.getfield 108, 3, 0, 10, 4, [861]), (27, Instr.invokevirtual 198, 3, 10, 157, 3, [1111, 1113, 32, 66, 1114]), (30, Instr.ifCond .ne 6, 3, 0, 36, 0, []), (33, Instr.bipush (-4), 2, (-4), 0, 0, []), (35, Instr.ireturn, 1, 0, 0, 0, []), (36, Instr.aload_n 0, 1, 0, 0, 0, []), (37, Instr.iload_n 1, 1, 0, 0, 0, []), (38, Instr.ifCond .ne 10, 3, 0, 48, 0, []), (41, Instr.aload_n 0, 1, 0, 0, 0, []), (42, Instr.getfield 182, 3, 0, 10, 28, [885]), (45, Instr.goto 7, 3, 0, 52, 0, []), (48, Instr.aload_n 0, 1, 0, 0, 0, []), (49, Instr.getfield 192, 3, 0, 10, 31, [888]), (52, Instr.putfield 108, 3, 1, 10, 4, [861]), (55, Instr.iconst 0, 1, 0, 0, 0, []), (56, Instr.istore_n 2, 1, 0, 0, 0, []), (57, Instr.iload_n 2, 1, 0, 0, 0, []), (58, Instr.aload_n 0, 1, 0, 0, 0, []), (59, Instr.getfield 108, 3, 0, 10, 4, [861]), (62, Instr.if_icmp .ge 34, 3, 0, 96, 0, []), (65, Instr.aload_n 0, 1, 0, 0, 0, []), (66, Instr.getfield 13, 3, 0, 10, 3, [860]), (69, Instr.iload_n 2, 1, 0, 0, 0, []), (70, Instr.iload_n 1, 1, 0, 0, 0, []), (71, Instr.ifCond .ne 12, 3, 0, 83, 0, []), (74, Instr.aload_n 0, 1, 0, 0, 0, []), (75, Instr.getfield 66, 3, 0, 10, 27, [884]), (78, Instr.iload_n 2, 1, 0, 0, 0, []), (79, Instr.iaload, 1, 0, 0, 0, []), (80, Instr.goto 9, 3, 0, 89, 0, []), (83, Instr.aload_n 0, 1, 0, 0, 0, []), (84, Instr.getfield 72, 3, 0, 10, 30, [887]), (87, Instr.iload_n 2, 1, 0, 0, 0, []), (88, Instr.iaload, 1, 0, 0, 0, []), (89, Instr.iastore, 1, 0, 0, 0, []), (90, Instr.iinc 2 1, 3, 0, 0, 0, []), (93, Instr.goto (-36), 3, 0, 57, 0, []), (96, Instr.aload_n 0, 1, 0, 0, 0, []), (97, Instr.getfield 108, 3, 0, 10, 4, [861]), (100, Instr.ireturn, 1, 0, 0, 0, [])]
def mm_T157 : List (Nat × mm_I) := [(0, Instr.aload_n 0, 1, 0, 0, 0, []), (1, Instr.aload_n 1, 1, 0, 0, 0, []), (2, Instr.iload_n 2, 1, 0, 0, 0, []), (3, Instr.iload_n 3, 1, 0, 0, 0, []), (4, Instr.invokevirtual 188, 3, 10, 158, 3, [1115, 1117, 33, 66, 1118]), (7, Instr.ifCond .ne 5, 3, 0, 12, 0, []), (10, Instr.iconst 0, 1, 0, 0, 0, []), (11, Instr.ireturn, 1, 1, 0, 0, []), (12, Instr.aload_n 0, 1, 0, 0, 0, []), (13, Instr.iconst 0, 1, 0, 0, 0, []), (14, Instr.putfield 192, 3, 1, 10, 31, [888]), (17, Instr.iconst (-1), 1, (-1), 0, 0, []), (18, Instr.istore 4, 2, 0, 0, 0, []), (20, Instr.iconst 0, 1, 0, 0, 0, []), (21, Instr.istore 5, 2, 0, 0, 0, []), (23, Instr.iload 5, 2, 0, 0, 0, []), (25, Instr.aload_n 0, 1, 0, 0, 0, []), (26, Instr.getfield 182, 3, 0, 10, 28, [885]), (29, Instr.if_icmp .ge 165, 3, 0, 194, 0, []), (32, Instr.aload_n 0, 1, 0, 0, 0, []), (33, Instr.getfield 66, 3, 0, 10, 27, [884]), (36, Instr.iload 5, 2, 0, 0, 0, []), (38, Instr.iaload, 1, 0, 0, 0, []), (39, Instr.istore 6, 2, 0, 0, 0, []), (41, Instr.aload_n 0, 1, 0, 0, 0, []), (42, Instr.iload 6, 2, 0, 0, 0, []), (44, Instr.invokevirtual 169, 3, 10, 150, 1, [1083, 1085, 28, 66, 1086]), (47, Instr.istore 7, 2, 0, 0, 0, []), (49, Instr.iload 4, 2, 0, 0, 0, []), (51, Instr.ifCond .lt 56, 3, 0, 107, 0, []), (54, Instr.iload 4, 2, 0, 0, 0, []), (56, Instr.aload_n 0, 1, 0, 0, 0, []), (57, Instr.getfield 192, 3, 0, 10, 31, [888]), (60, Instr.iconst 1, 1, 1, 0, 0, []), (61, Instr.isub, 1, 0, 0, 0, []), (62, Instr.if_icmp .eq 41, 3, 0, 103, 0, []), (65, Instr.aload_n 0, 1, 0, 0, 0, []), (66, Instr.aload_n 0, 1, 0, 0, 0, []), (67, Instr.getfield 72, 3, 0, 10, 30, [887]), (70, Instr.aload_n 0, 1, 0, 0, 0, []), (71, Instr.getfield 192, 3, 0, 10, 31, [888]), (74, Instr.iconst 1, 1, 1, 0, 0, []), (75, Instr.isub, 1, 0, 0, 0, []), (76, Instr.iaload, 1, 0, 0, 0, []), (77, Instr.invokevirtual 169, 3, 10, 150, 1, [1083, 1085, 28, 66, 1086]), (80, Instr.ifCond .le 27, 3, 0, 107, 0, []), (83, Instr.aload_n 0, 1, 0, 0, 0, []), (84, Instr.aload_n 0, 1, 0, 0, 0, []), (85, Instr.getfield 72, 3, 0, 10, 30, [887]), (88, Instr.aload_n 0, 1, 0, 0, 0, []), (89, Instr.getfield 192, 3, 0, 10, 31, [888]), (92, Instr.iconst 1, 1, 1, 0, 0, []), (93, Instr.isub, 1, 0, 0, 0, []), (94, Instr.iaload, 1, 0, 0, 0, []), (95, Instr.invokevirtual 169, 3, 10, 150, 1, [1083, 1085, 28, 66, 1086]), (98, Instr.iload 7, 2, 0, 0, 0, []), (100, Instr.if_icmp .ge 7, 3, 0, 107, 0, []), (103, Instr.iconst 1, 1, 1, 0, 0, []), (104, Instr.goto 4, 3, 0, 108, 0, []), (107, Instr.iconst 0, 1, 0, 0, 0, []), (108, Instr.istore 8, 2, 0, 0, 0, []), (110, Instr.iload 8, 2, 0, 0, 0, []), (112, Instr.ifCond .eq 19, 3, 0, 131, 0, []), (115, Instr.aload_n 0, 1, 0, 0, 0, []), (116, Instr.aload_n 0, 1, 0, 0, 0, []), (117, Instr.getfield 72, 3, 0, 10, 30, [887]), (120, Instr.iload 4, 2, 0, 0, 0, []), (122, Instr.iaload, 1, 0, 0, 0, []), (123, Instr.iload 6, 2, 0, 0, 0, []), (125, Instr.invokevirtual 195, 3, 10, 160, 2, [1123, 1125, 35, 66, 1126]), (128, Instr.goto 4, 3, 0, 132, 0, []), (131, Instr.iconst (-1), 1, (-1), 0, 0, []), (132, Instr.istore 9, 2, 0, 0, 0, []), (134, Instr.iload 9, 2, 0, 0, 0, []), (136, Instr.ifCond .lt 15, 3, 0, 151, 0, []), (139, Instr.aload_n 0, 1, 0, 0, 0, []), (140, Instr.getfield 72, 3, 0, 10, 30, [887]), (143, Instr.iload 4, 2, 0, 0, 0, []), (145, Instr.iload 9, 2, 0, 0, 0, []), (147, Instr.iastore, 1, 0, 0, 0, []), (148, Instr.goto 40, 3, 0, 188, 0, []), (151, Instr.aload_n 0, 1, 0, 0, 0, []), (152, Instr.getfield 72, 3, 0, 10, 30, [887]), (155, Instr.aload_n 0, 1, 0, 0, 0, []), (156, Instr.getfield 192, 3, 0, 10, 31, [888]), (159, Instr.iload 6, 2, 0, 0, 0, []), (161, Instr.iastore, 1, 0, 0, 0, []), (162, Instr.iload 7, 2, 0, 0, 0, []), (164, Instr.ifCond .ne 10, 3, 0, 174, 0, []), (167, Instr.aload_n 0, 1, 0, 0, 0, []), (168, Instr.getfield 192, 3, 0, 10, 31, [888]), (171, Instr.goto 5, 3, 0, 176, 0, []), (174, Instr.iload 4, 2, 0, 0, 0, []), (176, Instr.istore 4, 2, 0, 0, 0, []), (178, Instr.aload_n 0, 1, 0, 0, 0, []), (179, Instr.dup, 1, 0, 0, 0, []), (180, Instr.getfield 192, 3, 0, 10, 31, [888]), (183, Instr.iconst 1, 1, 1, 0, 0, []), (184, Instr.iadd, 1, 0, 0, 0, []), (185, Instr.putfield 192, 3, 1, 10, 31, [888]), (188, Instr.iinc 5 1, 3, 0, 0, 0, []), (191, Instr.goto (-168), 3, 0, 23, 0, []), (194, Instr.iconst 1, 1, 1, 0, 0, []), (195, Instr.ireturn, 1, 1, 0, 0, [])]
def mm_T158 : List (Nat × mm_I) := [(0, Instr.aload_n 0, 1, 0, 0, 0, []), (1, Instr.iconst 0, 1, 0, 0, 0, []), (2, Instr.putfield 182, 3, 1, 10, 28, [885]), (5, Instr.iconst 0, 1, 0, 0, 0, []), (6, Instr.istore 4, 2, 0, 0, 0, []), (8, Instr.iload 4, 2, 0, 0, 0, []), (10, Instr.iload_n 3, 1, 0, 0, 0, []), (11, Instr.if_icmp .ge 224, 3, 0, 235, 0, []), (14, Instr.iconst 1, 1, 1, 0, 0, []), (15, Instr.istore 5, 2, 0, 0, 0, []), (17, Instr.aload_n 0, 1, 0, 0, 0, []), (18, Instr.getfield 69, 3, 0, 10, 29, [886]), (21, Instr.iconst 0, 1, 0, 0, 0, []), (22, Instr.aload_n 1, 1, 0, 0, 0, []), (23, Instr.iload_n 2, 1, 0, 0, 0, []), (24, Instr.iload 4, 2, 0, 0, 0, []), (26, Instr.iadd, 1, 0, 0, 0, []), (27, Instr.iaload, 1, 0, 0, 0, []), (28, Instr.iastore, 1, 0, 0, 0, []), (29, Instr.iload 5, 2, 0, 0, 0, []), (31, Instr.ifCond .le 198, 3, 0, 229, 0, []), (34, Instr.iinc 5 (-1), 3, 0, 0, 0, []), (37, Instr.aload_n 0, 1, 0, 0, 0, []), (38, Instr.getfield 69, 3, 0, 10, 29, [886]), (41, Instr.iload 5, 2, 0, 0, 0, []), (43, Instr.iaload, 1, 0, 0, 0, []), (44, Instr.istore 6, 2, 0, 0, 0, []), (46, Instr.aload_n 0, 1, 0, 0, 0, []), (47, Instr.iload 6, 2, 0, 0, 0, []), (49, Instr.invokevirtual 185, 3, 10, 159, 1, [1119, 1121, 34, 66, 1122]), (52, Instr.istore 7, 2, 0, 0, 0, []), (54, Instr.iload 6, 2, 0, 0, 0, []), (56, Instr.invokestatic 154, 3, 0, 147, 1, [1070, 1071, 66, 1072]), (59, Instr.ifCond .eq 82, 3, 0, 141, 0, []), (62, Instr.iload 6, 2, 0, 0, 0, []), (64, Instr.ldc 152, 2, 44032, 0, 0, [1073]), (66, Instr.isub, 1, 0, 0, 0, []), (67, Instr.istore 8, 2, 0, 0, 0, []), (69, Instr.iload 8, 2, 0, 0, 0, []), (71, Instr.bipush 28, 2, 28, 0, 0, []), (73, Instr.irem, 1, 0, 0, 0, []), (74, Instr.ifCond .le 22, 3, 0, 96, 0, []), (77, Instr.aload_n 0, 1, 0, 0, 0, []), (78, Instr.getfield 69, 3, 0, 10, 29, [886]), (81, Instr.iload 5, 2, 0, 0, 0, []), (83, Instr.sipush 4519, 3, 4519, 0, 0, []), (86, Instr.iload 8, 2, 0, 0, 0, []), (88, Instr.bipush 28, 2, 28, 0, 0, []), (90, Instr.irem, 1, 0, 0, 0, []), (91, Instr.iadd, 1, 0, 0, 0, []), (92, Instr.iastore, 1, 0, 0, 0, []), (93, Instr.iinc 5 1, 3, 0, 0, 0, []), (96, Instr.aload_n 0, 1, 0, 0, 0, []), (97, Instr.getfield 69, 3, 0, 10, 29, [886]), (100, Instr.iload 5, 2, 0, 0, 0, []), (102, Instr.sipush 4449, 3, 4449, 0, 0, []), (105, Instr.iload 8, 2, 0, 0, 0, []), (107, Instr.sipush 588, 3, 588, 0, 0, []), (110, Instr.irem, 1, 0, 0, 0, []), (111, Instr.bipush 28, 2, 28, 0, 0, []), (113, Instr.idiv, 1, 0, 0, 0, []), (114, Instr.iadd, 1, 0, 0, 0, []), (115, Instr.iastore, 1, 0, 0, 0, []), (116, Instr.aload_n 0, 1, 0, 0, 0, []), (117, Instr.getfield 69, 3, 0, 10, 29, [886]), (120, Instr.iload 5, 2, 0, 0, 0, []), (122, Instr.iconst 1, 1, 1, 0, 0, []), (123, Instr.iadd, 1, 0, 0, 0, []), (124, Instr.sipush 4352, 3, 4352, 0, 0, []), (127, Instr.iload 8, 2, 0, 0, 0, []), (129, Instr.sipush 588, 3, 588, 0, 0, []), (132, Instr.idiv, 1, 0, 0, 0, []), (133, Instr.iadd, 1, 0, 0, 0, []), (134, Instr.iastore, 1, 0, 0, 0, []), (135, Instr.iinc 5 2, 3, 0, 0, 0, []), (138, Instr.goto 88, 3, 0, 226, 0, []), (141, Instr.iload 7, 2, 0, 0, 0, []), (143, Instr.ifCond .lt 50, 3, 0, 193, 0, []), (146, Instr.aload_n 0, 1, 0, 0, 0, []), (147, Instr.getfield 38, 3, 0, 10, 14, [871]), (150, Instr.iload 7, 2, 0, 0, 0, []), (152, Instr.iaload, 1, 0, 0, 0, []), (153, Instr.ifCond .eq 20, 3, 0, 173, 0, []), (156, Instr.aload_n 0, 1, 0, 0, 0, []), (157, Instr.getfield 69, 3, 0, 10, 29, [886]), (160, Instr.iload 5, 2, 0, 0, 0, []), (162, Instr.aload_n 0, 1, 0, 0, 0, []), (163, Instr.getfield 38, 3, 0, 10, 14, [871]), (166, Instr.iload 7, 2, 0, 0, 0, []), (168, Instr.iaload, 1, 0, 0, 0, []), (169, Instr.iastore, 1, 0, 0, 0, []), (170, Instr.iinc 5 1, 3, 0, 0, 0, []), (173, Instr.aload_n 0, 1, 0, 0, 0, []), (174, Instr.getfield 69, 3, 0, 10, 29, [886]), (177, Instr.iload 5, 2, 0, 0, 0, []), (179, Instr.aload_n 0, 1, 0, 0, 0, []), (180, Instr.getfield 35, 3, 0, 10, 13, [870]), (183, Instr.iload 7, 2, 0, 0, 0, []), (185, Instr.iaload, 1, 0, 0, 0, []), (186, Instr.iastore, 1, 0, 0, 0, []), (187, Instr.iinc 5 1, 3, 0, 0, 0, []), (190, Instr.goto 36, 3, 0, 226, 0, []), (193, Instr.aload_n 0, 1, 0, 0, 0, []), (194, Instr.getfield 182, 3, 0, 10, 28, [885]), (197, Instr.sipush 300, 3, 300, 0, 0, []), (200, Instr.if_icmp .ne 5, 3, 0, 205, 0, []), (203, Instr.iconst 0, 1, 0, 0, 0, []), (204, Instr.ireturn, 1, 1, 0, 0, []), (205, Instr.aload_n 0, 1, 0, 0, 0, []), (206, Instr.getfield 66, 3, 0, 10, 27, [884]), (209, Instr.aload_n 0, 1, 0, 0, 0, []), (210, Instr.getfield 182, 3, 0, 10, 28, [885]), (213, Instr.iload 6, 2, 0, 0, 0, []), (215, Instr.iastore, 1, 0, 0, 0, []), (216, Instr.aload_n 0, 1, 0, 0, 0, []), (217, Instr.dup, 1, 0, 0, 0, []), (218, Instr.getfield 182, 3, 0, 10, 28, [885]), (221, Instr.iconst 1, 1, 1, 0, 0, []), (222, Instr.iadd, 1, 0, 0, 0, []), (223, Instr.putfield 182, 3, 1, 10, 28, [885]), (226, Instr.goto (-197), 3, 0, 29, 0, []), (229, Instr.iinc 4 1, 3, 0, 0, 0, []), (232, Instr.goto (-224), 3, 0, 8, 0, []), (235, Instr.iconst 1, 1, 1, 0, 0, []), (236, Instr.istore 4, 2, 0, 0, 0, []), (238, Instr.iload 4, 2, 0, 0, 0, []), (240, Instr.ifCond .eq 102, 3, 0, 342, 0, []), (243, Instr.iconst 0, 1, 0, 0, 0, []), (244, Instr.istore 4, 2, 0, 0, 0, []), (246, Instr.iconst 1, 1, 1, 0, 0, []), (247, Instr.istore 5, 2, 0, 0, 0, []), (249, Instr.iload 5, 2, 0, 0, 0, []), (251, Instr.aload_n 0, 1, 0, 0, 0, []), (252, Instr.getfield 182, 3, 0, 10, 28, [885]), (255, Instr.if_icmp .ge 84, 3, 0, 339, 0, []), (258, Instr.aload_n 0, 1, 0, 0, 0, []), (259, Instr.aload_n 0, 1, 0, 0, 0, []), (260, Instr.getfield 66, 3, 0, 10, 27, [884]), (263, Instr.iload 5, 2, 0, 0, 0, []), (265, Instr.iaload, 1, 0, 0, 0, []), (266, Instr.invokevirtual 169, 3, 10, 150, 1, [1083, 1085, 28, 66, 1086]), (269, Instr.istore 6, 2, 0, 0, 0, []), (271, Instr.iload 6, 2, 0, 0, 0, []), (273, Instr.ifCond .le 60, 3, 0, 333, 0, []), (276, Instr.iload 6, 2, 0, 0, 0, []), (278, Instr.aload_n 0, 1, 0, 0, 0, []), (279, Instr.aload_n 0, 1, 0, 0, 0, []), (280, Instr.getfield 66, 3, 0, 10, 27, [884]), (283, Instr.iload 5, 2, 0, 0, 0, []), (285, Instr.iconst 1, 1, 1, 0, 0, []), (286, Instr.isub, 1, 0, 0, 0, []), (287, Instr.iaload, 1, 0, 0, 0, []), (288, Instr.invokevirtual 169, 3, 10, 150, 1, [1083, 1085, 28, 66, 1086]), (291, Instr.if_icmp .ge 42, 3, 0, 333, 0, []), (294, Instr.aload_n 0, 1, 0, 0, 0, []), (295, Instr.getfield 66, 3, 0, 10, 27, [884]), (298, Instr.iload 5, 2, 0, 0, 0, []), (300, Instr.iaload, 1, 0, 0, 0, []), (301, Instr.istore 7, 2, 0, 0, 0, []), (303, Instr.aload_n 0, 1, 0, 0, 0, []), (304, Instr.getfield 66, 3, 0, 10, 27, [884]), (307, Instr.iload 5, 2, 0, 0, 0, []), (309, Instr.aload_n 0, 1, 0, 0, 0, []), (310, Instr.getfield 66, 3, 0, 10, 27, [884]), (313, Instr.iload 5, 2, 0, 0, 0, []), (315, Instr.iconst 1, 1, 1, 0, 0, []), (316, Instr.isub, 1, 0, 0, 0, []), (317, Instr.iaload, 1, 0, 0, 0, []), (318, Instr.iastore, 1, 0, 0, 0, []), (319, Instr.aload_n 0, 1, 0, 0, 0, []), (320, Instr.getfield 66, 3, 0, 10, 27, [884]), (323, Instr.iload 5, 2, 0, 0, 0, []), (325, Instr.iconst 1, 1, 1, 0, 0, []), (326, Instr.isub, 1, 0, 0, 0, []), (327, Instr.iload 7, 2, 0, 0, 0, []), (329, Instr.iastore, 1, 0, 0, 0, []), (330, Instr.iconst 1, 1, 1, 0, 0, []), (331, Instr.istore 4, 2, 0, 0, 0, []), (333, Instr.iinc 5 1, 3, 0, 0, 0, []), (336, Instr.goto (-87), 3, 0, 249, 0, []), (339, Instr.goto (-101), 3, 0, 238, 0, []), (342, Instr.iconst 1, 1, 1, 0, 0, []), (343, Instr.ireturn, 1, 1, 0, 0, [])]
def mm_T159 : List (Nat × mm_I) := [(0, Instr.iconst 0, 1, 0, 0, 0, []), (1, Instr.istore_n 2, 1, 0, 0, 0, []), (2, Instr.iload_n 2, 1, 0, 0, 0, []), (3, Instr.aload_n 0, 1, 0, 0, 0, []), (4, Instr.getfield 160, 3, 0, 10, 11, [868]), (7, Instr.if_icmp .ge 21, 3, 0, 28, 0, []), (10, Instr.aload_n 0, 1, 0, 0, 0, []), (11, Instr.getfield 32, 3, 0, 10, 12, [869]), (14, Instr.iload_n 2, 1, 0, 0, 0, []), (15, Instr.iaload, 1, 0, 0, 0, []), (16, Instr.iload_n 1, 1, 0, 0, 0, []), (17, Instr.if_icmp .ne 5, 3, 0, 22, 0, []), (20, Instr.iload_n 2, 1, 0, 0, 0, []), (21, Instr.ireturn, 1, 0, 0, 0, []), (22, Instr.iinc 2 1, 3, 0, 0, 0, []), (25, Instr.goto (-23), 3, 0, 2, 0, []), (28, Instr.iconst (-1), 1, (-1), 0, 0, []), (29, Instr.ireturn, 1, 0, 0, 0, [])]
def mm_T160 : List (Nat × mm_I) := [(0, Instr.iload_n 1, 1, 0, 0, 0, []), (1, Instr.sipush 4352, 3, 4352, 0, 0, []), (4, Instr.sipush 4370, 3, 4370, 0, 0, []), (7, Instr.invokestatic 116, 3, 0, 135, 3, [1022, 1023, 66, 1024]), (10, Instr.ifCond .eq 38, 3, 0, 48, 0, []), (13, Instr.iload_n 2, 1, 0, 0, 0, []), (14, Instr.sipush 4449, 3, 4449, 0, 0, []), (17, Instr.sipush 4469, 3, 4469, 0, 0, []), (20, Instr.invokestatic 116, 3, 0, 135, 3, [1022, 1023, 66, 1024]), (23, Instr.ifCond .eq 25, 3, 0, 48, 0, []), (26, Instr.ldc 152, 2, 44032, 0, 0, [1073]), (28, Instr.sipush 588, 3, 588, 0, 0, []), (31, Instr.iload_n 1, 1, 0, 0, 0, []), (32, Instr.sipush 4352, 3, 4352, 0, 0, []), (35, Instr.isub, 1, 0, 0, 0, []), (36, Instr.imul, 1, 0, 0, 0, []), (37, Instr.iadd, 1, 0, 0, 0, []), (38, Instr.bipush 28, 2, 28, 0, 0, []), (40, Instr.iload_n 2, 1, 0, 0, 0, []), (41, Instr.sipush 4449, 3, 4449, 0, 0, []), (44, Instr.isub, 1, 0, 0, 0, []), (45, Instr.imul, 1, 0, 0, 0, []), (46, Instr.iadd, 1, 0, 0, 0, []), (47, Instr.ireturn, 1, 0, 0, 0, []), (48, Instr.iload_n 1, 1, 0, 0, 0, []), (49, Instr.invokestatic 154, 3, 0, 147, 1, [1070, 1071, 66, 1072]), (52, Instr.ifCond .eq 34, 3, 0, 86, 0, []), (55, Instr.iload_n 1, 1, 0, 0, 0, []), (56, Instr.ldc 152, 2, 44032, 0, 0, [1073]), (58, Instr.isub, 1, 0, 0, 0, []), (59, Instr.bipush 28, 2, 28, 0, 0, []), (61, Instr.irem, 1, 0, 0, 0, []), (62, Instr.ifCond .ne 24, 3, 0, 86, 0, []), (65, Instr.iload_n 2, 1, 0, 0, 0, []), (66, Instr.sipush 4520, 3, 4520, 0, 0, []), (69, Instr.sipush 4546, 3, 4546, 0, 0, []), (72, Instr.invokestatic 116, 3, 0, 135, 3, [1022, 1023, 66, 1024]), (75, Instr.ifCond .eq 11, 3, 0, 86, 0, []), (78, Instr.iload_n 1, 1, 0, 0, 0, []), (79, Instr.iload_n 2, 1, 0, 0, 0, []), (80, Instr.iadd, 1, 0, 0, 0, []), (81, Instr.sipush 4519, 3, 4519, 0, 0, []), (84, Instr.isub, 1, 0, 0, 0, []), (85, Instr.ireturn, 1, 0, 0, 0, []), (86, Instr.iconst 0, 1, 0, 0, 0, []), (87, Instr.istore_n 3, 1, 0, 0, 0, []), (88, Instr.iload_n 3, 1, 0, 0, 0, []), (89, Instr.aload_n 0, 1, 0, 0, 0, []), (90, Instr.getfield 160, 3, 0, 10, 11, [868]), (93, Instr.if_icmp .ge 54, 3, 0, 147, 0, []), (96, Instr.aload_n 0, 1, 0, 0, 0, []), (97, Instr.getfield 41, 3, 0, 10, 15, [872]), (100, Instr.iload_n 3, 1, 0, 0, 0, []), (101, Instr.baload, 1, 0, 0, 0, []), (102, Instr.ifCond .ne 39, 3, 0, 141, 0, []), (105, Instr.aload_n 0, 1, 0, 0, 0, []), (106, Instr.getfield 38, 3, 0, 10, 14, [871]), (109, Instr.iload_n 3, 1, 0, 0, 0, []), (110, Instr.iaload, 1, 0, 0, 0, []), (111, Instr.ifCond .eq 30, 3, 0, 141, 0, []), (114, Instr.aload_n 0, 1, 0, 0, 0, []), (115, Instr.getfield 35, 3, 0, 10, 13, [870]), (118, Instr.iload_n 3, 1, 0, 0, 0, []), (119, Instr.iaload, 1, 0, 0, 0, []), (120, Instr.iload_n 1, 1, 0, 0, 0, []), (121, Instr.if_icmp .ne 20, 3, 0, 141, 0, []), (124, Instr.aload_n 0, 1, 0, 0, 0, []), (125, Instr.getfield 38, 3, 0, 10, 14, [871]), (128, Instr.iload_n 3, 1, 0, 0, 0, []), (129, Instr.iaload, 1, 0, 0, 0, []), (130, Instr.iload_n 2, 1, 0, 0, 0, []), (131, Instr.if_icmp .ne 10, 3, 0, 141, 0, []), (134, Instr.aload_n 0, 1, 0, 0, 0, []), (135, Instr.getfield 32, 3, 0, 10, 12, [869]), (138, Instr.iload_n 3, 1, 0, 0, 0, []), (139, Instr.iaload, 1, 0, 0, 0, []), (140, Instr.ireturn, 1, 0, 0, 0, []), (141, Instr.iinc 3 1, 3, 0, 0, 0, []), (144, Instr.goto (-56), 3, 0, 88, 0, []), (147, Instr.iconst (-1), 1, (-1), 0, 0, []), (148, Instr.ireturn, 1, 0, 0, 0, [])]
def mm_T161 : List (Nat × mm_I) := [(0, Instr.aload_n 0, 1, 0, 0, 0, []), (1, Instr.iconst 0, 1, 0, 0, 0, []), (2, Instr.putfield 112, 3, 1, 10, 0, [857]), (5, Instr.aload_n 0, 1, 0, 0, 0, []), (6, Instr.aload_n 0, 1, 0, 0, 0, []), (7, Instr.getfield 13, 3, 0, 10, 3, [860]), (10, Instr.iconst 0, 1, 0, 0, 0, []), (11, Instr.aload_n 0, 1, 0, 0, 0, []), (12, Instr.getfield 108, 3, 0, 10, 4, [861]), (15, Instr.invokevirtual 198, 3, 10, 157, 3, [1111, 1113, 32, 66, 1114]), (18, Instr.ifCond .eq 23, 3, 0, 41, 0, []), (21, Instr.aload_n 0, 1, 0, 0, 0, []), (22, Instr.aload_n 0, 1, 0, 0, 0, []), (23, Instr.getfield 13, 3, 0, 10, 3, [860]), (26, Instr.iconst 0, 1, 0, 0, 0, []), (27, Instr.aload_n 0, 1, 0, 0, 0, []), (28, Instr.getfield 108, 3, 0, 10, 4, [861]), (31, Instr.invokevirtual 201, 3, 10, 162, 3, [1131, 1133, 36, 66, 1134]), (34, Instr.ifCond .ge 7, 3, 0, 41, 0, []), (37, Instr.iconst 1, 1, 1, 0, 0, []), (38, Instr.goto 4, 3, 0, 42, 0, []), (41, Instr.iconst 0, 1, 0, 0, 0, []), (42, Instr.ireturn, 1, 0, 0, 0, [])]
def mm_T162 : List (Nat × mm_I) := [(0, Instr.iconst 0, 1, 0, 0, 0, []), (1, Instr.istore 4, 2, 0, 0, 0, []), (3, Instr.iload 4, 2, 0, 0, 0, []), (5, Instr.iload_n 3, 1, 0, 0, 0, []), (6, Instr.if_icmp .ge 34, 3, 0, 40, 0, []), (9, Instr.iload 4, 2, 0, 0, 0, []), (11, Instr.aload_n 0, 1, 0, 0, 0, []), (12, Instr.getfield 192, 3, 0, 10, 31, [888]), (15, Instr.if_icmp .ge 25, 3, 0, 40, 0, []), (18, Instr.aload_n 1, 1, 0, 0, 0, []), (19, Instr.iload_n 2, 1, 0, 0, 0, []), (20, Instr.iload 4, 2, 0, 0, 0, []), (22, Instr.iadd, 1, 0, 0, 0, []), (23, Instr.iaload, 1, 0, 0, 0, []), (24, Instr.aload_n 0, 1, 0, 0, 0, []), (25, Instr.getfield 72, 3, 0, 10, 30, [887]), (28, Instr.iload 4, 2, 0, 0, 0, []), (30, Instr.iaload, 1, 0, 0, 0, []), (31, Instr.if_icmp .ne 9, 3, 0, 40, 0, []), (34, Instr.iinc 4 1, 3, 0, 0, 0, []), (37, Instr.goto (-34), 3, 0, 3, 0, []), (40, Instr.iload 4, 2, 0, 0, 0, []), (42, Instr.iload_n 3, 1, 0, 0, 0, []), (43, Instr.if_icmp .ne 16, 3, 0, 59, 0, []), (46, Instr.iload 4, 2, 0, 0, 0, []), (48, Instr.aload_n 0, 1, 0, 0, 0, []), (49, Instr.getfield 192, 3, 0, 10, 31, [888]), (52, Instr.if_icmp .ne 7, 3, 0, 59, 0, []), (55, Instr.iconst (-1), 1, (-1), 0, 0, []), (56, Instr.goto 5, 3, 0, 61, 0, []), (59, Instr.iload 4, 2, 0, 0, 0, []), (61, Instr.ireturn, 1, 0, 0, 0, [])]
def mm_T163 : List (Nat × mm_I) := [(0, Instr.aload_n 0, 1, 0, 0, 0, []), (1, Instr.iconst 0, 1, 0, 0, 0, []), (2, Instr.putfield 112, 3, 1, 10, 0, [857]), (5, Instr.aload_n 0, 1, 0, 0, 0, []), (6, Instr.invokevirtual 135, 3, 10, 137, 0, [1029, 1031, 24, 66, 1032]), (9, Instr.aload_n 0, 1, 0, 0, 0, []), (10, Instr.getfield 128, 3, 0, 10, 26, [883]), (13, Instr.bipush (-2), 2, (-2), 0, 0, []), (15, Instr.if_icmp .ne 6, 3, 0, 21, 0, []), (18, Instr.bipush (-4), 2, (-4), 0, 0, []), (20, Instr.ireturn, 1, 0, 0, 0, []), (21, Instr.aload_n 0, 1, 0, 0, 0, []), (22, Instr.getfield 128, 3, 0, 10, 26, [883]), (25, Instr.ifCond .lt 11, 3, 0, 36, 0, []), (28, Instr.bipush (-10), 2, (-10), 0, 0, []), (30, Instr.aload_n 0, 1, 0, 0, 0, []), (31, Instr.getfield 128, 3, 0, 10, 26, [883]), (34, Instr.isub, 1, 0, 0, 0, []), (35, Instr.ireturn, 1, 0, 0, 0, []), (36, Instr.aload_n 0, 1, 0, 0, 0, []), (37, Instr.aload_n 0, 1, 0, 0, 0, []), (38, Instr.getfield 63, 3, 0, 10, 24, [881]), (41, Instr.iconst 0, 1, 0, 0, 0, []), (42, Instr.aload_n 0, 1, 0, 0, 0, []), (43, Instr.getfield 125, 3, 0, 10, 25, [882]), (46, Instr.invokevirtual 188, 3, 10, 158, 3, [1115, 1117, 33, 66, 1118]), (49, Instr.ifCond .ne 6, 3, 0, 55, 0, []), (52, Instr.bipush (-4), 2, (-4), 0, 0, []), (54, Instr.ireturn, 1, 0, 0, 0, []), (55, Instr.aload_n 0, 1, 0, 0, 0, []), (56, Instr.getfield 182, 3, 0, 10, 28, [885]), (59, Instr.istore_n 1, 1, 0, 0, 0, []), (60, Instr.iconst 0, 1, 0, 0, 0, []), (61, Instr.istore_n 2, 1, 0, 0, 0, []), (62, Instr.iload_n 2, 1, 0, 0, 0, []), (63, Instr.iload_n 1, 1, 0, 0, 0, []), (64, Instr.if_icmp .ge 21, 3, 0, 85, 0, []), (67, Instr.aload_n 0, 1, 0, 0, 0, []), (68, Instr.getfield 75, 3, 0, 10, 32, [889]), (71, Instr.iload_n 2, 1, 0, 0, 0, []), (72, Instr.aload_n 0, 1, 0, 0, 0, []), (73, Instr.getfield 66, 3, 0, 10, 27, [884]), (76, Instr.iload_n 2, 1, 0, 0, 0, []), (77, Instr.iaload, 1, 0, 0, 0, []), (78, Instr.iastore, 1, 0, 0, 0, []), (79, Instr.iinc 2 1, 3, 0, 0, 0, []), (82, Instr.goto (-20), 3, 0, 62, 0, []), (85, Instr.aload_n 0, 1, 0, 0, 0, []), (86, Instr.aload_n 0, 1, 0, 0, 0, []), (87, Instr.getfield 13, 3, 0, 10, 3, [860]), (90, Instr.iconst 0, 1, 0, 0, 0, []), (91, Instr.aload_n 0, 1, 0, 0, 0, []), (92, Instr.getfield 108, 3, 0, 10, 4, [861]), (95, Instr.invokevirtual 188, 3, 10, 158, 3, [1115, 1117, 33, 66, 1118]), (98, Instr.ifCond .ne 6, 3, 0, 104, 0, []), (101, Instr.bipush (-4), 2, (-4), 0, 0, []), (103, Instr.ireturn, 1, 0, 0, 0, []), (104, Instr.iload_n 1, 1, 0, 0, 0, []), (105, Instr.aload_n 0, 1, 0, 0, 0, []), (106, Instr.getfield 182, 3, 0, 10, 28, [885]), (109, Instr.if_icmp .ne 7, 3, 0, 116, 0, []), (112, Instr.iconst 1, 1, 1, 0, 0, []), (113, Instr.goto 4, 3, 0, 117, 0, []), (116, Instr.iconst 0, 1, 0, 0, 0, []), (117, Instr.istore_n 2, 1, 0, 0, 0, []), (118, Instr.iconst 0, 1, 0, 0, 0, []), (119, Instr.istore_n 3, 1, 0, 0, 0, []), (120, Instr.iload_n 3, 1, 0, 0, 0, []), (121, Instr.iload_n 1, 1, 0, 0, 0, []), (122, Instr.if_icmp .ge 34, 3, 0, 156, 0, []), (125, Instr.iload_n 2, 1, 0, 0, 0, []), (126, Instr.ifCond .eq 30, 3, 0, 156, 0, []), (129, Instr.aload_n 0, 1, 0, 0, 0, []), (130, Instr.getfield 75, 3, 0, 10, 32, [889]), (133, Instr.iload_n 3, 1, 0, 0, 0, []), (134, Instr.iaload, 1, 0, 0, 0, []), (135, Instr.aload_n 0, 1, 0, 0, 0, []), (136, Instr.getfield 66, 3, 0, 10, 27, [884]), (139, Instr.iload_n 3, 1, 0, 0, 0, []), (140, Instr.iaload, 1, 0, 0, 0, []), (141, Instr.if_icmp .ne 7, 3, 0, 148, 0, []), (144, Instr.iconst 1, 1, 1, 0, 0, []), (145, Instr.goto 4, 3, 0, 149, 0, []), (148, Instr.iconst 0, 1, 0, 0, 0, []), (149, Instr.istore_n 2, 1, 0, 0, 0, []), (150, Instr.iinc 3 1, 3, 0, 0, 0, []), (153, Instr.goto (-33), 3, 0, 120, 0, []), (156, Instr.iload_n 2, 1, 0, 0, 0, []), (157, Instr.ifCond .eq 7, 3, 0, 164, 0, []), (160, Instr.iconst 1, 1, 1, 0, 0, []), (161, Instr.goto 4, 3, 0, 165, 0, []), (164, Instr.iconst 0, 1, 0, 0, 0, []), (165, Instr.ireturn, 1, 0, 0, 0, [])]
def mm_T164 : List (Nat × mm_I) := [(0, Instr.aload_n 0, 1, 0, 0, 0, []), (1, Instr.iconst 0, 1, 0, 0, 0, []), (2, Instr.putfield 112, 3, 1, 10, 0, [857]), (5, Instr.aload_n 0, 1, 0, 0, 0, []), (6, Instr.aload_n 0, 1, 0, 0, 0, []), (7, Instr.getfield 13, 3, 0, 10, 3, [860]), (10, Instr.iconst 0, 1, 0, 0, 0, []), (11, Instr.aload_n 0, 1, 0, 0, 0, []), (12, Instr.getfield 108, 3, 0, 10, 4, [861]), (15, Instr.invokevirtual 241, 3, 10, 165, 3, [1143, 1145, 37, 66, 1146]), (18, Instr.ifCond .eq 13, 3, 0, 31, 0, []), (21, Instr.aload_n 0, 1, 0, 0, 0, []), (22, Instr.getfield 217, 3, 0, 10, 34, [891]), (25, Instr.sipush 300, 3, 300, 0, 0, []), (28, Instr.if_icmp .le 6, 3, 0, 34, 0, []), (31, Instr.bipush (-4), 2, (-4), 0, 0, []), (33, Instr.ireturn, 1, 0, 0, 0, []), (34, Instr.aload_n 0, 1, 0, 0, 0, []), (35, Instr.aload_n 0, 1, 0, 0, 0, []), (36, Instr.getfield 217, 3, 0, 10, 34, [891]), (39, Instr.putfield 108, 3, 1, 10, 4, [861]), (42, Instr.iconst 0, 1, 0, 0, 0, []), (43, Instr.istore_n 1, 1, 0, 0, 0, []), (44, Instr.iload_n 1, 1, 0, 0, 0, []), (45, Instr.aload_n 0, 1, 0, 0, 0, []), (46, Instr.getfield 108, 3, 0, 10, 4, [861]), (49, Instr.if_icmp .ge 21, 3, 0, 70, 0, []), (52, Instr.aload_n 0, 1, 0, 0, 0, []), (53, Instr.getfield 13, 3, 0, 10, 3, [860]), (56, Instr.iload_n 1, 1, 0, 0, 0, []), (57, Instr.aload_n 0, 1, 0, 0, 0, []), (58, Instr.getfield 78, 3, 0, 10, 33, [890]), (61, Instr.iload_n 1, 1, 0, 0, 0, []), (62, Instr.iaload, 1, 0, 0, 0, []), (63, Instr.iastore, 1, 0, 0, 0, []), (64, Instr.iinc 1 1, 3, 0, 0, 0, []), (67, Instr.goto (-23), 3, 0, 44, 0, []), (70, Instr.aload_n 0, 1, 0, 0, 0, []), (71, Instr.getfield 108, 3, 0, 10, 4, [861]), (74, Instr.ireturn, 1, 0, 0, 0, [])]
def mm_T165 : List (Nat × mm_I) := [(0, Instr.aload_n 0, 1, 0, 0, 0, []), (1, Instr.iconst 0, 1, 0, 0, 0, []), (2, Instr.putfield 217, 3, 1, 10, 34, [891]), (5, Instr.iconst 0, 1, 0, 0, 0, []), (6, Instr.istore 4, 2, 0, 0, 0, []), (8, Instr.iload 4, 2, 0, 0, 0, []), (10, Instr.iload_n 3, 1, 0, 0, 0, []), (11, Instr.if_icmp .ge 31, 3, 0, 42, 0, []), (14, Instr.aload_n 1, 1, 0, 0, 0, []), (15, Instr.iload_n 2, 1, 0, 0, 0, []), (16, Instr.iload 4, 2, 0, 0, 0, []), (18, Instr.iadd, 1, 0, 0, 0, []), (19, Instr.iaload, 1, 0, 0, 0, []), (20, Instr.sipush 128, 3, 128, 0, 0, []), (23, Instr.if_icmp .ge 13, 3, 0, 36, 0, []), (26, Instr.aload_n 0, 1, 0, 0, 0, []), (27, Instr.aload_n 1, 1, 0, 0, 0, []), (28, Instr.iload_n 2, 1, 0, 0, 0, []), (29, Instr.iload 4, 2, 0, 0, 0, []), (31, Instr.iadd, 1, 0, 0, 0, []), (32, Instr.iaload, 1, 0, 0, 0, []), (33, Instr.invokevirtual 220, 3, 10, 166, 1, [1147, 1149, 38, 66, 1150]), (36, Instr.iinc 4 1, 3, 0, 0, 0, []), (39, Instr.goto (-31), 3, 0, 8, 0, []), (42, Instr.aload_n 0, 1, 0, 0, 0, []), (43, Instr.getfield 217, 3, 0, 10, 34, [891]), (46, Instr.istore 4, 2, 0, 0, 0, []), (48, Instr.iload 4, 2, 0, 0, 0, []), (50, Instr.istore 5, 2, 0, 0, 0, []), (52, Instr.iload 4, 2, 0, 0, 0, []), (54, Instr.ifCond .le 9, 3, 0, 63, 0, []), (57, Instr.aload_n 0, 1, 0, 0, 0, []), (58, Instr.bipush 45, 2, 45, 0, 0, []), (60, Instr.invokevirtual 220, 3, 10, 166, 1, [1147, 1149, 38, 66, 1150]), (63, Instr.lconst 0, 1, 0, 0, 0, []), (64, Instr.lstore 6, 2, 0, 0, 0, []), (66, Instr.sipush 128, 3, 128, 0, 0, []), (69, Instr.istore 8, 2, 0, 0, 0, []), (71, Instr.bipush 72, 2, 72, 0, 0, []), (73, Instr.istore 9, 2, 0, 0, 0, []), (75, Instr.iload 5, 2, 0, 0, 0, []), (77, Instr.iload_n 3, 1, 0, 0, 0, []), (78, Instr.if_icmp .ge 196, 3, 0, 274, 0, []), (81, Instr.ldc 224, 2, 1114112, 0, 0, [1151]), (83, Instr.istore 10, 2, 0, 0, 0, []), (85, Instr.iconst 0, 1, 0, 0, 0, []), (86, Instr.istore 11, 2, 0, 0, 0, []), (88, Instr.iload 11, 2, 0, 0, 0, []), (90, Instr.iload_n 3, 1, 0, 0, 0, []), (91, Instr.if_icmp .ge 44, 3, 0, 135, 0, []), (94, Instr.aload_n 1, 1, 0, 0, 0, []), (95, Instr.iload_n 2, 1, 0, 0, 0, []), (96, Instr.iload 11, 2, 0, 0, 0, []), (98, Instr.iadd, 1, 0, 0, 0, []), (99, Instr.iaload, 1, 0, 0, 0, []), (100, Instr.iload 8, 2, 0, 0, 0, []), (102, Instr.if_icmp .lt 23, 3, 0, 125, 0, []), (105, Instr.aload_n 1, 1, 0, 0, 0, []), (106, Instr.iload_n 2, 1, 0, 0, 0, []), (107, Instr.iload 11, 2, 0, 0, 0, []), (109, Instr.iadd, 1, 0, 0, 0, []), (110, Instr.iaload, 1, 0, 0, 0, []), (111, Instr.iload 10, 2, 0, 0, 0, []), (113, Instr.if_icmp .ge 12, 3, 0, 125, 0, []), (116, Instr.aload_n 1, 1, 0, 0, 0, []), (117, Instr.iload_n 2, 1, 0, 0, 0, []), (118, Instr.iload 11, 2, 0, 0, 0, []), (120, Instr.iadd, 1, 0, 0, 0, []), (121, Instr.iaload, 1, 0, 0, 0, []), (122, Instr.goto 5, 3, 0, 127, 0, []), (125, Instr.iload 10, 2, 0, 0, 0, []), (127, Instr.istore 10, 2, 0, 0, 0, []), (129, Instr.iinc 11 1, 3, 0, 0, 0, []), (132, Instr.goto (-44), 3, 0, 88, 0, []), (135, Instr.lload 6, 2, 0, 0, 0, []), (137, Instr.iload 10, 2, 0, 0, 0, []), (139, Instr.iload 8, 2, 0, 0, 0, []), (141, Instr.isub, 1, 0, 0, 0, []), (142, Instr.i2l, 1, 0, 0, 0, []), (143, Instr.iload 5, 2, 0, 0, 0, []), (145, Instr.iconst 1, 1, 1, 0, 0, []), (146, Instr.iadd, 1, 0, 0, 0, []), (147, Instr.i2l, 1, 0, 0, 0, []), (148, Instr.lmul, 1, 0, 0, 0, []), (149, Instr.ladd, 1, 0, 0, 0, []), (150, Instr.lstore 6, 2, 0, 0, 0, []), (152, Instr.lload 6, 2, 0, 0, 0, []), (154, Instr.ldc2_w 225, 3, 2147483647, 0, 0, [1152]), (157, Instr.lcmp, 1, 0, 0, 0, []), (158, Instr.ifCond .le 5, 3, 0, 163, 0, []), (161, Instr.iconst 0, 1, 0, 0, 0, []), (162, Instr.ireturn, 1, 1, 0, 0, []), (163, Instr.iload 10, 2, 0, 0, 0, []), (165, Instr.istore 8, 2, 0, 0, 0, []), (167, Instr.iconst 0, 1, 0, 0, 0, []), (168, Instr.istore 11, 2, 0, 0, 0, []), (170, Instr.iload 11, 2, 0, 0, 0, []), (172, Instr.iload_n 3, 1, 0, 0, 0, []), (173, Instr.if_icmp .ge 89, 3, 0, 262, 0, []), (176, Instr.aload_n 1, 1, 0, 0, 0, []), (177, Instr.iload_n 2, 1, 0, 0, 0, []), (178, Instr.iload 11, 2, 0, 0, 0, []), (180, Instr.iadd, 1, 0, 0, 0, []), (181, Instr.iaload, 1, 0, 0, 0, []), (182, Instr.istore 12, 2, 0, 0, 0, []), (184, Instr.lload 6, 2, 0, 0, 0, []), (186, Instr.iload 12, 2, 0, 0, 0, []), (188, Instr.iload 8, 2, 0, 0, 0, []), (190, Instr.if_icmp .ge 7, 3, 0, 197, 0, []), (193, Instr.lconst 1, 1, 1, 0, 0, []), (194, Instr.goto 4, 3, 0, 198, 0, []), (197, Instr.lconst 0, 1, 0, 0, 0, []), (198, Instr.ladd, 1, 0, 0, 0, []), (199, Instr.lstore 6, 2, 0, 0, 0, []), (201, Instr.lload 6, 2, 0, 0, 0, []), (203, Instr.ldc2_w 225, 3, 2147483647, 0, 0, [1152]), (206, Instr.lcmp, 1, 0, 0, 0, []), (207, Instr.ifCond .le 5, 3, 0, 212, 0, []), (210, Instr.iconst 0, 1, 0, 0, 0, []), (211, Instr.ireturn, 1, 1, 0, 0, []), (212, Instr.iload 12, 2, 0, 0, 0, []), (214, Instr.iload 8, 2, 0, 0, 0, []), (216, Instr.if_icmp .ne 40, 3, 0, 256, 0, []), (219, Instr.aload_n 0, 1, 0, 0, 0, []), (220, Instr.lload 6, 2, 0, 0, 0, []), (222, Instr.iload 9, 2, 0, 0, 0, []), (224, Instr.invokevirtual 227, 3, 10, 167, 2, [1153, 1155, 39, 66, 1156]), (227, Instr.lload 6, 2, 0, 0, 0, []), (229, Instr.iload 5, 2, 0, 0, 0, []), (231, Instr.iconst 1, 1, 1, 0, 0, []), (232, Instr.iadd, 1, 0, 0, 0, []), (233, Instr.iload 5, 2, 0, 0, 0, []), (235, Instr.iload 4, 2, 0, 0, 0, []), (237, Instr.if_icmp .ne 7, 3, 0, 244, 0, []), (240, Instr.iconst 1, 1, 1, 0, 0, []), (241, Instr.goto 4, 3, 0, 245, 0, []), (244, Instr.iconst 0, 1, 0, 0, 0, []), (245, Instr.invokestatic 231, 3, 0, 170, 3, [1163, 1164, 66, 1165]), (248, Instr.istore 9, 2, 0, 0, 0, []), (250, Instr.lconst 0, 1, 0, 0, 0, []), (251, Instr.lstore 6, 2, 0, 0, 0, []), (253, Instr.iinc 5 1, 3, 0, 0, 0, []), (256, Instr.iinc 11 1, 3, 0, 0, 0, []), (259, Instr.goto (-89), 3, 0, 170, 0, []), (262, Instr.lload 6, 2, 0, 0, 0, []), (264, Instr.lconst 1, 1, 1, 0, 0, []), (265, Instr.ladd, 1, 0, 0, 0, []), (266, Instr.lstore 6, 2, 0, 0, 0, []), (268, Instr.iinc 8 1, 3, 0, 0, 0, []), (271, Instr.goto (-196), 3, 0, 75, 0, []), (274, Instr.iconst 1, 1, 1, 0, 0, []), (275, Instr.ireturn, 1, 1, 0, 0, [])]
def mm_T166 : List (Nat × mm_I) := [(0, Instr.aload_n 0, 1, 0, 0, 0, []), (1, Instr.getfield 217, 3, 0, 10, 34, [891]), (4, Instr.sipush 2600, 3, 2600, 0, 0, []), (7, Instr.if_icmp .ge 13, 3, 0, 20, 0, []), (10, Instr.aload_n 0, 1, 0, 0, 0, []), (11, Instr.getfield 78, 3, 0, 10, 33, [890]), (14, Instr.aload_n 0, 1, 0, 0, 0, []), (15, Instr.getfield 217, 3, 0, 10, 34, [891]), (18, Instr.iload_n 1, 1, 0, 0, 0, []), (19, Instr.iastore, 1, 0, 0, 0, []), (20, Instr.aload_n 0, 1, 0, 0, 0, []), (21, Instr.dup, 1, 0, 0, 0, []), (22, Instr.getfield 217, 3, 0, 10, 34, [891]), (25, Instr.iconst 1, 1, 1, 0, 0, []), (26, Instr.iadd, 1, 0, 0, 0, []), (27, Instr.putfield 217, 3, 1, 10, 34, [891]), (30, Instr.return_, 1, 0, 0, 0, [])]
def mm_T167 : List (Nat × mm_I) := [(0, Instr.lload_n 1, 1, 0, 0, 0, []), (1, Instr.lstore 4, 2, 0, 0, 0, []), (3, Instr.bipush 36, 2, 36, 0, 0, []), (5, Instr.istore 6, 2, 0, 0, 0, []), (7, Instr.lload 4, 2, 0, 0, 0, []), (9, Instr.iload 6, 2, 0, 0, 0, []), (11, Instr.iload_n 3, 1, 0, 0, 0, []), (12, Instr.invokestatic 235, 3, 0, 168, 2, [1157, 1158, 66, 1159]), (15, Instr.i2l, 1, 0, 0, 0, []), (16, Instr.lcmp, 1, 0, 0, 0, []), (17, Instr.ifCond .lt 57, 3, 0, 74, 0, []), (20, Instr.iload 6, 2, 0, 0, 0, []), (22, Instr.iload_n 3, 1, 0, 0, 0, []), (23, Instr.invokestatic 235, 3, 0, 168, 2, [1157, 1158, 66, 1159]), (26, Instr.istore 7, 2, 0, 0, 0, []), (28, Instr.aload_n 0, 1, 0, 0, 0, []), (29, Instr.iload 7, 2, 0, 0, 0, []), (31, Instr.i2l, 1, 0, 0, 0, []), (32, Instr.lload 4, 2, 0, 0, 0, []), (34, Instr.iload 7, 2, 0, 0, 0, []), (36, Instr.i2l, 1, 0, 0, 0, []), (37, Instr.lsub, 1, 0, 0, 0, []), (38, Instr.bipush 36, 2, 36, 0, 0, []), (40, Instr.iload 7, 2, 0, 0, 0, []), (42, Instr.isub, 1, 0, 0, 0, []), (43, Instr.i2l, 1, 0, 0, 0, []), (44, Instr.lrem, 1, 0, 0, 0, []), (45, Instr.ladd, 1, 0, 0, 0, []), (46, Instr.l2i, 1, 0, 0, 0, []), (47, Instr.invokestatic 238, 3, 0, 169, 1, [1160, 1161, 66, 1162]), (50, Instr.invokevirtual 220, 3, 10, 166, 1, [1147, 1149, 38, 66, 1150]), (53, Instr.lload 4, 2, 0, 0, 0, []), (55, Instr.iload 7, 2, 0, 0, 0, []), (57, Instr.i2l, 1, 0, 0, 0, []), (58, Instr.lsub, 1, 0, 0, 0, []), (59, Instr.bipush 36, 2, 36, 0, 0, []), (61, Instr.iload 7, 2, 0, 0, 0, []), (63, Instr.isub, 1, 0, 0, 0, []), (64, Instr.i2l, 1, 0, 0, 0, []), (65, Instr.ldiv, 1, 0, 0, 0, []), (66, Instr.lstore 4, 2, 0, 0, 0, []), (68, Instr.iinc 6 36, 3, 0, 0, 0, []), (71, Instr.goto (-64), 3, 0, 7, 0, []), (74, Instr.aload_n 0, 1, 0, 0, 0, []), (75, Instr.lload 4, 2, 0, 0, 0, []), (77, Instr.l2i, 1, 0, 0, 0, []), (78, Instr.invokestatic 238, 3, 0, 169, 1, [1160, 1161, 66, 1162]), (81, Instr.invokevirtual 220, 3, 10, 166, 1, [1147, 1149, 38, 66, 1150]), (84, Instr.return_, 1, 0, 0, 0, [])]
def mm_T168 : List (Nat × mm_I) := [(0, Instr.iload_n 0, 1, 0, 0, 0, []), (1, Instr.iload_n 1, 1, 0, 0, 0, []), (2, Instr.isub, 1, 0, 0, 0, []), (3, Instr.istore_n 2, 1, 0, 0, 0, []), (4, Instr.iload_n 2, 1, 0, 0, 0, []), (5, Instr.iconst 1, 1, 1, 0, 0, []), (6, Instr.if_icmp .ge 7, 3, 0, 13, 0, []), (9, Instr.iconst 1, 1, 1, 0, 0, []), (10, Instr.goto 15, 3, 0, 25, 0, []), (13, Instr.iload_n 2, 1, 0, 0, 0, []), (14, Instr.bipush 26, 2, 26, 0, 0, []), (16, Instr.if_icmp .le 8, 3, 0, 24, 0, []), (19, Instr.bipush 26, 2, 26, 0, 0, []), (21, Instr.goto 4, 3, 0, 25, 0, []), (24, Instr.iload_n 2, 1, 0, 0, 0, []), (25, Instr.ireturn, 1, 0, 0, 0, [])]
def mm_T169 : List (Nat × mm_I) := [(0, Instr.iload_n 0, 1, 0, 0, 0, []), (1, Instr.bipush 26, 2, 26, 0, 0, []), (3, Instr.if_icmp .ge 10, 3, 0, 13, 0, []), (6, Instr.bipush 97, 2, 97, 0, 0, []), (8, Instr.iload_n 0, 1, 0, 0, 0, []), (9, Instr.iadd, 1, 0, 0, 0, []), (10, Instr.goto 10, 3, 0, 20, 0, []), (13, Instr.bipush 48, 2, 48, 0, 0, []), (15, Instr.iload_n 0, 1, 0, 0, 0, []), (16, Instr.iadd, 1, 0, 0, 0, []), (17, Instr.bipush 26, 2, 26, 0, 0, []), (19, Instr.isub, 1, 0, 0, 0, []), (20, Instr.ireturn, 1, 0, 0, 0, [])]
def mm_T170 : List (Nat × mm_I) := [(0, Instr.iload_n 3, 1, 0, 0, 0, []), (1, Instr.ifCond .eq 11, 3, 0, 12, 0, []), (4, Instr.lload_n 0, 1, 0, 0, 0, []), (5, Instr.ldc2_w 205, 3, 700, 0, 0, [1166]), (8, Instr.ldiv, 1, 0, 0, 0, []), (9, Instr.goto 8, 3, 0, 17, 0, []), (12, Instr.lload_n 0, 1, 0, 0, 0, []), (13, Instr.ldc2_w 207, 3, 2, 0, 0, [1167]), (16, Instr.ldiv, 1, 0, 0, 0, []), (17, Instr.lstore 4, 2, 0, 0, 0, []), (19, Instr.lload 4, 2, 0, 0, 0, []), (21, Instr.lload 4, 2, 0, 0, 0, []), (23, Instr.iload_n 2, 1, 0, 0, 0, []), (24, Instr.i2l, 1, 0, 0, 0, []), (25, Instr.ldiv, 1, 0, 0, 0, []), (26, Instr.ladd, 1, 0, 0, 0, []), (27, Instr.lstore 4, 2, 0, 0, 0, []), (29, Instr.iconst 0, 1, 0, 0, 0, []), (30, Instr.istore 6, 2, 0, 0, 0, []), (32, Instr.lload 4, 2, 0, 0, 0, []), (34, Instr.ldc2_w 209, 3, 455, 0, 0, [1168]), (37, Instr.lcmp, 1, 0, 0, 0, []), (38, Instr.ifCond .le 17, 3, 0, 55, 0, []), (41, Instr.lload 4, 2, 0, 0, 0, []), (43, Instr.ldc2_w 211, 3, 35, 0, 0, [1169]), (46, Instr.ldiv, 1, 0, 0, 0, []), (47, Instr.lstore 4, 2, 0, 0, 0, []), (49, Instr.iinc 6 36, 3, 0, 0, 0, []), (52, Instr.goto (-20), 3, 0, 32, 0, []), (55, Instr.iload 6, 2, 0, 0, 0, []), (57, Instr.i2l, 1, 0, 0, 0, []), (58, Instr.ldc2_w 213, 3, 36, 0, 0, [1170]), (61, Instr.lload 4, 2, 0, 0, 0, []), (63, Instr.lmul, 1, 0, 0, 0, []), (64, Instr.lload 4, 2, 0, 0, 0, []), (66, Instr.ldc2_w 215, 3, 38, 0, 0, [1171]), (69, Instr.ladd, 1, 0, 0, 0, []), (70, Instr.ldiv, 1, 0, 0, 0, []), (71, Instr.ladd, 1, 0, 0, 0, []), (72, Instr.l2i, 1, 0, 0, 0, []), (73, Instr.ireturn, 1, 0, 0, 0, [])]
def mm_T171 : List (Nat × mm_I) := [(0, Instr.aload_n 0, 1, 0, 0, 0, []), (1, Instr.iconst 0, 1, 0, 0, 0, []), (2, Instr.putfield 112, 3, 1, 10, 0, [857]), (5, Instr.aload_n 0, 1, 0, 0, 0, []), (6, Instr.aload_n 0, 1, 0, 0, 0, []), (7, Instr.getfield 13, 3, 0, 10, 3, [860]), (10, Instr.iconst 0, 1, 0, 0, 0, []), (11, Instr.aload_n 0, 1, 0, 0, 0, []), (12, Instr.getfield 108, 3, 0, 10, 4, [861]), (15, Instr.invokevirtual 254, 3, 10, 172, 3, [1176, 1178, 40, 66, 1179]), (18, Instr.istore_n 1, 1, 0, 0, 0, []), (19, Instr.iload_n 1, 1, 0, 0, 0, []), (20, Instr.ifCond .lt 8, 3, 0, 28, 0, []), (23, Instr.bipush (-10), 2, (-10), 0, 0, []), (25, Instr.iload_n 1, 1, 0, 0, 0, []), (26, Instr.isub, 1, 0, 0, 0, []), (27, Instr.ireturn, 1, 0, 0, 0, []), (28, Instr.aload_n 0, 1, 0, 0, 0, []), (29, Instr.aload_n 0, 1, 0, 0, 0, []), (30, Instr.getfield 244, 3, 0, 10, 36, [893]), (33, Instr.putfield 108, 3, 1, 10, 4, [861]), (36, Instr.iconst 0, 1, 0, 0, 0, []), (37, Instr.istore_n 2, 1, 0, 0, 0, []), (38, Instr.iload_n 2, 1, 0, 0, 0, []), (39, Instr.aload_n 0, 1, 0, 0, 0, []), (40, Instr.getfield 108, 3, 0, 10, 4, [861]), (43, Instr.if_icmp .ge 21, 3, 0, 64, 0, []), (46, Instr.aload_n 0, 1, 0, 0, 0, []), (47, Instr.getfield 13, 3, 0, 10, 3, [860]), (50, Instr.iload_n 2, 1, 0, 0, 0, []), (51, Instr.aload_n 0, 1, 0, 0, 0, []), (52, Instr.getfield 81, 3, 0, 10, 35, [892]), (55, Instr.iload_n 2, 1, 0, 0, 0, []), (56, Instr.iaload, 1, 0, 0, 0, []), (57, Instr.iastore, 1, 0, 0, 0, []), (58, Instr.iinc 2 1, 3, 0, 0, 0, []), (61, Instr.goto (-23), 3, 0, 38, 0, []), (64, Instr.aload_n 0, 1, 0, 0, 0, []), (65, Instr.getfield 108, 3, 0, 10, 4, [861]), (68, Instr.ireturn, 1, 0, 0, 0, [])]
def mm_T172 : List (Nat × mm_I) := [(0, Instr.iconst (-1), 1, (-1), 0, 0, []), (1, Instr.istore 4, 2, 0, 0, 0, []), (3, Instr.iconst 0, 1, 0, 0, 0, []), (4, Instr.istore 5, 2, 0, 0, 0, []), (6, Instr.iload 5, 2, 0, 0, 0, []), (8, Instr.iload_n 3, 1, 0, 0, 0, []), (9, Instr.if_icmp .ge 43, 3, 0, 52, 0, []), (12, Instr.aload_n 1, 1, 0, 0, 0, []), (13, Instr.iload_n 2, 1, 0, 0, 0, []), (14, Instr.iload 5, 2, 0, 0, 0, []), (16, Instr.iadd, 1, 0, 0, 0, []), (17, Instr.iaload, 1, 0, 0, 0, []), (18, Instr.bipush 127, 2, 127, 0, 0, []), (20, Instr.if_icmp .le 6, 3, 0, 26, 0, []), (23, Instr.iload 5, 2, 0, 0, 0, []), (25, Instr.ireturn, 1, 0, 0, 0, []), (26, Instr.aload_n 1, 1, 0, 0, 0, []), (27, Instr.iload_n 2, 1, 0, 0, 0, []), (28, Instr.iload 5, 2, 0, 0, 0, []), (30, Instr.iadd, 1, 0, 0, 0, []), (31, Instr.iaload, 1, 0, 0, 0, []), (32, Instr.bipush 45, 2, 45, 0, 0, []), (34, Instr.if_icmp .ne 8, 3, 0, 42, 0, []), (37, Instr.iload 5, 2, 0, 0, 0, []), (39, Instr.goto 5, 3, 0, 44, 0, []), (42, Instr.iload 4, 2, 0, 0, 0, []), (44, Instr.istore 4, 2, 0, 0, 0, []), (46, Instr.iinc 5 1, 3, 0, 0, 0, []), (49, Instr.goto (-43), 3, 0, 6, 0, []), (52, Instr.iload 4, 2, 0, 0, 0, []), (54, Instr.ifCond .le 8, 3, 0, 62, 0, []), (57, Instr.iload 4, 2, 0, 0, 0, []), (59, Instr.goto 4, 3, 0, 63, 0, []), (62, Instr.iconst 0, 1, 0, 0, 0, []), (63, Instr.istore 5, 2, 0, 0, 0, []), (65, Instr.aload_n 0, 1, 0, 0, 0, []), (66, Instr.iload 5, 2, 0, 0, 0, []), (68, Instr.putfield 244, 3, 1, 10, 36, [893]), (71, Instr.iconst 0, 1, 0, 0, 0, []), (72, Instr.istore 6, 2, 0, 0, 0, []), (74, Instr.iload 6, 2, 0, 0, 0, []), (76, Instr.iload 5, 2, 0, 0, 0, []), (78, Instr.if_icmp .ge 22, 3, 0, 100, 0, []), (81, Instr.aload_n 0, 1, 0, 0, 0, []), (82, Instr.getfield 81, 3, 0, 10, 35, [892]), (85, Instr.iload 6, 2, 0, 0, 0, []), (87, Instr.aload_n 1, 1, 0, 0, 0, []), (88, Instr.iload_n 2, 1, 0, 0, 0, []), (89, Instr.iload 6, 2, 0, 0, 0, []), (91, Instr.iadd, 1, 0, 0, 0, []), (92, Instr.iaload, 1, 0, 0, 0, []), (93, Instr.iastore, 1, 0, 0, 0, []), (94, Instr.iinc 6 1, 3, 0, 0, 0, []), (97, Instr.goto (-23), 3, 0, 74, 0, []), (100, Instr.iload 4, 2, 0, 0, 0, []), (102, Instr.ifCond .le 10, 3, 0, 112, 0, []), (105, Instr.iload 4, 2, 0, 0, 0, []), (107, Instr.iconst 1, 1, 1, 0, 0, []), (108, Instr.iadd, 1, 0, 0, 0, []), (109, Instr.goto 4, 3, 0, 113, 0, []), (112, Instr.iconst 0, 1, 0, 0, 0, []), (113, Instr.istore 6, 2, 0, 0, 0, []), (115, Instr.lconst 0, 1, 0, 0, 0, []), (116, Instr.lstore 7, 2, 0, 0, 0, []), (118, Instr.ldc2_w 247, 3, 128, 0, 0, [1180]), (121, Instr.lstore 9, 2, 0, 0, 0, []), (123, Instr.bipush 72, 2, 72, 0, 0, []), (125, Instr.istore 11, 2, 0, 0, 0, []), (127, Instr.iload 6, 2, 0, 0, 0, []), (129, Instr.iload_n 3, 1, 0, 0, 0, []), (130, Instr.if_icmp .ge 294, 3, 0, 424, 0, []), (133, Instr.lload 7, 2, 0, 0, 0, []), (135, Instr.lstore 12, 2, 0, 0, 0, []), (137, Instr.lconst 1, 1, 1, 0, 0, []), (138, Instr.lstore 14, 2, 0, 0, 0, []), (140, Instr.iconst 1, 1, 1, 0, 0, []), (141, Instr.istore 16, 2, 0, 0, 0, []), (143, Instr.bipush 36, 2, 36, 0, 0, []), (145, Instr.istore 17, 2, 0, 0, 0, []), (147, Instr.iload 16, 2, 0, 0, 0, []), (149, Instr.ifCond .eq 115, 3, 0, 264, 0, []), (152, Instr.iload 6, 2, 0, 0, 0, []), (154, Instr.iload_n 3, 1, 0, 0, 0, []), (155, Instr.if_icmp .ge 15, 3, 0, 170, 0, []), (158, Instr.aload_n 1, 1, 0, 0, 0, []), (159, Instr.iload_n 2, 1, 0, 0, 0, []), (160, Instr.iload 6, 2, 0, 0, 0, []), (162, Instr.iadd, 1, 0, 0, 0, []), (163, Instr.iaload, 1, 0, 0, 0, []), (164, Instr.invokestatic 249, 3, 0, 173, 1, [1181, 1182, 66, 1183]), (167, Instr.goto 4, 3, 0, 171, 0, []), (170, Instr.iconst (-1), 1, (-1), 0, 0, []), (171, Instr.istore 18, 2, 0, 0, 0, []), (173, Instr.iload 18, 2, 0, 0, 0, []), (175, Instr.ifCond .ge 6, 3, 0, 181, 0, []), (178, Instr.iload 6, 2, 0, 0, 0, []), (180, Instr.ireturn, 1, 0, 0, 0, []), (181, Instr.lload 7, 2, 0, 0, 0, []), (183, Instr.iload 18, 2, 0, 0, 0, []), (185, Instr.i2l, 1, 0, 0, 0, []), (186, Instr.lload 14, 2, 0, 0, 0, []), (188, Instr.lmul, 1, 0, 0, 0, []), (189, Instr.ladd, 1, 0, 0, 0, []), (190, Instr.lstore 7, 2, 0, 0, 0, []), (192, Instr.lload 7, 2, 0, 0, 0, []), (194, Instr.ldc2_w 225, 3, 2147483647, 0, 0, [1152]), (197, Instr.lcmp, 1, 0, 0, 0, []), (198, Instr.ifCond .le 6, 3, 0, 204, 0, []), (201, Instr.iload 6, 2, 0, 0, 0, []), (203, Instr.ireturn, 1, 0, 0, 0, []), (204, Instr.iload 17, 2, 0, 0, 0, []), (206, Instr.iload 11, 2, 0, 0, 0, []), (208, Instr.invokestatic 235, 3, 0, 168, 2, [1157, 1158, 66, 1159]), (211, Instr.istore 19, 2, 0, 0, 0, []), (213, Instr.iload 18, 2, 0, 0, 0, []), (215, Instr.iload 19, 2, 0, 0, 0, []), (217, Instr.if_icmp .lt 7, 3, 0, 224, 0, []), (220, Instr.iconst 1, 1, 1, 0, 0, []), (221, Instr.goto 4, 3, 0, 225, 0, []), (224, Instr.iconst 0, 1, 0, 0, 0, []), (225, Instr.istore 16, 2, 0, 0, 0, []), (227, Instr.iload 16, 2, 0, 0, 0, []), (229, Instr.ifCond .eq 26, 3, 0, 255, 0, []), (232, Instr.lload 14, 2, 0, 0, 0, []), (234, Instr.bipush 36, 2, 36, 0, 0, []), (236, Instr.iload 19, 2, 0, 0, 0, []), (238, Instr.isub, 1, 0, 0, 0, []), (239, Instr.i2l, 1, 0, 0, 0, []), (240, Instr.lmul, 1, 0, 0, 0, []), (241, Instr.lstore 14, 2, 0, 0, 0, []), (243, Instr.lload 14, 2, 0, 0, 0, []), (245, Instr.ldc2_w 225, 3, 2147483647, 0, 0, [1152]), (248, Instr.lcmp, 1, 0, 0, 0, []), (249, Instr.ifCond .le 6, 3, 0, 255, 0, []), (252, Instr.iload 6, 2, 0, 0, 0, []), (254, Instr.ireturn, 1, 0, 0, 0, []), (255, Instr.iinc 6 1, 3, 0, 0, 0, []), (258, Instr.iinc 17 36, 3, 0, 0, 0, []), (261, Instr.goto (-114), 3, 0, 147, 0, []), (264, Instr.lload 7, 2, 0, 0, 0, []), (266, Instr.lload 12, 2, 0, 0, 0, []), (268, Instr.lsub, 1, 0, 0, 0, []), (269, Instr.aload_n 0, 1, 0, 0, 0, []), (270, Instr.getfield 244, 3, 0, 10, 36, [893]), (273, Instr.iconst 1, 1, 1, 0, 0, []), (274, Instr.iadd, 1, 0, 0, 0, []), (275, Instr.lload 12, 2, 0, 0, 0, []), (277, Instr.lconst 0, 1, 0, 0, 0, []), (278, Instr.lcmp, 1, 0, 0, 0, []), (279, Instr.ifCond .ne 7, 3, 0, 286, 0, []), (282, Instr.iconst 1, 1, 1, 0, 0, []), (283, Instr.goto 4, 3, 0, 287, 0, []), (286, Instr.iconst 0, 1, 0, 0, 0, []), (287, Instr.invokestatic 231, 3, 0, 170, 3, [1163, 1164, 66, 1165]), (290, Instr.istore 11, 2, 0, 0, 0, []), (292, Instr.lload 9, 2, 0, 0, 0, []), (294, Instr.lload 7, 2, 0, 0, 0, []), (296, Instr.aload_n 0, 1, 0, 0, 0, []), (297, Instr.getfield 244, 3, 0, 10, 36, [893]), (300, Instr.iconst 1, 1, 1, 0, 0, []), (301, Instr.iadd, 1, 0, 0, 0, []), (302, Instr.i2l, 1, 0, 0, 0, []), (303, Instr.ldiv, 1, 0, 0, 0, []), (304, Instr.ladd, 1, 0, 0, 0, []), (305, Instr.lstore 9, 2, 0, 0, 0, []), (307, Instr.lload 7, 2, 0, 0, 0, []), (309, Instr.aload_n 0, 1, 0, 0, 0, []), (310, Instr.getfield 244, 3, 0, 10, 36, [893]), (313, Instr.iconst 1, 1, 1, 0, 0, []), (314, Instr.iadd, 1, 0, 0, 0, []), (315, Instr.i2l, 1, 0, 0, 0, []), (316, Instr.lrem, 1, 0, 0, 0, []), (317, Instr.lstore 7, 2, 0, 0, 0, []), (319, Instr.lload 9, 2, 0, 0, 0, []), (321, Instr.ldc2_w 252, 3, 1114111, 0, 0, [1184]), (324, Instr.lcmp, 1, 0, 0, 0, []), (325, Instr.ifCond .gt 12, 3, 0, 337, 0, []), (328, Instr.lload 9, 2, 0, 0, 0, []), (330, Instr.l2i, 1, 0, 0, 0, []), (331, Instr.invokestatic 138, 3, 0, 141, 1, [1045, 1046, 66, 1047]), (334, Instr.ifCond .ne 8, 3, 0, 342, 0, []), (337, Instr.iload 6, 2, 0, 0, 0, []), (339, Instr.iconst 1, 1, 1, 0, 0, []), (340, Instr.isub, 1, 0, 0, 0, []), (341, Instr.ireturn, 1, 0, 0, 0, []), (342, Instr.aload_n 0, 1, 0, 0, 0, []), (343, Instr.getfield 244, 3, 0, 10, 36, [893]), (346, Instr.sipush 300, 3, 300, 0, 0, []), (349, Instr.if_icmp .ne 8, 3, 0, 357, 0, []), (352, Instr.iload 6, 2, 0, 0, 0, []), (354, Instr.iconst 1, 1, 1, 0, 0, []), (355, Instr.isub, 1, 0, 0, 0, []), (356, Instr.ireturn, 1, 0, 0, 0, []), (357, Instr.aload_n 0, 1, 0, 0, 0, []), (358, Instr.getfield 244, 3, 0, 10, 36, [893]), (361, Instr.istore 17, 2, 0, 0, 0, []), (363, Instr.iload 17, 2, 0, 0, 0, []), (365, Instr.i2l, 1, 0, 0, 0, []), (366, Instr.lload 7, 2, 0, 0, 0, []), (368, Instr.lcmp, 1, 0, 0, 0, []), (369, Instr.ifCond .le 25, 3, 0, 394, 0, []), (372, Instr.aload_n 0, 1, 0, 0, 0, []), (373, Instr.getfield 81, 3, 0, 10, 35, [892]), (376, Instr.iload 17, 2, 0, 0, 0, []), (378, Instr.aload_n 0, 1, 0, 0, 0, []), (379, Instr.getfield 81, 3, 0, 10, 35, [892]), (382, Instr.iload 17, 2, 0, 0, 0, []), (384, Instr.iconst 1, 1, 1, 0, 0, []), (385, Instr.isub, 1, 0, 0, 0, []), (386, Instr.iaload, 1, 0, 0, 0, []), (387, Instr.iastore, 1, 0, 0, 0, []), (388, Instr.iinc 17 (-1), 3, 0, 0, 0, []), (391, Instr.goto (-28), 3, 0, 363, 0, []), (394, Instr.aload_n 0, 1, 0, 0, 0, []), (395, Instr.getfield 81, 3, 0, 10, 35, [892]), (398, Instr.lload 7, 2, 0, 0, 0, []), (400, Instr.l2i, 1, 0, 0, 0, []), (401, Instr.lload 9, 2, 0, 0, 0, []), (403, Instr.l2i, 1, 0, 0, 0, []), (404, Instr.iastore, 1, 0, 0, 0, []), (405, Instr.aload_n 0, 1, 0, 0, 0, []), (406, Instr.dup, 1, 0, 0, 0, []), (407, Instr.getfield 244, 3, 0, 10, 36, [893]), (410, Instr.iconst 1, 1, 1, 0, 0, []), (411, Instr.iadd, 1, 0, 0, 0, []), (412, Instr.putfield 244, 3, 1, 10, 36, [893]), (415, Instr.lload 7, 2, 0, 0, 0, []), (417, Instr.lconst 1, 1, 1, 0, 0, []), (418, Instr.ladd, 1, 0, 0, 0, []), (419, Instr.lstore 7, 2, 0, 0, 0, []), (421, Instr.goto (-294), 3, 0, 127, 0, []), (424, Instr.iconst (-1), 1, (-1), 0, 0, []), (425, Instr.ireturn, 1, 0, 0, 0, [])]
def mm_T173 : List (Nat × mm_I) := [(0, Instr.iload_n 0, 1, 0, 0, 0, []), (1, Instr.bipush 97, 2, 97, 0, 0, []), (3, Instr.bipush 122, 2, 122, 0, 0, []), (5, Instr.invokestatic 116, 3, 0, 135, 3, [1022, 1023, 66, 1024]), (8, Instr.ifCond .eq 10, 3, 0, 18, 0, []), (11, Instr.iload_n 0, 1, 0, 0, 0, []), (12, Instr.bipush 97, 2, 97, 0, 0, []), (14, Instr.isub, 1, 0, 0, 0, []), (15, Instr.goto 43, 3, 0, 58, 0, []), (18, Instr.iload_n 0, 1, 0, 0, 0, []), (19, Instr.bipush 65, 2, 65, 0, 0, []), (21, Instr.bipush 90, 2, 90, 0, 0, []), (23, Instr.invokestatic 116, 3, 0, 135, 3, [1022, 1023, 66, 1024]), (26, Instr.ifCond .eq 10, 3, 0, 36, 0, []), (29, Instr.iload_n 0, 1, 0, 0, 0, []), (30, Instr.bipush 65, 2, 65, 0, 0, []), (32, Instr.isub, 1, 0, 0, 0, []), (33, Instr.goto 25, 3, 0, 58, 0, []), (36, Instr.iload_n 0, 1, 0, 0, 0, []), (37, Instr.bipush 48, 2, 48, 0, 0, []), (39, Instr.bipush 57, 2, 57, 0, 0, []), (41, Instr.invokestatic 116, 3, 0, 135, 3, [1022, 1023, 66, 1024]), (44, Instr.ifCond .eq 13, 3, 0, 57, 0, []), (47, Instr.iload_n 0, 1, 0, 0, 0, []), (48, Instr.bipush 48, 2, 48, 0, 0, []), (50, Instr.isub, 1, 0, 0, 0, []), (51, Instr.bipush 26, 2, 26, 0, 0, []), (53, Instr.iadd, 1, 0, 0, 0, []), (54, Instr.goto 4, 3, 0, 58, 0, []), (57, Instr.iconst (-1), 1, (-1), 0, 0, []), (58, Instr.ireturn, 1, 0, 0, 0, [])]
def mm_T174 : List (Nat × mm_I) := [(0, Instr.aload_n 0, 1, 0, 0, 0, []), (1, Instr.iconst 0, 1, 0, 0, 0, []), (2, Instr.putfield 112, 3, 1, 10, 0, [857]), (5, Instr.aload_n 0, 1, 0, 0, 0, []), (6, Instr.iconst 0, 1, 0, 0, 0, []), (7, Instr.putfield 257, 3, 1, 10, 37, [894]), (10, Instr.aload_n 0, 1, 0, 0, 0, []), (11, Instr.iconst 0, 1, 0, 0, 0, []), (12, Instr.putfield 260, 3, 1, 10, 38, [895]), (15, Instr.aload_n 0, 1, 0, 0, 0, []), (16, Instr.iconst 0, 1, 0, 0, 0, []), (17, Instr.putfield 263, 3, 1, 10, 39, [896]), (20, Instr.aload_n 0, 1, 0, 0, 0, []), (21, Instr.iconst 0, 1, 0, 0, 0, []), (22, Instr.putfield 307, 3, 1, 10, 40, [897]), (25, Instr.aload_n 0, 1, 0, 0, 0, []), (26, Instr.iconst 0, 1, 0, 0, 0, []), (27, Instr.putfield 284, 3, 1, 10, 50, [907]), (30, Instr.aload_n 0, 1, 0, 0, 0, []), (31, Instr.iload_n 1, 1, 0, 0, 0, []), (32, Instr.invokevirtual 319, 3, 10, 175, 1, [1189, 1191, 41, 66, 1192]), (35, Instr.aload_n 0, 1, 0, 0, 0, []), (36, Instr.getfield 257, 3, 0, 10, 37, [894]), (39, Instr.ifCond .le 11, 3, 0, 50, 0, []), (42, Instr.bipush (-10), 2, (-10), 0, 0, []), (44, Instr.aload_n 0, 1, 0, 0, 0, []), (45, Instr.getfield 257, 3, 0, 10, 37, [894]), (48, Instr.isub, 1, 0, 0, 0, []), (49, Instr.ireturn, 1, 0, 0, 0, []), (50, Instr.iconst 0, 1, 0, 0, 0, []), (51, Instr.istore_n 2, 1, 0, 0, 0, []), (52, Instr.iload_n 2, 1, 0, 0, 0, []), (53, Instr.aload_n 0, 1, 0, 0, 0, []), (54, Instr.getfield 284, 3, 0, 10, 50, [907]), (57, Instr.if_icmp .ge 21, 3, 0, 78, 0, []), (60, Instr.aload_n 0, 1, 0, 0, 0, []), (61, Instr.getfield 96, 3, 0, 10, 47, [904]), (64, Instr.iload_n 2, 1, 0, 0, 0, []), (65, Instr.aload_n 0, 1, 0, 0, 0, []), (66, Instr.getfield 99, 3, 0, 10, 49, [906]), (69, Instr.iload_n 2, 1, 0, 0, 0, []), (70, Instr.baload, 1, 0, 0, 0, []), (71, Instr.bastore, 1, 0, 0, 0, []), (72, Instr.iinc 2 1, 3, 0, 0, 0, []), (75, Instr.goto (-23), 3, 0, 52, 0, []), (78, Instr.aload_n 0, 1, 0, 0, 0, []), (79, Instr.aload_n 0, 1, 0, 0, 0, []), (80, Instr.getfield 284, 3, 0, 10, 50, [907]), (83, Instr.putfield 323, 3, 1, 10, 48, [905]), (86, Instr.aload_n 0, 1, 0, 0, 0, []), (87, Instr.getfield 323, 3, 0, 10, 48, [905]), (90, Instr.ireturn, 1, 0, 0, 0, [])]
def mm_T175 : List (Nat × mm_I) := [(0, Instr.aload_n 0, 1, 0, 0, 0, []), (1, Instr.invokevirtual 135, 3, 10, 137, 0, [1029, 1031, 24, 66, 1032]), (4, Instr.aload_n 0, 1, 0, 0, 0, []), (5, Instr.getfield 128, 3, 0, 10, 26, [883]), (8, Instr.iconst (-1), 1, (-1), 0, 0, []), (9, Instr.if_icmp .eq 38, 3, 0, 47, 0, []), (12, Instr.aload_n 0, 1, 0, 0, 0, []), (13, Instr.getfield 128, 3, 0, 10, 26, [883]), (16, Instr.bipush (-2), 2, (-2), 0, 0, []), (18, Instr.if_icmp .ne 16, 3, 0, 34, 0, []), (21, Instr.aload_n 0, 1, 0, 0, 0, []), (22, Instr.bipush 60, 2, 60, 0, 0, []), (24, Instr.iconst 0, 1, 0, 0, 0, []), (25, Instr.sipush 300, 3, 300, 0, 0, []), (28, Instr.invokevirtual 269, 3, 10, 176, 3, [1193, 1195, 42, 66, 1196]), (31, Instr.goto 14, 3, 0, 45, 0, []), (34, Instr.aload_n 0, 1, 0, 0, 0, []), (35, Instr.bipush 10, 2, 10, 0, 0, []), (37, Instr.iconst 0, 1, 0, 0, 0, []), (38, Instr.aload_n 0, 1, 0, 0, 0, []), (39, Instr.getfield 128, 3, 0, 10, 26, [883]), (42, Instr.invokevirtual 269, 3, 10, 176, 3, [1193, 1195, 42, 66, 1196]), (45, Instr.istore_n 2, 1, 0, 0, 0, []), (46, Instr.return_, 1, 0, 0, 0, []), (47, Instr.aload_n 0, 1, 0, 0, 0, []), (48, Instr.invokevirtual 297, 3, 10, 177, 0, [1197, 1199, 43, 66, 1200]), (51, Instr.ifCond .ne 4, 3, 0, 55, 0, []), (54, Instr.return_, 1, 0, 0, 0, []), (55, Instr.aload_n 0, 1, 0, 0, 0, []), (56, Instr.invokevirtual 301, 3, 10, 178, 0, [1201, 1203, 44, 66, 1204]), (59, Instr.iconst 0, 1, 0, 0, 0, []), (60, Instr.istore_n 2, 1, 0, 0, 0, []), (61, Instr.iload_n 2, 1, 0, 0, 0, []), (62, Instr.aload_n 0, 1, 0, 0, 0, []), (63, Instr.getfield 272, 3, 0, 10, 43, [900]), (66, Instr.if_icmp .ge 28, 3, 0, 94, 0, []), (69, Instr.aload_n 0, 1, 0, 0, 0, []), (70, Instr.iload_n 2, 1, 0, 0, 0, []), (71, Instr.invokevirtual 304, 3, 10, 179, 1, [1205, 1207, 45, 66, 1208]), (74, Instr.ifCond .ne 4, 3, 0, 78, 0, []), (77, Instr.return_, 1, 0, 0, 0, []), (78, Instr.aload_n 0, 1, 0, 0, 0, []), (79, Instr.dup, 1, 0, 0, 0, []), (80, Instr.getfield 307, 3, 0, 10, 40, [897]), (83, Instr.iconst 1, 1, 1, 0, 0, []), (84, Instr.iadd, 1, 0, 0, 0, []), (85, Instr.putfield 307, 3, 1, 10, 40, [897]), (88, Instr.iinc 2 1, 3, 0, 0, 0, []), (91, Instr.goto (-30), 3, 0, 61, 0, []), (94, Instr.aload_n 0, 1, 0, 0, 0, []), (95, Instr.invokevirtual 310, 3, 10, 182, 0, [1217, 1219, 48, 66, 1220]), (98, Instr.ifCond .ne 4, 3, 0, 102, 0, []), (101, Instr.return_, 1, 0, 0, 0, []), (102, Instr.iload_n 1, 1, 0, 0, 0, []), (103, Instr.ifCond .eq 10, 3, 0, 113, 0, []), (106, Instr.aload_n 0, 1, 0, 0, 0, []), (107, Instr.invokevirtual 313, 3, 10, 184, 0, [1225, 1227, 50, 66, 1228]), (110, Instr.goto 7, 3, 0, 117, 0, []), (113, Instr.aload_n 0, 1, 0, 0, 0, []), (114, Instr.invokevirtual 316, 3, 10, 187, 0, [1237, 1239, 53, 66, 1240]), (117, Instr.return_, 1, 0, 0, 0, [])]
def mm_T176 : List (Nat × mm_I) := [(0, Instr.aload_n 0, 1, 0, 0, 0, []), (1, Instr.getfield 257, 3, 0, 10, 37, [894]), (4, Instr.ifCond .ne 18, 3, 0, 22, 0, []), (7, Instr.aload_n 0, 1, 0, 0, 0, []), (8, Instr.iload_n 1, 1, 0, 0, 0, []), (9, Instr.putfield 257, 3, 1, 10, 37, [894]), (12, Instr.aload_n 0, 1, 0, 0, 0, []), (13, Instr.iload_n 2, 1, 0, 0, 0, []), (14, Instr.putfield 260, 3, 1, 10, 38, [895]), (17, Instr.aload_n 0, 1, 0, 0, 0, []), (18, Instr.iload_n 3, 1, 0, 0, 0, []), (19, Instr.putfield 263, 3, 1, 10, 39, [896]), (22, Instr.iconst 0, 1, 0, 0, 0, []), (23, Instr.ireturn, 1, 1, 0, 0, [])]
def mm_T177 : List (Nat × mm_I) := [(0, Instr.aload_n 0, 1, 0, 0, 0, []), (1, Instr.iconst 0, 1, 0, 0, 0, []), (2, Instr.putfield 266, 3, 1, 10, 42, [899]), (5, Instr.iconst 0, 1, 0, 0, 0, []), (6, Instr.istore_n 1, 1, 0, 0, 0, []), (7, Instr.iload_n 1, 1, 0, 0, 0, []), (8, Instr.aload_n 0, 1, 0, 0, 0, []), (9, Instr.getfield 125, 3, 0, 10, 25, [882]), (12, Instr.if_icmp .ge 164, 3, 0, 176, 0, []), (15, Instr.aload_n 0, 1, 0, 0, 0, []), (16, Instr.getfield 63, 3, 0, 10, 24, [881]), (19, Instr.iload_n 1, 1, 0, 0, 0, []), (20, Instr.iaload, 1, 0, 0, 0, []), (21, Instr.istore_n 2, 1, 0, 0, 0, []), (22, Instr.aload_n 0, 1, 0, 0, 0, []), (23, Instr.iload_n 2, 1, 0, 0, 0, []), (24, Instr.invokevirtual 175, 3, 10, 153, 1, [1095, 1097, 29, 66, 1098]), (27, Instr.istore_n 3, 1, 0, 0, 0, []), (28, Instr.aload_n 0, 1, 0, 0, 0, []), (29, Instr.iload_n 2, 1, 0, 0, 0, []), (30, Instr.invokevirtual 149, 3, 10, 154, 1, [1099, 1101, 30, 66, 1102]), (33, Instr.istore 4, 2, 0, 0, 0, []), (35, Instr.iload_n 3, 1, 0, 0, 0, []), (36, Instr.iconst 3, 1, 3, 0, 0, []), (37, Instr.if_icmp .ne 12, 3, 0, 49, 0, []), (40, Instr.aload_n 0, 1, 0, 0, 0, []), (41, Instr.bipush 20, 2, 20, 0, 0, []), (43, Instr.iconst 0, 1, 0, 0, 0, []), (44, Instr.iload_n 1, 1, 0, 0, 0, []), (45, Instr.invokevirtual 269, 3, 10, 176, 3, [1193, 1195, 42, 66, 1196]), (48, Instr.ireturn, 1, 1, 0, 0, []), (49, Instr.iload_n 3, 1, 0, 0, 0, []), (50, Instr.iconst 1, 1, 1, 0, 0, []), (51, Instr.if_icmp .ne 7, 3, 0, 58, 0, []), (54, Instr.iconst 0, 1, 0, 0, 0, []), (55, Instr.goto 24, 3, 0, 79, 0, []), (58, Instr.iload_n 3, 1, 0, 0, 0, []), (59, Instr.iconst 2, 1, 2, 0, 0, []), (60, Instr.if_icmp .ne 18, 3, 0, 78, 0, []), (63, Instr.iload 4, 2, 0, 0, 0, []), (65, Instr.ifCond .lt 13, 3, 0, 78, 0, []), (68, Instr.aload_n 0, 1, 0, 0, 0, []), (69, Instr.getfield 29, 3, 0, 10, 10, [867]), (72, Instr.iload 4, 2, 0, 0, 0, []), (74, Instr.iaload, 1, 0, 0, 0, []), (75, Instr.goto 4, 3, 0, 79, 0, []), (78, Instr.iconst 1, 1, 1, 0, 0, []), (79, Instr.istore 5, 2, 0, 0, 0, []), (81, Instr.aload_n 0, 1, 0, 0, 0, []), (82, Instr.getfield 266, 3, 0, 10, 42, [899]), (85, Instr.iload 5, 2, 0, 0, 0, []), (87, Instr.iadd, 1, 0, 0, 0, []), (88, Instr.sipush 300, 3, 300, 0, 0, []), (91, Instr.if_icmp .le 12, 3, 0, 103, 0, []), (94, Instr.aload_n 0, 1, 0, 0, 0, []), (95, Instr.bipush 60, 2, 60, 0, 0, []), (97, Instr.iconst 0, 1, 0, 0, 0, []), (98, Instr.iload_n 1, 1, 0, 0, 0, []), (99, Instr.invokevirtual 269, 3, 10, 176, 3, [1193, 1195, 42, 66, 1196]), (102, Instr.ireturn, 1, 1, 0, 0, []), (103, Instr.iconst 0, 1, 0, 0, 0, []), (104, Instr.istore 6, 2, 0, 0, 0, []), (106, Instr.iload 6, 2, 0, 0, 0, []), (108, Instr.iload 5, 2, 0, 0, 0, []), (110, Instr.if_icmp .ge 60, 3, 0, 170, 0, []), (113, Instr.aload_n 0, 1, 0, 0, 0, []), (114, Instr.getfield 84, 3, 0, 10, 41, [898]), (117, Instr.aload_n 0, 1, 0, 0, 0, []), (118, Instr.getfield 266, 3, 0, 10, 42, [899]), (121, Instr.iload_n 3, 1, 0, 0, 0, []), (122, Instr.ifCond .ne 7, 3, 0, 129, 0, []), (125, Instr.iload_n 2, 1, 0, 0, 0, []), (126, Instr.goto 27, 3, 0, 153, 0, []), (129, Instr.iload 4, 2, 0, 0, 0, []), (131, Instr.ifCond .lt 18, 3, 0, 149, 0, []), (134, Instr.aload_n 0, 1, 0, 0, 0, []), (135, Instr.getfield 26, 3, 0, 10, 9, [866]), (138, Instr.iconst 4, 1, 4, 0, 0, []), (139, Instr.iload 4, 2, 0, 0, 0, []), (141, Instr.imul, 1, 0, 0, 0, []), (142, Instr.iload 6, 2, 0, 0, 0, []), (144, Instr.iadd, 1, 0, 0, 0, []), (145, Instr.iaload, 1, 0, 0, 0, []), (146, Instr.goto 7, 3, 0, 153, 0, []), (149, Instr.iload_n 2, 1, 0, 0, 0, []), (150, Instr.bipush 32, 2, 32, 0, 0, []), (152, Instr.iadd, 1, 0, 0, 0, []), (153, Instr.iastore, 1, 0, 0, 0, []), (154, Instr.aload_n 0, 1, 0, 0, 0, []), (155, Instr.dup, 1, 0, 0, 0, []), (156, Instr.getfield 266, 3, 0, 10, 42, [899]), (159, Instr.iconst 1, 1, 1, 0, 0, []), (160, Instr.iadd, 1, 0, 0, 0, []), (161, Instr.putfield 266, 3, 1, 10, 42, [899]), (164, Instr.iinc 6 1, 3, 0, 0, 0, []), (167, Instr.goto (-61), 3, 0, 106, 0, []), (170, Instr.iinc 1 1, 3, 0, 0, 0, []), (173, Instr.goto (-166), 3, 0, 7, 0, []), (176, Instr.aload_n 0, 1, 0, 0, 0, []), (177, Instr.aload_n 0, 1, 0, 0, 0, []), (178, Instr.getfield 84, 3, 0, 10, 41, [898]), (181, Instr.iconst 0, 1, 0, 0, 0, []), (182, Instr.aload_n 0, 1, 0, 0, 0, []), (183, Instr.getfield 266, 3, 0, 10, 42, [899]), (186, Instr.invokevirtual 198, 3, 10, 157, 3, [1111, 1113, 32, 66, 1114]), (189, Instr.ifCond .ne 14, 3, 0, 203, 0, []), (192, Instr.aload_n 0, 1, 0, 0, 0, []), (193, Instr.bipush 60, 2, 60, 0, 0, []), (195, Instr.iconst 0, 1, 0, 0, 0, []), (196, Instr.iconst 0, 1, 0, 0, 0, []), (197, Instr.invokevirtual 269, 3, 10, 176, 3, [1193, 1195, 42, 66, 1196]), (200, Instr.ifCond .eq 7, 3, 0, 207, 0, []), (203, Instr.iconst 1, 1, 1, 0, 0, []), (204, Instr.goto 4, 3, 0, 208, 0, []), (207, Instr.iconst 0, 1, 0, 0, 0, []), (208, Instr.ireturn, 1, 1, 0, 0, [])]
def mm_T178 : List (Nat × mm_I) := [(0, Instr.aload_n 0, 1, 0, 0, 0, []), (1, Instr.iconst 0, 1, 0, 0, 0, []), (2, Instr.putfield 272, 3, 1, 10, 43, [900]), (5, Instr.aload_n 0, 1, 0, 0, 0, []), (6, Instr.getfield 90, 3, 0, 10, 45, [902]), (9, Instr.iconst 0, 1, 0, 0, 0, []), (10, Instr.iconst 0, 1, 0, 0, 0, []), (11, Instr.iastore, 1, 0, 0, 0, []), (12, Instr.aload_n 0, 1, 0, 0, 0, []), (13, Instr.getfield 93, 3, 0, 10, 46, [903]), (16, Instr.iconst 0, 1, 0, 0, 0, []), (17, Instr.iconst 0, 1, 0, 0, 0, []), (18, Instr.iastore, 1, 0, 0, 0, []), (19, Instr.iconst 0, 1, 0, 0, 0, []), (20, Instr.istore_n 1, 1, 0, 0, 0, []), (21, Instr.iconst 0, 1, 0, 0, 0, []), (22, Instr.istore_n 2, 1, 0, 0, 0, []), (23, Instr.iload_n 2, 1, 0, 0, 0, []), (24, Instr.aload_n 0, 1, 0, 0, 0, []), (25, Instr.getfield 192, 3, 0, 10, 31, [888]), (28, Instr.if_icmp .ge 81, 3, 0, 109, 0, []), (31, Instr.aload_n 0, 1, 0, 0, 0, []), (32, Instr.getfield 72, 3, 0, 10, 30, [887]), (35, Instr.iload_n 2, 1, 0, 0, 0, []), (36, Instr.iaload, 1, 0, 0, 0, []), (37, Instr.bipush 46, 2, 46, 0, 0, []), (39, Instr.if_icmp .ne 36, 3, 0, 75, 0, []), (42, Instr.aload_n 0, 1, 0, 0, 0, []), (43, Instr.dup, 1, 0, 0, 0, []), (44, Instr.getfield 272, 3, 0, 10, 43, [900]), (47, Instr.iconst 1, 1, 1, 0, 0, []), (48, Instr.iadd, 1, 0, 0, 0, []), (49, Instr.putfield 272, 3, 1, 10, 43, [900]), (52, Instr.aload_n 0, 1, 0, 0, 0, []), (53, Instr.getfield 90, 3, 0, 10, 45, [902]), (56, Instr.aload_n 0, 1, 0, 0, 0, []), (57, Instr.getfield 272, 3, 0, 10, 43, [900]), (60, Instr.iload_n 1, 1, 0, 0, 0, []), (61, Instr.iastore, 1, 0, 0, 0, []), (62, Instr.aload_n 0, 1, 0, 0, 0, []), (63, Instr.getfield 93, 3, 0, 10, 46, [903]), (66, Instr.aload_n 0, 1, 0, 0, 0, []), (67, Instr.getfield 272, 3, 0, 10, 43, [900]), (70, Instr.iconst 0, 1, 0, 0, 0, []), (71, Instr.iastore, 1, 0, 0, 0, []), (72, Instr.goto 31, 3, 0, 103, 0, []), (75, Instr.aload_n 0, 1, 0, 0, 0, []), (76, Instr.getfield 87, 3, 0, 10, 44, [901]), (79, Instr.iload_n 1, 1, 0, 0, 0, []), (80, Instr.aload_n 0, 1, 0, 0, 0, []), (81, Instr.getfield 72, 3, 0, 10, 30, [887]), (84, Instr.iload_n 2, 1, 0, 0, 0, []), (85, Instr.iaload, 1, 0, 0, 0, []), (86, Instr.iastore, 1, 0, 0, 0, []), (87, Instr.aload_n 0, 1, 0, 0, 0, []), (88, Instr.getfield 93, 3, 0, 10, 46, [903]), (91, Instr.aload_n 0, 1, 0, 0, 0, []), (92, Instr.getfield 272, 3, 0, 10, 43, [900]), (95, Instr.dup2, 1, 0, 0, 0, []), (96, Instr.iaload, 1, 0, 0, 0, []), (97, Instr.iconst 1, 1, 1, 0, 0, []), (98, Instr.iadd, 1, 0, 0, 0, []), (99, Instr.iastore, 1, 0, 0, 0, []), (100, Instr.iinc 1 1, 3, 0, 0, 0, []), (103, Instr.iinc 2 1, 3, 0, 0, 0, []), (106, Instr.goto (-83), 3, 0, 23, 0, []), (109, Instr.aload_n 0, 1, 0, 0, 0, []), (110, Instr.dup, 1, 0, 0, 0, []), (111, Instr.getfield 272, 3, 0, 10, 43, [900]), (114, Instr.iconst 1, 1, 1, 0, 0, []), (115, Instr.iadd, 1, 0, 0, 0, []), (116, Instr.putfield 272, 3, 1, 10, 43, [900]), (119, Instr.return_, 1, 0, 0, 0, [])]
def mm_T179 : List (Nat × mm_I) := [(0, Instr.aload_n 0, 1, 0, 0, 0, []), (1, Instr.getfield 90, 3, 0, 10, 45, [902]), (4, Instr.iload_n 1, 1, 0, 0, 0, []), (5, Instr.iaload, 1, 0, 0, 0, []), (6, Instr.istore_n 2, 1, 0, 0, 0, []), (7, Instr.aload_n 0, 1, 0, 0, 0, []), (8, Instr.getfield 93, 3, 0, 10, 46, [903]), (11, Instr.iload_n 1, 1, 0, 0, 0, []), (12, Instr.iaload, 1, 0, 0, 0, []), (13, Instr.ifCond .ne 5, 3, 0, 18, 0, []), (16, Instr.iconst 1, 1, 1, 0, 0, []), (17, Instr.ireturn, 1, 1, 0, 0, []), (18, Instr.aload_n 0, 1, 0, 0, 0, []), (19, Instr.getfield 93, 3, 0, 10, 46, [903]), (22, Instr.iload_n 1, 1, 0, 0, 0, []), (23, Instr.iaload, 1, 0, 0, 0, []), (24, Instr.iconst 4, 1, 4, 0, 0, []), (25, Instr.if_icmp .lt 57, 3, 0, 82, 0, []), (28, Instr.aload_n 0, 1, 0, 0, 0, []), (29, Instr.getfield 87, 3, 0, 10, 44, [901]), (32, Instr.iload_n 2, 1, 0, 0, 0, []), (33, Instr.iaload, 1, 0, 0, 0, []), (34, Instr.bipush 120, 2, 120, 0, 0, []), (36, Instr.if_icmp .ne 46, 3, 0, 82, 0, []), (39, Instr.aload_n 0, 1, 0, 0, 0, []), (40, Instr.getfield 87, 3, 0, 10, 44, [901]), (43, Instr.iload_n 2, 1, 0, 0, 0, []), (44, Instr.iconst 1, 1, 1, 0, 0, []), (45, Instr.iadd, 1, 0, 0, 0, []), (46, Instr.iaload, 1, 0, 0, 0, []), (47, Instr.bipush 110, 2, 110, 0, 0, []), (49, Instr.if_icmp .ne 33, 3, 0, 82, 0, []), (52, Instr.aload_n 0, 1, 0, 0, 0, []), (53, Instr.getfield 87, 3, 0, 10, 44, [901]), (56, Instr.iload_n 2, 1, 0, 0, 0, []), (57, Instr.iconst 2, 1, 2, 0, 0, []), (58, Instr.iadd, 1, 0, 0, 0, []), (59, Instr.iaload, 1, 0, 0, 0, []), (60, Instr.bipush 45, 2, 45, 0, 0, []), (62, Instr.if_icmp .ne 20, 3, 0, 82, 0, []), (65, Instr.aload_n 0, 1, 0, 0, 0, []), (66, Instr.getfield 87, 3, 0, 10, 44, [901]), (69, Instr.iload_n 2, 1, 0, 0, 0, []), (70, Instr.iconst 3, 1, 3, 0, 0, []), (71, Instr.iadd, 1, 0, 0, 0, []), (72, Instr.iaload, 1, 0, 0, 0, []), (73, Instr.bipush 45, 2, 45, 0, 0, []), (75, Instr.if_icmp .ne 7, 3, 0, 82, 0, []), (78, Instr.iconst 1, 1, 1, 0, 0, []), (79, Instr.goto 4, 3, 0, 83, 0, []), (82, Instr.iconst 0, 1, 0, 0, 0, []), (83, Instr.istore_n 3, 1, 0, 0, 0, []), (84, Instr.iload_n 3, 1, 0, 0, 0, []), (85, Instr.ifCond .eq 13, 3, 0, 98, 0, []), (88, Instr.aload_n 0, 1, 0, 0, 0, []), (89, Instr.iload_n 1, 1, 0, 0, 0, []), (90, Instr.invokevirtual 275, 3, 10, 180, 1, [1209, 1211, 46, 66, 1212]), (93, Instr.ifCond .ne 5, 3, 0, 98, 0, []), (96, Instr.iconst 0, 1, 0, 0, 0, []), (97, Instr.ireturn, 1, 1, 0, 0, []), (98, Instr.aload_n 0, 1, 0, 0, 0, []), (99, Instr.getfield 93, 3, 0, 10, 46, [903]), (102, Instr.iload_n 1, 1, 0, 0, 0, []), (103, Instr.iaload, 1, 0, 0, 0, []), (104, Instr.istore 4, 2, 0, 0, 0, []), (106, Instr.iload 4, 2, 0, 0, 0, []), (108, Instr.iconst 4, 1, 4, 0, 0, []), (109, Instr.if_icmp .lt 38, 3, 0, 147, 0, []), (112, Instr.aload_n 0, 1, 0, 0, 0, []), (113, Instr.getfield 87, 3, 0, 10, 44, [901]), (116, Instr.iload_n 2, 1, 0, 0, 0, []), (117, Instr.iconst 2, 1, 2, 0, 0, []), (118, Instr.iadd, 1, 0, 0, 0, []), (119, Instr.iaload, 1, 0, 0, 0, []), (120, Instr.bipush 45, 2, 45, 0, 0, []), (122, Instr.if_icmp .ne 25, 3, 0, 147, 0, []), (125, Instr.aload_n 0, 1, 0, 0, 0, []), (126, Instr.getfield 87, 3, 0, 10, 44, [901]), (129, Instr.iload_n 2, 1, 0, 0, 0, []), (130, Instr.iconst 3, 1, 3, 0, 0, []), (131, Instr.iadd, 1, 0, 0, 0, []), (132, Instr.iaload, 1, 0, 0, 0, []), (133, Instr.bipush 45, 2, 45, 0, 0, []), (135, Instr.if_icmp .ne 12, 3, 0, 147, 0, []), (138, Instr.aload_n 0, 1, 0, 0, 0, []), (139, Instr.bipush 41, 2, 41, 0, 0, []), (141, Instr.iload_n 1, 1, 0, 0, 0, []), (142, Instr.iconst 2, 1, 2, 0, 0, []), (143, Instr.invokevirtual 269, 3, 10, 176, 3, [1193, 1195, 42, 66, 1196]), (146, Instr.ireturn, 1, 1, 0, 0, []), (147, Instr.aload_n 0, 1, 0, 0, 0, []), (148, Instr.getfield 87, 3, 0, 10, 44, [901]), (151, Instr.iload_n 2, 1, 0, 0, 0, []), (152, Instr.iaload, 1, 0, 0, 0, []), (153, Instr.bipush 45, 2, 45, 0, 0, []), (155, Instr.if_icmp .ne 12, 3, 0, 167, 0, []), (158, Instr.aload_n 0, 1, 0, 0, 0, []), (159, Instr.bipush 42, 2, 42, 0, 0, []), (161, Instr.iload_n 1, 1, 0, 0, 0, []), (162, Instr.iconst 0, 1, 0, 0, 0, []), (163, Instr.invokevirtual 269, 3, 10, 176, 3, [1193, 1195, 42, 66, 1196]), (166, Instr.ireturn, 1, 1, 0, 0, []), (167, Instr.aload_n 0, 1, 0, 0, 0, []), (168, Instr.getfield 87, 3, 0, 10, 44, [901]), (171, Instr.iload_n 2, 1, 0, 0, 0, []), (172, Instr.iload 4, 2, 0, 0, 0, []), (174, Instr.iadd, 1, 0, 0, 0, []), (175, Instr.iconst 1, 1, 1, 0, 0, []), (176, Instr.isub, 1, 0, 0, 0, []), (177, Instr.iaload, 1, 0, 0, 0, []), (178, Instr.bipush 45, 2, 45, 0, 0, []), (180, Instr.if_icmp .ne 15, 3, 0, 195, 0, []), (183, Instr.aload_n 0, 1, 0, 0, 0, []), (184, Instr.bipush 42, 2, 42, 0, 0, []), (186, Instr.iload_n 1, 1, 0, 0, 0, []), (187, Instr.iload 4, 2, 0, 0, 0, []), (189, Instr.iconst 1, 1, 1, 0, 0, []), (190, Instr.isub, 1, 0, 0, 0, []), (191, Instr.invokevirtual 269, 3, 10, 176, 3, [1193, 1195, 42, 66, 1196]), (194, Instr.ireturn, 1, 1, 0, 0, []), (195, Instr.aload_n 0, 1, 0, 0, 0, []), (196, Instr.iconst 0, 1, 0, 0, 0, []), (197, Instr.aload_n 0, 1, 0, 0, 0, []), (198, Instr.getfield 87, 3, 0, 10, 44, [901]), (201, Instr.iload_n 2, 1, 0, 0, 0, []), (202, Instr.iaload, 1, 0, 0, 0, []), (203, Instr.invokevirtual 178, 3, 10, 155, 2, [1103, 1105, 31, 66, 1106]), (206, Instr.iconst 1, 1, 1, 0, 0, []), (207, Instr.if_icmp .ne 12, 3, 0, 219, 0, []), (210, Instr.aload_n 0, 1, 0, 0, 0, []), (211, Instr.bipush 43, 2, 43, 0, 0, []), (213, Instr.iload_n 1, 1, 0, 0, 0, []), (214, Instr.iconst 0, 1, 0, 0, 0, []), (215, Instr.invokevirtual 269, 3, 10, 176, 3, [1193, 1195, 42, 66, 1196]), (218, Instr.ireturn, 1, 1, 0, 0, []), (219, Instr.iconst 0, 1, 0, 0, 0, []), (220, Instr.istore 5, 2, 0, 0, 0, []), (222, Instr.iload 5, 2, 0, 0, 0, []), (224, Instr.iload 4, 2, 0, 0, 0, []), (226, Instr.if_icmp .ge 49, 3, 0, 275, 0, []), (229, Instr.aload_n 0, 1, 0, 0, 0, []), (230, Instr.aload_n 0, 1, 0, 0, 0, []), (231, Instr.getfield 87, 3, 0, 10, 44, [901]), (234, Instr.iload_n 2, 1, 0, 0, 0, []), (235, Instr.iload 5, 2, 0, 0, 0, []), (237, Instr.iadd, 1, 0, 0, 0, []), (238, Instr.iaload, 1, 0, 0, 0, []), (239, Instr.invokevirtual 175, 3, 10, 153, 1, [1095, 1097, 29, 66, 1098]), (242, Instr.ifCond .ne 17, 3, 0, 259, 0, []), (245, Instr.aload_n 0, 1, 0, 0, 0, []), (246, Instr.getfield 87, 3, 0, 10, 44, [901]), (249, Instr.iload_n 2, 1, 0, 0, 0, []), (250, Instr.iload 5, 2, 0, 0, 0, []), (252, Instr.iadd, 1, 0, 0, 0, []), (253, Instr.iaload, 1, 0, 0, 0, []), (254, Instr.bipush 46, 2, 46, 0, 0, []), (256, Instr.if_icmp .ne 13, 3, 0, 269, 0, []), (259, Instr.aload_n 0, 1, 0, 0, 0, []), (260, Instr.bipush 44, 2, 44, 0, 0, []), (262, Instr.iload_n 1, 1, 0, 0, 0, []), (263, Instr.iload 5, 2, 0, 0, 0, []), (265, Instr.invokevirtual 269, 3, 10, 176, 3, [1193, 1195, 42, 66, 1196]), (268, Instr.ireturn, 1, 1, 0, 0, []), (269, Instr.iinc 5 1, 3, 0, 0, 0, []), (272, Instr.goto (-50), 3, 0, 222, 0, []), (275, Instr.iconst 0, 1, 0, 0, 0, []), (276, Instr.istore 5, 2, 0, 0, 0, []), (278, Instr.iload 5, 2, 0, 0, 0, []), (280, Instr.iload 4, 2, 0, 0, 0, []), (282, Instr.if_icmp .ge 52, 3, 0, 334, 0, []), (285, Instr.aload_n 0, 1, 0, 0, 0, []), (286, Instr.getfield 87, 3, 0, 10, 44, [901]), (289, Instr.iload_n 2, 1, 0, 0, 0, []), (290, Instr.iload 5, 2, 0, 0, 0, []), (292, Instr.iadd, 1, 0, 0, 0, []), (293, Instr.iaload, 1, 0, 0, 0, []), (294, Instr.sipush 8204, 3, 8204, 0, 0, []), (297, Instr.sipush 8205, 3, 8205, 0, 0, []), (300, Instr.invokestatic 116, 3, 0, 135, 3, [1022, 1023, 66, 1024]), (303, Instr.ifCond .eq 25, 3, 0, 328, 0, []), (306, Instr.aload_n 0, 1, 0, 0, 0, []), (307, Instr.iload_n 2, 1, 0, 0, 0, []), (308, Instr.iload 4, 2, 0, 0, 0, []), (310, Instr.iload 5, 2, 0, 0, 0, []), (312, Instr.invokevirtual 278, 3, 10, 181, 3, [1213, 1215, 47, 66, 1216]), (315, Instr.ifCond .ne 13, 3, 0, 328, 0, []), (318, Instr.aload_n 0, 1, 0, 0, 0, []), (319, Instr.bipush 45, 2, 45, 0, 0, []), (321, Instr.iload_n 1, 1, 0, 0, 0, []), (322, Instr.iload 5, 2, 0, 0, 0, []), (324, Instr.invokevirtual 269, 3, 10, 176, 3, [1193, 1195, 42, 66, 1196]), (327, Instr.ireturn, 1, 1, 0, 0, []), (328, Instr.iinc 5 1, 3, 0, 0, 0, []), (331, Instr.goto (-53), 3, 0, 278, 0, []), (334, Instr.iconst 1, 1, 1, 0, 0, []), (335, Instr.ireturn, 1, 1, 0, 0, [])]
def mm_T180 : List (Nat × mm_I) := [(0, Instr.aload_n 0, 1, 0, 0, 0, []), (1, Instr.getfield 90, 3, 0, 10, 45, [902]), (4, Instr.iload_n 1, 1, 0, 0, 0, []), (5, Instr.iaload, 1, 0, 0, 0, []), (6, Instr.istore_n 2, 1, 0, 0, 0, []), (7, Instr.aload_n 0, 1, 0, 0, 0, []), (8, Instr.aload_n 0, 1, 0, 0, 0, []), (9, Instr.getfield 87, 3, 0, 10, 44, [901]), (12, Instr.iload_n 2, 1, 0, 0, 0, []), (13, Instr.iconst 4, 1, 4, 0, 0, []), (14, Instr.iadd, 1, 0, 0, 0, []), (15, Instr.aload_n 0, 1, 0, 0, 0, []), (16, Instr.getfield 93, 3, 0, 10, 46, [903]), (19, Instr.iload_n 1, 1, 0, 0, 0, []), (20, Instr.iaload, 1, 0, 0, 0, []), (21, Instr.iconst 4, 1, 4, 0, 0, []), (22, Instr.isub, 1, 0, 0, 0, []), (23, Instr.invokevirtual 254, 3, 10, 172, 3, [1176, 1178, 40, 66, 1179]), (26, Instr.istore_n 3, 1, 0, 0, 0, []), (27, Instr.iload_n 3, 1, 0, 0, 0, []), (28, Instr.ifCond .lt 14, 3, 0, 42, 0, []), (31, Instr.aload_n 0, 1, 0, 0, 0, []), (32, Instr.bipush 30, 2, 30, 0, 0, []), (34, Instr.iload_n 1, 1, 0, 0, 0, []), (35, Instr.iconst 4, 1, 4, 0, 0, []), (36, Instr.iload_n 3, 1, 0, 0, 0, []), (37, Instr.iadd, 1, 0, 0, 0, []), (38, Instr.invokevirtual 269, 3, 10, 176, 3, [1193, 1195, 42, 66, 1196]), (41, Instr.ireturn, 1, 1, 0, 0, []), (42, Instr.iconst 0, 1, 0, 0, 0, []), (43, Instr.istore 4, 2, 0, 0, 0, []), (45, Instr.iconst 0, 1, 0, 0, 0, []), (46, Instr.istore 5, 2, 0, 0, 0, []), (48, Instr.iload 5, 2, 0, 0, 0, []), (50, Instr.aload_n 0, 1, 0, 0, 0, []), (51, Instr.getfield 244, 3, 0, 10, 36, [893]), (54, Instr.if_icmp .ge 33, 3, 0, 87, 0, []), (57, Instr.iload 4, 2, 0, 0, 0, []), (59, Instr.ifCond .ne 15, 3, 0, 74, 0, []), (62, Instr.aload_n 0, 1, 0, 0, 0, []), (63, Instr.getfield 81, 3, 0, 10, 35, [892]), (66, Instr.iload 5, 2, 0, 0, 0, []), (68, Instr.iaload, 1, 0, 0, 0, []), (69, Instr.bipush 127, 2, 127, 0, 0, []), (71, Instr.if_icmp .le 7, 3, 0, 78, 0, []), (74, Instr.iconst 1, 1, 1, 0, 0, []), (75, Instr.goto 4, 3, 0, 79, 0, []), (78, Instr.iconst 0, 1, 0, 0, 0, []), (79, Instr.istore 4, 2, 0, 0, 0, []), (81, Instr.iinc 5 1, 3, 0, 0, 0, []), (84, Instr.goto (-36), 3, 0, 48, 0, []), (87, Instr.iload 4, 2, 0, 0, 0, []), (89, Instr.ifCond .ne 12, 3, 0, 101, 0, []), (92, Instr.aload_n 0, 1, 0, 0, 0, []), (93, Instr.bipush 32, 2, 32, 0, 0, []), (95, Instr.iload_n 1, 1, 0, 0, 0, []), (96, Instr.iconst 0, 1, 0, 0, 0, []), (97, Instr.invokevirtual 269, 3, 10, 176, 3, [1193, 1195, 42, 66, 1196]), (100, Instr.ireturn, 1, 1, 0, 0, []), (101, Instr.aload_n 0, 1, 0, 0, 0, []), (102, Instr.getfield 93, 3, 0, 10, 46, [903]), (105, Instr.iload_n 1, 1, 0, 0, 0, []), (106, Instr.aload_n 0, 1, 0, 0, 0, []), (107, Instr.getfield 244, 3, 0, 10, 36, [893]), (110, Instr.iastore, 1, 0, 0, 0, []), (111, Instr.iconst 0, 1, 0, 0, 0, []), (112, Instr.istore 5, 2, 0, 0, 0, []), (114, Instr.iload 5, 2, 0, 0, 0, []), (116, Instr.aload_n 0, 1, 0, 0, 0, []), (117, Instr.getfield 244, 3, 0, 10, 36, [893]), (120, Instr.if_icmp .ge 25, 3, 0, 145, 0, []), (123, Instr.aload_n 0, 1, 0, 0, 0, []), (124, Instr.getfield 87, 3, 0, 10, 44, [901]), (127, Instr.iload_n 2, 1, 0, 0, 0, []), (128, Instr.iload 5, 2, 0, 0, 0, []), (130, Instr.iadd, 1, 0, 0, 0, []), (131, Instr.aload_n 0, 1, 0, 0, 0, []), (132, Instr.getfield 81, 3, 0, 10, 35, [892]), (135, Instr.iload 5, 2, 0, 0, 0, []), (137, Instr.iaload, 1, 0, 0, 0, []), (138, Instr.iastore, 1, 0, 0, 0, []), (139, Instr.iinc 5 1, 3, 0, 0, 0, []), (142, Instr.goto (-28), 3, 0, 114, 0, []), (145, Instr.aload_n 0, 1, 0, 0, 0, []), (146, Instr.aload_n 0, 1, 0, 0, 0, []), (147, Instr.getfield 87, 3, 0, 10, 44, [901]), (150, Instr.iload_n 2, 1, 0, 0, 0, []), (151, Instr.aload_n 0, 1, 0, 0, 0, []), (152, Instr.getfield 244, 3, 0, 10, 36, [893]), (155, Instr.invokevirtual 198, 3, 10, 157, 3, [1111, 1113, 32, 66, 1114]), (158, Instr.ifCond .ne 12, 3, 0, 170, 0, []), (161, Instr.aload_n 0, 1, 0, 0, 0, []), (162, Instr.bipush 60, 2, 60, 0, 0, []), (164, Instr.iload_n 1, 1, 0, 0, 0, []), (165, Instr.iconst 0, 1, 0, 0, 0, []), (166, Instr.invokevirtual 269, 3, 10, 176, 3, [1193, 1195, 42, 66, 1196]), (169, Instr.ireturn, 1, 1, 0, 0, []), (170, Instr.aload_n 0, 1, 0, 0, 0, []), (171, Instr.aload_n 0, 1, 0, 0, 0, []), (172, Instr.getfield 87, 3, 0, 10, 44, [901]), (175, Instr.iload_n 2, 1, 0, 0, 0, []), (176, Instr.aload_n 0, 1, 0, 0, 0, []), (177, Instr.getfield 244, 3, 0, 10, 36, [893]), (180, Instr.invokevirtual 201, 3, 10, 162, 3, [1131, 1133, 36, 66, 1134]), (183, Instr.istore_n 3, 1, 0, 0, 0, []), (184, Instr.iload_n 3, 1, 0, 0, 0, []), (185, Instr.ifCond .lt 14, 3, 0, 199, 0, []), (188, Instr.aload_n 0, 1, 0, 0, 0, []), (189, Instr.bipush 40, 2, 40, 0, 0, []), (191, Instr.iload_n 1, 1, 0, 0, 0, []), (192, Instr.iload_n 3, 1, 0, 0, 0, []), (193, Instr.invokevirtual 269, 3, 10, 176, 3, [1193, 1195, 42, 66, 1196]), (196, Instr.ifCond .eq 7, 3, 0, 203, 0, []), (199, Instr.iconst 1, 1, 1, 0, 0, []), (200, Instr.goto 4, 3, 0, 204, 0, []), (203, Instr.iconst 0, 1, 0, 0, 0, []), (204, Instr.ireturn, 1, 1, 0, 0, [])]
def mm_T181 : List (Nat × mm_I) := [(0, Instr.iload_n 3, 1, 0, 0, 0, []), (1, Instr.ifCond .le 24, 3, 0, 25, 0, []), (4, Instr.aload_n 0, 1, 0, 0, 0, []), (5, Instr.aload_n 0, 1, 0, 0, 0, []), (6, Instr.getfield 87, 3, 0, 10, 44, [901]), (9, Instr.iload_n 1, 1, 0, 0, 0, []), (10, Instr.iload_n 3, 1, 0, 0, 0, []), (11, Instr.iadd, 1, 0, 0, 0, []), (12, Instr.iconst 1, 1, 1, 0, 0, []), (13, Instr.isub, 1, 0, 0, 0, []), (14, Instr.iaload, 1, 0, 0, 0, []), (15, Instr.invokevirtual 169, 3, 10, 150, 1, [1083, 1085, 28, 66, 1086]), (18, Instr.bipush 9, 2, 9, 0, 0, []), (20, Instr.if_icmp .ne 5, 3, 0, 25, 0, []), (23, Instr.iconst 1, 1, 1, 0, 0, []), (24, Instr.ireturn, 1, 1, 0, 0, []), (25, Instr.aload_n 0, 1, 0, 0, 0, []), (26, Instr.getfield 87, 3, 0, 10, 44, [901]), (29, Instr.iload_n 1, 1, 0, 0, 0, []), (30, Instr.iload_n 3, 1, 0, 0, 0, []), (31, Instr.iadd, 1, 0, 0, 0, []), (32, Instr.iaload, 1, 0, 0, 0, []), (33, Instr.sipush 8205, 3, 8205, 0, 0, []), (36, Instr.if_icmp .ne 5, 3, 0, 41, 0, []), (39, Instr.iconst 0, 1, 0, 0, 0, []), (40, Instr.ireturn, 1, 1, 0, 0, []), (41, Instr.iload_n 3, 1, 0, 0, 0, []), (42, Instr.iconst 1, 1, 1, 0, 0, []), (43, Instr.isub, 1, 0, 0, 0, []), (44, Instr.istore 4, 2, 0, 0, 0, []), (46, Instr.iload 4, 2, 0, 0, 0, []), (48, Instr.ifCond .lt 27, 3, 0, 75, 0, []), (51, Instr.aload_n 0, 1, 0, 0, 0, []), (52, Instr.iconst 2, 1, 2, 0, 0, []), (53, Instr.aload_n 0, 1, 0, 0, 0, []), (54, Instr.getfield 87, 3, 0, 10, 44, [901]), (57, Instr.iload_n 1, 1, 0, 0, 0, []), (58, Instr.iload 4, 2, 0, 0, 0, []), (60, Instr.iadd, 1, 0, 0, 0, []), (61, Instr.iaload, 1, 0, 0, 0, []), (62, Instr.invokevirtual 178, 3, 10, 155, 2, [1103, 1105, 31, 66, 1106]), (65, Instr.iconst 4, 1, 4, 0, 0, []), (66, Instr.if_icmp .ne 9, 3, 0, 75, 0, []), (69, Instr.iinc 4 (-1), 3, 0, 0, 0, []), (72, Instr.goto (-26), 3, 0, 46, 0, []), (75, Instr.iload_n 3, 1, 0, 0, 0, []), (76, Instr.iconst 1, 1, 1, 0, 0, []), (77, Instr.iadd, 1, 0, 0, 0, []), (78, Instr.istore 5, 2, 0, 0, 0, []), (80, Instr.iload 5, 2, 0, 0, 0, []), (82, Instr.iload_n 2, 1, 0, 0, 0, []), (83, Instr.if_icmp .ge 27, 3, 0, 110, 0, []), (86, Instr.aload_n 0, 1, 0, 0, 0, []), (87, Instr.iconst 2, 1, 2, 0, 0, []), (88, Instr.aload_n 0, 1, 0, 0, 0, []), (89, Instr.getfield 87, 3, 0, 10, 44, [901]), (92, Instr.iload_n 1, 1, 0, 0, 0, []), (93, Instr.iload 5, 2, 0, 0, 0, []), (95, Instr.iadd, 1, 0, 0, 0, []), (96, Instr.iaload, 1, 0, 0, 0, []), (97, Instr.invokevirtual 178, 3, 10, 155, 2, [1103, 1105, 31, 66, 1106]), (100, Instr.iconst 4, 1, 4, 0, 0, []), (101, Instr.if_icmp .ne 9, 3, 0, 110, 0, []), (104, Instr.iinc 5 1, 3, 0, 0, 0, []), (107, Instr.goto (-27), 3, 0, 80, 0, []), (110, Instr.iload 4, 2, 0, 0, 0, []), (112, Instr.ifCond .ge 7, 3, 0, 119, 0, []), (115, Instr.iconst 0, 1, 0, 0, 0, []), (116, Instr.goto 17, 3, 0, 133, 0, []), (119, Instr.aload_n 0, 1, 0, 0, 0, []), (120, Instr.iconst 2, 1, 2, 0, 0, []), (121, Instr.aload_n 0, 1, 0, 0, 0, []), (122, Instr.getfield 87, 3, 0, 10, 44, [901]), (125, Instr.iload_n 1, 1, 0, 0, 0, []), (126, Instr.iload 4, 2, 0, 0, 0, []), (128, Instr.iadd, 1, 0, 0, 0, []), (129, Instr.iaload, 1, 0, 0, 0, []), (130, Instr.invokevirtual 178, 3, 10, 155, 2, [1103, 1105, 31, 66, 1106]), (133, Instr.istore 6, 2, 0, 0, 0, []), (135, Instr.iload 5, 2, 0, 0, 0, []), (137, Instr.iload_n 2, 1, 0, 0, 0, []), (138, Instr.if_icmp .lt 7, 3, 0, 145, 0, []), (141, Instr.iconst 0, 1, 0, 0, 0, []), (142, Instr.goto 17, 3, 0, 159, 0, []), (145, Instr.aload_n 0, 1, 0, 0, 0, []), (146, Instr.iconst 2, 1, 2, 0, 0, []), (147, Instr.aload_n 0, 1, 0, 0, 0, []), (148, Instr.getfield 87, 3, 0, 10, 44, [901]), (151, Instr.iload_n 1, 1, 0, 0, 0, []), (152, Instr.iload 5, 2, 0, 0, 0, []), (154, Instr.iadd, 1, 0, 0, 0, []), (155, Instr.iaload, 1, 0, 0, 0, []), (156, Instr.invokevirtual 178, 3, 10, 155, 2, [1103, 1105, 31, 66, 1106]), (159, Instr.istore 7, 2, 0, 0, 0, []), (161, Instr.iload 6, 2, 0, 0, 0, []), (163, Instr.iconst 1, 1, 1, 0, 0, []), (164, Instr.if_icmp .eq 9, 3, 0, 173, 0, []), (167, Instr.iload 6, 2, 0, 0, 0, []), (169, Instr.iconst 3, 1, 3, 0, 0, []), (170, Instr.if_icmp .ne 19, 3, 0, 189, 0, []), (173, Instr.iload 7, 2, 0, 0, 0, []), (175, Instr.iconst 2, 1, 2, 0, 0, []), (176, Instr.if_icmp .eq 9, 3, 0, 185, 0, []), (179, Instr.iload 7, 2, 0, 0, 0, []), (181, Instr.iconst 3, 1, 3, 0, 0, []), (182, Instr.if_icmp .ne 7, 3, 0, 189, 0, []), (185, Instr.iconst 1, 1, 1, 0, 0, []), (186, Instr.goto 4, 3, 0, 190, 0, []), (189, Instr.iconst 0, 1, 0, 0, 0, []), (190, Instr.ireturn, 1, 1, 0, 0, [])]
def mm_T182 : List (Nat × mm_I) := [(0, Instr.iconst 0, 1, 0, 0, 0, []), (1, Instr.istore_n 1, 1, 0, 0, 0, []), (2, Instr.iconst 0, 1, 0, 0, 0, []), (3, Instr.istore_n 2, 1, 0, 0, 0, []), (4, Instr.iload_n 2, 1, 0, 0, 0, []), (5, Instr.aload_n 0, 1, 0, 0, 0, []), (6, Instr.getfield 272, 3, 0, 10, 43, [900]), (9, Instr.if_icmp .ge 63, 3, 0, 72, 0, []), (12, Instr.iconst 0, 1, 0, 0, 0, []), (13, Instr.istore_n 3, 1, 0, 0, 0, []), (14, Instr.iload_n 3, 1, 0, 0, 0, []), (15, Instr.aload_n 0, 1, 0, 0, 0, []), (16, Instr.getfield 93, 3, 0, 10, 46, [903]), (19, Instr.iload_n 2, 1, 0, 0, 0, []), (20, Instr.iaload, 1, 0, 0, 0, []), (21, Instr.if_icmp .ge 45, 3, 0, 66, 0, []), (24, Instr.iload_n 1, 1, 0, 0, 0, []), (25, Instr.ifCond .ne 29, 3, 0, 54, 0, []), (28, Instr.aload_n 0, 1, 0, 0, 0, []), (29, Instr.iconst 1, 1, 1, 0, 0, []), (30, Instr.aload_n 0, 1, 0, 0, 0, []), (31, Instr.getfield 87, 3, 0, 10, 44, [901]), (34, Instr.aload_n 0, 1, 0, 0, 0, []), (35, Instr.getfield 90, 3, 0, 10, 45, [902]), (38, Instr.iload_n 2, 1, 0, 0, 0, []), (39, Instr.iaload, 1, 0, 0, 0, []), (40, Instr.iload_n 3, 1, 0, 0, 0, []), (41, Instr.iadd, 1, 0, 0, 0, []), (42, Instr.iaload, 1, 0, 0, 0, []), (43, Instr.invokevirtual 178, 3, 10, 155, 2, [1103, 1105, 31, 66, 1106]), (46, Instr.iconst 1, 1, 1, 0, 0, []), (47, Instr.iconst 3, 1, 3, 0, 0, []), (48, Instr.invokestatic 116, 3, 0, 135, 3, [1022, 1023, 66, 1024]), (51, Instr.ifCond .eq 7, 3, 0, 58, 0, []), (54, Instr.iconst 1, 1, 1, 0, 0, []), (55, Instr.goto 4, 3, 0, 59, 0, []), (58, Instr.iconst 0, 1, 0, 0, 0, []), (59, Instr.istore_n 1, 1, 0, 0, 0, []), (60, Instr.iinc 3 1, 3, 0, 0, 0, []), (63, Instr.goto (-49), 3, 0, 14, 0, []), (66, Instr.iinc 2 1, 3, 0, 0, 0, []), (69, Instr.goto (-65), 3, 0, 4, 0, []), (72, Instr.iconst 0, 1, 0, 0, 0, []), (73, Instr.istore_n 2, 1, 0, 0, 0, []), (74, Instr.iload_n 2, 1, 0, 0, 0, []), (75, Instr.aload_n 0, 1, 0, 0, 0, []), (76, Instr.getfield 272, 3, 0, 10, 43, [900]), (79, Instr.if_icmp .ge 32, 3, 0, 111, 0, []), (82, Instr.iload_n 1, 1, 0, 0, 0, []), (83, Instr.ifCond .eq 28, 3, 0, 111, 0, []), (86, Instr.aload_n 0, 1, 0, 0, 0, []), (87, Instr.getfield 93, 3, 0, 10, 46, [903]), (90, Instr.iload_n 2, 1, 0, 0, 0, []), (91, Instr.iaload, 1, 0, 0, 0, []), (92, Instr.ifCond .le 13, 3, 0, 105, 0, []), (95, Instr.aload_n 0, 1, 0, 0, 0, []), (96, Instr.iload_n 2, 1, 0, 0, 0, []), (97, Instr.invokevirtual 281, 3, 10, 183, 1, [1221, 1223, 49, 66, 1224]), (100, Instr.ifCond .ne 5, 3, 0, 105, 0, []), (103, Instr.iconst 0, 1, 0, 0, 0, []), (104, Instr.ireturn, 1, 1, 0, 0, []), (105, Instr.iinc 2 1, 3, 0, 0, 0, []), (108, Instr.goto (-34), 3, 0, 74, 0, []), (111, Instr.iconst 1, 1, 1, 0, 0, []), (112, Instr.ireturn, 1, 1, 0, 0, [])]
def mm_T183 : List (Nat × mm_I) := [(0, Instr.aload_n 0, 1, 0, 0, 0, []), (1, Instr.getfield 90, 3, 0, 10, 45, [902]), (4, Instr.iload_n 1, 1, 0, 0, 0, []), (5, Instr.iaload, 1, 0, 0, 0, []), (6, Instr.istore_n 2, 1, 0, 0, 0, []), (7, Instr.aload_n 0, 1, 0, 0, 0, []), (8, Instr.getfield 93, 3, 0, 10, 46, [903]), (11, Instr.iload_n 1, 1, 0, 0, 0, []), (12, Instr.iaload, 1, 0, 0, 0, []), (13, Instr.istore_n 3, 1, 0, 0, 0, []), (14, Instr.aload_n 0, 1, 0, 0, 0, []), (15, Instr.iconst 1, 1, 1, 0, 0, []), (16, Instr.aload_n 0, 1, 0, 0, 0, []), (17, Instr.getfield 87, 3, 0, 10, 44, [901]), (20, Instr.iload_n 2, 1, 0, 0, 0, []), (21, Instr.iaload, 1, 0, 0, 0, []), (22, Instr.invokevirtual 178, 3, 10, 155, 2, [1103, 1105, 31, 66, 1106]), (25, Instr.istore 4, 2, 0, 0, 0, []), (27, Instr.iload 4, 2, 0, 0, 0, []), (29, Instr.iconst 0, 1, 0, 0, 0, []), (30, Instr.iconst 2, 1, 2, 0, 0, []), (31, Instr.invokestatic 116, 3, 0, 135, 3, [1022, 1023, 66, 1024]), (34, Instr.ifCond .ne 12, 3, 0, 46, 0, []), (37, Instr.aload_n 0, 1, 0, 0, 0, []), (38, Instr.bipush 46, 2, 46, 0, 0, []), (40, Instr.iload_n 1, 1, 0, 0, 0, []), (41, Instr.iconst 0, 1, 0, 0, 0, []), (42, Instr.invokevirtual 269, 3, 10, 176, 3, [1193, 1195, 42, 66, 1196]), (45, Instr.ireturn, 1, 1, 0, 0, []), (46, Instr.iload 4, 2, 0, 0, 0, []), (48, Instr.ifCond .ne 7, 3, 0, 55, 0, []), (51, Instr.iconst 1, 1, 1, 0, 0, []), (52, Instr.goto 4, 3, 0, 56, 0, []), (55, Instr.iconst 0, 1, 0, 0, 0, []), (56, Instr.istore 5, 2, 0, 0, 0, []), (58, Instr.iconst 0, 1, 0, 0, 0, []), (59, Instr.istore 6, 2, 0, 0, 0, []), (61, Instr.iconst 0, 1, 0, 0, 0, []), (62, Instr.istore 7, 2, 0, 0, 0, []), (64, Instr.iload 7, 2, 0, 0, 0, []), (66, Instr.iload_n 3, 1, 0, 0, 0, []), (67, Instr.if_icmp .ge 97, 3, 0, 164, 0, []), (70, Instr.aload_n 0, 1, 0, 0, 0, []), (71, Instr.iconst 1, 1, 1, 0, 0, []), (72, Instr.aload_n 0, 1, 0, 0, 0, []), (73, Instr.getfield 87, 3, 0, 10, 44, [901]), (76, Instr.iload_n 2, 1, 0, 0, 0, []), (77, Instr.iload 7, 2, 0, 0, 0, []), (79, Instr.iadd, 1, 0, 0, 0, []), (80, Instr.iaload, 1, 0, 0, 0, []), (81, Instr.invokevirtual 178, 3, 10, 155, 2, [1103, 1105, 31, 66, 1106]), (84, Instr.istore 8, 2, 0, 0, 0, []), (86, Instr.iload 5, 2, 0, 0, 0, []), (88, Instr.ifCond .eq 27, 3, 0, 115, 0, []), (91, Instr.iload 8, 2, 0, 0, 0, []), (93, Instr.ifCond .eq 14, 3, 0, 107, 0, []), (96, Instr.iload 8, 2, 0, 0, 0, []), (98, Instr.iconst 4, 1, 4, 0, 0, []), (99, Instr.bipush 10, 2, 10, 0, 0, []), (101, Instr.invokestatic 116, 3, 0, 135, 3, [1022, 1023, 66, 1024]), (104, Instr.ifCond .eq 7, 3, 0, 111, 0, []), (107, Instr.iconst 1, 1, 1, 0, 0, []), (108, Instr.goto 17, 3, 0, 125, 0, []), (111, Instr.iconst 0, 1, 0, 0, 0, []), (112, Instr.goto 13, 3, 0, 125, 0, []), (115, Instr.iload 8, 2, 0, 0, 0, []), (117, Instr.ifCond .eq 7, 3, 0, 124, 0, []), (120, Instr.iconst 1, 1, 1, 0, 0, []), (121, Instr.goto 4, 3, 0, 125, 0, []), (124, Instr.iconst 0, 1, 0, 0, 0, []), (125, Instr.istore 9, 2, 0, 0, 0, []), (127, Instr.iload 9, 2, 0, 0, 0, []), (129, Instr.ifCond .ne 13, 3, 0, 142, 0, []), (132, Instr.aload_n 0, 1, 0, 0, 0, []), (133, Instr.bipush 46, 2, 46, 0, 0, []), (135, Instr.iload_n 1, 1, 0, 0, 0, []), (136, Instr.iload 7, 2, 0, 0, 0, []), (138, Instr.invokevirtual 269, 3, 10, 176, 3, [1193, 1195, 42, 66, 1196]), (141, Instr.ireturn, 1, 1, 0, 0, []), (142, Instr.iload 8, 2, 0, 0, 0, []), (144, Instr.bipush 10, 2, 10, 0, 0, []), (146, Instr.if_icmp .ne 8, 3, 0, 154, 0, []), (149, Instr.iload 6, 2, 0, 0, 0, []), (151, Instr.goto 5, 3, 0, 156, 0, []), (154, Instr.iload 7, 2, 0, 0, 0, []), (156, Instr.istore 6, 2, 0, 0, 0, []), (158, Instr.iinc 7 1, 3, 0, 0, 0, []), (161, Instr.goto (-97), 3, 0, 64, 0, []), (164, Instr.aload_n 0, 1, 0, 0, 0, []), (165, Instr.iconst 1, 1, 1, 0, 0, []), (166, Instr.aload_n 0, 1, 0, 0, 0, []), (167, Instr.getfield 87, 3, 0, 10, 44, [901]), (170, Instr.iload_n 2, 1, 0, 0, 0, []), (171, Instr.iload 6, 2, 0, 0, 0, []), (173, Instr.iadd, 1, 0, 0, 0, []), (174, Instr.iaload, 1, 0, 0, 0, []), (175, Instr.invokevirtual 178, 3, 10, 155, 2, [1103, 1105, 31, 66, 1106]), (178, Instr.istore 7, 2, 0, 0, 0, []), (180, Instr.iload 5, 2, 0, 0, 0, []), (182, Instr.ifCond .eq 22, 3, 0, 204, 0, []), (185, Instr.iload 7, 2, 0, 0, 0, []), (187, Instr.ifCond .eq 9, 3, 0, 196, 0, []), (190, Instr.iload 7, 2, 0, 0, 0, []), (192, Instr.iconst 4, 1, 4, 0, 0, []), (193, Instr.if_icmp .ne 7, 3, 0, 200, 0, []), (196, Instr.iconst 1, 1, 1, 0, 0, []), (197, Instr.goto 14, 3, 0, 211, 0, []), (200, Instr.iconst 0, 1, 0, 0, 0, []), (201, Instr.goto 10, 3, 0, 211, 0, []), (204, Instr.iload 7, 2, 0, 0, 0, []), (206, Instr.iconst 1, 1, 1, 0, 0, []), (207, Instr.iconst 4, 1, 4, 0, 0, []), (208, Instr.invokestatic 116, 3, 0, 135, 3, [1022, 1023, 66, 1024]), (211, Instr.istore 8, 2, 0, 0, 0, []), (213, Instr.iload 8, 2, 0, 0, 0, []), (215, Instr.ifCond .ne 13, 3, 0, 228, 0, []), (218, Instr.aload_n 0, 1, 0, 0, 0, []), (219, Instr.bipush 46, 2, 46, 0, 0, []), (221, Instr.iload_n 1, 1, 0, 0, 0, []), (222, Instr.iload 6, 2, 0, 0, 0, []), (224, Instr.invokevirtual 269, 3, 10, 176, 3, [1193, 1195, 42, 66, 1196]), (227, Instr.ireturn, 1, 1, 0, 0, []), (228, Instr.iconst 0, 1, 0, 0, 0, []), (229, Instr.istore 9, 2, 0, 0, 0, []), (231, Instr.iconst 0, 1, 0, 0, 0, []), (232, Instr.istore 10, 2, 0, 0, 0, []), (234, Instr.iload 10, 2, 0, 0, 0, []), (236, Instr.iload_n 3, 1, 0, 0, 0, []), (237, Instr.if_icmp .ge 71, 3, 0, 308, 0, []), (240, Instr.iload 5, 2, 0, 0, 0, []), (242, Instr.ifCond .ne 66, 3, 0, 308, 0, []), (245, Instr.aload_n 0, 1, 0, 0, 0, []), (246, Instr.iconst 1, 1, 1, 0, 0, []), (247, Instr.aload_n 0, 1, 0, 0, 0, []), (248, Instr.getfield 87, 3, 0, 10, 44, [901]), (251, Instr.iload_n 2, 1, 0, 0, 0, []), (252, Instr.iload 10, 2, 0, 0, 0, []), (254, Instr.iadd, 1, 0, 0, 0, []), (255, Instr.iaload, 1, 0, 0, 0, []), (256, Instr.invokevirtual 178, 3, 10, 155, 2, [1103, 1105, 31, 66, 1106]), (259, Instr.istore 11, 2, 0, 0, 0, []), (261, Instr.iload 11, 2, 0, 0, 0, []), (263, Instr.iconst 4, 1, 4, 0, 0, []), (264, Instr.if_icmp .eq 12, 3, 0, 276, 0, []), (267, Instr.iload 11, 2, 0, 0, 0, []), (269, Instr.iconst 3, 1, 3, 0, 0, []), (270, Instr.if_icmp .eq 6, 3, 0, 276, 0, []), (273, Instr.goto 29, 3, 0, 302, 0, []), (276, Instr.iload 9, 2, 0, 0, 0, []), (278, Instr.ifCond .eq 20, 3, 0, 298, 0, []), (281, Instr.iload 11, 2, 0, 0, 0, []), (283, Instr.iload 9, 2, 0, 0, 0, []), (285, Instr.if_icmp .eq 13, 3, 0, 298, 0, []), (288, Instr.aload_n 0, 1, 0, 0, 0, []), (289, Instr.bipush 46, 2, 46, 0, 0, []), (291, Instr.iload_n 1, 1, 0, 0, 0, []), (292, Instr.iload 10, 2, 0, 0, 0, []), (294, Instr.invokevirtual 269, 3, 10, 176, 3, [1193, 1195, 42, 66, 1196]), (297, Instr.ireturn, 1, 1, 0, 0, []), (298, Instr.iload 11, 2, 0, 0, 0, []), (300, Instr.istore 9, 2, 0, 0, 0, []), (302, Instr.iinc 10 1, 3, 0, 0, 0, []), (305, Instr.goto (-71), 3, 0, 234, 0, []), (308, Instr.iconst 1, 1, 1, 0, 0, []), (309, Instr.ireturn, 1, 1, 0, 0, [])]
def mm_T184 : List (Nat × mm_I) := [(0, Instr.iconst 0, 1, 0, 0, 0, []), (1, Instr.istore_n 1, 1, 0, 0, 0, []), (2, Instr.iload_n 1, 1, 0, 0, 0, []), (3, Instr.aload_n 0, 1, 0, 0, 0, []), (4, Instr.getfield 272, 3, 0, 10, 43, [900]), (7, Instr.if_icmp .ge 24, 3, 0, 31, 0, []), (10, Instr.iload_n 1, 1, 0, 0, 0, []), (11, Instr.ifCond .le 9, 3, 0, 20, 0, []), (14, Instr.aload_n 0, 1, 0, 0, 0, []), (15, Instr.bipush 46, 2, 46, 0, 0, []), (17, Instr.invokevirtual 287, 3, 10, 185, 1, [1229, 1231, 51, 66, 1232]), (20, Instr.aload_n 0, 1, 0, 0, 0, []), (21, Instr.iload_n 1, 1, 0, 0, 0, []), (22, Instr.invokevirtual 294, 3, 10, 186, 1, [1233, 1235, 52, 66, 1236]), (25, Instr.iinc 1 1, 3, 0, 0, 0, []), (28, Instr.goto (-26), 3, 0, 2, 0, []), (31, Instr.iconst 0, 1, 0, 0, 0, []), (32, Instr.istore_n 1, 1, 0, 0, 0, []), (33, Instr.iload_n 1, 1, 0, 0, 0, []), (34, Instr.aload_n 0, 1, 0, 0, 0, []), (35, Instr.getfield 272, 3, 0, 10, 43, [900]), (38, Instr.if_icmp .ge 52, 3, 0, 90, 0, []), (41, Instr.aload_n 0, 1, 0, 0, 0, []), (42, Instr.getfield 257, 3, 0, 10, 37, [894]), (45, Instr.ifCond .ne 45, 3, 0, 90, 0, []), (48, Instr.aload_n 0, 1, 0, 0, 0, []), (49, Instr.getfield 93, 3, 0, 10, 46, [903]), (52, Instr.iload_n 1, 1, 0, 0, 0, []), (53, Instr.iaload, 1, 0, 0, 0, []), (54, Instr.ifCond .ne 30, 3, 0, 84, 0, []), (57, Instr.iload_n 1, 1, 0, 0, 0, []), (58, Instr.iconst 1, 1, 1, 0, 0, []), (59, Instr.iadd, 1, 0, 0, 0, []), (60, Instr.aload_n 0, 1, 0, 0, 0, []), (61, Instr.getfield 272, 3, 0, 10, 43, [900]), (64, Instr.if_icmp .lt 11, 3, 0, 75, 0, []), (67, Instr.aload_n 0, 1, 0, 0, 0, []), (68, Instr.getfield 272, 3, 0, 10, 43, [900]), (71, Instr.iconst 1, 1, 1, 0, 0, []), (72, Instr.if_icmp .ne 12, 3, 0, 84, 0, []), (75, Instr.aload_n 0, 1, 0, 0, 0, []), (76, Instr.bipush 51, 2, 51, 0, 0, []), (78, Instr.iload_n 1, 1, 0, 0, 0, []), (79, Instr.iconst 0, 1, 0, 0, 0, []), (80, Instr.invokevirtual 269, 3, 10, 176, 3, [1193, 1195, 42, 66, 1196]), (83, Instr.istore_n 2, 1, 0, 0, 0, []), (84, Instr.iinc 1 1, 3, 0, 0, 0, []), (87, Instr.goto (-54), 3, 0, 33, 0, []), (90, Instr.iconst 0, 1, 0, 0, 0, []), (91, Instr.istore_n 1, 1, 0, 0, 0, []), (92, Instr.iload_n 1, 1, 0, 0, 0, []), (93, Instr.aload_n 0, 1, 0, 0, 0, []), (94, Instr.getfield 272, 3, 0, 10, 43, [900]), (97, Instr.if_icmp .ge 37, 3, 0, 134, 0, []), (100, Instr.aload_n 0, 1, 0, 0, 0, []), (101, Instr.getfield 257, 3, 0, 10, 37, [894]), (104, Instr.ifCond .ne 30, 3, 0, 134, 0, []), (107, Instr.aload_n 0, 1, 0, 0, 0, []), (108, Instr.getfield 105, 3, 0, 10, 52, [909]), (111, Instr.iload_n 1, 1, 0, 0, 0, []), (112, Instr.iaload, 1, 0, 0, 0, []), (113, Instr.bipush 63, 2, 63, 0, 0, []), (115, Instr.if_icmp .le 13, 3, 0, 128, 0, []), (118, Instr.aload_n 0, 1, 0, 0, 0, []), (119, Instr.bipush 52, 2, 52, 0, 0, []), (121, Instr.iload_n 1, 1, 0, 0, 0, []), (122, Instr.bipush 63, 2, 63, 0, 0, []), (124, Instr.invokevirtual 269, 3, 10, 176, 3, [1193, 1195, 42, 66, 1196]), (127, Instr.istore_n 2, 1, 0, 0, 0, []), (128, Instr.iinc 1 1, 3, 0, 0, 0, []), (131, Instr.goto (-39), 3, 0, 92, 0, []), (134, Instr.aload_n 0, 1, 0, 0, 0, []), (135, Instr.getfield 284, 3, 0, 10, 50, [907]), (138, Instr.aload_n 0, 1, 0, 0, 0, []), (139, Instr.getfield 272, 3, 0, 10, 43, [900]), (142, Instr.iconst 1, 1, 1, 0, 0, []), (143, Instr.if_icmp .le 21, 3, 0, 164, 0, []), (146, Instr.aload_n 0, 1, 0, 0, 0, []), (147, Instr.getfield 93, 3, 0, 10, 46, [903]), (150, Instr.aload_n 0, 1, 0, 0, 0, []), (151, Instr.getfield 272, 3, 0, 10, 43, [900]), (154, Instr.iconst 1, 1, 1, 0, 0, []), (155, Instr.isub, 1, 0, 0, 0, []), (156, Instr.iaload, 1, 0, 0, 0, []), (157, Instr.ifCond .ne 7, 3, 0, 164, 0, []), (160, Instr.iconst 1, 1, 1, 0, 0, []), (161, Instr.goto 4, 3, 0, 165, 0, []), (164, Instr.iconst 0, 1, 0, 0, 0, []), (165, Instr.isub, 1, 0, 0, 0, []), (166, Instr.istore_n 1, 1, 0, 0, 0, []), (167, Instr.iload_n 1, 1, 0, 0, 0, []), (168, Instr.sipush 253, 3, 253, 0, 0, []), (171, Instr.if_icmp .gt 7, 3, 0, 178, 0, []), (174, Instr.iload_n 1, 1, 0, 0, 0, []), (175, Instr.ifCond .ne 17, 3, 0, 192, 0, []), (178, Instr.aload_n 0, 1, 0, 0, 0, []), (179, Instr.bipush 53, 2, 53, 0, 0, []), (181, Instr.aload_n 0, 1, 0, 0, 0, []), (182, Instr.getfield 272, 3, 0, 10, 43, [900]), (185, Instr.iconst 1, 1, 1, 0, 0, []), (186, Instr.isub, 1, 0, 0, 0, []), (187, Instr.iconst 0, 1, 0, 0, 0, []), (188, Instr.invokevirtual 269, 3, 10, 176, 3, [1193, 1195, 42, 66, 1196]), (191, Instr.istore_n 2, 1, 0, 0, 0, []), (192, Instr.return_, 1, 0, 0, 0, [])]
def mm_T185 : List (Nat × mm_I) := [(0, Instr.aload_n 0, 1, 0, 0, 0, []), (1, Instr.getfield 99, 3, 0, 10, 49, [906]), (4, Instr.aload_n 0, 1, 0, 0, 0, []), (5, Instr.getfield 284, 3, 0, 10, 50, [907]), (8, Instr.iload_n 1, 1, 0, 0, 0, []), (9, Instr.i2b, 1, 0, 0, 0, []), (10, Instr.bastore, 1, 0, 0, 0, []), (11, Instr.aload_n 0, 1, 0, 0, 0, []), (12, Instr.dup, 1, 0, 0, 0, []), (13, Instr.getfield 284, 3, 0, 10, 50, [907]), (16, Instr.iconst 1, 1, 1, 0, 0, []), (17, Instr.iadd, 1, 0, 0, 0, []), (18, Instr.putfield 284, 3, 1, 10, 50, [907]), (21, Instr.return_, 1, 0, 0, 0, [])]
def mm_T186 : List (Nat × mm_I) := [(0, Instr.iconst 0, 1, 0, 0, 0, []), (1, Instr.istore_n 2, 1, 0, 0, 0, []), (2, Instr.iconst 0, 1, 0, 0, 0, []), (3, Instr.istore_n 3, 1, 0, 0, 0, []), (4, Instr.iload_n 3, 1, 0, 0, 0, []), (5, Instr.aload_n 0, 1, 0, 0, 0, []), (6, Instr.getfield 93, 3, 0, 10, 46, [903]), (9, Instr.iload_n 1, 1, 0, 0, 0, []), (10, Instr.iaload, 1, 0, 0, 0, []), (11, Instr.if_icmp .ge 37, 3, 0, 48, 0, []), (14, Instr.iload_n 2, 1, 0, 0, 0, []), (15, Instr.ifCond .ne 21, 3, 0, 36, 0, []), (18, Instr.aload_n 0, 1, 0, 0, 0, []), (19, Instr.getfield 87, 3, 0, 10, 44, [901]), (22, Instr.aload_n 0, 1, 0, 0, 0, []), (23, Instr.getfield 90, 3, 0, 10, 45, [902]), (26, Instr.iload_n 1, 1, 0, 0, 0, []), (27, Instr.iaload, 1, 0, 0, 0, []), (28, Instr.iload_n 3, 1, 0, 0, 0, []), (29, Instr.iadd, 1, 0, 0, 0, []), (30, Instr.iaload, 1, 0, 0, 0, []), (31, Instr.bipush 127, 2, 127, 0, 0, []), (33, Instr.if_icmp .le 7, 3, 0, 40, 0, []), (36, Instr.iconst 1, 1, 1, 0, 0, []), (37, Instr.goto 4, 3, 0, 41, 0, []), (40, Instr.iconst 0, 1, 0, 0, 0, []), (41, Instr.istore_n 2, 1, 0, 0, 0, []), (42, Instr.iinc 3 1, 3, 0, 0, 0, []), (45, Instr.goto (-41), 3, 0, 4, 0, []), (48, Instr.aload_n 0, 1, 0, 0, 0, []), (49, Instr.getfield 284, 3, 0, 10, 50, [907]), (52, Instr.istore_n 3, 1, 0, 0, 0, []), (53, Instr.iload_n 2, 1, 0, 0, 0, []), (54, Instr.ifCond .ne 44, 3, 0, 98, 0, []), (57, Instr.iconst 0, 1, 0, 0, 0, []), (58, Instr.istore 4, 2, 0, 0, 0, []), (60, Instr.iload 4, 2, 0, 0, 0, []), (62, Instr.aload_n 0, 1, 0, 0, 0, []), (63, Instr.getfield 93, 3, 0, 10, 46, [903]), (66, Instr.iload_n 1, 1, 0, 0, 0, []), (67, Instr.iaload, 1, 0, 0, 0, []), (68, Instr.if_icmp .ge 27, 3, 0, 95, 0, []), (71, Instr.aload_n 0, 1, 0, 0, 0, []), (72, Instr.aload_n 0, 1, 0, 0, 0, []), (73, Instr.getfield 87, 3, 0, 10, 44, [901]), (76, Instr.aload_n 0, 1, 0, 0, 0, []), (77, Instr.getfield 90, 3, 0, 10, 45, [902]), (80, Instr.iload_n 1, 1, 0, 0, 0, []), (81, Instr.iaload, 1, 0, 0, 0, []), (82, Instr.iload 4, 2, 0, 0, 0, []), (84, Instr.iadd, 1, 0, 0, 0, []), (85, Instr.iaload, 1, 0, 0, 0, []), (86, Instr.invokevirtual 287, 3, 10, 185, 1, [1229, 1231, 51, 66, 1232]), (89, Instr.iinc 4 1, 3, 0, 0, 0, []), (92, Instr.goto (-32), 3, 0, 60, 0, []), (95, Instr.goto 92, 3, 0, 187, 0, []), (98, Instr.aload_n 0, 1, 0, 0, 0, []), (99, Instr.aload_n 0, 1, 0, 0, 0, []), (100, Instr.getfield 87, 3, 0, 10, 44, [901]), (103, Instr.aload_n 0, 1, 0, 0, 0, []), (104, Instr.getfield 90, 3, 0, 10, 45, [902]), (107, Instr.iload_n 1, 1, 0, 0, 0, []), (108, Instr.iaload, 1, 0, 0, 0, []), (109, Instr.aload_n 0, 1, 0, 0, 0, []), (110, Instr.getfield 93, 3, 0, 10, 46, [903]), (113, Instr.iload_n 1, 1, 0, 0, 0, []), (114, Instr.iaload, 1, 0, 0, 0, []), (115, Instr.invokevirtual 241, 3, 10, 165, 3, [1143, 1145, 37, 66, 1146]), (118, Instr.ifCond .ne 16, 3, 0, 134, 0, []), (121, Instr.aload_n 0, 1, 0, 0, 0, []), (122, Instr.bipush 50, 2, 50, 0, 0, []), (124, Instr.iload_n 1, 1, 0, 0, 0, []), (125, Instr.iconst 0, 1, 0, 0, 0, []), (126, Instr.invokevirtual 269, 3, 10, 176, 3, [1193, 1195, 42, 66, 1196]), (129, Instr.istore 4, 2, 0, 0, 0, []), (131, Instr.goto 56, 3, 0, 187, 0, []), (134, Instr.aload_n 0, 1, 0, 0, 0, []), (135, Instr.bipush 120, 2, 120, 0, 0, []), (137, Instr.invokevirtual 287, 3, 10, 185, 1, [1229, 1231, 51, 66, 1232]), (140, Instr.aload_n 0, 1, 0, 0, 0, []), (141, Instr.bipush 110, 2, 110, 0, 0, []), (143, Instr.invokevirtual 287, 3, 10, 185, 1, [1229, 1231, 51, 66, 1232]), (146, Instr.aload_n 0, 1, 0, 0, 0, []), (147, Instr.bipush 45, 2, 45, 0, 0, []), (149, Instr.invokevirtual 287, 3, 10, 185, 1, [1229, 1231, 51, 66, 1232]), (152, Instr.aload_n 0, 1, 0, 0, 0, []), (153, Instr.bipush 45, 2, 45, 0, 0, []), (155, Instr.invokevirtual 287, 3, 10, 185, 1, [1229, 1231, 51, 66, 1232]), (158, Instr.iconst 0, 1, 0, 0, 0, []), (159, Instr.istore 4, 2, 0, 0, 0, []), (161, Instr.iload 4, 2, 0, 0, 0, []), (163, Instr.aload_n 0, 1, 0, 0, 0, []), (164, Instr.getfield 217, 3, 0, 10, 34, [891]), (167, Instr.if_icmp .ge 20, 3, 0, 187, 0, []), (170, Instr.aload_n 0, 1, 0, 0, 0, []), (171, Instr.aload_n 0, 1, 0, 0, 0, []), (172, Instr.getfield 78, 3, 0, 10, 33, [890]), (175, Instr.iload 4, 2, 0, 0, 0, []), (177, Instr.iaload, 1, 0, 0, 0, []), (178, Instr.invokevirtual 287, 3, 10, 185, 1, [1229, 1231, 51, 66, 1232]), (181, Instr.iinc 4 1, 3, 0, 0, 0, []), (184, Instr.goto (-23), 3, 0, 161, 0, []), (187, Instr.aload_n 0, 1, 0, 0, 0, []), (188, Instr.getfield 105, 3, 0, 10, 52, [909]), (191, Instr.iload_n 1, 1, 0, 0, 0, []), (192, Instr.aload_n 0, 1, 0, 0, 0, []), (193, Instr.getfield 284, 3, 0, 10, 50, [907]), (196, Instr.iload_n 3, 1, 0, 0, 0, []), (197, Instr.isub, 1, 0, 0, 0, []), (198, Instr.iastore, 1, 0, 0, 0, []), (199, Instr.return_, 1, 0, 0, 0, [])]
def mm_T187 : List (Nat × mm_I) := [(0, Instr.iconst 0, 1, 0, 0, 0, []), (1, Instr.istore_n 1, 1, 0, 0, 0, []), (2, Instr.iload_n 1, 1, 0, 0, 0, []), (3, Instr.aload_n 0, 1, 0, 0, 0, []), (4, Instr.getfield 272, 3, 0, 10, 43, [900]), (7, Instr.if_icmp .ge 54, 3, 0, 61, 0, []), (10, Instr.iload_n 1, 1, 0, 0, 0, []), (11, Instr.ifCond .le 9, 3, 0, 20, 0, []), (14, Instr.aload_n 0, 1, 0, 0, 0, []), (15, Instr.bipush 46, 2, 46, 0, 0, []), (17, Instr.invokevirtual 287, 3, 10, 185, 1, [1229, 1231, 51, 66, 1232]), (20, Instr.iconst 0, 1, 0, 0, 0, []), (21, Instr.istore_n 2, 1, 0, 0, 0, []), (22, Instr.iload_n 2, 1, 0, 0, 0, []), (23, Instr.aload_n 0, 1, 0, 0, 0, []), (24, Instr.getfield 93, 3, 0, 10, 46, [903]), (27, Instr.iload_n 1, 1, 0, 0, 0, []), (28, Instr.iaload, 1, 0, 0, 0, []), (29, Instr.if_icmp .ge 26, 3, 0, 55, 0, []), (32, Instr.aload_n 0, 1, 0, 0, 0, []), (33, Instr.aload_n 0, 1, 0, 0, 0, []), (34, Instr.getfield 87, 3, 0, 10, 44, [901]), (37, Instr.aload_n 0, 1, 0, 0, 0, []), (38, Instr.getfield 90, 3, 0, 10, 45, [902]), (41, Instr.iload_n 1, 1, 0, 0, 0, []), (42, Instr.iaload, 1, 0, 0, 0, []), (43, Instr.iload_n 2, 1, 0, 0, 0, []), (44, Instr.iadd, 1, 0, 0, 0, []), (45, Instr.iaload, 1, 0, 0, 0, []), (46, Instr.invokevirtual 291, 3, 10, 188, 1, [1241, 1243, 54, 66, 1244]), (49, Instr.iinc 2 1, 3, 0, 0, 0, []), (52, Instr.goto (-30), 3, 0, 22, 0, []), (55, Instr.iinc 1 1, 3, 0, 0, 0, []), (58, Instr.goto (-56), 3, 0, 2, 0, []), (61, Instr.return_, 1, 0, 0, 0, [])]
def mm_T188 : List (Nat × mm_I) := [(0, Instr.iload_n 1, 1, 0, 0, 0, []), (1, Instr.sipush 128, 3, 128, 0, 0, []), (4, Instr.if_icmp .ge 11, 3, 0, 15, 0, []), (7, Instr.aload_n 0, 1, 0, 0, 0, []), (8, Instr.iload_n 1, 1, 0, 0, 0, []), (9, Instr.invokevirtual 287, 3, 10, 185, 1, [1229, 1231, 51, 66, 1232]), (12, Instr.goto 140, 3, 0, 152, 0, []), (15, Instr.iload_n 1, 1, 0, 0, 0, []), (16, Instr.sipush 2048, 3, 2048, 0, 0, []), (19, Instr.if_icmp .ge 30, 3, 0, 49, 0, []), (22, Instr.aload_n 0, 1, 0, 0, 0, []), (23, Instr.sipush 192, 3, 192, 0, 0, []), (26, Instr.iload_n 1, 1, 0, 0, 0, []), (27, Instr.bipush 6, 2, 6, 0, 0, []), (29, Instr.ishr, 1, 0, 0, 0, []), (30, Instr.ior, 1, 0, 0, 0, []), (31, Instr.invokevirtual 287, 3, 10, 185, 1, [1229, 1231, 51, 66, 1232]), (34, Instr.aload_n 0, 1, 0, 0, 0, []), (35, Instr.sipush 128, 3, 128, 0, 0, []), (38, Instr.iload_n 1, 1, 0, 0, 0, []), (39, Instr.bipush 63, 2, 63, 0, 0, []), (41, Instr.iand, 1, 0, 0, 0, []), (42, Instr.ior, 1, 0, 0, 0, []), (43, Instr.invokevirtual 287, 3, 10, 185, 1, [1229, 1231, 51, 66, 1232]), (46, Instr.goto 106, 3, 0, 152, 0, []), (49, Instr.iload_n 1, 1, 0, 0, 0, []), (50, Instr.ldc_w 290, 3, 65536, 0, 0, [1245]), (53, Instr.if_icmp .ge 45, 3, 0, 98, 0, []), (56, Instr.aload_n 0, 1, 0, 0, 0, []), (57, Instr.sipush 224, 3, 224, 0, 0, []), (60, Instr.iload_n 1, 1, 0, 0, 0, []), (61, Instr.bipush 12, 2, 12, 0, 0, []), (63, Instr.ishr, 1, 0, 0, 0, []), (64, Instr.ior, 1, 0, 0, 0, []), (65, Instr.invokevirtual 287, 3, 10, 185, 1, [1229, 1231, 51, 66, 1232]), (68, Instr.aload_n 0, 1, 0, 0, 0, []), (69, Instr.sipush 128, 3, 128, 0, 0, []), (72, Instr.iload_n 1, 1, 0, 0, 0, []), (73, Instr.bipush 6, 2, 6, 0, 0, []), (75, Instr.ishr, 1, 0, 0, 0, []), (76, Instr.bipush 63, 2, 63, 0, 0, []), (78, Instr.iand, 1, 0, 0, 0, []), (79, Instr.ior, 1, 0, 0, 0, []), (80, Instr.invokevirtual 287, 3, 10, 185, 1, [1229, 1231, 51, 66, 1232]), (83, Instr.aload_n 0, 1, 0, 0, 0, []), (84, Instr.sipush 128, 3, 128, 0, 0, []), (87, Instr.iload_n 1, 1, 0, 0, 0, []), (88, Instr.bipush 63, 2, 63, 0, 0, []), (90, Instr.iand, 1, 0, 0, 0, []), (91, Instr.ior, 1, 0, 0, 0, []), (92, Instr.invokevirtual 287, 3, 10, 185, 1, [1229, 1231, 51, 66, 1232]), (95, Instr.goto 57, 3, 0, 152, 0, []), (98, Instr.aload_n 0, 1, 0, 0, 0, []), (99, Instr.sipush 240, 3, 240, 0, 0, []), (102, Instr.iload_n 1, 1, 0, 0, 0, []), (103, Instr.bipush 18, 2, 18, 0, 0, []), (105, Instr.ishr, 1, 0, 0, 0, []), (106, Instr.ior, 1, 0, 0, 0, []), (107, Instr.invokevirtual 287, 3, 10, 185, 1, [1229, 1231, 51, 66, 1232]), (110, Instr.aload_n 0, 1, 0, 0, 0, []), (111, Instr.sipush 128, 3, 128, 0, 0, []), (114, Instr.iload_n 1, 1, 0, 0, 0, []), (115, Instr.bipush 12, 2, 12, 0, 0, []), (117, Instr.ishr, 1, 0, 0, 0, []), (118, Instr.bipush 63, 2, 63, 0, 0, []), (120, Instr.iand, 1, 0, 0, 0, []), (121, Instr.ior, 1, 0, 0, 0, []), (122, Instr.invokevirtual 287, 3, 10, 185, 1, [1229, 1231, 51, 66, 1232]), (125, Instr.aload_n 0, 1, 0, 0, 0, []), (126, Instr.sipush 128, 3, 128, 0, 0, []), (129, Instr.iload_n 1, 1, 0, 0, 0, []), (130, Instr.bipush 6, 2, 6, 0, 0, []), (132, Instr.ishr, 1, 0, 0, 0, []), (133, Instr.bipush 63, 2, 63, 0, 0, []), (135, Instr.iand, 1, 0, 0, 0, []), (136, Instr.ior, 1, 0, 0, 0, []), (137, Instr.invokevirtual 287, 3, 10, 185, 1, [1229, 1231, 51, 66, 1232]), (140, Instr.aload_n 0, 1, 0, 0, 0, []), (141, Instr.sipush 128, 3, 128, 0, 0, []), (144, Instr.iload_n 1, 1, 0, 0, 0, []), (145, Instr.bipush 63, 2, 63, 0, 0, []), (147, Instr.iand, 1, 0, 0, 0, []), (148, Instr.ior, 1, 0, 0, 0, []), (149, Instr.invokevirtual 287, 3, 10, 185, 1, [1229, 1231, 51, 66, 1232]), (152, Instr.return_, 1, 0, 0, 0, [])]
def mm_T189 : List (Nat × mm_I) := [(0, Instr.aload_n 0, 1, 0, 0, 0, []), (1, Instr.iconst 0, 1, 0, 0, 0, []), (2, Instr.putfield 112, 3, 1, 10, 0, [857]), (5, Instr.iload_n 1, 1, 0, 0, 0, []), (6, Instr.ifCond .ne 10, 3, 0, 16, 0, []), (9, Instr.aload_n 0, 1, 0, 0, 0, []), (10, Instr.getfield 257, 3, 0, 10, 37, [894]), (13, Instr.goto 41, 3, 0, 54, 0, []), (16, Instr.iload_n 1, 1, 0, 0, 0, []), (17, Instr.iconst 1, 1, 1, 0, 0, []), (18, Instr.if_icmp .ne 10, 3, 0, 28, 0, []), (21, Instr.aload_n 0, 1, 0, 0, 0, []), (22, Instr.getfield 260, 3, 0, 10, 38, [895]), (25, Instr.goto 29, 3, 0, 54, 0, []), (28, Instr.iload_n 1, 1, 0, 0, 0, []), (29, Instr.iconst 2, 1, 2, 0, 0, []), (30, Instr.if_icmp .ne 10, 3, 0, 40, 0, []), (33, Instr.aload_n 0, 1, 0, 0, 0, []), (34, Instr.getfield 263, 3, 0, 10, 39, [896]), (37, Instr.goto 17, 3, 0, 54, 0, []), (40, Instr.iload_n 1, 1, 0, 0, 0, []), (41, Instr.iconst 3, 1, 3, 0, 0, []), (42, Instr.if_icmp .ne 10, 3, 0, 52, 0, []), (45, Instr.aload_n 0, 1, 0, 0, 0, []), (46, Instr.getfield 307, 3, 0, 10, 40, [897]), (49, Instr.goto 5, 3, 0, 54, 0, []), (52, Instr.bipush (-2), 2, (-2), 0, 0, []), (54, Instr.ireturn, 1, 0, 0, 0, [])]
def mm_T190 : List (Nat × mm_I) := [(0, Instr.aload_n 0, 1, 0, 0, 0, []), (1, Instr.iconst 0, 1, 0, 0, 0, []), (2, Instr.putfield 112, 3, 1, 10, 0, [857]), (5, Instr.iload_n 1, 1, 0, 0, 0, []), (6, Instr.iconst 0, 1, 0, 0, 0, []), (7, Instr.aload_n 0, 1, 0, 0, 0, []), (8, Instr.getfield 323, 3, 0, 10, 48, [905]), (11, Instr.iconst 1, 1, 1, 0, 0, []), (12, Instr.isub, 1, 0, 0, 0, []), (13, Instr.invokestatic 116, 3, 0, 135, 3, [1022, 1023, 66, 1024]), (16, Instr.ifCond .eq 16, 3, 0, 32, 0, []), (19, Instr.aload_n 0, 1, 0, 0, 0, []), (20, Instr.getfield 96, 3, 0, 10, 47, [904]), (23, Instr.iload_n 1, 1, 0, 0, 0, []), (24, Instr.baload, 1, 0, 0, 0, []), (25, Instr.sipush 255, 3, 255, 0, 0, []), (28, Instr.iand, 1, 0, 0, 0, []), (29, Instr.goto 4, 3, 0, 33, 0, []), (32, Instr.iconst (-1), 1, (-1), 0, 0, []), (33, Instr.ireturn, 1, 0, 0, 0, [])]
def mm_tabs : List (List (Nat × mm_I)) := [mm_T0, mm_T1, mm_T2, mm_T3, mm_T4, mm_T5, mm_T6, mm_T7, mm_T8, mm_T9, mm_T10, mm_T11, mm_T12, mm_T13, mm_T14, mm_T15, mm_T16, mm_T17, mm_T18, mm_T19, mm_T20, mm_T21, mm_T22, mm_T23, mm_T24, mm_T25, mm_T26, mm_T27, mm_T28, mm_T29, mm_T30, mm_T31, mm_T32, mm_T33, mm_T34, mm_T35, mm_T36, mm_T37, mm_T38, mm_T39, mm_T40, mm_T41, mm_T42, mm_T43, mm_T44, mm_T45, mm_T46, mm_T47, mm_T48, mm_T49, mm_T50, mm_T51, mm_T52, mm_T53, mm_T54, mm_T55, mm_T56, mm_T57, mm_T58, mm_T59, mm_T60, mm_T61, mm_T62, mm_T63, mm_T64, mm_T65, mm_T66, mm_T67, mm_T68, mm_T69, mm_T70, mm_T71, mm_T72, mm_T73, mm_T74, mm_T75, mm_T76, mm_T77, mm_T78, mm_T79, mm_T80, mm_T81, mm_T82, mm_T83, mm_T84, mm_T85, mm_T86, mm_T87, mm_T88, mm_T89, mm_T90, mm_T91, mm_T92, mm_T93, mm_T94, mm_T95, mm_T96, mm_T97, mm_T98, mm_T99, mm_T100, mm_T101, mm_T102, mm_T103, mm_T104, mm_T105, mm_T106, mm_T107, mm_T108, mm_T109, mm_T110, mm_T111, mm_T112, mm_T113, mm_T114, mm_T115, mm_T116, mm_T117, mm_T118, mm_T119, mm_T120, mm_T121, mm_T122, mm_T123, mm_T124, mm_T125, mm_T126, mm_T127, mm_T128, mm_T129, mm_T130, mm_T131, mm_T132, mm_T133, mm_T134, mm_T135, mm_T136, mm_T137, mm_T138, mm_T139, mm_T140, mm_T141, mm_T142, mm_T143, mm_T144, mm_T145, mm_T146, mm_T147, mm_T148, mm_T149, mm_T150, mm_T151, mm_T152, mm_T153, mm_T154, mm_T155, mm_T156, mm_T157, mm_T158, mm_T159, mm_T160, mm_T161, mm_T162, mm_T163, mm_T164, mm_T165, mm_T166, mm_T167, mm_T168, mm_T169, mm_T170, mm_T171, mm_T172, mm_T173, mm_T174, mm_T175, mm_T176, mm_T177, mm_T178, mm_T179, mm_T180, mm_T181, mm_T182, mm_T183, mm_T184, mm_T185, mm_T186, mm_T187, mm_T188, mm_T189, mm_T190]
def mm_code (y pc : Nat) : Option mm_I := (mm_tabs.getD y []).lookup pc
end
section
/-! what a program decides of each instruction: that it stands there, and that its words are among the tables' -/
def mm_pl (I : mm_I) (k : Nat) : Option Jvm.Cond := mm_tbl[I.2.2.2.2.2.getD k 100000]?
def mm_okD (y pc : Nat) (I : mm_I) : Bool := decide (decode (mm_bytes y) pc = .ok (I.1, I.2.1))
def mm_okC (y : Nat) (I : mm_I) (idx m : Nat) : Bool := decide (mm_pl I 0 = some (.methodLink (mm_cls y) idx (mm_name m))) && decide (1 ≤ m ∧ m < 191 ∧ mm_dep m < mm_dep y ∧ mm_maxL m ≤ 20 ∧ mm_maxL m ≥ 0) && decide ((mm_cls m) ≠ "java/lang/invoke/MethodHandle" ∧ (mm_cls m) ≠ "java/lang/invoke/VarHandle" ∧ (parseMethodDescriptor (mm_name m).desc).map (fun d => d.parameters.length) = some I.2.2.2.2.1)
def mm_okI (y pc : Nat) (I : mm_I) : Bool := mm_okD y pc I && (match I.1 with
  | .iconst n => decide (I.2.1 = 1 ∧ (Int32.ofInt n).toInt = I.2.2.1)
  | .bipush n => decide (I.2.1 = 2 ∧ ((Int8.ofInt n).toInt32).toInt = I.2.2.1)
  | .sipush n => decide (I.2.1 = 3 ∧ ((Int16.ofInt n).toInt32).toInt = I.2.2.1)
  | .ldc i => decide (I.2.1 = 2 ∧ mm_pl I 0 = some (.constant (mm_cls y) i (Int32.ofInt I.2.2.1)) ∧ (Int32.ofInt I.2.2.1).toInt = I.2.2.1)
  | .ldc_w i => decide (I.2.1 = 3 ∧ mm_pl I 0 = some (.constant (mm_cls y) i (Int32.ofInt I.2.2.1)) ∧ (Int32.ofInt I.2.2.1).toInt = I.2.2.1)
  | .lconst n => decide (I.2.1 = 1 ∧ (Int64.ofNat (n : Nat)).toInt = I.2.2.1)
  | .ldc2_w i => decide (I.2.1 = 3 ∧ mm_pl I 0 = some (.constantLong (mm_cls y) i (Int64.ofInt I.2.2.1)) ∧ (Int64.ofInt I.2.2.1).toInt = I.2.2.1)
  | .iload _ | .lload _ | .aload _ => decide (I.2.1 = 2)
  | .iload_n _ | .lload_n _ | .aload_n _ => decide (I.2.1 = 1)
  | .istore i | .astore i => decide (I.2.1 = 2 ∧ i < mm_maxL y)
  | .istore_n i | .astore_n i => decide (I.2.1 = 1 ∧ (i : Nat) < mm_maxL y)
  | .lstore i => decide (I.2.1 = 2 ∧ i + 1 < mm_maxL y)
  | .lstore_n i => decide (I.2.1 = 1 ∧ (i : Nat) + 1 < mm_maxL y)
  | .iinc i c => decide (I.2.1 = 3 ∧ i < mm_maxL y ∧ (Int32.ofInt c).toInt = c)
  | .iadd | .isub | .imul | .iand | .ior | .ishl | .ishr | .idiv | .irem | .ladd | .lsub | .lmul | .land | .lor | .ldiv | .lrem | .lshl | .lshr | .lushr | .i2b | .i2l | .l2i | .lcmp | .dup | .dup2 | .pop | .iaload | .baload | .iastore | .bastore | .arraylength | .return_ => decide (I.2.1 = 1)
  | .ifCond _ off | .if_icmp _ off | .goto off => decide (I.2.1 = 3 ∧ (pc : Int) + off = (I.2.2.2.1 : Int))
  | .tableswitch d _ _ offs => decide (0 ≤ (pc : Int) + d) && offs.toList.all (fun o => decide (0 ≤ (pc : Int) + o))
  | .getfield i => decide (I.2.1 = 3) && (match vwCl[I.2.2.2.1]? with
    | some (_, T, N) => decide (I.2.2.2.2.1 < N) && decide (mm_pl I 0 = some (.fieldLink (mm_cls y) i (T I.2.2.2.2.1).1 (T I.2.2.2.2.1).2.1 (T I.2.2.2.2.1).2.2.1))
    | none => false)
  | .putfield i => decide (I.2.1 = 3) && (match vwCl[I.2.2.2.1]? with
    | some (_, T, N) => decide (I.2.2.2.2.1 < N) && decide (mm_pl I 0 = some (.fieldLink (mm_cls y) i (T I.2.2.2.2.1).1 (T I.2.2.2.2.1).2.1 (T I.2.2.2.2.1).2.2.1)) &&
        decide ((T I.2.2.2.2.1).2.2.2 = false ∨ ((T I.2.2.2.2.1).2.2.2 = true ∧ mm_kind y = 2 ∧ (T I.2.2.2.2.1).1 = mm_cls y)) &&
        (match mm_ty I.2.2.2.1 I.2.2.2.2.1 with
          | .int => decide (I.2.2.1 = 1)
          | .object _ => decide (I.2.2.1 = 0)
          | .array _ => decide (I.2.2.1 = 0)
          | _ => false)
    | none => false)
  | .newarray t => decide (I.2.1 = 2) && (match t with
    | .int => decide (mm_pl I 0 = some (.arrayClass .int))
    | .boolean => decide (mm_pl I 0 = some (.arrayClass .boolean))
    | .byte => decide (mm_pl I 0 = some (.arrayClass .byte))
    | _ => false)
  | .new i => decide (I.2.1 = 3) && (match vwCl[I.2.2.2.1]? with
    | some (C, _, N) => decide (mm_pl I 0 = some (.classLink (mm_cls y) i C)) && decide (mm_pl I 1 = some (.instantiable C N)) && decide (mm_pl I 2 = some (.initialized C)) && (List.range N).all (fun k => match mm_ty I.2.2.2.1 k with
      | .int => true
      | .object _ => true
      | .array _ => true
      | _ => false)
    | none => false)
  | .invokestatic i => decide (I.2.1 = 3) && mm_okC y I i I.2.2.2.1 && decide (mm_kind I.2.2.2.1 = 0) && decide (mm_pl I 1 = some (.static (mm_name I.2.2.2.1))) && decide (mm_pl I 2 = some (.initialized (mm_cls I.2.2.2.1)))
  | .invokevirtual i => decide (I.2.1 = 3) && mm_okC y I i I.2.2.2.1 && decide (mm_kind I.2.2.2.1 = 1) && decide (mm_pl I 1 = some (.instanceMethod (mm_name I.2.2.2.1))) && decide (mm_pl I 2 = some (.selects (mm_cls I.2.2.2.1) (mm_name I.2.2.2.1) (mm_name I.2.2.2.1))) && decide (mm_pl I 3 = some (.initialized (mm_cls I.2.2.2.1))) &&
      (match vwCl[I.2.2.1.toNat]? with
        | some (C, _, _) => decide (C = mm_cls I.2.2.2.1)
        | none => false)
  | .invokespecial i => decide (I.2.1 = 3) && (if I.2.2.2.2.1 = 1000 then decide (1 ≤ mm_dep y) && decide (mm_pl I 0 = some (.methodLink (mm_cls y) i Lib.objectInit)) && decide (mm_pl I 1 = some (.instanceMethod Lib.objectInit)) && decide (mm_pl I 2 = some (.code Lib.objectInit ⟨#[0xb1]⟩ 1 none))
      else mm_okC y I i I.2.2.2.1 && decide (mm_kind I.2.2.2.1 = 2) && decide (mm_pl I 1 = some (.instanceMethod (mm_name I.2.2.2.1))) && decide (mm_pl I 2 = some (.initialized (mm_cls I.2.2.2.1))) && decide ((mm_name I.2.2.2.1).name = "<init>") && decide (mm_ret I.2.2.2.1 = none))
  | .ireturn => decide (I.2.1 = 1) && (if I.2.2.1 = 1 then decide (mm_ret y = some .boolean) else decide (I.2.2.1 = 0 ∧ mm_ret y = some .int))
  | .areturn => decide (I.2.1 = 1) && (match mm_ret y with
    | some (.object _) => true
    | _ => false)
  | _ => false)
end
section
theorem mm_okT0 : mm_T0.all (fun q => mm_okI 0 q.1 q.2) = true := by decide +kernel
theorem mm_okT1 : mm_T1.all (fun q => mm_okI 1 q.1 q.2) = true := by decide +kernel
theorem mm_okT2 : mm_T2.all (fun q => mm_okI 2 q.1 q.2) = true := by decide +kernel
theorem mm_okT3 : mm_T3.all (fun q => mm_okI 3 q.1 q.2) = true := by decide +kernel
theorem mm_okT4 : mm_T4.all (fun q => mm_okI 4 q.1 q.2) = true := by decide +kernel
theorem mm_okT5 : mm_T5.all (fun q => mm_okI 5 q.1 q.2) = true := by decide +kernel
theorem mm_okT6 : mm_T6.all (fun q => mm_okI 6 q.1 q.2) = true := by decide +kernel
theorem mm_okT7 : mm_T7.all (fun q => mm_okI 7 q.1 q.2) = true := by decide +kernel
theorem mm_okT8 : mm_T8.all (fun q => mm_okI 8 q.1 q.2) = true := by decide +kernel
theorem mm_okT9 : mm_T9.all (fun q => mm_okI 9 q.1 q.2) = true := by decide +kernel
theorem mm_okT10 : mm_T10.all (fun q => mm_okI 10 q.1 q.2) = true := by decide +kernel
theorem mm_okT11 : mm_T11.all (fun q => mm_okI 11 q.1 q.2) = true := by decide +kernel
theorem mm_okT12 : mm_T12.all (fun q => mm_okI 12 q.1 q.2) = true := by decide +kernel
theorem mm_okT13 : mm_T13.all (fun q => mm_okI 13 q.1 q.2) = true := by decide +kernel
theorem mm_okT14 : mm_T14.all (fun q => mm_okI 14 q.1 q.2) = true := by decide +kernel
theorem mm_okT15 : mm_T15.all (fun q => mm_okI 15 q.1 q.2) = true := by decide +kernel
theorem mm_okT16 : mm_T16.all (fun q => mm_okI 16 q.1 q.2) = true := by decide +kernel
theorem mm_okT17 : mm_T17.all (fun q => mm_okI 17 q.1 q.2) = true := by decide +kernel
theorem mm_okT18 : mm_T18.all (fun q => mm_okI 18 q.1 q.2) = true := by decide +kernel
theorem mm_okT19 : mm_T19.all (fun q => mm_okI 19 q.1 q.2) = true := by decide +kernel
theorem mm_okT20 : mm_T20.all (fun q => mm_okI 20 q.1 q.2) = true := by decide +kernel
theorem mm_okT21 : mm_T21.all (fun q => mm_okI 21 q.1 q.2) = true := by decide +kernel
theorem mm_okT22 : mm_T22.all (fun q => mm_okI 22 q.1 q.2) = true := by decide +kernel
theorem mm_okT23 : mm_T23.all (fun q => mm_okI 23 q.1 q.2) = true := by decide +kernel
theorem mm_okT24 : mm_T24.all (fun q => mm_okI 24 q.1 q.2) = true := by decide +kernel
theorem mm_okT25 : mm_T25.all (fun q => mm_okI 25 q.1 q.2) = true := by decide +kernel
theorem mm_okT26 : mm_T26.all (fun q => mm_okI 26 q.1 q.2) = true := by decide +kernel
theorem mm_okT27 : mm_T27.all (fun q => mm_okI 27 q.1 q.2) = true := by decide +kernel
theorem mm_okT28 : mm_T28.all (fun q => mm_okI 28 q.1 q.2) = true := by decide +kernel
theorem mm_okT29 : mm_T29.all (fun q => mm_okI 29 q.1 q.2) = true := by decide +kernel
theorem mm_okT30 : mm_T30.all (fun q => mm_okI 30 q.1 q.2) = true := by decide +kernel
theorem mm_okT31 : mm_T31.all (fun q => mm_okI 31 q.1 q.2) = true := by decide +kernel
theorem mm_okT32 : mm_T32.all (fun q => mm_okI 32 q.1 q.2) = true := by decide +kernel
theorem mm_okT33 : mm_T33.all (fun q => mm_okI 33 q.1 q.2) = true := by decide +kernel
theorem mm_okT34 : mm_T34.all (fun q => mm_okI 34 q.1 q.2) = true := by decide +kernel
theorem mm_okT35 : mm_T35.all (fun q => mm_okI 35 q.1 q.2) = true := by decide +kernel
theorem mm_okT36 : mm_T36.all (fun q => mm_okI 36 q.1 q.2) = true := by decide +kernel
theorem mm_okT37 : mm_T37.all (fun q => mm_okI 37 q.1 q.2) = true := by decide +kernel
theorem mm_okT38 : mm_T38.all (fun q => mm_okI 38 q.1 q.2) = true := by decide +kernel
theorem mm_okT39 : mm_T39.all (fun q => mm_okI 39 q.1 q.2) = true := by decide +kernel
theorem mm_okT40 : mm_T40.all (fun q => mm_okI 40 q.1 q.2) = true := by decide +kernel
theorem mm_okT41 : mm_T41.all (fun q => mm_okI 41 q.1 q.2) = true := by decide +kernel
theorem mm_okT42 : mm_T42.all (fun q => mm_okI 42 q.1 q.2) = true := by decide +kernel
theorem mm_okT43 : mm_T43.all (fun q => mm_okI 43 q.1 q.2) = true := by decide +kernel
theorem mm_okT44 : mm_T44.all (fun q => mm_okI 44 q.1 q.2) = true := by decide +kernel
theorem mm_okT45 : mm_T45.all (fun q => mm_okI 45 q.1 q.2) = true := by decide +kernel
theorem mm_okT46 : mm_T46.all (fun q => mm_okI 46 q.1 q.2) = true := by decide +kernel
theorem mm_okT47 : mm_T47.all (fun q => mm_okI 47 q.1 q.2) = true := by decide +kernel
theorem mm_okT48 : mm_T48.all (fun q => mm_okI 48 q.1 q.2) = true := by decide +kernel
theorem mm_okT49 : mm_T49.all (fun q => mm_okI 49 q.1 q.2) = true := by decide +kernel
theorem mm_okT50 : mm_T50.all (fun q => mm_okI 50 q.1 q.2) = true := by decide +kernel
theorem mm_okT51 : mm_T51.all (fun q => mm_okI 51 q.1 q.2) = true := by decide +kernel
theorem mm_okT52 : mm_T52.all (fun q => mm_okI 52 q.1 q.2) = true := by decide +kernel
theorem mm_okT53 : mm_T53.all (fun q => mm_okI 53 q.1 q.2) = true := by decide +kernel
theorem mm_okT54 : mm_T54.all (fun q => mm_okI 54 q.1 q.2) = true := by decide +kernel
theorem mm_okT55 : mm_T55.all (fun q => mm_okI 55 q.1 q.2) = true := by decide +kernel
theorem mm_okT56 : mm_T56.all (fun q => mm_okI 56 q.1 q.2) = true := by decide +kernel
theorem mm_okT57 : mm_T57.all (fun q => mm_okI 57 q.1 q.2) = true := by decide +kernel
theorem mm_okT58 : mm_T58.all (fun q => mm_okI 58 q.1 q.2) = true := by decide +kernel
theorem mm_okT59 : mm_T59.all (fun q => mm_okI 59 q.1 q.2) = true := by decide +kernel
theorem mm_okT60 : mm_T60.all (fun q => mm_okI 60 q.1 q.2) = true := by decide +kernel
theorem mm_okT61 : mm_T61.all (fun q => mm_okI 61 q.1 q.2) = true := by decide +kernel
theorem mm_okT62 : mm_T62.all (fun q => mm_okI 62 q.1 q.2) = true := by decide +kernel
theorem mm_okT63 : mm_T63.all (fun q => mm_okI 63 q.1 q.2) = true := by decide +kernel
theorem mm_okT64 : mm_T64.all (fun q => mm_okI 64 q.1 q.2) = true := by decide +kernel
theorem mm_okT65 : mm_T65.all (fun q => mm_okI 65 q.1 q.2) = true := by decide +kernel
theorem mm_okT66 : mm_T66.all (fun q => mm_okI 66 q.1 q.2) = true := by decide +kernel
end
section
theorem mm_okT67 : mm_T67.all (fun q => mm_okI 67 q.1 q.2) = true := by decide +kernel
theorem mm_okT68 : mm_T68.all (fun q => mm_okI 68 q.1 q.2) = true := by decide +kernel
theorem mm_okT69 : mm_T69.all (fun q => mm_okI 69 q.1 q.2) = true := by decide +kernel
theorem mm_okT70 : mm_T70.all (fun q => mm_okI 70 q.1 q.2) = true := by decide +kernel
theorem mm_okT71 : mm_T71.all (fun q => mm_okI 71 q.1 q.2) = true := by decide +kernel
theorem mm_okT72 : mm_T72.all (fun q => mm_okI 72 q.1 q.2) = true := by decide +kernel
theorem mm_okT73 : mm_T73.all (fun q => mm_okI 73 q.1 q.2) = true := by decide +kernel
theorem mm_okT74 : mm_T74.all (fun q => mm_okI 74 q.1 q.2) = true := by decide +kernel
theorem mm_okT75 : mm_T75.all (fun q => mm_okI 75 q.1 q.2) = true := by decide +kernel
theorem mm_okT76 : mm_T76.all (fun q => mm_okI 76 q.1 q.2) = true := by decide +kernel
theorem mm_okT77 : mm_T77.all (fun q => mm_okI 77 q.1 q.2) = true := by decide +kernel
theorem mm_okT78 : mm_T78.all (fun q => mm_okI 78 q.1 q.2) = true := by decide +kernel
theorem mm_okT79 : mm_T79.all (fun q => mm_okI 79 q.1 q.2) = true := by decide +kernel
theorem mm_okT80 : mm_T80.all (fun q => mm_okI 80 q.1 q.2) = true := by decide +kernel
theorem mm_okT81 : mm_T81.all (fun q => mm_okI 81 q.1 q.2) = true := by decide +kernel
theorem mm_okT82 : mm_T82.all (fun q => mm_okI 82 q.1 q.2) = true := by decide +kernel
theorem mm_okT83 : mm_T83.all (fun q => mm_okI 83 q.1 q.2) = true := by decide +kernel
theorem mm_okT84 : mm_T84.all (fun q => mm_okI 84 q.1 q.2) = true := by decide +kernel
theorem mm_okT85 : mm_T85.all (fun q => mm_okI 85 q.1 q.2) = true := by decide +kernel
theorem mm_okT86 : mm_T86.all (fun q => mm_okI 86 q.1 q.2) = true := by decide +kernel
theorem mm_okT87 : mm_T87.all (fun q => mm_okI 87 q.1 q.2) = true := by decide +kernel
theorem mm_okT88 : mm_T88.all (fun q => mm_okI 88 q.1 q.2) = true := by decide +kernel
theorem mm_okT89 : mm_T89.all (fun q => mm_okI 89 q.1 q.2) = true := by decide +kernel
theorem mm_okT90 : mm_T90.all (fun q => mm_okI 90 q.1 q.2) = true := by decide +kernel
theorem mm_okT91 : mm_T91.all (fun q => mm_okI 91 q.1 q.2) = true := by decide +kernel
theorem mm_okT92 : mm_T92.all (fun q => mm_okI 92 q.1 q.2) = true := by decide +kernel
theorem mm_okT93 : mm_T93.all (fun q => mm_okI 93 q.1 q.2) = true := by decide +kernel
theorem mm_okT94 : mm_T94.all (fun q => mm_okI 94 q.1 q.2) = true := by decide +kernel
theorem mm_okT95 : mm_T95.all (fun q => mm_okI 95 q.1 q.2) = true := by decide +kernel
theorem mm_okT96 : mm_T96.all (fun q => mm_okI 96 q.1 q.2) = true := by decide +kernel
theorem mm_okT97 : mm_T97.all (fun q => mm_okI 97 q.1 q.2) = true := by decide +kernel
theorem mm_okT98 : mm_T98.all (fun q => mm_okI 98 q.1 q.2) = true := by decide +kernel
theorem mm_okT99 : mm_T99.all (fun q => mm_okI 99 q.1 q.2) = true := by decide +kernel
theorem mm_okT100 : mm_T100.all (fun q => mm_okI 100 q.1 q.2) = true := by decide +kernel
theorem mm_okT101 : mm_T101.all (fun q => mm_okI 101 q.1 q.2) = true := by decide +kernel
theorem mm_okT102 : mm_T102.all (fun q => mm_okI 102 q.1 q.2) = true := by decide +kernel
theorem mm_okT103 : mm_T103.all (fun q => mm_okI 103 q.1 q.2) = true := by decide +kernel
theorem mm_okT104 : mm_T104.all (fun q => mm_okI 104 q.1 q.2) = true := by decide +kernel
theorem mm_okT105 : mm_T105.all (fun q => mm_okI 105 q.1 q.2) = true := by decide +kernel
theorem mm_okT106 : mm_T106.all (fun q => mm_okI 106 q.1 q.2) = true := by decide +kernel
theorem mm_okT107 : mm_T107.all (fun q => mm_okI 107 q.1 q.2) = true := by decide +kernel
theorem mm_okT108 : mm_T108.all (fun q => mm_okI 108 q.1 q.2) = true := by decide +kernel
theorem mm_okT109 : mm_T109.all (fun q => mm_okI 109 q.1 q.2) = true := by decide +kernel
theorem mm_okT110 : mm_T110.all (fun q => mm_okI 110 q.1 q.2) = true := by decide +kernel
theorem mm_okT111 : mm_T111.all (fun q => mm_okI 111 q.1 q.2) = true := by decide +kernel
theorem mm_okT112 : mm_T112.all (fun q => mm_okI 112 q.1 q.2) = true := by decide +kernel
theorem mm_okT113 : mm_T113.all (fun q => mm_okI 113 q.1 q.2) = true := by decide +kernel
theorem mm_okT114 : mm_T114.all (fun q => mm_okI 114 q.1 q.2) = true := by decide +kernel
theorem mm_okT115 : mm_T115.all (fun q => mm_okI 115 q.1 q.2) = true := by decide +kernel
theorem mm_okT116 : mm_T116.all (fun q => mm_okI 116 q.1 q.2) = true := by decide +kernel
theorem mm_okT117 : mm_T117.all (fun q => mm_okI 117 q.1 q.2) = true := by decide +kernel
theorem mm_okT118 : mm_T118.all (fun q => mm_okI 118 q.1 q.2) = true := by decide +kernel
theorem mm_okT119 : mm_T119.all (fun q => mm_okI 119 q.1 q.2) = true := by decide +kernel
theorem mm_okT120 : mm_T120.all (fun q => mm_okI 120 q.1 q.2) = true := by decide +kernel
theorem mm_okT121 : mm_T121.all (fun q => mm_okI 121 q.1 q.2) = true := by decide +kernel
theorem mm_okT122 : mm_T122.all (fun q => mm_okI 122 q.1 q.2) = true := by decide +kernel
end
section
theorem mm_okT123 : mm_T123.all (fun q => mm_okI 123 q.1 q.2) = true := by decide +kernel
theorem mm_okT124 : mm_T124.all (fun q => mm_okI 124 q.1 q.2) = true := by decide +kernel
theorem mm_okT125 : mm_T125.all (fun q => mm_okI 125 q.1 q.2) = true := by decide +kernel
theorem mm_okT126 : mm_T126.all (fun q => mm_okI 126 q.1 q.2) = true := by decide +kernel
theorem mm_okT127 : mm_T127.all (fun q => mm_okI 127 q.1 q.2) = true := by decide +kernel
theorem mm_okT128 : mm_T128.all (fun q => mm_okI 128 q.1 q.2) = true := by decide +kernel
theorem mm_okT129 : mm_T129.all (fun q => mm_okI 129 q.1 q.2) = true := by decide +kernel
theorem mm_okT130 : mm_T130.all (fun q => mm_okI 130 q.1 q.2) = true := by decide +kernel
theorem mm_okT131 : mm_T131.all (fun q => mm_okI 131 q.1 q.2) = true := by decide +kernel
theorem mm_okT132 : mm_T132.all (fun q => mm_okI 132 q.1 q.2) = true := by decide +kernel
theorem mm_okT133 : mm_T133.all (fun q => mm_okI 133 q.1 q.2) = true := by decide +kernel
theorem mm_okT134 : mm_T134.all (fun q => mm_okI 134 q.1 q.2) = true := by decide +kernel
theorem mm_okT135 : mm_T135.all (fun q => mm_okI 135 q.1 q.2) = true := by decide +kernel
theorem mm_okT136 : mm_T136.all (fun q => mm_okI 136 q.1 q.2) = true := by decide +kernel
theorem mm_okT137 : mm_T137.all (fun q => mm_okI 137 q.1 q.2) = true := by decide +kernel
theorem mm_okT138 : mm_T138.all (fun q => mm_okI 138 q.1 q.2) = true := by decide +kernel
theorem mm_okT139 : mm_T139.all (fun q => mm_okI 139 q.1 q.2) = true := by decide +kernel
theorem mm_okT140 : mm_T140.all (fun q => mm_okI 140 q.1 q.2) = true := by decide +kernel
theorem mm_okT141 : mm_T141.all (fun q => mm_okI 141 q.1 q.2) = true := by decide +kernel
theorem mm_okT142 : mm_T142.all (fun q => mm_okI 142 q.1 q.2) = true := by decide +kernel
theorem mm_okT143 : mm_T143.all (fun q => mm_okI 143 q.1 q.2) = true := by decide +kernel
theorem mm_okT144 : mm_T144.all (fun q => mm_okI 144 q.1 q.2) = true := by decide +kernel
theorem mm_okT145 : mm_T145.all (fun q => mm_okI 145 q.1 q.2) = true := by decide +kernel
theorem mm_okT146 : mm_T146.all (fun q => mm_okI 146 q.1 q.2) = true := by decide +kernel
theorem mm_okT147 : mm_T147.all (fun q => mm_okI 147 q.1 q.2) = true := by decide +kernel
theorem mm_okT148 : mm_T148.all (fun q => mm_okI 148 q.1 q.2) = true := by decide +kernel
theorem mm_okT149 : mm_T149.all (fun q => mm_okI 149 q.1 q.2) = true := by decide +kernel
theorem mm_okT150 : mm_T150.all (fun q => mm_okI 150 q.1 q.2) = true := by decide +kernel
theorem mm_okT151 : mm_T151.all (fun q => mm_okI 151 q.1 q.2) = true := by decide +kernel
theorem mm_okT152 : mm_T152.all (fun q => mm_okI 152 q.1 q.2) = true := by decide +kernel
theorem mm_okT153 : mm_T153.all (fun q => mm_okI 153 q.1 q.2) = true := by decide +kernel
theorem mm_okT154 : mm_T154.all (fun q => mm_okI 154 q.1 q.2) = true := by decide +kernel
theorem mm_okT155 : mm_T155.all (fun q => mm_okI 155 q.1 q.2) = true := by decide +kernel
theorem mm_okT156 : mm_T156.all (fun q => mm_okI 156 q.1 q.2) = true := by decide +kernel
theorem mm_okT157 : mm_T157.all (fun q => mm_okI 157 q.1 q.2) = true := by decide +kernel
theorem mm_okT158 : mm_T158.all (fun q => mm_okI 158 q.1 q.2) = true := by decide +kernel
theorem mm_okT159 : mm_T159.all (fun q => mm_okI 159 q.1 q.2) = true := by decide +kernel
theorem mm_okT160 : mm_T160.all (fun q => mm_okI 160 q.1 q.2) = true := by decide +kernel
theorem mm_okT161 : mm_T161.all (fun q => mm_okI 161 q.1 q.2) = true := by decide +kernel
theorem mm_okT162 : mm_T162.all (fun q => mm_okI 162 q.1 q.2) = true := by decide +kernel
theorem mm_okT163 : mm_T163.all (fun q => mm_okI 163 q.1 q.2) = true := by decide +kernel
theorem mm_okT164 : mm_T164.all (fun q => mm_okI 164 q.1 q.2) = true := by decide +kernel
theorem mm_okT165 : mm_T165.all (fun q => mm_okI 165 q.1 q.2) = true := by decide +kernel
end
section
theorem mm_okT166 : mm_T166.all (fun q => mm_okI 166 q.1 q.2) = true := by decide +kernel
theorem mm_okT167 : mm_T167.all (fun q => mm_okI 167 q.1 q.2) = true := by decide +kernel
theorem mm_okT168 : mm_T168.all (fun q => mm_okI 168 q.1 q.2) = true := by decide +kernel
theorem mm_okT169 : mm_T169.all (fun q => mm_okI 169 q.1 q.2) = true := by decide +kernel
theorem mm_okT170 : mm_T170.all (fun q => mm_okI 170 q.1 q.2) = true := by decide +kernel
theorem mm_okT171 : mm_T171.all (fun q => mm_okI 171 q.1 q.2) = true := by decide +kernel
theorem mm_okT172 : mm_T172.all (fun q => mm_okI 172 q.1 q.2) = true := by decide +kernel
theorem mm_okT173 : mm_T173.all (fun q => mm_okI 173 q.1 q.2) = true := by decide +kernel
theorem mm_okT174 : mm_T174.all (fun q => mm_okI 174 q.1 q.2) = true := by decide +kernel
theorem mm_okT175 : mm_T175.all (fun q => mm_okI 175 q.1 q.2) = true := by decide +kernel
theorem mm_okT176 : mm_T176.all (fun q => mm_okI 176 q.1 q.2) = true := by decide +kernel
theorem mm_okT177 : mm_T177.all (fun q => mm_okI 177 q.1 q.2) = true := by decide +kernel
theorem mm_okT178 : mm_T178.all (fun q => mm_okI 178 q.1 q.2) = true := by decide +kernel
theorem mm_okT179 : mm_T179.all (fun q => mm_okI 179 q.1 q.2) = true := by decide +kernel
theorem mm_okT180 : mm_T180.all (fun q => mm_okI 180 q.1 q.2) = true := by decide +kernel
theorem mm_okT181 : mm_T181.all (fun q => mm_okI 181 q.1 q.2) = true := by decide +kernel
theorem mm_okT182 : mm_T182.all (fun q => mm_okI 182 q.1 q.2) = true := by decide +kernel
theorem mm_okT183 : mm_T183.all (fun q => mm_okI 183 q.1 q.2) = true := by decide +kernel
theorem mm_okT184 : mm_T184.all (fun q => mm_okI 184 q.1 q.2) = true := by decide +kernel
theorem mm_okT185 : mm_T185.all (fun q => mm_okI 185 q.1 q.2) = true := by decide +kernel
theorem mm_okT186 : mm_T186.all (fun q => mm_okI 186 q.1 q.2) = true := by decide +kernel
theorem mm_okT187 : mm_T187.all (fun q => mm_okI 187 q.1 q.2) = true := by decide +kernel
theorem mm_okT188 : mm_T188.all (fun q => mm_okI 188 q.1 q.2) = true := by decide +kernel
theorem mm_okT189 : mm_T189.all (fun q => mm_okI 189 q.1 q.2) = true := by decide +kernel
theorem mm_okT190 : mm_T190.all (fun q => mm_okI 190 q.1 q.2) = true := by decide +kernel
end
section
def mm_allok : Nat → List (List (Nat × mm_I)) → Prop
  | _, [] => True
  | i, t :: r => t.all (fun q => mm_okI i q.1 q.2) = true ∧ mm_allok (i + 1) r
set_option maxRecDepth 100000 in
theorem mm_allok_tabs : mm_allok 0 mm_tabs := ⟨mm_okT0, mm_okT1, mm_okT2, mm_okT3, mm_okT4, mm_okT5, mm_okT6, mm_okT7, mm_okT8, mm_okT9, mm_okT10, mm_okT11, mm_okT12, mm_okT13, mm_okT14, mm_okT15, mm_okT16, mm_okT17, mm_okT18, mm_okT19, mm_okT20, mm_okT21, mm_okT22, mm_okT23, mm_okT24, mm_okT25, mm_okT26, mm_okT27, mm_okT28, mm_okT29, mm_okT30, mm_okT31, mm_okT32, mm_okT33, mm_okT34, mm_okT35, mm_okT36, mm_okT37, mm_okT38, mm_okT39, mm_okT40, mm_okT41, mm_okT42, mm_okT43, mm_okT44, mm_okT45, mm_okT46, mm_okT47, mm_okT48, mm_okT49, mm_okT50, mm_okT51, mm_okT52, mm_okT53, mm_okT54, mm_okT55, mm_okT56, mm_okT57, mm_okT58, mm_okT59, mm_okT60, mm_okT61, mm_okT62, mm_okT63, mm_okT64, mm_okT65, mm_okT66, mm_okT67, mm_okT68, mm_okT69, mm_okT70, mm_okT71, mm_okT72, mm_okT73, mm_okT74, mm_okT75, mm_okT76, mm_okT77, mm_okT78, mm_okT79, mm_okT80, mm_okT81, mm_okT82, mm_okT83, mm_okT84, mm_okT85, mm_okT86, mm_okT87, mm_okT88, mm_okT89, mm_okT90, mm_okT91, mm_okT92, mm_okT93, mm_okT94, mm_okT95, mm_okT96, mm_okT97, mm_okT98, mm_okT99, mm_okT100, mm_okT101, mm_okT102, mm_okT103, mm_okT104, mm_okT105, mm_okT106, mm_okT107, mm_okT108, mm_okT109, mm_okT110, mm_okT111, mm_okT112, mm_okT113, mm_okT114, mm_okT115, mm_okT116, mm_okT117, mm_okT118, mm_okT119, mm_okT120, mm_okT121, mm_okT122, mm_okT123, mm_okT124, mm_okT125, mm_okT126, mm_okT127, mm_okT128, mm_okT129, mm_okT130, mm_okT131, mm_okT132, mm_okT133, mm_okT134, mm_okT135, mm_okT136, mm_okT137, mm_okT138, mm_okT139, mm_okT140, mm_okT141, mm_okT142, mm_okT143, mm_okT144, mm_okT145, mm_okT146, mm_okT147, mm_okT148, mm_okT149, mm_okT150, mm_okT151, mm_okT152, mm_okT153, mm_okT154, mm_okT155, mm_okT156, mm_okT157, mm_okT158, mm_okT159, mm_okT160, mm_okT161, mm_okT162, mm_okT163, mm_okT164, mm_okT165, mm_okT166, mm_okT167, mm_okT168, mm_okT169, mm_okT170, mm_okT171, mm_okT172, mm_okT173, mm_okT174, mm_okT175, mm_okT176, mm_okT177, mm_okT178, mm_okT179, mm_okT180, mm_okT181, mm_okT182, mm_okT183, mm_okT184, mm_okT185, mm_okT186, mm_okT187, mm_okT188, mm_okT189, mm_okT190, trivial⟩
theorem mm_allok_at : ∀ (l : List (List (Nat × mm_I))) (i k : Nat) (t : List (Nat × mm_I)), mm_allok i l → l[k]? = some t → t.all (fun q => mm_okI (i + k) q.1 q.2) = true
  | [], _, _, _, _, h => by simp at h
  | a :: r, i, 0, t, h, ht => by
    simp only [List.getElem?_cons_zero, Option.some.injEq] at ht
    subst ht
    exact h.1
  | a :: r, i, k + 1, t, h, ht => by
    simp only [List.getElem?_cons_succ] at ht
    have := mm_allok_at r (i + 1) k t h.2 ht
    rwa [show i + 1 + k = i + (k + 1) by omega] at this
theorem mm_lookup_mem {α : Type} : ∀ (l : List (Nat × α)) (k : Nat) (v : α), l.lookup k = some v → (k, v) ∈ l
  | [], _, _, h => by simp at h
  | (a, b) :: r, k, v, h => by
    by_cases e : k = a
    · subst e
      simp only [List.lookup_cons, beq_self_eq_true, Option.some.injEq] at h
      subst h
      exact List.mem_cons_self
    · have e2 : (k == a) = false := by simpa using e
      rw [List.lookup_cons, e2] at h
      exact List.mem_cons_of_mem _ (mm_lookup_mem r k v h)
theorem mm_ok_all {y pc : Nat} {I : mm_I} (h : mm_code y pc = some I) : mm_okI y pc I = true := by
  unfold mm_code at h
  have hm := mm_lookup_mem _ _ _ h
  cases ht : mm_tabs[y]? with
  | none =>
    rw [List.getD_eq_getElem?_getD, ht] at hm
    simp at hm
  | some t =>
    rw [List.getD_eq_getElem?_getD, ht] at hm
    have h1 := mm_allok_at mm_tabs 0 y t mm_allok_tabs ht
    rw [Nat.zero_add] at h1
    exact List.all_eq_true.mp h1 (pc, I) hm
def mm_run : Nat → Nat → mm_F → Option (Option mm_V × mm_H)
  | 0, _, _ => none
  | n + 1, y, f => match mm_code y f.1 with
    | none => none
    | some I => match mm_step I f.1 f.2.1 f.2.2.1 f.2.2.2 with
      | none => none
      | some (.inl f') => mm_run n y f'
      | some (.inr (.inl r)) => some r
      | some (.inr (.inr (m, as, pc, ls, rest, h))) => if (mm_spread as).length ≤ mm_maxL m then (match mm_run n m (0, mm_pad (mm_maxL m) (mm_spread as), [], h) with
        | none => none
        | some (v, h') => mm_run n y (pc, ls, v.toList ++ rest, h')) else none
theorem mm_mono : ∀ (n k y : Nat) (f : mm_F) (r : Option mm_V × mm_H), mm_run n y f = some r → n ≤ k → mm_run k y f = some r := by
  intro n
  induction n with
  | zero => intro k y f r h; simp [mm_run] at h
  | succ n ih =>
    intro k y f r h hk
    obtain ⟨k, rfl⟩ : ∃ j, k = j + 1 := ⟨k - 1, by omega⟩
    have hk' : n ≤ k := by omega
    unfold mm_run at h ⊢
    cases hc : mm_code y f.1 with
    | none => rw [hc] at h; cases h
    | some I =>
      rw [hc] at h
      dsimp only at h ⊢
      cases hs : mm_step I f.1 f.2.1 f.2.2.1 f.2.2.2 with
      | none => rw [hs] at h; cases h
      | some o =>
        rw [hs] at h
        rcases o with f' | r' | ⟨m, as, pc, ls, rest, h0⟩
        · exact ih _ _ _ _ h hk'
        · exact h
        · dsimp only at h ⊢
          by_cases hl : (mm_spread as).length ≤ mm_maxL m
          · rw [if_pos hl] at h ⊢
            cases hr : mm_run n m (0, mm_pad (mm_maxL m) (mm_spread as), [], h0) with
            | none => rw [hr] at h; cases h
            | some q =>
              rw [hr] at h
              rw [ih _ _ _ _ hr hk']
              exact ih _ _ _ _ h hk'
          · rw [if_neg hl] at h; cases h
/-- from here the method comes to its end, with Q of its answer and of the cells -/
def mm_X (y pc : Nat) (ls st : List mm_V) (h : mm_H) (Q : Option mm_V → mm_H → Prop) : Prop := ∃ (n : Nat) (r : Option mm_V × mm_H), mm_run n y (pc, ls, st, h) = some r ∧ Q r.1 r.2
def mm_go (y : Nat) (o : Option mm_O) (Q : Option mm_V → mm_H → Prop) : Prop := match o with
  | none => False
  | some (.inl f) => mm_X y f.1 f.2.1 f.2.2.1 f.2.2.2 Q
  | some (.inr (.inl r)) => Q r.1 r.2
  | some (.inr (.inr (m, as, pc, ls, rest, h))) => (mm_spread as).length ≤ mm_maxL m ∧ mm_X m 0 (mm_pad (mm_maxL m) (mm_spread as)) [] h (fun v h' => mm_X y pc ls (v.toList ++ rest) h' Q)
theorem mm_unf {y pc : Nat} {I : mm_I} (hI : mm_code y pc = some I) (ls st : List mm_V) (h : mm_H) (Q : Option mm_V → mm_H → Prop) : mm_X y pc ls st h Q = mm_go y (mm_step I pc ls st h) Q := by
  apply propext
  constructor
  · rintro ⟨n, r, hr, hq⟩
    cases n with
    | zero => simp [mm_run] at hr
    | succ n =>
      unfold mm_run at hr
      rw [hI] at hr
      dsimp only at hr
      cases hs : mm_step I pc ls st h with
      | none => rw [hs] at hr; cases hr
      | some o =>
        rw [hs] at hr
        rcases o with f' | r' | ⟨m, as, pc, ls, rest, h0⟩
        · exact ⟨n, r, hr, hq⟩
        · simp only [Option.some.injEq] at hr
          subst hr
          exact hq
        · dsimp only at hr
          by_cases hl : (mm_spread as).length ≤ mm_maxL m
          · rw [if_pos hl] at hr
            cases hc : mm_run n m (0, mm_pad (mm_maxL m) (mm_spread as), [], h0) with
            | none => rw [hc] at hr; cases hr
            | some q =>
              rw [hc] at hr
              exact ⟨hl, n, q, hc, n, r, hr, hq⟩
          · rw [if_neg hl] at hr; cases hr
  · intro hg
    cases hs : mm_step I pc ls st h with
    | none => rw [hs] at hg; exact hg.elim
    | some o =>
      rw [hs] at hg
      rcases o with f' | r' | ⟨m, as, pc', ls', rest, h0⟩
      · obtain ⟨n, r, hr, hq⟩ := hg
        exact ⟨n + 1, r, by unfold mm_run; rw [hI]; dsimp only; rw [hs]; exact hr, hq⟩
      · exact ⟨1, r', by unfold mm_run; rw [hI]; dsimp only; rw [hs], hg⟩
      · obtain ⟨hl, n, q, hc, n2, r, hr, hq⟩ := hg
        refine ⟨max n n2 + 1, r, ?_, hq⟩
        unfold mm_run
        rw [hI]
        dsimp only
        rw [hs]
        dsimp only
        rw [if_pos hl]
        rw [mm_mono _ _ _ _ _ hc (Nat.le_max_left n n2)]
        exact mm_mono _ _ _ _ _ hr (Nat.le_max_right n n2)
theorem mm_X.mono {y pc : Nat} {ls st : List mm_V} {h : mm_H} {Q Q' : Option mm_V → mm_H → Prop} (k : ∀ v h', Q v h' → Q' v h') (hx : mm_X y pc ls st h Q) : mm_X y pc ls st h Q' := by
  obtain ⟨n, r, hr, hq⟩ := hx
  exact ⟨n, r, hr, k _ _ hq⟩
-- the next cell's number, and the slots so far
def mm_nx (h : mm_H) : Nat := match h 0 with
  | .inl (_, n, _) => n
  | .inr _ => 0
def mm_sl (h : mm_H) : Nat := match h 0 with
  | .inl (t, _, _) => t
  | .inr _ => 0
/-- cell 0 is what it must be -/
def mm_c0 (h : mm_H) : Prop := ∃ t n f, h 0 = .inl (t, n, f) ∧ 100 ≤ t ∧ 2 ≤ n
end
section
theorem mm_b32 (z : Int) : Int.bmod z (2 ^ 32) = mm_w32 z := by
  unfold mm_w32
  rw [Int.bmod_def]
  simp only [Nat.reducePow, Int.reducePow]
  split <;> omega
theorem mm_b64 (z : Int) : Int.bmod z (2 ^ 64) = mm_w64 z := by
  unfold mm_w64
  rw [Int.bmod_def]
  simp only [Nat.reducePow, Int.reducePow]
  split <;> omega
theorem mm_b8 (z : Int) : Int.bmod z (2 ^ 8) = mm_w8 z := by
  unfold mm_w8
  rw [Int.bmod_def]
  simp only [Nat.reducePow, Int.reducePow]
  split <;> omega
theorem mm_rng (x : Int32) : -2147483648 ≤ x.toInt ∧ x.toInt < 2147483648 := ⟨by have := x.le_toInt; omega, by have := x.toInt_lt; omega⟩
theorem mm_rngL (x : Int64) : -9223372036854775808 ≤ x.toInt ∧ x.toInt < 9223372036854775808 := ⟨by have := x.le_toInt; omega, by have := x.toInt_lt; omega⟩
theorem mm_add32 (x y : Int32) : (x + y).toInt = mm_w32 (x.toInt + y.toInt) := by rw [Int32.toInt_add, mm_b32]
theorem mm_sub32 (x y : Int32) : (x - y).toInt = mm_w32 (x.toInt - y.toInt) := by rw [Int32.toInt_sub, mm_b32]
theorem mm_mul32 (x y : Int32) : (x * y).toInt = mm_w32 (x.toInt * y.toInt) := by rw [Int32.toInt_mul, mm_b32]
theorem mm_div32 (x y : Int32) : (x / y).toInt = mm_w32 (x.toInt.tdiv y.toInt) := by rw [Int32.toInt_div, mm_b32]
theorem mm_add64 (x y : Int64) : (x + y).toInt = mm_w64 (x.toInt + y.toInt) := by rw [Int64.toInt_add, mm_b64]
theorem mm_sub64 (x y : Int64) : (x - y).toInt = mm_w64 (x.toInt - y.toInt) := by rw [Int64.toInt_sub, mm_b64]
theorem mm_mul64 (x y : Int64) : (x * y).toInt = mm_w64 (x.toInt * y.toInt) := by rw [Int64.toInt_mul, mm_b64]
theorem mm_div64 (x y : Int64) : (x / y).toInt = mm_w64 (x.toInt.tdiv y.toInt) := by rw [Int64.toInt_div, mm_b64]
theorem mm_rem32 (x y : Int32) : (x - x / y * y).toInt = Int.tmod x.toInt y.toInt := by
  rw [Int32.toInt_sub, Int32.toInt_mul, Int32.toInt_div, Int.bmod_mul_bmod, Int.sub_bmod_bmod, Int.mul_comm, ← Int.tmod_def]
  have h := Int32.toInt_mod x y
  rw [← h]
  exact (Int.bmod_eq_of_le_mul_two (by have := (mm_rng (x % y)).1; simp only [Nat.reducePow]; omega) (by have := (mm_rng (x % y)).2; simp only [Nat.reducePow]; omega))
theorem mm_rem64 (x y : Int64) : (x - x / y * y).toInt = Int.tmod x.toInt y.toInt := by
  rw [Int64.toInt_sub, Int64.toInt_mul, Int64.toInt_div, Int.bmod_mul_bmod, Int.sub_bmod_bmod, Int.mul_comm, ← Int.tmod_def]
  have h := Int64.toInt_mod x y
  rw [← h]
  exact (Int.bmod_eq_of_le_mul_two (by have := (mm_rngL (x % y)).1; simp only [Nat.reducePow]; omega) (by have := (mm_rngL (x % y)).2; simp only [Nat.reducePow]; omega))
def mm_tys (cA : Nat → ClassId) : List (ClassId × FieldType) := [(cA 0, .int), (cA 1, .boolean), (cA 2, .byte)]
def mm_R (b : Nat) (as : List Nat) : mm_V → Value → Prop
  | .inl z, v => ∃ x : Int32, v = .int x ∧ x.toInt = z
  | .inr (.inl z), v => ∃ x : Int64, v = .long x ∧ x.toInt = z
  | .inr (.inr none), v => v = .null
  | .inr (.inr (some 0)), _ => False
  | .inr (.inr (some 1)), v => v = .ref b
  | .inr (.inr (some (k + 2))), v => ∃ a, as[k]? = some a ∧ v = .ref a
def mm_RS (b : Nat) (as : List Nat) : List mm_V → List Value → Prop
  | [], st => st = []
  | v :: r, st => ∃ w s, st = w :: s ∧ mm_R b as v w ∧ mm_RS b as r s
def mm_RL (b : Nat) (as : List Nat) (mls : List mm_V) (ls : Array Slot) (nL : Nat) : Prop := ls.size = nL ∧ lv_wf ls ∧ mls.length = nL ∧ ∀ (k : Nat) (v : mm_V), mls[k]? = some v → v ≠ mm_null → ∃ w, ls[k]? = some (.val w) ∧ mm_R b as v w
def mm_RC (cA : Nat → ClassId) (b : Nat) (as : List Nat) : mm_C → va_E → Prop
  | .inl (t, n, f), e => t < 3 ∧ ∃ g : Nat → Int32, e = .inl (cA t, n, .inl g) ∧ ∀ j, (g j).toInt = f j
  | .inr (c, fs), e => ∃ gs, e = .inr (c, gs) ∧ mm_RS b as fs gs
def mm_RH (cA : Nat → ClassId) (b L : Nat) (xs : Nat → Int32) (as : List Nat) (ws : va_W) (h : mm_H) : Prop :=
  (∃ t f, h 0 = .inl (t, as.length + 2, f) ∧ 100 ≤ t) ∧ (∃ f, h 1 = .inl (3, L, f) ∧ ∀ j, (xs j).toInt = f j) ∧ ws.length = as.length ∧ (∀ (k : Nat) (a : Nat), as[k]? = some a → ∃ e, ws[k]? = some (a, e) ∧ mm_RC cA b as (h (k + 2)) e) ∧ ∀ k : Nat, as.length ≤ k → h (k + 2) = mm_dead
theorem mm_R.app {b : Nat} {as : List Nat} (bs : List Nat) {v : mm_V} {w : Value} (h : mm_R b as v w) : mm_R b (as ++ bs) v w := by
  match v, h with
  | .inl z, h => exact h
  | .inr (.inl z), h => exact h
  | .inr (.inr none), h => exact h
  | .inr (.inr (some 1)), h => exact h
  | .inr (.inr (some (k + 2))), h =>
    obtain ⟨a, h1, h2⟩ := h
    exact ⟨a, by rw [List.getElem?_append_left (List.getElem?_eq_some_iff.mp h1).1]; exact h1, h2⟩
theorem mm_RS.app {b : Nat} {as : List Nat} (bs : List Nat) : ∀ {vs : List mm_V} {st : List Value}, mm_RS b as vs st → mm_RS b (as ++ bs) vs st
  | [], _, h => h
  | _ :: _, _, ⟨w, s, e, h1, h2⟩ => ⟨w, s, e, h1.app bs, mm_RS.app bs h2⟩
theorem mm_RL.app {b : Nat} {as : List Nat} (bs : List Nat) {mls : List mm_V} {ls : Array Slot} {nL : Nat} (h : mm_RL b as mls ls nL) : mm_RL b (as ++ bs) mls ls nL :=
  ⟨h.1, h.2.1, h.2.2.1, fun k v hk hv => by obtain ⟨w, h1, h2⟩ := h.2.2.2 k v hk hv; exact ⟨w, h1, h2.app bs⟩⟩
theorem mm_RC.app {cA : Nat → ClassId} {b : Nat} {as : List Nat} (bs : List Nat) {c : mm_C} {e : va_E} (h : mm_RC cA b as c e) : mm_RC cA b (as ++ bs) c e := by
  match c, h with
  | .inl (t, n, f), h => exact h
  | .inr (c, fs), ⟨gs, e1, h1⟩ => exact ⟨gs, e1, h1.app bs⟩
theorem mm_R.cat {b : Nat} {as : List Nat} {v : mm_V} {w : Value} (h : mm_R b as v w) : w.category = if mm_wide v = true then 2 else 1 := by
  match v, h with
  | .inl z, ⟨x, h1, _⟩ => subst h1; rfl
  | .inr (.inl z), ⟨x, h1, _⟩ => subst h1; rfl
  | .inr (.inr none), h => rw [show w = .null from h]; rfl
  | .inr (.inr (some 1)), h => rw [show w = .ref b from h]; rfl
  | .inr (.inr (some (k + 2))), ⟨a, _, h1⟩ => subst h1; rfl
theorem mm_R.narrow {b : Nat} {as : List Nat} {v : mm_V} {w : Value} (h : mm_R b as v w) (hw : mm_wide v ≠ true) : w.category = 1 := by rw [h.cat, if_neg hw]
theorem mm_RS.cat {b : Nat} {as : List Nat} : ∀ {vs : List mm_V} {st : List Value}, mm_RS b as vs st → (st.map fun v => v.category).sum = mm_cat vs
  | [], _, h => by rw [show _ = [] from h]; rfl
  | _ :: _, _, ⟨w, s, e, h1, h2⟩ => by subst e; simp only [List.map_cons, List.sum_cons, mm_cat]; rw [h1.cat, mm_RS.cat h2]
theorem mm_RS.drop {b : Nat} {as : List Nat} : ∀ (k : Nat) {vs : List mm_V} {st : List Value}, mm_RS b as vs st → mm_RS b as (vs.drop k) (st.drop k)
  | 0, _, _, h => h
  | k + 1, [], st, h => by rw [show st = [] from h]; exact rfl
  | k + 1, _ :: _, _, ⟨w, s, e, _, h2⟩ => by subst e; exact mm_RS.drop k h2
theorem mm_RS.take {b : Nat} {as : List Nat} : ∀ (k : Nat) {vs : List mm_V} {st : List Value}, mm_RS b as vs st → mm_RS b as (vs.take k) (st.take k)
  | 0, _, _, _ => by rw [List.take_zero, List.take_zero]; exact rfl
  | k + 1, [], st, h => by rw [show st = [] from h]; exact rfl
  | k + 1, _ :: _, _, ⟨w, s, e, h1, h2⟩ => by subst e; exact ⟨w, s.take k, rfl, h1, mm_RS.take k h2⟩
theorem mm_RS.len {b : Nat} {as : List Nat} : ∀ {vs : List mm_V} {st : List Value}, mm_RS b as vs st → st.length = vs.length
  | [], st, h => by rw [show st = [] from h]; rfl
  | _ :: _, _, ⟨w, s, e, _, h2⟩ => by subst e; simp [mm_RS.len h2]
theorem mm_RS.apd {b : Nat} {as : List Nat} : ∀ {vs us : List mm_V} {st tt : List Value}, mm_RS b as vs st → mm_RS b as us tt → mm_RS b as (vs ++ us) (st ++ tt)
  | [], _, _, _, h, g => by rw [show _ = [] from h]; exact g
  | _ :: _, _, _, _, ⟨w, s, e, h1, h2⟩, g => by subst e; exact ⟨w, s ++ _, rfl, h1, mm_RS.apd h2 g⟩
theorem mm_RS.rev {b : Nat} {as : List Nat} : ∀ {vs : List mm_V} {st : List Value}, mm_RS b as vs st → mm_RS b as vs.reverse st.reverse
  | [], _, h => by rw [show _ = [] from h]; exact rfl
  | _ :: _, _, ⟨w, s, e, h1, h2⟩ => by subst e; rw [List.reverse_cons, List.reverse_cons]; exact mm_RS.apd (mm_RS.rev h2) ⟨w, [], rfl, h1, rfl⟩
theorem mm_RS.at {b : Nat} {as : List Nat} : ∀ {vs : List mm_V} {st : List Value}, mm_RS b as vs st → ∀ (k : Nat) (v : mm_V), vs[k]? = some v → ∃ w, st[k]? = some w ∧ mm_R b as v w
  | [], _, _, k, v, hk => by simp at hk
  | _ :: _, _, ⟨w, s, e, h1, h2⟩, 0, v, hk => by subst e; simp only [List.getElem?_cons_zero, Option.some.injEq] at hk; subst hk; exact ⟨w, rfl, h1⟩
  | _ :: _, _, ⟨w, s, e, h1, h2⟩, k + 1, v, hk => by subst e; simp only [List.getElem?_cons_succ] at hk ⊢; exact mm_RS.at h2 k v hk
theorem mm_RS.set {b : Nat} {as : List Nat} {v : mm_V} {w : Value} (hv : mm_R b as v w) : ∀ {vs : List mm_V} {st : List Value}, mm_RS b as vs st → ∀ (k : Nat), mm_RS b as (vs.set k v) (st.set k w)
  | [], _, h, k => by rw [show _ = [] from h]; exact rfl
  | _ :: _, _, ⟨w', s, e, h1, h2⟩, 0 => by subst e; exact ⟨w, s, rfl, hv, h2⟩
  | _ :: _, _, ⟨w', s, e, h1, h2⟩, k + 1 => by subst e; exact ⟨w', s.set k w, rfl, h1, mm_RS.set hv h2 k⟩
theorem mm_get_some {ls : List mm_V} {i : Nat} {v : mm_V} (h : mm_get ls i = v) (hv : v ≠ mm_null) : ls[i]? = some v := by
  unfold mm_get at h
  rw [List.getD_eq_getElem?_getD] at h
  cases hg : ls[i]? with
  | none => rw [hg] at h; exact absurd h.symm hv
  | some w => rw [hg] at h; exact congrArg some h
theorem mm_RL.at {b : Nat} {as : List Nat} {mls : List mm_V} {ls : Array Slot} {nL : Nat} (h : mm_RL b as mls ls nL) {i : Nat} {v : mm_V} (hg : mm_get mls i = v) (hv : v ≠ mm_null) : ∃ w, ls[i]? = some (.val w) ∧ mm_R b as v w :=
  h.2.2.2 i v (mm_get_some hg hv) hv
def mm_full (ls : Array Slot) (nL : Nat) : List (Nat × Value) := (List.range nL).filterMap (fun k => match (ls[k]? : Option Slot) with
  | some (Slot.val v) => some (k, v)
  | _ => none)
theorem mm_full_has {ls : Array Slot} {nL : Nat} (hs : ls.size = nL) (hw : lv_wf ls) : lv_has ls nL (mm_full ls nL) := by
  refine ⟨hs, hw, fun q hq => ?_⟩
  obtain ⟨k, -, hk⟩ := List.mem_filterMap.mp hq
  split at hk
  · next v hv => cases hk; exact hv
  · cases hk
theorem mm_full_in {ls : Array Slot} {nL : Nat} {k : Nat} {w : Value} (hs : ls.size = nL) (h : ls[k]? = some (.val w)) : (k, w) ∈ mm_full ls nL := by
  refine List.mem_filterMap.mpr ⟨k, List.mem_range.mpr ?_, ?_⟩
  · rw [← hs]; exact (Array.getElem?_eq_some_iff.mp h).1
  · rw [h]
theorem mm_RL.store1 {b : Nat} {as : List Nat} {mls : List mm_V} {ls ls' : Array Slot} {nL i : Nat} {v : mm_V} {w : Value} {lv : List (Nat × Value)} (h : mm_RL b as mls ls nL) (hok : mm_ok1 mls i = true) (hv : mm_R b as v w) (hlv : ∀ q ∈ mm_full ls nL, q ∈ lv)
    (h' : lv_has ls' nL ((i, w) :: lv.filter (fun q => !(q.1 == i) && !(q.1 + 1 == i && q.2.category == 2)))) : mm_RL b as (mls.set i v) ls' nL := by
  refine ⟨h'.1, h'.2.1, by rw [List.length_set]; exact h.2.2.1, fun k u hk hu => ?_⟩
  by_cases hki : k = i
  · subst hki
    rw [List.getElem?_set_self' ] at hk
    have hu' : u = v := by
      cases hm : mls[k]? with
      | none => rw [hm] at hk; cases hk
      | some z => rw [hm] at hk; simpa using hk.symm
    subst hu'
    exact ⟨w, h'.2.2 (k, w) List.mem_cons_self, hv⟩
  · rw [List.getElem?_set_ne (Ne.symm hki)] at hk
    obtain ⟨w', h1, h2⟩ := h.2.2.2 k u hk hu
    refine ⟨w', h'.2.2 (k, w') (List.mem_cons_of_mem _ (List.mem_filter.mpr ⟨hlv _ (mm_full_in h.1 h1), ?_⟩)), h2⟩
    have e1 : (k == i) = false := by simpa using hki
    simp only [e1, Bool.not_false, Bool.true_and, Bool.not_eq_true']
    by_cases hk1 : k + 1 = i
    · subst hk1
      have hwd : mm_wide u ≠ true := by
        simp only [mm_ok1, Bool.not_eq_true'] at hok
        have : mm_get mls k = u := by unfold mm_get; rw [List.getD_eq_getElem?_getD, hk]; rfl
        rw [this] at hok
        simp [hok]
      rw [h2.narrow hwd]
      simp
    · have e2 : (k + 1 == i) = false := by simpa using hk1
      simp [e2]
theorem mm_RL.store2 {b : Nat} {as : List Nat} {mls : List mm_V} {ls ls' : Array Slot} {nL i : Nat} {v : mm_V} {w : Value} {lv : List (Nat × Value)} (h : mm_RL b as mls ls nL) (hok : mm_ok1 mls i = true) (hv : mm_R b as v w) (hlv : ∀ q ∈ mm_full ls nL, q ∈ lv)
    (h' : lv_has ls' nL ((i, w) :: lv.filter (fun q => !(q.1 == i) && (!(q.1 == i + 1) && !(q.1 + 1 == i && q.2.category == 2))))) : mm_RL b as ((mls.set i v).set (i + 1) mm_null) ls' nL := by
  refine ⟨h'.1, h'.2.1, by rw [List.length_set, List.length_set]; exact h.2.2.1, fun k u hk hu => ?_⟩
  by_cases hk2 : k = i + 1
  · subst hk2
    rw [List.getElem?_set_self'] at hk
    exfalso
    cases hm : (mls.set i v)[i + 1]? with
    | none => rw [hm] at hk; cases hk
    | some z => rw [hm] at hk; exact hu (by simpa using hk.symm)
  rw [List.getElem?_set_ne (Ne.symm hk2)] at hk
  by_cases hki : k = i
  · subst hki
    rw [List.getElem?_set_self' ] at hk
    have hu' : u = v := by
      cases hm : mls[k]? with
      | none => rw [hm] at hk; cases hk
      | some z => rw [hm] at hk; simpa using hk.symm
    subst hu'
    exact ⟨w, h'.2.2 (k, w) List.mem_cons_self, hv⟩
  · rw [List.getElem?_set_ne (Ne.symm hki)] at hk
    obtain ⟨w', h1, h2⟩ := h.2.2.2 k u hk hu
    refine ⟨w', h'.2.2 (k, w') (List.mem_cons_of_mem _ (List.mem_filter.mpr ⟨hlv _ (mm_full_in h.1 h1), ?_⟩)), h2⟩
    have e1 : (k == i) = false := by simpa using hki
    have e3 : (k == i + 1) = false := by simpa using hk2
    simp only [e1, e3, Bool.not_false, Bool.true_and, Bool.not_eq_true']
    by_cases hk1 : k + 1 = i
    · subst hk1
      have hwd : mm_wide u ≠ true := by
        simp only [mm_ok1, Bool.not_eq_true'] at hok
        have : mm_get mls k = u := by unfold mm_get; rw [List.getD_eq_getElem?_getD, hk]; rfl
        rw [this] at hok
        simp [hok]
      rw [h2.narrow hwd]
      simp
    · have e2 : (k + 1 == i) = false := by simpa using hk1
      simp [e2]
theorem mm_RH.obj {cA : Nat → ClassId} {b L : Nat} {xs : Nat → Int32} {as : List Nat} {ws : va_W} {h : mm_H} (hH : mm_RH cA b L xs as ws h) {r : Option Nat} {ci : Nat} {fs : List mm_V} {v : Value} (ho : mm_obj h r ci = some fs) (hv : mm_R b as (.inr (.inr r)) v) :
    ∃ (q0 q : Nat) (gs : List Value), r = some (q0 + 2) ∧ v = .ref q ∧ as[q0]? = some q ∧ ws[q0]? = some (q, .inr (ci, gs)) ∧ mm_RS b as fs gs := by
  obtain ⟨-, ⟨f1, h1, -⟩, -, h4, -⟩ := hH
  match r, ho, hv with
  | some 1, ho, _ => simp [mm_obj, h1] at ho
  | some (k + 2), ho, ⟨a, ha, hv⟩ =>
    obtain ⟨e, he, hc⟩ := h4 k a ha
    simp only [mm_obj] at ho
    cases hh : h (k + 2) with
    | inl x => rw [hh] at ho; cases ho
    | inr x =>
      rw [hh] at ho hc
      obtain ⟨c0, fs0⟩ := x
      dsimp only at ho
      split at ho
      · next hcc =>
        cases ho
        obtain ⟨gs, e1, e2⟩ := hc
        subst e1
        subst hcc
        exact ⟨k, a, gs, rfl, hv, ha, he, e2⟩
      · cases ho
theorem mm_RH.arr {cA : Nat → ClassId} {b L : Nat} {xs : Nat → Int32} {as : List Nat} {ws : va_W} {h : mm_H} (hH : mm_RH cA b L xs as ws h) {r : Option Nat} {t n : Nat} {f : Nat → Int} {v : Value} (ho : mm_arr h r = some (t, n, f)) (hv : mm_R b as (.inr (.inr r)) v) :
    (r = some 1 ∧ v = .ref b ∧ t = 3 ∧ n = L ∧ ∀ j, (xs j).toInt = f j) ∨
    ∃ (q0 q : Nat) (g : Nat → Int32), r = some (q0 + 2) ∧ v = .ref q ∧ as[q0]? = some q ∧ ws[q0]? = some (q, .inl (cA t, n, .inl g)) ∧ t < 3 ∧ ∀ j, (g j).toInt = f j := by
  obtain ⟨-, ⟨f1, h1, h1'⟩, -, h4, -⟩ := hH
  match r, ho, hv with
  | some 1, ho, hv =>
    simp only [mm_arr, h1, Option.some.injEq, Prod.mk.injEq] at ho
    obtain ⟨e1, e2, e3⟩ := ho
    subst e3
    exact Or.inl ⟨rfl, hv, e1.symm, e2.symm, h1'⟩
  | some (k + 2), ho, ⟨a, ha, hv⟩ =>
    obtain ⟨e, he, hc⟩ := h4 k a ha
    simp only [mm_arr] at ho
    cases hh : h (k + 2) with
    | inr x => rw [hh] at ho; cases ho
    | inl x =>
      rw [hh] at ho hc
      cases ho
      obtain ⟨ht, g, e1, e2⟩ := hc
      subst e1
      exact Or.inr ⟨k, a, g, rfl, hv, ha, he, ht, e2⟩
theorem mm_RH.set {cA : Nat → ClassId} {b L : Nat} {xs : Nat → Int32} {as : List Nat} {ws : va_W} {h : mm_H} (hH : mm_RH cA b L xs as ws h) {q0 q : Nat} {c : mm_C} {e : va_E} (ha : as[q0]? = some q) (hc : mm_RC cA b as c e) : mm_RH cA b L xs as (ws.set q0 (q, e)) (mm_up h (q0 + 2) c) := by
  obtain ⟨⟨t0, f0, h0, h0'⟩, ⟨f1, h1, h1'⟩, hl, h4, h5⟩ := hH
  refine ⟨⟨t0, f0, by simp only [mm_up]; rw [if_neg (by omega)]; exact h0, h0'⟩, ⟨f1, by simp only [mm_up]; rw [if_neg (by omega)]; exact h1, h1'⟩, by rw [List.length_set]; exact hl, fun k a hk => ?_, fun k hk => ?_⟩
  · by_cases hkq : k = q0
    · subst hkq
      rw [ha] at hk
      cases hk
      refine ⟨e, ?_, ?_⟩
      · rw [List.getElem?_set_self]
        rw [hl]; exact (List.getElem?_eq_some_iff.mp ha).1
      · simp only [mm_up, if_true]; exact hc
    · obtain ⟨e', h6, h7⟩ := h4 k a hk
      refine ⟨e', by rw [List.getElem?_set_ne (Ne.symm hkq)]; exact h6, ?_⟩
      simp only [mm_up]
      rw [if_neg (by omega)]
      exact h7
  · have := (List.getElem?_eq_some_iff.mp ha).1
    simp only [mm_up]
    rw [if_neg (by omega)]
    exact h5 k hk
theorem mm_RH.push {cA : Nat → ClassId} {b L : Nat} {xs : Nat → Int32} {as : List Nat} {ws : va_W} {h h' : mm_H} (hH : mm_RH cA b L xs as ws h) {c : mm_C} {e : va_E} {sl a q : Nat} (hal : mm_alloc h c sl = some (a, h')) (hc : mm_RC cA b (as ++ [q]) c e) :
    a = as.length + 2 ∧ mm_RH cA b L xs (as ++ [q]) (ws ++ [(q, e)]) h' ∧ mm_nx h' = mm_nx h + 1 ∧ mm_sl h' = mm_sl h + sl := by
  obtain ⟨⟨t0, f0, h0, h0'⟩, ⟨f1, h1, h1'⟩, hl, h4, h5⟩ := hH
  unfold mm_alloc at hal
  rw [h0] at hal
  dsimp only at hal
  rw [if_pos ⟨h0', by omega⟩] at hal
  simp only [Option.some.injEq, Prod.mk.injEq] at hal
  obtain ⟨e1, e2⟩ := hal
  subst e1
  subst e2
  refine ⟨rfl, ⟨⟨t0 + sl, f0, ?_, by omega⟩, ⟨f1, ?_, h1'⟩, by simp [hl], fun k a hk => ?_, fun k hk => ?_⟩, ?_, ?_⟩
  · simp [mm_up]
  · simp only [mm_up]; rw [if_neg (by omega), if_neg (by omega)]; exact h1
  · by_cases hkl : k < as.length
    · rw [List.getElem?_append_left hkl] at hk
      obtain ⟨e', h6, h7⟩ := h4 k a hk
      refine ⟨e', by rw [List.getElem?_append_left (by omega)]; exact h6, ?_⟩
      simp only [mm_up]
      rw [if_neg (by omega), if_neg (by omega)]
      exact h7.app _
    · rw [List.getElem?_append_right (by omega)] at hk
      have hz : k - as.length < 1 := (List.getElem?_eq_some_iff.mp hk).1
      have hk0 : k = as.length := by omega
      subst hk0
      rw [Nat.sub_self] at hk
      cases hk
      refine ⟨e, by rw [List.getElem?_append_right (by omega), hl, Nat.sub_self]; rfl, ?_⟩
      simp only [mm_up]
      rw [if_neg (by omega), if_pos trivial]
      exact hc
  · rw [List.length_append] at hk
    simp only [List.length_cons, List.length_nil] at hk
    simp only [mm_up]
    rw [if_neg (by omega), if_neg (by omega)]
    exact h5 k (by omega)
  · simp [mm_nx, mm_up, h0]
  · simp [mm_sl, mm_up, h0]
theorem mm_nx_up {h : mm_H} {a : Nat} {c : mm_C} (ha : a ≠ 0) : mm_nx (mm_up h a c) = mm_nx h ∧ mm_sl (mm_up h a c) = mm_sl h := by
  simp [mm_nx, mm_sl, mm_up, Ne.symm ha]
end
section
def mm_Cx (p : Program) (s : State) (m : MethodId) (args : Array Value) (meth : Method) (c : Code) (y : Nat) (D : va_G) (cA : Nat → ClassId) (b L : Nat) (xs : Nat → Int32) (A : Nat → Prop) (R : Room) : Prop :=
  p.tables.exec = Jvm.exec ∧ c.code = mm_bytes y ∧ c.maxLocals = mm_maxL y ∧ s.vm.findClass (mm_cls y) = some m.cls ∧ (∀ w ∈ mm_tbl, w.before args s = true) ∧ meth.sig.returnType = mm_ret y ∧ meth.locks = false ∧ (mm_kind y = 2 → meth.name = "<init>") ∧ va_K D vwCl (mm_tys cA) s ∧ va_X b L xs s s.heap ∧ b < s.heap.size ∧ ¬ A b ∧ (∀ q, s.heap.size ≤ q → A q) ∧ mm_dep y ≤ R.frames ∧ 39 * mm_dep y ≤ R.locals
def mm_At (s : State) (y : Nat) (D : va_G) (cA : Nat → ClassId) (b L : Nat) (xs : Nat → Int32) (A : Nat → Prop) (mls mst : List mm_V) (h : mm_H) (H : Heap) (locs : List Loc) (ls : Array Slot) (st : List Value) (as : List Nat) (ws : va_W) : Prop :=
  mm_RL b as mls ls (mm_maxL y) ∧ mm_RS b as mst st ∧ mm_RH cA b L xs as ws h ∧ va_P D vwCl ws H ∧ va_D A ws ∧ va_S A s.heap H locs
theorem mm_pl_in {I : mm_I} {k : Nat} {w : Jvm.Cond} (h : mm_pl I k = some w) : w ∈ mm_tbl := List.mem_of_getElem? h
theorem mm_lcmp_eq (x y : Int64) : (lg_cmp x y).toInt = if x.toInt < y.toInt then -1 else if x.toInt = y.toInt then 0 else 1 := by
  unfold lg_cmp
  simp only [gt_iff_lt, Int64.lt_iff_toInt_lt, ← Int64.toInt_inj]
  split
  · next h => rw [if_neg (by omega), if_neg (by omega)]; rfl
  · next h =>
    split
    · next h2 => rw [if_neg (by omega)]; first | rfl | (rw [if_pos h2]; rfl)
    · next h2 => rw [if_pos (by omega)]; rfl
theorem mm_upd {g : Nat → Int32} {f : Nat → Int} (hg : ∀ j, (g j).toInt = f j) (k : Nat) {x : Int32} {z : Int} (hx : x.toInt = z) : ∀ j, (upd g k x j).toInt = mm_st f k z j := by
  intro j
  simp only [upd, mm_st]
  split
  · exact hx
  · exact hg j
theorem mm_in {i : Int32} {n : Nat} {z : Int} (hz : i.toInt = z) (h0 : 0 ≤ z) (h1 : z < n) : vp_in i n := by
  subst hz
  unfold vp_in
  rintro (h | h)
  · rw [Int32.lt_iff_toInt_lt] at h
    simp at h
    omega
  · have : i.toNatClampNeg = i.toInt.toNat := rfl
    omega
section SIM
variable {p : Program} {l : Launch} {e : Env} {R : Room} {s : State} {m : MethodId} {args : Array Value} {below : List Frame} {meth : Method} {c : Code} {H : Heap} {locs : List Loc} {cells slots : Nat} {Q : State → Prop}
variable {y pc : Nat} {D : va_G} {cA : Nat → ClassId} {b L : Nat} {xs : Nat → Int32} {A : Nat → Prop} {as : List Nat} {ws : va_W} {mls mst : List mm_V} {h : mm_H} {ls : Array Slot} {st : List Value}
set_option maxHeartbeats 4000000 in
set_option maxRecDepth 100000 in
theorem mm_sim1 (C : mm_Cx p s m args meth c y D cA b L xs A R) {I : mm_I} (hok : mm_okI y pc I = true) (hat : mm_At s y D cA b L xs A mls mst h H locs ls st as ws) {f : mm_F} (hstep : mm_step I pc mls mst h = some (.inl f))
    (hcc : cells + (mm_nx f.2.2.2 - mm_nx h) ≤ R.cells) (hss : slots + (mm_sl f.2.2.2 - mm_sl h) ≤ R.slots)
    (k : ∀ (H' : Heap) (locs' : List Loc) (ls' : Array Slot) (st' : List Value) (as2 : List Nat) (ws' : va_W), mm_At s y D cA b L xs A f.2.1 f.2.2.1 f.2.2.2 H' locs' ls' st' (as ++ as2) ws' → W p l e R s m args below meth c H' locs' (cells + (mm_nx f.2.2.2 - mm_nx h)) (slots + (mm_sl f.2.2.2 - mm_sl h)) Q (F0 m f.1 ls' st')) :
    W p l e R s m args below meth c H locs cells slots Q (F0 m pc ls st) := by
  obtain ⟨hx, hb, hml, hown, hts, hr, hlk, hin, hK, hX, hbl, hbA, hA, hfr, hlo⟩ := C
  obtain ⟨hRL, hRS, hRH, hP, hD, hS⟩ := hat
  obtain ⟨ins, len, cst, xx, kk, pls⟩ := I
  have k0 : f.2.2.2 = h → ∀ (ls' : Array Slot) (st' : List Value), mm_RL b as f.2.1 ls' (mm_maxL y) → mm_RS b as f.2.2.1 st' → W p l e R s m args below meth c H locs cells slots Q (F0 m f.1 ls' st') := by
    intro hf ls' st' h1 h2
    have := k H locs ls' st' [] ws (by rw [List.append_nil, hf]; exact ⟨h1, h2, hRH, hP, hD, hS⟩)
    rw [hf] at this
    simpa only [Nat.sub_self, Nat.add_zero] using this
  cases ins with
  | iconst n =>
    simp only [mm_okI, mm_okD, Bool.and_eq_true, decide_eq_true_eq] at hok
    obtain ⟨hd, h1, h2⟩ := hok
    subst h1
    simp only [mm_step, mm_push, Option.some.injEq, Sum.inl.injEq] at hstep
    subst hstep
    exact lv_iconst hx hb hd rfl (k0 rfl _ _ hRL ⟨_, _, rfl, ⟨_, rfl, h2⟩, hRS⟩)
  | bipush n =>
    simp only [mm_okI, mm_okD, Bool.and_eq_true, decide_eq_true_eq] at hok
    obtain ⟨hd, h1, h2⟩ := hok
    subst h1
    simp only [mm_step, mm_push, Option.some.injEq, Sum.inl.injEq] at hstep
    subst hstep
    exact lv_bipush hx hb hd rfl (k0 rfl _ _ hRL ⟨_, _, rfl, ⟨_, rfl, h2⟩, hRS⟩)
  | sipush n =>
    simp only [mm_okI, mm_okD, Bool.and_eq_true, decide_eq_true_eq] at hok
    obtain ⟨hd, h1, h2⟩ := hok
    subst h1
    simp only [mm_step, mm_push, Option.some.injEq, Sum.inl.injEq] at hstep
    subst hstep
    exact lv_sipush hx hb hd rfl (k0 rfl _ _ hRL ⟨_, _, rfl, ⟨_, rfl, h2⟩, hRS⟩)
  | lconst n =>
    simp only [mm_okI, mm_okD, Bool.and_eq_true, decide_eq_true_eq] at hok
    obtain ⟨hd, h1, h2⟩ := hok
    subst h1
    simp only [mm_step, mm_push, Option.some.injEq, Sum.inl.injEq] at hstep
    subst hstep
    exact lv_lconst hx hb hd rfl (k0 rfl _ _ hRL ⟨_, _, rfl, ⟨_, rfl, h2⟩, hRS⟩)
  | ldc n =>
    simp only [mm_okI, mm_okD, Bool.and_eq_true, decide_eq_true_eq] at hok
    obtain ⟨hd, h1, h3, h2⟩ := hok
    subst h1
    simp only [mm_step, mm_push, Option.some.injEq, Sum.inl.injEq] at hstep
    subst hstep
    exact lv_ldc hx hb hown (hts _ (mm_pl_in h3)) hd (k0 rfl _ _ hRL ⟨_, _, rfl, ⟨_, rfl, h2⟩, hRS⟩)
  | ldc_w n =>
    simp only [mm_okI, mm_okD, Bool.and_eq_true, decide_eq_true_eq] at hok
    obtain ⟨hd, h1, h3, h2⟩ := hok
    subst h1
    simp only [mm_step, mm_push, Option.some.injEq, Sum.inl.injEq] at hstep
    subst hstep
    exact lv_ldcw hx hb hown (hts _ (mm_pl_in h3)) hd (k0 rfl _ _ hRL ⟨_, _, rfl, ⟨_, rfl, h2⟩, hRS⟩)
  | ldc2_w n =>
    simp only [mm_okI, mm_okD, Bool.and_eq_true, decide_eq_true_eq] at hok
    obtain ⟨hd, h1, h3, h2⟩ := hok
    subst h1
    simp only [mm_step, mm_push, Option.some.injEq, Sum.inl.injEq] at hstep
    subst hstep
    exact lv_ldc2 hx hb hown (hts _ (mm_pl_in h3)) hd (k0 rfl _ _ hRL ⟨_, _, rfl, ⟨_, rfl, h2⟩, hRS⟩)
  | iload i =>
    simp only [mm_okI, mm_okD, Bool.and_eq_true, decide_eq_true_eq] at hok
    obtain ⟨hd, h1⟩ := hok
    subst h1
    simp only [mm_step, mm_iload] at hstep
    split at hstep
    · next z hg =>
      simp only [Option.some.injEq, Sum.inl.injEq] at hstep
      subst hstep
      obtain ⟨w, hw1, hw2⟩ := hRL.at hg (by intro q; cases q)
      obtain ⟨x, hq, hz⟩ := hw2
      subst hq
      exact lv_iload hx hb hd hw1 (k0 rfl _ _ hRL ⟨_, _, rfl, ⟨x, rfl, hz⟩, hRS⟩)
    · cases hstep
  | iload_n i =>
    simp only [mm_okI, mm_okD, Bool.and_eq_true, decide_eq_true_eq] at hok
    obtain ⟨hd, h1⟩ := hok
    subst h1
    simp only [mm_step, mm_iload] at hstep
    split at hstep
    · next z hg =>
      simp only [Option.some.injEq, Sum.inl.injEq] at hstep
      subst hstep
      obtain ⟨w, hw1, hw2⟩ := hRL.at hg (by intro q; cases q)
      obtain ⟨x, hq, hz⟩ := hw2
      subst hq
      exact lv_iload_n hx hb hd rfl hw1 (k0 rfl _ _ hRL ⟨_, _, rfl, ⟨x, rfl, hz⟩, hRS⟩)
    · cases hstep
  | lload i =>
    simp only [mm_okI, mm_okD, Bool.and_eq_true, decide_eq_true_eq] at hok
    obtain ⟨hd, h1⟩ := hok
    subst h1
    simp only [mm_step, mm_lload] at hstep
    split at hstep
    · next z hg =>
      simp only [Option.some.injEq, Sum.inl.injEq] at hstep
      subst hstep
      obtain ⟨w, hw1, hw2⟩ := hRL.at hg (by intro q; cases q)
      obtain ⟨x, hq, hz⟩ := hw2
      subst hq
      exact lv_lload hx hb hd hw1 (k0 rfl _ _ hRL ⟨_, _, rfl, ⟨x, rfl, hz⟩, hRS⟩)
    · cases hstep
  | lload_n i =>
    simp only [mm_okI, mm_okD, Bool.and_eq_true, decide_eq_true_eq] at hok
    obtain ⟨hd, h1⟩ := hok
    subst h1
    simp only [mm_step, mm_lload] at hstep
    split at hstep
    · next z hg =>
      simp only [Option.some.injEq, Sum.inl.injEq] at hstep
      subst hstep
      obtain ⟨w, hw1, hw2⟩ := hRL.at hg (by intro q; cases q)
      obtain ⟨x, hq, hz⟩ := hw2
      subst hq
      exact lv_lload_n hx hb hd rfl hw1 (k0 rfl _ _ hRL ⟨_, _, rfl, ⟨x, rfl, hz⟩, hRS⟩)
    · cases hstep
  | aload i =>
    simp only [mm_okI, mm_okD, Bool.and_eq_true, decide_eq_true_eq] at hok
    obtain ⟨hd, h1⟩ := hok
    subst h1
    simp only [mm_step, mm_aload] at hstep
    split at hstep
    · next a hg =>
      simp only [Option.some.injEq, Sum.inl.injEq] at hstep
      subst hstep
      obtain ⟨w, hw1, hw2⟩ := hRL.at hg (by intro q; cases q)
      obtain ⟨q, hq⟩ : ∃ q, w = .ref q := by
        match a, hw2 with
        | 1, hw2 => exact ⟨_, hw2⟩
        | j + 2, ⟨q, _, hw2⟩ => exact ⟨q, hw2⟩
      subst hq
      exact lv_aload hx hb hd hw1 (k0 rfl _ _ hRL ⟨_, _, rfl, hw2, hRS⟩)
    · cases hstep
  | aload_n i =>
    simp only [mm_okI, mm_okD, Bool.and_eq_true, decide_eq_true_eq] at hok
    obtain ⟨hd, h1⟩ := hok
    subst h1
    simp only [mm_step, mm_aload] at hstep
    split at hstep
    · next a hg =>
      simp only [Option.some.injEq, Sum.inl.injEq] at hstep
      subst hstep
      obtain ⟨w, hw1, hw2⟩ := hRL.at hg (by intro q; cases q)
      obtain ⟨q, hq⟩ : ∃ q, w = .ref q := by
        match a, hw2 with
        | 1, hw2 => exact ⟨_, hw2⟩
        | j + 2, ⟨q, _, hw2⟩ => exact ⟨q, hw2⟩
      subst hq
      exact lv_aload_n hx hb hd rfl hw1 (k0 rfl _ _ hRL ⟨_, _, rfl, hw2, hRS⟩)
    · cases hstep
  | istore i =>
    simp only [mm_okI, mm_okD, Bool.and_eq_true, decide_eq_true_eq] at hok
    obtain ⟨hd, h1, h2⟩ := hok
    subst h1
    simp only [mm_step, mm_istore] at hstep
    split at hstep
    · next z r =>
      split at hstep
      · next hfree =>
        simp only [Option.some.injEq, Sum.inl.injEq] at hstep
        subst hstep
        obtain ⟨w, s2, hst, hw, hRS⟩ := hRS
        subst hst
        obtain ⟨x, hq, hz⟩ := hw
        subst hq
        exact lv_istore hx hb hd (mm_full_has hRL.1 hRL.2.1) h2 rfl (fun ls' h' => k0 rfl _ _ (hRL.store1 hfree ⟨x, rfl, hz⟩ (fun _ q => q) h') hRS)
      · cases hstep
    · cases hstep
  | istore_n i =>
    simp only [mm_okI, mm_okD, Bool.and_eq_true, decide_eq_true_eq] at hok
    obtain ⟨hd, h1, h2⟩ := hok
    subst h1
    simp only [mm_step, mm_istore] at hstep
    split at hstep
    · next z r =>
      split at hstep
      · next hfree =>
        simp only [Option.some.injEq, Sum.inl.injEq] at hstep
        subst hstep
        obtain ⟨w, s2, hst, hw, hRS⟩ := hRS
        subst hst
        obtain ⟨x, hq, hz⟩ := hw
        subst hq
        exact lv_istore_n hx hb hd rfl (mm_full_has hRL.1 hRL.2.1) h2 rfl (fun ls' h' => k0 rfl _ _ (hRL.store1 hfree ⟨x, rfl, hz⟩ (fun _ q => q) h') hRS)
      · cases hstep
    · cases hstep
  | lstore i =>
    simp only [mm_okI, mm_okD, Bool.and_eq_true, decide_eq_true_eq] at hok
    obtain ⟨hd, h1, h2⟩ := hok
    subst h1
    simp only [mm_step, mm_lstore] at hstep
    split at hstep
    · next z r =>
      split at hstep
      · next hfree =>
        simp only [Option.some.injEq, Sum.inl.injEq] at hstep
        subst hstep
        obtain ⟨w, s2, hst, hw, hRS⟩ := hRS
        subst hst
        obtain ⟨x, hq, hz⟩ := hw
        subst hq
        exact lv_lstore hx hb hd (mm_full_has hRL.1 hRL.2.1) h2 rfl (fun ls' h' => k0 rfl _ _ (hRL.store2 hfree ⟨x, rfl, hz⟩ (fun _ q => q) h') hRS)
      · cases hstep
    · cases hstep
  | lstore_n i =>
    simp only [mm_okI, mm_okD, Bool.and_eq_true, decide_eq_true_eq] at hok
    obtain ⟨hd, h1, h2⟩ := hok
    subst h1
    simp only [mm_step, mm_lstore] at hstep
    split at hstep
    · next z r =>
      split at hstep
      · next hfree =>
        simp only [Option.some.injEq, Sum.inl.injEq] at hstep
        subst hstep
        obtain ⟨w, s2, hst, hw, hRS⟩ := hRS
        subst hst
        obtain ⟨x, hq, hz⟩ := hw
        subst hq
        exact lv_lstore_n hx hb hd rfl (mm_full_has hRL.1 hRL.2.1) h2 rfl (fun ls' h' => k0 rfl _ _ (hRL.store2 hfree ⟨x, rfl, hz⟩ (fun _ q => q) h') hRS)
      · cases hstep
    · cases hstep
  | astore i =>
    simp only [mm_okI, mm_okD, Bool.and_eq_true, decide_eq_true_eq] at hok
    obtain ⟨hd, h1, h2⟩ := hok
    subst h1
    simp only [mm_step, mm_astore] at hstep
    split at hstep
    · next z r =>
      split at hstep
      · next hfree =>
        simp only [Option.some.injEq, Sum.inl.injEq] at hstep
        subst hstep
        obtain ⟨w, s2, hst, hw, hRS⟩ := hRS
        subst hst
        obtain ⟨q, hq⟩ : ∃ q, w = .ref q := by
          match z, hw with
          | 1, hw2 => exact ⟨_, hw2⟩
          | j + 2, ⟨q, _, hw2⟩ => exact ⟨q, hw2⟩
        subst hq
        exact lv_astore hx hb hd (mm_full_has hRL.1 hRL.2.1) h2 rfl (fun ls' h' => k0 rfl _ _ (hRL.store1 hfree hw (fun _ q => q) h') hRS)
      · cases hstep
    · cases hstep
  | astore_n i =>
    simp only [mm_okI, mm_okD, Bool.and_eq_true, decide_eq_true_eq] at hok
    obtain ⟨hd, h1, h2⟩ := hok
    subst h1
    simp only [mm_step, mm_astore] at hstep
    split at hstep
    · next z r =>
      split at hstep
      · next hfree =>
        simp only [Option.some.injEq, Sum.inl.injEq] at hstep
        subst hstep
        obtain ⟨w, s2, hst, hw, hRS⟩ := hRS
        subst hst
        obtain ⟨q, hq⟩ : ∃ q, w = .ref q := by
          match z, hw with
          | 1, hw2 => exact ⟨_, hw2⟩
          | j + 2, ⟨q, _, hw2⟩ => exact ⟨q, hw2⟩
        subst hq
        exact lv_astore_n hx hb hd rfl (mm_full_has hRL.1 hRL.2.1) h2 rfl (fun ls' h' => k0 rfl _ _ (hRL.store1 hfree hw (fun _ q => q) h') hRS)
      · cases hstep
    · cases hstep
  | iinc i n =>
    simp only [mm_okI, mm_okD, Bool.and_eq_true, decide_eq_true_eq] at hok
    obtain ⟨hd, h1, h2, h3⟩ := hok
    subst h1
    simp only [mm_step, mm_iinc] at hstep
    split at hstep
    · next z hg =>
      split at hstep
      · next hfree =>
        simp only [Option.some.injEq, Sum.inl.injEq] at hstep
        subst hstep
        obtain ⟨w, hw1, hw2⟩ := hRL.at hg (by intro q; cases q)
        obtain ⟨x, hq, hz⟩ := hw2
        subst hq
        have hf := mm_full_has hRL.1 hRL.2.1
        have hl2 : lv_has ls (mm_maxL y) ((i, .int x) :: mm_full ls (mm_maxL y)) := ⟨hf.1, hf.2.1, fun q hq => by
          rcases List.mem_cons.mp hq with h9 | h9
          · rw [h9]; exact hw1
          · exact hf.2.2 q h9⟩
        exact lv_iinc hx hb hd hl2 (k := 0) rfl rfl h2 rfl (fun ls' h' => k0 rfl _ _ (hRL.store1 hfree ⟨_, rfl, by rw [mm_add32, hz, h3]⟩ (fun _ q => List.mem_cons_of_mem _ q) h') hRS)
      · cases hstep
    · cases hstep
  | iadd =>
    simp only [mm_okI, mm_okD, Bool.and_eq_true, decide_eq_true_eq] at hok
    obtain ⟨hd, h1⟩ := hok
    subst h1
    simp only [mm_step, mm_bin] at hstep
    split at hstep
    · next z2 z1 r =>
      simp only [Option.some.injEq, Sum.inl.injEq] at hstep
      subst hstep
      obtain ⟨w2, s2, hst, ⟨x2, hq2, hz2⟩, w1, s1, hst1, ⟨x1, hq1, hz1⟩, hRS⟩ := hRS
      subst hst
      subst hst1
      subst hq2
      subst hq1
      exact lv_iadd hx hb hd (k0 rfl _ _ hRL ⟨_, _, rfl, ⟨_, rfl, by rw [mm_add32, hz1, hz2]⟩, hRS⟩)
    · cases hstep
  | ladd =>
    simp only [mm_okI, mm_okD, Bool.and_eq_true, decide_eq_true_eq] at hok
    obtain ⟨hd, h1⟩ := hok
    subst h1
    simp only [mm_step, mm_lbin] at hstep
    split at hstep
    · next z2 z1 r =>
      simp only [Option.some.injEq, Sum.inl.injEq] at hstep
      subst hstep
      obtain ⟨w2, s2, hst, ⟨x2, hq2, hz2⟩, w1, s1, hst1, ⟨x1, hq1, hz1⟩, hRS⟩ := hRS
      subst hst
      subst hst1
      subst hq2
      subst hq1
      exact lv_ladd hx hb hd (k0 rfl _ _ hRL ⟨_, _, rfl, ⟨_, rfl, by rw [mm_add64, hz1, hz2]⟩, hRS⟩)
    · cases hstep
  | isub =>
    simp only [mm_okI, mm_okD, Bool.and_eq_true, decide_eq_true_eq] at hok
    obtain ⟨hd, h1⟩ := hok
    subst h1
    simp only [mm_step, mm_bin] at hstep
    split at hstep
    · next z2 z1 r =>
      simp only [Option.some.injEq, Sum.inl.injEq] at hstep
      subst hstep
      obtain ⟨w2, s2, hst, ⟨x2, hq2, hz2⟩, w1, s1, hst1, ⟨x1, hq1, hz1⟩, hRS⟩ := hRS
      subst hst
      subst hst1
      subst hq2
      subst hq1
      exact lv_isub hx hb hd (k0 rfl _ _ hRL ⟨_, _, rfl, ⟨_, rfl, by rw [mm_sub32, hz1, hz2]⟩, hRS⟩)
    · cases hstep
  | lsub =>
    simp only [mm_okI, mm_okD, Bool.and_eq_true, decide_eq_true_eq] at hok
    obtain ⟨hd, h1⟩ := hok
    subst h1
    simp only [mm_step, mm_lbin] at hstep
    split at hstep
    · next z2 z1 r =>
      simp only [Option.some.injEq, Sum.inl.injEq] at hstep
      subst hstep
      obtain ⟨w2, s2, hst, ⟨x2, hq2, hz2⟩, w1, s1, hst1, ⟨x1, hq1, hz1⟩, hRS⟩ := hRS
      subst hst
      subst hst1
      subst hq2
      subst hq1
      exact lv_lsub hx hb hd (k0 rfl _ _ hRL ⟨_, _, rfl, ⟨_, rfl, by rw [mm_sub64, hz1, hz2]⟩, hRS⟩)
    · cases hstep
  | imul =>
    simp only [mm_okI, mm_okD, Bool.and_eq_true, decide_eq_true_eq] at hok
    obtain ⟨hd, h1⟩ := hok
    subst h1
    simp only [mm_step, mm_bin] at hstep
    split at hstep
    · next z2 z1 r =>
      simp only [Option.some.injEq, Sum.inl.injEq] at hstep
      subst hstep
      obtain ⟨w2, s2, hst, ⟨x2, hq2, hz2⟩, w1, s1, hst1, ⟨x1, hq1, hz1⟩, hRS⟩ := hRS
      subst hst
      subst hst1
      subst hq2
      subst hq1
      exact lv_imul hx hb hd (k0 rfl _ _ hRL ⟨_, _, rfl, ⟨_, rfl, by rw [mm_mul32, hz1, hz2]⟩, hRS⟩)
    · cases hstep
  | lmul =>
    simp only [mm_okI, mm_okD, Bool.and_eq_true, decide_eq_true_eq] at hok
    obtain ⟨hd, h1⟩ := hok
    subst h1
    simp only [mm_step, mm_lbin] at hstep
    split at hstep
    · next z2 z1 r =>
      simp only [Option.some.injEq, Sum.inl.injEq] at hstep
      subst hstep
      obtain ⟨w2, s2, hst, ⟨x2, hq2, hz2⟩, w1, s1, hst1, ⟨x1, hq1, hz1⟩, hRS⟩ := hRS
      subst hst
      subst hst1
      subst hq2
      subst hq1
      exact lv_lmul hx hb hd (k0 rfl _ _ hRL ⟨_, _, rfl, ⟨_, rfl, by rw [mm_mul64, hz1, hz2]⟩, hRS⟩)
    · cases hstep
  | iand =>
    simp only [mm_okI, mm_okD, Bool.and_eq_true, decide_eq_true_eq] at hok
    obtain ⟨hd, h1⟩ := hok
    subst h1
    simp only [mm_step, mm_bin, mm_s32] at hstep
    split at hstep
    · next z2 z1 r =>
      simp only [Option.some.injEq, Sum.inl.injEq] at hstep
      subst hstep
      obtain ⟨w2, s2, hst, ⟨x2, hq2, hz2⟩, w1, s1, hst1, ⟨x1, hq1, hz1⟩, hRS⟩ := hRS
      subst hst
      subst hst1
      subst hq2
      subst hq1
      exact lv_iand hx hb hd (k0 rfl _ _ hRL ⟨_, _, rfl, ⟨_, rfl, by rw [← hz1, ← hz2, Int32.ofInt_toInt, Int32.ofInt_toInt]⟩, hRS⟩)
    · cases hstep
  | land =>
    simp only [mm_okI, mm_okD, Bool.and_eq_true, decide_eq_true_eq] at hok
    obtain ⟨hd, h1⟩ := hok
    subst h1
    simp only [mm_step, mm_lbin, mm_s64] at hstep
    split at hstep
    · next z2 z1 r =>
      simp only [Option.some.injEq, Sum.inl.injEq] at hstep
      subst hstep
      obtain ⟨w2, s2, hst, ⟨x2, hq2, hz2⟩, w1, s1, hst1, ⟨x1, hq1, hz1⟩, hRS⟩ := hRS
      subst hst
      subst hst1
      subst hq2
      subst hq1
      exact lv_land hx hb hd (k0 rfl _ _ hRL ⟨_, _, rfl, ⟨_, rfl, by rw [← hz1, ← hz2, Int64.ofInt_toInt, Int64.ofInt_toInt]⟩, hRS⟩)
    · cases hstep
  | ior =>
    simp only [mm_okI, mm_okD, Bool.and_eq_true, decide_eq_true_eq] at hok
    obtain ⟨hd, h1⟩ := hok
    subst h1
    simp only [mm_step, mm_bin, mm_s32] at hstep
    split at hstep
    · next z2 z1 r =>
      simp only [Option.some.injEq, Sum.inl.injEq] at hstep
      subst hstep
      obtain ⟨w2, s2, hst, ⟨x2, hq2, hz2⟩, w1, s1, hst1, ⟨x1, hq1, hz1⟩, hRS⟩ := hRS
      subst hst
      subst hst1
      subst hq2
      subst hq1
      exact lv_ior hx hb hd (k0 rfl _ _ hRL ⟨_, _, rfl, ⟨_, rfl, by rw [← hz1, ← hz2, Int32.ofInt_toInt, Int32.ofInt_toInt]⟩, hRS⟩)
    · cases hstep
  | lor =>
    simp only [mm_okI, mm_okD, Bool.and_eq_true, decide_eq_true_eq] at hok
    obtain ⟨hd, h1⟩ := hok
    subst h1
    simp only [mm_step, mm_lbin, mm_s64] at hstep
    split at hstep
    · next z2 z1 r =>
      simp only [Option.some.injEq, Sum.inl.injEq] at hstep
      subst hstep
      obtain ⟨w2, s2, hst, ⟨x2, hq2, hz2⟩, w1, s1, hst1, ⟨x1, hq1, hz1⟩, hRS⟩ := hRS
      subst hst
      subst hst1
      subst hq2
      subst hq1
      exact lv_lor hx hb hd (k0 rfl _ _ hRL ⟨_, _, rfl, ⟨_, rfl, by rw [← hz1, ← hz2, Int64.ofInt_toInt, Int64.ofInt_toInt]⟩, hRS⟩)
    · cases hstep
  | ishl =>
    simp only [mm_okI, mm_okD, Bool.and_eq_true, decide_eq_true_eq] at hok
    obtain ⟨hd, h1⟩ := hok
    subst h1
    simp only [mm_step, mm_bin, mm_s32] at hstep
    split at hstep
    · next z2 z1 r =>
      simp only [Option.some.injEq, Sum.inl.injEq] at hstep
      subst hstep
      obtain ⟨w2, s2, hst, ⟨x2, hq2, hz2⟩, w1, s1, hst1, ⟨x1, hq1, hz1⟩, hRS⟩ := hRS
      subst hst
      subst hst1
      subst hq2
      subst hq1
      exact lv_ishl hx hb hd (k0 rfl _ _ hRL ⟨_, _, rfl, ⟨_, rfl, by rw [← hz1, ← hz2, Int32.ofInt_toInt, Int32.ofInt_toInt]⟩, hRS⟩)
    · cases hstep
  | lshl =>
    simp only [mm_okI, mm_okD, Bool.and_eq_true, decide_eq_true_eq] at hok
    obtain ⟨hd, h1⟩ := hok
    subst h1
    simp only [mm_step, mm_lsh, mm_lshl1] at hstep
    split at hstep
    · next z2 z1 r =>
      simp only [Option.some.injEq, Sum.inl.injEq] at hstep
      subst hstep
      obtain ⟨w2, s2, hst, ⟨x2, hq2, hz2⟩, w1, s1, hst1, ⟨x1, hq1, hz1⟩, hRS⟩ := hRS
      subst hst
      subst hst1
      subst hq2
      subst hq1
      exact (fun a b d q => lv_lshl a b d rfl q) hx hb hd (k0 rfl _ _ hRL ⟨_, _, rfl, ⟨_, rfl, by rw [← hz1, ← hz2, Int32.ofInt_toInt, Int64.ofInt_toInt]⟩, hRS⟩)
    · cases hstep
  | ishr =>
    simp only [mm_okI, mm_okD, Bool.and_eq_true, decide_eq_true_eq] at hok
    obtain ⟨hd, h1⟩ := hok
    subst h1
    simp only [mm_step, mm_bin, mm_s32] at hstep
    split at hstep
    · next z2 z1 r =>
      simp only [Option.some.injEq, Sum.inl.injEq] at hstep
      subst hstep
      obtain ⟨w2, s2, hst, ⟨x2, hq2, hz2⟩, w1, s1, hst1, ⟨x1, hq1, hz1⟩, hRS⟩ := hRS
      subst hst
      subst hst1
      subst hq2
      subst hq1
      exact lv_ishr hx hb hd (k0 rfl _ _ hRL ⟨_, _, rfl, ⟨_, rfl, by rw [← hz1, ← hz2, Int32.ofInt_toInt, Int32.ofInt_toInt]⟩, hRS⟩)
    · cases hstep
  | lshr =>
    simp only [mm_okI, mm_okD, Bool.and_eq_true, decide_eq_true_eq] at hok
    obtain ⟨hd, h1⟩ := hok
    subst h1
    simp only [mm_step, mm_lsh, mm_lshr1] at hstep
    split at hstep
    · next z2 z1 r =>
      simp only [Option.some.injEq, Sum.inl.injEq] at hstep
      subst hstep
      obtain ⟨w2, s2, hst, ⟨x2, hq2, hz2⟩, w1, s1, hst1, ⟨x1, hq1, hz1⟩, hRS⟩ := hRS
      subst hst
      subst hst1
      subst hq2
      subst hq1
      exact (fun a b d q => lv_lshr a b d rfl q) hx hb hd (k0 rfl _ _ hRL ⟨_, _, rfl, ⟨_, rfl, by rw [← hz1, ← hz2, Int32.ofInt_toInt, Int64.ofInt_toInt]⟩, hRS⟩)
    · cases hstep
  | lushr =>
    simp only [mm_okI, mm_okD, Bool.and_eq_true, decide_eq_true_eq] at hok
    obtain ⟨hd, h1⟩ := hok
    subst h1
    simp only [mm_step, mm_lsh, mm_lushr1] at hstep
    split at hstep
    · next z2 z1 r =>
      simp only [Option.some.injEq, Sum.inl.injEq] at hstep
      subst hstep
      obtain ⟨w2, s2, hst, ⟨x2, hq2, hz2⟩, w1, s1, hst1, ⟨x1, hq1, hz1⟩, hRS⟩ := hRS
      subst hst
      subst hst1
      subst hq2
      subst hq1
      exact (fun a b d q => lv_lushr a b d rfl q) hx hb hd (k0 rfl _ _ hRL ⟨_, _, rfl, ⟨_, rfl, by rw [← hz1, ← hz2, Int32.ofInt_toInt, Int64.ofInt_toInt]⟩, hRS⟩)
    · cases hstep
  | idiv =>
    simp only [mm_okI, mm_okD, Bool.and_eq_true, decide_eq_true_eq] at hok
    obtain ⟨hd, h1⟩ := hok
    subst h1
    simp only [mm_step, mm_binz] at hstep
    split at hstep
    · next z2 z1 r =>
      split at hstep
      · cases hstep
      next hne =>
      simp only [Option.some.injEq, Sum.inl.injEq] at hstep
      subst hstep
      obtain ⟨w2, s2, hst, ⟨x2, hq2, hz2⟩, w1, s1, hst1, ⟨x1, hq1, hz1⟩, hRS⟩ := hRS
      subst hst
      subst hst1
      subst hq2
      subst hq1
      exact lv_idiv hx hb hd (fun q => hne (by rw [← hz2, q]; rfl)) (k0 rfl _ _ hRL ⟨_, _, rfl, ⟨_, rfl, by rw [mm_div32, hz1, hz2]⟩, hRS⟩)
    · cases hstep
  | irem =>
    simp only [mm_okI, mm_okD, Bool.and_eq_true, decide_eq_true_eq] at hok
    obtain ⟨hd, h1⟩ := hok
    subst h1
    simp only [mm_step, mm_binz] at hstep
    split at hstep
    · next z2 z1 r =>
      split at hstep
      · cases hstep
      next hne =>
      simp only [Option.some.injEq, Sum.inl.injEq] at hstep
      subst hstep
      obtain ⟨w2, s2, hst, ⟨x2, hq2, hz2⟩, w1, s1, hst1, ⟨x1, hq1, hz1⟩, hRS⟩ := hRS
      subst hst
      subst hst1
      subst hq2
      subst hq1
      exact lv_irem hx hb hd (fun q => hne (by rw [← hz2, q]; rfl)) (k0 rfl _ _ hRL ⟨_, _, rfl, ⟨_, rfl, by rw [mm_rem32, hz1, hz2]⟩, hRS⟩)
    · cases hstep
  | ldiv =>
    simp only [mm_okI, mm_okD, Bool.and_eq_true, decide_eq_true_eq] at hok
    obtain ⟨hd, h1⟩ := hok
    subst h1
    simp only [mm_step, mm_lbinz] at hstep
    split at hstep
    · next z2 z1 r =>
      split at hstep
      · cases hstep
      next hne =>
      simp only [Option.some.injEq, Sum.inl.injEq] at hstep
      subst hstep
      obtain ⟨w2, s2, hst, ⟨x2, hq2, hz2⟩, w1, s1, hst1, ⟨x1, hq1, hz1⟩, hRS⟩ := hRS
      subst hst
      subst hst1
      subst hq2
      subst hq1
      exact lv_ldiv hx hb hd (fun q => hne (by rw [← hz2, q]; rfl)) (k0 rfl _ _ hRL ⟨_, _, rfl, ⟨_, rfl, by rw [mm_div64, hz1, hz2]⟩, hRS⟩)
    · cases hstep
  | lrem =>
    simp only [mm_okI, mm_okD, Bool.and_eq_true, decide_eq_true_eq] at hok
    obtain ⟨hd, h1⟩ := hok
    subst h1
    simp only [mm_step, mm_lbinz] at hstep
    split at hstep
    · next z2 z1 r =>
      split at hstep
      · cases hstep
      next hne =>
      simp only [Option.some.injEq, Sum.inl.injEq] at hstep
      subst hstep
      obtain ⟨w2, s2, hst, ⟨x2, hq2, hz2⟩, w1, s1, hst1, ⟨x1, hq1, hz1⟩, hRS⟩ := hRS
      subst hst
      subst hst1
      subst hq2
      subst hq1
      exact lv_lrem hx hb hd (fun q => hne (by rw [← hz2, q]; rfl)) (k0 rfl _ _ hRL ⟨_, _, rfl, ⟨_, rfl, by rw [mm_rem64, hz1, hz2]⟩, hRS⟩)
    · cases hstep
  | lcmp =>
    simp only [mm_okI, mm_okD, Bool.and_eq_true, decide_eq_true_eq] at hok
    obtain ⟨hd, h1⟩ := hok
    subst h1
    simp only [mm_step, mm_lcmp] at hstep
    split at hstep
    · next z2 z1 r =>
      simp only [Option.some.injEq, Sum.inl.injEq] at hstep
      subst hstep
      obtain ⟨w2, s2, hst, ⟨x2, hq2, hz2⟩, w1, s1, hst1, ⟨x1, hq1, hz1⟩, hRS⟩ := hRS
      subst hst
      subst hst1
      subst hq2
      subst hq1
      exact W.lcmp hx hb hd (k0 rfl _ _ hRL ⟨_, _, rfl, ⟨_, rfl, by rw [mm_lcmp_eq, hz1, hz2]⟩, hRS⟩)
    · cases hstep
  | i2l =>
    simp only [mm_okI, mm_okD, Bool.and_eq_true, decide_eq_true_eq] at hok
    obtain ⟨hd, h1⟩ := hok
    subst h1
    simp only [mm_step, mm_i2l] at hstep
    split at hstep
    · next z1 r =>
      simp only [Option.some.injEq, Sum.inl.injEq] at hstep
      subst hstep
      obtain ⟨w1, s1, hst1, ⟨x1, hq1, hz1⟩, hRS⟩ := hRS
      subst hst1
      subst hq1
      exact lv_i2l hx hb hd rfl (k0 rfl _ _ hRL ⟨_, _, rfl, ⟨_, rfl, by rw [Int32.toInt_toInt64, hz1]⟩, hRS⟩)
    · cases hstep
  | l2i =>
    simp only [mm_okI, mm_okD, Bool.and_eq_true, decide_eq_true_eq] at hok
    obtain ⟨hd, h1⟩ := hok
    subst h1
    simp only [mm_step, mm_l2i] at hstep
    split at hstep
    · next z1 r =>
      simp only [Option.some.injEq, Sum.inl.injEq] at hstep
      subst hstep
      obtain ⟨w1, s1, hst1, ⟨x1, hq1, hz1⟩, hRS⟩ := hRS
      subst hst1
      subst hq1
      exact lv_l2i hx hb hd rfl (k0 rfl _ _ hRL ⟨_, _, rfl, ⟨_, rfl, by rw [Int64.toInt_toInt32, mm_b32, hz1]⟩, hRS⟩)
    · cases hstep
  | i2b =>
    simp only [mm_okI, mm_okD, Bool.and_eq_true, decide_eq_true_eq] at hok
    obtain ⟨hd, h1⟩ := hok
    subst h1
    simp only [mm_step, mm_un] at hstep
    split at hstep
    · next z1 r =>
      simp only [Option.some.injEq, Sum.inl.injEq] at hstep
      subst hstep
      obtain ⟨w1, s1, hst1, ⟨x1, hq1, hz1⟩, hRS⟩ := hRS
      subst hst1
      subst hq1
      exact lv_i2b hx hb hd rfl (k0 rfl _ _ hRL ⟨_, _, rfl, ⟨_, rfl, by rw [Int8.toInt_toInt32, Int32.toInt_toInt8, mm_b8, hz1]⟩, hRS⟩)
    · cases hstep
  | ifCond cc off =>
    simp only [mm_okI, mm_okD, Bool.and_eq_true, decide_eq_true_eq] at hok
    obtain ⟨hd, h1, ht⟩ := hok
    subst h1
    simp only [mm_step, mm_if] at hstep
    split at hstep
    · next z1 r =>
      obtain ⟨w1, s1, hst1, ⟨x1, hq1, hz1⟩, hRS⟩ := hRS
      subst hst1
      subst hq1
      cases cc with
      | eq =>
        refine lv_if_eq hx hb hd ht (fun hc => ?_) (fun hc => ?_)
        · have hh : mm_cmp .eq z1 0 = true := by simp only [mm_cmp, decide_eq_true_eq]; simp only [Int32.lt_iff_toInt_lt, Int32.le_iff_toInt_le, ← Int32.toInt_inj, hz1, Int32.toInt_zero] at hc; first | exact hc | omega
          rw [if_pos hh] at hstep
          simp only [Option.some.injEq, Sum.inl.injEq] at hstep
          subst hstep
          exact k0 rfl _ _ hRL hRS
        · have hh : ¬ mm_cmp .eq z1 0 = true := by simp only [mm_cmp, decide_eq_true_eq]; simp only [Int32.lt_iff_toInt_lt, Int32.le_iff_toInt_le, ← Int32.toInt_inj, hz1, Int32.toInt_zero] at hc; first | exact hc | omega
          rw [if_neg hh] at hstep
          simp only [Option.some.injEq, Sum.inl.injEq] at hstep
          subst hstep
          exact k0 rfl _ _ hRL hRS
      | ne =>
        refine lv_if_ne hx hb hd ht (fun hc => ?_) (fun hc => ?_)
        · have hh : mm_cmp .ne z1 0 = true := by simp only [mm_cmp, decide_eq_true_eq]; simp only [Int32.lt_iff_toInt_lt, Int32.le_iff_toInt_le, ← Int32.toInt_inj, hz1, Int32.toInt_zero] at hc; first | exact hc | omega
          rw [if_pos hh] at hstep
          simp only [Option.some.injEq, Sum.inl.injEq] at hstep
          subst hstep
          exact k0 rfl _ _ hRL hRS
        · have hh : ¬ mm_cmp .ne z1 0 = true := by simp only [mm_cmp, decide_eq_true_eq]; simp only [Int32.lt_iff_toInt_lt, Int32.le_iff_toInt_le, ← Int32.toInt_inj, hz1, Int32.toInt_zero] at hc; first | exact hc | omega
          rw [if_neg hh] at hstep
          simp only [Option.some.injEq, Sum.inl.injEq] at hstep
          subst hstep
          exact k0 rfl _ _ hRL hRS
      | lt =>
        refine lv_if_lt hx hb hd ht (fun hc => ?_) (fun hc => ?_)
        · have hh : mm_cmp .lt z1 0 = true := by simp only [mm_cmp, decide_eq_true_eq]; simp only [Int32.lt_iff_toInt_lt, Int32.le_iff_toInt_le, ← Int32.toInt_inj, hz1, Int32.toInt_zero] at hc; first | exact hc | omega
          rw [if_pos hh] at hstep
          simp only [Option.some.injEq, Sum.inl.injEq] at hstep
          subst hstep
          exact k0 rfl _ _ hRL hRS
        · have hh : ¬ mm_cmp .lt z1 0 = true := by simp only [mm_cmp, decide_eq_true_eq]; simp only [Int32.lt_iff_toInt_lt, Int32.le_iff_toInt_le, ← Int32.toInt_inj, hz1, Int32.toInt_zero] at hc; first | exact hc | omega
          rw [if_neg hh] at hstep
          simp only [Option.some.injEq, Sum.inl.injEq] at hstep
          subst hstep
          exact k0 rfl _ _ hRL hRS
      | ge =>
        refine lv_if_ge hx hb hd ht (fun hc => ?_) (fun hc => ?_)
        · have hh : mm_cmp .ge z1 0 = true := by simp only [mm_cmp, decide_eq_true_eq]; simp only [Int32.lt_iff_toInt_lt, Int32.le_iff_toInt_le, ← Int32.toInt_inj, hz1, Int32.toInt_zero] at hc; first | exact hc | omega
          rw [if_pos hh] at hstep
          simp only [Option.some.injEq, Sum.inl.injEq] at hstep
          subst hstep
          exact k0 rfl _ _ hRL hRS
        · have hh : ¬ mm_cmp .ge z1 0 = true := by simp only [mm_cmp, decide_eq_true_eq]; simp only [Int32.lt_iff_toInt_lt, Int32.le_iff_toInt_le, ← Int32.toInt_inj, hz1, Int32.toInt_zero] at hc; first | exact hc | omega
          rw [if_neg hh] at hstep
          simp only [Option.some.injEq, Sum.inl.injEq] at hstep
          subst hstep
          exact k0 rfl _ _ hRL hRS
      | gt =>
        refine lv_if_gt hx hb hd ht (fun hc => ?_) (fun hc => ?_)
        · have hh : mm_cmp .gt z1 0 = true := by simp only [mm_cmp, decide_eq_true_eq]; simp only [Int32.lt_iff_toInt_lt, Int32.le_iff_toInt_le, ← Int32.toInt_inj, hz1, Int32.toInt_zero] at hc; first | exact hc | omega
          rw [if_pos hh] at hstep
          simp only [Option.some.injEq, Sum.inl.injEq] at hstep
          subst hstep
          exact k0 rfl _ _ hRL hRS
        · have hh : ¬ mm_cmp .gt z1 0 = true := by simp only [mm_cmp, decide_eq_true_eq]; simp only [Int32.lt_iff_toInt_lt, Int32.le_iff_toInt_le, ← Int32.toInt_inj, hz1, Int32.toInt_zero] at hc; first | exact hc | omega
          rw [if_neg hh] at hstep
          simp only [Option.some.injEq, Sum.inl.injEq] at hstep
          subst hstep
          exact k0 rfl _ _ hRL hRS
      | le =>
        refine lv_if_le hx hb hd ht (fun hc => ?_) (fun hc => ?_)
        · have hh : mm_cmp .le z1 0 = true := by simp only [mm_cmp, decide_eq_true_eq]; simp only [Int32.lt_iff_toInt_lt, Int32.le_iff_toInt_le, ← Int32.toInt_inj, hz1, Int32.toInt_zero] at hc; first | exact hc | omega
          rw [if_pos hh] at hstep
          simp only [Option.some.injEq, Sum.inl.injEq] at hstep
          subst hstep
          exact k0 rfl _ _ hRL hRS
        · have hh : ¬ mm_cmp .le z1 0 = true := by simp only [mm_cmp, decide_eq_true_eq]; simp only [Int32.lt_iff_toInt_lt, Int32.le_iff_toInt_le, ← Int32.toInt_inj, hz1, Int32.toInt_zero] at hc; first | exact hc | omega
          rw [if_neg hh] at hstep
          simp only [Option.some.injEq, Sum.inl.injEq] at hstep
          subst hstep
          exact k0 rfl _ _ hRL hRS
    · cases hstep
  | if_icmp cc off =>
    simp only [mm_okI, mm_okD, Bool.and_eq_true, decide_eq_true_eq] at hok
    obtain ⟨hd, h1, ht⟩ := hok
    subst h1
    simp only [mm_step, mm_icmp] at hstep
    split at hstep
    · next z2 z1 r =>
      obtain ⟨w2, s2, hst, ⟨x2, hq2, hz2⟩, w1, s1, hst1, ⟨x1, hq1, hz1⟩, hRS⟩ := hRS
      subst hst
      subst hst1
      subst hq2
      subst hq1
      cases cc with
      | eq =>
        refine lv_icmp_eq hx hb hd ht (fun hc => ?_) (fun hc => ?_)
        · have hh : mm_cmp .eq z1 z2 = true := by simp only [mm_cmp, decide_eq_true_eq]; simp only [Int32.lt_iff_toInt_lt, Int32.le_iff_toInt_le, ← Int32.toInt_inj, hz1, hz2, Int32.toInt_zero] at hc; first | exact hc | omega
          rw [if_pos hh] at hstep
          simp only [Option.some.injEq, Sum.inl.injEq] at hstep
          subst hstep
          exact k0 rfl _ _ hRL hRS
        · have hh : ¬ mm_cmp .eq z1 z2 = true := by simp only [mm_cmp, decide_eq_true_eq]; simp only [Int32.lt_iff_toInt_lt, Int32.le_iff_toInt_le, ← Int32.toInt_inj, hz1, hz2, Int32.toInt_zero] at hc; first | exact hc | omega
          rw [if_neg hh] at hstep
          simp only [Option.some.injEq, Sum.inl.injEq] at hstep
          subst hstep
          exact k0 rfl _ _ hRL hRS
      | ne =>
        refine lv_icmp_ne hx hb hd ht (fun hc => ?_) (fun hc => ?_)
        · have hh : mm_cmp .ne z1 z2 = true := by simp only [mm_cmp, decide_eq_true_eq]; simp only [Int32.lt_iff_toInt_lt, Int32.le_iff_toInt_le, ← Int32.toInt_inj, hz1, hz2, Int32.toInt_zero] at hc; first | exact hc | omega
          rw [if_pos hh] at hstep
          simp only [Option.some.injEq, Sum.inl.injEq] at hstep
          subst hstep
          exact k0 rfl _ _ hRL hRS
        · have hh : ¬ mm_cmp .ne z1 z2 = true := by simp only [mm_cmp, decide_eq_true_eq]; simp only [Int32.lt_iff_toInt_lt, Int32.le_iff_toInt_le, ← Int32.toInt_inj, hz1, hz2, Int32.toInt_zero] at hc; first | exact hc | omega
          rw [if_neg hh] at hstep
          simp only [Option.some.injEq, Sum.inl.injEq] at hstep
          subst hstep
          exact k0 rfl _ _ hRL hRS
      | lt =>
        refine lv_icmp_lt hx hb hd ht (fun hc => ?_) (fun hc => ?_)
        · have hh : mm_cmp .lt z1 z2 = true := by simp only [mm_cmp, decide_eq_true_eq]; simp only [Int32.lt_iff_toInt_lt, Int32.le_iff_toInt_le, ← Int32.toInt_inj, hz1, hz2, Int32.toInt_zero] at hc; first | exact hc | omega
          rw [if_pos hh] at hstep
          simp only [Option.some.injEq, Sum.inl.injEq] at hstep
          subst hstep
          exact k0 rfl _ _ hRL hRS
        · have hh : ¬ mm_cmp .lt z1 z2 = true := by simp only [mm_cmp, decide_eq_true_eq]; simp only [Int32.lt_iff_toInt_lt, Int32.le_iff_toInt_le, ← Int32.toInt_inj, hz1, hz2, Int32.toInt_zero] at hc; first | exact hc | omega
          rw [if_neg hh] at hstep
          simp only [Option.some.injEq, Sum.inl.injEq] at hstep
          subst hstep
          exact k0 rfl _ _ hRL hRS
      | ge =>
        refine lv_icmp_ge hx hb hd ht (fun hc => ?_) (fun hc => ?_)
        · have hh : mm_cmp .ge z1 z2 = true := by simp only [mm_cmp, decide_eq_true_eq]; simp only [Int32.lt_iff_toInt_lt, Int32.le_iff_toInt_le, ← Int32.toInt_inj, hz1, hz2, Int32.toInt_zero] at hc; first | exact hc | omega
          rw [if_pos hh] at hstep
          simp only [Option.some.injEq, Sum.inl.injEq] at hstep
          subst hstep
          exact k0 rfl _ _ hRL hRS
        · have hh : ¬ mm_cmp .ge z1 z2 = true := by simp only [mm_cmp, decide_eq_true_eq]; simp only [Int32.lt_iff_toInt_lt, Int32.le_iff_toInt_le, ← Int32.toInt_inj, hz1, hz2, Int32.toInt_zero] at hc; first | exact hc | omega
          rw [if_neg hh] at hstep
          simp only [Option.some.injEq, Sum.inl.injEq] at hstep
          subst hstep
          exact k0 rfl _ _ hRL hRS
      | gt =>
        refine lv_icmp_gt hx hb hd ht (fun hc => ?_) (fun hc => ?_)
        · have hh : mm_cmp .gt z1 z2 = true := by simp only [mm_cmp, decide_eq_true_eq]; simp only [Int32.lt_iff_toInt_lt, Int32.le_iff_toInt_le, ← Int32.toInt_inj, hz1, hz2, Int32.toInt_zero] at hc; first | exact hc | omega
          rw [if_pos hh] at hstep
          simp only [Option.some.injEq, Sum.inl.injEq] at hstep
          subst hstep
          exact k0 rfl _ _ hRL hRS
        · have hh : ¬ mm_cmp .gt z1 z2 = true := by simp only [mm_cmp, decide_eq_true_eq]; simp only [Int32.lt_iff_toInt_lt, Int32.le_iff_toInt_le, ← Int32.toInt_inj, hz1, hz2, Int32.toInt_zero] at hc; first | exact hc | omega
          rw [if_neg hh] at hstep
          simp only [Option.some.injEq, Sum.inl.injEq] at hstep
          subst hstep
          exact k0 rfl _ _ hRL hRS
      | le =>
        refine lv_icmp_le hx hb hd ht (fun hc => ?_) (fun hc => ?_)
        · have hh : mm_cmp .le z1 z2 = true := by simp only [mm_cmp, decide_eq_true_eq]; simp only [Int32.lt_iff_toInt_lt, Int32.le_iff_toInt_le, ← Int32.toInt_inj, hz1, hz2, Int32.toInt_zero] at hc; first | exact hc | omega
          rw [if_pos hh] at hstep
          simp only [Option.some.injEq, Sum.inl.injEq] at hstep
          subst hstep
          exact k0 rfl _ _ hRL hRS
        · have hh : ¬ mm_cmp .le z1 z2 = true := by simp only [mm_cmp, decide_eq_true_eq]; simp only [Int32.lt_iff_toInt_lt, Int32.le_iff_toInt_le, ← Int32.toInt_inj, hz1, hz2, Int32.toInt_zero] at hc; first | exact hc | omega
          rw [if_neg hh] at hstep
          simp only [Option.some.injEq, Sum.inl.injEq] at hstep
          subst hstep
          exact k0 rfl _ _ hRL hRS
    · cases hstep
  | goto off =>
    simp only [mm_okI, mm_okD, Bool.and_eq_true, decide_eq_true_eq] at hok
    obtain ⟨hd, h1, ht⟩ := hok
    subst h1
    simp only [mm_step, Option.some.injEq, Sum.inl.injEq] at hstep
    subst hstep
    exact lv_goto hx hb hd ht (k0 rfl _ _ hRL hRS)
  | tableswitch d lo hi offs =>
    simp only [mm_okI, mm_okD, Bool.and_eq_true, decide_eq_true_eq, List.all_eq_true] at hok
    obtain ⟨hd, h1, h2⟩ := hok
    simp only [mm_step, mm_switch] at hstep
    split at hstep
    · next z1 r =>
      obtain ⟨w1, s1, hst1, ⟨x1, hq1, hz1⟩, hRS⟩ := hRS
      subst hst1
      subst hq1
      split at hstep
      · next hout =>
        simp only [Option.some.injEq, Sum.inl.injEq] at hstep
        subst hstep
        exact lv_tableOut hx hb hd (by rw [hz1]; exact hout) (by rw [Int.toNat_of_nonneg h1]) (k0 rfl _ _ hRL hRS)
      · next hnot =>
        split at hstep
        · next o ho =>
          simp only [Option.some.injEq, Sum.inl.injEq] at hstep
          subst hstep
          refine lv_tableIn hx hb hd (by rw [hz1]; omega) (by rw [hz1]; omega) (by rw [hz1]; exact ho) ?_ (k0 rfl _ _ hRL hRS)
          rw [Int.toNat_of_nonneg (h2 o (by
            rw [← Array.getElem?_toList] at ho
            exact List.mem_of_getElem? ho))]
        · cases hstep
    · cases hstep
  | dup =>
    simp only [mm_okI, mm_okD, Bool.and_eq_true, decide_eq_true_eq] at hok
    obtain ⟨hd, h1⟩ := hok
    subst h1
    simp only [mm_step, mm_dup] at hstep
    split at hstep
    · next v r =>
      split at hstep
      · cases hstep
      · next hw =>
        simp only [Option.some.injEq, Sum.inl.injEq] at hstep
        subst hstep
        obtain ⟨w, s1, hst, hv, hRS⟩ := hRS
        subst hst
        exact lv_dup hx hb hd (hv.narrow hw) (k0 rfl _ _ hRL ⟨_, _, rfl, hv, _, _, rfl, hv, hRS⟩)
    · cases hstep
  | dup2 =>
    simp only [mm_okI, mm_okD, Bool.and_eq_true, decide_eq_true_eq] at hok
    obtain ⟨hd, h1⟩ := hok
    subst h1
    simp only [mm_step, mm_dup2] at hstep
    split at hstep
    · next v v2 r =>
      split at hstep
      · cases hstep
      · next hw =>
        simp only [Option.some.injEq, Sum.inl.injEq] at hstep
        subst hstep
        obtain ⟨w, s1, hst, hv, w2, s2, hst2, hv2, hRS⟩ := hRS
        subst hst
        subst hst2
        exact lv_dup2_11 hx hb hd (hv.narrow (fun q => hw (Or.inl q))) (hv2.narrow (fun q => hw (Or.inr q))) (k0 rfl _ _ hRL ⟨_, _, rfl, hv, _, _, rfl, hv2, _, _, rfl, hv, _, _, rfl, hv2, hRS⟩)
    · cases hstep
  | pop =>
    simp only [mm_okI, mm_okD, Bool.and_eq_true, decide_eq_true_eq] at hok
    obtain ⟨hd, h1⟩ := hok
    subst h1
    simp only [mm_step, mm_pop] at hstep
    split at hstep
    · next v r =>
      split at hstep
      · cases hstep
      · next hw =>
        simp only [Option.some.injEq, Sum.inl.injEq] at hstep
        subst hstep
        obtain ⟨w, s1, hst, hv, hRS⟩ := hRS
        subst hst
        exact lv_pop hx hb hd (hv.narrow hw) (k0 rfl _ _ hRL hRS)
    · cases hstep
  | getfield i =>
    simp only [mm_okI, mm_okD, Bool.and_eq_true, decide_eq_true_eq] at hok
    obtain ⟨hd, h1, hcl⟩ := hok
    subst h1
    split at hcl
    · next C T N hv =>
      simp only [Bool.and_eq_true, decide_eq_true_eq] at hcl
      obtain ⟨hkN, hlink⟩ := hcl
      obtain ⟨hin1, hty1, hnm1⟩ := mm_cls_ok _ _ _ _ hv
      simp only [mm_step, mm_getf] at hstep
      split at hstep
      · next r rest =>
        split at hstep
        · next fs ho =>
          split at hstep
          · next v hv2 =>
            simp only [Option.some.injEq, Sum.inl.injEq] at hstep
            subst hstep
            obtain ⟨w, s1, hst, hw, hRS⟩ := hRS
            subst hst
            obtain ⟨q0, q, gs, hq1, hq2, ha, he, hfs⟩ := hRH.obj ho hw
            subst hq2
            obtain ⟨v', hv3, hv4⟩ := hfs.at _ _ hv2
            exact va_get (D := D) hx hb hts hin1 hown hK hP q0 he hv _ hkN (hts _ (mm_pl_in hlink)) (fun _ h9 => h9) hv3 hd (k0 rfl _ _ hRL ⟨_, _, rfl, hv4, hRS⟩)
          · cases hstep
        · cases hstep
      · cases hstep
    · cases hcl
  | putfield i =>
    simp only [mm_okI, mm_okD, Bool.and_eq_true, decide_eq_true_eq] at hok
    obtain ⟨hd, h1, hcl⟩ := hok
    subst h1
    split at hcl
    · next C T N hv =>
      simp only [Bool.and_eq_true, decide_eq_true_eq] at hcl
      obtain ⟨⟨⟨hkN, hlink⟩, hfin⟩, htc⟩ := hcl
      obtain ⟨hin1, hty1, hnm1⟩ := mm_cls_ok _ _ _ _ hv
      simp only [mm_step, mm_putf] at hstep
      split at hstep
      · next z a rest =>
        split at hstep
        · next fs ho =>
          split at hstep
          · next hlen0 =>
            obtain ⟨hq1c, hlen⟩ := hlen0
            simp only [Option.some.injEq, Sum.inl.injEq] at hstep
            subst hstep
            have hty : mm_ty xx kk = .int := by
              split at htc
              · assumption
              · simp only [decide_eq_true_eq] at htc; omega
              · simp only [decide_eq_true_eq] at htc; omega
              · cases htc
            obtain ⟨w0, s0, hst0, ⟨x0, hx0, hz0⟩, w, s1, hst, hw, hRS⟩ := hRS
            subst hst0
            subst hst
            subst hx0
            obtain ⟨q0, q, gs, hq1, hq2, ha, he, hfs⟩ := hRH.obj ho hw
            subst hq2
            cases hq1
            have hnx := mm_nx_up (h := h) (a := q0 + 2) (c := .inr (xx, fs.set kk (.inl z))) (by omega)
            have kq : ∀ (H1 : Heap) (locs1 : List Loc), va_P D vwCl (ws.set q0 (q, .inr (xx, gs.set kk (.int x0)))) H1 → va_D A (ws.set q0 (q, .inr (xx, gs.set kk (.int x0)))) → va_S A s.heap H1 locs1 → W p l e R s m args below meth c H1 locs1 cells slots Q (F0 m (pc + 3) ls s1) := by
              intro H1 locs1 g1 g2 g3
              have := k H1 locs1 ls s1 [] _ (by rw [List.append_nil]; exact ⟨hRL, hRS, hRH.set ha ⟨_, rfl, hfs.set (show mm_R b as (.inl z) (.int x0) from ⟨x0, rfl, hz0⟩) kk⟩, g1, g2, g3⟩)
              dsimp only at this
              rw [hnx.1, hnx.2] at this
              simpa only [Nat.sub_self, Nat.add_zero] using this
            rcases hfin with hff | ⟨hff, hk2, hde⟩
            · exact va_put (D := D) hx hb hts hin1 (mm_ty xx) hty1 hnm1 hown hK hP hD hS q0 he hv _ hkN (hts _ (mm_pl_in hlink)) (fun _ h9 => h9) hff (hty1 _ hkN) (by rw [hty]; rfl) (by rw [hty]; rfl) (by rw [hfs.len]; exact hlen) hd kq
            · exact va_putF (D := D) hx hb hts hin1 (mm_ty xx) hty1 hnm1 hown hK hP hD hS q0 he hv _ hkN (hts _ (mm_pl_in hlink)) (fun _ h9 => h9) hff (hin hk2) hde (hty1 _ hkN) (by rw [hty]; rfl) (by rw [hty]; rfl) (by rw [hfs.len]; exact hlen) hd kq
          · cases hstep
        · cases hstep
      · next z a rest =>
        split at hstep
        · next fs ho =>
          split at hstep
          · next hlen0 =>
            obtain ⟨hq1c, hlen⟩ := hlen0
            simp only [Option.some.injEq, Sum.inl.injEq] at hstep
            subst hstep
            have hty : (∃ z, mm_ty xx kk = .object z) ∨ (∃ z, mm_ty xx kk = .array z) := by
              split at htc
              · simp only [decide_eq_true_eq] at htc; omega
              · next z hz => exact Or.inl ⟨z, hz⟩
              · next z hz => exact Or.inr ⟨z, hz⟩
              · cases htc
            obtain ⟨w0, s0, hst0, hw0, w, s1, hst, hw, hRS⟩ := hRS
            subst hst0
            subst hst
            obtain ⟨x0, hx0⟩ : ∃ q, w0 = .ref q := by
              match z, hw0 with
              | 1, hw2 => exact ⟨_, hw2⟩
              | j + 2, ⟨q, _, hw2⟩ => exact ⟨q, hw2⟩
            subst hx0
            obtain ⟨q0, q, gs, hq1, hq2, ha, he, hfs⟩ := hRH.obj ho hw
            subst hq2
            cases hq1
            have hnx := mm_nx_up (h := h) (a := q0 + 2) (c := .inr (xx, fs.set kk (.inr (.inr (some z))))) (by omega)
            have kq : ∀ (H1 : Heap) (locs1 : List Loc), va_P D vwCl (ws.set q0 (q, .inr (xx, gs.set kk (.ref x0)))) H1 → va_D A (ws.set q0 (q, .inr (xx, gs.set kk (.ref x0)))) → va_S A s.heap H1 locs1 → W p l e R s m args below meth c H1 locs1 cells slots Q (F0 m (pc + 3) ls s1) := by
              intro H1 locs1 g1 g2 g3
              have := k H1 locs1 ls s1 [] _ (by rw [List.append_nil]; exact ⟨hRL, hRS, hRH.set ha ⟨_, rfl, hfs.set hw0 kk⟩, g1, g2, g3⟩)
              dsimp only at this
              rw [hnx.1, hnx.2] at this
              simpa only [Nat.sub_self, Nat.add_zero] using this
            rcases hfin with hff | ⟨hff, hk2, hde⟩
            · exact va_put (D := D) hx hb hts hin1 (mm_ty xx) hty1 hnm1 hown hK hP hD hS q0 he hv _ hkN (hts _ (mm_pl_in hlink)) (fun _ h9 => h9) hff (hty1 _ hkN) (by rcases hty with ⟨_, hty⟩ | ⟨_, hty⟩ <;> (rw [hty]; rfl)) (by rcases hty with ⟨_, hty⟩ | ⟨_, hty⟩ <;> (rw [hty]; rfl)) (by rw [hfs.len]; exact hlen) hd kq
            · exact va_putF (D := D) hx hb hts hin1 (mm_ty xx) hty1 hnm1 hown hK hP hD hS q0 he hv _ hkN (hts _ (mm_pl_in hlink)) (fun _ h9 => h9) hff (hin hk2) hde (hty1 _ hkN) (by rcases hty with ⟨_, hty⟩ | ⟨_, hty⟩ <;> (rw [hty]; rfl)) (by rcases hty with ⟨_, hty⟩ | ⟨_, hty⟩ <;> (rw [hty]; rfl)) (by rw [hfs.len]; exact hlen) hd kq
          · cases hstep
        · cases hstep
      · cases hstep
    · cases hcl
  | iaload =>
    simp only [mm_okI, mm_okD, Bool.and_eq_true, decide_eq_true_eq] at hok
    obtain ⟨hd, h1⟩ := hok
    subst h1
    simp only [mm_step, mm_iald] at hstep
    split at hstep
    · next j r rest =>
      split at hstep
      · next t n f0 ho =>
        split at hstep
        · next hj =>
          obtain ⟨ht, hj0, hjn⟩ := hj
          simp only [Option.some.injEq, Sum.inl.injEq] at hstep
          subst hstep
          obtain ⟨w0, s0, hst0, ⟨x0, hx0, hz0⟩, w, s1, hst, hw, hRS⟩ := hRS
          subst hst0
          subst hst
          subst hx0
          have hidx : x0.toNatClampNeg = j.toNat := by rw [← hz0]; rfl
          rcases hRH.arr ho hw with ⟨hr1, hv1, ht1, hn1, hf1⟩ | ⟨q0, q, g, hr1, hv1, ha1, he1, ht1, hf1⟩
          · subst hv1
            subst hn1
            exact va_sld hx hb hX hbl hbA hS (mm_in hz0 hj0 hjn) hd (k0 rfl _ _ hRL ⟨_, _, rfl, ⟨_, rfl, by rw [hf1, hidx]⟩, hRS⟩)
          · subst hv1
            have ht0 : t = 0 := by omega
            subst ht0
            exact va_iald (D := D) hx hb hK hP q0 0 he1 rfl (mm_in hz0 hj0 hjn) hd (k0 rfl _ _ hRL ⟨_, _, rfl, ⟨_, rfl, by rw [hf1, hidx]⟩, hRS⟩)
        · cases hstep
      · cases hstep
    · cases hstep
  | baload =>
    simp only [mm_okI, mm_okD, Bool.and_eq_true, decide_eq_true_eq] at hok
    obtain ⟨hd, h1⟩ := hok
    subst h1
    simp only [mm_step, mm_bald] at hstep
    split at hstep
    · next j r rest =>
      split at hstep
      · next t n f0 ho =>
        split at hstep
        · next hj =>
          obtain ⟨ht, hj0, hjn⟩ := hj
          simp only [Option.some.injEq, Sum.inl.injEq] at hstep
          subst hstep
          obtain ⟨w0, s0, hst0, ⟨x0, hx0, hz0⟩, w, s1, hst, hw, hRS⟩ := hRS
          subst hst0
          subst hst
          subst hx0
          have hidx : x0.toNatClampNeg = j.toNat := by rw [← hz0]; rfl
          rcases hRH.arr ho hw with ⟨hr1, hv1, ht1, hn1, hf1⟩ | ⟨q0, q, g, hr1, hv1, ha1, he1, ht1, hf1⟩
          · omega
          · subst hv1
            rcases ht with ht | ht
            · subst ht
              exact va_zald (D := D) hx hb hK hP q0 1 he1 rfl (mm_in hz0 hj0 hjn) hd (k0 rfl _ _ hRL ⟨_, _, rfl, ⟨_, rfl, by rw [hf1, hidx]⟩, hRS⟩)
            · subst ht
              exact va_bald (D := D) hx hb hK hP q0 2 he1 rfl (mm_in hz0 hj0 hjn) hd (k0 rfl _ _ hRL ⟨_, _, rfl, ⟨_, rfl, by rw [hf1, hidx]⟩, hRS⟩)
        · cases hstep
      · cases hstep
    · cases hstep
  | iastore =>
    simp only [mm_okI, mm_okD, Bool.and_eq_true, decide_eq_true_eq] at hok
    obtain ⟨hd, h1⟩ := hok
    subst h1
    simp only [mm_step, mm_iast] at hstep
    split at hstep
    · next z j a rest =>
      obtain ⟨w9, s9, hst9, ⟨x9, hx9, hz9⟩, w0, s0, hst0, ⟨x0, hx0, hz0⟩, w, s1, hst, hw, hRS⟩ := hRS
      subst hst9
      subst hst0
      subst hst
      subst hx9
      subst hx0
      have hidx : x0.toNatClampNeg = j.toNat := by rw [← hz0]; rfl
      split at hstep
      · next t n f0 ho =>
        split at hstep
        · next hj =>
          obtain ⟨ht, hj0, hjn⟩ := hj
          simp only [Option.some.injEq, Sum.inl.injEq] at hstep
          subst hstep
          subst ht
          rcases hRH.arr ho hw with ⟨hr1, hv1, ht1, hn1, hf1⟩ | ⟨q0, q, g, hr1, hv1, ha1, he1, ht1, hf1⟩
          · omega
          · subst hv1
            cases hr1
            have hnx := mm_nx_up (h := h) (a := q0 + 2) (c := .inl (0, n, mm_st f0 j.toNat z)) (by omega)
            have kq : ∀ (H1 : Heap) (locs1 : List Loc), va_P D vwCl (ws.set q0 (q, .inl (cA 0, n, .inl (upd g x0.toNatClampNeg x9)))) H1 → va_D A (ws.set q0 (q, .inl (cA 0, n, .inl (upd g x0.toNatClampNeg x9)))) → va_S A s.heap H1 locs1 → W p l e R s m args below meth c H1 locs1 cells slots Q (F0 m (pc + 1) ls s1) := by
              intro H1 locs1 g1 g2 g3
              have := k H1 locs1 ls s1 [] _ (by rw [List.append_nil]; exact ⟨hRL, hRS, hRH.set ha1 (c := .inl (0, n, mm_st f0 j.toNat z)) ⟨by decide, _, rfl, by rw [hidx]; exact mm_upd hf1 _ hz9⟩, g1, g2, g3⟩)
              dsimp only at this
              rw [hnx.1, hnx.2] at this
              simpa only [Nat.sub_self, Nat.add_zero] using this
            exact va_iast (D := D) hx hb hK hP hD hS q0 0 he1 rfl (mm_in hz0 hj0 hjn) hd kq
        · cases hstep
      · cases hstep
    · cases hstep
  | bastore =>
    simp only [mm_okI, mm_okD, Bool.and_eq_true, decide_eq_true_eq] at hok
    obtain ⟨hd, h1⟩ := hok
    subst h1
    simp only [mm_step, mm_bast] at hstep
    split at hstep
    · next z j a rest =>
      obtain ⟨w9, s9, hst9, ⟨x9, hx9, hz9⟩, w0, s0, hst0, ⟨x0, hx0, hz0⟩, w, s1, hst, hw, hRS⟩ := hRS
      subst hst9
      subst hst0
      subst hst
      subst hx9
      subst hx0
      have hidx : x0.toNatClampNeg = j.toNat := by rw [← hz0]; rfl
      split at hstep
      · next t n f0 ho =>
        split at hstep
        · next hj =>
          obtain ⟨ht, hj0, hjn⟩ := hj
          simp only [Option.some.injEq, Sum.inl.injEq] at hstep
          subst hstep
          subst ht
          rcases hRH.arr ho hw with ⟨hr1, hv1, ht1, hn1, hf1⟩ | ⟨q0, q, g, hr1, hv1, ha1, he1, ht1, hf1⟩
          · omega
          · subst hv1
            cases hr1
            have hnx := mm_nx_up (h := h) (a := q0 + 2) (c := .inl (2, n, mm_st f0 j.toNat (mm_w8 z))) (by omega)
            have kq : ∀ (H1 : Heap) (locs1 : List Loc), va_P D vwCl (ws.set q0 (q, .inl (cA 2, n, .inl (upd g x0.toNatClampNeg (vp_nar .byte x9))))) H1 → va_D A (ws.set q0 (q, .inl (cA 2, n, .inl (upd g x0.toNatClampNeg (vp_nar .byte x9))))) → va_S A s.heap H1 locs1 → W p l e R s m args below meth c H1 locs1 cells slots Q (F0 m (pc + 1) ls s1) := by
              intro H1 locs1 g1 g2 g3
              have := k H1 locs1 ls s1 [] _ (by rw [List.append_nil]; exact ⟨hRL, hRS, hRH.set ha1 (c := .inl (2, n, mm_st f0 j.toNat (mm_w8 z))) ⟨by decide, _, rfl, by rw [hidx]; exact mm_upd hf1 _ (show (x9.toInt8.toInt32).toInt = mm_w8 z by rw [Int8.toInt_toInt32, Int32.toInt_toInt8, mm_b8, hz9])⟩, g1, g2, g3⟩)
              dsimp only at this
              rw [hnx.1, hnx.2] at this
              simpa only [Nat.sub_self, Nat.add_zero] using this
            exact va_bast (D := D) hx hb hK hP hD hS q0 2 he1 rfl (mm_in hz0 hj0 hjn) hd kq
        · split at hstep
          · next hj =>
            obtain ⟨ht, hj0, hjn, hz01⟩ := hj
            simp only [Option.some.injEq, Sum.inl.injEq] at hstep
            subst hstep
            subst ht
            rcases hRH.arr ho hw with ⟨hr1, hv1, ht1, hn1, hf1⟩ | ⟨q0, q, g, hr1, hv1, ha1, he1, ht1, hf1⟩
            · omega
            · subst hv1
              cases hr1
              have hbit : (vp_nar .boolean x9).toInt = z := by
                show (x9 &&& 1).toInt = z
                rcases hz01 with h0 | h0
                · have : x9 = 0 := Int32.toInt_inj.mp (by rw [hz9, h0]; rfl)
                  rw [this, h0]; rfl
                · have : x9 = 1 := Int32.toInt_inj.mp (by rw [hz9, h0]; rfl)
                  rw [this, h0]; rfl
              have hnx := mm_nx_up (h := h) (a := q0 + 2) (c := .inl (1, n, mm_st f0 j.toNat z)) (by omega)
              have kq : ∀ (H1 : Heap) (locs1 : List Loc), va_P D vwCl (ws.set q0 (q, .inl (cA 1, n, .inl (upd g x0.toNatClampNeg (vp_nar .boolean x9))))) H1 → va_D A (ws.set q0 (q, .inl (cA 1, n, .inl (upd g x0.toNatClampNeg (vp_nar .boolean x9))))) → va_S A s.heap H1 locs1 → W p l e R s m args below meth c H1 locs1 cells slots Q (F0 m (pc + 1) ls s1) := by
                intro H1 locs1 g1 g2 g3
                have := k H1 locs1 ls s1 [] _ (by rw [List.append_nil]; exact ⟨hRL, hRS, hRH.set ha1 (c := .inl (1, n, mm_st f0 j.toNat z)) ⟨by decide, _, rfl, by rw [hidx]; exact mm_upd hf1 _ hbit⟩, g1, g2, g3⟩)
                dsimp only at this
                rw [hnx.1, hnx.2] at this
                simpa only [Nat.sub_self, Nat.add_zero] using this
              exact va_zast (D := D) hx hb hK hP hD hS q0 1 he1 rfl (mm_in hz0 hj0 hjn) hd kq
          · cases hstep
      · cases hstep
    · cases hstep
  | arraylength =>
    simp only [mm_okI, mm_okD, Bool.and_eq_true, decide_eq_true_eq] at hok
    obtain ⟨hd, h1⟩ := hok
    subst h1
    simp only [mm_step, mm_alen] at hstep
    split at hstep
    · next r rest =>
      split at hstep
      · next t n f0 ho =>
        split at hstep
        · next hj =>
          simp only [Option.some.injEq, Sum.inl.injEq] at hstep
          subst hstep
          obtain ⟨w, s1, hst, hw, hRS⟩ := hRS
          subst hst
          have hnn : (Int32.ofNat n).toInt = (n : Int) := by
            have h9 := Int32.toInt_ofInt_of_le (n := (n : Int)) (by omega) (by omega)
            rw [← h9]; rfl
          rcases hRH.arr ho hw with ⟨hr1, hv1, ht1, hn1, hf1⟩ | ⟨q0, q, g, hr1, hv1, ha1, he1, ht1, hf1⟩
          · subst hv1
            subst hn1
            exact va_slen hx hb hX hbl hbA hS hd (k0 rfl _ _ hRL ⟨_, _, rfl, ⟨_, rfl, hnn⟩, hRS⟩)
          · subst hv1
            have ht3 : t = 0 ∨ t = 1 ∨ t = 2 := by omega
            rcases ht3 with ht3 | ht3 | ht3
            · subst ht3
              exact va_alen (D := D) hx hb hK hP q0 0 he1 rfl rfl hd (k0 rfl _ _ hRL ⟨_, _, rfl, ⟨_, rfl, hnn⟩, hRS⟩)
            · subst ht3
              exact va_alen (D := D) hx hb hK hP q0 1 he1 rfl rfl hd (k0 rfl _ _ hRL ⟨_, _, rfl, ⟨_, rfl, hnn⟩, hRS⟩)
            · subst ht3
              exact va_alen (D := D) hx hb hK hP q0 2 he1 rfl rfl hd (k0 rfl _ _ hRL ⟨_, _, rfl, ⟨_, rfl, hnn⟩, hRS⟩)
        · cases hstep
      · cases hstep
    · cases hstep
  | newarray ty =>
    simp only [mm_okI, mm_okD, Bool.and_eq_true, decide_eq_true_eq] at hok
    obtain ⟨hd, h1, harr⟩ := hok
    subst h1
    cases ty with
      | int =>
        simp only [decide_eq_true_eq] at harr
        simp only [mm_step, mm_newa, mm_aty] at hstep
        split at hstep
        · next z rest =>
          split at hstep
          · next hz =>
            split at hstep
            · next a h' hal =>
              simp only [Option.some.injEq, Sum.inl.injEq] at hstep
              subst hstep
              obtain ⟨w, s1, hst, ⟨x1, hx1, hz1⟩, hRS⟩ := hRS
              subst hst
              subst hx1
              have hnx := (hRH.push (e := .inl (cA 0, z.toNat, .inl (fun _ => 0))) (q := 0) hal ⟨by decide, _, rfl, fun _ => rfl⟩).2.2
              dsimp only at hcc hss k
              rw [hnx.1] at hcc
              rw [hnx.2] at hss
              refine va_newa (D := D) (atype := .int) (ty := .int) (N' := z.toNat) (a0 := (z.toNat, .inl (fun _ => 0))) hx hb (hts _ (mm_pl_in harr)) rfl hK hP hD hS hA (fun _ => rfl) (by rw [Int32.lt_iff_toInt_lt, hz1]; simp; omega) (by show x1.toInt.toNat = _; rw [hz1]) (by show z.toNat * 4 ≤ _; omega) (by omega) (by omega) hd (fun q cA' H1 g0 g1 g2 g3 => ?_)
              have hcA : cA' = cA 0 := by
                have e1 : va_RA s cA' .int := (g0.2 3 _ rfl).2
                have e2 : va_RA s (cA 0) .int := (hK.2 0 _ rfl).2
                exact Option.some.inj (Eq.trans (Eq.symm e1) e2)
              subst hcA
              obtain ⟨ea, hRH', -, -⟩ := hRH.push (e := .inl (cA 0, z.toNat, .inl (fun _ => 0))) (q := q) hal ⟨by decide, _, rfl, fun _ => rfl⟩
              have := k H1 locs ls (.ref q :: s1) [q] (ws ++ [(q, .inl (cA 0, z.toNat, .inl (fun _ => 0)))]) ⟨hRL.app _, ⟨_, _, rfl, by rw [ea]; exact ⟨q, by simp, rfl⟩, hRS.app _⟩, hRH', g1, g2, g3⟩
              rw [hnx.1, hnx.2, Nat.add_sub_cancel_left, Nat.add_sub_cancel_left] at this
              exact this
            · cases hstep
          · cases hstep
        · cases hstep
      | boolean =>
        simp only [decide_eq_true_eq] at harr
        simp only [mm_step, mm_newa, mm_aty] at hstep
        split at hstep
        · next z rest =>
          split at hstep
          · next hz =>
            split at hstep
            · next a h' hal =>
              simp only [Option.some.injEq, Sum.inl.injEq] at hstep
              subst hstep
              obtain ⟨w, s1, hst, ⟨x1, hx1, hz1⟩, hRS⟩ := hRS
              subst hst
              subst hx1
              have hnx := (hRH.push (e := .inl (cA 1, z.toNat, .inl (fun _ => 0))) (q := 0) hal ⟨by decide, _, rfl, fun _ => rfl⟩).2.2
              dsimp only at hcc hss k
              rw [hnx.1] at hcc
              rw [hnx.2] at hss
              refine va_newa (D := D) (atype := .boolean) (ty := .boolean) (N' := z.toNat) (a0 := (z.toNat, .inl (fun _ => 0))) hx hb (hts _ (mm_pl_in harr)) rfl hK hP hD hS hA (fun _ => rfl) (by rw [Int32.lt_iff_toInt_lt, hz1]; simp; omega) (by show x1.toInt.toNat = _; rw [hz1]) (by show z.toNat * 1 ≤ _; omega) (by omega) (by omega) hd (fun q cA' H1 g0 g1 g2 g3 => ?_)
              have hcA : cA' = cA 1 := by
                have e1 : va_RA s cA' .boolean := (g0.2 3 _ rfl).2
                have e2 : va_RA s (cA 1) .boolean := (hK.2 1 _ rfl).2
                exact Option.some.inj (Eq.trans (Eq.symm e1) e2)
              subst hcA
              obtain ⟨ea, hRH', -, -⟩ := hRH.push (e := .inl (cA 1, z.toNat, .inl (fun _ => 0))) (q := q) hal ⟨by decide, _, rfl, fun _ => rfl⟩
              have := k H1 locs ls (.ref q :: s1) [q] (ws ++ [(q, .inl (cA 1, z.toNat, .inl (fun _ => 0)))]) ⟨hRL.app _, ⟨_, _, rfl, by rw [ea]; exact ⟨q, by simp, rfl⟩, hRS.app _⟩, hRH', g1, g2, g3⟩
              rw [hnx.1, hnx.2, Nat.add_sub_cancel_left, Nat.add_sub_cancel_left] at this
              exact this
            · cases hstep
          · cases hstep
        · cases hstep
      | byte =>
        simp only [decide_eq_true_eq] at harr
        simp only [mm_step, mm_newa, mm_aty] at hstep
        split at hstep
        · next z rest =>
          split at hstep
          · next hz =>
            split at hstep
            · next a h' hal =>
              simp only [Option.some.injEq, Sum.inl.injEq] at hstep
              subst hstep
              obtain ⟨w, s1, hst, ⟨x1, hx1, hz1⟩, hRS⟩ := hRS
              subst hst
              subst hx1
              have hnx := (hRH.push (e := .inl (cA 2, z.toNat, .inl (fun _ => 0))) (q := 0) hal ⟨by decide, _, rfl, fun _ => rfl⟩).2.2
              dsimp only at hcc hss k
              rw [hnx.1] at hcc
              rw [hnx.2] at hss
              refine va_newa (D := D) (atype := .byte) (ty := .byte) (N' := z.toNat) (a0 := (z.toNat, .inl (fun _ => 0))) hx hb (hts _ (mm_pl_in harr)) rfl hK hP hD hS hA (fun _ => rfl) (by rw [Int32.lt_iff_toInt_lt, hz1]; simp; omega) (by show x1.toInt.toNat = _; rw [hz1]) (by show z.toNat * 1 ≤ _; omega) (by omega) (by omega) hd (fun q cA' H1 g0 g1 g2 g3 => ?_)
              have hcA : cA' = cA 2 := by
                have e1 : va_RA s cA' .byte := (g0.2 3 _ rfl).2
                have e2 : va_RA s (cA 2) .byte := (hK.2 2 _ rfl).2
                exact Option.some.inj (Eq.trans (Eq.symm e1) e2)
              subst hcA
              obtain ⟨ea, hRH', -, -⟩ := hRH.push (e := .inl (cA 2, z.toNat, .inl (fun _ => 0))) (q := q) hal ⟨by decide, _, rfl, fun _ => rfl⟩
              have := k H1 locs ls (.ref q :: s1) [q] (ws ++ [(q, .inl (cA 2, z.toNat, .inl (fun _ => 0)))]) ⟨hRL.app _, ⟨_, _, rfl, by rw [ea]; exact ⟨q, by simp, rfl⟩, hRS.app _⟩, hRH', g1, g2, g3⟩
              rw [hnx.1, hnx.2, Nat.add_sub_cancel_left, Nat.add_sub_cancel_left] at this
              exact this
            · cases hstep
          · cases hstep
        · cases hstep
      | _ => cases harr
  | new i =>
    simp only [mm_okI, mm_okD, Bool.and_eq_true, decide_eq_true_eq] at hok
    obtain ⟨hd, h1, hcl⟩ := hok
    subst h1
    split at hcl
    · next C T N hv =>
      simp only [Bool.and_eq_true, decide_eq_true_eq, List.all_eq_true, List.mem_range] at hcl
      obtain ⟨⟨⟨hl1, hl2⟩, hl3⟩, htys⟩ := hcl
      obtain ⟨hin1, hty1, hnm1⟩ := mm_cls_ok _ _ _ _ hv
      simp only [mm_step, mm_new] at hstep
      split at hstep
      · next a h' hal =>
        simp only [Option.some.injEq, Sum.inl.injEq] at hstep
        subst hstep
        have hfs : ∀ (as' : List Nat), mm_RS b as' (mm_blank xx) ((List.range N).map (fun j => defaultValue (mm_ty xx j))) := by
          intro as'
          unfold mm_blank
          rw [hv]
          have key : ∀ (l : List Nat), (∀ j ∈ l, j < N) → mm_RS b as' (l.map (fun k => mm_dfl (mm_ty xx k))) (l.map (fun j => defaultValue (mm_ty xx j))) := by
            intro l
            induction l with
            | nil => intro _; exact rfl
            | cons j l ih =>
              intro hl
              refine ⟨_, _, rfl, ?_, ih (fun i hi => hl i (List.mem_cons_of_mem _ hi))⟩
              show mm_R b as' (mm_dfl (mm_ty xx j)) (defaultValue (mm_ty xx j))
              have h9 := htys j (hl j List.mem_cons_self)
              split at h9
              · next e9 => rw [e9]; exact ⟨0, rfl, rfl⟩
              · next e9 => rw [e9]; exact rfl
              · next e9 => rw [e9]; exact rfl
              · cases h9
          exact key _ (fun j hj => List.mem_range.mp hj)
        have hlen : (mm_blank xx).length = N := by unfold mm_blank; rw [hv]; simp
        have hnx := (hRH.push (e := .inr (xx, (List.range N).map (fun j => defaultValue (mm_ty xx j)))) (q := 0) hal ⟨_, rfl, hfs _⟩).2.2
        dsimp only at hcc hss k
        rw [hnx.1] at hcc
        rw [hnx.2, hlen] at hss
        refine va_new (D := D) (fs := (List.range N).map (fun j => defaultValue (mm_ty xx j))) hx hb hts hin1 (mm_ty xx) hty1 hown (hts _ (mm_pl_in hl1)) (hts _ (mm_pl_in hl2)) (hts _ (mm_pl_in hl3)) hK hP hD hS hA hv (fun j hj => by simp [vp_V, hj]) (by omega) (by omega) hd (fun q H1 g1 g2 g3 => ?_)
        obtain ⟨ea, hRH', -, -⟩ := hRH.push (e := .inr (xx, (List.range N).map (fun j => defaultValue (mm_ty xx j)))) (q := q) hal ⟨_, rfl, hfs _⟩
        have := k H1 locs ls (.ref q :: st) [q] (ws ++ [(q, .inr (xx, (List.range N).map (fun j => defaultValue (mm_ty xx j))))]) ⟨hRL.app _, ⟨_, _, rfl, by rw [ea]; exact ⟨q, by simp, rfl⟩, hRS.app _⟩, hRH', g1, g2, g3⟩
        rw [hnx.1, hnx.2, hlen, Nat.add_sub_cancel_left, Nat.add_sub_cancel_left] at this
        exact this
      · cases hstep
    · cases hcl
  | invokespecial i =>
    simp only [mm_okI, mm_okD, Bool.and_eq_true, decide_eq_true_eq] at hok
    obtain ⟨hd, h1, hcl⟩ := hok
    subst h1
    simp only [mm_step] at hstep
    split at hstep
    · next hk =>
      rw [if_pos hk] at hcl
      simp only [Bool.and_eq_true, decide_eq_true_eq] at hcl
      obtain ⟨⟨⟨hdep, hl1⟩, hl2⟩, hl3⟩ := hcl
      simp only [mm_objInit] at hstep
      split at hstep
      · next a rest =>
        split at hstep
        · next hcat =>
          simp only [Option.some.injEq, Sum.inl.injEq] at hstep
          subst hstep
          obtain ⟨w, s1, hst, hw, hRS⟩ := hRS
          subst hst
          obtain ⟨q, hq⟩ : ∃ q, w = .ref q := by
            match a, hw with
            | 1, hw2 => exact ⟨_, hw2⟩
            | j + 2, ⟨q, _, hw2⟩ => exact ⟨q, hw2⟩
          subst hq
          have hcs := hRS.cat
          refine W.objInit hx hb hown (hts _ (mm_pl_in hl1)) (hts _ (mm_pl_in hl2)) (hts _ (mm_pl_in hl3)) rfl (by rw [hml]; exact hRL.1) rfl hd (by omega) ?_ (W.eq (g2 := F0 m (pc + 3) ls s1) rfl (k0 rfl _ _ hRL hRS))
          show 2 * 0 + _ + 12 ≤ _
          rw [hcs]
          omega
        · cases hstep
      · cases hstep
    · next hk =>
      exfalso
      simp only [mm_callI] at hstep
      split at hstep
      · split at hstep
        · cases hstep
        · cases hstep
      · cases hstep
  | invokestatic i =>
    exfalso
    simp only [mm_step, mm_callS] at hstep
    split at hstep
    · cases hstep
    · cases hstep
  | invokevirtual i =>
    exfalso
    simp only [mm_step, mm_callV] at hstep
    split at hstep
    · split at hstep
      · split at hstep
        · cases hstep
        · cases hstep
      · cases hstep
    · cases hstep
  | ireturn =>
    exfalso
    simp only [mm_step, mm_iret] at hstep
    split at hstep
    · split at hstep
      · cases hstep
      · cases hstep
    · cases hstep
  | areturn =>
    exfalso
    simp only [mm_step, mm_aret] at hstep
    split at hstep
    · cases hstep
    · cases hstep
  | return_ =>
    exfalso
    simp only [mm_step] at hstep
    split at hstep
    · cases hstep
    · cases hstep
  | _ =>
    simp [mm_step] at hstep
end SIM
end
section
theorem mm_static_ok : (List.range 191).all (fun m => plainFor (mm_name m) && decide (mm_maxL m ≤ 20) && (decide (mm_kind m = 2 → (mm_name m).name = "<init>"))) = true := by decide +kernel
theorem mm_arrcls : Jvm.Cond.arrayClass .int ∈ mm_tbl ∧ Jvm.Cond.arrayClass .boolean ∈ mm_tbl ∧ Jvm.Cond.arrayClass .byte ∈ mm_tbl := ⟨mm_tbl_of (by decide +kernel) rfl, mm_tbl_of (by decide +kernel) rfl, mm_tbl_of (by decide +kernel) rfl⟩
theorem mm_plain {m : Nat} (h : m < 191) : plainFor (mm_name m) = true ∧ mm_maxL m ≤ 20 ∧ (mm_kind m = 2 → (mm_name m).name = "<init>") := by
  have h1 := List.all_eq_true.mp mm_static_ok m (List.mem_range.mpr h)
  simp only [Bool.and_eq_true, decide_eq_true_eq] at h1
  exact ⟨h1.1.1, h1.1.2, h1.2⟩
theorem mm_gin {ws : List Jvm.Cond} (h : ∀ w ∈ ws, w ∈ mm_tbl) : GoodIn mm_tbl ws := fun w hw => ⟨h w hw, good_of_word (mm_tbl_good w (h w hw))⟩
-- what a step does to the cells
theorem mm_obj_ne {h : mm_H} {a ci : Nat} {fs : List mm_V} (h0 : mm_c0 h) (ho : mm_obj h (some a) ci = some fs) : a ≠ 0 := by
  rintro rfl
  obtain ⟨t, n, f, h1, -⟩ := h0
  simp [mm_obj, h1] at ho
theorem mm_arr_ne {h : mm_H} {a t n : Nat} {f : Nat → Int} (h0 : mm_c0 h) (ho : mm_arr h (some a) = some (t, n, f)) (ht : t < 100) : a ≠ 0 := by
  rintro rfl
  obtain ⟨t', n', f', h1, h2, -⟩ := h0
  simp only [mm_arr, h1, Option.some.injEq, Prod.mk.injEq] at ho
  omega
def mm_le (h h' : mm_H) : Prop := mm_c0 h' ∧ mm_nx h ≤ mm_nx h' ∧ mm_sl h ≤ mm_sl h'
theorem mm_le.rf {h : mm_H} (h0 : mm_c0 h) : mm_le h h := ⟨h0, Nat.le_refl _, Nat.le_refl _⟩
theorem mm_le.tr {h h' h'' : mm_H} (a : mm_le h h') (b : mm_le h' h'') : mm_le h h'' := ⟨b.1, Nat.le_trans a.2.1 b.2.1, Nat.le_trans a.2.2 b.2.2⟩
theorem mm_le.up {h : mm_H} (h0 : mm_c0 h) {a : Nat} {c : mm_C} (ha : a ≠ 0) : mm_le h (mm_up h a c) := by
  obtain ⟨t, n, f, h1, h2⟩ := h0
  obtain ⟨e1, e2⟩ := mm_nx_up (h := h) (c := c) ha
  exact ⟨⟨t, n, f, by simp only [mm_up]; rw [if_neg (Ne.symm ha)]; exact h1, h2⟩, by rw [e1]; exact Nat.le_refl _, by rw [e2]; exact Nat.le_refl _⟩
theorem mm_le.alloc {h h' : mm_H} {c : mm_C} {sl a : Nat} (h0 : mm_c0 h) (ha : mm_alloc h c sl = some (a, h')) : mm_le h h' := by
  obtain ⟨t, n, f, h1, h2, h3⟩ := h0
  unfold mm_alloc at ha
  rw [h1] at ha
  dsimp only at ha
  rw [if_pos ⟨h2, h3⟩] at ha
  simp only [Option.some.injEq, Prod.mk.injEq] at ha
  obtain ⟨e1, e2⟩ := ha
  subst e2
  subst e1
  refine ⟨⟨t + sl, n + 1, f, by simp [mm_up], by omega, by omega⟩, ?_, ?_⟩
  · simp [mm_nx, mm_up, h1]
  · simp [mm_sl, mm_up, h1]
set_option maxHeartbeats 4000000 in
theorem mm_step_le {I : mm_I} {pc : Nat} {ls st : List mm_V} {h : mm_H} (h0 : mm_c0 h) {f : mm_F} (hs : mm_step I pc ls st h = some (.inl f)) : mm_le h f.2.2.2 := by
  obtain ⟨ins, len, cst, xx, kk, pls⟩ := I
  cases ins
  case putfield i =>
    simp only [mm_step, mm_putf] at hs
    split at hs
    · split at hs
      · next ho =>
        split at hs
        · cases hs; exact mm_le.up h0 (mm_obj_ne h0 ho)
        · cases hs
      · cases hs
    · split at hs
      · next ho =>
        split at hs
        · cases hs; exact mm_le.up h0 (mm_obj_ne h0 ho)
        · cases hs
      · cases hs
    · cases hs
  case iastore =>
    simp only [mm_step, mm_iast] at hs
    split at hs
    · split at hs
      · next ho =>
        split at hs
        · next hj => cases hs; exact mm_le.up h0 (mm_arr_ne h0 ho (by omega))
        · cases hs
      · cases hs
    · cases hs
  case bastore =>
    simp only [mm_step, mm_bast] at hs
    split at hs
    · split at hs
      · next ho =>
        split at hs
        · next hj => cases hs; exact mm_le.up h0 (mm_arr_ne h0 ho (by omega))
        · split at hs
          · next hj => cases hs; exact mm_le.up h0 (mm_arr_ne h0 ho (by omega))
          · cases hs
      · cases hs
    · cases hs
  case newarray t =>
    simp only [mm_step, mm_newa] at hs
    split at hs
    · split at hs
      · split at hs
        · next ha => cases hs; exact mm_le.alloc h0 ha
        · cases hs
      · cases hs
    · cases hs
  case new i =>
    simp only [mm_step, mm_new] at hs
    split at hs
    · next ha => cases hs; exact mm_le.alloc h0 ha
    · cases hs
  all_goals
    simp only [mm_step, mm_push, mm_iload, mm_lload, mm_aload, mm_istore, mm_lstore, mm_astore, mm_iinc, mm_bin, mm_binz, mm_lbin, mm_lbinz, mm_lsh, mm_un, mm_i2l, mm_l2i, mm_lcmp, mm_if, mm_icmp, mm_switch, mm_dup, mm_dup2, mm_pop, mm_getf, mm_iald, mm_bald, mm_alen, mm_callS, mm_callV, mm_callI, mm_objInit, mm_iret, mm_aret] at hs
    repeat' split at hs
    all_goals first | (cases hs; done) | (cases hs; exact mm_le.rf h0)
set_option maxHeartbeats 4000000 in
theorem mm_step_ret {I : mm_I} {pc : Nat} {ls st : List mm_V} {h : mm_H} {r : Option mm_V × mm_H} (hs : mm_step I pc ls st h = some (.inr (.inl r))) :
    r.2 = h ∧ ((I.1 = .return_ ∧ st = [] ∧ r.1 = none) ∨ (I.1 = .ireturn ∧ ∃ z, st = [.inl z] ∧ r.1 = some (.inl z) ∧ (I.2.2.1 = 1 → z = 0 ∨ z = 1)) ∨ (I.1 = .areturn ∧ ∃ a, st = [.inr (.inr (some a))] ∧ r.1 = some (.inr (.inr (some a))))) := by
  obtain ⟨ins, len, cst, xx, kk, pls⟩ := I
  cases ins
  case ireturn =>
    simp only [mm_step, mm_iret] at hs
    split at hs
    · split at hs
      · next hc => cases hs; exact ⟨rfl, Or.inr (Or.inl ⟨rfl, _, rfl, rfl, hc⟩)⟩
      · cases hs
    · cases hs
  case areturn =>
    simp only [mm_step, mm_aret] at hs
    split at hs
    · cases hs; exact ⟨rfl, Or.inr (Or.inr ⟨rfl, _, rfl, rfl⟩)⟩
    · cases hs
  case return_ =>
    simp only [mm_step] at hs
    split at hs
    · cases hs; exact ⟨rfl, Or.inl ⟨rfl, rfl, rfl⟩⟩
    · cases hs
  all_goals
    exfalso
    simp only [mm_step, mm_push, mm_iload, mm_lload, mm_aload, mm_istore, mm_lstore, mm_astore, mm_iinc, mm_bin, mm_binz, mm_lbin, mm_lbinz, mm_lsh, mm_un, mm_i2l, mm_l2i, mm_lcmp, mm_if, mm_icmp, mm_switch, mm_dup, mm_dup2, mm_pop, mm_getf, mm_putf, mm_iald, mm_bald, mm_iast, mm_bast, mm_newa, mm_new, mm_alen, mm_callS, mm_callV, mm_callI, mm_objInit] at hs
    repeat' split at hs
    all_goals cases hs
set_option maxHeartbeats 4000000 in
theorem mm_step_call {I : mm_I} {pc pc' m : Nat} {ls st as ls' rest : List mm_V} {h h' : mm_H} (hs : mm_step I pc ls st h = some (.inr (.inr (m, as, pc', ls', rest, h')))) :
    h' = h ∧ ls' = ls ∧ pc' = pc + 3 ∧ m = I.2.2.2.1 ∧ rest = (rest) ∧ mm_cat rest ≤ 8 ∧
    ((∃ i, I.1 = .invokestatic i ∧ I.2.2.2.2.1 ≤ st.length ∧ as = (st.take I.2.2.2.2.1).reverse ∧ rest = st.drop I.2.2.2.2.1) ∨
     (∃ i a, I.1 = .invokevirtual i ∧ st.drop I.2.2.2.2.1 = .inr (.inr (some a)) :: rest ∧ as = .inr (.inr (some a)) :: (st.take I.2.2.2.2.1).reverse ∧ ∃ fs, mm_obj h (some a) I.2.2.1.toNat = some fs) ∨
     (∃ i a, I.1 = .invokespecial i ∧ I.2.2.2.2.1 ≠ 1000 ∧ st.drop I.2.2.2.2.1 = .inr (.inr (some a)) :: rest ∧ as = .inr (.inr (some a)) :: (st.take I.2.2.2.2.1).reverse)) := by
  obtain ⟨ins, len, cst, xx, kk, pls⟩ := I
  cases ins
  case invokestatic i =>
    simp only [mm_step, mm_callS] at hs
    split at hs
    · next hc => cases hs; exact ⟨rfl, rfl, rfl, rfl, rfl, hc.2, Or.inl ⟨i, rfl, hc.1, rfl, rfl⟩⟩
    · cases hs
  case invokevirtual i =>
    simp only [mm_step, mm_callV] at hs
    split at hs
    · next hd =>
      split at hs
      · next ho =>
        split at hs
        · next hc => cases hs; exact ⟨rfl, rfl, rfl, rfl, rfl, hc, Or.inr (Or.inl ⟨i, _, rfl, hd, rfl, _, ho⟩)⟩
        · cases hs
      · cases hs
    · cases hs
  case invokespecial i =>
    simp only [mm_step] at hs
    split at hs
    · simp only [mm_objInit] at hs
      repeat' split at hs
      all_goals cases hs
    · next hk =>
      simp only [mm_callI] at hs
      split at hs
      · next hd =>
        split at hs
        · next hc =>
          cases hs
          exact ⟨rfl, rfl, rfl, rfl, rfl, hc, Or.inr (Or.inr ⟨i, _, rfl, hk, hd, rfl⟩)⟩
        · cases hs
      · cases hs
  all_goals
    exfalso
    simp only [mm_step, mm_push, mm_iload, mm_lload, mm_aload, mm_istore, mm_lstore, mm_astore, mm_iinc, mm_bin, mm_binz, mm_lbin, mm_lbinz, mm_lsh, mm_un, mm_i2l, mm_l2i, mm_lcmp, mm_if, mm_icmp, mm_switch, mm_dup, mm_dup2, mm_pop, mm_getf, mm_putf, mm_iald, mm_bald, mm_iast, mm_bast, mm_newa, mm_new, mm_alen, mm_iret, mm_aret] at hs
    repeat' split at hs
    all_goals cases hs
theorem mm_run_le : ∀ (n y : Nat) (f : mm_F) (r : Option mm_V × mm_H), mm_run n y f = some r → mm_c0 f.2.2.2 → mm_le f.2.2.2 r.2 := by
  intro n
  induction n with
  | zero => intro y f r h; simp [mm_run] at h
  | succ n ih =>
    intro y f r h h0
    unfold mm_run at h
    cases hc : mm_code y f.1 with
    | none => rw [hc] at h; cases h
    | some I =>
      rw [hc] at h
      dsimp only at h
      cases hs : mm_step I f.1 f.2.1 f.2.2.1 f.2.2.2 with
      | none => rw [hs] at h; cases h
      | some o =>
        rw [hs] at h
        rcases o with f' | r' | ⟨m, as, pc, ls, rest, h1⟩
        · have a := mm_step_le h0 hs
          exact a.tr (ih _ _ _ h a.1)
        · simp only [Option.some.injEq] at h
          subst h
          rw [(mm_step_ret hs).1]
          exact mm_le.rf h0
        · obtain ⟨e1, -⟩ := mm_step_call hs
          subst e1
          dsimp only at h
          by_cases hl : (mm_spread as).length ≤ mm_maxL m
          · rw [if_pos hl] at h
            cases hr : mm_run n m (0, mm_pad (mm_maxL m) (mm_spread as), [], f.2.2.2) with
            | none => rw [hr] at h; cases h
            | some q =>
              rw [hr] at h
              have a := ih _ _ _ hr h0
              exact a.tr (ih _ _ _ h a.1)
          · rw [if_neg hl] at h; cases h
-- a method's locals at its entry
theorem mm_spread_at {b : Nat} {as : List Nat} : ∀ {vs : List mm_V} {vals : List Value}, mm_RS b as vs vals → (lg_sl vals).length = (mm_spread vs).length ∧ ∀ (k : Nat) (v : mm_V), (mm_spread vs)[k]? = some v → v ≠ mm_null → ∃ w, (lg_sl vals)[k]? = some (Slot.val w) ∧ mm_R b as v w
  | [], vals, h => by
    rw [show vals = [] from h]
    exact ⟨rfl, fun k v hk => by simp [mm_spread] at hk⟩
  | v :: vs, _, ⟨w, s, e, h1, h2⟩ => by
    subst e
    obtain ⟨i1, i2⟩ := mm_spread_at h2
    have hsl : lg_sl (w :: s) = (if w.category = 2 then [Slot.val w, Slot.second] else [Slot.val w]) ++ lg_sl s := by simp [lg_sl]
    rw [hsl, h1.cat]
    unfold mm_spread
    by_cases hw : mm_wide v = true
    · rw [if_pos hw, if_pos rfl, if_pos hw]
      refine ⟨by simp [i1], fun k u hk hu => ?_⟩
      match k, hk with
      | 0, hk => simp only [List.getElem?_cons_zero, Option.some.injEq] at hk; subst hk; exact ⟨w, rfl, h1⟩
      | 1, hk => simp only [List.getElem?_cons_succ, List.getElem?_cons_zero, Option.some.injEq] at hk; exact absurd hk.symm hu
      | k + 2, hk =>
        simp only [List.getElem?_cons_succ] at hk
        obtain ⟨w', g1, g2⟩ := i2 k u hk hu
        exact ⟨w', by simpa using g1, g2⟩
    · rw [if_neg hw, if_neg (by decide), if_neg hw]
      refine ⟨by simp [i1], fun k u hk hu => ?_⟩
      match k, hk with
      | 0, hk => simp only [List.getElem?_cons_zero, Option.some.injEq] at hk; subst hk; exact ⟨w, rfl, h1⟩
      | k + 1, hk =>
        simp only [List.getElem?_cons_succ] at hk
        obtain ⟨w', g1, g2⟩ := i2 k u hk hu
        exact ⟨w', by simpa using g1, g2⟩
theorem mm_entry {b : Nat} {as : List Nat} {vs : List mm_V} {vals : List Value} {n : Nat} (h : mm_RS b as vs vals) (hl : (mm_spread vs).length ≤ n) : mm_RL b as (mm_pad n (mm_spread vs)) ((lg_sl vals ++ List.replicate (n - (lg_sl vals).length) Slot.unset).toArray) n := by
  obtain ⟨i1, i2⟩ := mm_spread_at h
  have hh := lv_entry vals (n := n) (by rw [i1]; exact hl)
  refine ⟨hh.1, hh.2.1, by unfold mm_pad; simp; omega, fun k v hk hv => ?_⟩
  unfold mm_pad at hk
  by_cases hkl : k < (mm_spread vs).length
  · rw [List.getElem?_append_left hkl] at hk
    obtain ⟨w, g1, g2⟩ := i2 k v hk hv
    exact ⟨w, by simp only [List.getElem?_toArray]; rw [List.getElem?_append_left (by rw [i1]; exact hkl)]; exact g1, g2⟩
  · rw [List.getElem?_append_right (by omega)] at hk
    exact absurd (List.eq_of_mem_replicate (List.mem_of_getElem? hk)) hv
def mm_RO (b : Nat) (as : List Nat) : Option mm_V → Option Value → Prop
  | none, w => w = none
  | some v, w => ∃ u, w = some u ∧ mm_R b as v u
theorem mm_RO.stack {b : Nat} {as : List Nat} {v : Option mm_V} {w : Option Value} (h : mm_RO b as v w) {vs : List mm_V} {st : List Value} (g : mm_RS b as vs st) : mm_RS b as (v.toList ++ vs) (w.toList ++ st) := by
  match v, h with
  | none, h => rw [show w = none from h]; exact g
  | some v, ⟨u, e, h2⟩ => subst e; exact ⟨u, st, rfl, h2, g⟩
end
section
/-! THE SMALL MACHINE'S RUNS ARE THE STATEMENT'S: a run of the small machine is followed by the Statement's machine, calls and all. -/
theorem mm_retchk : (List.range 191).all (fun y => (mm_tabs.getD y []).all (fun q => decide (q.2.1 = .return_ → mm_ret y = none))) = true := by decide +kernel
theorem mm_code_mem {y pc : Nat} {I : mm_I} (h : mm_code y pc = some I) : (pc, I) ∈ mm_tabs.getD y [] := mm_lookup_mem _ _ _ h
theorem mm_ret_none {y pc : Nat} {I : mm_I} (hy : y < 191) (h : mm_code y pc = some I) (hI : I.1 = .return_) : mm_ret y = none := by
  have h1 := List.all_eq_true.mp mm_retchk y (List.mem_range.mpr hy)
  have h2 := List.all_eq_true.mp h1 _ (mm_code_mem h)
  exact (of_decide_eq_true h2) hI
theorem mm_arrK {args : Array Value} {s : State} : ((Cond.arrayClass .int).before args s = true → ∃ cA, ArrOfT s cA .int ∧ va_RA s cA .int) ∧ ((Cond.arrayClass .boolean).before args s = true → ∃ cA, ArrOfT s cA .boolean ∧ va_RA s cA .boolean) ∧ ((Cond.arrayClass .byte).before args s = true → ∃ cA, ArrOfT s cA .byte ∧ va_RA s cA .byte) := by
  refine ⟨fun h => ?_, fun h => ?_, fun h => ?_⟩
  all_goals
    obtain ⟨cA, kA, comp, h1, h2, h3⟩ := Cond.arrayClass_spec h
    exact ⟨cA, fun n z => ⟨fun k h => (by cases h), kA, h2, comp, h3⟩, h1⟩
theorem mm_callG {p : Program} {l : Launch} {e : Env} {R : Room} {s : State} {m : MethodId} {args : Array Value} {below : List Frame} {meth : Method} {c : Code} {H : Heap} {locs : List Loc} {cells slots mc ms : Nat} {Q : State → Prop} {pc : Nat} {ls : Array Slot} {rest st0 : List Value} {A0 A1 : Nat → Prop} {H0 : Heap} {free : Addr → Prop} {PB : Option Value → State → Prop}
    (hr : va_Run p l e R s m args below meth c H locs cells slots mc ms (F0 m pc ls st0) rest (fun st oc t => (∃ v, oc = .returned v ∧ PB v t) ∧ va_F A1 st t) free) (hS : va_S A0 H0 H locs) (hA : ∀ q, q < H.size → A1 q → A0 q) (hf : ∀ q, free q → A0 q)
    (kk : ∀ (v : Option Value) (t : State) (H1 : Heap) (locs1 : List Loc), t.heap = H1 → s.vm.Alike t.vm → PB v t → va_S A0 H0 H1 locs1 → W p l e R s m args below meth c H1 locs1 (cells + mc) (slots + ms) Q (F0 m (pc + 3) ls (v.toList ++ rest))) :
    W p l e R s m args below meth c H locs cells slots Q (F0 m pc ls st0) := by
  intro T hT X
  obtain ⟨v, st₀, t, T', L, h0, X', hL, e1, e2, ⟨⟨w, hv, hp⟩, hz, hk⟩, st⟩ := hr T hT X
  cases hv
  rw [h0] at hz hk
  obtain ⟨t2, a1, b1⟩ := kk _ t T'.heap (locs ++ L) e1.symm (by rw [← e2]; exact X'.warmed.alike) hp
    ⟨Nat.le_trans hS.1 (by rw [e1]; exact hz), fun q h1 h2 => by rw [e1, hk q (Nat.lt_of_lt_of_le h1 hS.1) (fun z => h2 (hA q (Nat.lt_of_lt_of_le h1 hS.1) z))]; exact hS.2.1 q h1 h2, fun q hq => by
      rcases List.mem_append.mp hq with h | h
      · exact hS.2.2 q h
      · exact hf _ (hL q h)⟩ T' rfl X'
  exact ⟨t2, st t2 a1, b1⟩
def mm_PB (D : va_G) (cA : Nat → ClassId) (b L : Nat) (xs : Nat → Int32) (as : List Nat) (A : Nat → Prop) (r : Option mm_V × mm_H) (v : Option Value) (t : State) : Prop := ∃ (as2 : List Nat) (ws' : va_W), mm_RO b (as ++ as2) r.1 v ∧ mm_RH cA b L xs (as ++ as2) ws' r.2 ∧ va_P D vwCl ws' t.heap ∧ va_K D vwCl (mm_tys cA) t ∧ va_D A ws'
def mm_Qc (D : va_G) (cA : Nat → ClassId) (b L : Nat) (xs : Nat → Int32) (as : List Nat) (A : Nat → Prop) (r : Option mm_V × mm_H) : Array Value → State → Outcome → State → Prop := fun _ st oc t => (∃ v, oc = .returned v ∧ mm_PB D cA b L xs as A r v t) ∧ va_F A st t
def mm_B (D : va_G) (cA : Nat → ClassId) (b L : Nat) (xs : Nat → Int32) (ws : va_W) (sz : Nat) : State → Prop := fun U => U.heap.size = sz ∧ va_P D vwCl ws U.heap ∧ va_K D vwCl (mm_tys cA) U ∧ va_D (fun _ => True) ws ∧ va_X b L xs U U.heap ∧ b < U.heap.size ∧ ¬ va_A ws sz b
def mm_ws (m : Nat) : List Cond := Cond.code (mm_name m) (mm_bytes m) (mm_maxL m) (mm_ret m) :: mm_tbl
def mm_rm (m mc ms : Nat) : Room := { frames := mm_dep m, cells := mc, slots := ms, locals := 39 * mm_dep m }
def mm_End (p : Program) (l : Launch) (e : Env) (R : Room) (s : State) (m : MethodId) (args : Array Value) (below : List Frame) (meth : Method) (c : Code) (y : Nat) (D : va_G) (cA : Nat → ClassId) (b L : Nat) (xs : Nat → Int32) (A : Nat → Prop) (as : List Nat) (cells slots : Nat) (Q : State → Prop) (r : Option mm_V × mm_H) (h : mm_H) : Prop :=
  ∀ (pc' : Nat) (I : mm_I) (ls1 st1 : List mm_V) (H' : Heap) (locs' : List Loc) (ls' : Array Slot) (st' : List Value) (as2 : List Nat) (ws' : va_W), mm_code y pc' = some I → mm_step I pc' ls1 st1 r.2 = some (.inr (.inl r)) → mm_At s y D cA b L xs A ls1 st1 r.2 H' locs' ls' st' (as ++ as2) ws' →
    W p l e R s m args below meth c H' locs' (cells + (mm_nx r.2 - mm_nx h)) (slots + (mm_sl r.2 - mm_sl h)) Q (F0 m pc' ls' st')
def mm_Sim (l : Launch) (n : Nat) : Prop := ∀ (y : Nat) (f : mm_F) (r : Option mm_V × mm_H), mm_run n y f = some r → mm_c0 f.2.2.2 →
  ∀ (p : Program) (e : Env) (R : Room) (s : State) (m : MethodId) (args : Array Value) (below : List Frame) (meth : Method) (c : Code) (D : va_G) (cA : Nat → ClassId) (b L : Nat) (xs : Nat → Int32) (A : Nat → Prop), mm_Cx p s m args meth c y D cA b L xs A R →
  ∀ (H : Heap) (locs : List Loc) (cells slots : Nat) (Q : State → Prop) (as : List Nat) (ws : va_W) (ls : Array Slot) (st : List Value), mm_At s y D cA b L xs A f.2.1 f.2.2.1 f.2.2.2 H locs ls st as ws →
    cells + (mm_nx r.2 - mm_nx f.2.2.2) ≤ R.cells → slots + (mm_sl r.2 - mm_sl f.2.2.2) ≤ R.slots → mm_End p l e R s m args below meth c y D cA b L xs A as cells slots Q r f.2.2.2 →
    W p l e R s m args below meth c H locs cells slots Q (F0 m f.1 ls st)
theorem mm_ofWF {l : Launch} {y : MethodName} {ws ws' : List Cond} {rm : Room} {Pc : Array Value → State → Prop} {Qc : Array Value → State → Outcome → State → Prop} {mc ms : Nat} {free : Addr → Prop} {cc : ByteArray} {maxL : Nat} {ret : Option FieldType}
    (hy : plainFor y = true) (hw : ws = Cond.code y cc maxL ret :: ws')
    (body : ∀ p e s m args below meth c s₁, BodyLoose p l y (headSpec ws rm) cc maxL ret e s m args below meth c s₁ → c.maxLocals = maxL → Pc args s →
      W p l e (headSpec ws rm).room s m args below meth c s.heap [] 0 0 (MQ below Qc args s mc ms free) (entryFrame m args maxL)) : Met l y ws rm Pc Qc mc ms free := by
  refine MetFree.of_bodySF (code := cc) (maxLocals := maxL) (ret := ret) hy ?_ ?_
  · intro args s m h hn
    obtain ⟨meth, c, h1, h2, h3, h4, h5, h6, -, -⟩ := Cond.code_spec hn (atoms_spec (ws := ws) h _ (by rw [hw]; exact List.mem_cons_self))
    exact ⟨meth, c, h1, h2, h3, h4, h5, h6⟩
  · intro p e s m args below meth c s₁ B hml hP _
    have hh0 : s₁.heap = s.heap := by rw [B.state]; rfl
    obtain ⟨t, a1, o, b1, b2, b3⟩ := body p e s m args below meth c s₁ B hml hP s₁ hh0 (Stand.of_body B)
    exact ⟨t, o, a1, b1, b2, ⟨b3.1, b3.2⟩⟩
theorem mm_met {l : Launch} {n : Nat} (hs : mm_Sim l n) {m : Nat} (hm : m < 191) {vs : List mm_V} {h : mm_H} {r : Option mm_V × mm_H} (hrun : mm_run n m (0, mm_pad (mm_maxL m) (mm_spread vs), [], h) = some r) (h0 : mm_c0 h) (hl : (mm_spread vs).length ≤ mm_maxL m)
    {D : va_G} {cA : Nat → ClassId} {b L : Nat} {xs : Nat → Int32} {as : List Nat} {ws : va_W} {vals : List Value} (hRS : mm_RS b as vs vals) (hRH : mm_RH cA b L xs as ws h) (sz : Nat) :
    Met l (mm_name m) (mm_ws m) (mm_rm m (mm_nx r.2 - mm_nx h) (mm_sl r.2 - mm_sl h)) (va_Pc vals (mm_B D cA b L xs ws sz)) (mm_Qc D cA b L xs as (va_A ws sz) r) (mm_nx r.2 - mm_nx h) (mm_sl r.2 - mm_sl h) (va_A ws sz) := by
  refine mm_ofWF (cc := mm_bytes m) (maxL := mm_maxL m) (ret := mm_ret m) (mm_plain hm).1 rfl ?_
  intro p e s mid args below meth c s₁ B hml hv
  obtain ⟨rfl, hsz, hP, hK, hD0, hX, hbl, hbA⟩ := hv
  have hts0 := atoms_spec (ws := mm_ws m) B.pre
  have hts : ∀ w ∈ mm_tbl, w.before vals.toArray s = true := fun w hw => hts0 w (List.mem_cons_of_mem _ hw)
  have hown : s.vm.findClass (mm_cls m) = some mid.cls := findClass_of_methodNamed B.named
  subst hsz
  have hA : ∀ q, s.heap.size ≤ q → va_A ws s.heap.size q := fun q h => Or.inr h
  have C : mm_Cx p s mid vals.toArray meth c m D cA b L xs (va_A ws s.heap.size) (mm_rm m (mm_nx r.2 - mm_nx h) (mm_sl r.2 - mm_sl h)) :=
    ⟨B.exec, B.bytes, hml, hown, hts, B.returns, B.notSynchronized, fun hk => by rw [(name_of_methodNamed B.named B.method).1]; exact (mm_plain hm).2.2 hk, hK, hX, hbl, hbA, hA, Nat.le_refl _, Nat.le_refl _⟩
  rw [lg_entry_eq]
  refine hs m (0, mm_pad (mm_maxL m) (mm_spread vs), [], h) r hrun h0 p e _ s mid _ below meth c D cA b L xs _ C s.heap [] 0 0 _ as ws _ [] ⟨mm_entry hRS hl, rfl, hRH, hP, hD0.self, va_S.rf⟩ (by rw [Nat.zero_add]; exact Nat.le_refl _) (by rw [Nat.zero_add]; exact Nat.le_refl _) ?_
  intro pc' I ls1 st1 H' locs' ls' st' as2 ws' hcode hst hat
  have hok := mm_ok_all hcode
  have hrn := mm_ret_none hm hcode
  obtain ⟨-, hc⟩ := mm_step_ret hst
  obtain ⟨hRL', hRS', hRH', hP', hD', hS'⟩ := hat
  dsimp only
  rw [Nat.zero_add, Nat.zero_add]
  obtain ⟨ins, len, cst, xx, kk, pls⟩ := I
  rcases hc with ⟨hI, hst0, hr1⟩ | ⟨hI, z, hst0, hr1, hz⟩ | ⟨hI, a, hst0, hr1⟩
  · dsimp only at hI
    subst hI
    subst hst0
    have hst' : st' = [] := hRS'
    subst hst'
    simp only [mm_okI, mm_okD, Bool.and_eq_true, decide_eq_true_eq] at hok
    obtain ⟨hd, hl1⟩ := hok
    subst hl1
    refine W.vret B.exec B.bytes (B.returns.trans (hrn rfl)) (fun t ht hW => ⟨⟨none, rfl, as2, ws', ?_, hRH', by rw [ht]; exact hP', hK.moved hW.alike, hD'⟩, hS'.F ht⟩) hS'.2.2 hd B.notSynchronized
    rw [hr1]
    exact rfl
  · dsimp only at hI hz
    subst hI
    subst hst0
    obtain ⟨w, s2, hst', ⟨x, hw, hx⟩, hs2⟩ := hRS'
    have hs2' : s2 = [] := hs2
    subst hst' hw hs2'
    simp only [mm_okI, mm_okD, Bool.and_eq_true, decide_eq_true_eq] at hok
    obtain ⟨hd, hl1, hret⟩ := hok
    subst hl1
    have hq : ∀ t : State, t.heap = H' → s.WarmedH t.vm → mm_Qc D cA b L xs as (va_A ws s.heap.size) r vals.toArray s (.returned (some (.int x))) t := fun t ht hW => ⟨⟨_, rfl, as2, ws', by rw [hr1]; exact ⟨_, rfl, x, rfl, hx⟩, hRH', by rw [ht]; exact hP', hK.moved hW.alike, hD'⟩, hS'.F ht⟩
    split at hret
    · next h1 =>
      have hret := of_decide_eq_true hret
      have hxz : x = 0 ∨ x = 1 := by
        rcases hz h1 with e | e
        · left; apply Int32.toInt_inj.mp; rw [hx, e]; rfl
        · right; apply Int32.toInt_inj.mp; rw [hx, e]; rfl
      refine W.zret B.exec B.bytes (B.returns.trans hret) ?_ hq hS'.2.2 hd B.notSynchronized
      rcases hxz with e | e
      · subst e; rfl
      · subst e; rfl
    · have hret := of_decide_eq_true hret
      exact W.iret B.exec B.bytes (B.returns.trans hret.2) hq hS'.2.2 hd B.notSynchronized
  · dsimp only at hI
    subst hI
    subst hst0
    obtain ⟨w, s2, hst', hw, hs2⟩ := hRS'
    have hs2' : s2 = [] := hs2
    subst hst' hs2'
    simp only [mm_okI, mm_okD, Bool.and_eq_true, decide_eq_true_eq] at hok
    obtain ⟨hd, hl1, hret⟩ := hok
    subst hl1
    obtain ⟨q, hq⟩ : ∃ q, w = .ref q := by
      match a, hw with
      | 1, hw2 => exact ⟨_, hw2⟩
      | j + 2, ⟨q, _, hw2⟩ => exact ⟨q, hw2⟩
    split at hret
    · next o ho =>
      refine W.aret B.exec B.bytes (B.returns.trans ho) (Or.inl ⟨_, rfl⟩) (Or.inr ⟨q, hq⟩) (fun t ht hW => ⟨⟨_, rfl, as2, ws', by rw [hr1]; exact ⟨_, rfl, hw⟩, hRH', by rw [ht]; exact hP', hK.moved hW.alike, hD'⟩, hS'.F ht⟩) hS'.2.2 hd B.notSynchronized
    · cases hret
theorem mm_blind {D : va_G} {cA : Nat → ClassId} {b L : Nat} {xs : Nat → Int32} {ws : va_W} {sz : Nat} {vals : List Value} : FrameBlind (va_Pc vals (mm_B D cA b L xs ws sz)) := fun a U g mk q => by
  obtain ⟨q0, q1, qP, qK, qD, qX, q2, q3⟩ := q
  exact ⟨q0, q1, qP, va_K.moved (u := U) (U := U.calling g mk a) (Vm.Alike.refl U.vm) qK, qD, va_X.moved (u := U) (U := U.calling g mk a) (Vm.Alike.refl U.vm) qX, q2, q3⟩
end
section
set_option maxHeartbeats 4000000 in
theorem mm_sim (l : Launch) : ∀ n, mm_Sim l n := by
  intro n
  induction n with
  | zero => intro y f r h; simp [mm_run] at h
  | succ n ih =>
    intro y f r h h0 p e R s m args below meth c D cA b L xs A C H locs cells slots Q as ws ls st hat hcc hss hend
    unfold mm_run at h
    cases hc : mm_code y f.1 with
    | none => rw [hc] at h; cases h
    | some I =>
      rw [hc] at h
      dsimp only at h
      have hok := mm_ok_all hc
      cases hstep : mm_step I f.1 f.2.1 f.2.2.1 f.2.2.2 with
      | none => rw [hstep] at h; cases h
      | some o =>
        rw [hstep] at h
        rcases o with f' | r' | ⟨m', vs, pc', mls', rest, h1⟩
        · -- a simple step
          dsimp only at h
          have le1 := mm_step_le h0 hstep
          have le2 := mm_run_le _ _ _ _ h le1.1
          refine mm_sim1 C hok hat hstep (by have := le1.2.1; have := le2.2.1; omega) (by have := le1.2.2; have := le2.2.2; omega) (fun H' locs' ls' st' as2 ws' hat' => ?_)
          refine ih y f' r h le1.1 p e R s m args below meth c D cA b L xs A C H' locs' _ _ Q (as ++ as2) ws' ls' st' hat' (by have := le1.2.1; have := le2.2.1; omega) (by have := le1.2.2; have := le2.2.2; omega) ?_
          intro pc2 I2 ls2 st2 H2 locs2 ls3 st3 as3 ws3 g1 g2 g3
          have := hend pc2 I2 ls2 st2 H2 locs2 ls3 st3 (as2 ++ as3) ws3 g1 g2 (by rw [← List.append_assoc]; exact g3)
          exact W.cs (by have := le1.2.1; have := le2.2.1; omega) (by have := le1.2.2; have := le2.2.2; omega) this
        · -- the end
          simp only [Option.some.injEq] at h
          subst h
          obtain ⟨e1, -⟩ := mm_step_ret hstep
          have := hend f.1 I f.2.1 f.2.2.1 H locs ls st [] ws hc (by rw [e1]; exact hstep) (by rw [List.append_nil, e1]; exact hat)
          rw [e1] at this
          exact W.cs (by omega) (by omega) this
        · -- a call
          dsimp only at h
          obtain ⟨e1, e2, e3, e4, -, hcat, hkind⟩ := mm_step_call hstep
          subst e1 e2 e3 e4
          have hl : (mm_spread vs).length ≤ mm_maxL I.2.2.2.1 := by
            rcases Nat.lt_or_ge (mm_maxL I.2.2.2.1) (mm_spread vs).length with g | g
            · rw [if_neg (by omega)] at h; cases h
            · exact g
          rw [if_pos hl] at h
          cases hr : mm_run n I.2.2.2.1 (0, mm_pad (mm_maxL I.2.2.2.1) (mm_spread vs), [], f.2.2.2) with
          | none => rw [hr] at h; cases h
          | some r0 =>
            rw [hr] at h
            dsimp only at h
            have le1 : mm_le f.2.2.2 r0.2 := mm_run_le n I.2.2.2.1 (0, mm_pad (mm_maxL I.2.2.2.1) (mm_spread vs), [], f.2.2.2) r0 hr h0
            have le2 : mm_le r0.2 r.2 := mm_run_le n y (f.1 + 3, f.2.1, r0.1.toList ++ rest, r0.2) r h le1.1
            obtain ⟨hRL, hRS, hRH, hP, hD, hS⟩ := hat
            obtain ⟨hx, hb, hml, hown, hts, hrt, hlk, hini, hK, hX, hbl, hbA, hA, hfr, hlo⟩ := id C
            have hcat8 : ∀ {rv : List Value}, mm_RS b as rest rv → (rv.map fun v => v.category).sum ≤ 8 := fun g => by rw [g.cat]; exact hcat
            have hAin : ∀ q, va_A ws H.size q → A q := fun q hq => by
              rcases hq with ⟨k, e, hk⟩ | hq
              · exact hD.2 k _ hk
              · exact hA q (Nat.le_trans hS.1 hq)
            have hXH : H[b]? = s.heap[b]? := hS.2.1 b hbl hbA
            have hB : ∀ (U : State), U.heap = H → s.WarmedH U.vm → mm_B D cA b L xs ws H.size U := fun U hU hW =>
              ⟨by rw [hU], by rw [hU]; exact hP, hK.moved hW.alike, hD.weaken (fun _ _ _ _ => trivial), by rw [hU]; exact (hX.moved hW.alike).kept hXH, by rw [hU]; exact Nat.lt_of_lt_of_le hbl hS.1, fun q => hbA (hAin b q)⟩
            have hfix : CallFix p m c (mm_bytes y) (mm_maxL y) s args mm_tbl (mm_cls y) := ⟨hx, hb, hml, hown, hts⟩
            have hfit : cells + (mm_nx r0.2 - mm_nx f.2.2.2) ≤ R.cells ∧ slots + (mm_sl r0.2 - mm_sl f.2.2.2) ≤ R.slots := ⟨by have := le1.2.1; have := le2.2.1; omega, by have := le1.2.2; have := le2.2.2; omega⟩
            have hcb : ∀ {idx k : Nat}, mm_okC y I idx I.2.2.2.1 = true → k = I.2.2.2.2.1 → (Cond.initialized (mm_cls I.2.2.2.1)).before args s = true → I.2.2.2.1 < 191 ∧ mm_dep I.2.2.2.1 < mm_dep y ∧
                CallB R s args (mm_cls y) idx (mm_name I.2.2.2.1) (mm_bytes I.2.2.2.1) (mm_maxL I.2.2.2.1) (mm_ret I.2.2.2.1) (mm_ws I.2.2.2.1) (mm_rm I.2.2.2.1 (mm_nx r0.2 - mm_nx f.2.2.2) (mm_sl r0.2 - mm_sl f.2.2.2)) (mm_nx r0.2 - mm_nx f.2.2.2) (mm_sl r0.2 - mm_sl f.2.2.2) k := by
              intro idx k hC hk hinit
              simp only [mm_okC, Bool.and_eq_true, decide_eq_true_eq] at hC
              obtain ⟨⟨hp0, hm1, hm2, hdep, hmx, -⟩, hcl⟩ := hC
              subst hk
              refine ⟨hm2, hdep, callB_of _ hts (mm_gin (fun w hw => ?_)) rfl rfl rfl hinit (hts _ (mm_pl_in hp0)) hcl ⟨by show mm_dep I.2.2.2.1 + 1 ≤ R.frames; omega, by show 8 + (mm_maxL I.2.2.2.1 + 11) + 39 * mm_dep I.2.2.2.1 ≤ R.locals; omega⟩⟩
              rcases List.mem_cons.mp hw with e | hw
              · rw [e]; exact mm_code_in _ hm1 hm2
              · exact hw
            have hgo : ∀ (rv : List Value) (av : Array Value), mm_RS b as rest rv → va_Run p l e R s m args below meth c H locs cells slots (mm_nx r0.2 - mm_nx f.2.2.2) (mm_sl r0.2 - mm_sl f.2.2.2) (F0 m f.1 ls st) rv (mm_Qc D cA b L xs as (va_A ws H.size) r0 av) (va_A ws H.size) → W p l e R s m args below meth c H locs cells slots Q (F0 m f.1 ls st) := by
              intro rv av hrv hrun
              refine mm_callG (PB := mm_PB D cA b L xs as (va_A ws H.size) r0) hrun hS (fun q _ hq => hAin q hq) hAin (fun v t H1 locs1 ht hvm hpb hS1 => ?_)
              obtain ⟨as2, ws', hRO, hRH', hP', hK', hD'⟩ := hpb
              refine ih y (f.1 + 3, f.2.1, r0.1.toList ++ rest, r0.2) r h le1.1 p e R s m args below meth c D cA b L xs A C H1 locs1 _ _ Q (as ++ as2) ws' ls _ ⟨hRL.app _, hRO.stack (hrv.app _), hRH', by rw [← ht]; exact hP', hD'.weaken (fun _ _ _ hq => hAin _ hq), hS1⟩ (by have := le1.2.1; have := le2.2.1; dsimp only; omega) (by have := le1.2.2; have := le2.2.2; dsimp only; omega) ?_
              intro pc2 I2 ls2 st2 H2 locs2 ls3 st3 as3 ws3 g1 g2 g3
              have := hend pc2 I2 ls2 st2 H2 locs2 ls3 st3 (as2 ++ as3) ws3 g1 g2 (by rw [← List.append_assoc]; exact g3)
              refine W.cs ?_ ?_ this
              · have := le1.2.1; have := le2.2.1; dsimp only; omega
              · have := le1.2.2; have := le2.2.2; dsimp only; omega
            rcases hkind with ⟨i, hI, hk, hvs, hrest⟩ | ⟨i, a, hI, hdrop, hvs, fs, hobj⟩ | ⟨i, a, hI, hk1000, hdrop, hvs⟩
            · -- static
              obtain ⟨ins, len, cst, xx, kk, pls⟩ := I
              dsimp only at hI
              subst hI
              simp only [mm_okI, mm_okD, Bool.and_eq_true, decide_eq_true_eq] at hok
              obtain ⟨hd, ⟨⟨⟨hlen, hC⟩, hkd⟩, hst1⟩, hin1⟩ := hok
              subst hlen
              dsimp only at *
              obtain ⟨hm2, hdep, hCB⟩ := hcb (k := kk) hC rfl (hts _ (mm_pl_in hin1))
              have hlenS := hRS.len
              have hsv : mm_RS b as vs ((st.take kk).reverse) := by rw [hvs]; exact (hRS.take kk).rev
              have hrv : mm_RS b as rest (st.drop kk) := by rw [hrest]; exact hRS.drop kk
              refine hgo (st.drop kk) ((st.take kk).reverse).toArray hrv (va_runS (n := kk) (As := (st.take kk).reverse) hfix (mm_met (ih) hm2 hr h0 hl hsv hRH H.size) ⟨hCB, hts _ (mm_pl_in hst1)⟩ ⟨mm_blind, fun U hU hW => ⟨rfl, hB U hU hW⟩⟩ rfl (by rw [List.length_reverse, List.length_take]; omega) hRL.1 (by rw [List.reverse_reverse]; exact (List.take_append_drop kk st).symm) (lv_room (hcat8 hrv)) hd hfit)
            · -- of an object
              obtain ⟨ins, len, cst, xx, kk, pls⟩ := I
              dsimp only at hI
              subst hI
              simp only [mm_okI, mm_okD, Bool.and_eq_true, decide_eq_true_eq] at hok
              obtain ⟨hd, ⟨⟨⟨⟨⟨hlen, hC⟩, hkd⟩, hst1⟩, hsel⟩, hin1⟩, hvc⟩ := hok
              subst hlen
              dsimp only at *
              obtain ⟨hm2, hdep, hCB⟩ := hcb (k := kk) hC rfl (hts _ (mm_pl_in hin1))
              have hlenS := hRS.len
              have hdr := hRS.drop kk
              rw [hdrop] at hdr
              obtain ⟨w, rv, hdv, hw, hrv⟩ := hdr
              obtain ⟨q0, q, gs, ea, ew, ha, hwq, hfs⟩ := hRH.obj hobj hw
              have hsv : mm_RS b as vs (w :: (st.take kk).reverse) := by rw [hvs]; exact ⟨w, _, rfl, hw, (hRS.take kk).rev⟩
              split at hvc
              · next C0 T0 N0 hcl =>
                have hvc := of_decide_eq_true hvc
                subst ew
                have hklt : kk < st.length := by
                  rcases Nat.lt_or_ge kk st.length with g | g
                  · exact g
                  · rw [List.drop_eq_nil_of_le g] at hdv; cases hdv
                obtain ⟨cell, hc1, hc2, hc3⟩ := va_recv hK hP (ci := cst.toNat) (q0 := q0) hcl hwq
                refine hgo rv (Value.ref q :: (st.take kk).reverse).toArray hrv (va_runV (n := kk) (C := mm_cls xx) (b := q) (As := (st.take kk).reverse) hfix (mm_met (ih) hm2 hr h0 hl hsv hRH H.size) ⟨hCB, hts _ (mm_pl_in hst1), hts _ (mm_pl_in hsel)⟩ ⟨mm_blind, ⟨cell, hc1, hc2, by rw [← hvc]; exact hc3⟩, fun U hU hW => ⟨rfl, hB U hU hW⟩⟩ rfl (by rw [List.length_reverse, List.length_take]; omega) hRL.1 (by rw [List.reverse_reverse, ← hdv]; exact (List.take_append_drop kk st).symm) (lv_room (hcat8 hrv)) hd hfit)
              · cases hvc
            · -- a constructor
              obtain ⟨ins, len, cst, xx, kk, pls⟩ := I
              dsimp only at hI
              subst hI
              dsimp only at hk1000
              simp only [mm_okI, mm_okD, Bool.and_eq_true, decide_eq_true_eq] at hok
              rw [if_neg hk1000] at hok
              simp only [Bool.and_eq_true, decide_eq_true_eq] at hok
              obtain ⟨hd, hlen, ⟨⟨⟨⟨hC, hkd⟩, hst1⟩, hin1⟩, hnm⟩, hrn⟩ := hok
              subst hlen
              dsimp only at *
              obtain ⟨hm2, hdep, hCB⟩ := hcb (k := kk) hC rfl (hts _ (mm_pl_in hin1))
              have hlenS := hRS.len
              have hdr := hRS.drop kk
              rw [hdrop] at hdr
              obtain ⟨w, rv, hdv, hw, hrv⟩ := hdr
              obtain ⟨q, ew⟩ : ∃ q, w = .ref q := by
                match a, hw with
                | 1, hw2 => exact ⟨_, hw2⟩
                | j + 2, ⟨q, _, hw2⟩ => exact ⟨q, hw2⟩
              have hsv : mm_RS b as vs (w :: (st.take kk).reverse) := by rw [hvs]; exact ⟨w, _, rfl, hw, (hRS.take kk).rev⟩
              subst ew
              have hklt : kk < st.length := by
                rcases Nat.lt_or_ge kk st.length with g | g
                · exact g
                · rw [List.drop_eq_nil_of_le g] at hdv; cases hdv
              rw [hrn] at hCB
              refine hgo rv (Value.ref q :: (st.take kk).reverse).toArray hrv (va_runI (n := kk) (b := q) (As := (st.take kk).reverse) hfix (mm_met (ih) hm2 hr h0 hl hsv hRH H.size) ⟨hCB, hnm, hts _ (mm_pl_in hst1)⟩ ⟨mm_blind, fun U hU hW => ⟨rfl, hB U hU hW⟩⟩ rfl (by rw [List.length_reverse, List.length_take]; omega) hRL.1 (by rw [List.reverse_reverse, ← hdv]; exact (List.take_append_drop kk st).symm) (lv_room (hcat8 hrv)) hd hfit)
end
section
def mm_h0 (L : Nat) (f : Nat → Int) : mm_H := fun a => match a with
  | 0 => .inl (100, 2, fun _ => 0)
  | 1 => .inl (3, L, f)
  | _ => mm_dead
def R_law : String := "WideNamesLaw"
def lw_P (b : Addr) (xs : List Int32) (args : Array Value) (s : State) : Prop := args = #[.ref b] ∧ s.IntsAt b xs ∧ xs.length ≤ 320 ∧ (Jvm.Cond.and given_1 narrow_1).before args s = true
def lw_Q (_ : Array Value) (s : State) (o : Outcome) (t : State) : Prop := o = .returned (some (.int 1)) ∧ Framed s o t [] 600000 7302250
def lw_Z (below : List Frame) (a : Array Value) (s : State) : State → Prop := fun t => ∃ o, t.status = .running ∧ Ended t below o ∧ lw_Q a s o t
/-- the law's own end, with 1 on the stack, nothing written that was there before, its room as the claim has it -/
theorem lw_ret {p : Program} {l : Launch} {e : Env} {s : State} {m : MethodId} {below : List Frame} {meth : Method} {c : Code} {b : Nat} (hx : p.tables.exec = Jvm.exec) (hb : c.code = code) (hr : meth.sig.returnType = ret) (hlocks : meth.locks = false) {pc : Nat} {H : Heap} {ls : Array Slot} (hdg : decode code pc = .ok (.ireturn, 1)) : W p l e room_1 s m #[Value.ref b] below meth c H [] 600000 7302250 (lw_Z below #[Value.ref b] s) (F0 m pc ls [.int 1]) := by
  intro T hT X
  obtain ⟨fs, hret, hrun, hended, hW, hframe⟩ := X.leave (v := some (.int 1)) (hlocks := hlocks) (fun h => by rw [hr] at h; cases h)
  have hmeth' : T.vm.method? m = some meth := X.method'
  refine ⟨T.setFrames fs, ?_, .returned (some (.int 1)), hrun, hended, rfl, ⟨_, rfl⟩, hW, hframe⟩
  jvm_step X.here [X.here.top, hx, hb, hdg, hmeth', hr, ret, narrow_b1]
  (try refine ⟨rfl, ?_⟩); (try refine ⟨rfl, ?_⟩)
  first | (intro acts; rw [hret _ acts rfl rfl rfl]) | rw [hret _ _ rfl rfl rfl]
  exact Steps.refl _
def lw_At (p : Program) (s : State) (m : MethodId) (meth : Method) (c : Code) (b L : Nat) (xs : Nat → Int32) : Prop :=
  p.tables.exec = Jvm.exec ∧ c.code = code ∧ meth.sig.returnType = ret ∧ c.maxLocals = 4 ∧ s.vm.findClass R_law = some m.cls ∧ (∀ w ∈ lw_tbl, w.before #[Value.ref b] s = true) ∧ va_X b L xs s s.heap ∧ b < s.heap.size ∧ meth.locks = false ∧ (Jvm.Cond.and given_1 narrow_1).before #[Value.ref b] s = true
theorem mm_inst : ∀ (k : Nat) (q : vw_C), vwCl[k]? = some q → Jvm.Cond.instantiable q.1 q.2.2 ∈ lw_tbl := by
  have h : vwCl.all (fun q => decide (Jvm.Cond.instantiable q.1 q.2.2 ∈ lw_tbl)) = true := by decide +kernel
  intro k q hq
  exact of_decide_eq_true (List.all_eq_true.mp h q (List.mem_of_getElem? hq))
/-- what is left to show: the law on the small machine -/
def mm_Law : Prop := ∀ (L : Nat) (f : Nat → Int), L ≤ 320 → (∀ j, -2147483648 ≤ f j ∧ f j < 2147483648) → ∃ (n : Nat) (h' : mm_H), mm_run n 0 (0, [.inr (.inr (some 1)), mm_null, mm_null, mm_null], [], mm_h0 L f) = some (some (.inl 1), h') ∧ mm_nx h' ≤ 600002 ∧ mm_sl h' ≤ 7302350
set_option maxHeartbeats 4000000 in
theorem mm_start (HL : mm_Law) {p : Program} {e : Env} {s : State} {m : MethodId} {below : List Frame} {meth : Method} {c : Code} (l : Launch) {b L : Nat} {xs : Nat → Int32} (hL : L ≤ 320) (C0 : lw_At p s m meth c b L xs) : W p l e room_1 s m #[Value.ref b] below meth c s.heap [] 0 0 (lw_Z below #[Value.ref b] s) (entryFrame m ([Value.ref b] : List Value).toArray 4) := by
  obtain ⟨hx, hb, hr, hml, hown, hts0, hX, hbl, hlocks, hgv⟩ := id C0
  have hts := mm_tbl_hts hts0
  obtain ⟨cA0, ha0⟩ := mm_arrK.1 (hts _ mm_arrcls.1)
  obtain ⟨cA1, ha1⟩ := mm_arrK.2.1 (hts _ mm_arrcls.2.1)
  obtain ⟨cA2, ha2⟩ := mm_arrK.2.2 (hts _ mm_arrcls.2.2)
  let cA : Nat → ClassId := fun k => if k = 0 then cA0 else if k = 1 then cA1 else cA2
  have hcls : ∀ (k : Nat), ∃ (d : ClassId × (Nat → Nat)), ∀ (q : vw_C), vwCl[k]? = some q → u_Kn s q.1 q.2.1 q.2.2 d.1 d.2 := by
    intro k
    cases hq : vwCl[k]? with
    | none => exact ⟨(cA0, fun _ => 0), fun q h => by cases h⟩
    | some q =>
      obtain ⟨C, T, N⟩ := q
      obtain ⟨cC, iS, hk⟩ := u_known hts (mm_cls_ok k C T N hq).1 (hts0 _ (mm_inst k _ hq))
      exact ⟨(cC, iS), fun q h => by cases h; exact hk⟩
  let dC : Nat → ClassId := fun k => (Classical.choose (hcls k)).1
  let dI : Nat → Nat → Nat := fun k => (Classical.choose (hcls k)).2
  have hK : va_K (dC, dI) vwCl (mm_tys cA) s := by
    refine ⟨fun k q hq => Classical.choose_spec (hcls k) q hq, fun k q hk => ?_⟩
    match k, hk with
    | 0, hk => cases hk; exact ha0
    | 1, hk => cases hk; exact ha1
    | 2, hk => cases hk; exact ha2
    | j + 3, hk => simp [mm_tys] at hk
  have hP : va_P (dC, dI) vwCl [] s.heap := fun k q h => by simp at h
  have hD : va_D (fun q : Nat => s.heap.size ≤ q) [] := ⟨fun i j p q h => by simp at h, fun k q h => by simp at h⟩
  obtain ⟨n, h', hrun, hn1, hn2⟩ := HL L (fun j => (xs j).toInt) hL (fun j => mm_rng (xs j))
  have C : mm_Cx p s m #[Value.ref b] meth c 0 (dC, dI) cA b L xs (fun q : Nat => s.heap.size ≤ q) room_1 :=
    ⟨hx, hb, hml, hown, hts, hr, hlocks, fun h => absurd h (by decide), hK, hX, hbl, Nat.not_le.mpr hbl, fun _ h => h, by decide +kernel, by decide +kernel⟩
  have hRS : mm_RS b [] [.inr (.inr (some 1))] [.ref b] := ⟨_, _, rfl, rfl, rfl⟩
  have hRH : mm_RH cA b L xs [] [] (mm_h0 L (fun j => (xs j).toInt)) := ⟨⟨100, _, rfl, Nat.le_refl _⟩, ⟨_, rfl, fun _ => rfl⟩, rfl, fun k a h => by simp at h, fun k _ => rfl⟩
  have hc0 : mm_c0 (mm_h0 L (fun j => (xs j).toInt)) := ⟨100, 2, _, rfl, Nat.le_refl _, Nat.le_refl _⟩
  have he := mm_entry (n := 4) hRS (by decide)
  rw [lg_entry_eq]
  have hnx : mm_nx (mm_h0 L (fun j => (xs j).toInt)) = 2 := rfl
  have hsl : mm_sl (mm_h0 L (fun j => (xs j).toInt)) = 100 := rfl
  refine mm_sim l n 0 (0, [.inr (.inr (some 1)), mm_null, mm_null, mm_null], [], mm_h0 L (fun j => (xs j).toInt)) _ hrun hc0 p e room_1 s m _ below meth c (dC, dI) cA b L xs _ C s.heap [] 0 0 _ [] [] _ [] ⟨he, rfl, hRH, hP, hD, va_S.rf⟩ ?_ ?_ ?_
  · dsimp only; rw [hnx]; show 0 + (mm_nx h' - 2) ≤ 600000; omega
  · dsimp only; rw [hsl]; show 0 + (mm_sl h' - 100) ≤ 7302250; omega
  · intro pc' I ls1 st1 H' locs' ls' st' as2 ws' hcode hst hat
    dsimp only
    rw [hnx, hsl]
    have hok := mm_ok_all hcode
    have hrn := mm_ret_none (by decide) hcode
    obtain ⟨-, hc⟩ := mm_step_ret hst
    obtain ⟨hRL', hRS', hRH', hP', hD', hS'⟩ := hat
    obtain ⟨ins, len, cst, xx, kk, pls⟩ := I
    rcases hc with ⟨hI, hst0, hr1⟩ | ⟨hI, z, hst0, hr1, hz⟩ | ⟨hI, a, hst0, hr1⟩
    · cases hr1
    · dsimp only at hI hr1
      cases hr1
      subst hI
      subst hst0
      obtain ⟨w, s2, hst', ⟨x, hw, hx1⟩, hs2⟩ := hRS'
      have hs2' : s2 = [] := hs2
      subst hst' hw hs2'
      have hx2 : x = 1 := Int32.toInt_inj.mp hx1
      subst hx2
      simp only [mm_okI, mm_okD, Bool.and_eq_true, decide_eq_true_eq] at hok
      obtain ⟨hd, hl1, -⟩ := hok
      subst hl1
      refine va_forget (fun q hq => hS'.2.2 q hq) ?_
      refine W.widen (k := 600000) (n := 7302250) (by omega) (by omega) ?_
      exact lw_ret hx hb hr hlocks hd
    · cases hr1
end
section
/-! THE CELLS behind the constructors: each number's kind (an array: type and length; an object: class, and for each field the cell that it names, or none for an int), and all numbers in them as one function. -/
abbrev vI (z : Int) : mm_V := .inl z
abbrev vJ (z : Int) : mm_V := .inr (.inl z)
abbrev vP (a : Nat) : mm_V := .inr (.inr (some a))
abbrev mk_K : Type := (Nat × Nat) ⊕ (Nat × List (Option Nat))
def mk_tab : List mk_K := [.inr (9, [some 3, some 5, some 7, some 9, some 11, some 17, some 22, some 25, some 30, some 34]), .inr (7, [some 4, none]), .inl (0, 400), .inr (7, [some 6, none]), .inl (0, 300), .inr (7, [some 8, none]), .inl (0, 300), .inr (7, [some 10, none]), .inl (0, 300), .inr (8, [some 12, some 13, some 14, some 15, some 16, none]), .inl (0, 200), .inl (0, 200), .inl (0, 200), .inl (0, 200), .inl (0, 800), .inr (4, [some 18, some 19, some 20, some 21, none]), .inl (0, 100), .inl (0, 100), .inl (0, 100), .inl (1, 100), .inr (6, [some 23, some 24, none]), .inl (0, 100), .inl (0, 100), .inr (5, [some 26, some 27, some 28, some 29, none]), .inl (0, 200), .inl (0, 200), .inl (0, 200), .inl (0, 200), .inr (1, [some 17, some 22, some 31, some 32]), .inl (0, 128), .inr (7, [some 33, none]), .inl (0, 300), .inr (0, [some 11, some 30, some 35, some 40, some 42, some 44, some 46, some 50, some 51, some 53, none, none, none]), .inr (2, [some 11, some 22, some 25, some 36, some 38, none]), .inr (7, [some 37, none]), .inl (0, 300), .inr (7, [some 39, none]), .inl (0, 300), .inr (7, [some 41, none]), .inl (0, 300), .inr (7, [some 43, none]), .inl (0, 300), .inr (7, [some 45, none]), .inl (0, 300), .inr (3, [some 47, some 49, none]), .inr (7, [some 48, none]), .inl (0, 300), .inl (0, 301), .inl (0, 301), .inr (7, [some 52, none]), .inl (0, 1200), .inr (7, [some 54, none]), .inl (0, 1200), .inr (10, [none, some 56, none, some 57, none, none, some 58, some 59, some 60, some 61, some 62, none, some 63, some 64, some 65, some 66, none, some 67, some 68, none, some 69, some 70, some 71, some 72, some 73, none, none, some 74, none, some 75, some 76, none, some 77, some 78, none, some 79, none, none, none, none, none, some 80, none, none, some 81, some 82, some 83, some 84, none, some 85, none, some 86, some 87]), .inl (2, 400), .inl (0, 300), .inl (0, 200), .inl (0, 200), .inl (0, 200), .inl (0, 800), .inl (0, 200), .inl (0, 100), .inl (0, 100), .inl (0, 100), .inl (1, 100), .inl (0, 100), .inl (0, 100), .inl (0, 200), .inl (0, 200), .inl (0, 200), .inl (0, 200), .inl (0, 400), .inl (0, 301), .inl (0, 400), .inl (0, 301), .inl (0, 300), .inl (0, 2600), .inl (0, 301), .inl (0, 305), .inl (0, 2000), .inl (0, 402), .inl (0, 402), .inl (2, 8000), .inl (2, 8000), .inl (0, 301), .inl (0, 402)]
def kd (L : Nat) (a : Nat) : mk_K := match a with
  | 0 => .inl (37879, 88)
  | 1 => .inl (3, L)
  | a + 2 => mk_tab.getD a (.inr (99, []))
def fl : List (Option Nat) → (Nat → Int) → Nat → List mm_V
  | [], _, _ => []
  | none :: r, f, k => vI (f k) :: fl r f (k + 1)
  | some a :: r, f, k => vP a :: fl r f (k + 1)
abbrev mk_S : Type := Nat → Nat → Int
def hp (L : Nat) (σ : mk_S) : mm_H := fun a => match kd L a with
  | .inl (t, n) => .inl (t, n, σ a)
  | .inr (c, fs) => .inr (c, fl fs (σ a) 0)
def sto (σ : mk_S) (a k : Nat) (z : Int) : mk_S := fun b => if b = a then mm_st (σ a) k z else σ b
theorem sto_at (σ : mk_S) (a k : Nat) (z : Int) : sto σ a k z a = mm_st (σ a) k z := if_pos rfl
theorem sto_ne {σ : mk_S} {a k : Nat} {z : Int} {b : Nat} (h : b ≠ a) : sto σ a k z b = σ b := if_neg h
theorem st_at (f : Nat → Int) (k : Nat) (z : Int) : mm_st f k z k = z := if_pos rfl
theorem st_ne {f : Nat → Int} {k : Nat} {z : Int} {j : Nat} (h : j ≠ k) : mm_st f k z j = f j := if_neg h
theorem sto_get (σ : mk_S) (a k : Nat) (z : Int) : sto σ a k z a k = z := by rw [sto_at, st_at]
theorem sto_get2 {σ : mk_S} {a k : Nat} {z : Int} {b j : Nat} (h : b ≠ a ∨ j ≠ k) : sto σ a k z b j = σ b j := by
  by_cases e : b = a
  · subst e
    rw [sto_at, st_ne (h.resolve_left (fun q => q rfl))]
  · rw [sto_ne e]
theorem fl_get : ∀ (fs : List (Option Nat)) (f : Nat → Int) (k j : Nat), (fl fs f k)[j]? = match fs[j]? with
    | some none => some (vI (f (k + j)))
    | some (some a) => some (vP a)
    | none => none
  | [], f, k, j => by simp [fl]
  | none :: r, f, k, 0 => by simp [fl]
  | some a :: r, f, k, 0 => by simp [fl]
  | none :: r, f, k, j + 1 => by
    simp only [fl, List.getElem?_cons_succ]
    rw [fl_get r f (k + 1) j, show k + 1 + j = k + (j + 1) by omega]
  | some a :: r, f, k, j + 1 => by
    simp only [fl, List.getElem?_cons_succ]
    rw [fl_get r f (k + 1) j, show k + 1 + j = k + (j + 1) by omega]
theorem fl_congr : ∀ (fs : List (Option Nat)) (f g : Nat → Int) (k : Nat), (∀ j, k ≤ j → f j = g j) → fl fs f k = fl fs g k
  | [], _, _, _, _ => rfl
  | none :: r, f, g, k, h => by simp only [fl]; rw [h k (Nat.le_refl k), fl_congr r f g (k + 1) (fun j hj => h j (by omega))]
  | some a :: r, f, g, k, h => by simp only [fl]; rw [fl_congr r f g (k + 1) (fun j hj => h j (by omega))]
theorem fl_set : ∀ (fs : List (Option Nat)) (f : Nat → Int) (k j : Nat) (z : Int), fs[j]? = some none → (fl fs f k).set j (vI z) = fl fs (mm_st f (k + j) z) k
  | [], f, k, j, z, h => by simp at h
  | none :: r, f, k, 0, z, h => by
    simp only [fl, List.set_cons_zero, Nat.add_zero, st_at]
    rw [fl_congr r f (mm_st f k z) (k + 1) (fun j hj => (st_ne (by omega)).symm)]
  | some a :: r, f, k, 0, z, h => by simp at h
  | none :: r, f, k, j + 1, z, h => by
    simp only [List.getElem?_cons_succ] at h
    simp only [fl, List.set_cons_succ]
    rw [fl_set r f (k + 1) j z h, show k + 1 + j = k + (j + 1) by omega, st_ne (by omega)]
  | some a :: r, f, k, j + 1, z, h => by
    simp only [List.getElem?_cons_succ] at h
    simp only [fl, List.set_cons_succ]
    rw [fl_set r f (k + 1) j z h, show k + 1 + j = k + (j + 1) by omega]
theorem fl_len : ∀ (fs : List (Option Nat)) (f : Nat → Int) (k : Nat), (fl fs f k).length = fs.length
  | [], _, _ => rfl
  | none :: r, f, k => by simp only [fl, List.length_cons, fl_len r]
  | some a :: r, f, k => by simp only [fl, List.length_cons, fl_len r]
theorem hp_obj {L : Nat} {σ : mk_S} {a ci : Nat} {fs : List (Option Nat)} (h : kd L a = .inr (ci, fs)) : hp L σ a = .inr (ci, fl fs (σ a) 0) := by
  unfold hp; rw [h]
theorem hp_arr {L : Nat} {σ : mk_S} {a t n : Nat} (h : kd L a = .inl (t, n)) : hp L σ a = .inl (t, n, σ a) := by
  unfold hp; rw [h]
theorem hp_objq {L : Nat} {σ : mk_S} {a ci : Nat} {fs : List (Option Nat)} (h : kd L a = .inr (ci, fs)) : mm_obj (hp L σ) (some a) ci = some (fl fs (σ a) 0) := by
  simp only [mm_obj, hp_obj h, if_true]
theorem hp_arrq {L : Nat} {σ : mk_S} {a t n : Nat} (h : kd L a = .inl (t, n)) : mm_arr (hp L σ) (some a) = some (t, n, σ a) := by
  simp only [mm_arr, hp_arr h]
theorem hp_put {L : Nat} {σ : mk_S} {a ci k : Nat} {fs : List (Option Nat)} {z : Int} (h : kd L a = .inr (ci, fs)) (hf : fs[k]? = some none) : mm_up (hp L σ) a (.inr (ci, (fl fs (σ a) 0).set k (vI z))) = hp L (sto σ a k z) := by
  funext b
  by_cases e : b = a
  · subst e
    simp only [mm_up, if_true]
    rw [hp_obj h, fl_set fs _ 0 k z hf, sto_at, Nat.zero_add]
  · simp only [mm_up, if_neg e]
    unfold hp
    rw [sto_ne e]
theorem hp_sta {L : Nat} {σ : mk_S} {a t n j : Nat} {z : Int} (h : kd L a = .inl (t, n)) : mm_up (hp L σ) a (.inl (t, n, mm_st (σ a) j z)) = hp L (sto σ a j z) := by
  funext b
  by_cases e : b = a
  · subst e
    simp only [mm_up, if_true]
    rw [hp_arr h, sto_at]
  · simp only [mm_up, if_neg e]
    unfold hp
    rw [sto_ne e]
theorem w32_id {z : Int} (h : -2147483648 ≤ z ∧ z ≤ 2147483647) : mm_w32 z = z := by unfold mm_w32; omega
theorem w64_id {z : Int} (h : -9223372036854775808 ≤ z ∧ z ≤ 9223372036854775807) : mm_w64 z = z := by unfold mm_w64; omega
/-- a call: of method m, with its arguments -/
def mm_call (m : Nat) (vs : List mm_V) (h : mm_H) (Q : Option mm_V → mm_H → Prop) : Prop := (mm_spread vs).length ≤ mm_maxL m ∧ mm_X m 0 (mm_pad (mm_maxL m) (mm_spread vs)) [] h Q
end
section
/-! ROWS: backwards, one an instruction. -/
section ROWS
variable {y pc L : Nat} {ls st rest : List mm_V} {h : mm_H} {σ : mk_S} {Q : Option mm_V → mm_H → Prop} {c : Int} {x k : Nat} {pl : List Nat} {z w : Int}
theorem r_iconst {n} (hc : mm_code y pc = some (.iconst n, 1, c, x, k, pl)) (kk : mm_X y (pc + 1) ls (vI c :: st) h Q) : mm_X y pc ls st h Q := by
  rw [mm_unf hc]
  simp only [mm_step, mm_push, mm_go]
  exact kk
theorem r_bipush {n} (hc : mm_code y pc = some (.bipush n, 2, c, x, k, pl)) (kk : mm_X y (pc + 2) ls (vI c :: st) h Q) : mm_X y pc ls st h Q := by
  rw [mm_unf hc]
  simp only [mm_step, mm_push, mm_go]
  exact kk
theorem r_sipush {n} (hc : mm_code y pc = some (.sipush n, 3, c, x, k, pl)) (kk : mm_X y (pc + 3) ls (vI c :: st) h Q) : mm_X y pc ls st h Q := by
  rw [mm_unf hc]
  simp only [mm_step, mm_push, mm_go]
  exact kk
theorem r_ldc {n} (hc : mm_code y pc = some (.ldc n, 2, c, x, k, pl)) (kk : mm_X y (pc + 2) ls (vI c :: st) h Q) : mm_X y pc ls st h Q := by
  rw [mm_unf hc]
  simp only [mm_step, mm_push, mm_go]
  exact kk
theorem r_ldc_w {n} (hc : mm_code y pc = some (.ldc_w n, 3, c, x, k, pl)) (kk : mm_X y (pc + 3) ls (vI c :: st) h Q) : mm_X y pc ls st h Q := by
  rw [mm_unf hc]
  simp only [mm_step, mm_push, mm_go]
  exact kk
theorem r_lconst {n} (hc : mm_code y pc = some (.lconst n, 1, c, x, k, pl)) (kk : mm_X y (pc + 1) ls (vJ c :: st) h Q) : mm_X y pc ls st h Q := by
  rw [mm_unf hc]
  simp only [mm_step, mm_push, mm_go]
  exact kk
theorem r_ldc2_w {n} (hc : mm_code y pc = some (.ldc2_w n, 3, c, x, k, pl)) (kk : mm_X y (pc + 3) ls (vJ c :: st) h Q) : mm_X y pc ls st h Q := by
  rw [mm_unf hc]
  simp only [mm_step, mm_push, mm_go]
  exact kk
theorem r_iload {n} {z : Int} (hc : mm_code y pc = some (.iload n, 2, c, x, k, pl)) (hg : mm_get ls n = vI z) (kk : mm_X y (pc + 2) ls (vI z :: st) h Q) : mm_X y pc ls st h Q := by
  rw [mm_unf hc]
  simp only [mm_step, mm_iload, hg, mm_go]
  exact kk
theorem r_iload_n {n} {z : Int} (hc : mm_code y pc = some (.iload_n n, 1, c, x, k, pl)) (hg : mm_get ls n = vI z) (kk : mm_X y (pc + 1) ls (vI z :: st) h Q) : mm_X y pc ls st h Q := by
  rw [mm_unf hc]
  simp only [mm_step, mm_iload, hg, mm_go]
  exact kk
theorem r_lload {n} {z : Int} (hc : mm_code y pc = some (.lload n, 2, c, x, k, pl)) (hg : mm_get ls n = vJ z) (kk : mm_X y (pc + 2) ls (vJ z :: st) h Q) : mm_X y pc ls st h Q := by
  rw [mm_unf hc]
  simp only [mm_step, mm_lload, hg, mm_go]
  exact kk
theorem r_lload_n {n} {z : Int} (hc : mm_code y pc = some (.lload_n n, 1, c, x, k, pl)) (hg : mm_get ls n = vJ z) (kk : mm_X y (pc + 1) ls (vJ z :: st) h Q) : mm_X y pc ls st h Q := by
  rw [mm_unf hc]
  simp only [mm_step, mm_lload, hg, mm_go]
  exact kk
theorem r_aload {n} {a : Nat} (hc : mm_code y pc = some (.aload n, 2, c, x, k, pl)) (hg : mm_get ls n = vP a) (kk : mm_X y (pc + 2) ls (vP a :: st) h Q) : mm_X y pc ls st h Q := by
  rw [mm_unf hc]
  simp only [mm_step, mm_aload, hg, mm_go]
  exact kk
theorem r_aload_n {n} {a : Nat} (hc : mm_code y pc = some (.aload_n n, 1, c, x, k, pl)) (hg : mm_get ls n = vP a) (kk : mm_X y (pc + 1) ls (vP a :: st) h Q) : mm_X y pc ls st h Q := by
  rw [mm_unf hc]
  simp only [mm_step, mm_aload, hg, mm_go]
  exact kk
theorem r_istore_g {n} {z : Int} (hc : mm_code y pc = some (.istore n, 2, c, x, k, pl)) (ho : mm_ok1 ls n = true) (kk : mm_X y (pc + 2) (ls.set n (vI z)) st h Q) : mm_X y pc ls (vI z :: st) h Q := by
  rw [mm_unf hc]
  simp only [mm_step, mm_istore, ho, if_true, mm_go]
  exact kk
theorem r_istore_n_g {n} {z : Int} (hc : mm_code y pc = some (.istore_n n, 1, c, x, k, pl)) (ho : mm_ok1 ls n = true) (kk : mm_X y (pc + 1) (ls.set n (vI z)) st h Q) : mm_X y pc ls (vI z :: st) h Q := by
  rw [mm_unf hc]
  simp only [mm_step, mm_istore, ho, if_true, mm_go]
  exact kk
theorem r_astore_g {n} {a : Nat} (hc : mm_code y pc = some (.astore n, 2, c, x, k, pl)) (ho : mm_ok1 ls n = true) (kk : mm_X y (pc + 2) (ls.set n (vP a)) st h Q) : mm_X y pc ls (vP a :: st) h Q := by
  rw [mm_unf hc]
  simp only [mm_step, mm_astore, ho, if_true, mm_go]
  exact kk
theorem r_astore_n_g {n} {a : Nat} (hc : mm_code y pc = some (.astore_n n, 1, c, x, k, pl)) (ho : mm_ok1 ls n = true) (kk : mm_X y (pc + 1) (ls.set n (vP a)) st h Q) : mm_X y pc ls (vP a :: st) h Q := by
  rw [mm_unf hc]
  simp only [mm_step, mm_astore, ho, if_true, mm_go]
  exact kk
theorem r_lstore_g {n} {z : Int} (hc : mm_code y pc = some (.lstore n, 2, c, x, k, pl)) (ho : mm_ok1 ls n = true) (kk : mm_X y (pc + 2) ((ls.set n (vJ z)).set (n + 1) mm_null) st h Q) : mm_X y pc ls (vJ z :: st) h Q := by
  rw [mm_unf hc]
  simp only [mm_step, mm_lstore, ho, if_true, mm_go]
  exact kk
theorem r_lstore_n_g {n} {z : Int} (hc : mm_code y pc = some (.lstore_n n, 1, c, x, k, pl)) (ho : mm_ok1 ls n = true) (kk : mm_X y (pc + 1) ((ls.set n (vJ z)).set (n + 1) mm_null) st h Q) : mm_X y pc ls (vJ z :: st) h Q := by
  rw [mm_unf hc]
  simp only [mm_step, mm_lstore, ho, if_true, mm_go]
  exact kk
theorem r_iinc_g {n} {d : Int} {z : Int} (hc : mm_code y pc = some (.iinc n d, 3, c, x, k, pl)) (hg : mm_get ls n = vI z) (ho : mm_ok1 ls n = true) (hr : -2147483648 ≤ z + d ∧ z + d ≤ 2147483647) (kk : mm_X y (pc + 3) (ls.set n (vI (z + d))) st h Q) : mm_X y pc ls st h Q := by
  rw [mm_unf hc]
  simp only [mm_step, mm_iinc, hg, ho, if_true, mm_go, w32_id hr]
  exact kk
theorem r_iadd  (hc : mm_code y pc = some (.iadd, 1, c, x, k, pl)) (hr : -2147483648 ≤ z + w ∧ z + w ≤ 2147483647) (kk : mm_X y (pc + 1) ls (vI (z + w) :: st) h Q) : mm_X y pc ls (vI w :: vI z :: st) h Q := by
  rw [mm_unf hc]
  simp only [mm_step, mm_bin, mm_go, w32_id hr]
  exact kk
theorem r_isub  (hc : mm_code y pc = some (.isub, 1, c, x, k, pl)) (hr : -2147483648 ≤ z - w ∧ z - w ≤ 2147483647) (kk : mm_X y (pc + 1) ls (vI (z - w) :: st) h Q) : mm_X y pc ls (vI w :: vI z :: st) h Q := by
  rw [mm_unf hc]
  simp only [mm_step, mm_bin, mm_go, w32_id hr]
  exact kk
theorem r_imul  (hc : mm_code y pc = some (.imul, 1, c, x, k, pl)) (hr : -2147483648 ≤ z * w ∧ z * w ≤ 2147483647) (kk : mm_X y (pc + 1) ls (vI (z * w) :: st) h Q) : mm_X y pc ls (vI w :: vI z :: st) h Q := by
  rw [mm_unf hc]
  simp only [mm_step, mm_bin, mm_go, w32_id hr]
  exact kk
theorem r_ladd  (hc : mm_code y pc = some (.ladd, 1, c, x, k, pl)) (hr : -9223372036854775808 ≤ z + w ∧ z + w ≤ 9223372036854775807) (kk : mm_X y (pc + 1) ls (vJ (z + w) :: st) h Q) : mm_X y pc ls (vJ w :: vJ z :: st) h Q := by
  rw [mm_unf hc]
  simp only [mm_step, mm_lbin, mm_go, w64_id hr]
  exact kk
theorem r_lsub  (hc : mm_code y pc = some (.lsub, 1, c, x, k, pl)) (hr : -9223372036854775808 ≤ z - w ∧ z - w ≤ 9223372036854775807) (kk : mm_X y (pc + 1) ls (vJ (z - w) :: st) h Q) : mm_X y pc ls (vJ w :: vJ z :: st) h Q := by
  rw [mm_unf hc]
  simp only [mm_step, mm_lbin, mm_go, w64_id hr]
  exact kk
theorem r_lmul  (hc : mm_code y pc = some (.lmul, 1, c, x, k, pl)) (hr : -9223372036854775808 ≤ z * w ∧ z * w ≤ 9223372036854775807) (kk : mm_X y (pc + 1) ls (vJ (z * w) :: st) h Q) : mm_X y pc ls (vJ w :: vJ z :: st) h Q := by
  rw [mm_unf hc]
  simp only [mm_step, mm_lbin, mm_go, w64_id hr]
  exact kk
theorem r_idiv  (hc : mm_code y pc = some (.idiv, 1, c, x, k, pl)) (hz : 0 ≤ z ∧ z ≤ 2147483647) (hw : 0 < w) (kk : mm_X y (pc + 1) ls (vI (z / w) :: st) h Q) : mm_X y pc ls (vI w :: vI z :: st) h Q := by
  rw [mm_unf hc]
  have e : z.tdiv w = z / w := Int.tdiv_eq_ediv_of_nonneg hz.1
  have b1 : 0 ≤ z / w := Int.ediv_nonneg hz.1 (by omega)
  have b2 : z / w ≤ z := Int.ediv_le_self w hz.1
  simp only [mm_step, mm_binz, mm_go, e]
  rw [if_neg (by omega), w32_id (by omega)]
  exact kk
theorem r_irem  (hc : mm_code y pc = some (.irem, 1, c, x, k, pl)) (hz : 0 ≤ z) (hw : 0 < w) (kk : mm_X y (pc + 1) ls (vI (z % w) :: st) h Q) : mm_X y pc ls (vI w :: vI z :: st) h Q := by
  rw [mm_unf hc]
  have e : z.tmod w = z % w := Int.tmod_eq_emod_of_nonneg hz
  simp only [mm_step, mm_binz, mm_go, e]
  rw [if_neg (by omega)]
  exact kk
theorem r_ldiv  (hc : mm_code y pc = some (.ldiv, 1, c, x, k, pl)) (hz : 0 ≤ z ∧ z ≤ 9223372036854775807) (hw : 0 < w) (kk : mm_X y (pc + 1) ls (vJ (z / w) :: st) h Q) : mm_X y pc ls (vJ w :: vJ z :: st) h Q := by
  rw [mm_unf hc]
  have e : z.tdiv w = z / w := Int.tdiv_eq_ediv_of_nonneg hz.1
  have b1 : 0 ≤ z / w := Int.ediv_nonneg hz.1 (by omega)
  have b2 : z / w ≤ z := Int.ediv_le_self w hz.1
  simp only [mm_step, mm_lbinz, mm_go, e]
  rw [if_neg (by omega), w64_id (by omega)]
  exact kk
theorem r_lrem  (hc : mm_code y pc = some (.lrem, 1, c, x, k, pl)) (hz : 0 ≤ z) (hw : 0 < w) (kk : mm_X y (pc + 1) ls (vJ (z % w) :: st) h Q) : mm_X y pc ls (vJ w :: vJ z :: st) h Q := by
  rw [mm_unf hc]
  have e : z.tmod w = z % w := Int.tmod_eq_emod_of_nonneg hz
  simp only [mm_step, mm_lbinz, mm_go, e]
  rw [if_neg (by omega)]
  exact kk
theorem r_iand {x0 : Int}  (hc : mm_code y pc = some (.iand, 1, c, x, k, pl)) (he : mm_s32 (fun x y => x &&& y) z w = x0) (kk : mm_X y (pc + 1) ls (vI x0 :: st) h Q) : mm_X y pc ls (vI w :: vI z :: st) h Q := by
  rw [mm_unf hc]
  simp only [mm_step, mm_bin, mm_go, he]
  exact kk
theorem r_ior {x0 : Int}  (hc : mm_code y pc = some (.ior, 1, c, x, k, pl)) (he : mm_s32 (fun x y => x ||| y) z w = x0) (kk : mm_X y (pc + 1) ls (vI x0 :: st) h Q) : mm_X y pc ls (vI w :: vI z :: st) h Q := by
  rw [mm_unf hc]
  simp only [mm_step, mm_bin, mm_go, he]
  exact kk
theorem r_ishl {x0 : Int}  (hc : mm_code y pc = some (.ishl, 1, c, x, k, pl)) (he : mm_s32 (fun x y => x <<< (y &&& 31)) z w = x0) (kk : mm_X y (pc + 1) ls (vI x0 :: st) h Q) : mm_X y pc ls (vI w :: vI z :: st) h Q := by
  rw [mm_unf hc]
  simp only [mm_step, mm_bin, mm_go, he]
  exact kk
theorem r_ishr {x0 : Int}  (hc : mm_code y pc = some (.ishr, 1, c, x, k, pl)) (he : mm_s32 (fun x y => x >>> (y &&& 31)) z w = x0) (kk : mm_X y (pc + 1) ls (vI x0 :: st) h Q) : mm_X y pc ls (vI w :: vI z :: st) h Q := by
  rw [mm_unf hc]
  simp only [mm_step, mm_bin, mm_go, he]
  exact kk
theorem r_land {x0 : Int}  (hc : mm_code y pc = some (.land, 1, c, x, k, pl)) (he : mm_s64 (fun x y => x &&& y) z w = x0) (kk : mm_X y (pc + 1) ls (vJ x0 :: st) h Q) : mm_X y pc ls (vJ w :: vJ z :: st) h Q := by
  rw [mm_unf hc]
  simp only [mm_step, mm_lbin, mm_go, he]
  exact kk
theorem r_lor {x0 : Int}  (hc : mm_code y pc = some (.lor, 1, c, x, k, pl)) (he : mm_s64 (fun x y => x ||| y) z w = x0) (kk : mm_X y (pc + 1) ls (vJ x0 :: st) h Q) : mm_X y pc ls (vJ w :: vJ z :: st) h Q := by
  rw [mm_unf hc]
  simp only [mm_step, mm_lbin, mm_go, he]
  exact kk
theorem r_lshl {x0 : Int}  (hc : mm_code y pc = some (.lshl, 1, c, x, k, pl)) (he : mm_lshl1 z w = x0) (kk : mm_X y (pc + 1) ls (vJ x0 :: st) h Q) : mm_X y pc ls (vI w :: vJ z :: st) h Q := by
  rw [mm_unf hc]
  simp only [mm_step, mm_lsh, mm_go, he]
  exact kk
theorem r_lshr {x0 : Int}  (hc : mm_code y pc = some (.lshr, 1, c, x, k, pl)) (he : mm_lshr1 z w = x0) (kk : mm_X y (pc + 1) ls (vJ x0 :: st) h Q) : mm_X y pc ls (vI w :: vJ z :: st) h Q := by
  rw [mm_unf hc]
  simp only [mm_step, mm_lsh, mm_go, he]
  exact kk
theorem r_lushr {x0 : Int}  (hc : mm_code y pc = some (.lushr, 1, c, x, k, pl)) (he : mm_lushr1 z w = x0) (kk : mm_X y (pc + 1) ls (vJ x0 :: st) h Q) : mm_X y pc ls (vI w :: vJ z :: st) h Q := by
  rw [mm_unf hc]
  simp only [mm_step, mm_lsh, mm_go, he]
  exact kk
theorem r_i2b  (hc : mm_code y pc = some (.i2b, 1, c, x, k, pl)) (kk : mm_X y (pc + 1) ls (vI (mm_w8 z) :: st) h Q) : mm_X y pc ls (vI z :: st) h Q := by
  rw [mm_unf hc]
  simp only [mm_step, mm_un, mm_go]
  exact kk
theorem r_i2l  (hc : mm_code y pc = some (.i2l, 1, c, x, k, pl)) (kk : mm_X y (pc + 1) ls (vJ z :: st) h Q) : mm_X y pc ls (vI z :: st) h Q := by
  rw [mm_unf hc]
  simp only [mm_step, mm_i2l, mm_go]
  exact kk
theorem r_l2i  (hc : mm_code y pc = some (.l2i, 1, c, x, k, pl)) (hr : -2147483648 ≤ z ∧ z ≤ 2147483647) (kk : mm_X y (pc + 1) ls (vI z :: st) h Q) : mm_X y pc ls (vJ z :: st) h Q := by
  rw [mm_unf hc]
  simp only [mm_step, mm_l2i, mm_go, w32_id hr]
  exact kk
theorem r_l2i_w  (hc : mm_code y pc = some (.l2i, 1, c, x, k, pl)) (kk : mm_X y (pc + 1) ls (vI (mm_w32 z) :: st) h Q) : mm_X y pc ls (vJ z :: st) h Q := by
  rw [mm_unf hc]
  simp only [mm_step, mm_l2i, mm_go]
  exact kk
theorem r_lcmp  (hc : mm_code y pc = some (.lcmp, 1, c, x, k, pl)) (kk : mm_X y (pc + 1) ls (vI (if z < w then -1 else if z = w then 0 else 1) :: st) h Q) : mm_X y pc ls (vJ w :: vJ z :: st) h Q := by
  rw [mm_unf hc]
  simp only [mm_step, mm_lcmp, mm_go]
  exact kk
theorem r_goto {d} {t : Nat} (hc : mm_code y pc = some (.goto d, 3, c, t, k, pl)) (kk : mm_X y (t) ls st h Q) : mm_X y pc ls st h Q := by
  rw [mm_unf hc]
  simp only [mm_step, mm_go]
  exact kk
theorem r_dup {v : mm_V} (hc : mm_code y pc = some (.dup, 1, c, x, k, pl)) (hv : mm_wide v = false) (kk : mm_X y (pc + 1) ls (v :: v :: st) h Q) : mm_X y pc ls (v :: st) h Q := by
  rw [mm_unf hc]
  simp only [mm_step, mm_dup, hv, Bool.false_eq_true, if_false, mm_go]
  exact kk
theorem r_dup2 {v u : mm_V} (hc : mm_code y pc = some (.dup2, 1, c, x, k, pl)) (hv : mm_wide v = false) (hu : mm_wide u = false) (kk : mm_X y (pc + 1) ls (v :: u :: v :: u :: st) h Q) : mm_X y pc ls (v :: u :: st) h Q := by
  rw [mm_unf hc]
  simp only [mm_step, mm_dup2, hv, hu, Bool.false_eq_true, or_self, if_false, mm_go]
  exact kk
theorem r_pop {v : mm_V} (hc : mm_code y pc = some (.pop, 1, c, x, k, pl)) (hv : mm_wide v = false) (kk : mm_X y (pc + 1) ls st h Q) : mm_X y pc ls (v :: st) h Q := by
  rw [mm_unf hc]
  simp only [mm_step, mm_pop, hv, Bool.false_eq_true, if_false, mm_go]
  exact kk
theorem r_icmp_eq {d : Int} {t : Nat} (hc : mm_code y pc = some (.if_icmp .eq d, 3, c, t, k, pl)) (k1 : z = w → mm_X y t ls st h Q) (k2 : z ≠ w → mm_X y (pc + 3) ls st h Q) : mm_X y pc ls (vI w :: vI z :: st) h Q := by
  rw [mm_unf hc]
  simp only [mm_step, mm_icmp, mm_cmp, decide_eq_true_eq]
  split
  · next q => exact k1 q
  · next q => exact k2 (by omega)
theorem r_if_eq {d : Int} {t : Nat} (hc : mm_code y pc = some (.ifCond .eq d, 3, c, t, k, pl)) (k1 : z = 0 → mm_X y t ls st h Q) (k2 : z ≠ 0 → mm_X y (pc + 3) ls st h Q) : mm_X y pc ls (vI z :: st) h Q := by
  rw [mm_unf hc]
  simp only [mm_step, mm_if, mm_cmp, decide_eq_true_eq]
  split
  · next q => exact k1 q
  · next q => exact k2 (by omega)
theorem r_icmp_ne {d : Int} {t : Nat} (hc : mm_code y pc = some (.if_icmp .ne d, 3, c, t, k, pl)) (k1 : z ≠ w → mm_X y t ls st h Q) (k2 : z = w → mm_X y (pc + 3) ls st h Q) : mm_X y pc ls (vI w :: vI z :: st) h Q := by
  rw [mm_unf hc]
  simp only [mm_step, mm_icmp, mm_cmp, decide_eq_true_eq]
  split
  · next q => exact k1 q
  · next q => exact k2 (by omega)
theorem r_if_ne {d : Int} {t : Nat} (hc : mm_code y pc = some (.ifCond .ne d, 3, c, t, k, pl)) (k1 : z ≠ 0 → mm_X y t ls st h Q) (k2 : z = 0 → mm_X y (pc + 3) ls st h Q) : mm_X y pc ls (vI z :: st) h Q := by
  rw [mm_unf hc]
  simp only [mm_step, mm_if, mm_cmp, decide_eq_true_eq]
  split
  · next q => exact k1 q
  · next q => exact k2 (by omega)
theorem r_icmp_lt {d : Int} {t : Nat} (hc : mm_code y pc = some (.if_icmp .lt d, 3, c, t, k, pl)) (k1 : z < w → mm_X y t ls st h Q) (k2 : w ≤ z → mm_X y (pc + 3) ls st h Q) : mm_X y pc ls (vI w :: vI z :: st) h Q := by
  rw [mm_unf hc]
  simp only [mm_step, mm_icmp, mm_cmp, decide_eq_true_eq]
  split
  · next q => exact k1 q
  · next q => exact k2 (by omega)
theorem r_if_lt {d : Int} {t : Nat} (hc : mm_code y pc = some (.ifCond .lt d, 3, c, t, k, pl)) (k1 : z < 0 → mm_X y t ls st h Q) (k2 : 0 ≤ z → mm_X y (pc + 3) ls st h Q) : mm_X y pc ls (vI z :: st) h Q := by
  rw [mm_unf hc]
  simp only [mm_step, mm_if, mm_cmp, decide_eq_true_eq]
  split
  · next q => exact k1 q
  · next q => exact k2 (by omega)
theorem r_icmp_ge {d : Int} {t : Nat} (hc : mm_code y pc = some (.if_icmp .ge d, 3, c, t, k, pl)) (k1 : w ≤ z → mm_X y t ls st h Q) (k2 : z < w → mm_X y (pc + 3) ls st h Q) : mm_X y pc ls (vI w :: vI z :: st) h Q := by
  rw [mm_unf hc]
  simp only [mm_step, mm_icmp, mm_cmp, decide_eq_true_eq]
  split
  · next q => exact k1 q
  · next q => exact k2 (by omega)
theorem r_if_ge {d : Int} {t : Nat} (hc : mm_code y pc = some (.ifCond .ge d, 3, c, t, k, pl)) (k1 : 0 ≤ z → mm_X y t ls st h Q) (k2 : z < 0 → mm_X y (pc + 3) ls st h Q) : mm_X y pc ls (vI z :: st) h Q := by
  rw [mm_unf hc]
  simp only [mm_step, mm_if, mm_cmp, decide_eq_true_eq]
  split
  · next q => exact k1 q
  · next q => exact k2 (by omega)
theorem r_icmp_gt {d : Int} {t : Nat} (hc : mm_code y pc = some (.if_icmp .gt d, 3, c, t, k, pl)) (k1 : w < z → mm_X y t ls st h Q) (k2 : z ≤ w → mm_X y (pc + 3) ls st h Q) : mm_X y pc ls (vI w :: vI z :: st) h Q := by
  rw [mm_unf hc]
  simp only [mm_step, mm_icmp, mm_cmp, decide_eq_true_eq]
  split
  · next q => exact k1 q
  · next q => exact k2 (by omega)
theorem r_if_gt {d : Int} {t : Nat} (hc : mm_code y pc = some (.ifCond .gt d, 3, c, t, k, pl)) (k1 : 0 < z → mm_X y t ls st h Q) (k2 : z ≤ 0 → mm_X y (pc + 3) ls st h Q) : mm_X y pc ls (vI z :: st) h Q := by
  rw [mm_unf hc]
  simp only [mm_step, mm_if, mm_cmp, decide_eq_true_eq]
  split
  · next q => exact k1 q
  · next q => exact k2 (by omega)
theorem r_icmp_le {d : Int} {t : Nat} (hc : mm_code y pc = some (.if_icmp .le d, 3, c, t, k, pl)) (k1 : z ≤ w → mm_X y t ls st h Q) (k2 : w < z → mm_X y (pc + 3) ls st h Q) : mm_X y pc ls (vI w :: vI z :: st) h Q := by
  rw [mm_unf hc]
  simp only [mm_step, mm_icmp, mm_cmp, decide_eq_true_eq]
  split
  · next q => exact k1 q
  · next q => exact k2 (by omega)
theorem r_if_le {d : Int} {t : Nat} (hc : mm_code y pc = some (.ifCond .le d, 3, c, t, k, pl)) (k1 : z ≤ 0 → mm_X y t ls st h Q) (k2 : 0 < z → mm_X y (pc + 3) ls st h Q) : mm_X y pc ls (vI z :: st) h Q := by
  rw [mm_unf hc]
  simp only [mm_step, mm_if, mm_cmp, decide_eq_true_eq]
  split
  · next q => exact k1 q
  · next q => exact k2 (by omega)
theorem r_lcmp_eq {c2 : Int} {x2 k2 : Nat} {pl2 : List Nat} {d : Int} {t : Nat} (hc : mm_code y pc = some (.lcmp, 1, c, x, k, pl)) (hc2 : mm_code y (pc + 1) = some (.ifCond .eq d, 3, c2, t, k2, pl2)) (k1 : z = w → mm_X y t ls st h Q) (kk : z ≠ w → mm_X y (pc + 1 + 3) ls st h Q) : mm_X y pc ls (vJ w :: vJ z :: st) h Q := by
  refine r_lcmp hc (r_if_eq hc2 (fun q => k1 ?_) (fun q => kk ?_))
  all_goals (revert q; repeat' split)
  all_goals omega
theorem r_lcmp_ne {c2 : Int} {x2 k2 : Nat} {pl2 : List Nat} {d : Int} {t : Nat} (hc : mm_code y pc = some (.lcmp, 1, c, x, k, pl)) (hc2 : mm_code y (pc + 1) = some (.ifCond .ne d, 3, c2, t, k2, pl2)) (k1 : z ≠ w → mm_X y t ls st h Q) (kk : z = w → mm_X y (pc + 1 + 3) ls st h Q) : mm_X y pc ls (vJ w :: vJ z :: st) h Q := by
  refine r_lcmp hc (r_if_ne hc2 (fun q => k1 ?_) (fun q => kk ?_))
  all_goals (revert q; repeat' split)
  all_goals omega
theorem r_lcmp_lt {c2 : Int} {x2 k2 : Nat} {pl2 : List Nat} {d : Int} {t : Nat} (hc : mm_code y pc = some (.lcmp, 1, c, x, k, pl)) (hc2 : mm_code y (pc + 1) = some (.ifCond .lt d, 3, c2, t, k2, pl2)) (k1 : z < w → mm_X y t ls st h Q) (kk : w ≤ z → mm_X y (pc + 1 + 3) ls st h Q) : mm_X y pc ls (vJ w :: vJ z :: st) h Q := by
  refine r_lcmp hc (r_if_lt hc2 (fun q => k1 ?_) (fun q => kk ?_))
  all_goals (revert q; repeat' split)
  all_goals omega
theorem r_lcmp_ge {c2 : Int} {x2 k2 : Nat} {pl2 : List Nat} {d : Int} {t : Nat} (hc : mm_code y pc = some (.lcmp, 1, c, x, k, pl)) (hc2 : mm_code y (pc + 1) = some (.ifCond .ge d, 3, c2, t, k2, pl2)) (k1 : w ≤ z → mm_X y t ls st h Q) (kk : z < w → mm_X y (pc + 1 + 3) ls st h Q) : mm_X y pc ls (vJ w :: vJ z :: st) h Q := by
  refine r_lcmp hc (r_if_ge hc2 (fun q => k1 ?_) (fun q => kk ?_))
  all_goals (revert q; repeat' split)
  all_goals omega
theorem r_lcmp_gt {c2 : Int} {x2 k2 : Nat} {pl2 : List Nat} {d : Int} {t : Nat} (hc : mm_code y pc = some (.lcmp, 1, c, x, k, pl)) (hc2 : mm_code y (pc + 1) = some (.ifCond .gt d, 3, c2, t, k2, pl2)) (k1 : w < z → mm_X y t ls st h Q) (kk : z ≤ w → mm_X y (pc + 1 + 3) ls st h Q) : mm_X y pc ls (vJ w :: vJ z :: st) h Q := by
  refine r_lcmp hc (r_if_gt hc2 (fun q => k1 ?_) (fun q => kk ?_))
  all_goals (revert q; repeat' split)
  all_goals omega
theorem r_lcmp_le {c2 : Int} {x2 k2 : Nat} {pl2 : List Nat} {d : Int} {t : Nat} (hc : mm_code y pc = some (.lcmp, 1, c, x, k, pl)) (hc2 : mm_code y (pc + 1) = some (.ifCond .le d, 3, c2, t, k2, pl2)) (k1 : z ≤ w → mm_X y t ls st h Q) (kk : w < z → mm_X y (pc + 1 + 3) ls st h Q) : mm_X y pc ls (vJ w :: vJ z :: st) h Q := by
  refine r_lcmp hc (r_if_le hc2 (fun q => k1 ?_) (fun q => kk ?_))
  all_goals (revert q; repeat' split)
  all_goals omega
theorem r_tsw {d lo hi : Int} {offs : Array Int} (hc : mm_code y pc = some (.tableswitch d lo hi offs, k, c, x, 0, pl)) (hsz : (offs.size : Int) = hi + 1 - lo) (ko : z < lo ∨ hi < z → mm_X y ((pc : Int) + d).toNat ls st h Q)
    (ki : ∀ (i : Nat) (o : Int), offs[i]? = some o → z = lo + i → mm_X y ((pc : Int) + o).toNat ls st h Q) : mm_X y pc ls (vI z :: st) h Q := by
  rw [mm_unf hc]
  simp only [mm_step, mm_switch]
  split
  · next q => exact ko q
  · next q =>
    have hlt : (z - lo).toNat < offs.size := by omega
    rw [Array.getElem?_eq_getElem hlt]
    exact ki (z - lo).toNat _ (Array.getElem?_eq_getElem hlt) (by omega)
theorem r_getf_i {r ci f : Nat} {fs : List (Option Nat)} {i} (hc : mm_code y pc = some (.getfield i, 3, c, ci, f, pl)) (hk : kd L r = .inr (ci, fs)) (hf : fs[f]? = some none) (kk : mm_X y (pc + 3) ls (vI (σ r f) :: st) (hp L σ) Q) : mm_X y pc ls (vP r :: st) (hp L σ) Q := by
  rw [mm_unf hc]
  simp only [mm_step, mm_getf, hp_objq hk, fl_get, hf, Nat.zero_add, mm_go]
  exact kk
theorem r_getf_a {r ci f a : Nat} {fs : List (Option Nat)} {i} (hc : mm_code y pc = some (.getfield i, 3, c, ci, f, pl)) (hk : kd L r = .inr (ci, fs)) (hf : fs[f]? = some (some a)) (kk : mm_X y (pc + 3) ls (vP a :: st) (hp L σ) Q) : mm_X y pc ls (vP r :: st) (hp L σ) Q := by
  rw [mm_unf hc]
  simp only [mm_step, mm_getf, hp_objq hk, fl_get, hf, mm_go]
  exact kk
theorem r_putf {r ci f : Nat} {fs : List (Option Nat)} {i} (hc : mm_code y pc = some (.putfield i, 3, 1, ci, f, pl)) (hk : kd L r = .inr (ci, fs)) (hf : fs[f]? = some none) (kk : mm_X y (pc + 3) ls st (hp L (sto σ r f z)) Q) : mm_X y pc ls (vI z :: vP r :: st) (hp L σ) Q := by
  rw [mm_unf hc]
  have hl : f < (fl fs (σ r) 0).length := by rw [fl_len]; exact (List.getElem?_eq_some_iff.mp hf).1
  simp only [mm_step, mm_putf, hp_objq hk, hl, and_self, if_true, mm_go]
  rw [hp_put hk hf]
  exact kk
theorem r_iald {r t n jn : Nat} {j : Int} (hc : mm_code y pc = some (.iaload, 1, c, x, k, pl)) (hk : kd L r = .inl (t, n)) (ht : t = 0 ∨ t = 3) (ej : j = (jn : Int)) (hj : jn < n) (kk : mm_X y (pc + 1) ls (vI (σ r jn) :: st) (hp L σ) Q) : mm_X y pc ls (vI j :: vP r :: st) (hp L σ) Q := by
  rw [mm_unf hc]
  subst ej
  have h0 : (0 : Int) ≤ jn ∧ (jn : Int) < n := by omega
  simp only [mm_step, mm_iald, hp_arrq hk, ht, h0, and_self, if_true, mm_go, Int.toNat_natCast]
  exact kk
theorem r_bald {r t n jn : Nat} {j : Int} (hc : mm_code y pc = some (.baload, 1, c, x, k, pl)) (hk : kd L r = .inl (t, n)) (ht : t = 1 ∨ t = 2) (ej : j = (jn : Int)) (hj : jn < n) (kk : mm_X y (pc + 1) ls (vI (σ r jn) :: st) (hp L σ) Q) : mm_X y pc ls (vI j :: vP r :: st) (hp L σ) Q := by
  rw [mm_unf hc]
  subst ej
  have h0 : (0 : Int) ≤ jn ∧ (jn : Int) < n := by omega
  simp only [mm_step, mm_bald, hp_arrq hk, ht, h0, and_self, if_true, mm_go, Int.toNat_natCast]
  exact kk
theorem r_iast {r n jn : Nat} {j : Int} (hc : mm_code y pc = some (.iastore, 1, c, x, k, pl)) (hk : kd L r = .inl (0, n)) (ej : j = (jn : Int)) (hj : jn < n) (kk : mm_X y (pc + 1) ls st (hp L (sto σ r jn z)) Q) : mm_X y pc ls (vI z :: vI j :: vP r :: st) (hp L σ) Q := by
  rw [mm_unf hc]
  subst ej
  have h0 : (0 : Int) ≤ jn ∧ (jn : Int) < n := by omega
  simp only [mm_step, mm_iast, hp_arrq hk, h0, and_self, if_true, mm_go, Int.toNat_natCast]
  rw [hp_sta hk]
  exact kk
theorem r_bast2 {r n jn : Nat} {j : Int} (hc : mm_code y pc = some (.bastore, 1, c, x, k, pl)) (hk : kd L r = .inl (2, n)) (ej : j = (jn : Int)) (hj : jn < n) (kk : mm_X y (pc + 1) ls st (hp L (sto σ r jn (mm_w8 z))) Q) : mm_X y pc ls (vI z :: vI j :: vP r :: st) (hp L σ) Q := by
  rw [mm_unf hc]
  subst ej
  have h0 : (0 : Int) ≤ jn ∧ (jn : Int) < n := by omega
  simp only [mm_step, mm_bast, hp_arrq hk, h0, and_self, if_true, mm_go, Int.toNat_natCast]
  rw [hp_sta hk]
  exact kk
theorem r_bast1 {r n jn : Nat} {j : Int} (hc : mm_code y pc = some (.bastore, 1, c, x, k, pl)) (hk : kd L r = .inl (1, n)) (ej : j = (jn : Int)) (hj : jn < n) (hz : z = 0 ∨ z = 1) (kk : mm_X y (pc + 1) ls st (hp L (sto σ r jn z)) Q) : mm_X y pc ls (vI z :: vI j :: vP r :: st) (hp L σ) Q := by
  rw [mm_unf hc]
  subst ej
  have h0 : (0 : Int) ≤ jn ∧ (jn : Int) < n := by omega
  simp only [mm_step, mm_bast, hp_arrq hk, h0, hz, and_self, if_true, mm_go, Int.toNat_natCast, show ¬ ((1 : Nat) = 2) by decide, false_and, if_false]
  rw [hp_sta hk]
  exact kk
theorem r_alen {r t n : Nat} (hc : mm_code y pc = some (.arraylength, 1, c, x, k, pl)) (hk : kd L r = .inl (t, n)) (ht : t < 4) (hn : n < 2147483648) (kk : mm_X y (pc + 1) ls (vI n :: st) (hp L σ) Q) : mm_X y pc ls (vP r :: st) (hp L σ) Q := by
  rw [mm_unf hc]
  simp only [mm_step, mm_alen, hp_arrq hk, ht, hn, and_self, if_true, mm_go]
  exact kk
theorem r_iret (hc : mm_code y pc = some (.ireturn, 1, 0, x, k, pl)) (kk : Q (some (vI z)) h) : mm_X y pc ls [vI z] h Q := by
  rw [mm_unf hc]
  simp only [mm_step, mm_iret, show ¬ ((0 : Int) = 1) by decide, false_imp_iff, if_true, mm_go]
  exact kk
theorem r_zret (hc : mm_code y pc = some (.ireturn, 1, 1, x, k, pl)) (hz : z = 0 ∨ z = 1) (kk : Q (some (vI z)) h) : mm_X y pc ls [vI z] h Q := by
  rw [mm_unf hc]
  simp only [mm_step, mm_iret]
  rw [if_pos (fun _ => hz)]
  exact kk
theorem r_aret {a : Nat} (hc : mm_code y pc = some (.areturn, 1, c, x, k, pl)) (kk : Q (some (vP a)) h) : mm_X y pc ls [vP a] h Q := by
  rw [mm_unf hc]
  simp only [mm_step, mm_aret, mm_go]
  exact kk
theorem r_ret (hc : mm_code y pc = some (.return_, 1, c, x, k, pl)) (kk : Q none h) : mm_X y pc ls [] h Q := by
  rw [mm_unf hc]
  simp only [mm_step, mm_go]
  exact kk
theorem r_cS0 {i} {m : Nat} (hc : mm_code y pc = some (.invokestatic i, 3, c, m, 0, pl)) (hr : mm_cat rest ≤ 8) (kk : mm_call m [] h (fun v h' => mm_X y (pc + 3) ls (v.toList ++ rest) h' Q)) : mm_X y pc ls (rest) h Q := by
  rw [mm_unf hc]
  simp only [mm_step, mm_callS]
  rw [if_pos ⟨by simp, hr⟩]
  exact kk
theorem r_cV0 {i} {m a : Nat} {fs : List (Option Nat)} (hc : mm_code y pc = some (.invokevirtual i, 3, c, m, 0, pl)) (hk : kd L a = .inr (c.toNat, fs)) (hr : mm_cat rest ≤ 8) (kk : mm_call m [vP a] (hp L σ) (fun v h' => mm_X y (pc + 3) ls (v.toList ++ rest) h' Q)) : mm_X y pc ls (vP a :: rest) (hp L σ) Q := by
  rw [mm_unf hc]
  simp only [mm_step, mm_callV, List.drop, hp_objq hk]
  rw [if_pos hr]
  exact kk
theorem r_cS1 {v0 : mm_V} {i} {m : Nat} (hc : mm_code y pc = some (.invokestatic i, 3, c, m, 1, pl)) (hr : mm_cat rest ≤ 8) (kk : mm_call m [v0] h (fun v h' => mm_X y (pc + 3) ls (v.toList ++ rest) h' Q)) : mm_X y pc ls (v0 :: rest) h Q := by
  rw [mm_unf hc]
  simp only [mm_step, mm_callS]
  rw [if_pos ⟨by simp, hr⟩]
  exact kk
theorem r_cV1 {v0 : mm_V} {i} {m a : Nat} {fs : List (Option Nat)} (hc : mm_code y pc = some (.invokevirtual i, 3, c, m, 1, pl)) (hk : kd L a = .inr (c.toNat, fs)) (hr : mm_cat rest ≤ 8) (kk : mm_call m [vP a, v0] (hp L σ) (fun v h' => mm_X y (pc + 3) ls (v.toList ++ rest) h' Q)) : mm_X y pc ls (v0 :: vP a :: rest) (hp L σ) Q := by
  rw [mm_unf hc]
  simp only [mm_step, mm_callV, List.drop, hp_objq hk]
  rw [if_pos hr]
  exact kk
theorem r_cS2 {v0 v1 : mm_V} {i} {m : Nat} (hc : mm_code y pc = some (.invokestatic i, 3, c, m, 2, pl)) (hr : mm_cat rest ≤ 8) (kk : mm_call m [v0, v1] h (fun v h' => mm_X y (pc + 3) ls (v.toList ++ rest) h' Q)) : mm_X y pc ls (v1 :: v0 :: rest) h Q := by
  rw [mm_unf hc]
  simp only [mm_step, mm_callS]
  rw [if_pos ⟨by simp, hr⟩]
  exact kk
theorem r_cV2 {v0 v1 : mm_V} {i} {m a : Nat} {fs : List (Option Nat)} (hc : mm_code y pc = some (.invokevirtual i, 3, c, m, 2, pl)) (hk : kd L a = .inr (c.toNat, fs)) (hr : mm_cat rest ≤ 8) (kk : mm_call m [vP a, v0, v1] (hp L σ) (fun v h' => mm_X y (pc + 3) ls (v.toList ++ rest) h' Q)) : mm_X y pc ls (v1 :: v0 :: vP a :: rest) (hp L σ) Q := by
  rw [mm_unf hc]
  simp only [mm_step, mm_callV, List.drop, hp_objq hk]
  rw [if_pos hr]
  exact kk
theorem r_cS3 {v0 v1 v2 : mm_V} {i} {m : Nat} (hc : mm_code y pc = some (.invokestatic i, 3, c, m, 3, pl)) (hr : mm_cat rest ≤ 8) (kk : mm_call m [v0, v1, v2] h (fun v h' => mm_X y (pc + 3) ls (v.toList ++ rest) h' Q)) : mm_X y pc ls (v2 :: v1 :: v0 :: rest) h Q := by
  rw [mm_unf hc]
  simp only [mm_step, mm_callS]
  rw [if_pos ⟨by simp, hr⟩]
  exact kk
theorem r_cV3 {v0 v1 v2 : mm_V} {i} {m a : Nat} {fs : List (Option Nat)} (hc : mm_code y pc = some (.invokevirtual i, 3, c, m, 3, pl)) (hk : kd L a = .inr (c.toNat, fs)) (hr : mm_cat rest ≤ 8) (kk : mm_call m [vP a, v0, v1, v2] (hp L σ) (fun v h' => mm_X y (pc + 3) ls (v.toList ++ rest) h' Q)) : mm_X y pc ls (v2 :: v1 :: v0 :: vP a :: rest) (hp L σ) Q := by
  rw [mm_unf hc]
  simp only [mm_step, mm_callV, List.drop, hp_objq hk]
  rw [if_pos hr]
  exact kk
theorem r_cS4 {v0 v1 v2 v3 : mm_V} {i} {m : Nat} (hc : mm_code y pc = some (.invokestatic i, 3, c, m, 4, pl)) (hr : mm_cat rest ≤ 8) (kk : mm_call m [v0, v1, v2, v3] h (fun v h' => mm_X y (pc + 3) ls (v.toList ++ rest) h' Q)) : mm_X y pc ls (v3 :: v2 :: v1 :: v0 :: rest) h Q := by
  rw [mm_unf hc]
  simp only [mm_step, mm_callS]
  rw [if_pos ⟨by simp, hr⟩]
  exact kk
theorem r_cV4 {v0 v1 v2 v3 : mm_V} {i} {m a : Nat} {fs : List (Option Nat)} (hc : mm_code y pc = some (.invokevirtual i, 3, c, m, 4, pl)) (hk : kd L a = .inr (c.toNat, fs)) (hr : mm_cat rest ≤ 8) (kk : mm_call m [vP a, v0, v1, v2, v3] (hp L σ) (fun v h' => mm_X y (pc + 3) ls (v.toList ++ rest) h' Q)) : mm_X y pc ls (v3 :: v2 :: v1 :: v0 :: vP a :: rest) (hp L σ) Q := by
  rw [mm_unf hc]
  simp only [mm_step, mm_callV, List.drop, hp_objq hk]
  rw [if_pos hr]
  exact kk
theorem r_cS5 {v0 v1 v2 v3 v4 : mm_V} {i} {m : Nat} (hc : mm_code y pc = some (.invokestatic i, 3, c, m, 5, pl)) (hr : mm_cat rest ≤ 8) (kk : mm_call m [v0, v1, v2, v3, v4] h (fun v h' => mm_X y (pc + 3) ls (v.toList ++ rest) h' Q)) : mm_X y pc ls (v4 :: v3 :: v2 :: v1 :: v0 :: rest) h Q := by
  rw [mm_unf hc]
  simp only [mm_step, mm_callS]
  rw [if_pos ⟨by simp, hr⟩]
  exact kk
theorem r_cV5 {v0 v1 v2 v3 v4 : mm_V} {i} {m a : Nat} {fs : List (Option Nat)} (hc : mm_code y pc = some (.invokevirtual i, 3, c, m, 5, pl)) (hk : kd L a = .inr (c.toNat, fs)) (hr : mm_cat rest ≤ 8) (kk : mm_call m [vP a, v0, v1, v2, v3, v4] (hp L σ) (fun v h' => mm_X y (pc + 3) ls (v.toList ++ rest) h' Q)) : mm_X y pc ls (v4 :: v3 :: v2 :: v1 :: v0 :: vP a :: rest) (hp L σ) Q := by
  rw [mm_unf hc]
  simp only [mm_step, mm_callV, List.drop, hp_objq hk]
  rw [if_pos hr]
  exact kk
theorem r_astore_n_4_1 {a0 a1 a2 a3 : mm_V} {r : Nat} (hc : mm_code y pc = some (.astore_n 1, 1, c, x, k, pl)) (ho : mm_wide a0 = false) (kk : mm_X y (pc + 1) [a0, vP r, a2, a3] st h Q) : mm_X y pc [a0, a1, a2, a3] (vP r :: st) h Q := r_astore_n_g hc (by show (!(mm_wide a0)) = true; rw [ho]; rfl) kk
theorem r_astore_n_4_2 {a0 a1 a2 a3 : mm_V} {r : Nat} (hc : mm_code y pc = some (.astore_n 2, 1, c, x, k, pl)) (ho : mm_wide a1 = false) (kk : mm_X y (pc + 1) [a0, a1, vP r, a3] st h Q) : mm_X y pc [a0, a1, a2, a3] (vP r :: st) h Q := r_astore_n_g hc (by show (!(mm_wide a1)) = true; rw [ho]; rfl) kk
theorem r_iinc_2_1 {a0 : mm_V} {d : Int} (hc : mm_code y pc = some (.iinc 1 d, 3, c, x, k, pl)) (ho : mm_wide a0 = false) (hr : -2147483648 ≤ z + d ∧ z + d ≤ 2147483647) (kk : mm_X y (pc + 3) [a0, vI (z + d)] st h Q) : mm_X y pc [a0, vI z] st h Q := r_iinc_g hc rfl (by show (!(mm_wide a0)) = true; rw [ho]; rfl) hr kk
theorem r_iinc_3_1 {a0 a2 : mm_V} {d : Int} (hc : mm_code y pc = some (.iinc 1 d, 3, c, x, k, pl)) (ho : mm_wide a0 = false) (hr : -2147483648 ≤ z + d ∧ z + d ≤ 2147483647) (kk : mm_X y (pc + 3) [a0, vI (z + d), a2] st h Q) : mm_X y pc [a0, vI z, a2] st h Q := r_iinc_g hc rfl (by show (!(mm_wide a0)) = true; rw [ho]; rfl) hr kk
theorem r_iinc_3_2 {a0 a1 : mm_V} {d : Int} (hc : mm_code y pc = some (.iinc 2 d, 3, c, x, k, pl)) (ho : mm_wide a1 = false) (hr : -2147483648 ≤ z + d ∧ z + d ≤ 2147483647) (kk : mm_X y (pc + 3) [a0, a1, vI (z + d)] st h Q) : mm_X y pc [a0, a1, vI z] st h Q := r_iinc_g hc rfl (by show (!(mm_wide a1)) = true; rw [ho]; rfl) hr kk
theorem r_iinc_4_2 {a0 a1 a3 : mm_V} {d : Int} (hc : mm_code y pc = some (.iinc 2 d, 3, c, x, k, pl)) (ho : mm_wide a1 = false) (hr : -2147483648 ≤ z + d ∧ z + d ≤ 2147483647) (kk : mm_X y (pc + 3) [a0, a1, vI (z + d), a3] st h Q) : mm_X y pc [a0, a1, vI z, a3] st h Q := r_iinc_g hc rfl (by show (!(mm_wide a1)) = true; rw [ho]; rfl) hr kk
theorem r_iinc_4_3 {a0 a1 a2 : mm_V} {d : Int} (hc : mm_code y pc = some (.iinc 3 d, 3, c, x, k, pl)) (ho : mm_wide a2 = false) (hr : -2147483648 ≤ z + d ∧ z + d ≤ 2147483647) (kk : mm_X y (pc + 3) [a0, a1, a2, vI (z + d)] st h Q) : mm_X y pc [a0, a1, a2, vI z] st h Q := r_iinc_g hc rfl (by show (!(mm_wide a2)) = true; rw [ho]; rfl) hr kk
theorem r_iinc_5_1 {a0 a2 a3 a4 : mm_V} {d : Int} (hc : mm_code y pc = some (.iinc 1 d, 3, c, x, k, pl)) (ho : mm_wide a0 = false) (hr : -2147483648 ≤ z + d ∧ z + d ≤ 2147483647) (kk : mm_X y (pc + 3) [a0, vI (z + d), a2, a3, a4] st h Q) : mm_X y pc [a0, vI z, a2, a3, a4] st h Q := r_iinc_g hc rfl (by show (!(mm_wide a0)) = true; rw [ho]; rfl) hr kk
theorem r_iinc_5_3 {a0 a1 a2 a4 : mm_V} {d : Int} (hc : mm_code y pc = some (.iinc 3 d, 3, c, x, k, pl)) (ho : mm_wide a2 = false) (hr : -2147483648 ≤ z + d ∧ z + d ≤ 2147483647) (kk : mm_X y (pc + 3) [a0, a1, a2, vI (z + d), a4] st h Q) : mm_X y pc [a0, a1, a2, vI z, a4] st h Q := r_iinc_g hc rfl (by show (!(mm_wide a2)) = true; rw [ho]; rfl) hr kk
theorem r_iinc_5_4 {a0 a1 a2 a3 : mm_V} {d : Int} (hc : mm_code y pc = some (.iinc 4 d, 3, c, x, k, pl)) (ho : mm_wide a3 = false) (hr : -2147483648 ≤ z + d ∧ z + d ≤ 2147483647) (kk : mm_X y (pc + 3) [a0, a1, a2, a3, vI (z + d)] st h Q) : mm_X y pc [a0, a1, a2, a3, vI z] st h Q := r_iinc_g hc rfl (by show (!(mm_wide a3)) = true; rw [ho]; rfl) hr kk
theorem r_iinc_6_2 {a0 a1 a3 a4 a5 : mm_V} {d : Int} (hc : mm_code y pc = some (.iinc 2 d, 3, c, x, k, pl)) (ho : mm_wide a1 = false) (hr : -2147483648 ≤ z + d ∧ z + d ≤ 2147483647) (kk : mm_X y (pc + 3) [a0, a1, vI (z + d), a3, a4, a5] st h Q) : mm_X y pc [a0, a1, vI z, a3, a4, a5] st h Q := r_iinc_g hc rfl (by show (!(mm_wide a1)) = true; rw [ho]; rfl) hr kk
theorem r_iinc_6_4 {a0 a1 a2 a3 a5 : mm_V} {d : Int} (hc : mm_code y pc = some (.iinc 4 d, 3, c, x, k, pl)) (ho : mm_wide a3 = false) (hr : -2147483648 ≤ z + d ∧ z + d ≤ 2147483647) (kk : mm_X y (pc + 3) [a0, a1, a2, a3, vI (z + d), a5] st h Q) : mm_X y pc [a0, a1, a2, a3, vI z, a5] st h Q := r_iinc_g hc rfl (by show (!(mm_wide a3)) = true; rw [ho]; rfl) hr kk
theorem r_iinc_6_5 {a0 a1 a2 a3 a4 : mm_V} {d : Int} (hc : mm_code y pc = some (.iinc 5 d, 3, c, x, k, pl)) (ho : mm_wide a4 = false) (hr : -2147483648 ≤ z + d ∧ z + d ≤ 2147483647) (kk : mm_X y (pc + 3) [a0, a1, a2, a3, a4, vI (z + d)] st h Q) : mm_X y pc [a0, a1, a2, a3, a4, vI z] st h Q := r_iinc_g hc rfl (by show (!(mm_wide a4)) = true; rw [ho]; rfl) hr kk
theorem r_iinc_7_1 {a0 a2 a3 a4 a5 a6 : mm_V} {d : Int} (hc : mm_code y pc = some (.iinc 1 d, 3, c, x, k, pl)) (ho : mm_wide a0 = false) (hr : -2147483648 ≤ z + d ∧ z + d ≤ 2147483647) (kk : mm_X y (pc + 3) [a0, vI (z + d), a2, a3, a4, a5, a6] st h Q) : mm_X y pc [a0, vI z, a2, a3, a4, a5, a6] st h Q := r_iinc_g hc rfl (by show (!(mm_wide a0)) = true; rw [ho]; rfl) hr kk
theorem r_iinc_7_3 {a0 a1 a2 a4 a5 a6 : mm_V} {d : Int} (hc : mm_code y pc = some (.iinc 3 d, 3, c, x, k, pl)) (ho : mm_wide a2 = false) (hr : -2147483648 ≤ z + d ∧ z + d ≤ 2147483647) (kk : mm_X y (pc + 3) [a0, a1, a2, vI (z + d), a4, a5, a6] st h Q) : mm_X y pc [a0, a1, a2, vI z, a4, a5, a6] st h Q := r_iinc_g hc rfl (by show (!(mm_wide a2)) = true; rw [ho]; rfl) hr kk
theorem r_iinc_7_4 {a0 a1 a2 a3 a5 a6 : mm_V} {d : Int} (hc : mm_code y pc = some (.iinc 4 d, 3, c, x, k, pl)) (ho : mm_wide a3 = false) (hr : -2147483648 ≤ z + d ∧ z + d ≤ 2147483647) (kk : mm_X y (pc + 3) [a0, a1, a2, a3, vI (z + d), a5, a6] st h Q) : mm_X y pc [a0, a1, a2, a3, vI z, a5, a6] st h Q := r_iinc_g hc rfl (by show (!(mm_wide a3)) = true; rw [ho]; rfl) hr kk
theorem r_iinc_7_5 {a0 a1 a2 a3 a4 a6 : mm_V} {d : Int} (hc : mm_code y pc = some (.iinc 5 d, 3, c, x, k, pl)) (ho : mm_wide a4 = false) (hr : -2147483648 ≤ z + d ∧ z + d ≤ 2147483647) (kk : mm_X y (pc + 3) [a0, a1, a2, a3, a4, vI (z + d), a6] st h Q) : mm_X y pc [a0, a1, a2, a3, a4, vI z, a6] st h Q := r_iinc_g hc rfl (by show (!(mm_wide a4)) = true; rw [ho]; rfl) hr kk
theorem r_iinc_7_6 {a0 a1 a2 a3 a4 a5 : mm_V} {d : Int} (hc : mm_code y pc = some (.iinc 6 d, 3, c, x, k, pl)) (ho : mm_wide a5 = false) (hr : -2147483648 ≤ z + d ∧ z + d ≤ 2147483647) (kk : mm_X y (pc + 3) [a0, a1, a2, a3, a4, a5, vI (z + d)] st h Q) : mm_X y pc [a0, a1, a2, a3, a4, a5, vI z] st h Q := r_iinc_g hc rfl (by show (!(mm_wide a5)) = true; rw [ho]; rfl) hr kk
theorem r_iinc_8_3 {a0 a1 a2 a4 a5 a6 a7 : mm_V} {d : Int} (hc : mm_code y pc = some (.iinc 3 d, 3, c, x, k, pl)) (ho : mm_wide a2 = false) (hr : -2147483648 ≤ z + d ∧ z + d ≤ 2147483647) (kk : mm_X y (pc + 3) [a0, a1, a2, vI (z + d), a4, a5, a6, a7] st h Q) : mm_X y pc [a0, a1, a2, vI z, a4, a5, a6, a7] st h Q := r_iinc_g hc rfl (by show (!(mm_wide a2)) = true; rw [ho]; rfl) hr kk
theorem r_iinc_8_4 {a0 a1 a2 a3 a5 a6 a7 : mm_V} {d : Int} (hc : mm_code y pc = some (.iinc 4 d, 3, c, x, k, pl)) (ho : mm_wide a3 = false) (hr : -2147483648 ≤ z + d ∧ z + d ≤ 2147483647) (kk : mm_X y (pc + 3) [a0, a1, a2, a3, vI (z + d), a5, a6, a7] st h Q) : mm_X y pc [a0, a1, a2, a3, vI z, a5, a6, a7] st h Q := r_iinc_g hc rfl (by show (!(mm_wide a3)) = true; rw [ho]; rfl) hr kk
theorem r_iinc_8_5 {a0 a1 a2 a3 a4 a6 a7 : mm_V} {d : Int} (hc : mm_code y pc = some (.iinc 5 d, 3, c, x, k, pl)) (ho : mm_wide a4 = false) (hr : -2147483648 ≤ z + d ∧ z + d ≤ 2147483647) (kk : mm_X y (pc + 3) [a0, a1, a2, a3, a4, vI (z + d), a6, a7] st h Q) : mm_X y pc [a0, a1, a2, a3, a4, vI z, a6, a7] st h Q := r_iinc_g hc rfl (by show (!(mm_wide a4)) = true; rw [ho]; rfl) hr kk
theorem r_iinc_8_6 {a0 a1 a2 a3 a4 a5 a7 : mm_V} {d : Int} (hc : mm_code y pc = some (.iinc 6 d, 3, c, x, k, pl)) (ho : mm_wide a5 = false) (hr : -2147483648 ≤ z + d ∧ z + d ≤ 2147483647) (kk : mm_X y (pc + 3) [a0, a1, a2, a3, a4, a5, vI (z + d), a7] st h Q) : mm_X y pc [a0, a1, a2, a3, a4, a5, vI z, a7] st h Q := r_iinc_g hc rfl (by show (!(mm_wide a5)) = true; rw [ho]; rfl) hr kk
theorem r_iinc_8_7 {a0 a1 a2 a3 a4 a5 a6 : mm_V} {d : Int} (hc : mm_code y pc = some (.iinc 7 d, 3, c, x, k, pl)) (ho : mm_wide a6 = false) (hr : -2147483648 ≤ z + d ∧ z + d ≤ 2147483647) (kk : mm_X y (pc + 3) [a0, a1, a2, a3, a4, a5, a6, vI (z + d)] st h Q) : mm_X y pc [a0, a1, a2, a3, a4, a5, a6, vI z] st h Q := r_iinc_g hc rfl (by show (!(mm_wide a6)) = true; rw [ho]; rfl) hr kk
theorem r_iinc_9_4 {a0 a1 a2 a3 a5 a6 a7 a8 : mm_V} {d : Int} (hc : mm_code y pc = some (.iinc 4 d, 3, c, x, k, pl)) (ho : mm_wide a3 = false) (hr : -2147483648 ≤ z + d ∧ z + d ≤ 2147483647) (kk : mm_X y (pc + 3) [a0, a1, a2, a3, vI (z + d), a5, a6, a7, a8] st h Q) : mm_X y pc [a0, a1, a2, a3, vI z, a5, a6, a7, a8] st h Q := r_iinc_g hc rfl (by show (!(mm_wide a3)) = true; rw [ho]; rfl) hr kk
theorem r_iinc_9_5 {a0 a1 a2 a3 a4 a6 a7 a8 : mm_V} {d : Int} (hc : mm_code y pc = some (.iinc 5 d, 3, c, x, k, pl)) (ho : mm_wide a4 = false) (hr : -2147483648 ≤ z + d ∧ z + d ≤ 2147483647) (kk : mm_X y (pc + 3) [a0, a1, a2, a3, a4, vI (z + d), a6, a7, a8] st h Q) : mm_X y pc [a0, a1, a2, a3, a4, vI z, a6, a7, a8] st h Q := r_iinc_g hc rfl (by show (!(mm_wide a4)) = true; rw [ho]; rfl) hr kk
theorem r_iinc_10_5 {a0 a1 a2 a3 a4 a6 a7 a8 a9 : mm_V} {d : Int} (hc : mm_code y pc = some (.iinc 5 d, 3, c, x, k, pl)) (ho : mm_wide a4 = false) (hr : -2147483648 ≤ z + d ∧ z + d ≤ 2147483647) (kk : mm_X y (pc + 3) [a0, a1, a2, a3, a4, vI (z + d), a6, a7, a8, a9] st h Q) : mm_X y pc [a0, a1, a2, a3, a4, vI z, a6, a7, a8, a9] st h Q := r_iinc_g hc rfl (by show (!(mm_wide a4)) = true; rw [ho]; rfl) hr kk
theorem r_iinc_12_7 {a0 a1 a2 a3 a4 a5 a6 a8 a9 a10 a11 : mm_V} {d : Int} (hc : mm_code y pc = some (.iinc 7 d, 3, c, x, k, pl)) (ho : mm_wide a6 = false) (hr : -2147483648 ≤ z + d ∧ z + d ≤ 2147483647) (kk : mm_X y (pc + 3) [a0, a1, a2, a3, a4, a5, a6, vI (z + d), a8, a9, a10, a11] st h Q) : mm_X y pc [a0, a1, a2, a3, a4, a5, a6, vI z, a8, a9, a10, a11] st h Q := r_iinc_g hc rfl (by show (!(mm_wide a6)) = true; rw [ho]; rfl) hr kk
theorem r_iinc_12_10 {a0 a1 a2 a3 a4 a5 a6 a7 a8 a9 a11 : mm_V} {d : Int} (hc : mm_code y pc = some (.iinc 10 d, 3, c, x, k, pl)) (ho : mm_wide a9 = false) (hr : -2147483648 ≤ z + d ∧ z + d ≤ 2147483647) (kk : mm_X y (pc + 3) [a0, a1, a2, a3, a4, a5, a6, a7, a8, a9, vI (z + d), a11] st h Q) : mm_X y pc [a0, a1, a2, a3, a4, a5, a6, a7, a8, a9, vI z, a11] st h Q := r_iinc_g hc rfl (by show (!(mm_wide a9)) = true; rw [ho]; rfl) hr kk
theorem r_iinc_13_4 {a0 a1 a2 a3 a5 a6 a7 a8 a9 a10 a11 a12 : mm_V} {d : Int} (hc : mm_code y pc = some (.iinc 4 d, 3, c, x, k, pl)) (ho : mm_wide a3 = false) (hr : -2147483648 ≤ z + d ∧ z + d ≤ 2147483647) (kk : mm_X y (pc + 3) [a0, a1, a2, a3, vI (z + d), a5, a6, a7, a8, a9, a10, a11, a12] st h Q) : mm_X y pc [a0, a1, a2, a3, vI z, a5, a6, a7, a8, a9, a10, a11, a12] st h Q := r_iinc_g hc rfl (by show (!(mm_wide a3)) = true; rw [ho]; rfl) hr kk
theorem r_iinc_13_5 {a0 a1 a2 a3 a4 a6 a7 a8 a9 a10 a11 a12 : mm_V} {d : Int} (hc : mm_code y pc = some (.iinc 5 d, 3, c, x, k, pl)) (ho : mm_wide a4 = false) (hr : -2147483648 ≤ z + d ∧ z + d ≤ 2147483647) (kk : mm_X y (pc + 3) [a0, a1, a2, a3, a4, vI (z + d), a6, a7, a8, a9, a10, a11, a12] st h Q) : mm_X y pc [a0, a1, a2, a3, a4, vI z, a6, a7, a8, a9, a10, a11, a12] st h Q := r_iinc_g hc rfl (by show (!(mm_wide a4)) = true; rw [ho]; rfl) hr kk
theorem r_iinc_13_8 {a0 a1 a2 a3 a4 a5 a6 a7 a9 a10 a11 a12 : mm_V} {d : Int} (hc : mm_code y pc = some (.iinc 8 d, 3, c, x, k, pl)) (ho : mm_wide a7 = false) (hr : -2147483648 ≤ z + d ∧ z + d ≤ 2147483647) (kk : mm_X y (pc + 3) [a0, a1, a2, a3, a4, a5, a6, a7, vI (z + d), a9, a10, a11, a12] st h Q) : mm_X y pc [a0, a1, a2, a3, a4, a5, a6, a7, vI z, a9, a10, a11, a12] st h Q := r_iinc_g hc rfl (by show (!(mm_wide a7)) = true; rw [ho]; rfl) hr kk
theorem r_iinc_13_9 {a0 a1 a2 a3 a4 a5 a6 a7 a8 a10 a11 a12 : mm_V} {d : Int} (hc : mm_code y pc = some (.iinc 9 d, 3, c, x, k, pl)) (ho : mm_wide a8 = false) (hr : -2147483648 ≤ z + d ∧ z + d ≤ 2147483647) (kk : mm_X y (pc + 3) [a0, a1, a2, a3, a4, a5, a6, a7, a8, vI (z + d), a10, a11, a12] st h Q) : mm_X y pc [a0, a1, a2, a3, a4, a5, a6, a7, a8, vI z, a10, a11, a12] st h Q := r_iinc_g hc rfl (by show (!(mm_wide a8)) = true; rw [ho]; rfl) hr kk
theorem r_iinc_13_10 {a0 a1 a2 a3 a4 a5 a6 a7 a8 a9 a11 a12 : mm_V} {d : Int} (hc : mm_code y pc = some (.iinc 10 d, 3, c, x, k, pl)) (ho : mm_wide a9 = false) (hr : -2147483648 ≤ z + d ∧ z + d ≤ 2147483647) (kk : mm_X y (pc + 3) [a0, a1, a2, a3, a4, a5, a6, a7, a8, a9, vI (z + d), a11, a12] st h Q) : mm_X y pc [a0, a1, a2, a3, a4, a5, a6, a7, a8, a9, vI z, a11, a12] st h Q := r_iinc_g hc rfl (by show (!(mm_wide a9)) = true; rw [ho]; rfl) hr kk
theorem r_iinc_13_11 {a0 a1 a2 a3 a4 a5 a6 a7 a8 a9 a10 a12 : mm_V} {d : Int} (hc : mm_code y pc = some (.iinc 11 d, 3, c, x, k, pl)) (ho : mm_wide a10 = false) (hr : -2147483648 ≤ z + d ∧ z + d ≤ 2147483647) (kk : mm_X y (pc + 3) [a0, a1, a2, a3, a4, a5, a6, a7, a8, a9, a10, vI (z + d), a12] st h Q) : mm_X y pc [a0, a1, a2, a3, a4, a5, a6, a7, a8, a9, a10, vI z, a12] st h Q := r_iinc_g hc rfl (by show (!(mm_wide a10)) = true; rw [ho]; rfl) hr kk
theorem r_iinc_13_12 {a0 a1 a2 a3 a4 a5 a6 a7 a8 a9 a10 a11 : mm_V} {d : Int} (hc : mm_code y pc = some (.iinc 12 d, 3, c, x, k, pl)) (ho : mm_wide a11 = false) (hr : -2147483648 ≤ z + d ∧ z + d ≤ 2147483647) (kk : mm_X y (pc + 3) [a0, a1, a2, a3, a4, a5, a6, a7, a8, a9, a10, a11, vI (z + d)] st h Q) : mm_X y pc [a0, a1, a2, a3, a4, a5, a6, a7, a8, a9, a10, a11, vI z] st h Q := r_iinc_g hc rfl (by show (!(mm_wide a11)) = true; rw [ho]; rfl) hr kk
theorem r_iinc_18_13 {a0 a1 a2 a3 a4 a5 a6 a7 a8 a9 a10 a11 a12 a14 a15 a16 a17 : mm_V} {d : Int} (hc : mm_code y pc = some (.iinc 13 d, 3, c, x, k, pl)) (ho : mm_wide a12 = false) (hr : -2147483648 ≤ z + d ∧ z + d ≤ 2147483647) (kk : mm_X y (pc + 3) [a0, a1, a2, a3, a4, a5, a6, a7, a8, a9, a10, a11, a12, vI (z + d), a14, a15, a16, a17] st h Q) : mm_X y pc [a0, a1, a2, a3, a4, a5, a6, a7, a8, a9, a10, a11, a12, vI z, a14, a15, a16, a17] st h Q := r_iinc_g hc rfl (by show (!(mm_wide a12)) = true; rw [ho]; rfl) hr kk
theorem r_iinc_20_5 {a0 a1 a2 a3 a4 a6 a7 a8 a9 a10 a11 a12 a13 a14 a15 a16 a17 a18 a19 : mm_V} {d : Int} (hc : mm_code y pc = some (.iinc 5 d, 3, c, x, k, pl)) (ho : mm_wide a4 = false) (hr : -2147483648 ≤ z + d ∧ z + d ≤ 2147483647) (kk : mm_X y (pc + 3) [a0, a1, a2, a3, a4, vI (z + d), a6, a7, a8, a9, a10, a11, a12, a13, a14, a15, a16, a17, a18, a19] st h Q) : mm_X y pc [a0, a1, a2, a3, a4, vI z, a6, a7, a8, a9, a10, a11, a12, a13, a14, a15, a16, a17, a18, a19] st h Q := r_iinc_g hc rfl (by show (!(mm_wide a4)) = true; rw [ho]; rfl) hr kk
theorem r_iinc_20_6 {a0 a1 a2 a3 a4 a5 a7 a8 a9 a10 a11 a12 a13 a14 a15 a16 a17 a18 a19 : mm_V} {d : Int} (hc : mm_code y pc = some (.iinc 6 d, 3, c, x, k, pl)) (ho : mm_wide a5 = false) (hr : -2147483648 ≤ z + d ∧ z + d ≤ 2147483647) (kk : mm_X y (pc + 3) [a0, a1, a2, a3, a4, a5, vI (z + d), a7, a8, a9, a10, a11, a12, a13, a14, a15, a16, a17, a18, a19] st h Q) : mm_X y pc [a0, a1, a2, a3, a4, a5, vI z, a7, a8, a9, a10, a11, a12, a13, a14, a15, a16, a17, a18, a19] st h Q := r_iinc_g hc rfl (by show (!(mm_wide a5)) = true; rw [ho]; rfl) hr kk
theorem r_iinc_20_17 {a0 a1 a2 a3 a4 a5 a6 a7 a8 a9 a10 a11 a12 a13 a14 a15 a16 a18 a19 : mm_V} {d : Int} (hc : mm_code y pc = some (.iinc 17 d, 3, c, x, k, pl)) (ho : mm_wide a16 = false) (hr : -2147483648 ≤ z + d ∧ z + d ≤ 2147483647) (kk : mm_X y (pc + 3) [a0, a1, a2, a3, a4, a5, a6, a7, a8, a9, a10, a11, a12, a13, a14, a15, a16, vI (z + d), a18, a19] st h Q) : mm_X y pc [a0, a1, a2, a3, a4, a5, a6, a7, a8, a9, a10, a11, a12, a13, a14, a15, a16, vI z, a18, a19] st h Q := r_iinc_g hc rfl (by show (!(mm_wide a16)) = true; rw [ho]; rfl) hr kk
theorem r_istore_5_4 {a0 a1 a2 a3 a4 : mm_V} (hc : mm_code y pc = some (.istore 4, 2, c, x, k, pl)) (ho : mm_wide a3 = false) (kk : mm_X y (pc + 2) [a0, a1, a2, a3, vI z] st h Q) : mm_X y pc [a0, a1, a2, a3, a4] (vI z :: st) h Q := r_istore_g hc (by show (!(mm_wide a3)) = true; rw [ho]; rfl) kk
theorem r_istore_6_4 {a0 a1 a2 a3 a4 a5 : mm_V} (hc : mm_code y pc = some (.istore 4, 2, c, x, k, pl)) (ho : mm_wide a3 = false) (kk : mm_X y (pc + 2) [a0, a1, a2, a3, vI z, a5] st h Q) : mm_X y pc [a0, a1, a2, a3, a4, a5] (vI z :: st) h Q := r_istore_g hc (by show (!(mm_wide a3)) = true; rw [ho]; rfl) kk
theorem r_istore_6_5 {a0 a1 a2 a3 a4 a5 : mm_V} (hc : mm_code y pc = some (.istore 5, 2, c, x, k, pl)) (ho : mm_wide a4 = false) (kk : mm_X y (pc + 2) [a0, a1, a2, a3, a4, vI z] st h Q) : mm_X y pc [a0, a1, a2, a3, a4, a5] (vI z :: st) h Q := r_istore_g hc (by show (!(mm_wide a4)) = true; rw [ho]; rfl) kk
theorem r_istore_7_4 {a0 a1 a2 a3 a4 a5 a6 : mm_V} (hc : mm_code y pc = some (.istore 4, 2, c, x, k, pl)) (ho : mm_wide a3 = false) (kk : mm_X y (pc + 2) [a0, a1, a2, a3, vI z, a5, a6] st h Q) : mm_X y pc [a0, a1, a2, a3, a4, a5, a6] (vI z :: st) h Q := r_istore_g hc (by show (!(mm_wide a3)) = true; rw [ho]; rfl) kk
theorem r_istore_7_5 {a0 a1 a2 a3 a4 a5 a6 : mm_V} (hc : mm_code y pc = some (.istore 5, 2, c, x, k, pl)) (ho : mm_wide a4 = false) (kk : mm_X y (pc + 2) [a0, a1, a2, a3, a4, vI z, a6] st h Q) : mm_X y pc [a0, a1, a2, a3, a4, a5, a6] (vI z :: st) h Q := r_istore_g hc (by show (!(mm_wide a4)) = true; rw [ho]; rfl) kk
theorem r_istore_7_6 {a0 a1 a2 a3 a4 a5 a6 : mm_V} (hc : mm_code y pc = some (.istore 6, 2, c, x, k, pl)) (ho : mm_wide a5 = false) (kk : mm_X y (pc + 2) [a0, a1, a2, a3, a4, a5, vI z] st h Q) : mm_X y pc [a0, a1, a2, a3, a4, a5, a6] (vI z :: st) h Q := r_istore_g hc (by show (!(mm_wide a5)) = true; rw [ho]; rfl) kk
theorem r_istore_8_4 {a0 a1 a2 a3 a4 a5 a6 a7 : mm_V} (hc : mm_code y pc = some (.istore 4, 2, c, x, k, pl)) (ho : mm_wide a3 = false) (kk : mm_X y (pc + 2) [a0, a1, a2, a3, vI z, a5, a6, a7] st h Q) : mm_X y pc [a0, a1, a2, a3, a4, a5, a6, a7] (vI z :: st) h Q := r_istore_g hc (by show (!(mm_wide a3)) = true; rw [ho]; rfl) kk
theorem r_istore_8_5 {a0 a1 a2 a3 a4 a5 a6 a7 : mm_V} (hc : mm_code y pc = some (.istore 5, 2, c, x, k, pl)) (ho : mm_wide a4 = false) (kk : mm_X y (pc + 2) [a0, a1, a2, a3, a4, vI z, a6, a7] st h Q) : mm_X y pc [a0, a1, a2, a3, a4, a5, a6, a7] (vI z :: st) h Q := r_istore_g hc (by show (!(mm_wide a4)) = true; rw [ho]; rfl) kk
theorem r_istore_8_6 {a0 a1 a2 a3 a4 a5 a6 a7 : mm_V} (hc : mm_code y pc = some (.istore 6, 2, c, x, k, pl)) (ho : mm_wide a5 = false) (kk : mm_X y (pc + 2) [a0, a1, a2, a3, a4, a5, vI z, a7] st h Q) : mm_X y pc [a0, a1, a2, a3, a4, a5, a6, a7] (vI z :: st) h Q := r_istore_g hc (by show (!(mm_wide a5)) = true; rw [ho]; rfl) kk
theorem r_istore_8_7 {a0 a1 a2 a3 a4 a5 a6 a7 : mm_V} (hc : mm_code y pc = some (.istore 7, 2, c, x, k, pl)) (ho : mm_wide a6 = false) (kk : mm_X y (pc + 2) [a0, a1, a2, a3, a4, a5, a6, vI z] st h Q) : mm_X y pc [a0, a1, a2, a3, a4, a5, a6, a7] (vI z :: st) h Q := r_istore_g hc (by show (!(mm_wide a6)) = true; rw [ho]; rfl) kk
theorem r_istore_9_4 {a0 a1 a2 a3 a4 a5 a6 a7 a8 : mm_V} (hc : mm_code y pc = some (.istore 4, 2, c, x, k, pl)) (ho : mm_wide a3 = false) (kk : mm_X y (pc + 2) [a0, a1, a2, a3, vI z, a5, a6, a7, a8] st h Q) : mm_X y pc [a0, a1, a2, a3, a4, a5, a6, a7, a8] (vI z :: st) h Q := r_istore_g hc (by show (!(mm_wide a3)) = true; rw [ho]; rfl) kk
theorem r_istore_9_5 {a0 a1 a2 a3 a4 a5 a6 a7 a8 : mm_V} (hc : mm_code y pc = some (.istore 5, 2, c, x, k, pl)) (ho : mm_wide a4 = false) (kk : mm_X y (pc + 2) [a0, a1, a2, a3, a4, vI z, a6, a7, a8] st h Q) : mm_X y pc [a0, a1, a2, a3, a4, a5, a6, a7, a8] (vI z :: st) h Q := r_istore_g hc (by show (!(mm_wide a4)) = true; rw [ho]; rfl) kk
theorem r_istore_9_6 {a0 a1 a2 a3 a4 a5 a6 a7 a8 : mm_V} (hc : mm_code y pc = some (.istore 6, 2, c, x, k, pl)) (ho : mm_wide a5 = false) (kk : mm_X y (pc + 2) [a0, a1, a2, a3, a4, a5, vI z, a7, a8] st h Q) : mm_X y pc [a0, a1, a2, a3, a4, a5, a6, a7, a8] (vI z :: st) h Q := r_istore_g hc (by show (!(mm_wide a5)) = true; rw [ho]; rfl) kk
theorem r_istore_9_7 {a0 a1 a2 a3 a4 a5 a6 a7 a8 : mm_V} (hc : mm_code y pc = some (.istore 7, 2, c, x, k, pl)) (ho : mm_wide a6 = false) (kk : mm_X y (pc + 2) [a0, a1, a2, a3, a4, a5, a6, vI z, a8] st h Q) : mm_X y pc [a0, a1, a2, a3, a4, a5, a6, a7, a8] (vI z :: st) h Q := r_istore_g hc (by show (!(mm_wide a6)) = true; rw [ho]; rfl) kk
theorem r_istore_9_8 {a0 a1 a2 a3 a4 a5 a6 a7 a8 : mm_V} (hc : mm_code y pc = some (.istore 8, 2, c, x, k, pl)) (ho : mm_wide a7 = false) (kk : mm_X y (pc + 2) [a0, a1, a2, a3, a4, a5, a6, a7, vI z] st h Q) : mm_X y pc [a0, a1, a2, a3, a4, a5, a6, a7, a8] (vI z :: st) h Q := r_istore_g hc (by show (!(mm_wide a7)) = true; rw [ho]; rfl) kk
theorem r_istore_10_4 {a0 a1 a2 a3 a4 a5 a6 a7 a8 a9 : mm_V} (hc : mm_code y pc = some (.istore 4, 2, c, x, k, pl)) (ho : mm_wide a3 = false) (kk : mm_X y (pc + 2) [a0, a1, a2, a3, vI z, a5, a6, a7, a8, a9] st h Q) : mm_X y pc [a0, a1, a2, a3, a4, a5, a6, a7, a8, a9] (vI z :: st) h Q := r_istore_g hc (by show (!(mm_wide a3)) = true; rw [ho]; rfl) kk
theorem r_istore_10_5 {a0 a1 a2 a3 a4 a5 a6 a7 a8 a9 : mm_V} (hc : mm_code y pc = some (.istore 5, 2, c, x, k, pl)) (ho : mm_wide a4 = false) (kk : mm_X y (pc + 2) [a0, a1, a2, a3, a4, vI z, a6, a7, a8, a9] st h Q) : mm_X y pc [a0, a1, a2, a3, a4, a5, a6, a7, a8, a9] (vI z :: st) h Q := r_istore_g hc (by show (!(mm_wide a4)) = true; rw [ho]; rfl) kk
theorem r_istore_10_6 {a0 a1 a2 a3 a4 a5 a6 a7 a8 a9 : mm_V} (hc : mm_code y pc = some (.istore 6, 2, c, x, k, pl)) (ho : mm_wide a5 = false) (kk : mm_X y (pc + 2) [a0, a1, a2, a3, a4, a5, vI z, a7, a8, a9] st h Q) : mm_X y pc [a0, a1, a2, a3, a4, a5, a6, a7, a8, a9] (vI z :: st) h Q := r_istore_g hc (by show (!(mm_wide a5)) = true; rw [ho]; rfl) kk
theorem r_istore_10_7 {a0 a1 a2 a3 a4 a5 a6 a7 a8 a9 : mm_V} (hc : mm_code y pc = some (.istore 7, 2, c, x, k, pl)) (ho : mm_wide a6 = false) (kk : mm_X y (pc + 2) [a0, a1, a2, a3, a4, a5, a6, vI z, a8, a9] st h Q) : mm_X y pc [a0, a1, a2, a3, a4, a5, a6, a7, a8, a9] (vI z :: st) h Q := r_istore_g hc (by show (!(mm_wide a6)) = true; rw [ho]; rfl) kk
theorem r_istore_10_8 {a0 a1 a2 a3 a4 a5 a6 a7 a8 a9 : mm_V} (hc : mm_code y pc = some (.istore 8, 2, c, x, k, pl)) (ho : mm_wide a7 = false) (kk : mm_X y (pc + 2) [a0, a1, a2, a3, a4, a5, a6, a7, vI z, a9] st h Q) : mm_X y pc [a0, a1, a2, a3, a4, a5, a6, a7, a8, a9] (vI z :: st) h Q := r_istore_g hc (by show (!(mm_wide a7)) = true; rw [ho]; rfl) kk
theorem r_istore_10_9 {a0 a1 a2 a3 a4 a5 a6 a7 a8 a9 : mm_V} (hc : mm_code y pc = some (.istore 9, 2, c, x, k, pl)) (ho : mm_wide a8 = false) (kk : mm_X y (pc + 2) [a0, a1, a2, a3, a4, a5, a6, a7, a8, vI z] st h Q) : mm_X y pc [a0, a1, a2, a3, a4, a5, a6, a7, a8, a9] (vI z :: st) h Q := r_istore_g hc (by show (!(mm_wide a8)) = true; rw [ho]; rfl) kk
theorem r_istore_12_4 {a0 a1 a2 a3 a4 a5 a6 a7 a8 a9 a10 a11 : mm_V} (hc : mm_code y pc = some (.istore 4, 2, c, x, k, pl)) (ho : mm_wide a3 = false) (kk : mm_X y (pc + 2) [a0, a1, a2, a3, vI z, a5, a6, a7, a8, a9, a10, a11] st h Q) : mm_X y pc [a0, a1, a2, a3, a4, a5, a6, a7, a8, a9, a10, a11] (vI z :: st) h Q := r_istore_g hc (by show (!(mm_wide a3)) = true; rw [ho]; rfl) kk
theorem r_istore_12_5 {a0 a1 a2 a3 a4 a5 a6 a7 a8 a9 a10 a11 : mm_V} (hc : mm_code y pc = some (.istore 5, 2, c, x, k, pl)) (ho : mm_wide a4 = false) (kk : mm_X y (pc + 2) [a0, a1, a2, a3, a4, vI z, a6, a7, a8, a9, a10, a11] st h Q) : mm_X y pc [a0, a1, a2, a3, a4, a5, a6, a7, a8, a9, a10, a11] (vI z :: st) h Q := r_istore_g hc (by show (!(mm_wide a4)) = true; rw [ho]; rfl) kk
theorem r_istore_12_6 {a0 a1 a2 a3 a4 a5 a6 a7 a8 a9 a10 a11 : mm_V} (hc : mm_code y pc = some (.istore 6, 2, c, x, k, pl)) (ho : mm_wide a5 = false) (kk : mm_X y (pc + 2) [a0, a1, a2, a3, a4, a5, vI z, a7, a8, a9, a10, a11] st h Q) : mm_X y pc [a0, a1, a2, a3, a4, a5, a6, a7, a8, a9, a10, a11] (vI z :: st) h Q := r_istore_g hc (by show (!(mm_wide a5)) = true; rw [ho]; rfl) kk
theorem r_istore_12_7 {a0 a1 a2 a3 a4 a5 a6 a7 a8 a9 a10 a11 : mm_V} (hc : mm_code y pc = some (.istore 7, 2, c, x, k, pl)) (ho : mm_wide a6 = false) (kk : mm_X y (pc + 2) [a0, a1, a2, a3, a4, a5, a6, vI z, a8, a9, a10, a11] st h Q) : mm_X y pc [a0, a1, a2, a3, a4, a5, a6, a7, a8, a9, a10, a11] (vI z :: st) h Q := r_istore_g hc (by show (!(mm_wide a6)) = true; rw [ho]; rfl) kk
theorem r_istore_12_8 {a0 a1 a2 a3 a4 a5 a6 a7 a8 a9 a10 a11 : mm_V} (hc : mm_code y pc = some (.istore 8, 2, c, x, k, pl)) (ho : mm_wide a7 = false) (kk : mm_X y (pc + 2) [a0, a1, a2, a3, a4, a5, a6, a7, vI z, a9, a10, a11] st h Q) : mm_X y pc [a0, a1, a2, a3, a4, a5, a6, a7, a8, a9, a10, a11] (vI z :: st) h Q := r_istore_g hc (by show (!(mm_wide a7)) = true; rw [ho]; rfl) kk
theorem r_istore_12_9 {a0 a1 a2 a3 a4 a5 a6 a7 a8 a9 a10 a11 : mm_V} (hc : mm_code y pc = some (.istore 9, 2, c, x, k, pl)) (ho : mm_wide a8 = false) (kk : mm_X y (pc + 2) [a0, a1, a2, a3, a4, a5, a6, a7, a8, vI z, a10, a11] st h Q) : mm_X y pc [a0, a1, a2, a3, a4, a5, a6, a7, a8, a9, a10, a11] (vI z :: st) h Q := r_istore_g hc (by show (!(mm_wide a8)) = true; rw [ho]; rfl) kk
theorem r_istore_12_10 {a0 a1 a2 a3 a4 a5 a6 a7 a8 a9 a10 a11 : mm_V} (hc : mm_code y pc = some (.istore 10, 2, c, x, k, pl)) (ho : mm_wide a9 = false) (kk : mm_X y (pc + 2) [a0, a1, a2, a3, a4, a5, a6, a7, a8, a9, vI z, a11] st h Q) : mm_X y pc [a0, a1, a2, a3, a4, a5, a6, a7, a8, a9, a10, a11] (vI z :: st) h Q := r_istore_g hc (by show (!(mm_wide a9)) = true; rw [ho]; rfl) kk
theorem r_istore_12_11 {a0 a1 a2 a3 a4 a5 a6 a7 a8 a9 a10 a11 : mm_V} (hc : mm_code y pc = some (.istore 11, 2, c, x, k, pl)) (ho : mm_wide a10 = false) (kk : mm_X y (pc + 2) [a0, a1, a2, a3, a4, a5, a6, a7, a8, a9, a10, vI z] st h Q) : mm_X y pc [a0, a1, a2, a3, a4, a5, a6, a7, a8, a9, a10, a11] (vI z :: st) h Q := r_istore_g hc (by show (!(mm_wide a10)) = true; rw [ho]; rfl) kk
theorem r_istore_13_4 {a0 a1 a2 a3 a4 a5 a6 a7 a8 a9 a10 a11 a12 : mm_V} (hc : mm_code y pc = some (.istore 4, 2, c, x, k, pl)) (ho : mm_wide a3 = false) (kk : mm_X y (pc + 2) [a0, a1, a2, a3, vI z, a5, a6, a7, a8, a9, a10, a11, a12] st h Q) : mm_X y pc [a0, a1, a2, a3, a4, a5, a6, a7, a8, a9, a10, a11, a12] (vI z :: st) h Q := r_istore_g hc (by show (!(mm_wide a3)) = true; rw [ho]; rfl) kk
theorem r_istore_13_5 {a0 a1 a2 a3 a4 a5 a6 a7 a8 a9 a10 a11 a12 : mm_V} (hc : mm_code y pc = some (.istore 5, 2, c, x, k, pl)) (ho : mm_wide a4 = false) (kk : mm_X y (pc + 2) [a0, a1, a2, a3, a4, vI z, a6, a7, a8, a9, a10, a11, a12] st h Q) : mm_X y pc [a0, a1, a2, a3, a4, a5, a6, a7, a8, a9, a10, a11, a12] (vI z :: st) h Q := r_istore_g hc (by show (!(mm_wide a4)) = true; rw [ho]; rfl) kk
theorem r_istore_13_8 {a0 a1 a2 a3 a4 a5 a6 a7 a8 a9 a10 a11 a12 : mm_V} (hc : mm_code y pc = some (.istore 8, 2, c, x, k, pl)) (ho : mm_wide a7 = false) (kk : mm_X y (pc + 2) [a0, a1, a2, a3, a4, a5, a6, a7, vI z, a9, a10, a11, a12] st h Q) : mm_X y pc [a0, a1, a2, a3, a4, a5, a6, a7, a8, a9, a10, a11, a12] (vI z :: st) h Q := r_istore_g hc (by show (!(mm_wide a7)) = true; rw [ho]; rfl) kk
theorem r_istore_13_9 {a0 a1 a2 a3 a4 a5 a6 a7 a8 a9 a10 a11 a12 : mm_V} (hc : mm_code y pc = some (.istore 9, 2, c, x, k, pl)) (ho : mm_wide a8 = false) (kk : mm_X y (pc + 2) [a0, a1, a2, a3, a4, a5, a6, a7, a8, vI z, a10, a11, a12] st h Q) : mm_X y pc [a0, a1, a2, a3, a4, a5, a6, a7, a8, a9, a10, a11, a12] (vI z :: st) h Q := r_istore_g hc (by show (!(mm_wide a8)) = true; rw [ho]; rfl) kk
theorem r_istore_13_10 {a0 a1 a2 a3 a4 a5 a6 a7 a8 a9 a10 a11 a12 : mm_V} (hc : mm_code y pc = some (.istore 10, 2, c, x, k, pl)) (ho : mm_wide a9 = false) (kk : mm_X y (pc + 2) [a0, a1, a2, a3, a4, a5, a6, a7, a8, a9, vI z, a11, a12] st h Q) : mm_X y pc [a0, a1, a2, a3, a4, a5, a6, a7, a8, a9, a10, a11, a12] (vI z :: st) h Q := r_istore_g hc (by show (!(mm_wide a9)) = true; rw [ho]; rfl) kk
theorem r_istore_13_11 {a0 a1 a2 a3 a4 a5 a6 a7 a8 a9 a10 a11 a12 : mm_V} (hc : mm_code y pc = some (.istore 11, 2, c, x, k, pl)) (ho : mm_wide a10 = false) (kk : mm_X y (pc + 2) [a0, a1, a2, a3, a4, a5, a6, a7, a8, a9, a10, vI z, a12] st h Q) : mm_X y pc [a0, a1, a2, a3, a4, a5, a6, a7, a8, a9, a10, a11, a12] (vI z :: st) h Q := r_istore_g hc (by show (!(mm_wide a10)) = true; rw [ho]; rfl) kk
theorem r_istore_13_12 {a0 a1 a2 a3 a4 a5 a6 a7 a8 a9 a10 a11 a12 : mm_V} (hc : mm_code y pc = some (.istore 12, 2, c, x, k, pl)) (ho : mm_wide a11 = false) (kk : mm_X y (pc + 2) [a0, a1, a2, a3, a4, a5, a6, a7, a8, a9, a10, a11, vI z] st h Q) : mm_X y pc [a0, a1, a2, a3, a4, a5, a6, a7, a8, a9, a10, a11, a12] (vI z :: st) h Q := r_istore_g hc (by show (!(mm_wide a11)) = true; rw [ho]; rfl) kk
theorem r_istore_18_11 {a0 a1 a2 a3 a4 a5 a6 a7 a8 a9 a10 a11 a12 a13 a14 a15 a16 a17 : mm_V} (hc : mm_code y pc = some (.istore 11, 2, c, x, k, pl)) (ho : mm_wide a10 = false) (kk : mm_X y (pc + 2) [a0, a1, a2, a3, a4, a5, a6, a7, a8, a9, a10, vI z, a12, a13, a14, a15, a16, a17] st h Q) : mm_X y pc [a0, a1, a2, a3, a4, a5, a6, a7, a8, a9, a10, a11, a12, a13, a14, a15, a16, a17] (vI z :: st) h Q := r_istore_g hc (by show (!(mm_wide a10)) = true; rw [ho]; rfl) kk
theorem r_istore_18_12 {a0 a1 a2 a3 a4 a5 a6 a7 a8 a9 a10 a11 a12 a13 a14 a15 a16 a17 : mm_V} (hc : mm_code y pc = some (.istore 12, 2, c, x, k, pl)) (ho : mm_wide a11 = false) (kk : mm_X y (pc + 2) [a0, a1, a2, a3, a4, a5, a6, a7, a8, a9, a10, a11, vI z, a13, a14, a15, a16, a17] st h Q) : mm_X y pc [a0, a1, a2, a3, a4, a5, a6, a7, a8, a9, a10, a11, a12, a13, a14, a15, a16, a17] (vI z :: st) h Q := r_istore_g hc (by show (!(mm_wide a11)) = true; rw [ho]; rfl) kk
theorem r_istore_18_13 {a0 a1 a2 a3 a4 a5 a6 a7 a8 a9 a10 a11 a12 a13 a14 a15 a16 a17 : mm_V} (hc : mm_code y pc = some (.istore 13, 2, c, x, k, pl)) (ho : mm_wide a12 = false) (kk : mm_X y (pc + 2) [a0, a1, a2, a3, a4, a5, a6, a7, a8, a9, a10, a11, a12, vI z, a14, a15, a16, a17] st h Q) : mm_X y pc [a0, a1, a2, a3, a4, a5, a6, a7, a8, a9, a10, a11, a12, a13, a14, a15, a16, a17] (vI z :: st) h Q := r_istore_g hc (by show (!(mm_wide a12)) = true; rw [ho]; rfl) kk
theorem r_istore_18_14 {a0 a1 a2 a3 a4 a5 a6 a7 a8 a9 a10 a11 a12 a13 a14 a15 a16 a17 : mm_V} (hc : mm_code y pc = some (.istore 14, 2, c, x, k, pl)) (ho : mm_wide a13 = false) (kk : mm_X y (pc + 2) [a0, a1, a2, a3, a4, a5, a6, a7, a8, a9, a10, a11, a12, a13, vI z, a15, a16, a17] st h Q) : mm_X y pc [a0, a1, a2, a3, a4, a5, a6, a7, a8, a9, a10, a11, a12, a13, a14, a15, a16, a17] (vI z :: st) h Q := r_istore_g hc (by show (!(mm_wide a13)) = true; rw [ho]; rfl) kk
theorem r_istore_18_15 {a0 a1 a2 a3 a4 a5 a6 a7 a8 a9 a10 a11 a12 a13 a14 a15 a16 a17 : mm_V} (hc : mm_code y pc = some (.istore 15, 2, c, x, k, pl)) (ho : mm_wide a14 = false) (kk : mm_X y (pc + 2) [a0, a1, a2, a3, a4, a5, a6, a7, a8, a9, a10, a11, a12, a13, a14, vI z, a16, a17] st h Q) : mm_X y pc [a0, a1, a2, a3, a4, a5, a6, a7, a8, a9, a10, a11, a12, a13, a14, a15, a16, a17] (vI z :: st) h Q := r_istore_g hc (by show (!(mm_wide a14)) = true; rw [ho]; rfl) kk
theorem r_istore_18_16 {a0 a1 a2 a3 a4 a5 a6 a7 a8 a9 a10 a11 a12 a13 a14 a15 a16 a17 : mm_V} (hc : mm_code y pc = some (.istore 16, 2, c, x, k, pl)) (ho : mm_wide a15 = false) (kk : mm_X y (pc + 2) [a0, a1, a2, a3, a4, a5, a6, a7, a8, a9, a10, a11, a12, a13, a14, a15, vI z, a17] st h Q) : mm_X y pc [a0, a1, a2, a3, a4, a5, a6, a7, a8, a9, a10, a11, a12, a13, a14, a15, a16, a17] (vI z :: st) h Q := r_istore_g hc (by show (!(mm_wide a15)) = true; rw [ho]; rfl) kk
theorem r_istore_18_17 {a0 a1 a2 a3 a4 a5 a6 a7 a8 a9 a10 a11 a12 a13 a14 a15 a16 a17 : mm_V} (hc : mm_code y pc = some (.istore 17, 2, c, x, k, pl)) (ho : mm_wide a16 = false) (kk : mm_X y (pc + 2) [a0, a1, a2, a3, a4, a5, a6, a7, a8, a9, a10, a11, a12, a13, a14, a15, a16, vI z] st h Q) : mm_X y pc [a0, a1, a2, a3, a4, a5, a6, a7, a8, a9, a10, a11, a12, a13, a14, a15, a16, a17] (vI z :: st) h Q := r_istore_g hc (by show (!(mm_wide a16)) = true; rw [ho]; rfl) kk
theorem r_istore_20_4 {a0 a1 a2 a3 a4 a5 a6 a7 a8 a9 a10 a11 a12 a13 a14 a15 a16 a17 a18 a19 : mm_V} (hc : mm_code y pc = some (.istore 4, 2, c, x, k, pl)) (ho : mm_wide a3 = false) (kk : mm_X y (pc + 2) [a0, a1, a2, a3, vI z, a5, a6, a7, a8, a9, a10, a11, a12, a13, a14, a15, a16, a17, a18, a19] st h Q) : mm_X y pc [a0, a1, a2, a3, a4, a5, a6, a7, a8, a9, a10, a11, a12, a13, a14, a15, a16, a17, a18, a19] (vI z :: st) h Q := r_istore_g hc (by show (!(mm_wide a3)) = true; rw [ho]; rfl) kk
theorem r_istore_20_5 {a0 a1 a2 a3 a4 a5 a6 a7 a8 a9 a10 a11 a12 a13 a14 a15 a16 a17 a18 a19 : mm_V} (hc : mm_code y pc = some (.istore 5, 2, c, x, k, pl)) (ho : mm_wide a4 = false) (kk : mm_X y (pc + 2) [a0, a1, a2, a3, a4, vI z, a6, a7, a8, a9, a10, a11, a12, a13, a14, a15, a16, a17, a18, a19] st h Q) : mm_X y pc [a0, a1, a2, a3, a4, a5, a6, a7, a8, a9, a10, a11, a12, a13, a14, a15, a16, a17, a18, a19] (vI z :: st) h Q := r_istore_g hc (by show (!(mm_wide a4)) = true; rw [ho]; rfl) kk
theorem r_istore_20_6 {a0 a1 a2 a3 a4 a5 a6 a7 a8 a9 a10 a11 a12 a13 a14 a15 a16 a17 a18 a19 : mm_V} (hc : mm_code y pc = some (.istore 6, 2, c, x, k, pl)) (ho : mm_wide a5 = false) (kk : mm_X y (pc + 2) [a0, a1, a2, a3, a4, a5, vI z, a7, a8, a9, a10, a11, a12, a13, a14, a15, a16, a17, a18, a19] st h Q) : mm_X y pc [a0, a1, a2, a3, a4, a5, a6, a7, a8, a9, a10, a11, a12, a13, a14, a15, a16, a17, a18, a19] (vI z :: st) h Q := r_istore_g hc (by show (!(mm_wide a5)) = true; rw [ho]; rfl) kk
theorem r_istore_20_11 {a0 a1 a2 a3 a4 a5 a6 a7 a8 a9 a10 a11 a12 a13 a14 a15 a16 a17 a18 a19 : mm_V} (hc : mm_code y pc = some (.istore 11, 2, c, x, k, pl)) (ho : mm_wide a10 = false) (kk : mm_X y (pc + 2) [a0, a1, a2, a3, a4, a5, a6, a7, a8, a9, a10, vI z, a12, a13, a14, a15, a16, a17, a18, a19] st h Q) : mm_X y pc [a0, a1, a2, a3, a4, a5, a6, a7, a8, a9, a10, a11, a12, a13, a14, a15, a16, a17, a18, a19] (vI z :: st) h Q := r_istore_g hc (by show (!(mm_wide a10)) = true; rw [ho]; rfl) kk
theorem r_istore_20_16 {a0 a1 a2 a3 a4 a5 a6 a7 a8 a9 a10 a11 a12 a13 a14 a15 a16 a17 a18 a19 : mm_V} (hc : mm_code y pc = some (.istore 16, 2, c, x, k, pl)) (ho : mm_wide a15 = false) (kk : mm_X y (pc + 2) [a0, a1, a2, a3, a4, a5, a6, a7, a8, a9, a10, a11, a12, a13, a14, a15, vI z, a17, a18, a19] st h Q) : mm_X y pc [a0, a1, a2, a3, a4, a5, a6, a7, a8, a9, a10, a11, a12, a13, a14, a15, a16, a17, a18, a19] (vI z :: st) h Q := r_istore_g hc (by show (!(mm_wide a15)) = true; rw [ho]; rfl) kk
theorem r_istore_20_17 {a0 a1 a2 a3 a4 a5 a6 a7 a8 a9 a10 a11 a12 a13 a14 a15 a16 a17 a18 a19 : mm_V} (hc : mm_code y pc = some (.istore 17, 2, c, x, k, pl)) (ho : mm_wide a16 = false) (kk : mm_X y (pc + 2) [a0, a1, a2, a3, a4, a5, a6, a7, a8, a9, a10, a11, a12, a13, a14, a15, a16, vI z, a18, a19] st h Q) : mm_X y pc [a0, a1, a2, a3, a4, a5, a6, a7, a8, a9, a10, a11, a12, a13, a14, a15, a16, a17, a18, a19] (vI z :: st) h Q := r_istore_g hc (by show (!(mm_wide a16)) = true; rw [ho]; rfl) kk
theorem r_istore_20_18 {a0 a1 a2 a3 a4 a5 a6 a7 a8 a9 a10 a11 a12 a13 a14 a15 a16 a17 a18 a19 : mm_V} (hc : mm_code y pc = some (.istore 18, 2, c, x, k, pl)) (ho : mm_wide a17 = false) (kk : mm_X y (pc + 2) [a0, a1, a2, a3, a4, a5, a6, a7, a8, a9, a10, a11, a12, a13, a14, a15, a16, a17, vI z, a19] st h Q) : mm_X y pc [a0, a1, a2, a3, a4, a5, a6, a7, a8, a9, a10, a11, a12, a13, a14, a15, a16, a17, a18, a19] (vI z :: st) h Q := r_istore_g hc (by show (!(mm_wide a17)) = true; rw [ho]; rfl) kk
theorem r_istore_20_19 {a0 a1 a2 a3 a4 a5 a6 a7 a8 a9 a10 a11 a12 a13 a14 a15 a16 a17 a18 a19 : mm_V} (hc : mm_code y pc = some (.istore 19, 2, c, x, k, pl)) (ho : mm_wide a18 = false) (kk : mm_X y (pc + 2) [a0, a1, a2, a3, a4, a5, a6, a7, a8, a9, a10, a11, a12, a13, a14, a15, a16, a17, a18, vI z] st h Q) : mm_X y pc [a0, a1, a2, a3, a4, a5, a6, a7, a8, a9, a10, a11, a12, a13, a14, a15, a16, a17, a18, a19] (vI z :: st) h Q := r_istore_g hc (by show (!(mm_wide a18)) = true; rw [ho]; rfl) kk
theorem r_istore_n_2_1 {a0 a1 : mm_V} (hc : mm_code y pc = some (.istore_n 1, 1, c, x, k, pl)) (ho : mm_wide a0 = false) (kk : mm_X y (pc + 1) [a0, vI z] st h Q) : mm_X y pc [a0, a1] (vI z :: st) h Q := r_istore_n_g hc (by show (!(mm_wide a0)) = true; rw [ho]; rfl) kk
theorem r_istore_n_3_1 {a0 a1 a2 : mm_V} (hc : mm_code y pc = some (.istore_n 1, 1, c, x, k, pl)) (ho : mm_wide a0 = false) (kk : mm_X y (pc + 1) [a0, vI z, a2] st h Q) : mm_X y pc [a0, a1, a2] (vI z :: st) h Q := r_istore_n_g hc (by show (!(mm_wide a0)) = true; rw [ho]; rfl) kk
theorem r_istore_n_3_2 {a0 a1 a2 : mm_V} (hc : mm_code y pc = some (.istore_n 2, 1, c, x, k, pl)) (ho : mm_wide a1 = false) (kk : mm_X y (pc + 1) [a0, a1, vI z] st h Q) : mm_X y pc [a0, a1, a2] (vI z :: st) h Q := r_istore_n_g hc (by show (!(mm_wide a1)) = true; rw [ho]; rfl) kk
theorem r_istore_n_4_1 {a0 a1 a2 a3 : mm_V} (hc : mm_code y pc = some (.istore_n 1, 1, c, x, k, pl)) (ho : mm_wide a0 = false) (kk : mm_X y (pc + 1) [a0, vI z, a2, a3] st h Q) : mm_X y pc [a0, a1, a2, a3] (vI z :: st) h Q := r_istore_n_g hc (by show (!(mm_wide a0)) = true; rw [ho]; rfl) kk
theorem r_istore_n_4_2 {a0 a1 a2 a3 : mm_V} (hc : mm_code y pc = some (.istore_n 2, 1, c, x, k, pl)) (ho : mm_wide a1 = false) (kk : mm_X y (pc + 1) [a0, a1, vI z, a3] st h Q) : mm_X y pc [a0, a1, a2, a3] (vI z :: st) h Q := r_istore_n_g hc (by show (!(mm_wide a1)) = true; rw [ho]; rfl) kk
theorem r_istore_n_4_3 {a0 a1 a2 a3 : mm_V} (hc : mm_code y pc = some (.istore_n 3, 1, c, x, k, pl)) (ho : mm_wide a2 = false) (kk : mm_X y (pc + 1) [a0, a1, a2, vI z] st h Q) : mm_X y pc [a0, a1, a2, a3] (vI z :: st) h Q := r_istore_n_g hc (by show (!(mm_wide a2)) = true; rw [ho]; rfl) kk
theorem r_istore_n_5_1 {a0 a1 a2 a3 a4 : mm_V} (hc : mm_code y pc = some (.istore_n 1, 1, c, x, k, pl)) (ho : mm_wide a0 = false) (kk : mm_X y (pc + 1) [a0, vI z, a2, a3, a4] st h Q) : mm_X y pc [a0, a1, a2, a3, a4] (vI z :: st) h Q := r_istore_n_g hc (by show (!(mm_wide a0)) = true; rw [ho]; rfl) kk
theorem r_istore_n_5_2 {a0 a1 a2 a3 a4 : mm_V} (hc : mm_code y pc = some (.istore_n 2, 1, c, x, k, pl)) (ho : mm_wide a1 = false) (kk : mm_X y (pc + 1) [a0, a1, vI z, a3, a4] st h Q) : mm_X y pc [a0, a1, a2, a3, a4] (vI z :: st) h Q := r_istore_n_g hc (by show (!(mm_wide a1)) = true; rw [ho]; rfl) kk
theorem r_istore_n_5_3 {a0 a1 a2 a3 a4 : mm_V} (hc : mm_code y pc = some (.istore_n 3, 1, c, x, k, pl)) (ho : mm_wide a2 = false) (kk : mm_X y (pc + 1) [a0, a1, a2, vI z, a4] st h Q) : mm_X y pc [a0, a1, a2, a3, a4] (vI z :: st) h Q := r_istore_n_g hc (by show (!(mm_wide a2)) = true; rw [ho]; rfl) kk
theorem r_istore_n_6_2 {a0 a1 a2 a3 a4 a5 : mm_V} (hc : mm_code y pc = some (.istore_n 2, 1, c, x, k, pl)) (ho : mm_wide a1 = false) (kk : mm_X y (pc + 1) [a0, a1, vI z, a3, a4, a5] st h Q) : mm_X y pc [a0, a1, a2, a3, a4, a5] (vI z :: st) h Q := r_istore_n_g hc (by show (!(mm_wide a1)) = true; rw [ho]; rfl) kk
theorem r_istore_n_6_3 {a0 a1 a2 a3 a4 a5 : mm_V} (hc : mm_code y pc = some (.istore_n 3, 1, c, x, k, pl)) (ho : mm_wide a2 = false) (kk : mm_X y (pc + 1) [a0, a1, a2, vI z, a4, a5] st h Q) : mm_X y pc [a0, a1, a2, a3, a4, a5] (vI z :: st) h Q := r_istore_n_g hc (by show (!(mm_wide a2)) = true; rw [ho]; rfl) kk
theorem r_istore_n_7_1 {a0 a1 a2 a3 a4 a5 a6 : mm_V} (hc : mm_code y pc = some (.istore_n 1, 1, c, x, k, pl)) (ho : mm_wide a0 = false) (kk : mm_X y (pc + 1) [a0, vI z, a2, a3, a4, a5, a6] st h Q) : mm_X y pc [a0, a1, a2, a3, a4, a5, a6] (vI z :: st) h Q := r_istore_n_g hc (by show (!(mm_wide a0)) = true; rw [ho]; rfl) kk
theorem r_istore_n_7_2 {a0 a1 a2 a3 a4 a5 a6 : mm_V} (hc : mm_code y pc = some (.istore_n 2, 1, c, x, k, pl)) (ho : mm_wide a1 = false) (kk : mm_X y (pc + 1) [a0, a1, vI z, a3, a4, a5, a6] st h Q) : mm_X y pc [a0, a1, a2, a3, a4, a5, a6] (vI z :: st) h Q := r_istore_n_g hc (by show (!(mm_wide a1)) = true; rw [ho]; rfl) kk
theorem r_istore_n_7_3 {a0 a1 a2 a3 a4 a5 a6 : mm_V} (hc : mm_code y pc = some (.istore_n 3, 1, c, x, k, pl)) (ho : mm_wide a2 = false) (kk : mm_X y (pc + 1) [a0, a1, a2, vI z, a4, a5, a6] st h Q) : mm_X y pc [a0, a1, a2, a3, a4, a5, a6] (vI z :: st) h Q := r_istore_n_g hc (by show (!(mm_wide a2)) = true; rw [ho]; rfl) kk
theorem r_istore_n_8_2 {a0 a1 a2 a3 a4 a5 a6 a7 : mm_V} (hc : mm_code y pc = some (.istore_n 2, 1, c, x, k, pl)) (ho : mm_wide a1 = false) (kk : mm_X y (pc + 1) [a0, a1, vI z, a3, a4, a5, a6, a7] st h Q) : mm_X y pc [a0, a1, a2, a3, a4, a5, a6, a7] (vI z :: st) h Q := r_istore_n_g hc (by show (!(mm_wide a1)) = true; rw [ho]; rfl) kk
theorem r_istore_n_8_3 {a0 a1 a2 a3 a4 a5 a6 a7 : mm_V} (hc : mm_code y pc = some (.istore_n 3, 1, c, x, k, pl)) (ho : mm_wide a2 = false) (kk : mm_X y (pc + 1) [a0, a1, a2, vI z, a4, a5, a6, a7] st h Q) : mm_X y pc [a0, a1, a2, a3, a4, a5, a6, a7] (vI z :: st) h Q := r_istore_n_g hc (by show (!(mm_wide a2)) = true; rw [ho]; rfl) kk
theorem r_istore_n_9_1 {a0 a1 a2 a3 a4 a5 a6 a7 a8 : mm_V} (hc : mm_code y pc = some (.istore_n 1, 1, c, x, k, pl)) (ho : mm_wide a0 = false) (kk : mm_X y (pc + 1) [a0, vI z, a2, a3, a4, a5, a6, a7, a8] st h Q) : mm_X y pc [a0, a1, a2, a3, a4, a5, a6, a7, a8] (vI z :: st) h Q := r_istore_n_g hc (by show (!(mm_wide a0)) = true; rw [ho]; rfl) kk
theorem r_istore_n_9_2 {a0 a1 a2 a3 a4 a5 a6 a7 a8 : mm_V} (hc : mm_code y pc = some (.istore_n 2, 1, c, x, k, pl)) (ho : mm_wide a1 = false) (kk : mm_X y (pc + 1) [a0, a1, vI z, a3, a4, a5, a6, a7, a8] st h Q) : mm_X y pc [a0, a1, a2, a3, a4, a5, a6, a7, a8] (vI z :: st) h Q := r_istore_n_g hc (by show (!(mm_wide a1)) = true; rw [ho]; rfl) kk
theorem r_istore_n_9_3 {a0 a1 a2 a3 a4 a5 a6 a7 a8 : mm_V} (hc : mm_code y pc = some (.istore_n 3, 1, c, x, k, pl)) (ho : mm_wide a2 = false) (kk : mm_X y (pc + 1) [a0, a1, a2, vI z, a4, a5, a6, a7, a8] st h Q) : mm_X y pc [a0, a1, a2, a3, a4, a5, a6, a7, a8] (vI z :: st) h Q := r_istore_n_g hc (by show (!(mm_wide a2)) = true; rw [ho]; rfl) kk
theorem r_istore_n_12_2 {a0 a1 a2 a3 a4 a5 a6 a7 a8 a9 a10 a11 : mm_V} (hc : mm_code y pc = some (.istore_n 2, 1, c, x, k, pl)) (ho : mm_wide a1 = false) (kk : mm_X y (pc + 1) [a0, a1, vI z, a3, a4, a5, a6, a7, a8, a9, a10, a11] st h Q) : mm_X y pc [a0, a1, a2, a3, a4, a5, a6, a7, a8, a9, a10, a11] (vI z :: st) h Q := r_istore_n_g hc (by show (!(mm_wide a1)) = true; rw [ho]; rfl) kk
theorem r_istore_n_12_3 {a0 a1 a2 a3 a4 a5 a6 a7 a8 a9 a10 a11 : mm_V} (hc : mm_code y pc = some (.istore_n 3, 1, c, x, k, pl)) (ho : mm_wide a2 = false) (kk : mm_X y (pc + 1) [a0, a1, a2, vI z, a4, a5, a6, a7, a8, a9, a10, a11] st h Q) : mm_X y pc [a0, a1, a2, a3, a4, a5, a6, a7, a8, a9, a10, a11] (vI z :: st) h Q := r_istore_n_g hc (by show (!(mm_wide a2)) = true; rw [ho]; rfl) kk
theorem r_lstore_7_4 {a0 a1 a2 a3 a4 a5 a6 : mm_V} (hc : mm_code y pc = some (.lstore 4, 2, c, x, k, pl)) (ho : mm_wide a3 = false) (kk : mm_X y (pc + 2) [a0, a1, a2, a3, vJ z, mm_null, a6] st h Q) : mm_X y pc [a0, a1, a2, a3, a4, a5, a6] (vJ z :: st) h Q := r_lstore_g hc (by show (!(mm_wide a3)) = true; rw [ho]; rfl) kk
theorem r_lstore_8_4 {a0 a1 a2 a3 a4 a5 a6 a7 : mm_V} (hc : mm_code y pc = some (.lstore 4, 2, c, x, k, pl)) (ho : mm_wide a3 = false) (kk : mm_X y (pc + 2) [a0, a1, a2, a3, vJ z, mm_null, a6, a7] st h Q) : mm_X y pc [a0, a1, a2, a3, a4, a5, a6, a7] (vJ z :: st) h Q := r_lstore_g hc (by show (!(mm_wide a3)) = true; rw [ho]; rfl) kk
theorem r_lstore_13_6 {a0 a1 a2 a3 a4 a5 a6 a7 a8 a9 a10 a11 a12 : mm_V} (hc : mm_code y pc = some (.lstore 6, 2, c, x, k, pl)) (ho : mm_wide a5 = false) (kk : mm_X y (pc + 2) [a0, a1, a2, a3, a4, a5, vJ z, mm_null, a8, a9, a10, a11, a12] st h Q) : mm_X y pc [a0, a1, a2, a3, a4, a5, a6, a7, a8, a9, a10, a11, a12] (vJ z :: st) h Q := r_lstore_g hc (by show (!(mm_wide a5)) = true; rw [ho]; rfl) kk
theorem r_lstore_18_5 {a0 a1 a2 a3 a4 a5 a6 a7 a8 a9 a10 a11 a12 a13 a14 a15 a16 a17 : mm_V} (hc : mm_code y pc = some (.lstore 5, 2, c, x, k, pl)) (ho : mm_wide a4 = false) (kk : mm_X y (pc + 2) [a0, a1, a2, a3, a4, vJ z, mm_null, a7, a8, a9, a10, a11, a12, a13, a14, a15, a16, a17] st h Q) : mm_X y pc [a0, a1, a2, a3, a4, a5, a6, a7, a8, a9, a10, a11, a12, a13, a14, a15, a16, a17] (vJ z :: st) h Q := r_lstore_g hc (by show (!(mm_wide a4)) = true; rw [ho]; rfl) kk
theorem r_lstore_18_7 {a0 a1 a2 a3 a4 a5 a6 a7 a8 a9 a10 a11 a12 a13 a14 a15 a16 a17 : mm_V} (hc : mm_code y pc = some (.lstore 7, 2, c, x, k, pl)) (ho : mm_wide a6 = false) (kk : mm_X y (pc + 2) [a0, a1, a2, a3, a4, a5, a6, vJ z, mm_null, a9, a10, a11, a12, a13, a14, a15, a16, a17] st h Q) : mm_X y pc [a0, a1, a2, a3, a4, a5, a6, a7, a8, a9, a10, a11, a12, a13, a14, a15, a16, a17] (vJ z :: st) h Q := r_lstore_g hc (by show (!(mm_wide a6)) = true; rw [ho]; rfl) kk
theorem r_lstore_18_9 {a0 a1 a2 a3 a4 a5 a6 a7 a8 a9 a10 a11 a12 a13 a14 a15 a16 a17 : mm_V} (hc : mm_code y pc = some (.lstore 9, 2, c, x, k, pl)) (ho : mm_wide a8 = false) (kk : mm_X y (pc + 2) [a0, a1, a2, a3, a4, a5, a6, a7, a8, vJ z, mm_null, a11, a12, a13, a14, a15, a16, a17] st h Q) : mm_X y pc [a0, a1, a2, a3, a4, a5, a6, a7, a8, a9, a10, a11, a12, a13, a14, a15, a16, a17] (vJ z :: st) h Q := r_lstore_g hc (by show (!(mm_wide a8)) = true; rw [ho]; rfl) kk
theorem r_lstore_20_7 {a0 a1 a2 a3 a4 a5 a6 a7 a8 a9 a10 a11 a12 a13 a14 a15 a16 a17 a18 a19 : mm_V} (hc : mm_code y pc = some (.lstore 7, 2, c, x, k, pl)) (ho : mm_wide a6 = false) (kk : mm_X y (pc + 2) [a0, a1, a2, a3, a4, a5, a6, vJ z, mm_null, a9, a10, a11, a12, a13, a14, a15, a16, a17, a18, a19] st h Q) : mm_X y pc [a0, a1, a2, a3, a4, a5, a6, a7, a8, a9, a10, a11, a12, a13, a14, a15, a16, a17, a18, a19] (vJ z :: st) h Q := r_lstore_g hc (by show (!(mm_wide a6)) = true; rw [ho]; rfl) kk
theorem r_lstore_20_9 {a0 a1 a2 a3 a4 a5 a6 a7 a8 a9 a10 a11 a12 a13 a14 a15 a16 a17 a18 a19 : mm_V} (hc : mm_code y pc = some (.lstore 9, 2, c, x, k, pl)) (ho : mm_wide a8 = false) (kk : mm_X y (pc + 2) [a0, a1, a2, a3, a4, a5, a6, a7, a8, vJ z, mm_null, a11, a12, a13, a14, a15, a16, a17, a18, a19] st h Q) : mm_X y pc [a0, a1, a2, a3, a4, a5, a6, a7, a8, a9, a10, a11, a12, a13, a14, a15, a16, a17, a18, a19] (vJ z :: st) h Q := r_lstore_g hc (by show (!(mm_wide a8)) = true; rw [ho]; rfl) kk
theorem r_lstore_20_12 {a0 a1 a2 a3 a4 a5 a6 a7 a8 a9 a10 a11 a12 a13 a14 a15 a16 a17 a18 a19 : mm_V} (hc : mm_code y pc = some (.lstore 12, 2, c, x, k, pl)) (ho : mm_wide a11 = false) (kk : mm_X y (pc + 2) [a0, a1, a2, a3, a4, a5, a6, a7, a8, a9, a10, a11, vJ z, mm_null, a14, a15, a16, a17, a18, a19] st h Q) : mm_X y pc [a0, a1, a2, a3, a4, a5, a6, a7, a8, a9, a10, a11, a12, a13, a14, a15, a16, a17, a18, a19] (vJ z :: st) h Q := r_lstore_g hc (by show (!(mm_wide a11)) = true; rw [ho]; rfl) kk
theorem r_lstore_20_14 {a0 a1 a2 a3 a4 a5 a6 a7 a8 a9 a10 a11 a12 a13 a14 a15 a16 a17 a18 a19 : mm_V} (hc : mm_code y pc = some (.lstore 14, 2, c, x, k, pl)) (ho : mm_wide a13 = false) (kk : mm_X y (pc + 2) [a0, a1, a2, a3, a4, a5, a6, a7, a8, a9, a10, a11, a12, a13, vJ z, mm_null, a16, a17, a18, a19] st h Q) : mm_X y pc [a0, a1, a2, a3, a4, a5, a6, a7, a8, a9, a10, a11, a12, a13, a14, a15, a16, a17, a18, a19] (vJ z :: st) h Q := r_lstore_g hc (by show (!(mm_wide a13)) = true; rw [ho]; rfl) kk
theorem r_lstore_n_18_3 {a0 a1 a2 a3 a4 a5 a6 a7 a8 a9 a10 a11 a12 a13 a14 a15 a16 a17 : mm_V} (hc : mm_code y pc = some (.lstore_n 3, 1, c, x, k, pl)) (ho : mm_wide a2 = false) (kk : mm_X y (pc + 1) [a0, a1, a2, vJ z, mm_null, a5, a6, a7, a8, a9, a10, a11, a12, a13, a14, a15, a16, a17] st h Q) : mm_X y pc [a0, a1, a2, a3, a4, a5, a6, a7, a8, a9, a10, a11, a12, a13, a14, a15, a16, a17] (vJ z :: st) h Q := r_lstore_n_g hc (by show (!(mm_wide a2)) = true; rw [ho]; rfl) kk
end ROWS
end
section
theorem c_0_16 : mm_code 0 16 = some (Instr.iconst 0, 1, 0, 0, 0, []) := rfl
theorem c_0_17 : mm_code 0 17 = some (Instr.istore_n 3, 1, 0, 0, 0, []) := rfl
theorem c_0_18 : mm_code 0 18 = some (Instr.iload_n 3, 1, 0, 0, 0, []) := rfl
theorem c_0_19 : mm_code 0 19 = some (Instr.aload_n 0, 1, 0, 0, 0, []) := rfl
theorem c_0_20 : mm_code 0 20 = some (Instr.arraylength, 1, 0, 0, 0, []) := rfl
theorem c_0_21 : mm_code 0 21 = some (Instr.iconst 5, 1, 5, 0, 0, []) := rfl
theorem c_0_22 : mm_code 0 22 = some (Instr.isub, 1, 0, 0, 0, []) := rfl
theorem c_0_23 : mm_code 0 23 = some (Instr.if_icmp .gt 639, 3, 0, 662, 0, []) := rfl
theorem c_0_26 : mm_code 0 26 = some (Instr.aload_n 0, 1, 0, 0, 0, []) := rfl
theorem c_0_27 : mm_code 0 27 = some (Instr.iload_n 3, 1, 0, 0, 0, []) := rfl
theorem c_0_28 : mm_code 0 28 = some (Instr.iaload, 1, 0, 0, 0, []) := rfl
theorem c_0_29 : mm_code 0 29 = some (Instr.bipush 31, 2, 31, 0, 0, []) := rfl
theorem c_0_31 : mm_code 0 31 = some (Instr.iand, 1, 0, 0, 0, []) := rfl
theorem c_0_32 : mm_code 0 32 = some (Instr.tableswitch 624 0 17 #[88, 151, 164, 187, 210, 253, 276, 345, 378, 431, 464, 487, 500, 513, 526, 539, 578, 601], 88, 0, 0, 0, []) := rfl
theorem c_0_120 : mm_code 0 120 = some (Instr.aload_n 1, 1, 0, 0, 0, []) := rfl
theorem c_0_121 : mm_code 0 121 = some (Instr.aload_n 0, 1, 0, 0, 0, []) := rfl
theorem c_0_122 : mm_code 0 122 = some (Instr.iload_n 3, 1, 0, 0, 0, []) := rfl
theorem c_0_123 : mm_code 0 123 = some (Instr.iconst 1, 1, 1, 0, 0, []) := rfl
theorem c_0_124 : mm_code 0 124 = some (Instr.iadd, 1, 0, 0, 0, []) := rfl
theorem c_0_125 : mm_code 0 125 = some (Instr.iaload, 1, 0, 0, 0, []) := rfl
theorem c_0_126 : mm_code 0 126 = some (Instr.i2l, 1, 0, 0, 0, []) := rfl
theorem c_0_127 : mm_code 0 127 = some (Instr.bipush 32, 2, 32, 0, 0, []) := rfl
theorem c_0_129 : mm_code 0 129 = some (Instr.lshl, 1, 0, 0, 0, []) := rfl
theorem c_0_130 : mm_code 0 130 = some (Instr.aload_n 0, 1, 0, 0, 0, []) := rfl
theorem c_0_131 : mm_code 0 131 = some (Instr.iload_n 3, 1, 0, 0, 0, []) := rfl
theorem c_0_132 : mm_code 0 132 = some (Instr.iconst 2, 1, 2, 0, 0, []) := rfl
theorem c_0_133 : mm_code 0 133 = some (Instr.iadd, 1, 0, 0, 0, []) := rfl
theorem c_0_134 : mm_code 0 134 = some (Instr.iaload, 1, 0, 0, 0, []) := rfl
theorem c_0_135 : mm_code 0 135 = some (Instr.i2l, 1, 0, 0, 0, []) := rfl
theorem c_0_136 : mm_code 0 136 = some (Instr.ldc2_w 13, 3, 4294967295, 0, 0, [1254]) := rfl
theorem c_0_139 : mm_code 0 139 = some (Instr.land, 1, 0, 0, 0, []) := rfl
theorem c_0_140 : mm_code 0 140 = some (Instr.lor, 1, 0, 0, 0, []) := rfl
theorem c_0_141 : mm_code 0 141 = some (Instr.aload_n 0, 1, 0, 0, 0, []) := rfl
set_option maxRecDepth 100000 in theorem c_0_142 : mm_code 0 142 = some (Instr.iload_n 3, 1, 0, 0, 0, []) := rfl
set_option maxRecDepth 100000 in theorem c_0_143 : mm_code 0 143 = some (Instr.iconst 3, 1, 3, 0, 0, []) := rfl
set_option maxRecDepth 100000 in theorem c_0_144 : mm_code 0 144 = some (Instr.iadd, 1, 0, 0, 0, []) := rfl
set_option maxRecDepth 100000 in theorem c_0_145 : mm_code 0 145 = some (Instr.iaload, 1, 0, 0, 0, []) := rfl
set_option maxRecDepth 100000 in theorem c_0_146 : mm_code 0 146 = some (Instr.invokevirtual 15, 3, 9, 11, 2, [323, 324, 325, 56, 326]) := rfl
set_option maxRecDepth 100000 in theorem c_0_149 : mm_code 0 149 = some (Instr.aload_n 2, 1, 0, 0, 0, []) := rfl
set_option maxRecDepth 100000 in theorem c_0_150 : mm_code 0 150 = some (Instr.aload_n 0, 1, 0, 0, 0, []) := rfl
set_option maxRecDepth 100000 in theorem c_0_151 : mm_code 0 151 = some (Instr.iload_n 3, 1, 0, 0, 0, []) := rfl
set_option maxRecDepth 100000 in theorem c_0_152 : mm_code 0 152 = some (Instr.iconst 1, 1, 1, 0, 0, []) := rfl
set_option maxRecDepth 100000 in theorem c_0_153 : mm_code 0 153 = some (Instr.iadd, 1, 0, 0, 0, []) := rfl
set_option maxRecDepth 100000 in theorem c_0_154 : mm_code 0 154 = some (Instr.iaload, 1, 0, 0, 0, []) := rfl
set_option maxRecDepth 100000 in theorem c_0_155 : mm_code 0 155 = some (Instr.i2l, 1, 0, 0, 0, []) := rfl
set_option maxRecDepth 100000 in theorem c_0_156 : mm_code 0 156 = some (Instr.bipush 32, 2, 32, 0, 0, []) := rfl
set_option maxRecDepth 100000 in theorem c_0_158 : mm_code 0 158 = some (Instr.lshl, 1, 0, 0, 0, []) := rfl
set_option maxRecDepth 100000 in theorem c_0_159 : mm_code 0 159 = some (Instr.aload_n 0, 1, 0, 0, 0, []) := rfl
set_option maxRecDepth 100000 in theorem c_0_160 : mm_code 0 160 = some (Instr.iload_n 3, 1, 0, 0, 0, []) := rfl
set_option maxRecDepth 100000 in theorem c_0_161 : mm_code 0 161 = some (Instr.iconst 2, 1, 2, 0, 0, []) := rfl
set_option maxRecDepth 100000 in theorem c_0_162 : mm_code 0 162 = some (Instr.iadd, 1, 0, 0, 0, []) := rfl
set_option maxRecDepth 100000 in theorem c_0_163 : mm_code 0 163 = some (Instr.iaload, 1, 0, 0, 0, []) := rfl
set_option maxRecDepth 100000 in theorem c_0_164 : mm_code 0 164 = some (Instr.i2l, 1, 0, 0, 0, []) := rfl
set_option maxRecDepth 100000 in theorem c_0_165 : mm_code 0 165 = some (Instr.ldc2_w 13, 3, 4294967295, 0, 0, [1254]) := rfl
set_option maxRecDepth 100000 in theorem c_0_168 : mm_code 0 168 = some (Instr.land, 1, 0, 0, 0, []) := rfl
set_option maxRecDepth 100000 in theorem c_0_169 : mm_code 0 169 = some (Instr.lor, 1, 0, 0, 0, []) := rfl
set_option maxRecDepth 100000 in theorem c_0_170 : mm_code 0 170 = some (Instr.aload_n 0, 1, 0, 0, 0, []) := rfl
set_option maxRecDepth 100000 in theorem c_0_171 : mm_code 0 171 = some (Instr.iload_n 3, 1, 0, 0, 0, []) := rfl
set_option maxRecDepth 100000 in theorem c_0_172 : mm_code 0 172 = some (Instr.iconst 3, 1, 3, 0, 0, []) := rfl
set_option maxRecDepth 100000 in theorem c_0_173 : mm_code 0 173 = some (Instr.iadd, 1, 0, 0, 0, []) := rfl
set_option maxRecDepth 100000 in theorem c_0_174 : mm_code 0 174 = some (Instr.iaload, 1, 0, 0, 0, []) := rfl
set_option maxRecDepth 100000 in theorem c_0_175 : mm_code 0 175 = some (Instr.invokevirtual 19, 3, 10, 134, 2, [1018, 1019, 1020, 66, 1021]) := rfl
set_option maxRecDepth 100000 in theorem c_0_178 : mm_code 0 178 = some (Instr.if_icmp .eq 478, 3, 0, 656, 0, []) := rfl
set_option maxRecDepth 100000 in theorem c_0_181 : mm_code 0 181 = some (Instr.iconst 0, 1, 0, 0, 0, []) := rfl
set_option maxRecDepth 100000 in theorem c_0_182 : mm_code 0 182 = some (Instr.ireturn, 1, 1, 0, 0, []) := rfl
set_option maxRecDepth 100000 in theorem c_0_183 : mm_code 0 183 = some (Instr.aload_n 1, 1, 0, 0, 0, []) := rfl
set_option maxRecDepth 100000 in theorem c_0_184 : mm_code 0 184 = some (Instr.invokevirtual 20, 3, 9, 15, 0, [340, 341, 342, 56, 343]) := rfl
set_option maxRecDepth 100000 in theorem c_0_187 : mm_code 0 187 = some (Instr.aload_n 2, 1, 0, 0, 0, []) := rfl
set_option maxRecDepth 100000 in theorem c_0_188 : mm_code 0 188 = some (Instr.invokevirtual 24, 3, 10, 136, 0, [1025, 1026, 1027, 66, 1028]) := rfl
set_option maxRecDepth 100000 in theorem c_0_191 : mm_code 0 191 = some (Instr.if_icmp .eq 465, 3, 0, 656, 0, []) := rfl
set_option maxRecDepth 100000 in theorem c_0_194 : mm_code 0 194 = some (Instr.iconst 0, 1, 0, 0, 0, []) := rfl
set_option maxRecDepth 100000 in theorem c_0_195 : mm_code 0 195 = some (Instr.ireturn, 1, 1, 0, 0, []) := rfl
set_option maxRecDepth 100000 in theorem c_0_196 : mm_code 0 196 = some (Instr.aload_n 1, 1, 0, 0, 0, []) := rfl
set_option maxRecDepth 100000 in theorem c_0_197 : mm_code 0 197 = some (Instr.aload_n 0, 1, 0, 0, 0, []) := rfl
set_option maxRecDepth 100000 in theorem c_0_198 : mm_code 0 198 = some (Instr.iload_n 3, 1, 0, 0, 0, []) := rfl
set_option maxRecDepth 100000 in theorem c_0_199 : mm_code 0 199 = some (Instr.iconst 1, 1, 1, 0, 0, []) := rfl
set_option maxRecDepth 100000 in theorem c_0_200 : mm_code 0 200 = some (Instr.iadd, 1, 0, 0, 0, []) := rfl
set_option maxRecDepth 100000 in theorem c_0_201 : mm_code 0 201 = some (Instr.iaload, 1, 0, 0, 0, []) := rfl
set_option maxRecDepth 100000 in theorem c_0_202 : mm_code 0 202 = some (Instr.invokevirtual 25, 3, 9, 25, 1, [381, 382, 383, 56, 384]) := rfl
set_option maxRecDepth 100000 in theorem c_0_205 : mm_code 0 205 = some (Instr.aload_n 2, 1, 0, 0, 0, []) := rfl
set_option maxRecDepth 100000 in theorem c_0_206 : mm_code 0 206 = some (Instr.aload_n 0, 1, 0, 0, 0, []) := rfl
set_option maxRecDepth 100000 in theorem c_0_207 : mm_code 0 207 = some (Instr.iload_n 3, 1, 0, 0, 0, []) := rfl
set_option maxRecDepth 100000 in theorem c_0_208 : mm_code 0 208 = some (Instr.iconst 1, 1, 1, 0, 0, []) := rfl
set_option maxRecDepth 100000 in theorem c_0_209 : mm_code 0 209 = some (Instr.iadd, 1, 0, 0, 0, []) := rfl
set_option maxRecDepth 100000 in theorem c_0_210 : mm_code 0 210 = some (Instr.iaload, 1, 0, 0, 0, []) := rfl
set_option maxRecDepth 100000 in theorem c_0_211 : mm_code 0 211 = some (Instr.invokevirtual 29, 3, 10, 139, 1, [1037, 1038, 1039, 66, 1040]) := rfl
set_option maxRecDepth 100000 in theorem c_0_214 : mm_code 0 214 = some (Instr.if_icmp .eq 442, 3, 0, 656, 0, []) := rfl
set_option maxRecDepth 100000 in theorem c_0_217 : mm_code 0 217 = some (Instr.iconst 0, 1, 0, 0, 0, []) := rfl
set_option maxRecDepth 100000 in theorem c_0_218 : mm_code 0 218 = some (Instr.ireturn, 1, 1, 0, 0, []) := rfl
set_option maxRecDepth 100000 in theorem c_0_219 : mm_code 0 219 = some (Instr.aload_n 1, 1, 0, 0, 0, []) := rfl
set_option maxRecDepth 100000 in theorem c_0_220 : mm_code 0 220 = some (Instr.aload_n 0, 1, 0, 0, 0, []) := rfl
set_option maxRecDepth 100000 in theorem c_0_221 : mm_code 0 221 = some (Instr.iload_n 3, 1, 0, 0, 0, []) := rfl
set_option maxRecDepth 100000 in theorem c_0_222 : mm_code 0 222 = some (Instr.iconst 1, 1, 1, 0, 0, []) := rfl
set_option maxRecDepth 100000 in theorem c_0_223 : mm_code 0 223 = some (Instr.iadd, 1, 0, 0, 0, []) := rfl
set_option maxRecDepth 100000 in theorem c_0_224 : mm_code 0 224 = some (Instr.iaload, 1, 0, 0, 0, []) := rfl
set_option maxRecDepth 100000 in theorem c_0_225 : mm_code 0 225 = some (Instr.invokevirtual 30, 3, 9, 26, 1, [386, 387, 388, 56, 389]) := rfl
set_option maxRecDepth 100000 in theorem c_0_228 : mm_code 0 228 = some (Instr.aload_n 2, 1, 0, 0, 0, []) := rfl
set_option maxRecDepth 100000 in theorem c_0_229 : mm_code 0 229 = some (Instr.aload_n 0, 1, 0, 0, 0, []) := rfl
set_option maxRecDepth 100000 in theorem c_0_230 : mm_code 0 230 = some (Instr.iload_n 3, 1, 0, 0, 0, []) := rfl
set_option maxRecDepth 100000 in theorem c_0_231 : mm_code 0 231 = some (Instr.iconst 1, 1, 1, 0, 0, []) := rfl
set_option maxRecDepth 100000 in theorem c_0_232 : mm_code 0 232 = some (Instr.iadd, 1, 0, 0, 0, []) := rfl
set_option maxRecDepth 100000 in theorem c_0_233 : mm_code 0 233 = some (Instr.iaload, 1, 0, 0, 0, []) := rfl
set_option maxRecDepth 100000 in theorem c_0_234 : mm_code 0 234 = some (Instr.invokevirtual 33, 3, 10, 140, 1, [1041, 1042, 1043, 66, 1044]) := rfl
set_option maxRecDepth 100000 in theorem c_0_237 : mm_code 0 237 = some (Instr.if_icmp .eq 419, 3, 0, 656, 0, []) := rfl
set_option maxRecDepth 100000 in theorem c_0_240 : mm_code 0 240 = some (Instr.iconst 0, 1, 0, 0, 0, []) := rfl
set_option maxRecDepth 100000 in theorem c_0_241 : mm_code 0 241 = some (Instr.ireturn, 1, 1, 0, 0, []) := rfl
set_option maxRecDepth 100000 in theorem c_0_242 : mm_code 0 242 = some (Instr.aload_n 1, 1, 0, 0, 0, []) := rfl
set_option maxRecDepth 100000 in theorem c_0_243 : mm_code 0 243 = some (Instr.aload_n 0, 1, 0, 0, 0, []) := rfl
set_option maxRecDepth 100000 in theorem c_0_244 : mm_code 0 244 = some (Instr.iload_n 3, 1, 0, 0, 0, []) := rfl
set_option maxRecDepth 100000 in theorem c_0_245 : mm_code 0 245 = some (Instr.iconst 1, 1, 1, 0, 0, []) := rfl
set_option maxRecDepth 100000 in theorem c_0_246 : mm_code 0 246 = some (Instr.iadd, 1, 0, 0, 0, []) := rfl
set_option maxRecDepth 100000 in theorem c_0_247 : mm_code 0 247 = some (Instr.iaload, 1, 0, 0, 0, []) := rfl
set_option maxRecDepth 100000 in theorem c_0_248 : mm_code 0 248 = some (Instr.aload_n 0, 1, 0, 0, 0, []) := rfl
set_option maxRecDepth 100000 in theorem c_0_249 : mm_code 0 249 = some (Instr.iload_n 3, 1, 0, 0, 0, []) := rfl
set_option maxRecDepth 100000 in theorem c_0_250 : mm_code 0 250 = some (Instr.iconst 2, 1, 2, 0, 0, []) := rfl
set_option maxRecDepth 100000 in theorem c_0_251 : mm_code 0 251 = some (Instr.iadd, 1, 0, 0, 0, []) := rfl
set_option maxRecDepth 100000 in theorem c_0_252 : mm_code 0 252 = some (Instr.iaload, 1, 0, 0, 0, []) := rfl
set_option maxRecDepth 100000 in theorem c_0_253 : mm_code 0 253 = some (Instr.aload_n 0, 1, 0, 0, 0, []) := rfl
set_option maxRecDepth 100000 in theorem c_0_254 : mm_code 0 254 = some (Instr.iload_n 3, 1, 0, 0, 0, []) := rfl
set_option maxRecDepth 100000 in theorem c_0_255 : mm_code 0 255 = some (Instr.iconst 3, 1, 3, 0, 0, []) := rfl
set_option maxRecDepth 100000 in theorem c_0_256 : mm_code 0 256 = some (Instr.iadd, 1, 0, 0, 0, []) := rfl
set_option maxRecDepth 100000 in theorem c_0_257 : mm_code 0 257 = some (Instr.iaload, 1, 0, 0, 0, []) := rfl
set_option maxRecDepth 100000 in theorem c_0_258 : mm_code 0 258 = some (Instr.invokevirtual 34, 3, 9, 28, 3, [396, 397, 398, 56, 399]) := rfl
set_option maxRecDepth 100000 in theorem c_0_261 : mm_code 0 261 = some (Instr.aload_n 2, 1, 0, 0, 0, []) := rfl
set_option maxRecDepth 100000 in theorem c_0_262 : mm_code 0 262 = some (Instr.aload_n 0, 1, 0, 0, 0, []) := rfl
set_option maxRecDepth 100000 in theorem c_0_263 : mm_code 0 263 = some (Instr.iload_n 3, 1, 0, 0, 0, []) := rfl
set_option maxRecDepth 100000 in theorem c_0_264 : mm_code 0 264 = some (Instr.iconst 1, 1, 1, 0, 0, []) := rfl
set_option maxRecDepth 100000 in theorem c_0_265 : mm_code 0 265 = some (Instr.iadd, 1, 0, 0, 0, []) := rfl
set_option maxRecDepth 100000 in theorem c_0_266 : mm_code 0 266 = some (Instr.iaload, 1, 0, 0, 0, []) := rfl
set_option maxRecDepth 100000 in theorem c_0_267 : mm_code 0 267 = some (Instr.aload_n 0, 1, 0, 0, 0, []) := rfl
set_option maxRecDepth 100000 in theorem c_0_268 : mm_code 0 268 = some (Instr.iload_n 3, 1, 0, 0, 0, []) := rfl
set_option maxRecDepth 100000 in theorem c_0_269 : mm_code 0 269 = some (Instr.iconst 2, 1, 2, 0, 0, []) := rfl
set_option maxRecDepth 100000 in theorem c_0_270 : mm_code 0 270 = some (Instr.iadd, 1, 0, 0, 0, []) := rfl
set_option maxRecDepth 100000 in theorem c_0_271 : mm_code 0 271 = some (Instr.iaload, 1, 0, 0, 0, []) := rfl
set_option maxRecDepth 100000 in theorem c_0_272 : mm_code 0 272 = some (Instr.aload_n 0, 1, 0, 0, 0, []) := rfl
set_option maxRecDepth 100000 in theorem c_0_273 : mm_code 0 273 = some (Instr.iload_n 3, 1, 0, 0, 0, []) := rfl
set_option maxRecDepth 100000 in theorem c_0_274 : mm_code 0 274 = some (Instr.iconst 3, 1, 3, 0, 0, []) := rfl
set_option maxRecDepth 100000 in theorem c_0_275 : mm_code 0 275 = some (Instr.iadd, 1, 0, 0, 0, []) := rfl
set_option maxRecDepth 100000 in theorem c_0_276 : mm_code 0 276 = some (Instr.iaload, 1, 0, 0, 0, []) := rfl
set_option maxRecDepth 100000 in theorem c_0_277 : mm_code 0 277 = some (Instr.invokevirtual 38, 3, 10, 142, 3, [1051, 1052, 1053, 66, 1054]) := rfl
set_option maxRecDepth 100000 in theorem c_0_280 : mm_code 0 280 = some (Instr.if_icmp .eq 376, 3, 0, 656, 0, []) := rfl
set_option maxRecDepth 100000 in theorem c_0_283 : mm_code 0 283 = some (Instr.iconst 0, 1, 0, 0, 0, []) := rfl
set_option maxRecDepth 100000 in theorem c_0_284 : mm_code 0 284 = some (Instr.ireturn, 1, 1, 0, 0, []) := rfl
set_option maxRecDepth 100000 in theorem c_0_285 : mm_code 0 285 = some (Instr.aload_n 1, 1, 0, 0, 0, []) := rfl
set_option maxRecDepth 100000 in theorem c_0_286 : mm_code 0 286 = some (Instr.aload_n 0, 1, 0, 0, 0, []) := rfl
set_option maxRecDepth 100000 in theorem c_0_287 : mm_code 0 287 = some (Instr.iload_n 3, 1, 0, 0, 0, []) := rfl
set_option maxRecDepth 100000 in theorem c_0_288 : mm_code 0 288 = some (Instr.iconst 1, 1, 1, 0, 0, []) := rfl
set_option maxRecDepth 100000 in theorem c_0_289 : mm_code 0 289 = some (Instr.iadd, 1, 0, 0, 0, []) := rfl
set_option maxRecDepth 100000 in theorem c_0_290 : mm_code 0 290 = some (Instr.iaload, 1, 0, 0, 0, []) := rfl
set_option maxRecDepth 100000 in theorem c_0_291 : mm_code 0 291 = some (Instr.invokevirtual 39, 3, 9, 32, 1, [412, 413, 414, 56, 415]) := rfl
set_option maxRecDepth 100000 in theorem c_0_294 : mm_code 0 294 = some (Instr.aload_n 2, 1, 0, 0, 0, []) := rfl
set_option maxRecDepth 100000 in theorem c_0_295 : mm_code 0 295 = some (Instr.aload_n 0, 1, 0, 0, 0, []) := rfl
set_option maxRecDepth 100000 in theorem c_0_296 : mm_code 0 296 = some (Instr.iload_n 3, 1, 0, 0, 0, []) := rfl
set_option maxRecDepth 100000 in theorem c_0_297 : mm_code 0 297 = some (Instr.iconst 1, 1, 1, 0, 0, []) := rfl
set_option maxRecDepth 100000 in theorem c_0_298 : mm_code 0 298 = some (Instr.iadd, 1, 0, 0, 0, []) := rfl
set_option maxRecDepth 100000 in theorem c_0_299 : mm_code 0 299 = some (Instr.iaload, 1, 0, 0, 0, []) := rfl
set_option maxRecDepth 100000 in theorem c_0_300 : mm_code 0 300 = some (Instr.invokevirtual 42, 3, 10, 144, 1, [1059, 1060, 1061, 66, 1062]) := rfl
set_option maxRecDepth 100000 in theorem c_0_303 : mm_code 0 303 = some (Instr.if_icmp .eq 353, 3, 0, 656, 0, []) := rfl
set_option maxRecDepth 100000 in theorem c_0_306 : mm_code 0 306 = some (Instr.iconst 0, 1, 0, 0, 0, []) := rfl
set_option maxRecDepth 100000 in theorem c_0_307 : mm_code 0 307 = some (Instr.ireturn, 1, 1, 0, 0, []) := rfl
set_option maxRecDepth 100000 in theorem c_0_308 : mm_code 0 308 = some (Instr.aload_n 1, 1, 0, 0, 0, []) := rfl
set_option maxRecDepth 100000 in theorem c_0_309 : mm_code 0 309 = some (Instr.aload_n 0, 1, 0, 0, 0, []) := rfl
set_option maxRecDepth 100000 in theorem c_0_310 : mm_code 0 310 = some (Instr.iload_n 3, 1, 0, 0, 0, []) := rfl
set_option maxRecDepth 100000 in theorem c_0_311 : mm_code 0 311 = some (Instr.iconst 1, 1, 1, 0, 0, []) := rfl
set_option maxRecDepth 100000 in theorem c_0_312 : mm_code 0 312 = some (Instr.iadd, 1, 0, 0, 0, []) := rfl
set_option maxRecDepth 100000 in theorem c_0_313 : mm_code 0 313 = some (Instr.iaload, 1, 0, 0, 0, []) := rfl
set_option maxRecDepth 100000 in theorem c_0_314 : mm_code 0 314 = some (Instr.aload_n 0, 1, 0, 0, 0, []) := rfl
set_option maxRecDepth 100000 in theorem c_0_315 : mm_code 0 315 = some (Instr.iload_n 3, 1, 0, 0, 0, []) := rfl
set_option maxRecDepth 100000 in theorem c_0_316 : mm_code 0 316 = some (Instr.iconst 2, 1, 2, 0, 0, []) := rfl
set_option maxRecDepth 100000 in theorem c_0_317 : mm_code 0 317 = some (Instr.iadd, 1, 0, 0, 0, []) := rfl
set_option maxRecDepth 100000 in theorem c_0_318 : mm_code 0 318 = some (Instr.iaload, 1, 0, 0, 0, []) := rfl
set_option maxRecDepth 100000 in theorem c_0_319 : mm_code 0 319 = some (Instr.aload_n 0, 1, 0, 0, 0, []) := rfl
set_option maxRecDepth 100000 in theorem c_0_320 : mm_code 0 320 = some (Instr.iload_n 3, 1, 0, 0, 0, []) := rfl
set_option maxRecDepth 100000 in theorem c_0_321 : mm_code 0 321 = some (Instr.iconst 3, 1, 3, 0, 0, []) := rfl
set_option maxRecDepth 100000 in theorem c_0_322 : mm_code 0 322 = some (Instr.iadd, 1, 0, 0, 0, []) := rfl
set_option maxRecDepth 100000 in theorem c_0_323 : mm_code 0 323 = some (Instr.iaload, 1, 0, 0, 0, []) := rfl
set_option maxRecDepth 100000 in theorem c_0_324 : mm_code 0 324 = some (Instr.aload_n 0, 1, 0, 0, 0, []) := rfl
set_option maxRecDepth 100000 in theorem c_0_325 : mm_code 0 325 = some (Instr.iload_n 3, 1, 0, 0, 0, []) := rfl
set_option maxRecDepth 100000 in theorem c_0_326 : mm_code 0 326 = some (Instr.iconst 4, 1, 4, 0, 0, []) := rfl
set_option maxRecDepth 100000 in theorem c_0_327 : mm_code 0 327 = some (Instr.iadd, 1, 0, 0, 0, []) := rfl
set_option maxRecDepth 100000 in theorem c_0_328 : mm_code 0 328 = some (Instr.iaload, 1, 0, 0, 0, []) := rfl
set_option maxRecDepth 100000 in theorem c_0_329 : mm_code 0 329 = some (Instr.ifCond .eq 7, 3, 0, 336, 0, []) := rfl
set_option maxRecDepth 100000 in theorem c_0_332 : mm_code 0 332 = some (Instr.iconst 1, 1, 1, 0, 0, []) := rfl
set_option maxRecDepth 100000 in theorem c_0_333 : mm_code 0 333 = some (Instr.goto 4, 3, 0, 337, 0, []) := rfl
set_option maxRecDepth 100000 in theorem c_0_336 : mm_code 0 336 = some (Instr.iconst 0, 1, 0, 0, 0, []) := rfl
set_option maxRecDepth 100000 in theorem c_0_337 : mm_code 0 337 = some (Instr.invokevirtual 43, 3, 9, 34, 4, [423, 424, 425, 56, 426]) := rfl
set_option maxRecDepth 100000 in theorem c_0_340 : mm_code 0 340 = some (Instr.aload_n 2, 1, 0, 0, 0, []) := rfl
set_option maxRecDepth 100000 in theorem c_0_341 : mm_code 0 341 = some (Instr.aload_n 0, 1, 0, 0, 0, []) := rfl
set_option maxRecDepth 100000 in theorem c_0_342 : mm_code 0 342 = some (Instr.iload_n 3, 1, 0, 0, 0, []) := rfl
set_option maxRecDepth 100000 in theorem c_0_343 : mm_code 0 343 = some (Instr.iconst 1, 1, 1, 0, 0, []) := rfl
set_option maxRecDepth 100000 in theorem c_0_344 : mm_code 0 344 = some (Instr.iadd, 1, 0, 0, 0, []) := rfl
set_option maxRecDepth 100000 in theorem c_0_345 : mm_code 0 345 = some (Instr.iaload, 1, 0, 0, 0, []) := rfl
set_option maxRecDepth 100000 in theorem c_0_346 : mm_code 0 346 = some (Instr.aload_n 0, 1, 0, 0, 0, []) := rfl
set_option maxRecDepth 100000 in theorem c_0_347 : mm_code 0 347 = some (Instr.iload_n 3, 1, 0, 0, 0, []) := rfl
set_option maxRecDepth 100000 in theorem c_0_348 : mm_code 0 348 = some (Instr.iconst 2, 1, 2, 0, 0, []) := rfl
set_option maxRecDepth 100000 in theorem c_0_349 : mm_code 0 349 = some (Instr.iadd, 1, 0, 0, 0, []) := rfl
set_option maxRecDepth 100000 in theorem c_0_350 : mm_code 0 350 = some (Instr.iaload, 1, 0, 0, 0, []) := rfl
set_option maxRecDepth 100000 in theorem c_0_351 : mm_code 0 351 = some (Instr.aload_n 0, 1, 0, 0, 0, []) := rfl
set_option maxRecDepth 100000 in theorem c_0_352 : mm_code 0 352 = some (Instr.iload_n 3, 1, 0, 0, 0, []) := rfl
set_option maxRecDepth 100000 in theorem c_0_353 : mm_code 0 353 = some (Instr.iconst 3, 1, 3, 0, 0, []) := rfl
set_option maxRecDepth 100000 in theorem c_0_354 : mm_code 0 354 = some (Instr.iadd, 1, 0, 0, 0, []) := rfl
set_option maxRecDepth 100000 in theorem c_0_355 : mm_code 0 355 = some (Instr.iaload, 1, 0, 0, 0, []) := rfl
set_option maxRecDepth 100000 in theorem c_0_356 : mm_code 0 356 = some (Instr.aload_n 0, 1, 0, 0, 0, []) := rfl
set_option maxRecDepth 100000 in theorem c_0_357 : mm_code 0 357 = some (Instr.iload_n 3, 1, 0, 0, 0, []) := rfl
set_option maxRecDepth 100000 in theorem c_0_358 : mm_code 0 358 = some (Instr.iconst 4, 1, 4, 0, 0, []) := rfl
set_option maxRecDepth 100000 in theorem c_0_359 : mm_code 0 359 = some (Instr.iadd, 1, 0, 0, 0, []) := rfl
set_option maxRecDepth 100000 in theorem c_0_360 : mm_code 0 360 = some (Instr.iaload, 1, 0, 0, 0, []) := rfl
set_option maxRecDepth 100000 in theorem c_0_361 : mm_code 0 361 = some (Instr.ifCond .eq 7, 3, 0, 368, 0, []) := rfl
set_option maxRecDepth 100000 in theorem c_0_364 : mm_code 0 364 = some (Instr.iconst 1, 1, 1, 0, 0, []) := rfl
set_option maxRecDepth 100000 in theorem c_0_365 : mm_code 0 365 = some (Instr.goto 4, 3, 0, 369, 0, []) := rfl
set_option maxRecDepth 100000 in theorem c_0_368 : mm_code 0 368 = some (Instr.iconst 0, 1, 0, 0, 0, []) := rfl
set_option maxRecDepth 100000 in theorem c_0_369 : mm_code 0 369 = some (Instr.invokevirtual 47, 3, 10, 145, 4, [1063, 1064, 1065, 66, 1066]) := rfl
set_option maxRecDepth 100000 in theorem c_0_372 : mm_code 0 372 = some (Instr.if_icmp .eq 284, 3, 0, 656, 0, []) := rfl
set_option maxRecDepth 100000 in theorem c_0_375 : mm_code 0 375 = some (Instr.iconst 0, 1, 0, 0, 0, []) := rfl
set_option maxRecDepth 100000 in theorem c_0_376 : mm_code 0 376 = some (Instr.ireturn, 1, 1, 0, 0, []) := rfl
set_option maxRecDepth 100000 in theorem c_0_377 : mm_code 0 377 = some (Instr.aload_n 1, 1, 0, 0, 0, []) := rfl
set_option maxRecDepth 100000 in theorem c_0_378 : mm_code 0 378 = some (Instr.aload_n 0, 1, 0, 0, 0, []) := rfl
set_option maxRecDepth 100000 in theorem c_0_379 : mm_code 0 379 = some (Instr.iload_n 3, 1, 0, 0, 0, []) := rfl
set_option maxRecDepth 100000 in theorem c_0_380 : mm_code 0 380 = some (Instr.iconst 1, 1, 1, 0, 0, []) := rfl
set_option maxRecDepth 100000 in theorem c_0_381 : mm_code 0 381 = some (Instr.iadd, 1, 0, 0, 0, []) := rfl
set_option maxRecDepth 100000 in theorem c_0_382 : mm_code 0 382 = some (Instr.iaload, 1, 0, 0, 0, []) := rfl
set_option maxRecDepth 100000 in theorem c_0_383 : mm_code 0 383 = some (Instr.aload_n 0, 1, 0, 0, 0, []) := rfl
set_option maxRecDepth 100000 in theorem c_0_384 : mm_code 0 384 = some (Instr.iload_n 3, 1, 0, 0, 0, []) := rfl
set_option maxRecDepth 100000 in theorem c_0_385 : mm_code 0 385 = some (Instr.iconst 2, 1, 2, 0, 0, []) := rfl
set_option maxRecDepth 100000 in theorem c_0_386 : mm_code 0 386 = some (Instr.iadd, 1, 0, 0, 0, []) := rfl
set_option maxRecDepth 100000 in theorem c_0_387 : mm_code 0 387 = some (Instr.iaload, 1, 0, 0, 0, []) := rfl
set_option maxRecDepth 100000 in theorem c_0_388 : mm_code 0 388 = some (Instr.invokevirtual 48, 3, 9, 44, 2, [460, 461, 462, 56, 463]) := rfl
set_option maxRecDepth 100000 in theorem c_0_391 : mm_code 0 391 = some (Instr.aload_n 2, 1, 0, 0, 0, []) := rfl
set_option maxRecDepth 100000 in theorem c_0_392 : mm_code 0 392 = some (Instr.aload_n 0, 1, 0, 0, 0, []) := rfl
set_option maxRecDepth 100000 in theorem c_0_393 : mm_code 0 393 = some (Instr.iload_n 3, 1, 0, 0, 0, []) := rfl
set_option maxRecDepth 100000 in theorem c_0_394 : mm_code 0 394 = some (Instr.iconst 1, 1, 1, 0, 0, []) := rfl
set_option maxRecDepth 100000 in theorem c_0_395 : mm_code 0 395 = some (Instr.iadd, 1, 0, 0, 0, []) := rfl
set_option maxRecDepth 100000 in theorem c_0_396 : mm_code 0 396 = some (Instr.iaload, 1, 0, 0, 0, []) := rfl
set_option maxRecDepth 100000 in theorem c_0_397 : mm_code 0 397 = some (Instr.aload_n 0, 1, 0, 0, 0, []) := rfl
set_option maxRecDepth 100000 in theorem c_0_398 : mm_code 0 398 = some (Instr.iload_n 3, 1, 0, 0, 0, []) := rfl
set_option maxRecDepth 100000 in theorem c_0_399 : mm_code 0 399 = some (Instr.iconst 2, 1, 2, 0, 0, []) := rfl
set_option maxRecDepth 100000 in theorem c_0_400 : mm_code 0 400 = some (Instr.iadd, 1, 0, 0, 0, []) := rfl
set_option maxRecDepth 100000 in theorem c_0_401 : mm_code 0 401 = some (Instr.iaload, 1, 0, 0, 0, []) := rfl
set_option maxRecDepth 100000 in theorem c_0_402 : mm_code 0 402 = some (Instr.invokevirtual 52, 3, 10, 148, 2, [1075, 1076, 1077, 66, 1078]) := rfl
set_option maxRecDepth 100000 in theorem c_0_405 : mm_code 0 405 = some (Instr.if_icmp .eq 251, 3, 0, 656, 0, []) := rfl
set_option maxRecDepth 100000 in theorem c_0_408 : mm_code 0 408 = some (Instr.iconst 0, 1, 0, 0, 0, []) := rfl
set_option maxRecDepth 100000 in theorem c_0_409 : mm_code 0 409 = some (Instr.ireturn, 1, 1, 0, 0, []) := rfl
set_option maxRecDepth 100000 in theorem c_0_410 : mm_code 0 410 = some (Instr.aload_n 1, 1, 0, 0, 0, []) := rfl
set_option maxRecDepth 100000 in theorem c_0_411 : mm_code 0 411 = some (Instr.aload_n 0, 1, 0, 0, 0, []) := rfl
set_option maxRecDepth 100000 in theorem c_0_412 : mm_code 0 412 = some (Instr.iload_n 3, 1, 0, 0, 0, []) := rfl
set_option maxRecDepth 100000 in theorem c_0_413 : mm_code 0 413 = some (Instr.iconst 1, 1, 1, 0, 0, []) := rfl
set_option maxRecDepth 100000 in theorem c_0_414 : mm_code 0 414 = some (Instr.iadd, 1, 0, 0, 0, []) := rfl
set_option maxRecDepth 100000 in theorem c_0_415 : mm_code 0 415 = some (Instr.iaload, 1, 0, 0, 0, []) := rfl
set_option maxRecDepth 100000 in theorem c_0_416 : mm_code 0 416 = some (Instr.aload_n 0, 1, 0, 0, 0, []) := rfl
set_option maxRecDepth 100000 in theorem c_0_417 : mm_code 0 417 = some (Instr.iload_n 3, 1, 0, 0, 0, []) := rfl
set_option maxRecDepth 100000 in theorem c_0_418 : mm_code 0 418 = some (Instr.iconst 2, 1, 2, 0, 0, []) := rfl
set_option maxRecDepth 100000 in theorem c_0_419 : mm_code 0 419 = some (Instr.iadd, 1, 0, 0, 0, []) := rfl
set_option maxRecDepth 100000 in theorem c_0_420 : mm_code 0 420 = some (Instr.iaload, 1, 0, 0, 0, []) := rfl
set_option maxRecDepth 100000 in theorem c_0_421 : mm_code 0 421 = some (Instr.aload_n 0, 1, 0, 0, 0, []) := rfl
set_option maxRecDepth 100000 in theorem c_0_422 : mm_code 0 422 = some (Instr.iload_n 3, 1, 0, 0, 0, []) := rfl
set_option maxRecDepth 100000 in theorem c_0_423 : mm_code 0 423 = some (Instr.iconst 3, 1, 3, 0, 0, []) := rfl
set_option maxRecDepth 100000 in theorem c_0_424 : mm_code 0 424 = some (Instr.iadd, 1, 0, 0, 0, []) := rfl
set_option maxRecDepth 100000 in theorem c_0_425 : mm_code 0 425 = some (Instr.iaload, 1, 0, 0, 0, []) := rfl
set_option maxRecDepth 100000 in theorem c_0_426 : mm_code 0 426 = some (Instr.aload_n 0, 1, 0, 0, 0, []) := rfl
set_option maxRecDepth 100000 in theorem c_0_427 : mm_code 0 427 = some (Instr.iload_n 3, 1, 0, 0, 0, []) := rfl
set_option maxRecDepth 100000 in theorem c_0_428 : mm_code 0 428 = some (Instr.iconst 4, 1, 4, 0, 0, []) := rfl
set_option maxRecDepth 100000 in theorem c_0_429 : mm_code 0 429 = some (Instr.iadd, 1, 0, 0, 0, []) := rfl
set_option maxRecDepth 100000 in theorem c_0_430 : mm_code 0 430 = some (Instr.iaload, 1, 0, 0, 0, []) := rfl
set_option maxRecDepth 100000 in theorem c_0_431 : mm_code 0 431 = some (Instr.invokevirtual 53, 3, 9, 47, 4, [473, 474, 475, 56, 476]) := rfl
set_option maxRecDepth 100000 in theorem c_0_434 : mm_code 0 434 = some (Instr.aload_n 2, 1, 0, 0, 0, []) := rfl
set_option maxRecDepth 100000 in theorem c_0_435 : mm_code 0 435 = some (Instr.aload_n 0, 1, 0, 0, 0, []) := rfl
set_option maxRecDepth 100000 in theorem c_0_436 : mm_code 0 436 = some (Instr.iload_n 3, 1, 0, 0, 0, []) := rfl
set_option maxRecDepth 100000 in theorem c_0_437 : mm_code 0 437 = some (Instr.iconst 1, 1, 1, 0, 0, []) := rfl
set_option maxRecDepth 100000 in theorem c_0_438 : mm_code 0 438 = some (Instr.iadd, 1, 0, 0, 0, []) := rfl
set_option maxRecDepth 100000 in theorem c_0_439 : mm_code 0 439 = some (Instr.iaload, 1, 0, 0, 0, []) := rfl
set_option maxRecDepth 100000 in theorem c_0_440 : mm_code 0 440 = some (Instr.aload_n 0, 1, 0, 0, 0, []) := rfl
set_option maxRecDepth 100000 in theorem c_0_441 : mm_code 0 441 = some (Instr.iload_n 3, 1, 0, 0, 0, []) := rfl
set_option maxRecDepth 100000 in theorem c_0_442 : mm_code 0 442 = some (Instr.iconst 2, 1, 2, 0, 0, []) := rfl
set_option maxRecDepth 100000 in theorem c_0_443 : mm_code 0 443 = some (Instr.iadd, 1, 0, 0, 0, []) := rfl
set_option maxRecDepth 100000 in theorem c_0_444 : mm_code 0 444 = some (Instr.iaload, 1, 0, 0, 0, []) := rfl
set_option maxRecDepth 100000 in theorem c_0_445 : mm_code 0 445 = some (Instr.aload_n 0, 1, 0, 0, 0, []) := rfl
set_option maxRecDepth 100000 in theorem c_0_446 : mm_code 0 446 = some (Instr.iload_n 3, 1, 0, 0, 0, []) := rfl
set_option maxRecDepth 100000 in theorem c_0_447 : mm_code 0 447 = some (Instr.iconst 3, 1, 3, 0, 0, []) := rfl
set_option maxRecDepth 100000 in theorem c_0_448 : mm_code 0 448 = some (Instr.iadd, 1, 0, 0, 0, []) := rfl
set_option maxRecDepth 100000 in theorem c_0_449 : mm_code 0 449 = some (Instr.iaload, 1, 0, 0, 0, []) := rfl
set_option maxRecDepth 100000 in theorem c_0_450 : mm_code 0 450 = some (Instr.aload_n 0, 1, 0, 0, 0, []) := rfl
set_option maxRecDepth 100000 in theorem c_0_451 : mm_code 0 451 = some (Instr.iload_n 3, 1, 0, 0, 0, []) := rfl
set_option maxRecDepth 100000 in theorem c_0_452 : mm_code 0 452 = some (Instr.iconst 4, 1, 4, 0, 0, []) := rfl
set_option maxRecDepth 100000 in theorem c_0_453 : mm_code 0 453 = some (Instr.iadd, 1, 0, 0, 0, []) := rfl
set_option maxRecDepth 100000 in theorem c_0_454 : mm_code 0 454 = some (Instr.iaload, 1, 0, 0, 0, []) := rfl
set_option maxRecDepth 100000 in theorem c_0_455 : mm_code 0 455 = some (Instr.invokevirtual 57, 3, 10, 151, 4, [1087, 1088, 1089, 66, 1090]) := rfl
set_option maxRecDepth 100000 in theorem c_0_458 : mm_code 0 458 = some (Instr.if_icmp .eq 198, 3, 0, 656, 0, []) := rfl
set_option maxRecDepth 100000 in theorem c_0_461 : mm_code 0 461 = some (Instr.iconst 0, 1, 0, 0, 0, []) := rfl
set_option maxRecDepth 100000 in theorem c_0_462 : mm_code 0 462 = some (Instr.ireturn, 1, 1, 0, 0, []) := rfl
set_option maxRecDepth 100000 in theorem c_0_463 : mm_code 0 463 = some (Instr.aload_n 1, 1, 0, 0, 0, []) := rfl
set_option maxRecDepth 100000 in theorem c_0_464 : mm_code 0 464 = some (Instr.aload_n 0, 1, 0, 0, 0, []) := rfl
set_option maxRecDepth 100000 in theorem c_0_465 : mm_code 0 465 = some (Instr.iload_n 3, 1, 0, 0, 0, []) := rfl
set_option maxRecDepth 100000 in theorem c_0_466 : mm_code 0 466 = some (Instr.iconst 1, 1, 1, 0, 0, []) := rfl
set_option maxRecDepth 100000 in theorem c_0_467 : mm_code 0 467 = some (Instr.iadd, 1, 0, 0, 0, []) := rfl
set_option maxRecDepth 100000 in theorem c_0_468 : mm_code 0 468 = some (Instr.iaload, 1, 0, 0, 0, []) := rfl
set_option maxRecDepth 100000 in theorem c_0_469 : mm_code 0 469 = some (Instr.aload_n 0, 1, 0, 0, 0, []) := rfl
set_option maxRecDepth 100000 in theorem c_0_470 : mm_code 0 470 = some (Instr.iload_n 3, 1, 0, 0, 0, []) := rfl
set_option maxRecDepth 100000 in theorem c_0_471 : mm_code 0 471 = some (Instr.iconst 2, 1, 2, 0, 0, []) := rfl
set_option maxRecDepth 100000 in theorem c_0_472 : mm_code 0 472 = some (Instr.iadd, 1, 0, 0, 0, []) := rfl
set_option maxRecDepth 100000 in theorem c_0_473 : mm_code 0 473 = some (Instr.iaload, 1, 0, 0, 0, []) := rfl
set_option maxRecDepth 100000 in theorem c_0_474 : mm_code 0 474 = some (Instr.invokevirtual 58, 3, 9, 50, 2, [485, 486, 487, 56, 488]) := rfl
set_option maxRecDepth 100000 in theorem c_0_477 : mm_code 0 477 = some (Instr.aload_n 2, 1, 0, 0, 0, []) := rfl
set_option maxRecDepth 100000 in theorem c_0_478 : mm_code 0 478 = some (Instr.aload_n 0, 1, 0, 0, 0, []) := rfl
set_option maxRecDepth 100000 in theorem c_0_479 : mm_code 0 479 = some (Instr.iload_n 3, 1, 0, 0, 0, []) := rfl
set_option maxRecDepth 100000 in theorem c_0_480 : mm_code 0 480 = some (Instr.iconst 1, 1, 1, 0, 0, []) := rfl
set_option maxRecDepth 100000 in theorem c_0_481 : mm_code 0 481 = some (Instr.iadd, 1, 0, 0, 0, []) := rfl
set_option maxRecDepth 100000 in theorem c_0_482 : mm_code 0 482 = some (Instr.iaload, 1, 0, 0, 0, []) := rfl
set_option maxRecDepth 100000 in theorem c_0_483 : mm_code 0 483 = some (Instr.aload_n 0, 1, 0, 0, 0, []) := rfl
set_option maxRecDepth 100000 in theorem c_0_484 : mm_code 0 484 = some (Instr.iload_n 3, 1, 0, 0, 0, []) := rfl
set_option maxRecDepth 100000 in theorem c_0_485 : mm_code 0 485 = some (Instr.iconst 2, 1, 2, 0, 0, []) := rfl
set_option maxRecDepth 100000 in theorem c_0_486 : mm_code 0 486 = some (Instr.iadd, 1, 0, 0, 0, []) := rfl
set_option maxRecDepth 100000 in theorem c_0_487 : mm_code 0 487 = some (Instr.iaload, 1, 0, 0, 0, []) := rfl
set_option maxRecDepth 100000 in theorem c_0_488 : mm_code 0 488 = some (Instr.invokevirtual 61, 3, 10, 152, 2, [1091, 1092, 1093, 66, 1094]) := rfl
set_option maxRecDepth 100000 in theorem c_0_491 : mm_code 0 491 = some (Instr.if_icmp .eq 165, 3, 0, 656, 0, []) := rfl
set_option maxRecDepth 100000 in theorem c_0_494 : mm_code 0 494 = some (Instr.iconst 0, 1, 0, 0, 0, []) := rfl
set_option maxRecDepth 100000 in theorem c_0_495 : mm_code 0 495 = some (Instr.ireturn, 1, 1, 0, 0, []) := rfl
set_option maxRecDepth 100000 in theorem c_0_496 : mm_code 0 496 = some (Instr.aload_n 1, 1, 0, 0, 0, []) := rfl
set_option maxRecDepth 100000 in theorem c_0_497 : mm_code 0 497 = some (Instr.aload_n 0, 1, 0, 0, 0, []) := rfl
set_option maxRecDepth 100000 in theorem c_0_498 : mm_code 0 498 = some (Instr.iload_n 3, 1, 0, 0, 0, []) := rfl
set_option maxRecDepth 100000 in theorem c_0_499 : mm_code 0 499 = some (Instr.iconst 1, 1, 1, 0, 0, []) := rfl
set_option maxRecDepth 100000 in theorem c_0_500 : mm_code 0 500 = some (Instr.iadd, 1, 0, 0, 0, []) := rfl
set_option maxRecDepth 100000 in theorem c_0_501 : mm_code 0 501 = some (Instr.iaload, 1, 0, 0, 0, []) := rfl
set_option maxRecDepth 100000 in theorem c_0_502 : mm_code 0 502 = some (Instr.invokevirtual 62, 3, 9, 57, 1, [511, 512, 513, 56, 514]) := rfl
set_option maxRecDepth 100000 in theorem c_0_505 : mm_code 0 505 = some (Instr.aload_n 2, 1, 0, 0, 0, []) := rfl
set_option maxRecDepth 100000 in theorem c_0_506 : mm_code 0 506 = some (Instr.aload_n 0, 1, 0, 0, 0, []) := rfl
set_option maxRecDepth 100000 in theorem c_0_507 : mm_code 0 507 = some (Instr.iload_n 3, 1, 0, 0, 0, []) := rfl
set_option maxRecDepth 100000 in theorem c_0_508 : mm_code 0 508 = some (Instr.iconst 1, 1, 1, 0, 0, []) := rfl
set_option maxRecDepth 100000 in theorem c_0_509 : mm_code 0 509 = some (Instr.iadd, 1, 0, 0, 0, []) := rfl
set_option maxRecDepth 100000 in theorem c_0_510 : mm_code 0 510 = some (Instr.iaload, 1, 0, 0, 0, []) := rfl
set_option maxRecDepth 100000 in theorem c_0_511 : mm_code 0 511 = some (Instr.invokevirtual 65, 3, 10, 156, 1, [1107, 1108, 1109, 66, 1110]) := rfl
set_option maxRecDepth 100000 in theorem c_0_514 : mm_code 0 514 = some (Instr.if_icmp .eq 142, 3, 0, 656, 0, []) := rfl
set_option maxRecDepth 100000 in theorem c_0_517 : mm_code 0 517 = some (Instr.iconst 0, 1, 0, 0, 0, []) := rfl
set_option maxRecDepth 100000 in theorem c_0_518 : mm_code 0 518 = some (Instr.ireturn, 1, 1, 0, 0, []) := rfl
set_option maxRecDepth 100000 in theorem c_0_519 : mm_code 0 519 = some (Instr.aload_n 1, 1, 0, 0, 0, []) := rfl
set_option maxRecDepth 100000 in theorem c_0_520 : mm_code 0 520 = some (Instr.invokevirtual 66, 3, 9, 73, 0, [583, 584, 585, 56, 586]) := rfl
set_option maxRecDepth 100000 in theorem c_0_523 : mm_code 0 523 = some (Instr.aload_n 2, 1, 0, 0, 0, []) := rfl
set_option maxRecDepth 100000 in theorem c_0_524 : mm_code 0 524 = some (Instr.invokevirtual 69, 3, 10, 161, 0, [1127, 1128, 1129, 66, 1130]) := rfl
set_option maxRecDepth 100000 in theorem c_0_527 : mm_code 0 527 = some (Instr.if_icmp .eq 129, 3, 0, 656, 0, []) := rfl
set_option maxRecDepth 100000 in theorem c_0_530 : mm_code 0 530 = some (Instr.iconst 0, 1, 0, 0, 0, []) := rfl
set_option maxRecDepth 100000 in theorem c_0_531 : mm_code 0 531 = some (Instr.ireturn, 1, 1, 0, 0, []) := rfl
set_option maxRecDepth 100000 in theorem c_0_532 : mm_code 0 532 = some (Instr.aload_n 1, 1, 0, 0, 0, []) := rfl
set_option maxRecDepth 100000 in theorem c_0_533 : mm_code 0 533 = some (Instr.invokevirtual 70, 3, 9, 77, 0, [598, 599, 600, 56, 601]) := rfl
set_option maxRecDepth 100000 in theorem c_0_536 : mm_code 0 536 = some (Instr.aload_n 2, 1, 0, 0, 0, []) := rfl
set_option maxRecDepth 100000 in theorem c_0_537 : mm_code 0 537 = some (Instr.invokevirtual 73, 3, 10, 163, 0, [1135, 1136, 1137, 66, 1138]) := rfl
set_option maxRecDepth 100000 in theorem c_0_540 : mm_code 0 540 = some (Instr.if_icmp .eq 116, 3, 0, 656, 0, []) := rfl
set_option maxRecDepth 100000 in theorem c_0_543 : mm_code 0 543 = some (Instr.iconst 0, 1, 0, 0, 0, []) := rfl
set_option maxRecDepth 100000 in theorem c_0_544 : mm_code 0 544 = some (Instr.ireturn, 1, 1, 0, 0, []) := rfl
set_option maxRecDepth 100000 in theorem c_0_545 : mm_code 0 545 = some (Instr.aload_n 1, 1, 0, 0, 0, []) := rfl
set_option maxRecDepth 100000 in theorem c_0_546 : mm_code 0 546 = some (Instr.invokevirtual 74, 3, 9, 78, 0, [602, 603, 604, 56, 605]) := rfl
set_option maxRecDepth 100000 in theorem c_0_549 : mm_code 0 549 = some (Instr.aload_n 2, 1, 0, 0, 0, []) := rfl
set_option maxRecDepth 100000 in theorem c_0_550 : mm_code 0 550 = some (Instr.invokevirtual 77, 3, 10, 164, 0, [1139, 1140, 1141, 66, 1142]) := rfl
set_option maxRecDepth 100000 in theorem c_0_553 : mm_code 0 553 = some (Instr.if_icmp .eq 103, 3, 0, 656, 0, []) := rfl
set_option maxRecDepth 100000 in theorem c_0_556 : mm_code 0 556 = some (Instr.iconst 0, 1, 0, 0, 0, []) := rfl
set_option maxRecDepth 100000 in theorem c_0_557 : mm_code 0 557 = some (Instr.ireturn, 1, 1, 0, 0, []) := rfl
set_option maxRecDepth 100000 in theorem c_0_558 : mm_code 0 558 = some (Instr.aload_n 1, 1, 0, 0, 0, []) := rfl
set_option maxRecDepth 100000 in theorem c_0_559 : mm_code 0 559 = some (Instr.invokevirtual 78, 3, 9, 86, 0, [637, 638, 639, 56, 640]) := rfl
set_option maxRecDepth 100000 in theorem c_0_562 : mm_code 0 562 = some (Instr.aload_n 2, 1, 0, 0, 0, []) := rfl
set_option maxRecDepth 100000 in theorem c_0_563 : mm_code 0 563 = some (Instr.invokevirtual 81, 3, 10, 171, 0, [1172, 1173, 1174, 66, 1175]) := rfl
set_option maxRecDepth 100000 in theorem c_0_566 : mm_code 0 566 = some (Instr.if_icmp .eq 90, 3, 0, 656, 0, []) := rfl
set_option maxRecDepth 100000 in theorem c_0_569 : mm_code 0 569 = some (Instr.iconst 0, 1, 0, 0, 0, []) := rfl
set_option maxRecDepth 100000 in theorem c_0_570 : mm_code 0 570 = some (Instr.ireturn, 1, 1, 0, 0, []) := rfl
set_option maxRecDepth 100000 in theorem c_0_571 : mm_code 0 571 = some (Instr.aload_n 1, 1, 0, 0, 0, []) := rfl
set_option maxRecDepth 100000 in theorem c_0_572 : mm_code 0 572 = some (Instr.aload_n 0, 1, 0, 0, 0, []) := rfl
set_option maxRecDepth 100000 in theorem c_0_573 : mm_code 0 573 = some (Instr.iload_n 3, 1, 0, 0, 0, []) := rfl
set_option maxRecDepth 100000 in theorem c_0_574 : mm_code 0 574 = some (Instr.iconst 1, 1, 1, 0, 0, []) := rfl
set_option maxRecDepth 100000 in theorem c_0_575 : mm_code 0 575 = some (Instr.iadd, 1, 0, 0, 0, []) := rfl
set_option maxRecDepth 100000 in theorem c_0_576 : mm_code 0 576 = some (Instr.iaload, 1, 0, 0, 0, []) := rfl
set_option maxRecDepth 100000 in theorem c_0_577 : mm_code 0 577 = some (Instr.ifCond .eq 7, 3, 0, 584, 0, []) := rfl
set_option maxRecDepth 100000 in theorem c_0_580 : mm_code 0 580 = some (Instr.iconst 1, 1, 1, 0, 0, []) := rfl
set_option maxRecDepth 100000 in theorem c_0_581 : mm_code 0 581 = some (Instr.goto 4, 3, 0, 585, 0, []) := rfl
set_option maxRecDepth 100000 in theorem c_0_584 : mm_code 0 584 = some (Instr.iconst 0, 1, 0, 0, 0, []) := rfl
set_option maxRecDepth 100000 in theorem c_0_585 : mm_code 0 585 = some (Instr.invokevirtual 82, 3, 9, 91, 1, [659, 660, 661, 56, 662]) := rfl
set_option maxRecDepth 100000 in theorem c_0_588 : mm_code 0 588 = some (Instr.aload_n 2, 1, 0, 0, 0, []) := rfl
set_option maxRecDepth 100000 in theorem c_0_589 : mm_code 0 589 = some (Instr.aload_n 0, 1, 0, 0, 0, []) := rfl
set_option maxRecDepth 100000 in theorem c_0_590 : mm_code 0 590 = some (Instr.iload_n 3, 1, 0, 0, 0, []) := rfl
set_option maxRecDepth 100000 in theorem c_0_591 : mm_code 0 591 = some (Instr.iconst 1, 1, 1, 0, 0, []) := rfl
set_option maxRecDepth 100000 in theorem c_0_592 : mm_code 0 592 = some (Instr.iadd, 1, 0, 0, 0, []) := rfl
set_option maxRecDepth 100000 in theorem c_0_593 : mm_code 0 593 = some (Instr.iaload, 1, 0, 0, 0, []) := rfl
set_option maxRecDepth 100000 in theorem c_0_594 : mm_code 0 594 = some (Instr.ifCond .eq 7, 3, 0, 601, 0, []) := rfl
set_option maxRecDepth 100000 in theorem c_0_597 : mm_code 0 597 = some (Instr.iconst 1, 1, 1, 0, 0, []) := rfl
set_option maxRecDepth 100000 in theorem c_0_598 : mm_code 0 598 = some (Instr.goto 4, 3, 0, 602, 0, []) := rfl
set_option maxRecDepth 100000 in theorem c_0_601 : mm_code 0 601 = some (Instr.iconst 0, 1, 0, 0, 0, []) := rfl
set_option maxRecDepth 100000 in theorem c_0_602 : mm_code 0 602 = some (Instr.invokevirtual 86, 3, 10, 174, 1, [1185, 1186, 1187, 66, 1188]) := rfl
set_option maxRecDepth 100000 in theorem c_0_605 : mm_code 0 605 = some (Instr.if_icmp .eq 51, 3, 0, 656, 0, []) := rfl
set_option maxRecDepth 100000 in theorem c_0_608 : mm_code 0 608 = some (Instr.iconst 0, 1, 0, 0, 0, []) := rfl
set_option maxRecDepth 100000 in theorem c_0_609 : mm_code 0 609 = some (Instr.ireturn, 1, 1, 0, 0, []) := rfl
set_option maxRecDepth 100000 in theorem c_0_610 : mm_code 0 610 = some (Instr.aload_n 1, 1, 0, 0, 0, []) := rfl
set_option maxRecDepth 100000 in theorem c_0_611 : mm_code 0 611 = some (Instr.aload_n 0, 1, 0, 0, 0, []) := rfl
set_option maxRecDepth 100000 in theorem c_0_612 : mm_code 0 612 = some (Instr.iload_n 3, 1, 0, 0, 0, []) := rfl
set_option maxRecDepth 100000 in theorem c_0_613 : mm_code 0 613 = some (Instr.iconst 1, 1, 1, 0, 0, []) := rfl
set_option maxRecDepth 100000 in theorem c_0_614 : mm_code 0 614 = some (Instr.iadd, 1, 0, 0, 0, []) := rfl
set_option maxRecDepth 100000 in theorem c_0_615 : mm_code 0 615 = some (Instr.iaload, 1, 0, 0, 0, []) := rfl
set_option maxRecDepth 100000 in theorem c_0_616 : mm_code 0 616 = some (Instr.invokevirtual 87, 3, 9, 130, 1, [839, 840, 841, 56, 842]) := rfl
set_option maxRecDepth 100000 in theorem c_0_619 : mm_code 0 619 = some (Instr.aload_n 2, 1, 0, 0, 0, []) := rfl
set_option maxRecDepth 100000 in theorem c_0_620 : mm_code 0 620 = some (Instr.aload_n 0, 1, 0, 0, 0, []) := rfl
set_option maxRecDepth 100000 in theorem c_0_621 : mm_code 0 621 = some (Instr.iload_n 3, 1, 0, 0, 0, []) := rfl
set_option maxRecDepth 100000 in theorem c_0_622 : mm_code 0 622 = some (Instr.iconst 1, 1, 1, 0, 0, []) := rfl
set_option maxRecDepth 100000 in theorem c_0_623 : mm_code 0 623 = some (Instr.iadd, 1, 0, 0, 0, []) := rfl
set_option maxRecDepth 100000 in theorem c_0_624 : mm_code 0 624 = some (Instr.iaload, 1, 0, 0, 0, []) := rfl
set_option maxRecDepth 100000 in theorem c_0_625 : mm_code 0 625 = some (Instr.invokevirtual 90, 3, 10, 189, 1, [1246, 1247, 1248, 66, 1249]) := rfl
set_option maxRecDepth 100000 in theorem c_0_628 : mm_code 0 628 = some (Instr.if_icmp .eq 28, 3, 0, 656, 0, []) := rfl
set_option maxRecDepth 100000 in theorem c_0_631 : mm_code 0 631 = some (Instr.iconst 0, 1, 0, 0, 0, []) := rfl
set_option maxRecDepth 100000 in theorem c_0_632 : mm_code 0 632 = some (Instr.ireturn, 1, 1, 0, 0, []) := rfl
set_option maxRecDepth 100000 in theorem c_0_633 : mm_code 0 633 = some (Instr.aload_n 1, 1, 0, 0, 0, []) := rfl
set_option maxRecDepth 100000 in theorem c_0_634 : mm_code 0 634 = some (Instr.aload_n 0, 1, 0, 0, 0, []) := rfl
set_option maxRecDepth 100000 in theorem c_0_635 : mm_code 0 635 = some (Instr.iload_n 3, 1, 0, 0, 0, []) := rfl
set_option maxRecDepth 100000 in theorem c_0_636 : mm_code 0 636 = some (Instr.iconst 1, 1, 1, 0, 0, []) := rfl
set_option maxRecDepth 100000 in theorem c_0_637 : mm_code 0 637 = some (Instr.iadd, 1, 0, 0, 0, []) := rfl
set_option maxRecDepth 100000 in theorem c_0_638 : mm_code 0 638 = some (Instr.iaload, 1, 0, 0, 0, []) := rfl
set_option maxRecDepth 100000 in theorem c_0_639 : mm_code 0 639 = some (Instr.invokevirtual 91, 3, 9, 131, 1, [843, 844, 845, 56, 846]) := rfl
set_option maxRecDepth 100000 in theorem c_0_642 : mm_code 0 642 = some (Instr.aload_n 2, 1, 0, 0, 0, []) := rfl
set_option maxRecDepth 100000 in theorem c_0_643 : mm_code 0 643 = some (Instr.aload_n 0, 1, 0, 0, 0, []) := rfl
set_option maxRecDepth 100000 in theorem c_0_644 : mm_code 0 644 = some (Instr.iload_n 3, 1, 0, 0, 0, []) := rfl
set_option maxRecDepth 100000 in theorem c_0_645 : mm_code 0 645 = some (Instr.iconst 1, 1, 1, 0, 0, []) := rfl
set_option maxRecDepth 100000 in theorem c_0_646 : mm_code 0 646 = some (Instr.iadd, 1, 0, 0, 0, []) := rfl
set_option maxRecDepth 100000 in theorem c_0_647 : mm_code 0 647 = some (Instr.iaload, 1, 0, 0, 0, []) := rfl
set_option maxRecDepth 100000 in theorem c_0_648 : mm_code 0 648 = some (Instr.invokevirtual 94, 3, 10, 190, 1, [1250, 1251, 1252, 66, 1253]) := rfl
set_option maxRecDepth 100000 in theorem c_0_651 : mm_code 0 651 = some (Instr.if_icmp .eq 5, 3, 0, 656, 0, []) := rfl
set_option maxRecDepth 100000 in theorem c_0_654 : mm_code 0 654 = some (Instr.iconst 0, 1, 0, 0, 0, []) := rfl
set_option maxRecDepth 100000 in theorem c_0_655 : mm_code 0 655 = some (Instr.ireturn, 1, 1, 0, 0, []) := rfl
set_option maxRecDepth 100000 in theorem c_0_656 : mm_code 0 656 = some (Instr.iinc 3 5, 3, 0, 0, 0, []) := rfl
set_option maxRecDepth 100000 in theorem c_0_659 : mm_code 0 659 = some (Instr.goto (-641), 3, 0, 18, 0, []) := rfl
set_option maxRecDepth 100000 in theorem c_0_662 : mm_code 0 662 = some (Instr.iconst 1, 1, 1, 0, 0, []) := rfl
set_option maxRecDepth 100000 in theorem c_0_663 : mm_code 0 663 = some (Instr.ireturn, 1, 1, 0, 0, []) := rfl
theorem c_11_0 : mm_code 11 0 = some (Instr.iload_n 3, 1, 0, 0, 0, []) := rfl
theorem c_11_1 : mm_code 11 1 = some (Instr.ifCond .lt 9, 3, 0, 10, 0, []) := rfl
theorem c_11_4 : mm_code 11 4 = some (Instr.iload_n 3, 1, 0, 0, 0, []) := rfl
theorem c_11_5 : mm_code 11 5 = some (Instr.bipush 8, 2, 8, 0, 0, []) := rfl
theorem c_11_7 : mm_code 11 7 = some (Instr.if_icmp .le 6, 3, 0, 13, 0, []) := rfl
theorem c_11_10 : mm_code 11 10 = some (Instr.bipush (-2), 2, (-2), 0, 0, []) := rfl
theorem c_11_12 : mm_code 11 12 = some (Instr.ireturn, 1, 0, 0, 0, []) := rfl
theorem c_11_13 : mm_code 11 13 = some (Instr.iload_n 3, 1, 0, 0, 0, []) := rfl
theorem c_11_14 : mm_code 11 14 = some (Instr.ifCond .ne 12, 3, 0, 26, 0, []) := rfl
theorem c_11_17 : mm_code 11 17 = some (Instr.aload_n 0, 1, 0, 0, 0, []) := rfl
theorem c_11_18 : mm_code 11 18 = some (Instr.getfield 14, 3, 0, 9, 0, [292]) := rfl
theorem c_11_21 : mm_code 11 21 = some (Instr.invokevirtual 78, 3, 7, 12, 0, [327, 328, 329, 57, 330]) := rfl
theorem c_11_24 : mm_code 11 24 = some (Instr.iconst 0, 1, 0, 0, 0, []) := rfl
theorem c_11_25 : mm_code 11 25 = some (Instr.ireturn, 1, 0, 0, 0, []) := rfl
theorem c_11_26 : mm_code 11 26 = some (Instr.aload_n 0, 1, 0, 0, 0, []) := rfl
theorem c_11_27 : mm_code 11 27 = some (Instr.getfield 14, 3, 0, 9, 0, [292]) := rfl
theorem c_11_30 : mm_code 11 30 = some (Instr.invokevirtual 81, 3, 7, 13, 0, [331, 332, 333, 57, 334]) := rfl
theorem c_11_33 : mm_code 11 33 = some (Instr.iload_n 3, 1, 0, 0, 0, []) := rfl
theorem c_11_34 : mm_code 11 34 = some (Instr.iadd, 1, 0, 0, 0, []) := rfl
theorem c_11_35 : mm_code 11 35 = some (Instr.sipush 400, 3, 400, 0, 0, []) := rfl
theorem c_11_38 : mm_code 11 38 = some (Instr.if_icmp .le 6, 3, 0, 44, 0, []) := rfl
theorem c_11_41 : mm_code 11 41 = some (Instr.bipush (-4), 2, (-4), 0, 0, []) := rfl
theorem c_11_43 : mm_code 11 43 = some (Instr.ireturn, 1, 0, 0, 0, []) := rfl
theorem c_11_44 : mm_code 11 44 = some (Instr.iload_n 3, 1, 0, 0, 0, []) := rfl
theorem c_11_45 : mm_code 11 45 = some (Instr.iconst 1, 1, 1, 0, 0, []) := rfl
theorem c_11_46 : mm_code 11 46 = some (Instr.isub, 1, 0, 0, 0, []) := rfl
theorem c_11_47 : mm_code 11 47 = some (Instr.istore 4, 2, 0, 0, 0, []) := rfl
theorem c_11_49 : mm_code 11 49 = some (Instr.iload 4, 2, 0, 0, 0, []) := rfl
theorem c_11_51 : mm_code 11 51 = some (Instr.ifCond .lt 29, 3, 0, 80, 0, []) := rfl
theorem c_11_54 : mm_code 11 54 = some (Instr.aload_n 0, 1, 0, 0, 0, []) := rfl
theorem c_11_55 : mm_code 11 55 = some (Instr.getfield 14, 3, 0, 9, 0, [292]) := rfl
theorem c_11_58 : mm_code 11 58 = some (Instr.lload_n 1, 1, 0, 0, 0, []) := rfl
theorem c_11_59 : mm_code 11 59 = some (Instr.bipush 8, 2, 8, 0, 0, []) := rfl
theorem c_11_61 : mm_code 11 61 = some (Instr.iload 4, 2, 0, 0, 0, []) := rfl
theorem c_11_63 : mm_code 11 63 = some (Instr.imul, 1, 0, 0, 0, []) := rfl
theorem c_11_64 : mm_code 11 64 = some (Instr.lushr, 1, 0, 0, 0, []) := rfl
theorem c_11_65 : mm_code 11 65 = some (Instr.ldc2_w 85, 3, 255, 0, 0, [335]) := rfl
theorem c_11_68 : mm_code 11 68 = some (Instr.land, 1, 0, 0, 0, []) := rfl
theorem c_11_69 : mm_code 11 69 = some (Instr.l2i, 1, 0, 0, 0, []) := rfl
theorem c_11_70 : mm_code 11 70 = some (Instr.invokevirtual 87, 3, 7, 14, 1, [336, 337, 338, 57, 339]) := rfl
theorem c_11_73 : mm_code 11 73 = some (Instr.pop, 1, 0, 0, 0, []) := rfl
set_option maxRecDepth 100000 in theorem c_11_74 : mm_code 11 74 = some (Instr.iinc 4 (-1), 3, 0, 0, 0, []) := rfl
set_option maxRecDepth 100000 in theorem c_11_77 : mm_code 11 77 = some (Instr.goto (-28), 3, 0, 49, 0, []) := rfl
set_option maxRecDepth 100000 in theorem c_11_80 : mm_code 11 80 = some (Instr.aload_n 0, 1, 0, 0, 0, []) := rfl
set_option maxRecDepth 100000 in theorem c_11_81 : mm_code 11 81 = some (Instr.getfield 14, 3, 0, 9, 0, [292]) := rfl
set_option maxRecDepth 100000 in theorem c_11_84 : mm_code 11 84 = some (Instr.invokevirtual 81, 3, 7, 13, 0, [331, 332, 333, 57, 334]) := rfl
set_option maxRecDepth 100000 in theorem c_11_87 : mm_code 11 87 = some (Instr.ireturn, 1, 0, 0, 0, []) := rfl
theorem c_12_0 : mm_code 12 0 = some (Instr.aload_n 0, 1, 0, 0, 0, []) := rfl
theorem c_12_1 : mm_code 12 1 = some (Instr.iconst 0, 1, 0, 0, 0, []) := rfl
theorem c_12_2 : mm_code 12 2 = some (Instr.putfield 13, 3, 1, 7, 1, [85]) := rfl
theorem c_12_5 : mm_code 12 5 = some (Instr.return_, 1, 0, 0, 0, []) := rfl
theorem c_13_0 : mm_code 13 0 = some (Instr.aload_n 0, 1, 0, 0, 0, []) := rfl
theorem c_13_1 : mm_code 13 1 = some (Instr.getfield 13, 3, 0, 7, 1, [85]) := rfl
theorem c_13_4 : mm_code 13 4 = some (Instr.ireturn, 1, 0, 0, 0, []) := rfl
theorem c_14_0 : mm_code 14 0 = some (Instr.aload_n 0, 1, 0, 0, 0, []) := rfl
theorem c_14_1 : mm_code 14 1 = some (Instr.getfield 13, 3, 0, 7, 1, [85]) := rfl
theorem c_14_4 : mm_code 14 4 = some (Instr.aload_n 0, 1, 0, 0, 0, []) := rfl
theorem c_14_5 : mm_code 14 5 = some (Instr.getfield 7, 3, 0, 7, 0, [84]) := rfl
theorem c_14_8 : mm_code 14 8 = some (Instr.arraylength, 1, 0, 0, 0, []) := rfl
theorem c_14_9 : mm_code 14 9 = some (Instr.if_icmp .lt 5, 3, 0, 14, 0, []) := rfl
theorem c_14_12 : mm_code 14 12 = some (Instr.iconst 0, 1, 0, 0, 0, []) := rfl
theorem c_14_13 : mm_code 14 13 = some (Instr.ireturn, 1, 1, 0, 0, []) := rfl
theorem c_14_14 : mm_code 14 14 = some (Instr.aload_n 0, 1, 0, 0, 0, []) := rfl
theorem c_14_15 : mm_code 14 15 = some (Instr.getfield 7, 3, 0, 7, 0, [84]) := rfl
theorem c_14_18 : mm_code 14 18 = some (Instr.aload_n 0, 1, 0, 0, 0, []) := rfl
theorem c_14_19 : mm_code 14 19 = some (Instr.getfield 13, 3, 0, 7, 1, [85]) := rfl
theorem c_14_22 : mm_code 14 22 = some (Instr.iload_n 1, 1, 0, 0, 0, []) := rfl
theorem c_14_23 : mm_code 14 23 = some (Instr.iastore, 1, 0, 0, 0, []) := rfl
theorem c_14_24 : mm_code 14 24 = some (Instr.aload_n 0, 1, 0, 0, 0, []) := rfl
theorem c_14_25 : mm_code 14 25 = some (Instr.dup, 1, 0, 0, 0, []) := rfl
theorem c_14_26 : mm_code 14 26 = some (Instr.getfield 13, 3, 0, 7, 1, [85]) := rfl
theorem c_14_29 : mm_code 14 29 = some (Instr.iconst 1, 1, 1, 0, 0, []) := rfl
theorem c_14_30 : mm_code 14 30 = some (Instr.iadd, 1, 0, 0, 0, []) := rfl
theorem c_14_31 : mm_code 14 31 = some (Instr.putfield 13, 3, 1, 7, 1, [85]) := rfl
theorem c_14_34 : mm_code 14 34 = some (Instr.iconst 1, 1, 1, 0, 0, []) := rfl
theorem c_14_35 : mm_code 14 35 = some (Instr.ireturn, 1, 1, 0, 0, []) := rfl
theorem c_15_0 : mm_code 15 0 = some (Instr.aload_n 0, 1, 0, 0, 0, []) := rfl
theorem c_15_1 : mm_code 15 1 = some (Instr.getfield 14, 3, 0, 9, 0, [292]) := rfl
theorem c_15_4 : mm_code 15 4 = some (Instr.aload_n 0, 1, 0, 0, 0, []) := rfl
theorem c_15_5 : mm_code 15 5 = some (Instr.getfield 21, 3, 0, 9, 2, [294]) := rfl
theorem c_15_8 : mm_code 15 8 = some (Instr.invokestatic 91, 3, 0, 16, 2, [344, 345, 67, 346]) := rfl
theorem c_15_11 : mm_code 15 11 = some (Instr.istore_n 1, 1, 0, 0, 0, []) := rfl
theorem c_15_12 : mm_code 15 12 = some (Instr.iload_n 1, 1, 0, 0, 0, []) := rfl
theorem c_15_13 : mm_code 15 13 = some (Instr.iconst (-1), 1, (-1), 0, 0, []) := rfl
theorem c_15_14 : mm_code 15 14 = some (Instr.if_icmp .eq 8, 3, 0, 22, 0, []) := rfl
theorem c_15_17 : mm_code 15 17 = some (Instr.iload_n 1, 1, 0, 0, 0, []) := rfl
theorem c_15_18 : mm_code 15 18 = some (Instr.invokestatic 97, 3, 0, 22, 1, [366, 367, 56, 368]) := rfl
theorem c_15_21 : mm_code 15 21 = some (Instr.ireturn, 1, 0, 0, 0, []) := rfl
theorem c_15_22 : mm_code 15 22 = some (Instr.aload_n 0, 1, 0, 0, 0, []) := rfl
theorem c_15_23 : mm_code 15 23 = some (Instr.getfield 18, 3, 0, 9, 1, [293]) := rfl
theorem c_15_26 : mm_code 15 26 = some (Instr.aload_n 0, 1, 0, 0, 0, []) := rfl
theorem c_15_27 : mm_code 15 27 = some (Instr.getfield 21, 3, 0, 9, 2, [294]) := rfl
theorem c_15_30 : mm_code 15 30 = some (Instr.invokevirtual 101, 3, 7, 23, 1, [369, 370, 371, 57, 372]) := rfl
theorem c_15_33 : mm_code 15 33 = some (Instr.aload_n 0, 1, 0, 0, 0, []) := rfl
theorem c_15_34 : mm_code 15 34 = some (Instr.getfield 18, 3, 0, 9, 1, [293]) := rfl
theorem c_15_37 : mm_code 15 37 = some (Instr.invokevirtual 81, 3, 7, 13, 0, [331, 332, 333, 57, 334]) := rfl
theorem c_15_40 : mm_code 15 40 = some (Instr.ireturn, 1, 0, 0, 0, []) := rfl
theorem c_16_0 : mm_code 16 0 = some (Instr.aload_n 1, 1, 0, 0, 0, []) := rfl
theorem c_16_1 : mm_code 16 1 = some (Instr.invokevirtual 16, 3, 7, 12, 0, [347, 328, 329, 57, 330]) := rfl
theorem c_16_4 : mm_code 16 4 = some (Instr.iconst 0, 1, 0, 0, 0, []) := rfl
theorem c_16_5 : mm_code 16 5 = some (Instr.istore_n 2, 1, 0, 0, 0, []) := rfl
theorem c_16_6 : mm_code 16 6 = some (Instr.iconst 0, 1, 0, 0, 0, []) := rfl
theorem c_16_7 : mm_code 16 7 = some (Instr.istore_n 3, 1, 0, 0, 0, []) := rfl
theorem c_16_8 : mm_code 16 8 = some (Instr.sipush 128, 3, 128, 0, 0, []) := rfl
theorem c_16_11 : mm_code 16 11 = some (Instr.istore 4, 2, 0, 0, 0, []) := rfl
theorem c_16_13 : mm_code 16 13 = some (Instr.sipush 191, 3, 191, 0, 0, []) := rfl
theorem c_16_16 : mm_code 16 16 = some (Instr.istore 5, 2, 0, 0, 0, []) := rfl
theorem c_16_18 : mm_code 16 18 = some (Instr.iconst 0, 1, 0, 0, 0, []) := rfl
theorem c_16_19 : mm_code 16 19 = some (Instr.istore 6, 2, 0, 0, 0, []) := rfl
theorem c_16_21 : mm_code 16 21 = some (Instr.iload 6, 2, 0, 0, 0, []) := rfl
theorem c_16_23 : mm_code 16 23 = some (Instr.aload_n 0, 1, 0, 0, 0, []) := rfl
theorem c_16_24 : mm_code 16 24 = some (Instr.invokevirtual 21, 3, 7, 13, 0, [348, 332, 333, 57, 334]) := rfl
theorem c_16_27 : mm_code 16 27 = some (Instr.if_icmp .ge 115, 3, 0, 142, 0, []) := rfl
theorem c_16_30 : mm_code 16 30 = some (Instr.aload_n 0, 1, 0, 0, 0, []) := rfl
theorem c_16_31 : mm_code 16 31 = some (Instr.iload 6, 2, 0, 0, 0, []) := rfl
theorem c_16_33 : mm_code 16 33 = some (Instr.invokevirtual 25, 3, 7, 17, 1, [349, 350, 351, 57, 352]) := rfl
theorem c_16_36 : mm_code 16 36 = some (Instr.istore 7, 2, 0, 0, 0, []) := rfl
theorem c_16_38 : mm_code 16 38 = some (Instr.iload_n 3, 1, 0, 0, 0, []) := rfl
theorem c_16_39 : mm_code 16 39 = some (Instr.ifCond .ne 40, 3, 0, 79, 0, []) := rfl
theorem c_16_42 : mm_code 16 42 = some (Instr.iload 7, 2, 0, 0, 0, []) := rfl
theorem c_16_44 : mm_code 16 44 = some (Instr.invokestatic 29, 3, 0, 18, 1, [353, 354, 67, 355]) := rfl
theorem c_16_47 : mm_code 16 47 = some (Instr.istore_n 3, 1, 0, 0, 0, []) := rfl
theorem c_16_48 : mm_code 16 48 = some (Instr.iload_n 3, 1, 0, 0, 0, []) := rfl
theorem c_16_49 : mm_code 16 49 = some (Instr.ifCond .ge 6, 3, 0, 55, 0, []) := rfl
theorem c_16_52 : mm_code 16 52 = some (Instr.iload 6, 2, 0, 0, 0, []) := rfl
theorem c_16_54 : mm_code 16 54 = some (Instr.ireturn, 1, 0, 0, 0, []) := rfl
theorem c_16_55 : mm_code 16 55 = some (Instr.iload 7, 2, 0, 0, 0, []) := rfl
theorem c_16_57 : mm_code 16 57 = some (Instr.iload_n 3, 1, 0, 0, 0, []) := rfl
theorem c_16_58 : mm_code 16 58 = some (Instr.invokestatic 32, 3, 0, 19, 2, [356, 357, 67, 358]) := rfl
theorem c_16_61 : mm_code 16 61 = some (Instr.istore_n 2, 1, 0, 0, 0, []) := rfl
theorem c_16_62 : mm_code 16 62 = some (Instr.iload 7, 2, 0, 0, 0, []) := rfl
theorem c_16_64 : mm_code 16 64 = some (Instr.invokestatic 36, 3, 0, 20, 1, [359, 360, 67, 361]) := rfl
theorem c_16_67 : mm_code 16 67 = some (Instr.istore 4, 2, 0, 0, 0, []) := rfl
theorem c_16_69 : mm_code 16 69 = some (Instr.iload 7, 2, 0, 0, 0, []) := rfl
theorem c_16_71 : mm_code 16 71 = some (Instr.invokestatic 39, 3, 0, 21, 1, [362, 363, 67, 364]) := rfl
theorem c_16_74 : mm_code 16 74 = some (Instr.istore 5, 2, 0, 0, 0, []) := rfl
theorem c_16_76 : mm_code 16 76 = some (Instr.goto 45, 3, 0, 121, 0, []) := rfl
theorem c_16_79 : mm_code 16 79 = some (Instr.iload 7, 2, 0, 0, 0, []) := rfl
set_option maxRecDepth 100000 in theorem c_16_81 : mm_code 16 81 = some (Instr.iload 4, 2, 0, 0, 0, []) := rfl
set_option maxRecDepth 100000 in theorem c_16_83 : mm_code 16 83 = some (Instr.if_icmp .lt 10, 3, 0, 93, 0, []) := rfl
set_option maxRecDepth 100000 in theorem c_16_86 : mm_code 16 86 = some (Instr.iload 7, 2, 0, 0, 0, []) := rfl
set_option maxRecDepth 100000 in theorem c_16_88 : mm_code 16 88 = some (Instr.iload 5, 2, 0, 0, 0, []) := rfl
set_option maxRecDepth 100000 in theorem c_16_90 : mm_code 16 90 = some (Instr.if_icmp .le 6, 3, 0, 96, 0, []) := rfl
set_option maxRecDepth 100000 in theorem c_16_93 : mm_code 16 93 = some (Instr.iload 6, 2, 0, 0, 0, []) := rfl
set_option maxRecDepth 100000 in theorem c_16_95 : mm_code 16 95 = some (Instr.ireturn, 1, 0, 0, 0, []) := rfl
set_option maxRecDepth 100000 in theorem c_16_96 : mm_code 16 96 = some (Instr.iload_n 2, 1, 0, 0, 0, []) := rfl
set_option maxRecDepth 100000 in theorem c_16_97 : mm_code 16 97 = some (Instr.bipush 64, 2, 64, 0, 0, []) := rfl
set_option maxRecDepth 100000 in theorem c_16_99 : mm_code 16 99 = some (Instr.imul, 1, 0, 0, 0, []) := rfl
set_option maxRecDepth 100000 in theorem c_16_100 : mm_code 16 100 = some (Instr.iload 7, 2, 0, 0, 0, []) := rfl
set_option maxRecDepth 100000 in theorem c_16_102 : mm_code 16 102 = some (Instr.iadd, 1, 0, 0, 0, []) := rfl
set_option maxRecDepth 100000 in theorem c_16_103 : mm_code 16 103 = some (Instr.sipush 128, 3, 128, 0, 0, []) := rfl
set_option maxRecDepth 100000 in theorem c_16_106 : mm_code 16 106 = some (Instr.isub, 1, 0, 0, 0, []) := rfl
set_option maxRecDepth 100000 in theorem c_16_107 : mm_code 16 107 = some (Instr.istore_n 2, 1, 0, 0, 0, []) := rfl
set_option maxRecDepth 100000 in theorem c_16_108 : mm_code 16 108 = some (Instr.iinc 3 (-1), 3, 0, 0, 0, []) := rfl
set_option maxRecDepth 100000 in theorem c_16_111 : mm_code 16 111 = some (Instr.sipush 128, 3, 128, 0, 0, []) := rfl
set_option maxRecDepth 100000 in theorem c_16_114 : mm_code 16 114 = some (Instr.istore 4, 2, 0, 0, 0, []) := rfl
set_option maxRecDepth 100000 in theorem c_16_116 : mm_code 16 116 = some (Instr.sipush 191, 3, 191, 0, 0, []) := rfl
set_option maxRecDepth 100000 in theorem c_16_119 : mm_code 16 119 = some (Instr.istore 5, 2, 0, 0, 0, []) := rfl
set_option maxRecDepth 100000 in theorem c_16_121 : mm_code 16 121 = some (Instr.iload_n 3, 1, 0, 0, 0, []) := rfl
set_option maxRecDepth 100000 in theorem c_16_122 : mm_code 16 122 = some (Instr.ifCond .ne 14, 3, 0, 136, 0, []) := rfl
set_option maxRecDepth 100000 in theorem c_16_125 : mm_code 16 125 = some (Instr.aload_n 1, 1, 0, 0, 0, []) := rfl
set_option maxRecDepth 100000 in theorem c_16_126 : mm_code 16 126 = some (Instr.iload_n 2, 1, 0, 0, 0, []) := rfl
set_option maxRecDepth 100000 in theorem c_16_127 : mm_code 16 127 = some (Instr.invokevirtual 42, 3, 7, 14, 1, [365, 337, 338, 57, 339]) := rfl
set_option maxRecDepth 100000 in theorem c_16_130 : mm_code 16 130 = some (Instr.ifCond .ne 6, 3, 0, 136, 0, []) := rfl
set_option maxRecDepth 100000 in theorem c_16_133 : mm_code 16 133 = some (Instr.bipush (-2), 2, (-2), 0, 0, []) := rfl
set_option maxRecDepth 100000 in theorem c_16_135 : mm_code 16 135 = some (Instr.ireturn, 1, 0, 0, 0, []) := rfl
set_option maxRecDepth 100000 in theorem c_16_136 : mm_code 16 136 = some (Instr.iinc 6 1, 3, 0, 0, 0, []) := rfl
set_option maxRecDepth 100000 in theorem c_16_139 : mm_code 16 139 = some (Instr.goto (-118), 3, 0, 21, 0, []) := rfl
set_option maxRecDepth 100000 in theorem c_16_142 : mm_code 16 142 = some (Instr.iload_n 3, 1, 0, 0, 0, []) := rfl
set_option maxRecDepth 100000 in theorem c_16_143 : mm_code 16 143 = some (Instr.ifCond .ne 7, 3, 0, 150, 0, []) := rfl
set_option maxRecDepth 100000 in theorem c_16_146 : mm_code 16 146 = some (Instr.iconst (-1), 1, (-1), 0, 0, []) := rfl
set_option maxRecDepth 100000 in theorem c_16_147 : mm_code 16 147 = some (Instr.goto 7, 3, 0, 154, 0, []) := rfl
set_option maxRecDepth 100000 in theorem c_16_150 : mm_code 16 150 = some (Instr.aload_n 0, 1, 0, 0, 0, []) := rfl
set_option maxRecDepth 100000 in theorem c_16_151 : mm_code 16 151 = some (Instr.invokevirtual 21, 3, 7, 13, 0, [348, 332, 333, 57, 334]) := rfl
set_option maxRecDepth 100000 in theorem c_16_154 : mm_code 16 154 = some (Instr.ireturn, 1, 0, 0, 0, []) := rfl
theorem c_17_0 : mm_code 17 0 = some (Instr.iload_n 1, 1, 0, 0, 0, []) := rfl
theorem c_17_1 : mm_code 17 1 = some (Instr.ifCond .lt 20, 3, 0, 21, 0, []) := rfl
theorem c_17_4 : mm_code 17 4 = some (Instr.iload_n 1, 1, 0, 0, 0, []) := rfl
theorem c_17_5 : mm_code 17 5 = some (Instr.aload_n 0, 1, 0, 0, 0, []) := rfl
theorem c_17_6 : mm_code 17 6 = some (Instr.getfield 13, 3, 0, 7, 1, [85]) := rfl
theorem c_17_9 : mm_code 17 9 = some (Instr.if_icmp .ge 12, 3, 0, 21, 0, []) := rfl
theorem c_17_12 : mm_code 17 12 = some (Instr.aload_n 0, 1, 0, 0, 0, []) := rfl
theorem c_17_13 : mm_code 17 13 = some (Instr.getfield 7, 3, 0, 7, 0, [84]) := rfl
theorem c_17_16 : mm_code 17 16 = some (Instr.iload_n 1, 1, 0, 0, 0, []) := rfl
theorem c_17_17 : mm_code 17 17 = some (Instr.iaload, 1, 0, 0, 0, []) := rfl
theorem c_17_18 : mm_code 17 18 = some (Instr.goto 4, 3, 0, 22, 0, []) := rfl
theorem c_17_21 : mm_code 17 21 = some (Instr.iconst (-1), 1, (-1), 0, 0, []) := rfl
theorem c_17_22 : mm_code 17 22 = some (Instr.ireturn, 1, 0, 0, 0, []) := rfl
theorem c_18_0 : mm_code 18 0 = some (Instr.iload_n 0, 1, 0, 0, 0, []) := rfl
theorem c_18_1 : mm_code 18 1 = some (Instr.sipush 128, 3, 128, 0, 0, []) := rfl
theorem c_18_4 : mm_code 18 4 = some (Instr.if_icmp .ge 5, 3, 0, 9, 0, []) := rfl
theorem c_18_7 : mm_code 18 7 = some (Instr.iconst 0, 1, 0, 0, 0, []) := rfl
theorem c_18_8 : mm_code 18 8 = some (Instr.ireturn, 1, 0, 0, 0, []) := rfl
theorem c_18_9 : mm_code 18 9 = some (Instr.iload_n 0, 1, 0, 0, 0, []) := rfl
theorem c_18_10 : mm_code 18 10 = some (Instr.sipush 194, 3, 194, 0, 0, []) := rfl
theorem c_18_13 : mm_code 18 13 = some (Instr.if_icmp .lt 10, 3, 0, 23, 0, []) := rfl
theorem c_18_16 : mm_code 18 16 = some (Instr.iload_n 0, 1, 0, 0, 0, []) := rfl
theorem c_18_17 : mm_code 18 17 = some (Instr.sipush 244, 3, 244, 0, 0, []) := rfl
theorem c_18_20 : mm_code 18 20 = some (Instr.if_icmp .le 5, 3, 0, 25, 0, []) := rfl
theorem c_18_23 : mm_code 18 23 = some (Instr.iconst (-1), 1, (-1), 0, 0, []) := rfl
theorem c_18_24 : mm_code 18 24 = some (Instr.ireturn, 1, 0, 0, 0, []) := rfl
theorem c_18_25 : mm_code 18 25 = some (Instr.iload_n 0, 1, 0, 0, 0, []) := rfl
theorem c_18_26 : mm_code 18 26 = some (Instr.sipush 224, 3, 224, 0, 0, []) := rfl
theorem c_18_29 : mm_code 18 29 = some (Instr.if_icmp .ge 7, 3, 0, 36, 0, []) := rfl
theorem c_18_32 : mm_code 18 32 = some (Instr.iconst 1, 1, 1, 0, 0, []) := rfl
theorem c_18_33 : mm_code 18 33 = some (Instr.goto 15, 3, 0, 48, 0, []) := rfl
theorem c_18_36 : mm_code 18 36 = some (Instr.iload_n 0, 1, 0, 0, 0, []) := rfl
theorem c_18_37 : mm_code 18 37 = some (Instr.sipush 240, 3, 240, 0, 0, []) := rfl
theorem c_18_40 : mm_code 18 40 = some (Instr.if_icmp .ge 7, 3, 0, 47, 0, []) := rfl
theorem c_18_43 : mm_code 18 43 = some (Instr.iconst 2, 1, 2, 0, 0, []) := rfl
theorem c_18_44 : mm_code 18 44 = some (Instr.goto 4, 3, 0, 48, 0, []) := rfl
theorem c_18_47 : mm_code 18 47 = some (Instr.iconst 3, 1, 3, 0, 0, []) := rfl
theorem c_18_48 : mm_code 18 48 = some (Instr.ireturn, 1, 0, 0, 0, []) := rfl
theorem c_19_0 : mm_code 19 0 = some (Instr.iload_n 1, 1, 0, 0, 0, []) := rfl
theorem c_19_1 : mm_code 19 1 = some (Instr.tableswitch 45 1 3 #[27, 33, 39], 27, 0, 0, 0, []) := rfl
theorem c_19_28 : mm_code 19 28 = some (Instr.iload_n 0, 1, 0, 0, 0, []) := rfl
theorem c_19_29 : mm_code 19 29 = some (Instr.sipush 192, 3, 192, 0, 0, []) := rfl
theorem c_19_32 : mm_code 19 32 = some (Instr.isub, 1, 0, 0, 0, []) := rfl
theorem c_19_33 : mm_code 19 33 = some (Instr.ireturn, 1, 0, 0, 0, []) := rfl
theorem c_19_34 : mm_code 19 34 = some (Instr.iload_n 0, 1, 0, 0, 0, []) := rfl
theorem c_19_35 : mm_code 19 35 = some (Instr.sipush 224, 3, 224, 0, 0, []) := rfl
theorem c_19_38 : mm_code 19 38 = some (Instr.isub, 1, 0, 0, 0, []) := rfl
theorem c_19_39 : mm_code 19 39 = some (Instr.ireturn, 1, 0, 0, 0, []) := rfl
theorem c_19_40 : mm_code 19 40 = some (Instr.iload_n 0, 1, 0, 0, 0, []) := rfl
theorem c_19_41 : mm_code 19 41 = some (Instr.sipush 240, 3, 240, 0, 0, []) := rfl
theorem c_19_44 : mm_code 19 44 = some (Instr.isub, 1, 0, 0, 0, []) := rfl
theorem c_19_45 : mm_code 19 45 = some (Instr.ireturn, 1, 0, 0, 0, []) := rfl
theorem c_19_46 : mm_code 19 46 = some (Instr.iload_n 0, 1, 0, 0, 0, []) := rfl
theorem c_19_47 : mm_code 19 47 = some (Instr.ireturn, 1, 0, 0, 0, []) := rfl
theorem c_20_0 : mm_code 20 0 = some (Instr.iload_n 0, 1, 0, 0, 0, []) := rfl
theorem c_20_1 : mm_code 20 1 = some (Instr.sipush 224, 3, 224, 0, 0, []) := rfl
theorem c_20_4 : mm_code 20 4 = some (Instr.if_icmp .ne 9, 3, 0, 13, 0, []) := rfl
theorem c_20_7 : mm_code 20 7 = some (Instr.sipush 160, 3, 160, 0, 0, []) := rfl
theorem c_20_10 : mm_code 20 10 = some (Instr.goto 19, 3, 0, 29, 0, []) := rfl
theorem c_20_13 : mm_code 20 13 = some (Instr.iload_n 0, 1, 0, 0, 0, []) := rfl
theorem c_20_14 : mm_code 20 14 = some (Instr.sipush 240, 3, 240, 0, 0, []) := rfl
theorem c_20_17 : mm_code 20 17 = some (Instr.if_icmp .ne 9, 3, 0, 26, 0, []) := rfl
theorem c_20_20 : mm_code 20 20 = some (Instr.sipush 144, 3, 144, 0, 0, []) := rfl
theorem c_20_23 : mm_code 20 23 = some (Instr.goto 6, 3, 0, 29, 0, []) := rfl
theorem c_20_26 : mm_code 20 26 = some (Instr.sipush 128, 3, 128, 0, 0, []) := rfl
theorem c_20_29 : mm_code 20 29 = some (Instr.ireturn, 1, 0, 0, 0, []) := rfl
theorem c_21_0 : mm_code 21 0 = some (Instr.iload_n 0, 1, 0, 0, 0, []) := rfl
theorem c_21_1 : mm_code 21 1 = some (Instr.sipush 237, 3, 237, 0, 0, []) := rfl
theorem c_21_4 : mm_code 21 4 = some (Instr.if_icmp .ne 9, 3, 0, 13, 0, []) := rfl
theorem c_21_7 : mm_code 21 7 = some (Instr.sipush 159, 3, 159, 0, 0, []) := rfl
theorem c_21_10 : mm_code 21 10 = some (Instr.goto 19, 3, 0, 29, 0, []) := rfl
theorem c_21_13 : mm_code 21 13 = some (Instr.iload_n 0, 1, 0, 0, 0, []) := rfl
theorem c_21_14 : mm_code 21 14 = some (Instr.sipush 244, 3, 244, 0, 0, []) := rfl
theorem c_21_17 : mm_code 21 17 = some (Instr.if_icmp .ne 9, 3, 0, 26, 0, []) := rfl
theorem c_21_20 : mm_code 21 20 = some (Instr.sipush 143, 3, 143, 0, 0, []) := rfl
theorem c_21_23 : mm_code 21 23 = some (Instr.goto 6, 3, 0, 29, 0, []) := rfl
theorem c_21_26 : mm_code 21 26 = some (Instr.sipush 191, 3, 191, 0, 0, []) := rfl
theorem c_21_29 : mm_code 21 29 = some (Instr.ireturn, 1, 0, 0, 0, []) := rfl
theorem c_22_0 : mm_code 22 0 = some (Instr.iload_n 0, 1, 0, 0, 0, []) := rfl
theorem c_22_1 : mm_code 22 1 = some (Instr.bipush (-2), 2, (-2), 0, 0, []) := rfl
theorem c_22_3 : mm_code 22 3 = some (Instr.if_icmp .ne 8, 3, 0, 11, 0, []) := rfl
theorem c_22_6 : mm_code 22 6 = some (Instr.bipush (-4), 2, (-4), 0, 0, []) := rfl
theorem c_22_8 : mm_code 22 8 = some (Instr.goto 7, 3, 0, 15, 0, []) := rfl
theorem c_22_11 : mm_code 22 11 = some (Instr.bipush (-10), 2, (-10), 0, 0, []) := rfl
theorem c_22_13 : mm_code 22 13 = some (Instr.iload_n 0, 1, 0, 0, 0, []) := rfl
theorem c_22_14 : mm_code 22 14 = some (Instr.isub, 1, 0, 0, 0, []) := rfl
theorem c_22_15 : mm_code 22 15 = some (Instr.ireturn, 1, 0, 0, 0, []) := rfl
theorem c_23_0 : mm_code 23 0 = some (Instr.aload_n 0, 1, 0, 0, 0, []) := rfl
theorem c_23_1 : mm_code 23 1 = some (Instr.invokevirtual 25, 3, 7, 12, 0, [373, 328, 329, 57, 330]) := rfl
theorem c_23_4 : mm_code 23 4 = some (Instr.aload_n 0, 1, 0, 0, 0, []) := rfl
theorem c_23_5 : mm_code 23 5 = some (Instr.aload_n 1, 1, 0, 0, 0, []) := rfl
theorem c_23_6 : mm_code 23 6 = some (Instr.iconst 0, 1, 0, 0, 0, []) := rfl
theorem c_23_7 : mm_code 23 7 = some (Instr.aload_n 1, 1, 0, 0, 0, []) := rfl
theorem c_23_8 : mm_code 23 8 = some (Instr.invokevirtual 28, 3, 7, 13, 0, [374, 332, 333, 57, 334]) := rfl
theorem c_23_11 : mm_code 23 11 = some (Instr.invokevirtual 31, 3, 7, 24, 3, [375, 376, 377, 57, 378]) := rfl
theorem c_23_14 : mm_code 23 14 = some (Instr.pop, 1, 0, 0, 0, []) := rfl
theorem c_23_15 : mm_code 23 15 = some (Instr.return_, 1, 0, 0, 0, []) := rfl
theorem c_24_0 : mm_code 24 0 = some (Instr.iload_n 2, 1, 0, 0, 0, []) := rfl
theorem c_24_1 : mm_code 24 1 = some (Instr.istore 4, 2, 0, 0, 0, []) := rfl
theorem c_24_3 : mm_code 24 3 = some (Instr.iload 4, 2, 0, 0, 0, []) := rfl
theorem c_24_5 : mm_code 24 5 = some (Instr.iload_n 3, 1, 0, 0, 0, []) := rfl
theorem c_24_6 : mm_code 24 6 = some (Instr.if_icmp .ge 24, 3, 0, 30, 0, []) := rfl
theorem c_24_9 : mm_code 24 9 = some (Instr.aload_n 0, 1, 0, 0, 0, []) := rfl
theorem c_24_10 : mm_code 24 10 = some (Instr.aload_n 1, 1, 0, 0, 0, []) := rfl
theorem c_24_11 : mm_code 24 11 = some (Instr.iload 4, 2, 0, 0, 0, []) := rfl
theorem c_24_13 : mm_code 24 13 = some (Instr.invokevirtual 17, 3, 7, 17, 1, [379, 350, 351, 57, 352]) := rfl
theorem c_24_16 : mm_code 24 16 = some (Instr.invokevirtual 21, 3, 7, 14, 1, [380, 337, 338, 57, 339]) := rfl
theorem c_24_19 : mm_code 24 19 = some (Instr.ifCond .ne 5, 3, 0, 24, 0, []) := rfl
theorem c_24_22 : mm_code 24 22 = some (Instr.iconst 0, 1, 0, 0, 0, []) := rfl
theorem c_24_23 : mm_code 24 23 = some (Instr.ireturn, 1, 1, 0, 0, []) := rfl
theorem c_24_24 : mm_code 24 24 = some (Instr.iinc 4 1, 3, 0, 0, 0, []) := rfl
theorem c_24_27 : mm_code 24 27 = some (Instr.goto (-24), 3, 0, 3, 0, []) := rfl
theorem c_24_30 : mm_code 24 30 = some (Instr.iconst 1, 1, 1, 0, 0, []) := rfl
theorem c_24_31 : mm_code 24 31 = some (Instr.ireturn, 1, 1, 0, 0, []) := rfl
theorem c_25_0 : mm_code 25 0 = some (Instr.iload_n 1, 1, 0, 0, 0, []) := rfl
theorem c_25_1 : mm_code 25 1 = some (Instr.ifCond .lt 25, 3, 0, 26, 0, []) := rfl
theorem c_25_4 : mm_code 25 4 = some (Instr.iload_n 1, 1, 0, 0, 0, []) := rfl
theorem c_25_5 : mm_code 25 5 = some (Instr.aload_n 0, 1, 0, 0, 0, []) := rfl
theorem c_25_6 : mm_code 25 6 = some (Instr.getfield 18, 3, 0, 9, 1, [293]) := rfl
theorem c_25_9 : mm_code 25 9 = some (Instr.invokevirtual 81, 3, 7, 13, 0, [331, 332, 333, 57, 334]) := rfl
theorem c_25_12 : mm_code 25 12 = some (Instr.if_icmp .ge 14, 3, 0, 26, 0, []) := rfl
theorem c_25_15 : mm_code 25 15 = some (Instr.aload_n 0, 1, 0, 0, 0, []) := rfl
theorem c_25_16 : mm_code 25 16 = some (Instr.getfield 18, 3, 0, 9, 1, [293]) := rfl
theorem c_25_19 : mm_code 25 19 = some (Instr.iload_n 1, 1, 0, 0, 0, []) := rfl
theorem c_25_20 : mm_code 25 20 = some (Instr.invokevirtual 105, 3, 7, 17, 1, [385, 350, 351, 57, 352]) := rfl
theorem c_25_23 : mm_code 25 23 = some (Instr.goto 4, 3, 0, 27, 0, []) := rfl
theorem c_25_26 : mm_code 25 26 = some (Instr.iconst (-1), 1, (-1), 0, 0, []) := rfl
theorem c_25_27 : mm_code 25 27 = some (Instr.ireturn, 1, 0, 0, 0, []) := rfl
theorem c_26_0 : mm_code 26 0 = some (Instr.iload_n 1, 1, 0, 0, 0, []) := rfl
theorem c_26_1 : mm_code 26 1 = some (Instr.iconst (-1), 1, (-1), 0, 0, []) := rfl
theorem c_26_2 : mm_code 26 2 = some (Instr.if_icmp .ne 12, 3, 0, 14, 0, []) := rfl
theorem c_26_5 : mm_code 26 5 = some (Instr.aload_n 0, 1, 0, 0, 0, []) := rfl
theorem c_26_6 : mm_code 26 6 = some (Instr.getfield 18, 3, 0, 9, 1, [293]) := rfl
theorem c_26_9 : mm_code 26 9 = some (Instr.invokevirtual 78, 3, 7, 12, 0, [327, 328, 329, 57, 330]) := rfl
theorem c_26_12 : mm_code 26 12 = some (Instr.iconst 0, 1, 0, 0, 0, []) := rfl
theorem c_26_13 : mm_code 26 13 = some (Instr.ireturn, 1, 0, 0, 0, []) := rfl
theorem c_26_14 : mm_code 26 14 = some (Instr.iload_n 1, 1, 0, 0, 0, []) := rfl
theorem c_26_15 : mm_code 26 15 = some (Instr.i2l, 1, 0, 0, 0, []) := rfl
theorem c_26_16 : mm_code 26 16 = some (Instr.invokestatic 108, 3, 0, 27, 1, [390, 391, 67, 392]) := rfl
theorem c_26_19 : mm_code 26 19 = some (Instr.ifCond .ne 6, 3, 0, 25, 0, []) := rfl
theorem c_26_22 : mm_code 26 22 = some (Instr.bipush (-2), 2, (-2), 0, 0, []) := rfl
theorem c_26_24 : mm_code 26 24 = some (Instr.ireturn, 1, 0, 0, 0, []) := rfl
theorem c_26_25 : mm_code 26 25 = some (Instr.aload_n 0, 1, 0, 0, 0, []) := rfl
theorem c_26_26 : mm_code 26 26 = some (Instr.getfield 18, 3, 0, 9, 1, [293]) := rfl
theorem c_26_29 : mm_code 26 29 = some (Instr.iload_n 1, 1, 0, 0, 0, []) := rfl
theorem c_26_30 : mm_code 26 30 = some (Instr.invokevirtual 87, 3, 7, 14, 1, [336, 337, 338, 57, 339]) := rfl
theorem c_26_33 : mm_code 26 33 = some (Instr.ifCond .eq 13, 3, 0, 46, 0, []) := rfl
theorem c_26_36 : mm_code 26 36 = some (Instr.aload_n 0, 1, 0, 0, 0, []) := rfl
theorem c_26_37 : mm_code 26 37 = some (Instr.getfield 18, 3, 0, 9, 1, [293]) := rfl
theorem c_26_40 : mm_code 26 40 = some (Instr.invokevirtual 81, 3, 7, 13, 0, [331, 332, 333, 57, 334]) := rfl
theorem c_26_43 : mm_code 26 43 = some (Instr.goto 5, 3, 0, 48, 0, []) := rfl
theorem c_26_46 : mm_code 26 46 = some (Instr.bipush (-4), 2, (-4), 0, 0, []) := rfl
theorem c_26_48 : mm_code 26 48 = some (Instr.ireturn, 1, 0, 0, 0, []) := rfl
theorem c_27_0 : mm_code 27 0 = some (Instr.lload_n 0, 1, 0, 0, 0, []) := rfl
theorem c_27_1 : mm_code 27 1 = some (Instr.lconst 0, 1, 0, 0, 0, []) := rfl
theorem c_27_2 : mm_code 27 2 = some (Instr.lcmp, 1, 0, 0, 0, []) := rfl
theorem c_27_3 : mm_code 27 3 = some (Instr.ifCond .lt 31, 3, 0, 34, 0, []) := rfl
theorem c_27_6 : mm_code 27 6 = some (Instr.lload_n 0, 1, 0, 0, 0, []) := rfl
theorem c_27_7 : mm_code 27 7 = some (Instr.ldc2_w 9, 3, 1114111, 0, 0, [393]) := rfl
theorem c_27_10 : mm_code 27 10 = some (Instr.lcmp, 1, 0, 0, 0, []) := rfl
theorem c_27_11 : mm_code 27 11 = some (Instr.ifCond .gt 23, 3, 0, 34, 0, []) := rfl
theorem c_27_14 : mm_code 27 14 = some (Instr.lload_n 0, 1, 0, 0, 0, []) := rfl
theorem c_27_15 : mm_code 27 15 = some (Instr.ldc2_w 11, 3, 55296, 0, 0, [394]) := rfl
theorem c_27_18 : mm_code 27 18 = some (Instr.lcmp, 1, 0, 0, 0, []) := rfl
theorem c_27_19 : mm_code 27 19 = some (Instr.ifCond .lt 11, 3, 0, 30, 0, []) := rfl
theorem c_27_22 : mm_code 27 22 = some (Instr.lload_n 0, 1, 0, 0, 0, []) := rfl
theorem c_27_23 : mm_code 27 23 = some (Instr.ldc2_w 13, 3, 57343, 0, 0, [395]) := rfl
theorem c_27_26 : mm_code 27 26 = some (Instr.lcmp, 1, 0, 0, 0, []) := rfl
theorem c_27_27 : mm_code 27 27 = some (Instr.ifCond .le 7, 3, 0, 34, 0, []) := rfl
theorem c_27_30 : mm_code 27 30 = some (Instr.iconst 1, 1, 1, 0, 0, []) := rfl
theorem c_27_31 : mm_code 27 31 = some (Instr.goto 4, 3, 0, 35, 0, []) := rfl
theorem c_27_34 : mm_code 27 34 = some (Instr.iconst 0, 1, 0, 0, 0, []) := rfl
theorem c_27_35 : mm_code 27 35 = some (Instr.ireturn, 1, 1, 0, 0, []) := rfl
theorem c_28_0 : mm_code 28 0 = some (Instr.aload_n 0, 1, 0, 0, 0, []) := rfl
theorem c_28_1 : mm_code 28 1 = some (Instr.getfield 30, 3, 0, 9, 4, [296]) := rfl
theorem c_28_4 : mm_code 28 4 = some (Instr.iload_n 1, 1, 0, 0, 0, []) := rfl
theorem c_28_5 : mm_code 28 5 = some (Instr.iload_n 2, 1, 0, 0, 0, []) := rfl
theorem c_28_6 : mm_code 28 6 = some (Instr.iload_n 3, 1, 0, 0, 0, []) := rfl
theorem c_28_7 : mm_code 28 7 = some (Instr.invokevirtual 112, 3, 8, 29, 3, [400, 401, 402, 58, 403]) := rfl
theorem c_28_10 : mm_code 28 10 = some (Instr.ireturn, 1, 0, 0, 0, []) := rfl
theorem c_29_0 : mm_code 29 0 = some (Instr.iload_n 1, 1, 0, 0, 0, []) := rfl
theorem c_29_1 : mm_code 29 1 = some (Instr.iload_n 2, 1, 0, 0, 0, []) := rfl
theorem c_29_2 : mm_code 29 2 = some (Instr.invokestatic 31, 3, 0, 30, 2, [404, 405, 67, 406]) := rfl
theorem c_29_5 : mm_code 29 5 = some (Instr.ifCond .eq 17, 3, 0, 22, 0, []) := rfl
theorem c_29_8 : mm_code 29 8 = some (Instr.iload_n 3, 1, 0, 0, 0, []) := rfl
theorem c_29_9 : mm_code 29 9 = some (Instr.ifCond .eq 16, 3, 0, 25, 0, []) := rfl
theorem c_29_12 : mm_code 29 12 = some (Instr.iload_n 3, 1, 0, 0, 0, []) := rfl
theorem c_29_13 : mm_code 29 13 = some (Instr.iconst 1, 1, 1, 0, 0, []) := rfl
theorem c_29_14 : mm_code 29 14 = some (Instr.if_icmp .eq 11, 3, 0, 25, 0, []) := rfl
theorem c_29_17 : mm_code 29 17 = some (Instr.iload_n 3, 1, 0, 0, 0, []) := rfl
theorem c_29_18 : mm_code 29 18 = some (Instr.iconst 3, 1, 3, 0, 0, []) := rfl
theorem c_29_19 : mm_code 29 19 = some (Instr.if_icmp .eq 6, 3, 0, 25, 0, []) := rfl
theorem c_29_22 : mm_code 29 22 = some (Instr.bipush (-2), 2, (-2), 0, 0, []) := rfl
theorem c_29_24 : mm_code 29 24 = some (Instr.ireturn, 1, 0, 0, 0, []) := rfl
theorem c_29_25 : mm_code 29 25 = some (Instr.aload_n 0, 1, 0, 0, 0, []) := rfl
theorem c_29_26 : mm_code 29 26 = some (Instr.iload_n 1, 1, 0, 0, 0, []) := rfl
theorem c_29_27 : mm_code 29 27 = some (Instr.iload_n 2, 1, 0, 0, 0, []) := rfl
theorem c_29_28 : mm_code 29 28 = some (Instr.iload_n 3, 1, 0, 0, 0, []) := rfl
theorem c_29_29 : mm_code 29 29 = some (Instr.invokevirtual 37, 3, 8, 31, 3, [408, 410, 0, 58, 411]) := rfl
theorem c_29_32 : mm_code 29 32 = some (Instr.ifCond .eq 7, 3, 0, 39, 0, []) := rfl
theorem c_29_35 : mm_code 29 35 = some (Instr.iconst 1, 1, 1, 0, 0, []) := rfl
theorem c_29_36 : mm_code 29 36 = some (Instr.goto 5, 3, 0, 41, 0, []) := rfl
theorem c_29_39 : mm_code 29 39 = some (Instr.bipush (-4), 2, (-4), 0, 0, []) := rfl
theorem c_29_41 : mm_code 29 41 = some (Instr.ireturn, 1, 0, 0, 0, []) := rfl
theorem c_30_0 : mm_code 30 0 = some (Instr.iload_n 0, 1, 0, 0, 0, []) := rfl
theorem c_30_1 : mm_code 30 1 = some (Instr.ifCond .lt 18, 3, 0, 19, 0, []) := rfl
theorem c_30_4 : mm_code 30 4 = some (Instr.iload_n 0, 1, 0, 0, 0, []) := rfl
theorem c_30_5 : mm_code 30 5 = some (Instr.iload_n 1, 1, 0, 0, 0, []) := rfl
theorem c_30_6 : mm_code 30 6 = some (Instr.if_icmp .gt 13, 3, 0, 19, 0, []) := rfl
theorem c_30_9 : mm_code 30 9 = some (Instr.iload_n 1, 1, 0, 0, 0, []) := rfl
theorem c_30_10 : mm_code 30 10 = some (Instr.ldc 15, 2, 1114111, 0, 0, [407]) := rfl
theorem c_30_12 : mm_code 30 12 = some (Instr.if_icmp .gt 7, 3, 0, 19, 0, []) := rfl
theorem c_30_15 : mm_code 30 15 = some (Instr.iconst 1, 1, 1, 0, 0, []) := rfl
theorem c_30_16 : mm_code 30 16 = some (Instr.goto 4, 3, 0, 20, 0, []) := rfl
theorem c_30_19 : mm_code 30 19 = some (Instr.iconst 0, 1, 0, 0, 0, []) := rfl
theorem c_30_20 : mm_code 30 20 = some (Instr.ireturn, 1, 1, 0, 0, []) := rfl
theorem c_31_0 : mm_code 31 0 = some (Instr.aload_n 0, 1, 0, 0, 0, []) := rfl
theorem c_31_1 : mm_code 31 1 = some (Instr.getfield 27, 3, 0, 8, 5, [103]) := rfl
theorem c_31_4 : mm_code 31 4 = some (Instr.sipush 200, 3, 200, 0, 0, []) := rfl
theorem c_31_7 : mm_code 31 7 = some (Instr.if_icmp .lt 5, 3, 0, 12, 0, []) := rfl
theorem c_31_10 : mm_code 31 10 = some (Instr.iconst 0, 1, 0, 0, 0, []) := rfl
theorem c_31_11 : mm_code 31 11 = some (Instr.ireturn, 1, 1, 0, 0, []) := rfl
theorem c_31_12 : mm_code 31 12 = some (Instr.aload_n 0, 1, 0, 0, 0, []) := rfl
theorem c_31_13 : mm_code 31 13 = some (Instr.getfield 11, 3, 0, 8, 0, [98]) := rfl
theorem c_31_16 : mm_code 31 16 = some (Instr.aload_n 0, 1, 0, 0, 0, []) := rfl
theorem c_31_17 : mm_code 31 17 = some (Instr.getfield 27, 3, 0, 8, 5, [103]) := rfl
theorem c_31_20 : mm_code 31 20 = some (Instr.iload_n 1, 1, 0, 0, 0, []) := rfl
theorem c_31_21 : mm_code 31 21 = some (Instr.iastore, 1, 0, 0, 0, []) := rfl
theorem c_31_22 : mm_code 31 22 = some (Instr.aload_n 0, 1, 0, 0, 0, []) := rfl
theorem c_31_23 : mm_code 31 23 = some (Instr.getfield 15, 3, 0, 8, 1, [99]) := rfl
theorem c_31_26 : mm_code 31 26 = some (Instr.aload_n 0, 1, 0, 0, 0, []) := rfl
theorem c_31_27 : mm_code 31 27 = some (Instr.getfield 27, 3, 0, 8, 5, [103]) := rfl
theorem c_31_30 : mm_code 31 30 = some (Instr.iload_n 2, 1, 0, 0, 0, []) := rfl
theorem c_31_31 : mm_code 31 31 = some (Instr.iastore, 1, 0, 0, 0, []) := rfl
theorem c_31_32 : mm_code 31 32 = some (Instr.aload_n 0, 1, 0, 0, 0, []) := rfl
theorem c_31_33 : mm_code 31 33 = some (Instr.getfield 18, 3, 0, 8, 2, [100]) := rfl
theorem c_31_36 : mm_code 31 36 = some (Instr.aload_n 0, 1, 0, 0, 0, []) := rfl
theorem c_31_37 : mm_code 31 37 = some (Instr.getfield 27, 3, 0, 8, 5, [103]) := rfl
theorem c_31_40 : mm_code 31 40 = some (Instr.iload_n 3, 1, 0, 0, 0, []) := rfl
theorem c_31_41 : mm_code 31 41 = some (Instr.iastore, 1, 0, 0, 0, []) := rfl
theorem c_31_42 : mm_code 31 42 = some (Instr.aload_n 0, 1, 0, 0, 0, []) := rfl
theorem c_31_43 : mm_code 31 43 = some (Instr.dup, 1, 0, 0, 0, []) := rfl
theorem c_31_44 : mm_code 31 44 = some (Instr.getfield 27, 3, 0, 8, 5, [103]) := rfl
theorem c_31_47 : mm_code 31 47 = some (Instr.iconst 1, 1, 1, 0, 0, []) := rfl
theorem c_31_48 : mm_code 31 48 = some (Instr.iadd, 1, 0, 0, 0, []) := rfl
theorem c_31_49 : mm_code 31 49 = some (Instr.putfield 27, 3, 1, 8, 5, [103]) := rfl
theorem c_31_52 : mm_code 31 52 = some (Instr.iconst 1, 1, 1, 0, 0, []) := rfl
theorem c_31_53 : mm_code 31 53 = some (Instr.ireturn, 1, 1, 0, 0, []) := rfl
theorem c_32_0 : mm_code 32 0 = some (Instr.aload_n 0, 1, 0, 0, 0, []) := rfl
theorem c_32_1 : mm_code 32 1 = some (Instr.getfield 30, 3, 0, 9, 4, [296]) := rfl
theorem c_32_4 : mm_code 32 4 = some (Instr.iload_n 1, 1, 0, 0, 0, []) := rfl
theorem c_32_5 : mm_code 32 5 = some (Instr.aload_n 0, 1, 0, 0, 0, []) := rfl
theorem c_32_6 : mm_code 32 6 = some (Instr.getfield 18, 3, 0, 9, 1, [293]) := rfl
theorem c_32_9 : mm_code 32 9 = some (Instr.invokevirtual 116, 3, 8, 33, 2, [416, 417, 418, 58, 419]) := rfl
theorem c_32_12 : mm_code 32 12 = some (Instr.ireturn, 1, 0, 0, 0, []) := rfl
theorem c_33_0 : mm_code 33 0 = some (Instr.iload_n 1, 1, 0, 0, 0, []) := rfl
theorem c_33_1 : mm_code 33 1 = some (Instr.i2l, 1, 0, 0, 0, []) := rfl
theorem c_33_2 : mm_code 33 2 = some (Instr.invokestatic 41, 3, 0, 27, 1, [420, 391, 67, 392]) := rfl
theorem c_33_5 : mm_code 33 5 = some (Instr.ifCond .eq 19, 3, 0, 24, 0, []) := rfl
theorem c_33_8 : mm_code 33 8 = some (Instr.aload_n 2, 1, 0, 0, 0, []) := rfl
theorem c_33_9 : mm_code 33 9 = some (Instr.invokevirtual 45, 3, 7, 13, 0, [421, 332, 333, 57, 334]) := rfl
theorem c_33_12 : mm_code 33 12 = some (Instr.iconst 1, 1, 1, 0, 0, []) := rfl
theorem c_33_13 : mm_code 33 13 = some (Instr.if_icmp .lt 11, 3, 0, 24, 0, []) := rfl
theorem c_33_16 : mm_code 33 16 = some (Instr.aload_n 2, 1, 0, 0, 0, []) := rfl
theorem c_33_17 : mm_code 33 17 = some (Instr.invokevirtual 45, 3, 7, 13, 0, [421, 332, 333, 57, 334]) := rfl
theorem c_33_20 : mm_code 33 20 = some (Instr.iconst 4, 1, 4, 0, 0, []) := rfl
theorem c_33_21 : mm_code 33 21 = some (Instr.if_icmp .le 6, 3, 0, 27, 0, []) := rfl
theorem c_33_24 : mm_code 33 24 = some (Instr.bipush (-2), 2, (-2), 0, 0, []) := rfl
theorem c_33_26 : mm_code 33 26 = some (Instr.ireturn, 1, 0, 0, 0, []) := rfl
theorem c_33_27 : mm_code 33 27 = some (Instr.aload_n 0, 1, 0, 0, 0, []) := rfl
theorem c_33_28 : mm_code 33 28 = some (Instr.iload_n 1, 1, 0, 0, 0, []) := rfl
theorem c_33_29 : mm_code 33 29 = some (Instr.iload_n 1, 1, 0, 0, 0, []) := rfl
theorem c_33_30 : mm_code 33 30 = some (Instr.iconst 2, 1, 2, 0, 0, []) := rfl
theorem c_33_31 : mm_code 33 31 = some (Instr.invokevirtual 37, 3, 8, 31, 3, [408, 410, 0, 58, 411]) := rfl
theorem c_33_34 : mm_code 33 34 = some (Instr.ifCond .ne 6, 3, 0, 40, 0, []) := rfl
theorem c_33_37 : mm_code 33 37 = some (Instr.bipush (-4), 2, (-4), 0, 0, []) := rfl
theorem c_33_39 : mm_code 33 39 = some (Instr.ireturn, 1, 0, 0, 0, []) := rfl
theorem c_33_40 : mm_code 33 40 = some (Instr.aload_n 0, 1, 0, 0, 0, []) := rfl
theorem c_33_41 : mm_code 33 41 = some (Instr.getfield 27, 3, 0, 8, 5, [103]) := rfl
theorem c_33_44 : mm_code 33 44 = some (Instr.iconst 1, 1, 1, 0, 0, []) := rfl
theorem c_33_45 : mm_code 33 45 = some (Instr.isub, 1, 0, 0, 0, []) := rfl
theorem c_33_46 : mm_code 33 46 = some (Instr.istore_n 3, 1, 0, 0, 0, []) := rfl
theorem c_33_47 : mm_code 33 47 = some (Instr.aload_n 0, 1, 0, 0, 0, []) := rfl
theorem c_33_48 : mm_code 33 48 = some (Instr.getfield 21, 3, 0, 8, 3, [101]) := rfl
theorem c_33_51 : mm_code 33 51 = some (Instr.iload_n 3, 1, 0, 0, 0, []) := rfl
theorem c_33_52 : mm_code 33 52 = some (Instr.aload_n 2, 1, 0, 0, 0, []) := rfl
theorem c_33_53 : mm_code 33 53 = some (Instr.invokevirtual 45, 3, 7, 13, 0, [421, 332, 333, 57, 334]) := rfl
theorem c_33_56 : mm_code 33 56 = some (Instr.iastore, 1, 0, 0, 0, []) := rfl
theorem c_33_57 : mm_code 33 57 = some (Instr.iconst 0, 1, 0, 0, 0, []) := rfl
theorem c_33_58 : mm_code 33 58 = some (Instr.istore 4, 2, 0, 0, 0, []) := rfl
theorem c_33_60 : mm_code 33 60 = some (Instr.iload 4, 2, 0, 0, 0, []) := rfl
theorem c_33_62 : mm_code 33 62 = some (Instr.aload_n 2, 1, 0, 0, 0, []) := rfl
theorem c_33_63 : mm_code 33 63 = some (Instr.invokevirtual 45, 3, 7, 13, 0, [421, 332, 333, 57, 334]) := rfl
theorem c_33_66 : mm_code 33 66 = some (Instr.if_icmp .ge 26, 3, 0, 92, 0, []) := rfl
theorem c_33_69 : mm_code 33 69 = some (Instr.aload_n 0, 1, 0, 0, 0, []) := rfl
theorem c_33_70 : mm_code 33 70 = some (Instr.getfield 24, 3, 0, 8, 4, [102]) := rfl
set_option maxRecDepth 100000 in theorem c_33_73 : mm_code 33 73 = some (Instr.iload_n 3, 1, 0, 0, 0, []) := rfl
set_option maxRecDepth 100000 in theorem c_33_74 : mm_code 33 74 = some (Instr.iconst 4, 1, 4, 0, 0, []) := rfl
set_option maxRecDepth 100000 in theorem c_33_75 : mm_code 33 75 = some (Instr.imul, 1, 0, 0, 0, []) := rfl
set_option maxRecDepth 100000 in theorem c_33_76 : mm_code 33 76 = some (Instr.iload 4, 2, 0, 0, 0, []) := rfl
set_option maxRecDepth 100000 in theorem c_33_78 : mm_code 33 78 = some (Instr.iadd, 1, 0, 0, 0, []) := rfl
set_option maxRecDepth 100000 in theorem c_33_79 : mm_code 33 79 = some (Instr.aload_n 2, 1, 0, 0, 0, []) := rfl
set_option maxRecDepth 100000 in theorem c_33_80 : mm_code 33 80 = some (Instr.iload 4, 2, 0, 0, 0, []) := rfl
set_option maxRecDepth 100000 in theorem c_33_82 : mm_code 33 82 = some (Instr.invokevirtual 51, 3, 7, 17, 1, [422, 350, 351, 57, 352]) := rfl
set_option maxRecDepth 100000 in theorem c_33_85 : mm_code 33 85 = some (Instr.iastore, 1, 0, 0, 0, []) := rfl
set_option maxRecDepth 100000 in theorem c_33_86 : mm_code 33 86 = some (Instr.iinc 4 1, 3, 0, 0, 0, []) := rfl
set_option maxRecDepth 100000 in theorem c_33_89 : mm_code 33 89 = some (Instr.goto (-29), 3, 0, 60, 0, []) := rfl
set_option maxRecDepth 100000 in theorem c_33_92 : mm_code 33 92 = some (Instr.iconst 1, 1, 1, 0, 0, []) := rfl
set_option maxRecDepth 100000 in theorem c_33_93 : mm_code 33 93 = some (Instr.ireturn, 1, 0, 0, 0, []) := rfl
theorem c_34_0 : mm_code 34 0 = some (Instr.aload_n 0, 1, 0, 0, 0, []) := rfl
theorem c_34_1 : mm_code 34 1 = some (Instr.getfield 37, 3, 0, 9, 5, [297]) := rfl
theorem c_34_4 : mm_code 34 4 = some (Instr.iload_n 1, 1, 0, 0, 0, []) := rfl
theorem c_34_5 : mm_code 34 5 = some (Instr.iload_n 2, 1, 0, 0, 0, []) := rfl
theorem c_34_6 : mm_code 34 6 = some (Instr.iload_n 3, 1, 0, 0, 0, []) := rfl
theorem c_34_7 : mm_code 34 7 = some (Instr.iload 4, 2, 0, 0, 0, []) := rfl
theorem c_34_9 : mm_code 34 9 = some (Instr.invokevirtual 120, 3, 4, 35, 4, [427, 428, 429, 59, 430]) := rfl
theorem c_34_12 : mm_code 34 12 = some (Instr.ireturn, 1, 0, 0, 0, []) := rfl
theorem c_35_0 : mm_code 35 0 = some (Instr.iload_n 1, 1, 0, 0, 0, []) := rfl
theorem c_35_1 : mm_code 35 1 = some (Instr.i2l, 1, 0, 0, 0, []) := rfl
theorem c_35_2 : mm_code 35 2 = some (Instr.invokestatic 29, 3, 0, 27, 1, [431, 391, 67, 392]) := rfl
theorem c_35_5 : mm_code 35 5 = some (Instr.ifCond .eq 19, 3, 0, 24, 0, []) := rfl
theorem c_35_8 : mm_code 35 8 = some (Instr.iload_n 2, 1, 0, 0, 0, []) := rfl
theorem c_35_9 : mm_code 35 9 = some (Instr.iload_n 1, 1, 0, 0, 0, []) := rfl
theorem c_35_10 : mm_code 35 10 = some (Instr.invokestatic 35, 3, 0, 36, 2, [432, 433, 59, 434]) := rfl
theorem c_35_13 : mm_code 35 13 = some (Instr.ifCond .eq 11, 3, 0, 24, 0, []) := rfl
theorem c_35_16 : mm_code 35 16 = some (Instr.iload_n 3, 1, 0, 0, 0, []) := rfl
theorem c_35_17 : mm_code 35 17 = some (Instr.iload_n 1, 1, 0, 0, 0, []) := rfl
theorem c_35_18 : mm_code 35 18 = some (Instr.invokestatic 35, 3, 0, 36, 2, [432, 433, 59, 434]) := rfl
theorem c_35_21 : mm_code 35 21 = some (Instr.ifCond .ne 6, 3, 0, 27, 0, []) := rfl
theorem c_35_24 : mm_code 35 24 = some (Instr.bipush (-2), 2, (-2), 0, 0, []) := rfl
theorem c_35_26 : mm_code 35 26 = some (Instr.ireturn, 1, 0, 0, 0, []) := rfl
theorem c_35_27 : mm_code 35 27 = some (Instr.iload_n 2, 1, 0, 0, 0, []) := rfl
theorem c_35_28 : mm_code 35 28 = some (Instr.ifCond .eq 17, 3, 0, 45, 0, []) := rfl
theorem c_35_31 : mm_code 35 31 = some (Instr.iload_n 1, 1, 0, 0, 0, []) := rfl
theorem c_35_32 : mm_code 35 32 = some (Instr.sipush 128, 3, 128, 0, 0, []) := rfl
theorem c_35_35 : mm_code 35 35 = some (Instr.if_icmp .lt 10, 3, 0, 45, 0, []) := rfl
theorem c_35_38 : mm_code 35 38 = some (Instr.iload_n 1, 1, 0, 0, 0, []) := rfl
theorem c_35_39 : mm_code 35 39 = some (Instr.invokestatic 39, 3, 0, 37, 1, [435, 436, 59, 437]) := rfl
theorem c_35_42 : mm_code 35 42 = some (Instr.ifCond .eq 6, 3, 0, 48, 0, []) := rfl
theorem c_35_45 : mm_code 35 45 = some (Instr.bipush (-2), 2, (-2), 0, 0, []) := rfl
theorem c_35_47 : mm_code 35 47 = some (Instr.ireturn, 1, 0, 0, 0, []) := rfl
theorem c_35_48 : mm_code 35 48 = some (Instr.aload_n 0, 1, 0, 0, 0, []) := rfl
theorem c_35_49 : mm_code 35 49 = some (Instr.iload_n 1, 1, 0, 0, 0, []) := rfl
theorem c_35_50 : mm_code 35 50 = some (Instr.invokevirtual 43, 3, 4, 42, 1, [452, 453, 454, 59, 455]) := rfl
theorem c_35_53 : mm_code 35 53 = some (Instr.ifCond .ge 21, 3, 0, 74, 0, []) := rfl
theorem c_35_56 : mm_code 35 56 = some (Instr.iload_n 3, 1, 0, 0, 0, []) := rfl
theorem c_35_57 : mm_code 35 57 = some (Instr.ifCond .eq 20, 3, 0, 77, 0, []) := rfl
theorem c_35_60 : mm_code 35 60 = some (Instr.iload 4, 2, 0, 0, 0, []) := rfl
theorem c_35_62 : mm_code 35 62 = some (Instr.ifCond .ne 15, 3, 0, 77, 0, []) := rfl
theorem c_35_65 : mm_code 35 65 = some (Instr.aload_n 0, 1, 0, 0, 0, []) := rfl
theorem c_35_66 : mm_code 35 66 = some (Instr.iload_n 2, 1, 0, 0, 0, []) := rfl
theorem c_35_67 : mm_code 35 67 = some (Instr.iload_n 3, 1, 0, 0, 0, []) := rfl
theorem c_35_68 : mm_code 35 68 = some (Instr.invokevirtual 47, 3, 4, 43, 2, [456, 458, 1, 59, 459]) := rfl
theorem c_35_71 : mm_code 35 71 = some (Instr.ifCond .lt 6, 3, 0, 77, 0, []) := rfl
theorem c_35_74 : mm_code 35 74 = some (Instr.bipush (-3), 2, (-3), 0, 0, []) := rfl
theorem c_35_76 : mm_code 35 76 = some (Instr.ireturn, 1, 0, 0, 0, []) := rfl
theorem c_35_77 : mm_code 35 77 = some (Instr.aload_n 0, 1, 0, 0, 0, []) := rfl
theorem c_35_78 : mm_code 35 78 = some (Instr.getfield 25, 3, 0, 4, 4, [127]) := rfl
set_option maxRecDepth 100000 in theorem c_35_81 : mm_code 35 81 = some (Instr.bipush 100, 2, 100, 0, 0, []) := rfl
set_option maxRecDepth 100000 in theorem c_35_83 : mm_code 35 83 = some (Instr.if_icmp .lt 6, 3, 0, 89, 0, []) := rfl
set_option maxRecDepth 100000 in theorem c_35_86 : mm_code 35 86 = some (Instr.bipush (-4), 2, (-4), 0, 0, []) := rfl
set_option maxRecDepth 100000 in theorem c_35_88 : mm_code 35 88 = some (Instr.ireturn, 1, 0, 0, 0, []) := rfl
set_option maxRecDepth 100000 in theorem c_35_89 : mm_code 35 89 = some (Instr.aload_n 0, 1, 0, 0, 0, []) := rfl
set_option maxRecDepth 100000 in theorem c_35_90 : mm_code 35 90 = some (Instr.getfield 11, 3, 0, 4, 0, [123]) := rfl
set_option maxRecDepth 100000 in theorem c_35_93 : mm_code 35 93 = some (Instr.aload_n 0, 1, 0, 0, 0, []) := rfl
set_option maxRecDepth 100000 in theorem c_35_94 : mm_code 35 94 = some (Instr.getfield 25, 3, 0, 4, 4, [127]) := rfl
set_option maxRecDepth 100000 in theorem c_35_97 : mm_code 35 97 = some (Instr.iload_n 1, 1, 0, 0, 0, []) := rfl
set_option maxRecDepth 100000 in theorem c_35_98 : mm_code 35 98 = some (Instr.iastore, 1, 0, 0, 0, []) := rfl
set_option maxRecDepth 100000 in theorem c_35_99 : mm_code 35 99 = some (Instr.aload_n 0, 1, 0, 0, 0, []) := rfl
set_option maxRecDepth 100000 in theorem c_35_100 : mm_code 35 100 = some (Instr.getfield 15, 3, 0, 4, 1, [124]) := rfl
set_option maxRecDepth 100000 in theorem c_35_103 : mm_code 35 103 = some (Instr.aload_n 0, 1, 0, 0, 0, []) := rfl
set_option maxRecDepth 100000 in theorem c_35_104 : mm_code 35 104 = some (Instr.getfield 25, 3, 0, 4, 4, [127]) := rfl
set_option maxRecDepth 100000 in theorem c_35_107 : mm_code 35 107 = some (Instr.iload_n 2, 1, 0, 0, 0, []) := rfl
set_option maxRecDepth 100000 in theorem c_35_108 : mm_code 35 108 = some (Instr.iastore, 1, 0, 0, 0, []) := rfl
set_option maxRecDepth 100000 in theorem c_35_109 : mm_code 35 109 = some (Instr.aload_n 0, 1, 0, 0, 0, []) := rfl
set_option maxRecDepth 100000 in theorem c_35_110 : mm_code 35 110 = some (Instr.getfield 18, 3, 0, 4, 2, [125]) := rfl
set_option maxRecDepth 100000 in theorem c_35_113 : mm_code 35 113 = some (Instr.aload_n 0, 1, 0, 0, 0, []) := rfl
set_option maxRecDepth 100000 in theorem c_35_114 : mm_code 35 114 = some (Instr.getfield 25, 3, 0, 4, 4, [127]) := rfl
set_option maxRecDepth 100000 in theorem c_35_117 : mm_code 35 117 = some (Instr.iload_n 3, 1, 0, 0, 0, []) := rfl
set_option maxRecDepth 100000 in theorem c_35_118 : mm_code 35 118 = some (Instr.iastore, 1, 0, 0, 0, []) := rfl
set_option maxRecDepth 100000 in theorem c_35_119 : mm_code 35 119 = some (Instr.aload_n 0, 1, 0, 0, 0, []) := rfl
set_option maxRecDepth 100000 in theorem c_35_120 : mm_code 35 120 = some (Instr.getfield 21, 3, 0, 4, 3, [126]) := rfl
set_option maxRecDepth 100000 in theorem c_35_123 : mm_code 35 123 = some (Instr.aload_n 0, 1, 0, 0, 0, []) := rfl
set_option maxRecDepth 100000 in theorem c_35_124 : mm_code 35 124 = some (Instr.getfield 25, 3, 0, 4, 4, [127]) := rfl
set_option maxRecDepth 100000 in theorem c_35_127 : mm_code 35 127 = some (Instr.iload 4, 2, 0, 0, 0, []) := rfl
set_option maxRecDepth 100000 in theorem c_35_129 : mm_code 35 129 = some (Instr.bastore, 1, 0, 0, 0, []) := rfl
set_option maxRecDepth 100000 in theorem c_35_130 : mm_code 35 130 = some (Instr.aload_n 0, 1, 0, 0, 0, []) := rfl
set_option maxRecDepth 100000 in theorem c_35_131 : mm_code 35 131 = some (Instr.dup, 1, 0, 0, 0, []) := rfl
set_option maxRecDepth 100000 in theorem c_35_132 : mm_code 35 132 = some (Instr.getfield 25, 3, 0, 4, 4, [127]) := rfl
set_option maxRecDepth 100000 in theorem c_35_135 : mm_code 35 135 = some (Instr.iconst 1, 1, 1, 0, 0, []) := rfl
set_option maxRecDepth 100000 in theorem c_35_136 : mm_code 35 136 = some (Instr.iadd, 1, 0, 0, 0, []) := rfl
set_option maxRecDepth 100000 in theorem c_35_137 : mm_code 35 137 = some (Instr.putfield 25, 3, 1, 4, 4, [127]) := rfl
set_option maxRecDepth 100000 in theorem c_35_140 : mm_code 35 140 = some (Instr.aload_n 0, 1, 0, 0, 0, []) := rfl
set_option maxRecDepth 100000 in theorem c_35_141 : mm_code 35 141 = some (Instr.getfield 25, 3, 0, 4, 4, [127]) := rfl
set_option maxRecDepth 100000 in theorem c_35_144 : mm_code 35 144 = some (Instr.ireturn, 1, 0, 0, 0, []) := rfl
theorem c_36_0 : mm_code 36 0 = some (Instr.iload_n 0, 1, 0, 0, 0, []) := rfl
theorem c_36_1 : mm_code 36 1 = some (Instr.i2l, 1, 0, 0, 0, []) := rfl
theorem c_36_2 : mm_code 36 2 = some (Instr.invokestatic 29, 3, 0, 27, 1, [431, 391, 67, 392]) := rfl
theorem c_36_5 : mm_code 36 5 = some (Instr.ifCond .eq 19, 3, 0, 24, 0, []) := rfl
theorem c_36_8 : mm_code 36 8 = some (Instr.iload_n 0, 1, 0, 0, 0, []) := rfl
theorem c_36_9 : mm_code 36 9 = some (Instr.iload_n 1, 1, 0, 0, 0, []) := rfl
theorem c_36_10 : mm_code 36 10 = some (Instr.if_icmp .ge 14, 3, 0, 24, 0, []) := rfl
theorem c_36_13 : mm_code 36 13 = some (Instr.iload_n 0, 1, 0, 0, 0, []) := rfl
theorem c_36_14 : mm_code 36 14 = some (Instr.invokestatic 39, 3, 0, 37, 1, [435, 436, 59, 437]) := rfl
theorem c_36_17 : mm_code 36 17 = some (Instr.ifCond .ne 7, 3, 0, 24, 0, []) := rfl
theorem c_36_20 : mm_code 36 20 = some (Instr.iconst 1, 1, 1, 0, 0, []) := rfl
theorem c_36_21 : mm_code 36 21 = some (Instr.goto 4, 3, 0, 25, 0, []) := rfl
theorem c_36_24 : mm_code 36 24 = some (Instr.iconst 0, 1, 0, 0, 0, []) := rfl
theorem c_36_25 : mm_code 36 25 = some (Instr.ireturn, 1, 1, 0, 0, []) := rfl
theorem c_37_0 : mm_code 37 0 = some (Instr.iload_n 0, 1, 0, 0, 0, []) := rfl
theorem c_37_1 : mm_code 37 1 = some (Instr.invokestatic 51, 3, 0, 38, 1, [438, 439, 59, 440]) := rfl
theorem c_37_4 : mm_code 37 4 = some (Instr.ifCond .ne 24, 3, 0, 28, 0, []) := rfl
theorem c_37_7 : mm_code 37 7 = some (Instr.iload_n 0, 1, 0, 0, 0, []) := rfl
theorem c_37_8 : mm_code 37 8 = some (Instr.invokestatic 54, 3, 0, 39, 1, [443, 444, 59, 445]) := rfl
theorem c_37_11 : mm_code 37 11 = some (Instr.ifCond .ne 17, 3, 0, 28, 0, []) := rfl
theorem c_37_14 : mm_code 37 14 = some (Instr.iload_n 0, 1, 0, 0, 0, []) := rfl
theorem c_37_15 : mm_code 37 15 = some (Instr.invokestatic 57, 3, 0, 40, 1, [446, 447, 59, 448]) := rfl
theorem c_37_18 : mm_code 37 18 = some (Instr.ifCond .ne 10, 3, 0, 28, 0, []) := rfl
theorem c_37_21 : mm_code 37 21 = some (Instr.iload_n 0, 1, 0, 0, 0, []) := rfl
theorem c_37_22 : mm_code 37 22 = some (Instr.invokestatic 60, 3, 0, 41, 1, [449, 450, 59, 451]) := rfl
theorem c_37_25 : mm_code 37 25 = some (Instr.ifCond .eq 7, 3, 0, 32, 0, []) := rfl
theorem c_37_28 : mm_code 37 28 = some (Instr.iconst 1, 1, 1, 0, 0, []) := rfl
theorem c_37_29 : mm_code 37 29 = some (Instr.goto 4, 3, 0, 33, 0, []) := rfl
theorem c_37_32 : mm_code 37 32 = some (Instr.iconst 0, 1, 0, 0, 0, []) := rfl
theorem c_37_33 : mm_code 37 33 = some (Instr.ireturn, 1, 1, 0, 0, []) := rfl
theorem c_38_0 : mm_code 38 0 = some (Instr.iload_n 0, 1, 0, 0, 0, []) := rfl
theorem c_38_1 : mm_code 38 1 = some (Instr.ldc 63, 2, 44032, 0, 0, [441]) := rfl
theorem c_38_3 : mm_code 38 3 = some (Instr.if_icmp .lt 13, 3, 0, 16, 0, []) := rfl
theorem c_38_6 : mm_code 38 6 = some (Instr.iload_n 0, 1, 0, 0, 0, []) := rfl
theorem c_38_7 : mm_code 38 7 = some (Instr.ldc 64, 2, 55203, 0, 0, [442]) := rfl
theorem c_38_9 : mm_code 38 9 = some (Instr.if_icmp .gt 7, 3, 0, 16, 0, []) := rfl
theorem c_38_12 : mm_code 38 12 = some (Instr.iconst 1, 1, 1, 0, 0, []) := rfl
theorem c_38_13 : mm_code 38 13 = some (Instr.goto 4, 3, 0, 17, 0, []) := rfl
theorem c_38_16 : mm_code 38 16 = some (Instr.iconst 0, 1, 0, 0, 0, []) := rfl
theorem c_38_17 : mm_code 38 17 = some (Instr.ireturn, 1, 1, 0, 0, []) := rfl
theorem c_39_0 : mm_code 39 0 = some (Instr.iload_n 0, 1, 0, 0, 0, []) := rfl
theorem c_39_1 : mm_code 39 1 = some (Instr.sipush 4352, 3, 4352, 0, 0, []) := rfl
theorem c_39_4 : mm_code 39 4 = some (Instr.if_icmp .lt 14, 3, 0, 18, 0, []) := rfl
theorem c_39_7 : mm_code 39 7 = some (Instr.iload_n 0, 1, 0, 0, 0, []) := rfl
theorem c_39_8 : mm_code 39 8 = some (Instr.sipush 4370, 3, 4370, 0, 0, []) := rfl
theorem c_39_11 : mm_code 39 11 = some (Instr.if_icmp .gt 7, 3, 0, 18, 0, []) := rfl
theorem c_39_14 : mm_code 39 14 = some (Instr.iconst 1, 1, 1, 0, 0, []) := rfl
theorem c_39_15 : mm_code 39 15 = some (Instr.goto 4, 3, 0, 19, 0, []) := rfl
theorem c_39_18 : mm_code 39 18 = some (Instr.iconst 0, 1, 0, 0, 0, []) := rfl
theorem c_39_19 : mm_code 39 19 = some (Instr.ireturn, 1, 1, 0, 0, []) := rfl
theorem c_40_0 : mm_code 40 0 = some (Instr.iload_n 0, 1, 0, 0, 0, []) := rfl
theorem c_40_1 : mm_code 40 1 = some (Instr.sipush 4449, 3, 4449, 0, 0, []) := rfl
theorem c_40_4 : mm_code 40 4 = some (Instr.if_icmp .lt 14, 3, 0, 18, 0, []) := rfl
theorem c_40_7 : mm_code 40 7 = some (Instr.iload_n 0, 1, 0, 0, 0, []) := rfl
theorem c_40_8 : mm_code 40 8 = some (Instr.sipush 4469, 3, 4469, 0, 0, []) := rfl
theorem c_40_11 : mm_code 40 11 = some (Instr.if_icmp .gt 7, 3, 0, 18, 0, []) := rfl
theorem c_40_14 : mm_code 40 14 = some (Instr.iconst 1, 1, 1, 0, 0, []) := rfl
theorem c_40_15 : mm_code 40 15 = some (Instr.goto 4, 3, 0, 19, 0, []) := rfl
theorem c_40_18 : mm_code 40 18 = some (Instr.iconst 0, 1, 0, 0, 0, []) := rfl
theorem c_40_19 : mm_code 40 19 = some (Instr.ireturn, 1, 1, 0, 0, []) := rfl
theorem c_41_0 : mm_code 41 0 = some (Instr.iload_n 0, 1, 0, 0, 0, []) := rfl
theorem c_41_1 : mm_code 41 1 = some (Instr.sipush 4519, 3, 4519, 0, 0, []) := rfl
theorem c_41_4 : mm_code 41 4 = some (Instr.if_icmp .le 14, 3, 0, 18, 0, []) := rfl
theorem c_41_7 : mm_code 41 7 = some (Instr.iload_n 0, 1, 0, 0, 0, []) := rfl
theorem c_41_8 : mm_code 41 8 = some (Instr.sipush 4546, 3, 4546, 0, 0, []) := rfl
theorem c_41_11 : mm_code 41 11 = some (Instr.if_icmp .gt 7, 3, 0, 18, 0, []) := rfl
theorem c_41_14 : mm_code 41 14 = some (Instr.iconst 1, 1, 1, 0, 0, []) := rfl
theorem c_41_15 : mm_code 41 15 = some (Instr.goto 4, 3, 0, 19, 0, []) := rfl
theorem c_41_18 : mm_code 41 18 = some (Instr.iconst 0, 1, 0, 0, 0, []) := rfl
theorem c_41_19 : mm_code 41 19 = some (Instr.ireturn, 1, 1, 0, 0, []) := rfl
theorem c_42_0 : mm_code 42 0 = some (Instr.iload_n 1, 1, 0, 0, 0, []) := rfl
theorem c_42_1 : mm_code 42 1 = some (Instr.sipush 128, 3, 128, 0, 0, []) := rfl
theorem c_42_4 : mm_code 42 4 = some (Instr.if_icmp .ge 5, 3, 0, 9, 0, []) := rfl
theorem c_42_7 : mm_code 42 7 = some (Instr.iconst (-1), 1, (-1), 0, 0, []) := rfl
theorem c_42_8 : mm_code 42 8 = some (Instr.ireturn, 1, 0, 0, 0, []) := rfl
theorem c_42_9 : mm_code 42 9 = some (Instr.iconst 0, 1, 0, 0, 0, []) := rfl
theorem c_42_10 : mm_code 42 10 = some (Instr.istore_n 2, 1, 0, 0, 0, []) := rfl
theorem c_42_11 : mm_code 42 11 = some (Instr.iload_n 2, 1, 0, 0, 0, []) := rfl
theorem c_42_12 : mm_code 42 12 = some (Instr.aload_n 0, 1, 0, 0, 0, []) := rfl
theorem c_42_13 : mm_code 42 13 = some (Instr.getfield 25, 3, 0, 4, 4, [127]) := rfl
theorem c_42_16 : mm_code 42 16 = some (Instr.if_icmp .ge 21, 3, 0, 37, 0, []) := rfl
theorem c_42_19 : mm_code 42 19 = some (Instr.aload_n 0, 1, 0, 0, 0, []) := rfl
theorem c_42_20 : mm_code 42 20 = some (Instr.getfield 11, 3, 0, 4, 0, [123]) := rfl
theorem c_42_23 : mm_code 42 23 = some (Instr.iload_n 2, 1, 0, 0, 0, []) := rfl
theorem c_42_24 : mm_code 42 24 = some (Instr.iaload, 1, 0, 0, 0, []) := rfl
theorem c_42_25 : mm_code 42 25 = some (Instr.iload_n 1, 1, 0, 0, 0, []) := rfl
theorem c_42_26 : mm_code 42 26 = some (Instr.if_icmp .ne 5, 3, 0, 31, 0, []) := rfl
theorem c_42_29 : mm_code 42 29 = some (Instr.iload_n 2, 1, 0, 0, 0, []) := rfl
theorem c_42_30 : mm_code 42 30 = some (Instr.ireturn, 1, 0, 0, 0, []) := rfl
theorem c_42_31 : mm_code 42 31 = some (Instr.iinc 2 1, 3, 0, 0, 0, []) := rfl
theorem c_42_34 : mm_code 42 34 = some (Instr.goto (-23), 3, 0, 11, 0, []) := rfl
theorem c_42_37 : mm_code 42 37 = some (Instr.iconst (-1), 1, (-1), 0, 0, []) := rfl
theorem c_42_38 : mm_code 42 38 = some (Instr.ireturn, 1, 0, 0, 0, []) := rfl
theorem c_43_0 : mm_code 43 0 = some (Instr.iconst 0, 1, 0, 0, 0, []) := rfl
theorem c_43_1 : mm_code 43 1 = some (Instr.istore_n 3, 1, 0, 0, 0, []) := rfl
theorem c_43_2 : mm_code 43 2 = some (Instr.iload_n 3, 1, 0, 0, 0, []) := rfl
theorem c_43_3 : mm_code 43 3 = some (Instr.aload_n 0, 1, 0, 0, 0, []) := rfl
theorem c_43_4 : mm_code 43 4 = some (Instr.getfield 25, 3, 0, 4, 4, [127]) := rfl
theorem c_43_7 : mm_code 43 7 = some (Instr.if_icmp .ge 40, 3, 0, 47, 0, []) := rfl
theorem c_43_10 : mm_code 43 10 = some (Instr.aload_n 0, 1, 0, 0, 0, []) := rfl
theorem c_43_11 : mm_code 43 11 = some (Instr.getfield 15, 3, 0, 4, 1, [124]) := rfl
theorem c_43_14 : mm_code 43 14 = some (Instr.iload_n 3, 1, 0, 0, 0, []) := rfl
theorem c_43_15 : mm_code 43 15 = some (Instr.iaload, 1, 0, 0, 0, []) := rfl
theorem c_43_16 : mm_code 43 16 = some (Instr.iload_n 1, 1, 0, 0, 0, []) := rfl
theorem c_43_17 : mm_code 43 17 = some (Instr.if_icmp .ne 24, 3, 0, 41, 0, []) := rfl
theorem c_43_20 : mm_code 43 20 = some (Instr.aload_n 0, 1, 0, 0, 0, []) := rfl
theorem c_43_21 : mm_code 43 21 = some (Instr.getfield 18, 3, 0, 4, 2, [125]) := rfl
theorem c_43_24 : mm_code 43 24 = some (Instr.iload_n 3, 1, 0, 0, 0, []) := rfl
theorem c_43_25 : mm_code 43 25 = some (Instr.iaload, 1, 0, 0, 0, []) := rfl
theorem c_43_26 : mm_code 43 26 = some (Instr.iload_n 2, 1, 0, 0, 0, []) := rfl
theorem c_43_27 : mm_code 43 27 = some (Instr.if_icmp .ne 14, 3, 0, 41, 0, []) := rfl
theorem c_43_30 : mm_code 43 30 = some (Instr.aload_n 0, 1, 0, 0, 0, []) := rfl
theorem c_43_31 : mm_code 43 31 = some (Instr.getfield 21, 3, 0, 4, 3, [126]) := rfl
theorem c_43_34 : mm_code 43 34 = some (Instr.iload_n 3, 1, 0, 0, 0, []) := rfl
theorem c_43_35 : mm_code 43 35 = some (Instr.baload, 1, 0, 0, 0, []) := rfl
theorem c_43_36 : mm_code 43 36 = some (Instr.ifCond .ne 5, 3, 0, 41, 0, []) := rfl
theorem c_43_39 : mm_code 43 39 = some (Instr.iload_n 3, 1, 0, 0, 0, []) := rfl
theorem c_43_40 : mm_code 43 40 = some (Instr.ireturn, 1, 0, 0, 0, []) := rfl
theorem c_43_41 : mm_code 43 41 = some (Instr.iinc 3 1, 3, 0, 0, 0, []) := rfl
theorem c_43_44 : mm_code 43 44 = some (Instr.goto (-42), 3, 0, 2, 0, []) := rfl
theorem c_43_47 : mm_code 43 47 = some (Instr.iconst (-1), 1, (-1), 0, 0, []) := rfl
theorem c_43_48 : mm_code 43 48 = some (Instr.ireturn, 1, 0, 0, 0, []) := rfl
theorem c_44_0 : mm_code 44 0 = some (Instr.aload_n 0, 1, 0, 0, 0, []) := rfl
theorem c_44_1 : mm_code 44 1 = some (Instr.getfield 44, 3, 0, 9, 6, [298]) := rfl
theorem c_44_4 : mm_code 44 4 = some (Instr.iload_n 1, 1, 0, 0, 0, []) := rfl
theorem c_44_5 : mm_code 44 5 = some (Instr.iload_n 2, 1, 0, 0, 0, []) := rfl
theorem c_44_6 : mm_code 44 6 = some (Instr.invokevirtual 123, 3, 6, 45, 2, [464, 465, 466, 60, 467]) := rfl
theorem c_44_9 : mm_code 44 9 = some (Instr.ireturn, 1, 0, 0, 0, []) := rfl
theorem c_45_0 : mm_code 45 0 = some (Instr.iload_n 1, 1, 0, 0, 0, []) := rfl
theorem c_45_1 : mm_code 45 1 = some (Instr.i2l, 1, 0, 0, 0, []) := rfl
theorem c_45_2 : mm_code 45 2 = some (Instr.invokestatic 22, 3, 0, 27, 1, [468, 391, 67, 392]) := rfl
theorem c_45_5 : mm_code 45 5 = some (Instr.ifCond .eq 21, 3, 0, 26, 0, []) := rfl
theorem c_45_8 : mm_code 45 8 = some (Instr.iload_n 1, 1, 0, 0, 0, []) := rfl
theorem c_45_9 : mm_code 45 9 = some (Instr.sipush 128, 3, 128, 0, 0, []) := rfl
theorem c_45_12 : mm_code 45 12 = some (Instr.if_icmp .lt 14, 3, 0, 26, 0, []) := rfl
theorem c_45_15 : mm_code 45 15 = some (Instr.iload_n 2, 1, 0, 0, 0, []) := rfl
theorem c_45_16 : mm_code 45 16 = some (Instr.ifCond .lt 10, 3, 0, 26, 0, []) := rfl
theorem c_45_19 : mm_code 45 19 = some (Instr.iload_n 2, 1, 0, 0, 0, []) := rfl
theorem c_45_20 : mm_code 45 20 = some (Instr.sipush 254, 3, 254, 0, 0, []) := rfl
theorem c_45_23 : mm_code 45 23 = some (Instr.if_icmp .le 6, 3, 0, 29, 0, []) := rfl
theorem c_45_26 : mm_code 45 26 = some (Instr.bipush (-2), 2, (-2), 0, 0, []) := rfl
theorem c_45_28 : mm_code 45 28 = some (Instr.ireturn, 1, 0, 0, 0, []) := rfl
theorem c_45_29 : mm_code 45 29 = some (Instr.aload_n 0, 1, 0, 0, 0, []) := rfl
theorem c_45_30 : mm_code 45 30 = some (Instr.iload_n 1, 1, 0, 0, 0, []) := rfl
theorem c_45_31 : mm_code 45 31 = some (Instr.invokevirtual 28, 3, 6, 46, 1, [469, 471, 2, 60, 472]) := rfl
theorem c_45_34 : mm_code 45 34 = some (Instr.istore_n 3, 1, 0, 0, 0, []) := rfl
theorem c_45_35 : mm_code 45 35 = some (Instr.iload_n 3, 1, 0, 0, 0, []) := rfl
theorem c_45_36 : mm_code 45 36 = some (Instr.ifCond .lt 21, 3, 0, 57, 0, []) := rfl
theorem c_45_39 : mm_code 45 39 = some (Instr.aload_n 0, 1, 0, 0, 0, []) := rfl
theorem c_45_40 : mm_code 45 40 = some (Instr.getfield 15, 3, 0, 6, 1, [147]) := rfl
theorem c_45_43 : mm_code 45 43 = some (Instr.iload_n 3, 1, 0, 0, 0, []) := rfl
theorem c_45_44 : mm_code 45 44 = some (Instr.iaload, 1, 0, 0, 0, []) := rfl
theorem c_45_45 : mm_code 45 45 = some (Instr.istore 4, 2, 0, 0, 0, []) := rfl
theorem c_45_47 : mm_code 45 47 = some (Instr.aload_n 0, 1, 0, 0, 0, []) := rfl
theorem c_45_48 : mm_code 45 48 = some (Instr.getfield 15, 3, 0, 6, 1, [147]) := rfl
theorem c_45_51 : mm_code 45 51 = some (Instr.iload_n 3, 1, 0, 0, 0, []) := rfl
theorem c_45_52 : mm_code 45 52 = some (Instr.iload_n 2, 1, 0, 0, 0, []) := rfl
theorem c_45_53 : mm_code 45 53 = some (Instr.iastore, 1, 0, 0, 0, []) := rfl
theorem c_45_54 : mm_code 45 54 = some (Instr.iload 4, 2, 0, 0, 0, []) := rfl
theorem c_45_56 : mm_code 45 56 = some (Instr.ireturn, 1, 0, 0, 0, []) := rfl
theorem c_45_57 : mm_code 45 57 = some (Instr.aload_n 0, 1, 0, 0, 0, []) := rfl
theorem c_45_58 : mm_code 45 58 = some (Instr.getfield 18, 3, 0, 6, 2, [148]) := rfl
theorem c_45_61 : mm_code 45 61 = some (Instr.bipush 100, 2, 100, 0, 0, []) := rfl
theorem c_45_63 : mm_code 45 63 = some (Instr.if_icmp .lt 6, 3, 0, 69, 0, []) := rfl
theorem c_45_66 : mm_code 45 66 = some (Instr.bipush (-4), 2, (-4), 0, 0, []) := rfl
theorem c_45_68 : mm_code 45 68 = some (Instr.ireturn, 1, 0, 0, 0, []) := rfl
theorem c_45_69 : mm_code 45 69 = some (Instr.aload_n 0, 1, 0, 0, 0, []) := rfl
theorem c_45_70 : mm_code 45 70 = some (Instr.getfield 11, 3, 0, 6, 0, [146]) := rfl
theorem c_45_73 : mm_code 45 73 = some (Instr.aload_n 0, 1, 0, 0, 0, []) := rfl
set_option maxRecDepth 100000 in theorem c_45_74 : mm_code 45 74 = some (Instr.getfield 18, 3, 0, 6, 2, [148]) := rfl
set_option maxRecDepth 100000 in theorem c_45_77 : mm_code 45 77 = some (Instr.iload_n 1, 1, 0, 0, 0, []) := rfl
set_option maxRecDepth 100000 in theorem c_45_78 : mm_code 45 78 = some (Instr.iastore, 1, 0, 0, 0, []) := rfl
set_option maxRecDepth 100000 in theorem c_45_79 : mm_code 45 79 = some (Instr.aload_n 0, 1, 0, 0, 0, []) := rfl
set_option maxRecDepth 100000 in theorem c_45_80 : mm_code 45 80 = some (Instr.getfield 15, 3, 0, 6, 1, [147]) := rfl
set_option maxRecDepth 100000 in theorem c_45_83 : mm_code 45 83 = some (Instr.aload_n 0, 1, 0, 0, 0, []) := rfl
set_option maxRecDepth 100000 in theorem c_45_84 : mm_code 45 84 = some (Instr.getfield 18, 3, 0, 6, 2, [148]) := rfl
set_option maxRecDepth 100000 in theorem c_45_87 : mm_code 45 87 = some (Instr.iload_n 2, 1, 0, 0, 0, []) := rfl
set_option maxRecDepth 100000 in theorem c_45_88 : mm_code 45 88 = some (Instr.iastore, 1, 0, 0, 0, []) := rfl
set_option maxRecDepth 100000 in theorem c_45_89 : mm_code 45 89 = some (Instr.aload_n 0, 1, 0, 0, 0, []) := rfl
set_option maxRecDepth 100000 in theorem c_45_90 : mm_code 45 90 = some (Instr.dup, 1, 0, 0, 0, []) := rfl
set_option maxRecDepth 100000 in theorem c_45_91 : mm_code 45 91 = some (Instr.getfield 18, 3, 0, 6, 2, [148]) := rfl
set_option maxRecDepth 100000 in theorem c_45_94 : mm_code 45 94 = some (Instr.iconst 1, 1, 1, 0, 0, []) := rfl
set_option maxRecDepth 100000 in theorem c_45_95 : mm_code 45 95 = some (Instr.iadd, 1, 0, 0, 0, []) := rfl
set_option maxRecDepth 100000 in theorem c_45_96 : mm_code 45 96 = some (Instr.putfield 18, 3, 1, 6, 2, [148]) := rfl
set_option maxRecDepth 100000 in theorem c_45_99 : mm_code 45 99 = some (Instr.iconst 0, 1, 0, 0, 0, []) := rfl
set_option maxRecDepth 100000 in theorem c_45_100 : mm_code 45 100 = some (Instr.ireturn, 1, 0, 0, 0, []) := rfl
theorem c_46_0 : mm_code 46 0 = some (Instr.iload_n 1, 1, 0, 0, 0, []) := rfl
theorem c_46_1 : mm_code 46 1 = some (Instr.sipush 128, 3, 128, 0, 0, []) := rfl
theorem c_46_4 : mm_code 46 4 = some (Instr.if_icmp .ge 5, 3, 0, 9, 0, []) := rfl
theorem c_46_7 : mm_code 46 7 = some (Instr.iconst (-1), 1, (-1), 0, 0, []) := rfl
theorem c_46_8 : mm_code 46 8 = some (Instr.ireturn, 1, 0, 0, 0, []) := rfl
theorem c_46_9 : mm_code 46 9 = some (Instr.iconst 0, 1, 0, 0, 0, []) := rfl
theorem c_46_10 : mm_code 46 10 = some (Instr.istore_n 2, 1, 0, 0, 0, []) := rfl
theorem c_46_11 : mm_code 46 11 = some (Instr.iload_n 2, 1, 0, 0, 0, []) := rfl
theorem c_46_12 : mm_code 46 12 = some (Instr.aload_n 0, 1, 0, 0, 0, []) := rfl
theorem c_46_13 : mm_code 46 13 = some (Instr.getfield 18, 3, 0, 6, 2, [148]) := rfl
theorem c_46_16 : mm_code 46 16 = some (Instr.if_icmp .ge 21, 3, 0, 37, 0, []) := rfl
theorem c_46_19 : mm_code 46 19 = some (Instr.aload_n 0, 1, 0, 0, 0, []) := rfl
theorem c_46_20 : mm_code 46 20 = some (Instr.getfield 11, 3, 0, 6, 0, [146]) := rfl
theorem c_46_23 : mm_code 46 23 = some (Instr.iload_n 2, 1, 0, 0, 0, []) := rfl
theorem c_46_24 : mm_code 46 24 = some (Instr.iaload, 1, 0, 0, 0, []) := rfl
theorem c_46_25 : mm_code 46 25 = some (Instr.iload_n 1, 1, 0, 0, 0, []) := rfl
theorem c_46_26 : mm_code 46 26 = some (Instr.if_icmp .ne 5, 3, 0, 31, 0, []) := rfl
theorem c_46_29 : mm_code 46 29 = some (Instr.iload_n 2, 1, 0, 0, 0, []) := rfl
theorem c_46_30 : mm_code 46 30 = some (Instr.ireturn, 1, 0, 0, 0, []) := rfl
theorem c_46_31 : mm_code 46 31 = some (Instr.iinc 2 1, 3, 0, 0, 0, []) := rfl
theorem c_46_34 : mm_code 46 34 = some (Instr.goto (-23), 3, 0, 11, 0, []) := rfl
theorem c_46_37 : mm_code 46 37 = some (Instr.iconst (-1), 1, (-1), 0, 0, []) := rfl
theorem c_46_38 : mm_code 46 38 = some (Instr.ireturn, 1, 0, 0, 0, []) := rfl
theorem c_47_0 : mm_code 47 0 = some (Instr.aload_n 0, 1, 0, 0, 0, []) := rfl
theorem c_47_1 : mm_code 47 1 = some (Instr.getfield 51, 3, 0, 9, 7, [299]) := rfl
theorem c_47_4 : mm_code 47 4 = some (Instr.iload_n 1, 1, 0, 0, 0, []) := rfl
theorem c_47_5 : mm_code 47 5 = some (Instr.iload_n 2, 1, 0, 0, 0, []) := rfl
theorem c_47_6 : mm_code 47 6 = some (Instr.iload_n 3, 1, 0, 0, 0, []) := rfl
theorem c_47_7 : mm_code 47 7 = some (Instr.iload 4, 2, 0, 0, 0, []) := rfl
theorem c_47_9 : mm_code 47 9 = some (Instr.invokevirtual 126, 3, 5, 48, 4, [477, 478, 479, 61, 480]) := rfl
theorem c_47_12 : mm_code 47 12 = some (Instr.ireturn, 1, 0, 0, 0, []) := rfl
theorem c_48_0 : mm_code 48 0 = some (Instr.iload 4, 2, 0, 0, 0, []) := rfl
theorem c_48_2 : mm_code 48 2 = some (Instr.ifCond .lt 20, 3, 0, 22, 0, []) := rfl
theorem c_48_5 : mm_code 48 5 = some (Instr.iload 4, 2, 0, 0, 0, []) := rfl
theorem c_48_7 : mm_code 48 7 = some (Instr.iload_n 1, 1, 0, 0, 0, []) := rfl
theorem c_48_8 : mm_code 48 8 = some (Instr.invokestatic 28, 3, 0, 49, 1, [481, 482, 61, 483]) := rfl
theorem c_48_11 : mm_code 48 11 = some (Instr.if_icmp .gt 11, 3, 0, 22, 0, []) := rfl
theorem c_48_14 : mm_code 48 14 = some (Instr.iload_n 2, 1, 0, 0, 0, []) := rfl
theorem c_48_15 : mm_code 48 15 = some (Instr.iload_n 3, 1, 0, 0, 0, []) := rfl
theorem c_48_16 : mm_code 48 16 = some (Instr.invokestatic 32, 3, 0, 30, 2, [484, 405, 67, 406]) := rfl
theorem c_48_19 : mm_code 48 19 = some (Instr.ifCond .ne 6, 3, 0, 25, 0, []) := rfl
theorem c_48_22 : mm_code 48 22 = some (Instr.bipush (-2), 2, (-2), 0, 0, []) := rfl
theorem c_48_24 : mm_code 48 24 = some (Instr.ireturn, 1, 0, 0, 0, []) := rfl
theorem c_48_25 : mm_code 48 25 = some (Instr.aload_n 0, 1, 0, 0, 0, []) := rfl
theorem c_48_26 : mm_code 48 26 = some (Instr.getfield 24, 3, 0, 5, 4, [166]) := rfl
theorem c_48_29 : mm_code 48 29 = some (Instr.sipush 200, 3, 200, 0, 0, []) := rfl
theorem c_48_32 : mm_code 48 32 = some (Instr.if_icmp .lt 6, 3, 0, 38, 0, []) := rfl
theorem c_48_35 : mm_code 48 35 = some (Instr.bipush (-4), 2, (-4), 0, 0, []) := rfl
theorem c_48_37 : mm_code 48 37 = some (Instr.ireturn, 1, 0, 0, 0, []) := rfl
theorem c_48_38 : mm_code 48 38 = some (Instr.aload_n 0, 1, 0, 0, 0, []) := rfl
theorem c_48_39 : mm_code 48 39 = some (Instr.getfield 11, 3, 0, 5, 0, [162]) := rfl
theorem c_48_42 : mm_code 48 42 = some (Instr.aload_n 0, 1, 0, 0, 0, []) := rfl
theorem c_48_43 : mm_code 48 43 = some (Instr.getfield 24, 3, 0, 5, 4, [166]) := rfl
theorem c_48_46 : mm_code 48 46 = some (Instr.iload_n 1, 1, 0, 0, 0, []) := rfl
theorem c_48_47 : mm_code 48 47 = some (Instr.iastore, 1, 0, 0, 0, []) := rfl
theorem c_48_48 : mm_code 48 48 = some (Instr.aload_n 0, 1, 0, 0, 0, []) := rfl
theorem c_48_49 : mm_code 48 49 = some (Instr.getfield 15, 3, 0, 5, 1, [163]) := rfl
theorem c_48_52 : mm_code 48 52 = some (Instr.aload_n 0, 1, 0, 0, 0, []) := rfl
theorem c_48_53 : mm_code 48 53 = some (Instr.getfield 24, 3, 0, 5, 4, [166]) := rfl
theorem c_48_56 : mm_code 48 56 = some (Instr.iload_n 2, 1, 0, 0, 0, []) := rfl
theorem c_48_57 : mm_code 48 57 = some (Instr.iastore, 1, 0, 0, 0, []) := rfl
theorem c_48_58 : mm_code 48 58 = some (Instr.aload_n 0, 1, 0, 0, 0, []) := rfl
theorem c_48_59 : mm_code 48 59 = some (Instr.getfield 18, 3, 0, 5, 2, [164]) := rfl
theorem c_48_62 : mm_code 48 62 = some (Instr.aload_n 0, 1, 0, 0, 0, []) := rfl
theorem c_48_63 : mm_code 48 63 = some (Instr.getfield 24, 3, 0, 5, 4, [166]) := rfl
theorem c_48_66 : mm_code 48 66 = some (Instr.iload_n 3, 1, 0, 0, 0, []) := rfl
theorem c_48_67 : mm_code 48 67 = some (Instr.iastore, 1, 0, 0, 0, []) := rfl
theorem c_48_68 : mm_code 48 68 = some (Instr.aload_n 0, 1, 0, 0, 0, []) := rfl
theorem c_48_69 : mm_code 48 69 = some (Instr.getfield 21, 3, 0, 5, 3, [165]) := rfl
theorem c_48_72 : mm_code 48 72 = some (Instr.aload_n 0, 1, 0, 0, 0, []) := rfl
theorem c_48_73 : mm_code 48 73 = some (Instr.getfield 24, 3, 0, 5, 4, [166]) := rfl
theorem c_48_76 : mm_code 48 76 = some (Instr.iload 4, 2, 0, 0, 0, []) := rfl
set_option maxRecDepth 100000 in theorem c_48_78 : mm_code 48 78 = some (Instr.iastore, 1, 0, 0, 0, []) := rfl
set_option maxRecDepth 100000 in theorem c_48_79 : mm_code 48 79 = some (Instr.aload_n 0, 1, 0, 0, 0, []) := rfl
set_option maxRecDepth 100000 in theorem c_48_80 : mm_code 48 80 = some (Instr.dup, 1, 0, 0, 0, []) := rfl
set_option maxRecDepth 100000 in theorem c_48_81 : mm_code 48 81 = some (Instr.getfield 24, 3, 0, 5, 4, [166]) := rfl
set_option maxRecDepth 100000 in theorem c_48_84 : mm_code 48 84 = some (Instr.iconst 1, 1, 1, 0, 0, []) := rfl
set_option maxRecDepth 100000 in theorem c_48_85 : mm_code 48 85 = some (Instr.iadd, 1, 0, 0, 0, []) := rfl
set_option maxRecDepth 100000 in theorem c_48_86 : mm_code 48 86 = some (Instr.putfield 24, 3, 1, 5, 4, [166]) := rfl
set_option maxRecDepth 100000 in theorem c_48_89 : mm_code 48 89 = some (Instr.iconst 1, 1, 1, 0, 0, []) := rfl
set_option maxRecDepth 100000 in theorem c_48_90 : mm_code 48 90 = some (Instr.ireturn, 1, 0, 0, 0, []) := rfl
theorem c_49_0 : mm_code 49 0 = some (Instr.iload_n 0, 1, 0, 0, 0, []) := rfl
theorem c_49_1 : mm_code 49 1 = some (Instr.tableswitch 34 0 2 #[27, 29, 32], 27, 0, 0, 0, []) := rfl
theorem c_49_28 : mm_code 49 28 = some (Instr.iconst 1, 1, 1, 0, 0, []) := rfl
theorem c_49_29 : mm_code 49 29 = some (Instr.ireturn, 1, 0, 0, 0, []) := rfl
theorem c_49_30 : mm_code 49 30 = some (Instr.bipush 10, 2, 10, 0, 0, []) := rfl
theorem c_49_32 : mm_code 49 32 = some (Instr.ireturn, 1, 0, 0, 0, []) := rfl
theorem c_49_33 : mm_code 49 33 = some (Instr.iconst 4, 1, 4, 0, 0, []) := rfl
theorem c_49_34 : mm_code 49 34 = some (Instr.ireturn, 1, 0, 0, 0, []) := rfl
theorem c_49_35 : mm_code 49 35 = some (Instr.iconst (-1), 1, (-1), 0, 0, []) := rfl
theorem c_49_36 : mm_code 49 36 = some (Instr.ireturn, 1, 0, 0, 0, []) := rfl
theorem c_50_0 : mm_code 50 0 = some (Instr.iload_n 1, 1, 0, 0, 0, []) := rfl
theorem c_50_1 : mm_code 50 1 = some (Instr.i2l, 1, 0, 0, 0, []) := rfl
theorem c_50_2 : mm_code 50 2 = some (Instr.invokestatic 108, 3, 0, 27, 1, [390, 391, 67, 392]) := rfl
theorem c_50_5 : mm_code 50 5 = some (Instr.ifCond .ne 5, 3, 0, 10, 0, []) := rfl
theorem c_50_8 : mm_code 50 8 = some (Instr.iconst (-1), 1, (-1), 0, 0, []) := rfl
theorem c_50_9 : mm_code 50 9 = some (Instr.ireturn, 1, 0, 0, 0, []) := rfl
theorem c_50_10 : mm_code 50 10 = some (Instr.iload_n 2, 1, 0, 0, 0, []) := rfl
theorem c_50_11 : mm_code 50 11 = some (Instr.tableswitch 81 0 4 #[33, 42, 51, 61, 71], 33, 0, 0, 0, []) := rfl
theorem c_50_44 : mm_code 50 44 = some (Instr.aload_n 0, 1, 0, 0, 0, []) := rfl
theorem c_50_45 : mm_code 50 45 = some (Instr.getfield 30, 3, 0, 9, 4, [296]) := rfl
theorem c_50_48 : mm_code 50 48 = some (Instr.iload_n 1, 1, 0, 0, 0, []) := rfl
theorem c_50_49 : mm_code 50 49 = some (Instr.invokevirtual 129, 3, 8, 51, 1, [489, 490, 491, 58, 492]) := rfl
theorem c_50_52 : mm_code 50 52 = some (Instr.ireturn, 1, 0, 0, 0, []) := rfl
theorem c_50_53 : mm_code 50 53 = some (Instr.aload_n 0, 1, 0, 0, 0, []) := rfl
theorem c_50_54 : mm_code 50 54 = some (Instr.getfield 44, 3, 0, 9, 6, [298]) := rfl
theorem c_50_57 : mm_code 50 57 = some (Instr.iload_n 1, 1, 0, 0, 0, []) := rfl
theorem c_50_58 : mm_code 50 58 = some (Instr.invokevirtual 132, 3, 6, 54, 1, [500, 501, 502, 60, 503]) := rfl
theorem c_50_61 : mm_code 50 61 = some (Instr.ireturn, 1, 0, 0, 0, []) := rfl
theorem c_50_62 : mm_code 50 62 = some (Instr.aload_n 0, 1, 0, 0, 0, []) := rfl
theorem c_50_63 : mm_code 50 63 = some (Instr.getfield 51, 3, 0, 9, 7, [299]) := rfl
theorem c_50_66 : mm_code 50 66 = some (Instr.iconst 0, 1, 0, 0, 0, []) := rfl
theorem c_50_67 : mm_code 50 67 = some (Instr.iload_n 1, 1, 0, 0, 0, []) := rfl
theorem c_50_68 : mm_code 50 68 = some (Instr.invokevirtual 133, 3, 5, 55, 2, [504, 505, 506, 61, 507]) := rfl
theorem c_50_71 : mm_code 50 71 = some (Instr.ireturn, 1, 0, 0, 0, []) := rfl
theorem c_50_72 : mm_code 50 72 = some (Instr.aload_n 0, 1, 0, 0, 0, []) := rfl
theorem c_50_73 : mm_code 50 73 = some (Instr.getfield 51, 3, 0, 9, 7, [299]) := rfl
theorem c_50_76 : mm_code 50 76 = some (Instr.iconst 1, 1, 1, 0, 0, []) := rfl
theorem c_50_77 : mm_code 50 77 = some (Instr.iload_n 1, 1, 0, 0, 0, []) := rfl
theorem c_50_78 : mm_code 50 78 = some (Instr.invokevirtual 133, 3, 5, 55, 2, [504, 505, 506, 61, 507]) := rfl
theorem c_50_81 : mm_code 50 81 = some (Instr.ireturn, 1, 0, 0, 0, []) := rfl
theorem c_50_82 : mm_code 50 82 = some (Instr.aload_n 0, 1, 0, 0, 0, []) := rfl
theorem c_50_83 : mm_code 50 83 = some (Instr.getfield 51, 3, 0, 9, 7, [299]) := rfl
theorem c_50_86 : mm_code 50 86 = some (Instr.iconst 2, 1, 2, 0, 0, []) := rfl
theorem c_50_87 : mm_code 50 87 = some (Instr.iload_n 1, 1, 0, 0, 0, []) := rfl
theorem c_50_88 : mm_code 50 88 = some (Instr.invokevirtual 133, 3, 5, 55, 2, [504, 505, 506, 61, 507]) := rfl
theorem c_50_91 : mm_code 50 91 = some (Instr.ireturn, 1, 0, 0, 0, []) := rfl
theorem c_50_92 : mm_code 50 92 = some (Instr.bipush (-2), 2, (-2), 0, 0, []) := rfl
theorem c_50_94 : mm_code 50 94 = some (Instr.ireturn, 1, 0, 0, 0, []) := rfl
theorem c_51_0 : mm_code 51 0 = some (Instr.aload_n 0, 1, 0, 0, 0, []) := rfl
theorem c_51_1 : mm_code 51 1 = some (Instr.iload_n 1, 1, 0, 0, 0, []) := rfl
theorem c_51_2 : mm_code 51 2 = some (Instr.invokevirtual 55, 3, 8, 52, 1, [493, 495, 3, 58, 496]) := rfl
theorem c_51_5 : mm_code 51 5 = some (Instr.istore_n 2, 1, 0, 0, 0, []) := rfl
theorem c_51_6 : mm_code 51 6 = some (Instr.iload_n 2, 1, 0, 0, 0, []) := rfl
theorem c_51_7 : mm_code 51 7 = some (Instr.ifCond .lt 12, 3, 0, 19, 0, []) := rfl
theorem c_51_10 : mm_code 51 10 = some (Instr.aload_n 0, 1, 0, 0, 0, []) := rfl
theorem c_51_11 : mm_code 51 11 = some (Instr.getfield 18, 3, 0, 8, 2, [100]) := rfl
theorem c_51_14 : mm_code 51 14 = some (Instr.iload_n 2, 1, 0, 0, 0, []) := rfl
theorem c_51_15 : mm_code 51 15 = some (Instr.iaload, 1, 0, 0, 0, []) := rfl
theorem c_51_16 : mm_code 51 16 = some (Instr.goto 7, 3, 0, 23, 0, []) := rfl
theorem c_51_19 : mm_code 51 19 = some (Instr.iload_n 1, 1, 0, 0, 0, []) := rfl
theorem c_51_20 : mm_code 51 20 = some (Instr.invokestatic 58, 3, 0, 53, 1, [497, 498, 58, 499]) := rfl
theorem c_51_23 : mm_code 51 23 = some (Instr.ireturn, 1, 0, 0, 0, []) := rfl
theorem c_52_0 : mm_code 52 0 = some (Instr.aload_n 0, 1, 0, 0, 0, []) := rfl
theorem c_52_1 : mm_code 52 1 = some (Instr.getfield 27, 3, 0, 8, 5, [103]) := rfl
theorem c_52_4 : mm_code 52 4 = some (Instr.iconst 1, 1, 1, 0, 0, []) := rfl
theorem c_52_5 : mm_code 52 5 = some (Instr.isub, 1, 0, 0, 0, []) := rfl
theorem c_52_6 : mm_code 52 6 = some (Instr.istore_n 2, 1, 0, 0, 0, []) := rfl
theorem c_52_7 : mm_code 52 7 = some (Instr.iload_n 2, 1, 0, 0, 0, []) := rfl
theorem c_52_8 : mm_code 52 8 = some (Instr.ifCond .lt 31, 3, 0, 39, 0, []) := rfl
theorem c_52_11 : mm_code 52 11 = some (Instr.aload_n 0, 1, 0, 0, 0, []) := rfl
theorem c_52_12 : mm_code 52 12 = some (Instr.getfield 11, 3, 0, 8, 0, [98]) := rfl
theorem c_52_15 : mm_code 52 15 = some (Instr.iload_n 2, 1, 0, 0, 0, []) := rfl
theorem c_52_16 : mm_code 52 16 = some (Instr.iaload, 1, 0, 0, 0, []) := rfl
theorem c_52_17 : mm_code 52 17 = some (Instr.iload_n 1, 1, 0, 0, 0, []) := rfl
theorem c_52_18 : mm_code 52 18 = some (Instr.if_icmp .gt 15, 3, 0, 33, 0, []) := rfl
theorem c_52_21 : mm_code 52 21 = some (Instr.iload_n 1, 1, 0, 0, 0, []) := rfl
theorem c_52_22 : mm_code 52 22 = some (Instr.aload_n 0, 1, 0, 0, 0, []) := rfl
theorem c_52_23 : mm_code 52 23 = some (Instr.getfield 15, 3, 0, 8, 1, [99]) := rfl
theorem c_52_26 : mm_code 52 26 = some (Instr.iload_n 2, 1, 0, 0, 0, []) := rfl
theorem c_52_27 : mm_code 52 27 = some (Instr.iaload, 1, 0, 0, 0, []) := rfl
theorem c_52_28 : mm_code 52 28 = some (Instr.if_icmp .gt 5, 3, 0, 33, 0, []) := rfl
theorem c_52_31 : mm_code 52 31 = some (Instr.iload_n 2, 1, 0, 0, 0, []) := rfl
theorem c_52_32 : mm_code 52 32 = some (Instr.ireturn, 1, 0, 0, 0, []) := rfl
theorem c_52_33 : mm_code 52 33 = some (Instr.iinc 2 (-1), 3, 0, 0, 0, []) := rfl
theorem c_52_36 : mm_code 52 36 = some (Instr.goto (-29), 3, 0, 7, 0, []) := rfl
theorem c_52_39 : mm_code 52 39 = some (Instr.iconst (-1), 1, (-1), 0, 0, []) := rfl
theorem c_52_40 : mm_code 52 40 = some (Instr.ireturn, 1, 0, 0, 0, []) := rfl
theorem c_53_0 : mm_code 53 0 = some (Instr.iload_n 0, 1, 0, 0, 0, []) := rfl
theorem c_53_1 : mm_code 53 1 = some (Instr.sipush 128, 3, 128, 0, 0, []) := rfl
theorem c_53_4 : mm_code 53 4 = some (Instr.if_icmp .ge 27, 3, 0, 31, 0, []) := rfl
theorem c_53_7 : mm_code 53 7 = some (Instr.iload_n 0, 1, 0, 0, 0, []) := rfl
theorem c_53_8 : mm_code 53 8 = some (Instr.bipush 97, 2, 97, 0, 0, []) := rfl
theorem c_53_10 : mm_code 53 10 = some (Instr.if_icmp .lt 9, 3, 0, 19, 0, []) := rfl
theorem c_53_13 : mm_code 53 13 = some (Instr.iload_n 0, 1, 0, 0, 0, []) := rfl
theorem c_53_14 : mm_code 53 14 = some (Instr.bipush 122, 2, 122, 0, 0, []) := rfl
theorem c_53_16 : mm_code 53 16 = some (Instr.if_icmp .le 15, 3, 0, 31, 0, []) := rfl
theorem c_53_19 : mm_code 53 19 = some (Instr.iload_n 0, 1, 0, 0, 0, []) := rfl
theorem c_53_20 : mm_code 53 20 = some (Instr.bipush 48, 2, 48, 0, 0, []) := rfl
theorem c_53_22 : mm_code 53 22 = some (Instr.if_icmp .lt 11, 3, 0, 33, 0, []) := rfl
theorem c_53_25 : mm_code 53 25 = some (Instr.iload_n 0, 1, 0, 0, 0, []) := rfl
theorem c_53_26 : mm_code 53 26 = some (Instr.bipush 57, 2, 57, 0, 0, []) := rfl
theorem c_53_28 : mm_code 53 28 = some (Instr.if_icmp .gt 5, 3, 0, 33, 0, []) := rfl
theorem c_53_31 : mm_code 53 31 = some (Instr.iconst 0, 1, 0, 0, 0, []) := rfl
theorem c_53_32 : mm_code 53 32 = some (Instr.ireturn, 1, 0, 0, 0, []) := rfl
theorem c_53_33 : mm_code 53 33 = some (Instr.iload_n 0, 1, 0, 0, 0, []) := rfl
theorem c_53_34 : mm_code 53 34 = some (Instr.bipush 45, 2, 45, 0, 0, []) := rfl
theorem c_53_36 : mm_code 53 36 = some (Instr.if_icmp .eq 9, 3, 0, 45, 0, []) := rfl
theorem c_53_39 : mm_code 53 39 = some (Instr.iload_n 0, 1, 0, 0, 0, []) := rfl
theorem c_53_40 : mm_code 53 40 = some (Instr.bipush 46, 2, 46, 0, 0, []) := rfl
theorem c_53_42 : mm_code 53 42 = some (Instr.if_icmp .ne 5, 3, 0, 47, 0, []) := rfl
theorem c_53_45 : mm_code 53 45 = some (Instr.iconst 0, 1, 0, 0, 0, []) := rfl
theorem c_53_46 : mm_code 53 46 = some (Instr.ireturn, 1, 0, 0, 0, []) := rfl
theorem c_53_47 : mm_code 53 47 = some (Instr.iload_n 0, 1, 0, 0, 0, []) := rfl
theorem c_53_48 : mm_code 53 48 = some (Instr.bipush 65, 2, 65, 0, 0, []) := rfl
theorem c_53_50 : mm_code 53 50 = some (Instr.if_icmp .lt 13, 3, 0, 63, 0, []) := rfl
theorem c_53_53 : mm_code 53 53 = some (Instr.iload_n 0, 1, 0, 0, 0, []) := rfl
theorem c_53_54 : mm_code 53 54 = some (Instr.bipush 90, 2, 90, 0, 0, []) := rfl
theorem c_53_56 : mm_code 53 56 = some (Instr.if_icmp .gt 7, 3, 0, 63, 0, []) := rfl
theorem c_53_59 : mm_code 53 59 = some (Instr.iconst 2, 1, 2, 0, 0, []) := rfl
theorem c_53_60 : mm_code 53 60 = some (Instr.goto 4, 3, 0, 64, 0, []) := rfl
theorem c_53_63 : mm_code 53 63 = some (Instr.iconst 3, 1, 3, 0, 0, []) := rfl
theorem c_53_64 : mm_code 53 64 = some (Instr.ireturn, 1, 0, 0, 0, []) := rfl
theorem c_54_0 : mm_code 54 0 = some (Instr.aload_n 0, 1, 0, 0, 0, []) := rfl
theorem c_54_1 : mm_code 54 1 = some (Instr.iload_n 1, 1, 0, 0, 0, []) := rfl
theorem c_54_2 : mm_code 54 2 = some (Instr.invokevirtual 28, 3, 6, 46, 1, [469, 471, 2, 60, 472]) := rfl
theorem c_54_5 : mm_code 54 5 = some (Instr.istore_n 2, 1, 0, 0, 0, []) := rfl
theorem c_54_6 : mm_code 54 6 = some (Instr.iload_n 2, 1, 0, 0, 0, []) := rfl
theorem c_54_7 : mm_code 54 7 = some (Instr.ifCond .lt 12, 3, 0, 19, 0, []) := rfl
theorem c_54_10 : mm_code 54 10 = some (Instr.aload_n 0, 1, 0, 0, 0, []) := rfl
theorem c_54_11 : mm_code 54 11 = some (Instr.getfield 15, 3, 0, 6, 1, [147]) := rfl
theorem c_54_14 : mm_code 54 14 = some (Instr.iload_n 2, 1, 0, 0, 0, []) := rfl
theorem c_54_15 : mm_code 54 15 = some (Instr.iaload, 1, 0, 0, 0, []) := rfl
theorem c_54_16 : mm_code 54 16 = some (Instr.goto 4, 3, 0, 20, 0, []) := rfl
theorem c_54_19 : mm_code 54 19 = some (Instr.iconst 0, 1, 0, 0, 0, []) := rfl
theorem c_54_20 : mm_code 54 20 = some (Instr.ireturn, 1, 0, 0, 0, []) := rfl
theorem c_55_0 : mm_code 55 0 = some (Instr.aload_n 0, 1, 0, 0, 0, []) := rfl
theorem c_55_1 : mm_code 55 1 = some (Instr.getfield 24, 3, 0, 5, 4, [166]) := rfl
theorem c_55_4 : mm_code 55 4 = some (Instr.iconst 1, 1, 1, 0, 0, []) := rfl
theorem c_55_5 : mm_code 55 5 = some (Instr.isub, 1, 0, 0, 0, []) := rfl
theorem c_55_6 : mm_code 55 6 = some (Instr.istore_n 3, 1, 0, 0, 0, []) := rfl
theorem c_55_7 : mm_code 55 7 = some (Instr.iload_n 3, 1, 0, 0, 0, []) := rfl
theorem c_55_8 : mm_code 55 8 = some (Instr.ifCond .lt 46, 3, 0, 54, 0, []) := rfl
theorem c_55_11 : mm_code 55 11 = some (Instr.aload_n 0, 1, 0, 0, 0, []) := rfl
theorem c_55_12 : mm_code 55 12 = some (Instr.getfield 11, 3, 0, 5, 0, [162]) := rfl
theorem c_55_15 : mm_code 55 15 = some (Instr.iload_n 3, 1, 0, 0, 0, []) := rfl
theorem c_55_16 : mm_code 55 16 = some (Instr.iaload, 1, 0, 0, 0, []) := rfl
theorem c_55_17 : mm_code 55 17 = some (Instr.iload_n 1, 1, 0, 0, 0, []) := rfl
theorem c_55_18 : mm_code 55 18 = some (Instr.if_icmp .ne 30, 3, 0, 48, 0, []) := rfl
theorem c_55_21 : mm_code 55 21 = some (Instr.aload_n 0, 1, 0, 0, 0, []) := rfl
theorem c_55_22 : mm_code 55 22 = some (Instr.getfield 15, 3, 0, 5, 1, [163]) := rfl
theorem c_55_25 : mm_code 55 25 = some (Instr.iload_n 3, 1, 0, 0, 0, []) := rfl
theorem c_55_26 : mm_code 55 26 = some (Instr.iaload, 1, 0, 0, 0, []) := rfl
theorem c_55_27 : mm_code 55 27 = some (Instr.iload_n 2, 1, 0, 0, 0, []) := rfl
theorem c_55_28 : mm_code 55 28 = some (Instr.if_icmp .gt 20, 3, 0, 48, 0, []) := rfl
theorem c_55_31 : mm_code 55 31 = some (Instr.iload_n 2, 1, 0, 0, 0, []) := rfl
theorem c_55_32 : mm_code 55 32 = some (Instr.aload_n 0, 1, 0, 0, 0, []) := rfl
theorem c_55_33 : mm_code 55 33 = some (Instr.getfield 18, 3, 0, 5, 2, [164]) := rfl
theorem c_55_36 : mm_code 55 36 = some (Instr.iload_n 3, 1, 0, 0, 0, []) := rfl
theorem c_55_37 : mm_code 55 37 = some (Instr.iaload, 1, 0, 0, 0, []) := rfl
theorem c_55_38 : mm_code 55 38 = some (Instr.if_icmp .gt 10, 3, 0, 48, 0, []) := rfl
theorem c_55_41 : mm_code 55 41 = some (Instr.aload_n 0, 1, 0, 0, 0, []) := rfl
theorem c_55_42 : mm_code 55 42 = some (Instr.getfield 21, 3, 0, 5, 3, [165]) := rfl
theorem c_55_45 : mm_code 55 45 = some (Instr.iload_n 3, 1, 0, 0, 0, []) := rfl
theorem c_55_46 : mm_code 55 46 = some (Instr.iaload, 1, 0, 0, 0, []) := rfl
theorem c_55_47 : mm_code 55 47 = some (Instr.ireturn, 1, 0, 0, 0, []) := rfl
theorem c_55_48 : mm_code 55 48 = some (Instr.iinc 3 (-1), 3, 0, 0, 0, []) := rfl
theorem c_55_51 : mm_code 55 51 = some (Instr.goto (-44), 3, 0, 7, 0, []) := rfl
theorem c_55_54 : mm_code 55 54 = some (Instr.iload_n 1, 1, 0, 0, 0, []) := rfl
theorem c_55_55 : mm_code 55 55 = some (Instr.iconst 1, 1, 1, 0, 0, []) := rfl
theorem c_55_56 : mm_code 55 56 = some (Instr.if_icmp .ne 10, 3, 0, 66, 0, []) := rfl
theorem c_55_59 : mm_code 55 59 = some (Instr.iload_n 2, 1, 0, 0, 0, []) := rfl
theorem c_55_60 : mm_code 55 60 = some (Instr.invokestatic 38, 3, 0, 56, 1, [508, 509, 61, 510]) := rfl
theorem c_55_63 : mm_code 55 63 = some (Instr.goto 4, 3, 0, 67, 0, []) := rfl
theorem c_55_66 : mm_code 55 66 = some (Instr.iconst 0, 1, 0, 0, 0, []) := rfl
theorem c_55_67 : mm_code 55 67 = some (Instr.ireturn, 1, 0, 0, 0, []) := rfl
theorem c_56_0 : mm_code 56 0 = some (Instr.iload_n 0, 1, 0, 0, 0, []) := rfl
theorem c_56_1 : mm_code 56 1 = some (Instr.bipush 48, 2, 48, 0, 0, []) := rfl
theorem c_56_3 : mm_code 56 3 = some (Instr.if_icmp .lt 11, 3, 0, 14, 0, []) := rfl
theorem c_56_6 : mm_code 56 6 = some (Instr.iload_n 0, 1, 0, 0, 0, []) := rfl
theorem c_56_7 : mm_code 56 7 = some (Instr.bipush 57, 2, 57, 0, 0, []) := rfl
theorem c_56_9 : mm_code 56 9 = some (Instr.if_icmp .gt 5, 3, 0, 14, 0, []) := rfl
theorem c_56_12 : mm_code 56 12 = some (Instr.iconst 4, 1, 4, 0, 0, []) := rfl
theorem c_56_13 : mm_code 56 13 = some (Instr.ireturn, 1, 0, 0, 0, []) := rfl
theorem c_56_14 : mm_code 56 14 = some (Instr.iload_n 0, 1, 0, 0, 0, []) := rfl
theorem c_56_15 : mm_code 56 15 = some (Instr.bipush 45, 2, 45, 0, 0, []) := rfl
theorem c_56_17 : mm_code 56 17 = some (Instr.if_icmp .ne 7, 3, 0, 24, 0, []) := rfl
theorem c_56_20 : mm_code 56 20 = some (Instr.iconst 5, 1, 5, 0, 0, []) := rfl
theorem c_56_21 : mm_code 56 21 = some (Instr.goto 4, 3, 0, 25, 0, []) := rfl
theorem c_56_24 : mm_code 56 24 = some (Instr.iconst 0, 1, 0, 0, 0, []) := rfl
theorem c_56_25 : mm_code 56 25 = some (Instr.ireturn, 1, 0, 0, 0, []) := rfl
theorem c_57_0 : mm_code 57 0 = some (Instr.iload_n 1, 1, 0, 0, 0, []) := rfl
theorem c_57_1 : mm_code 57 1 = some (Instr.ifCond .eq 11, 3, 0, 12, 0, []) := rfl
theorem c_57_4 : mm_code 57 4 = some (Instr.iload_n 1, 1, 0, 0, 0, []) := rfl
theorem c_57_5 : mm_code 57 5 = some (Instr.iconst 1, 1, 1, 0, 0, []) := rfl
theorem c_57_6 : mm_code 57 6 = some (Instr.if_icmp .eq 6, 3, 0, 12, 0, []) := rfl
theorem c_57_9 : mm_code 57 9 = some (Instr.bipush (-2), 2, (-2), 0, 0, []) := rfl
theorem c_57_11 : mm_code 57 11 = some (Instr.ireturn, 1, 0, 0, 0, []) := rfl
theorem c_57_12 : mm_code 57 12 = some (Instr.iload_n 1, 1, 0, 0, 0, []) := rfl
theorem c_57_13 : mm_code 57 13 = some (Instr.ifCond .ne 21, 3, 0, 34, 0, []) := rfl
theorem c_57_16 : mm_code 57 16 = some (Instr.aload_n 0, 1, 0, 0, 0, []) := rfl
theorem c_57_17 : mm_code 57 17 = some (Instr.getfield 60, 3, 0, 9, 8, [300]) := rfl
theorem c_57_20 : mm_code 57 20 = some (Instr.aload_n 0, 1, 0, 0, 0, []) := rfl
theorem c_57_21 : mm_code 57 21 = some (Instr.getfield 18, 3, 0, 9, 1, [293]) := rfl
theorem c_57_24 : mm_code 57 24 = some (Instr.aload_n 0, 1, 0, 0, 0, []) := rfl
theorem c_57_25 : mm_code 57 25 = some (Instr.getfield 21, 3, 0, 9, 2, [294]) := rfl
theorem c_57_28 : mm_code 57 28 = some (Instr.invokevirtual 135, 3, 1, 58, 2, [515, 516, 517, 62, 518]) := rfl
theorem c_57_31 : mm_code 57 31 = some (Instr.goto 18, 3, 0, 49, 0, []) := rfl
theorem c_57_34 : mm_code 57 34 = some (Instr.aload_n 0, 1, 0, 0, 0, []) := rfl
theorem c_57_35 : mm_code 57 35 = some (Instr.getfield 60, 3, 0, 9, 8, [300]) := rfl
theorem c_57_38 : mm_code 57 38 = some (Instr.aload_n 0, 1, 0, 0, 0, []) := rfl
theorem c_57_39 : mm_code 57 39 = some (Instr.getfield 18, 3, 0, 9, 1, [293]) := rfl
theorem c_57_42 : mm_code 57 42 = some (Instr.aload_n 0, 1, 0, 0, 0, []) := rfl
theorem c_57_43 : mm_code 57 43 = some (Instr.getfield 21, 3, 0, 9, 2, [294]) := rfl
theorem c_57_46 : mm_code 57 46 = some (Instr.invokevirtual 139, 3, 1, 69, 2, [566, 567, 568, 62, 569]) := rfl
theorem c_57_49 : mm_code 57 49 = some (Instr.istore_n 2, 1, 0, 0, 0, []) := rfl
theorem c_57_50 : mm_code 57 50 = some (Instr.iload_n 2, 1, 0, 0, 0, []) := rfl
theorem c_57_51 : mm_code 57 51 = some (Instr.ifCond .ne 6, 3, 0, 57, 0, []) := rfl
theorem c_57_54 : mm_code 57 54 = some (Instr.bipush (-4), 2, (-4), 0, 0, []) := rfl
theorem c_57_56 : mm_code 57 56 = some (Instr.ireturn, 1, 0, 0, 0, []) := rfl
theorem c_57_57 : mm_code 57 57 = some (Instr.aload_n 0, 1, 0, 0, 0, []) := rfl
theorem c_57_58 : mm_code 57 58 = some (Instr.getfield 18, 3, 0, 9, 1, [293]) := rfl
theorem c_57_61 : mm_code 57 61 = some (Instr.aload_n 0, 1, 0, 0, 0, []) := rfl
theorem c_57_62 : mm_code 57 62 = some (Instr.getfield 21, 3, 0, 9, 2, [294]) := rfl
theorem c_57_65 : mm_code 57 65 = some (Instr.invokevirtual 101, 3, 7, 23, 1, [369, 370, 371, 57, 372]) := rfl
theorem c_57_68 : mm_code 57 68 = some (Instr.aload_n 0, 1, 0, 0, 0, []) := rfl
theorem c_57_69 : mm_code 57 69 = some (Instr.getfield 18, 3, 0, 9, 1, [293]) := rfl
theorem c_57_72 : mm_code 57 72 = some (Instr.invokevirtual 81, 3, 7, 13, 0, [331, 332, 333, 57, 334]) := rfl
theorem c_57_75 : mm_code 57 75 = some (Instr.ireturn, 1, 0, 0, 0, []) := rfl
theorem c_58_0 : mm_code 58 0 = some (Instr.aload_n 2, 1, 0, 0, 0, []) := rfl
theorem c_58_1 : mm_code 58 1 = some (Instr.invokevirtual 32, 3, 7, 12, 0, [519, 328, 329, 57, 330]) := rfl
theorem c_58_4 : mm_code 58 4 = some (Instr.iconst 0, 1, 0, 0, 0, []) := rfl
theorem c_58_5 : mm_code 58 5 = some (Instr.istore_n 3, 1, 0, 0, 0, []) := rfl
theorem c_58_6 : mm_code 58 6 = some (Instr.iload_n 3, 1, 0, 0, 0, []) := rfl
theorem c_58_7 : mm_code 58 7 = some (Instr.aload_n 1, 1, 0, 0, 0, []) := rfl
theorem c_58_8 : mm_code 58 8 = some (Instr.invokevirtual 35, 3, 7, 13, 0, [520, 332, 333, 57, 334]) := rfl
theorem c_58_11 : mm_code 58 11 = some (Instr.if_icmp .ge 48, 3, 0, 59, 0, []) := rfl
theorem c_58_14 : mm_code 58 14 = some (Instr.aload_n 1, 1, 0, 0, 0, []) := rfl
theorem c_58_15 : mm_code 58 15 = some (Instr.iload_n 3, 1, 0, 0, 0, []) := rfl
theorem c_58_16 : mm_code 58 16 = some (Instr.invokevirtual 39, 3, 7, 17, 1, [521, 350, 351, 57, 352]) := rfl
theorem c_58_19 : mm_code 58 19 = some (Instr.istore 4, 2, 0, 0, 0, []) := rfl
theorem c_58_21 : mm_code 58 21 = some (Instr.iload 4, 2, 0, 0, 0, []) := rfl
theorem c_58_23 : mm_code 58 23 = some (Instr.invokestatic 43, 3, 0, 38, 1, [522, 439, 59, 440]) := rfl
theorem c_58_26 : mm_code 58 26 = some (Instr.ifCond .eq 15, 3, 0, 41, 0, []) := rfl
theorem c_58_29 : mm_code 58 29 = some (Instr.iload 4, 2, 0, 0, 0, []) := rfl
theorem c_58_31 : mm_code 58 31 = some (Instr.aload_n 2, 1, 0, 0, 0, []) := rfl
theorem c_58_32 : mm_code 58 32 = some (Instr.invokestatic 49, 3, 0, 59, 2, [523, 524, 62, 525]) := rfl
theorem c_58_35 : mm_code 58 35 = some (Instr.ifCond .eq 16, 3, 0, 51, 0, []) := rfl
theorem c_58_38 : mm_code 58 38 = some (Instr.goto 15, 3, 0, 53, 0, []) := rfl
theorem c_58_41 : mm_code 58 41 = some (Instr.aload_n 0, 1, 0, 0, 0, []) := rfl
theorem c_58_42 : mm_code 58 42 = some (Instr.iload 4, 2, 0, 0, 0, []) := rfl
theorem c_58_44 : mm_code 58 44 = some (Instr.aload_n 2, 1, 0, 0, 0, []) := rfl
theorem c_58_45 : mm_code 58 45 = some (Instr.invokevirtual 53, 3, 1, 63, 2, [536, 538, 4, 62, 539]) := rfl
theorem c_58_48 : mm_code 58 48 = some (Instr.ifCond .ne 5, 3, 0, 53, 0, []) := rfl
theorem c_58_51 : mm_code 58 51 = some (Instr.iconst 0, 1, 0, 0, 0, []) := rfl
theorem c_58_52 : mm_code 58 52 = some (Instr.ireturn, 1, 1, 0, 0, []) := rfl
theorem c_58_53 : mm_code 58 53 = some (Instr.iinc 3 1, 3, 0, 0, 0, []) := rfl
theorem c_58_56 : mm_code 58 56 = some (Instr.goto (-50), 3, 0, 6, 0, []) := rfl
theorem c_58_59 : mm_code 58 59 = some (Instr.aload_n 0, 1, 0, 0, 0, []) := rfl
theorem c_58_60 : mm_code 58 60 = some (Instr.getfield 15, 3, 0, 1, 1, [187]) := rfl
theorem c_58_63 : mm_code 58 63 = some (Instr.aload_n 2, 1, 0, 0, 0, []) := rfl
theorem c_58_64 : mm_code 58 64 = some (Instr.aload_n 0, 1, 0, 0, 0, []) := rfl
theorem c_58_65 : mm_code 58 65 = some (Instr.getfield 28, 3, 0, 1, 3, [189]) := rfl
theorem c_58_68 : mm_code 58 68 = some (Instr.invokevirtual 56, 3, 6, 66, 2, [550, 551, 552, 60, 553]) := rfl
theorem c_58_71 : mm_code 58 71 = some (Instr.aload_n 0, 1, 0, 0, 0, []) := rfl
theorem c_58_72 : mm_code 58 72 = some (Instr.aload_n 2, 1, 0, 0, 0, []) := rfl
theorem c_58_73 : mm_code 58 73 = some (Instr.invokevirtual 62, 3, 1, 67, 1, [558, 560, 5, 62, 561]) := rfl
theorem c_58_76 : mm_code 58 76 = some (Instr.iconst 1, 1, 1, 0, 0, []) := rfl
theorem c_58_77 : mm_code 58 77 = some (Instr.ireturn, 1, 1, 0, 0, []) := rfl
theorem c_59_0 : mm_code 59 0 = some (Instr.iload_n 0, 1, 0, 0, 0, []) := rfl
theorem c_59_1 : mm_code 59 1 = some (Instr.invokestatic 66, 3, 0, 60, 1, [526, 527, 59, 528]) := rfl
theorem c_59_4 : mm_code 59 4 = some (Instr.istore_n 2, 1, 0, 0, 0, []) := rfl
theorem c_59_5 : mm_code 59 5 = some (Instr.aload_n 1, 1, 0, 0, 0, []) := rfl
theorem c_59_6 : mm_code 59 6 = some (Instr.iload_n 0, 1, 0, 0, 0, []) := rfl
theorem c_59_7 : mm_code 59 7 = some (Instr.invokestatic 69, 3, 0, 61, 1, [529, 530, 59, 531]) := rfl
theorem c_59_10 : mm_code 59 10 = some (Instr.invokevirtual 72, 3, 7, 14, 1, [532, 337, 338, 57, 339]) := rfl
theorem c_59_13 : mm_code 59 13 = some (Instr.ifCond .eq 30, 3, 0, 43, 0, []) := rfl
theorem c_59_16 : mm_code 59 16 = some (Instr.aload_n 1, 1, 0, 0, 0, []) := rfl
theorem c_59_17 : mm_code 59 17 = some (Instr.iload_n 0, 1, 0, 0, 0, []) := rfl
theorem c_59_18 : mm_code 59 18 = some (Instr.invokestatic 75, 3, 0, 62, 1, [533, 534, 59, 535]) := rfl
theorem c_59_21 : mm_code 59 21 = some (Instr.invokevirtual 72, 3, 7, 14, 1, [532, 337, 338, 57, 339]) := rfl
theorem c_59_24 : mm_code 59 24 = some (Instr.ifCond .eq 19, 3, 0, 43, 0, []) := rfl
theorem c_59_27 : mm_code 59 27 = some (Instr.iload_n 2, 1, 0, 0, 0, []) := rfl
theorem c_59_28 : mm_code 59 28 = some (Instr.ifCond .eq 11, 3, 0, 39, 0, []) := rfl
theorem c_59_31 : mm_code 59 31 = some (Instr.aload_n 1, 1, 0, 0, 0, []) := rfl
theorem c_59_32 : mm_code 59 32 = some (Instr.iload_n 2, 1, 0, 0, 0, []) := rfl
theorem c_59_33 : mm_code 59 33 = some (Instr.invokevirtual 72, 3, 7, 14, 1, [532, 337, 338, 57, 339]) := rfl
theorem c_59_36 : mm_code 59 36 = some (Instr.ifCond .eq 7, 3, 0, 43, 0, []) := rfl
theorem c_59_39 : mm_code 59 39 = some (Instr.iconst 1, 1, 1, 0, 0, []) := rfl
theorem c_59_40 : mm_code 59 40 = some (Instr.goto 4, 3, 0, 44, 0, []) := rfl
theorem c_59_43 : mm_code 59 43 = some (Instr.iconst 0, 1, 0, 0, 0, []) := rfl
theorem c_59_44 : mm_code 59 44 = some (Instr.ireturn, 1, 1, 0, 0, []) := rfl
theorem c_60_0 : mm_code 60 0 = some (Instr.iload_n 0, 1, 0, 0, 0, []) := rfl
theorem c_60_1 : mm_code 60 1 = some (Instr.ldc 63, 2, 44032, 0, 0, [441]) := rfl
theorem c_60_3 : mm_code 60 3 = some (Instr.isub, 1, 0, 0, 0, []) := rfl
theorem c_60_4 : mm_code 60 4 = some (Instr.bipush 28, 2, 28, 0, 0, []) := rfl
theorem c_60_6 : mm_code 60 6 = some (Instr.irem, 1, 0, 0, 0, []) := rfl
theorem c_60_7 : mm_code 60 7 = some (Instr.istore_n 1, 1, 0, 0, 0, []) := rfl
theorem c_60_8 : mm_code 60 8 = some (Instr.iload_n 1, 1, 0, 0, 0, []) := rfl
theorem c_60_9 : mm_code 60 9 = some (Instr.ifCond .ne 7, 3, 0, 16, 0, []) := rfl
theorem c_60_12 : mm_code 60 12 = some (Instr.iconst 0, 1, 0, 0, 0, []) := rfl
theorem c_60_13 : mm_code 60 13 = some (Instr.goto 8, 3, 0, 21, 0, []) := rfl
theorem c_60_16 : mm_code 60 16 = some (Instr.sipush 4519, 3, 4519, 0, 0, []) := rfl
theorem c_60_19 : mm_code 60 19 = some (Instr.iload_n 1, 1, 0, 0, 0, []) := rfl
theorem c_60_20 : mm_code 60 20 = some (Instr.iadd, 1, 0, 0, 0, []) := rfl
theorem c_60_21 : mm_code 60 21 = some (Instr.ireturn, 1, 0, 0, 0, []) := rfl
theorem c_61_0 : mm_code 61 0 = some (Instr.sipush 4352, 3, 4352, 0, 0, []) := rfl
theorem c_61_3 : mm_code 61 3 = some (Instr.iload_n 0, 1, 0, 0, 0, []) := rfl
theorem c_61_4 : mm_code 61 4 = some (Instr.ldc 63, 2, 44032, 0, 0, [441]) := rfl
theorem c_61_6 : mm_code 61 6 = some (Instr.isub, 1, 0, 0, 0, []) := rfl
theorem c_61_7 : mm_code 61 7 = some (Instr.sipush 588, 3, 588, 0, 0, []) := rfl
theorem c_61_10 : mm_code 61 10 = some (Instr.idiv, 1, 0, 0, 0, []) := rfl
theorem c_61_11 : mm_code 61 11 = some (Instr.iadd, 1, 0, 0, 0, []) := rfl
theorem c_61_12 : mm_code 61 12 = some (Instr.ireturn, 1, 0, 0, 0, []) := rfl
theorem c_62_0 : mm_code 62 0 = some (Instr.sipush 4449, 3, 4449, 0, 0, []) := rfl
theorem c_62_3 : mm_code 62 3 = some (Instr.iload_n 0, 1, 0, 0, 0, []) := rfl
theorem c_62_4 : mm_code 62 4 = some (Instr.ldc 63, 2, 44032, 0, 0, [441]) := rfl
theorem c_62_6 : mm_code 62 6 = some (Instr.isub, 1, 0, 0, 0, []) := rfl
theorem c_62_7 : mm_code 62 7 = some (Instr.sipush 588, 3, 588, 0, 0, []) := rfl
theorem c_62_10 : mm_code 62 10 = some (Instr.irem, 1, 0, 0, 0, []) := rfl
theorem c_62_11 : mm_code 62 11 = some (Instr.bipush 28, 2, 28, 0, 0, []) := rfl
theorem c_62_13 : mm_code 62 13 = some (Instr.idiv, 1, 0, 0, 0, []) := rfl
theorem c_62_14 : mm_code 62 14 = some (Instr.iadd, 1, 0, 0, 0, []) := rfl
theorem c_62_15 : mm_code 62 15 = some (Instr.ireturn, 1, 0, 0, 0, []) := rfl
theorem c_63_0 : mm_code 63 0 = some (Instr.iconst 1, 1, 1, 0, 0, []) := rfl
theorem c_63_1 : mm_code 63 1 = some (Instr.istore_n 3, 1, 0, 0, 0, []) := rfl
theorem c_63_2 : mm_code 63 2 = some (Instr.aload_n 0, 1, 0, 0, 0, []) := rfl
theorem c_63_3 : mm_code 63 3 = some (Instr.getfield 19, 3, 0, 1, 2, [188]) := rfl
theorem c_63_6 : mm_code 63 6 = some (Instr.iconst 0, 1, 0, 0, 0, []) := rfl
theorem c_63_7 : mm_code 63 7 = some (Instr.iload_n 1, 1, 0, 0, 0, []) := rfl
theorem c_63_8 : mm_code 63 8 = some (Instr.iastore, 1, 0, 0, 0, []) := rfl
theorem c_63_9 : mm_code 63 9 = some (Instr.iconst 0, 1, 0, 0, 0, []) := rfl
theorem c_63_10 : mm_code 63 10 = some (Instr.istore 4, 2, 0, 0, 0, []) := rfl
theorem c_63_12 : mm_code 63 12 = some (Instr.iload_n 3, 1, 0, 0, 0, []) := rfl
theorem c_63_13 : mm_code 63 13 = some (Instr.ifCond .le 113, 3, 0, 126, 0, []) := rfl
theorem c_63_16 : mm_code 63 16 = some (Instr.iload 4, 2, 0, 0, 0, []) := rfl
theorem c_63_18 : mm_code 63 18 = some (Instr.ldc 78, 2, 1000000, 0, 0, [540]) := rfl
theorem c_63_20 : mm_code 63 20 = some (Instr.if_icmp .ge 106, 3, 0, 126, 0, []) := rfl
theorem c_63_23 : mm_code 63 23 = some (Instr.iinc 3 (-1), 3, 0, 0, 0, []) := rfl
theorem c_63_26 : mm_code 63 26 = some (Instr.aload_n 0, 1, 0, 0, 0, []) := rfl
theorem c_63_27 : mm_code 63 27 = some (Instr.getfield 19, 3, 0, 1, 2, [188]) := rfl
theorem c_63_30 : mm_code 63 30 = some (Instr.iload_n 3, 1, 0, 0, 0, []) := rfl
theorem c_63_31 : mm_code 63 31 = some (Instr.iaload, 1, 0, 0, 0, []) := rfl
theorem c_63_32 : mm_code 63 32 = some (Instr.istore 5, 2, 0, 0, 0, []) := rfl
theorem c_63_34 : mm_code 63 34 = some (Instr.aload_n 0, 1, 0, 0, 0, []) := rfl
theorem c_63_35 : mm_code 63 35 = some (Instr.getfield 9, 3, 0, 1, 0, [186]) := rfl
theorem c_63_38 : mm_code 63 38 = some (Instr.iload 5, 2, 0, 0, 0, []) := rfl
theorem c_63_40 : mm_code 63 40 = some (Instr.invokevirtual 79, 3, 4, 42, 1, [541, 453, 454, 59, 455]) := rfl
theorem c_63_43 : mm_code 63 43 = some (Instr.istore 6, 2, 0, 0, 0, []) := rfl
theorem c_63_45 : mm_code 63 45 = some (Instr.iload 6, 2, 0, 0, 0, []) := rfl
theorem c_63_47 : mm_code 63 47 = some (Instr.ifCond .ge 14, 3, 0, 61, 0, []) := rfl
theorem c_63_50 : mm_code 63 50 = some (Instr.aload_n 2, 1, 0, 0, 0, []) := rfl
theorem c_63_51 : mm_code 63 51 = some (Instr.iload 5, 2, 0, 0, 0, []) := rfl
theorem c_63_53 : mm_code 63 53 = some (Instr.invokevirtual 72, 3, 7, 14, 1, [532, 337, 338, 57, 339]) := rfl
theorem c_63_56 : mm_code 63 56 = some (Instr.ifCond .ne 64, 3, 0, 120, 0, []) := rfl
theorem c_63_59 : mm_code 63 59 = some (Instr.iconst 0, 1, 0, 0, 0, []) := rfl
theorem c_63_60 : mm_code 63 60 = some (Instr.ireturn, 1, 1, 0, 0, []) := rfl
theorem c_63_61 : mm_code 63 61 = some (Instr.iload_n 3, 1, 0, 0, 0, []) := rfl
theorem c_63_62 : mm_code 63 62 = some (Instr.iconst 2, 1, 2, 0, 0, []) := rfl
theorem c_63_63 : mm_code 63 63 = some (Instr.iadd, 1, 0, 0, 0, []) := rfl
theorem c_63_64 : mm_code 63 64 = some (Instr.sipush 128, 3, 128, 0, 0, []) := rfl
theorem c_63_67 : mm_code 63 67 = some (Instr.if_icmp .le 5, 3, 0, 72, 0, []) := rfl
theorem c_63_70 : mm_code 63 70 = some (Instr.iconst 0, 1, 0, 0, 0, []) := rfl
theorem c_63_71 : mm_code 63 71 = some (Instr.ireturn, 1, 1, 0, 0, []) := rfl
theorem c_63_72 : mm_code 63 72 = some (Instr.aload_n 0, 1, 0, 0, 0, []) := rfl
set_option maxRecDepth 100000 in theorem c_63_73 : mm_code 63 73 = some (Instr.getfield 9, 3, 0, 1, 0, [186]) := rfl
set_option maxRecDepth 100000 in theorem c_63_76 : mm_code 63 76 = some (Instr.iload 6, 2, 0, 0, 0, []) := rfl
set_option maxRecDepth 100000 in theorem c_63_78 : mm_code 63 78 = some (Instr.invokevirtual 82, 3, 4, 64, 1, [542, 543, 544, 59, 545]) := rfl
set_option maxRecDepth 100000 in theorem c_63_81 : mm_code 63 81 = some (Instr.ifCond .eq 21, 3, 0, 102, 0, []) := rfl
set_option maxRecDepth 100000 in theorem c_63_84 : mm_code 63 84 = some (Instr.aload_n 0, 1, 0, 0, 0, []) := rfl
set_option maxRecDepth 100000 in theorem c_63_85 : mm_code 63 85 = some (Instr.getfield 19, 3, 0, 1, 2, [188]) := rfl
set_option maxRecDepth 100000 in theorem c_63_88 : mm_code 63 88 = some (Instr.iload_n 3, 1, 0, 0, 0, []) := rfl
set_option maxRecDepth 100000 in theorem c_63_89 : mm_code 63 89 = some (Instr.aload_n 0, 1, 0, 0, 0, []) := rfl
set_option maxRecDepth 100000 in theorem c_63_90 : mm_code 63 90 = some (Instr.getfield 9, 3, 0, 1, 0, [186]) := rfl
set_option maxRecDepth 100000 in theorem c_63_93 : mm_code 63 93 = some (Instr.iload 6, 2, 0, 0, 0, []) := rfl
set_option maxRecDepth 100000 in theorem c_63_95 : mm_code 63 95 = some (Instr.invokevirtual 82, 3, 4, 64, 1, [542, 543, 544, 59, 545]) := rfl
set_option maxRecDepth 100000 in theorem c_63_98 : mm_code 63 98 = some (Instr.iastore, 1, 0, 0, 0, []) := rfl
set_option maxRecDepth 100000 in theorem c_63_99 : mm_code 63 99 = some (Instr.iinc 3 1, 3, 0, 0, 0, []) := rfl
set_option maxRecDepth 100000 in theorem c_63_102 : mm_code 63 102 = some (Instr.aload_n 0, 1, 0, 0, 0, []) := rfl
set_option maxRecDepth 100000 in theorem c_63_103 : mm_code 63 103 = some (Instr.getfield 19, 3, 0, 1, 2, [188]) := rfl
set_option maxRecDepth 100000 in theorem c_63_106 : mm_code 63 106 = some (Instr.iload_n 3, 1, 0, 0, 0, []) := rfl
set_option maxRecDepth 100000 in theorem c_63_107 : mm_code 63 107 = some (Instr.aload_n 0, 1, 0, 0, 0, []) := rfl
set_option maxRecDepth 100000 in theorem c_63_108 : mm_code 63 108 = some (Instr.getfield 9, 3, 0, 1, 0, [186]) := rfl
set_option maxRecDepth 100000 in theorem c_63_111 : mm_code 63 111 = some (Instr.iload 6, 2, 0, 0, 0, []) := rfl
set_option maxRecDepth 100000 in theorem c_63_113 : mm_code 63 113 = some (Instr.invokevirtual 85, 3, 4, 65, 1, [546, 547, 548, 59, 549]) := rfl
set_option maxRecDepth 100000 in theorem c_63_116 : mm_code 63 116 = some (Instr.iastore, 1, 0, 0, 0, []) := rfl
set_option maxRecDepth 100000 in theorem c_63_117 : mm_code 63 117 = some (Instr.iinc 3 1, 3, 0, 0, 0, []) := rfl
set_option maxRecDepth 100000 in theorem c_63_120 : mm_code 63 120 = some (Instr.iinc 4 1, 3, 0, 0, 0, []) := rfl
set_option maxRecDepth 100000 in theorem c_63_123 : mm_code 63 123 = some (Instr.goto (-111), 3, 0, 12, 0, []) := rfl
set_option maxRecDepth 100000 in theorem c_63_126 : mm_code 63 126 = some (Instr.iload_n 3, 1, 0, 0, 0, []) := rfl
set_option maxRecDepth 100000 in theorem c_63_127 : mm_code 63 127 = some (Instr.ifCond .ne 7, 3, 0, 134, 0, []) := rfl
set_option maxRecDepth 100000 in theorem c_63_130 : mm_code 63 130 = some (Instr.iconst 1, 1, 1, 0, 0, []) := rfl
set_option maxRecDepth 100000 in theorem c_63_131 : mm_code 63 131 = some (Instr.goto 4, 3, 0, 135, 0, []) := rfl
set_option maxRecDepth 100000 in theorem c_63_134 : mm_code 63 134 = some (Instr.iconst 0, 1, 0, 0, 0, []) := rfl
set_option maxRecDepth 100000 in theorem c_63_135 : mm_code 63 135 = some (Instr.ireturn, 1, 1, 0, 0, []) := rfl
theorem c_64_0 : mm_code 64 0 = some (Instr.iload_n 1, 1, 0, 0, 0, []) := rfl
theorem c_64_1 : mm_code 64 1 = some (Instr.ifCond .lt 20, 3, 0, 21, 0, []) := rfl
theorem c_64_4 : mm_code 64 4 = some (Instr.iload_n 1, 1, 0, 0, 0, []) := rfl
theorem c_64_5 : mm_code 64 5 = some (Instr.aload_n 0, 1, 0, 0, 0, []) := rfl
theorem c_64_6 : mm_code 64 6 = some (Instr.getfield 25, 3, 0, 4, 4, [127]) := rfl
theorem c_64_9 : mm_code 64 9 = some (Instr.if_icmp .ge 12, 3, 0, 21, 0, []) := rfl
theorem c_64_12 : mm_code 64 12 = some (Instr.aload_n 0, 1, 0, 0, 0, []) := rfl
theorem c_64_13 : mm_code 64 13 = some (Instr.getfield 18, 3, 0, 4, 2, [125]) := rfl
theorem c_64_16 : mm_code 64 16 = some (Instr.iload_n 1, 1, 0, 0, 0, []) := rfl
theorem c_64_17 : mm_code 64 17 = some (Instr.iaload, 1, 0, 0, 0, []) := rfl
theorem c_64_18 : mm_code 64 18 = some (Instr.goto 4, 3, 0, 22, 0, []) := rfl
theorem c_64_21 : mm_code 64 21 = some (Instr.iconst 0, 1, 0, 0, 0, []) := rfl
theorem c_64_22 : mm_code 64 22 = some (Instr.ireturn, 1, 0, 0, 0, []) := rfl
theorem c_65_0 : mm_code 65 0 = some (Instr.iload_n 1, 1, 0, 0, 0, []) := rfl
theorem c_65_1 : mm_code 65 1 = some (Instr.ifCond .lt 20, 3, 0, 21, 0, []) := rfl
theorem c_65_4 : mm_code 65 4 = some (Instr.iload_n 1, 1, 0, 0, 0, []) := rfl
theorem c_65_5 : mm_code 65 5 = some (Instr.aload_n 0, 1, 0, 0, 0, []) := rfl
theorem c_65_6 : mm_code 65 6 = some (Instr.getfield 25, 3, 0, 4, 4, [127]) := rfl
theorem c_65_9 : mm_code 65 9 = some (Instr.if_icmp .ge 12, 3, 0, 21, 0, []) := rfl
theorem c_65_12 : mm_code 65 12 = some (Instr.aload_n 0, 1, 0, 0, 0, []) := rfl
theorem c_65_13 : mm_code 65 13 = some (Instr.getfield 15, 3, 0, 4, 1, [124]) := rfl
theorem c_65_16 : mm_code 65 16 = some (Instr.iload_n 1, 1, 0, 0, 0, []) := rfl
theorem c_65_17 : mm_code 65 17 = some (Instr.iaload, 1, 0, 0, 0, []) := rfl
theorem c_65_18 : mm_code 65 18 = some (Instr.goto 4, 3, 0, 22, 0, []) := rfl
theorem c_65_21 : mm_code 65 21 = some (Instr.iconst 0, 1, 0, 0, 0, []) := rfl
theorem c_65_22 : mm_code 65 22 = some (Instr.ireturn, 1, 0, 0, 0, []) := rfl
theorem c_66_0 : mm_code 66 0 = some (Instr.aload_n 2, 1, 0, 0, 0, []) := rfl
theorem c_66_1 : mm_code 66 1 = some (Instr.invokevirtual 32, 3, 7, 12, 0, [554, 328, 329, 57, 330]) := rfl
theorem c_66_4 : mm_code 66 4 = some (Instr.iconst 0, 1, 0, 0, 0, []) := rfl
theorem c_66_5 : mm_code 66 5 = some (Instr.istore_n 3, 1, 0, 0, 0, []) := rfl
theorem c_66_6 : mm_code 66 6 = some (Instr.iload_n 3, 1, 0, 0, 0, []) := rfl
theorem c_66_7 : mm_code 66 7 = some (Instr.aload_n 1, 1, 0, 0, 0, []) := rfl
theorem c_66_8 : mm_code 66 8 = some (Instr.invokevirtual 37, 3, 7, 13, 0, [555, 332, 333, 57, 334]) := rfl
theorem c_66_11 : mm_code 66 11 = some (Instr.if_icmp .ge 41, 3, 0, 52, 0, []) := rfl
theorem c_66_14 : mm_code 66 14 = some (Instr.aload_n 0, 1, 0, 0, 0, []) := rfl
theorem c_66_15 : mm_code 66 15 = some (Instr.aload_n 1, 1, 0, 0, 0, []) := rfl
theorem c_66_16 : mm_code 66 16 = some (Instr.iload_n 3, 1, 0, 0, 0, []) := rfl
theorem c_66_17 : mm_code 66 17 = some (Instr.invokevirtual 41, 3, 7, 17, 1, [556, 350, 351, 57, 352]) := rfl
theorem c_66_20 : mm_code 66 20 = some (Instr.invokevirtual 28, 3, 6, 46, 1, [469, 471, 2, 60, 472]) := rfl
theorem c_66_23 : mm_code 66 23 = some (Instr.istore 4, 2, 0, 0, 0, []) := rfl
theorem c_66_25 : mm_code 66 25 = some (Instr.aload_n 2, 1, 0, 0, 0, []) := rfl
theorem c_66_26 : mm_code 66 26 = some (Instr.iload 4, 2, 0, 0, 0, []) := rfl
theorem c_66_28 : mm_code 66 28 = some (Instr.ifCond .lt 13, 3, 0, 41, 0, []) := rfl
theorem c_66_31 : mm_code 66 31 = some (Instr.aload_n 0, 1, 0, 0, 0, []) := rfl
theorem c_66_32 : mm_code 66 32 = some (Instr.getfield 15, 3, 0, 6, 1, [147]) := rfl
theorem c_66_35 : mm_code 66 35 = some (Instr.iload 4, 2, 0, 0, 0, []) := rfl
theorem c_66_37 : mm_code 66 37 = some (Instr.iaload, 1, 0, 0, 0, []) := rfl
theorem c_66_38 : mm_code 66 38 = some (Instr.goto 4, 3, 0, 42, 0, []) := rfl
theorem c_66_41 : mm_code 66 41 = some (Instr.iconst 0, 1, 0, 0, 0, []) := rfl
theorem c_66_42 : mm_code 66 42 = some (Instr.invokevirtual 44, 3, 7, 14, 1, [557, 337, 338, 57, 339]) := rfl
theorem c_66_45 : mm_code 66 45 = some (Instr.pop, 1, 0, 0, 0, []) := rfl
theorem c_66_46 : mm_code 66 46 = some (Instr.iinc 3 1, 3, 0, 0, 0, []) := rfl
theorem c_66_49 : mm_code 66 49 = some (Instr.goto (-43), 3, 0, 6, 0, []) := rfl
theorem c_66_52 : mm_code 66 52 = some (Instr.return_, 1, 0, 0, 0, []) := rfl
theorem c_67_0 : mm_code 67 0 = some (Instr.iconst 1, 1, 1, 0, 0, []) := rfl
theorem c_67_1 : mm_code 67 1 = some (Instr.istore_n 2, 1, 0, 0, 0, []) := rfl
theorem c_67_2 : mm_code 67 2 = some (Instr.iload_n 2, 1, 0, 0, 0, []) := rfl
theorem c_67_3 : mm_code 67 3 = some (Instr.aload_n 1, 1, 0, 0, 0, []) := rfl
theorem c_67_4 : mm_code 67 4 = some (Instr.invokevirtual 35, 3, 7, 13, 0, [520, 332, 333, 57, 334]) := rfl
theorem c_67_7 : mm_code 67 7 = some (Instr.if_icmp .ge 112, 3, 0, 119, 0, []) := rfl
theorem c_67_10 : mm_code 67 10 = some (Instr.aload_n 1, 1, 0, 0, 0, []) := rfl
theorem c_67_11 : mm_code 67 11 = some (Instr.iload_n 2, 1, 0, 0, 0, []) := rfl
theorem c_67_12 : mm_code 67 12 = some (Instr.invokevirtual 39, 3, 7, 17, 1, [521, 350, 351, 57, 352]) := rfl
theorem c_67_15 : mm_code 67 15 = some (Instr.istore_n 3, 1, 0, 0, 0, []) := rfl
theorem c_67_16 : mm_code 67 16 = some (Instr.aload_n 0, 1, 0, 0, 0, []) := rfl
theorem c_67_17 : mm_code 67 17 = some (Instr.getfield 28, 3, 0, 1, 3, [189]) := rfl
theorem c_67_20 : mm_code 67 20 = some (Instr.iload_n 2, 1, 0, 0, 0, []) := rfl
theorem c_67_21 : mm_code 67 21 = some (Instr.invokevirtual 39, 3, 7, 17, 1, [521, 350, 351, 57, 352]) := rfl
theorem c_67_24 : mm_code 67 24 = some (Instr.istore 4, 2, 0, 0, 0, []) := rfl
theorem c_67_26 : mm_code 67 26 = some (Instr.iload_n 2, 1, 0, 0, 0, []) := rfl
theorem c_67_27 : mm_code 67 27 = some (Instr.istore 5, 2, 0, 0, 0, []) := rfl
theorem c_67_29 : mm_code 67 29 = some (Instr.iload 4, 2, 0, 0, 0, []) := rfl
theorem c_67_31 : mm_code 67 31 = some (Instr.ifCond .le 64, 3, 0, 95, 0, []) := rfl
theorem c_67_34 : mm_code 67 34 = some (Instr.iload 5, 2, 0, 0, 0, []) := rfl
theorem c_67_36 : mm_code 67 36 = some (Instr.ifCond .le 59, 3, 0, 95, 0, []) := rfl
theorem c_67_39 : mm_code 67 39 = some (Instr.aload_n 0, 1, 0, 0, 0, []) := rfl
theorem c_67_40 : mm_code 67 40 = some (Instr.getfield 28, 3, 0, 1, 3, [189]) := rfl
theorem c_67_43 : mm_code 67 43 = some (Instr.iload 5, 2, 0, 0, 0, []) := rfl
theorem c_67_45 : mm_code 67 45 = some (Instr.iconst 1, 1, 1, 0, 0, []) := rfl
theorem c_67_46 : mm_code 67 46 = some (Instr.isub, 1, 0, 0, 0, []) := rfl
theorem c_67_47 : mm_code 67 47 = some (Instr.invokevirtual 39, 3, 7, 17, 1, [521, 350, 351, 57, 352]) := rfl
theorem c_67_50 : mm_code 67 50 = some (Instr.iload 4, 2, 0, 0, 0, []) := rfl
theorem c_67_52 : mm_code 67 52 = some (Instr.if_icmp .le 43, 3, 0, 95, 0, []) := rfl
theorem c_67_55 : mm_code 67 55 = some (Instr.aload_n 1, 1, 0, 0, 0, []) := rfl
theorem c_67_56 : mm_code 67 56 = some (Instr.iload 5, 2, 0, 0, 0, []) := rfl
theorem c_67_58 : mm_code 67 58 = some (Instr.aload_n 1, 1, 0, 0, 0, []) := rfl
theorem c_67_59 : mm_code 67 59 = some (Instr.iload 5, 2, 0, 0, 0, []) := rfl
theorem c_67_61 : mm_code 67 61 = some (Instr.iconst 1, 1, 1, 0, 0, []) := rfl
theorem c_67_62 : mm_code 67 62 = some (Instr.isub, 1, 0, 0, 0, []) := rfl
theorem c_67_63 : mm_code 67 63 = some (Instr.invokevirtual 39, 3, 7, 17, 1, [521, 350, 351, 57, 352]) := rfl
theorem c_67_66 : mm_code 67 66 = some (Instr.invokevirtual 88, 3, 7, 68, 2, [562, 563, 564, 57, 565]) := rfl
theorem c_67_69 : mm_code 67 69 = some (Instr.aload_n 0, 1, 0, 0, 0, []) := rfl
theorem c_67_70 : mm_code 67 70 = some (Instr.getfield 28, 3, 0, 1, 3, [189]) := rfl
theorem c_67_73 : mm_code 67 73 = some (Instr.iload 5, 2, 0, 0, 0, []) := rfl
theorem c_67_75 : mm_code 67 75 = some (Instr.aload_n 0, 1, 0, 0, 0, []) := rfl
set_option maxRecDepth 100000 in theorem c_67_76 : mm_code 67 76 = some (Instr.getfield 28, 3, 0, 1, 3, [189]) := rfl
set_option maxRecDepth 100000 in theorem c_67_79 : mm_code 67 79 = some (Instr.iload 5, 2, 0, 0, 0, []) := rfl
set_option maxRecDepth 100000 in theorem c_67_81 : mm_code 67 81 = some (Instr.iconst 1, 1, 1, 0, 0, []) := rfl
set_option maxRecDepth 100000 in theorem c_67_82 : mm_code 67 82 = some (Instr.isub, 1, 0, 0, 0, []) := rfl
set_option maxRecDepth 100000 in theorem c_67_83 : mm_code 67 83 = some (Instr.invokevirtual 39, 3, 7, 17, 1, [521, 350, 351, 57, 352]) := rfl
set_option maxRecDepth 100000 in theorem c_67_86 : mm_code 67 86 = some (Instr.invokevirtual 88, 3, 7, 68, 2, [562, 563, 564, 57, 565]) := rfl
set_option maxRecDepth 100000 in theorem c_67_89 : mm_code 67 89 = some (Instr.iinc 5 (-1), 3, 0, 0, 0, []) := rfl
set_option maxRecDepth 100000 in theorem c_67_92 : mm_code 67 92 = some (Instr.goto (-63), 3, 0, 29, 0, []) := rfl
set_option maxRecDepth 100000 in theorem c_67_95 : mm_code 67 95 = some (Instr.aload_n 1, 1, 0, 0, 0, []) := rfl
set_option maxRecDepth 100000 in theorem c_67_96 : mm_code 67 96 = some (Instr.iload 5, 2, 0, 0, 0, []) := rfl
set_option maxRecDepth 100000 in theorem c_67_98 : mm_code 67 98 = some (Instr.iload_n 3, 1, 0, 0, 0, []) := rfl
set_option maxRecDepth 100000 in theorem c_67_99 : mm_code 67 99 = some (Instr.invokevirtual 88, 3, 7, 68, 2, [562, 563, 564, 57, 565]) := rfl
set_option maxRecDepth 100000 in theorem c_67_102 : mm_code 67 102 = some (Instr.aload_n 0, 1, 0, 0, 0, []) := rfl
set_option maxRecDepth 100000 in theorem c_67_103 : mm_code 67 103 = some (Instr.getfield 28, 3, 0, 1, 3, [189]) := rfl
set_option maxRecDepth 100000 in theorem c_67_106 : mm_code 67 106 = some (Instr.iload 5, 2, 0, 0, 0, []) := rfl
set_option maxRecDepth 100000 in theorem c_67_108 : mm_code 67 108 = some (Instr.iload 4, 2, 0, 0, 0, []) := rfl
set_option maxRecDepth 100000 in theorem c_67_110 : mm_code 67 110 = some (Instr.invokevirtual 88, 3, 7, 68, 2, [562, 563, 564, 57, 565]) := rfl
set_option maxRecDepth 100000 in theorem c_67_113 : mm_code 67 113 = some (Instr.iinc 2 1, 3, 0, 0, 0, []) := rfl
set_option maxRecDepth 100000 in theorem c_67_116 : mm_code 67 116 = some (Instr.goto (-114), 3, 0, 2, 0, []) := rfl
set_option maxRecDepth 100000 in theorem c_67_119 : mm_code 67 119 = some (Instr.return_, 1, 0, 0, 0, []) := rfl
theorem c_68_0 : mm_code 68 0 = some (Instr.iload_n 1, 1, 0, 0, 0, []) := rfl
theorem c_68_1 : mm_code 68 1 = some (Instr.ifCond .lt 18, 3, 0, 19, 0, []) := rfl
theorem c_68_4 : mm_code 68 4 = some (Instr.iload_n 1, 1, 0, 0, 0, []) := rfl
theorem c_68_5 : mm_code 68 5 = some (Instr.aload_n 0, 1, 0, 0, 0, []) := rfl
theorem c_68_6 : mm_code 68 6 = some (Instr.getfield 13, 3, 0, 7, 1, [85]) := rfl
theorem c_68_9 : mm_code 68 9 = some (Instr.if_icmp .ge 10, 3, 0, 19, 0, []) := rfl
theorem c_68_12 : mm_code 68 12 = some (Instr.aload_n 0, 1, 0, 0, 0, []) := rfl
theorem c_68_13 : mm_code 68 13 = some (Instr.getfield 7, 3, 0, 7, 0, [84]) := rfl
theorem c_68_16 : mm_code 68 16 = some (Instr.iload_n 1, 1, 0, 0, 0, []) := rfl
theorem c_68_17 : mm_code 68 17 = some (Instr.iload_n 2, 1, 0, 0, 0, []) := rfl
theorem c_68_18 : mm_code 68 18 = some (Instr.iastore, 1, 0, 0, 0, []) := rfl
theorem c_68_19 : mm_code 68 19 = some (Instr.return_, 1, 0, 0, 0, []) := rfl
theorem c_69_0 : mm_code 69 0 = some (Instr.aload_n 0, 1, 0, 0, 0, []) := rfl
theorem c_69_1 : mm_code 69 1 = some (Instr.aload_n 1, 1, 0, 0, 0, []) := rfl
theorem c_69_2 : mm_code 69 2 = some (Instr.aload_n 2, 1, 0, 0, 0, []) := rfl
theorem c_69_3 : mm_code 69 3 = some (Instr.invokevirtual 92, 3, 1, 58, 2, [570, 516, 517, 62, 518]) := rfl
theorem c_69_6 : mm_code 69 6 = some (Instr.ifCond .ne 5, 3, 0, 11, 0, []) := rfl
theorem c_69_9 : mm_code 69 9 = some (Instr.iconst 0, 1, 0, 0, 0, []) := rfl
theorem c_69_10 : mm_code 69 10 = some (Instr.ireturn, 1, 1, 0, 0, []) := rfl
theorem c_69_11 : mm_code 69 11 = some (Instr.iconst (-1), 1, (-1), 0, 0, []) := rfl
theorem c_69_12 : mm_code 69 12 = some (Instr.istore_n 3, 1, 0, 0, 0, []) := rfl
theorem c_69_13 : mm_code 69 13 = some (Instr.iconst 0, 1, 0, 0, 0, []) := rfl
theorem c_69_14 : mm_code 69 14 = some (Instr.istore 4, 2, 0, 0, 0, []) := rfl
theorem c_69_16 : mm_code 69 16 = some (Instr.iconst 0, 1, 0, 0, 0, []) := rfl
theorem c_69_17 : mm_code 69 17 = some (Instr.istore 5, 2, 0, 0, 0, []) := rfl
theorem c_69_19 : mm_code 69 19 = some (Instr.iload 5, 2, 0, 0, 0, []) := rfl
theorem c_69_21 : mm_code 69 21 = some (Instr.aload_n 2, 1, 0, 0, 0, []) := rfl
theorem c_69_22 : mm_code 69 22 = some (Instr.invokevirtual 35, 3, 7, 13, 0, [520, 332, 333, 57, 334]) := rfl
theorem c_69_25 : mm_code 69 25 = some (Instr.if_icmp .ge 109, 3, 0, 134, 0, []) := rfl
theorem c_69_28 : mm_code 69 28 = some (Instr.aload_n 2, 1, 0, 0, 0, []) := rfl
theorem c_69_29 : mm_code 69 29 = some (Instr.iload 5, 2, 0, 0, 0, []) := rfl
theorem c_69_31 : mm_code 69 31 = some (Instr.invokevirtual 39, 3, 7, 17, 1, [521, 350, 351, 57, 352]) := rfl
theorem c_69_34 : mm_code 69 34 = some (Instr.istore 6, 2, 0, 0, 0, []) := rfl
theorem c_69_36 : mm_code 69 36 = some (Instr.aload_n 0, 1, 0, 0, 0, []) := rfl
theorem c_69_37 : mm_code 69 37 = some (Instr.getfield 28, 3, 0, 1, 3, [189]) := rfl
theorem c_69_40 : mm_code 69 40 = some (Instr.iload 5, 2, 0, 0, 0, []) := rfl
theorem c_69_42 : mm_code 69 42 = some (Instr.invokevirtual 39, 3, 7, 17, 1, [521, 350, 351, 57, 352]) := rfl
theorem c_69_45 : mm_code 69 45 = some (Instr.istore 7, 2, 0, 0, 0, []) := rfl
theorem c_69_47 : mm_code 69 47 = some (Instr.iconst (-1), 1, (-1), 0, 0, []) := rfl
theorem c_69_48 : mm_code 69 48 = some (Instr.istore 8, 2, 0, 0, 0, []) := rfl
theorem c_69_50 : mm_code 69 50 = some (Instr.iload_n 3, 1, 0, 0, 0, []) := rfl
theorem c_69_51 : mm_code 69 51 = some (Instr.ifCond .lt 31, 3, 0, 82, 0, []) := rfl
theorem c_69_54 : mm_code 69 54 = some (Instr.aload_n 0, 1, 0, 0, 0, []) := rfl
theorem c_69_55 : mm_code 69 55 = some (Instr.iload_n 3, 1, 0, 0, 0, []) := rfl
theorem c_69_56 : mm_code 69 56 = some (Instr.iload 4, 2, 0, 0, 0, []) := rfl
theorem c_69_58 : mm_code 69 58 = some (Instr.iload 7, 2, 0, 0, 0, []) := rfl
theorem c_69_60 : mm_code 69 60 = some (Instr.invokevirtual 96, 3, 1, 70, 3, [571, 573, 6, 62, 574]) := rfl
theorem c_69_63 : mm_code 69 63 = some (Instr.ifCond .eq 19, 3, 0, 82, 0, []) := rfl
theorem c_69_66 : mm_code 69 66 = some (Instr.aload_n 0, 1, 0, 0, 0, []) := rfl
theorem c_69_67 : mm_code 69 67 = some (Instr.getfield 9, 3, 0, 1, 0, [186]) := rfl
theorem c_69_70 : mm_code 69 70 = some (Instr.aload_n 2, 1, 0, 0, 0, []) := rfl
theorem c_69_71 : mm_code 69 71 = some (Instr.iload_n 3, 1, 0, 0, 0, []) := rfl
theorem c_69_72 : mm_code 69 72 = some (Instr.invokevirtual 39, 3, 7, 17, 1, [521, 350, 351, 57, 352]) := rfl
set_option maxRecDepth 100000 in theorem c_69_75 : mm_code 69 75 = some (Instr.iload 6, 2, 0, 0, 0, []) := rfl
set_option maxRecDepth 100000 in theorem c_69_77 : mm_code 69 77 = some (Instr.invokevirtual 100, 3, 4, 71, 2, [575, 576, 577, 59, 578]) := rfl
set_option maxRecDepth 100000 in theorem c_69_80 : mm_code 69 80 = some (Instr.istore 8, 2, 0, 0, 0, []) := rfl
set_option maxRecDepth 100000 in theorem c_69_82 : mm_code 69 82 = some (Instr.iload 8, 2, 0, 0, 0, []) := rfl
set_option maxRecDepth 100000 in theorem c_69_84 : mm_code 69 84 = some (Instr.iconst (-1), 1, (-1), 0, 0, []) := rfl
set_option maxRecDepth 100000 in theorem c_69_85 : mm_code 69 85 = some (Instr.if_icmp .eq 13, 3, 0, 98, 0, []) := rfl
set_option maxRecDepth 100000 in theorem c_69_88 : mm_code 69 88 = some (Instr.aload_n 2, 1, 0, 0, 0, []) := rfl
set_option maxRecDepth 100000 in theorem c_69_89 : mm_code 69 89 = some (Instr.iload_n 3, 1, 0, 0, 0, []) := rfl
set_option maxRecDepth 100000 in theorem c_69_90 : mm_code 69 90 = some (Instr.iload 8, 2, 0, 0, 0, []) := rfl
set_option maxRecDepth 100000 in theorem c_69_92 : mm_code 69 92 = some (Instr.invokevirtual 88, 3, 7, 68, 2, [562, 563, 564, 57, 565]) := rfl
set_option maxRecDepth 100000 in theorem c_69_95 : mm_code 69 95 = some (Instr.goto 33, 3, 0, 128, 0, []) := rfl
set_option maxRecDepth 100000 in theorem c_69_98 : mm_code 69 98 = some (Instr.iload 7, 2, 0, 0, 0, []) := rfl
set_option maxRecDepth 100000 in theorem c_69_100 : mm_code 69 100 = some (Instr.ifCond .ne 6, 3, 0, 106, 0, []) := rfl
set_option maxRecDepth 100000 in theorem c_69_103 : mm_code 69 103 = some (Instr.iload 4, 2, 0, 0, 0, []) := rfl
set_option maxRecDepth 100000 in theorem c_69_105 : mm_code 69 105 = some (Instr.istore_n 3, 1, 0, 0, 0, []) := rfl
set_option maxRecDepth 100000 in theorem c_69_106 : mm_code 69 106 = some (Instr.aload_n 2, 1, 0, 0, 0, []) := rfl
set_option maxRecDepth 100000 in theorem c_69_107 : mm_code 69 107 = some (Instr.iload 4, 2, 0, 0, 0, []) := rfl
set_option maxRecDepth 100000 in theorem c_69_109 : mm_code 69 109 = some (Instr.iload 6, 2, 0, 0, 0, []) := rfl
set_option maxRecDepth 100000 in theorem c_69_111 : mm_code 69 111 = some (Instr.invokevirtual 88, 3, 7, 68, 2, [562, 563, 564, 57, 565]) := rfl
set_option maxRecDepth 100000 in theorem c_69_114 : mm_code 69 114 = some (Instr.aload_n 0, 1, 0, 0, 0, []) := rfl
set_option maxRecDepth 100000 in theorem c_69_115 : mm_code 69 115 = some (Instr.getfield 28, 3, 0, 1, 3, [189]) := rfl
set_option maxRecDepth 100000 in theorem c_69_118 : mm_code 69 118 = some (Instr.iload 4, 2, 0, 0, 0, []) := rfl
set_option maxRecDepth 100000 in theorem c_69_120 : mm_code 69 120 = some (Instr.iload 7, 2, 0, 0, 0, []) := rfl
set_option maxRecDepth 100000 in theorem c_69_122 : mm_code 69 122 = some (Instr.invokevirtual 88, 3, 7, 68, 2, [562, 563, 564, 57, 565]) := rfl
set_option maxRecDepth 100000 in theorem c_69_125 : mm_code 69 125 = some (Instr.iinc 4 1, 3, 0, 0, 0, []) := rfl
set_option maxRecDepth 100000 in theorem c_69_128 : mm_code 69 128 = some (Instr.iinc 5 1, 3, 0, 0, 0, []) := rfl
set_option maxRecDepth 100000 in theorem c_69_131 : mm_code 69 131 = some (Instr.goto (-112), 3, 0, 19, 0, []) := rfl
set_option maxRecDepth 100000 in theorem c_69_134 : mm_code 69 134 = some (Instr.aload_n 2, 1, 0, 0, 0, []) := rfl
set_option maxRecDepth 100000 in theorem c_69_135 : mm_code 69 135 = some (Instr.iload 4, 2, 0, 0, 0, []) := rfl
set_option maxRecDepth 100000 in theorem c_69_137 : mm_code 69 137 = some (Instr.invokevirtual 104, 3, 7, 72, 1, [579, 580, 581, 57, 582]) := rfl
set_option maxRecDepth 100000 in theorem c_69_140 : mm_code 69 140 = some (Instr.iconst 1, 1, 1, 0, 0, []) := rfl
set_option maxRecDepth 100000 in theorem c_69_141 : mm_code 69 141 = some (Instr.ireturn, 1, 1, 0, 0, []) := rfl
theorem c_70_0 : mm_code 70 0 = some (Instr.aload_n 0, 1, 0, 0, 0, []) := rfl
theorem c_70_1 : mm_code 70 1 = some (Instr.getfield 28, 3, 0, 1, 3, [189]) := rfl
theorem c_70_4 : mm_code 70 4 = some (Instr.iload_n 2, 1, 0, 0, 0, []) := rfl
theorem c_70_5 : mm_code 70 5 = some (Instr.iconst 1, 1, 1, 0, 0, []) := rfl
theorem c_70_6 : mm_code 70 6 = some (Instr.isub, 1, 0, 0, 0, []) := rfl
theorem c_70_7 : mm_code 70 7 = some (Instr.invokevirtual 39, 3, 7, 17, 1, [521, 350, 351, 57, 352]) := rfl
theorem c_70_10 : mm_code 70 10 = some (Instr.istore 4, 2, 0, 0, 0, []) := rfl
theorem c_70_12 : mm_code 70 12 = some (Instr.iload_n 1, 1, 0, 0, 0, []) := rfl
theorem c_70_13 : mm_code 70 13 = some (Instr.iload_n 2, 1, 0, 0, 0, []) := rfl
theorem c_70_14 : mm_code 70 14 = some (Instr.iconst 1, 1, 1, 0, 0, []) := rfl
theorem c_70_15 : mm_code 70 15 = some (Instr.isub, 1, 0, 0, 0, []) := rfl
theorem c_70_16 : mm_code 70 16 = some (Instr.if_icmp .eq 14, 3, 0, 30, 0, []) := rfl
theorem c_70_19 : mm_code 70 19 = some (Instr.iload 4, 2, 0, 0, 0, []) := rfl
theorem c_70_21 : mm_code 70 21 = some (Instr.ifCond .le 13, 3, 0, 34, 0, []) := rfl
theorem c_70_24 : mm_code 70 24 = some (Instr.iload 4, 2, 0, 0, 0, []) := rfl
theorem c_70_26 : mm_code 70 26 = some (Instr.iload_n 3, 1, 0, 0, 0, []) := rfl
theorem c_70_27 : mm_code 70 27 = some (Instr.if_icmp .ge 7, 3, 0, 34, 0, []) := rfl
theorem c_70_30 : mm_code 70 30 = some (Instr.iconst 1, 1, 1, 0, 0, []) := rfl
theorem c_70_31 : mm_code 70 31 = some (Instr.goto 4, 3, 0, 35, 0, []) := rfl
theorem c_70_34 : mm_code 70 34 = some (Instr.iconst 0, 1, 0, 0, 0, []) := rfl
theorem c_70_35 : mm_code 70 35 = some (Instr.ireturn, 1, 1, 0, 0, []) := rfl
theorem c_71_0 : mm_code 71 0 = some (Instr.iload_n 1, 1, 0, 0, 0, []) := rfl
theorem c_71_1 : mm_code 71 1 = some (Instr.invokestatic 54, 3, 0, 39, 1, [443, 444, 59, 445]) := rfl
theorem c_71_4 : mm_code 71 4 = some (Instr.ifCond .eq 32, 3, 0, 36, 0, []) := rfl
theorem c_71_7 : mm_code 71 7 = some (Instr.iload_n 2, 1, 0, 0, 0, []) := rfl
theorem c_71_8 : mm_code 71 8 = some (Instr.invokestatic 57, 3, 0, 40, 1, [446, 447, 59, 448]) := rfl
theorem c_71_11 : mm_code 71 11 = some (Instr.ifCond .eq 25, 3, 0, 36, 0, []) := rfl
theorem c_71_14 : mm_code 71 14 = some (Instr.ldc 63, 2, 44032, 0, 0, [441]) := rfl
theorem c_71_16 : mm_code 71 16 = some (Instr.iload_n 1, 1, 0, 0, 0, []) := rfl
theorem c_71_17 : mm_code 71 17 = some (Instr.sipush 4352, 3, 4352, 0, 0, []) := rfl
theorem c_71_20 : mm_code 71 20 = some (Instr.isub, 1, 0, 0, 0, []) := rfl
theorem c_71_21 : mm_code 71 21 = some (Instr.sipush 588, 3, 588, 0, 0, []) := rfl
theorem c_71_24 : mm_code 71 24 = some (Instr.imul, 1, 0, 0, 0, []) := rfl
theorem c_71_25 : mm_code 71 25 = some (Instr.iadd, 1, 0, 0, 0, []) := rfl
theorem c_71_26 : mm_code 71 26 = some (Instr.iload_n 2, 1, 0, 0, 0, []) := rfl
theorem c_71_27 : mm_code 71 27 = some (Instr.sipush 4449, 3, 4449, 0, 0, []) := rfl
theorem c_71_30 : mm_code 71 30 = some (Instr.isub, 1, 0, 0, 0, []) := rfl
theorem c_71_31 : mm_code 71 31 = some (Instr.bipush 28, 2, 28, 0, 0, []) := rfl
theorem c_71_33 : mm_code 71 33 = some (Instr.imul, 1, 0, 0, 0, []) := rfl
theorem c_71_34 : mm_code 71 34 = some (Instr.iadd, 1, 0, 0, 0, []) := rfl
theorem c_71_35 : mm_code 71 35 = some (Instr.ireturn, 1, 0, 0, 0, []) := rfl
theorem c_71_36 : mm_code 71 36 = some (Instr.iload_n 1, 1, 0, 0, 0, []) := rfl
theorem c_71_37 : mm_code 71 37 = some (Instr.invokestatic 51, 3, 0, 38, 1, [438, 439, 59, 440]) := rfl
theorem c_71_40 : mm_code 71 40 = some (Instr.ifCond .eq 28, 3, 0, 68, 0, []) := rfl
theorem c_71_43 : mm_code 71 43 = some (Instr.iload_n 1, 1, 0, 0, 0, []) := rfl
theorem c_71_44 : mm_code 71 44 = some (Instr.ldc 63, 2, 44032, 0, 0, [441]) := rfl
theorem c_71_46 : mm_code 71 46 = some (Instr.isub, 1, 0, 0, 0, []) := rfl
theorem c_71_47 : mm_code 71 47 = some (Instr.bipush 28, 2, 28, 0, 0, []) := rfl
theorem c_71_49 : mm_code 71 49 = some (Instr.irem, 1, 0, 0, 0, []) := rfl
theorem c_71_50 : mm_code 71 50 = some (Instr.ifCond .ne 18, 3, 0, 68, 0, []) := rfl
theorem c_71_53 : mm_code 71 53 = some (Instr.iload_n 2, 1, 0, 0, 0, []) := rfl
theorem c_71_54 : mm_code 71 54 = some (Instr.invokestatic 60, 3, 0, 41, 1, [449, 450, 59, 451]) := rfl
theorem c_71_57 : mm_code 71 57 = some (Instr.ifCond .eq 11, 3, 0, 68, 0, []) := rfl
theorem c_71_60 : mm_code 71 60 = some (Instr.iload_n 1, 1, 0, 0, 0, []) := rfl
theorem c_71_61 : mm_code 71 61 = some (Instr.iload_n 2, 1, 0, 0, 0, []) := rfl
theorem c_71_62 : mm_code 71 62 = some (Instr.iadd, 1, 0, 0, 0, []) := rfl
theorem c_71_63 : mm_code 71 63 = some (Instr.sipush 4519, 3, 4519, 0, 0, []) := rfl
theorem c_71_66 : mm_code 71 66 = some (Instr.isub, 1, 0, 0, 0, []) := rfl
theorem c_71_67 : mm_code 71 67 = some (Instr.ireturn, 1, 0, 0, 0, []) := rfl
theorem c_71_68 : mm_code 71 68 = some (Instr.iload_n 2, 1, 0, 0, 0, []) := rfl
theorem c_71_69 : mm_code 71 69 = some (Instr.ifCond .ne 7, 3, 0, 76, 0, []) := rfl
theorem c_71_72 : mm_code 71 72 = some (Instr.iconst (-1), 1, (-1), 0, 0, []) := rfl
set_option maxRecDepth 100000 in theorem c_71_73 : mm_code 71 73 = some (Instr.goto 9, 3, 0, 82, 0, []) := rfl
set_option maxRecDepth 100000 in theorem c_71_76 : mm_code 71 76 = some (Instr.aload_n 0, 1, 0, 0, 0, []) := rfl
set_option maxRecDepth 100000 in theorem c_71_77 : mm_code 71 77 = some (Instr.iload_n 1, 1, 0, 0, 0, []) := rfl
set_option maxRecDepth 100000 in theorem c_71_78 : mm_code 71 78 = some (Instr.iload_n 2, 1, 0, 0, 0, []) := rfl
set_option maxRecDepth 100000 in theorem c_71_79 : mm_code 71 79 = some (Instr.invokevirtual 47, 3, 4, 43, 2, [456, 458, 1, 59, 459]) := rfl
set_option maxRecDepth 100000 in theorem c_71_82 : mm_code 71 82 = some (Instr.istore_n 3, 1, 0, 0, 0, []) := rfl
set_option maxRecDepth 100000 in theorem c_71_83 : mm_code 71 83 = some (Instr.iload_n 3, 1, 0, 0, 0, []) := rfl
set_option maxRecDepth 100000 in theorem c_71_84 : mm_code 71 84 = some (Instr.ifCond .lt 12, 3, 0, 96, 0, []) := rfl
set_option maxRecDepth 100000 in theorem c_71_87 : mm_code 71 87 = some (Instr.aload_n 0, 1, 0, 0, 0, []) := rfl
set_option maxRecDepth 100000 in theorem c_71_88 : mm_code 71 88 = some (Instr.getfield 11, 3, 0, 4, 0, [123]) := rfl
set_option maxRecDepth 100000 in theorem c_71_91 : mm_code 71 91 = some (Instr.iload_n 3, 1, 0, 0, 0, []) := rfl
set_option maxRecDepth 100000 in theorem c_71_92 : mm_code 71 92 = some (Instr.iaload, 1, 0, 0, 0, []) := rfl
set_option maxRecDepth 100000 in theorem c_71_93 : mm_code 71 93 = some (Instr.goto 4, 3, 0, 97, 0, []) := rfl
set_option maxRecDepth 100000 in theorem c_71_96 : mm_code 71 96 = some (Instr.iconst (-1), 1, (-1), 0, 0, []) := rfl
set_option maxRecDepth 100000 in theorem c_71_97 : mm_code 71 97 = some (Instr.ireturn, 1, 0, 0, 0, []) := rfl
theorem c_72_0 : mm_code 72 0 = some (Instr.iload_n 1, 1, 0, 0, 0, []) := rfl
theorem c_72_1 : mm_code 72 1 = some (Instr.ifCond .lt 16, 3, 0, 17, 0, []) := rfl
theorem c_72_4 : mm_code 72 4 = some (Instr.iload_n 1, 1, 0, 0, 0, []) := rfl
theorem c_72_5 : mm_code 72 5 = some (Instr.aload_n 0, 1, 0, 0, 0, []) := rfl
theorem c_72_6 : mm_code 72 6 = some (Instr.getfield 13, 3, 0, 7, 1, [85]) := rfl
theorem c_72_9 : mm_code 72 9 = some (Instr.if_icmp .ge 8, 3, 0, 17, 0, []) := rfl
theorem c_72_12 : mm_code 72 12 = some (Instr.aload_n 0, 1, 0, 0, 0, []) := rfl
theorem c_72_13 : mm_code 72 13 = some (Instr.iload_n 1, 1, 0, 0, 0, []) := rfl
theorem c_72_14 : mm_code 72 14 = some (Instr.putfield 13, 3, 1, 7, 1, [85]) := rfl
theorem c_72_17 : mm_code 72 17 = some (Instr.return_, 1, 0, 0, 0, []) := rfl
theorem c_73_0 : mm_code 73 0 = some (Instr.aload_n 0, 1, 0, 0, 0, []) := rfl
theorem c_73_1 : mm_code 73 1 = some (Instr.getfield 60, 3, 0, 9, 8, [300]) := rfl
theorem c_73_4 : mm_code 73 4 = some (Instr.aload_n 0, 1, 0, 0, 0, []) := rfl
theorem c_73_5 : mm_code 73 5 = some (Instr.getfield 18, 3, 0, 9, 1, [293]) := rfl
theorem c_73_8 : mm_code 73 8 = some (Instr.aload_n 0, 1, 0, 0, 0, []) := rfl
theorem c_73_9 : mm_code 73 9 = some (Instr.getfield 21, 3, 0, 9, 2, [294]) := rfl
theorem c_73_12 : mm_code 73 12 = some (Instr.invokevirtual 139, 3, 1, 69, 2, [566, 567, 568, 62, 569]) := rfl
theorem c_73_15 : mm_code 73 15 = some (Instr.ifCond .eq 21, 3, 0, 36, 0, []) := rfl
theorem c_73_18 : mm_code 73 18 = some (Instr.aload_n 0, 1, 0, 0, 0, []) := rfl
theorem c_73_19 : mm_code 73 19 = some (Instr.getfield 18, 3, 0, 9, 1, [293]) := rfl
theorem c_73_22 : mm_code 73 22 = some (Instr.aload_n 0, 1, 0, 0, 0, []) := rfl
theorem c_73_23 : mm_code 73 23 = some (Instr.getfield 21, 3, 0, 9, 2, [294]) := rfl
theorem c_73_26 : mm_code 73 26 = some (Instr.invokevirtual 142, 3, 7, 74, 1, [587, 588, 589, 57, 590]) := rfl
theorem c_73_29 : mm_code 73 29 = some (Instr.ifCond .eq 7, 3, 0, 36, 0, []) := rfl
theorem c_73_32 : mm_code 73 32 = some (Instr.iconst 1, 1, 1, 0, 0, []) := rfl
theorem c_73_33 : mm_code 73 33 = some (Instr.goto 4, 3, 0, 37, 0, []) := rfl
theorem c_73_36 : mm_code 73 36 = some (Instr.iconst 0, 1, 0, 0, 0, []) := rfl
theorem c_73_37 : mm_code 73 37 = some (Instr.ireturn, 1, 0, 0, 0, []) := rfl
theorem c_74_0 : mm_code 74 0 = some (Instr.aload_n 0, 1, 0, 0, 0, []) := rfl
theorem c_74_1 : mm_code 74 1 = some (Instr.aload_n 1, 1, 0, 0, 0, []) := rfl
theorem c_74_2 : mm_code 74 2 = some (Instr.invokevirtual 41, 3, 7, 75, 1, [591, 592, 593, 57, 594]) := rfl
theorem c_74_5 : mm_code 74 5 = some (Instr.ifCond .ge 7, 3, 0, 12, 0, []) := rfl
theorem c_74_8 : mm_code 74 8 = some (Instr.iconst 1, 1, 1, 0, 0, []) := rfl
theorem c_74_9 : mm_code 74 9 = some (Instr.goto 4, 3, 0, 13, 0, []) := rfl
theorem c_74_12 : mm_code 74 12 = some (Instr.iconst 0, 1, 0, 0, 0, []) := rfl
theorem c_74_13 : mm_code 74 13 = some (Instr.ireturn, 1, 1, 0, 0, []) := rfl
theorem c_75_0 : mm_code 75 0 = some (Instr.aload_n 0, 1, 0, 0, 0, []) := rfl
theorem c_75_1 : mm_code 75 1 = some (Instr.getfield 13, 3, 0, 7, 1, [85]) := rfl
theorem c_75_4 : mm_code 75 4 = some (Instr.aload_n 1, 1, 0, 0, 0, []) := rfl
theorem c_75_5 : mm_code 75 5 = some (Instr.invokevirtual 28, 3, 7, 13, 0, [374, 332, 333, 57, 334]) := rfl
theorem c_75_8 : mm_code 75 8 = some (Instr.invokestatic 35, 3, 0, 76, 2, [595, 596, 68, 597]) := rfl
theorem c_75_11 : mm_code 75 11 = some (Instr.istore_n 2, 1, 0, 0, 0, []) := rfl
theorem c_75_12 : mm_code 75 12 = some (Instr.iconst 0, 1, 0, 0, 0, []) := rfl
theorem c_75_13 : mm_code 75 13 = some (Instr.istore_n 3, 1, 0, 0, 0, []) := rfl
theorem c_75_14 : mm_code 75 14 = some (Instr.iload_n 3, 1, 0, 0, 0, []) := rfl
theorem c_75_15 : mm_code 75 15 = some (Instr.iload_n 2, 1, 0, 0, 0, []) := rfl
theorem c_75_16 : mm_code 75 16 = some (Instr.if_icmp .ge 24, 3, 0, 40, 0, []) := rfl
theorem c_75_19 : mm_code 75 19 = some (Instr.aload_n 0, 1, 0, 0, 0, []) := rfl
theorem c_75_20 : mm_code 75 20 = some (Instr.iload_n 3, 1, 0, 0, 0, []) := rfl
theorem c_75_21 : mm_code 75 21 = some (Instr.invokevirtual 17, 3, 7, 17, 1, [379, 350, 351, 57, 352]) := rfl
theorem c_75_24 : mm_code 75 24 = some (Instr.aload_n 1, 1, 0, 0, 0, []) := rfl
theorem c_75_25 : mm_code 75 25 = some (Instr.iload_n 3, 1, 0, 0, 0, []) := rfl
theorem c_75_26 : mm_code 75 26 = some (Instr.invokevirtual 17, 3, 7, 17, 1, [379, 350, 351, 57, 352]) := rfl
theorem c_75_29 : mm_code 75 29 = some (Instr.if_icmp .eq 5, 3, 0, 34, 0, []) := rfl
theorem c_75_32 : mm_code 75 32 = some (Instr.iload_n 3, 1, 0, 0, 0, []) := rfl
theorem c_75_33 : mm_code 75 33 = some (Instr.ireturn, 1, 0, 0, 0, []) := rfl
theorem c_75_34 : mm_code 75 34 = some (Instr.iinc 3 1, 3, 0, 0, 0, []) := rfl
theorem c_75_37 : mm_code 75 37 = some (Instr.goto (-23), 3, 0, 14, 0, []) := rfl
theorem c_75_40 : mm_code 75 40 = some (Instr.aload_n 0, 1, 0, 0, 0, []) := rfl
theorem c_75_41 : mm_code 75 41 = some (Instr.getfield 13, 3, 0, 7, 1, [85]) := rfl
theorem c_75_44 : mm_code 75 44 = some (Instr.aload_n 1, 1, 0, 0, 0, []) := rfl
theorem c_75_45 : mm_code 75 45 = some (Instr.invokevirtual 28, 3, 7, 13, 0, [374, 332, 333, 57, 334]) := rfl
theorem c_75_48 : mm_code 75 48 = some (Instr.if_icmp .ne 7, 3, 0, 55, 0, []) := rfl
theorem c_75_51 : mm_code 75 51 = some (Instr.iconst (-1), 1, (-1), 0, 0, []) := rfl
theorem c_75_52 : mm_code 75 52 = some (Instr.goto 4, 3, 0, 56, 0, []) := rfl
theorem c_75_55 : mm_code 75 55 = some (Instr.iload_n 2, 1, 0, 0, 0, []) := rfl
theorem c_75_56 : mm_code 75 56 = some (Instr.ireturn, 1, 0, 0, 0, []) := rfl
theorem c_76_0 : mm_code 76 0 = some (Instr.iload_n 0, 1, 0, 0, 0, []) := rfl
theorem c_76_1 : mm_code 76 1 = some (Instr.iload_n 1, 1, 0, 0, 0, []) := rfl
theorem c_76_2 : mm_code 76 2 = some (Instr.if_icmp .gt 7, 3, 0, 9, 0, []) := rfl
theorem c_76_5 : mm_code 76 5 = some (Instr.iload_n 0, 1, 0, 0, 0, []) := rfl
theorem c_76_6 : mm_code 76 6 = some (Instr.goto 4, 3, 0, 10, 0, []) := rfl
theorem c_76_9 : mm_code 76 9 = some (Instr.iload_n 1, 1, 0, 0, 0, []) := rfl
theorem c_76_10 : mm_code 76 10 = some (Instr.ireturn, 1, 0, 0, 0, []) := rfl
theorem c_77_0 : mm_code 77 0 = some (Instr.aload_n 0, 1, 0, 0, 0, []) := rfl
theorem c_77_1 : mm_code 77 1 = some (Instr.getfield 14, 3, 0, 9, 0, [292]) := rfl
theorem c_77_4 : mm_code 77 4 = some (Instr.aload_n 0, 1, 0, 0, 0, []) := rfl
theorem c_77_5 : mm_code 77 5 = some (Instr.getfield 21, 3, 0, 9, 2, [294]) := rfl
theorem c_77_8 : mm_code 77 8 = some (Instr.invokestatic 91, 3, 0, 16, 2, [344, 345, 67, 346]) := rfl
theorem c_77_11 : mm_code 77 11 = some (Instr.istore_n 1, 1, 0, 0, 0, []) := rfl
theorem c_77_12 : mm_code 77 12 = some (Instr.iload_n 1, 1, 0, 0, 0, []) := rfl
theorem c_77_13 : mm_code 77 13 = some (Instr.iconst (-1), 1, (-1), 0, 0, []) := rfl
theorem c_77_14 : mm_code 77 14 = some (Instr.if_icmp .eq 8, 3, 0, 22, 0, []) := rfl
theorem c_77_17 : mm_code 77 17 = some (Instr.iload_n 1, 1, 0, 0, 0, []) := rfl
theorem c_77_18 : mm_code 77 18 = some (Instr.invokestatic 97, 3, 0, 22, 1, [366, 367, 56, 368]) := rfl
theorem c_77_21 : mm_code 77 21 = some (Instr.ireturn, 1, 0, 0, 0, []) := rfl
theorem c_77_22 : mm_code 77 22 = some (Instr.aload_n 0, 1, 0, 0, 0, []) := rfl
theorem c_77_23 : mm_code 77 23 = some (Instr.getfield 60, 3, 0, 9, 8, [300]) := rfl
theorem c_77_26 : mm_code 77 26 = some (Instr.aload_n 0, 1, 0, 0, 0, []) := rfl
theorem c_77_27 : mm_code 77 27 = some (Instr.getfield 21, 3, 0, 9, 2, [294]) := rfl
theorem c_77_30 : mm_code 77 30 = some (Instr.aload_n 0, 1, 0, 0, 0, []) := rfl
theorem c_77_31 : mm_code 77 31 = some (Instr.getfield 24, 3, 0, 9, 3, [295]) := rfl
theorem c_77_34 : mm_code 77 34 = some (Instr.invokevirtual 135, 3, 1, 58, 2, [515, 516, 517, 62, 518]) := rfl
theorem c_77_37 : mm_code 77 37 = some (Instr.ifCond .eq 21, 3, 0, 58, 0, []) := rfl
theorem c_77_40 : mm_code 77 40 = some (Instr.aload_n 0, 1, 0, 0, 0, []) := rfl
theorem c_77_41 : mm_code 77 41 = some (Instr.getfield 60, 3, 0, 9, 8, [300]) := rfl
theorem c_77_44 : mm_code 77 44 = some (Instr.aload_n 0, 1, 0, 0, 0, []) := rfl
theorem c_77_45 : mm_code 77 45 = some (Instr.getfield 18, 3, 0, 9, 1, [293]) := rfl
theorem c_77_48 : mm_code 77 48 = some (Instr.aload_n 0, 1, 0, 0, 0, []) := rfl
theorem c_77_49 : mm_code 77 49 = some (Instr.getfield 21, 3, 0, 9, 2, [294]) := rfl
theorem c_77_52 : mm_code 77 52 = some (Instr.invokevirtual 135, 3, 1, 58, 2, [515, 516, 517, 62, 518]) := rfl
theorem c_77_55 : mm_code 77 55 = some (Instr.ifCond .ne 6, 3, 0, 61, 0, []) := rfl
theorem c_77_58 : mm_code 77 58 = some (Instr.bipush (-4), 2, (-4), 0, 0, []) := rfl
theorem c_77_60 : mm_code 77 60 = some (Instr.ireturn, 1, 0, 0, 0, []) := rfl
theorem c_77_61 : mm_code 77 61 = some (Instr.aload_n 0, 1, 0, 0, 0, []) := rfl
theorem c_77_62 : mm_code 77 62 = some (Instr.getfield 21, 3, 0, 9, 2, [294]) := rfl
theorem c_77_65 : mm_code 77 65 = some (Instr.aload_n 0, 1, 0, 0, 0, []) := rfl
theorem c_77_66 : mm_code 77 66 = some (Instr.getfield 24, 3, 0, 9, 3, [295]) := rfl
theorem c_77_69 : mm_code 77 69 = some (Instr.invokevirtual 142, 3, 7, 74, 1, [587, 588, 589, 57, 590]) := rfl
theorem c_77_72 : mm_code 77 72 = some (Instr.ifCond .eq 7, 3, 0, 79, 0, []) := rfl
theorem c_77_75 : mm_code 77 75 = some (Instr.iconst 1, 1, 1, 0, 0, []) := rfl
theorem c_77_76 : mm_code 77 76 = some (Instr.goto 4, 3, 0, 80, 0, []) := rfl
theorem c_77_79 : mm_code 77 79 = some (Instr.iconst 0, 1, 0, 0, 0, []) := rfl
theorem c_77_80 : mm_code 77 80 = some (Instr.ireturn, 1, 0, 0, 0, []) := rfl
theorem c_78_0 : mm_code 78 0 = some (Instr.aload_n 0, 1, 0, 0, 0, []) := rfl
theorem c_78_1 : mm_code 78 1 = some (Instr.getfield 21, 3, 0, 9, 2, [294]) := rfl
theorem c_78_4 : mm_code 78 4 = some (Instr.invokevirtual 78, 3, 7, 12, 0, [327, 328, 329, 57, 330]) := rfl
theorem c_78_7 : mm_code 78 7 = some (Instr.aload_n 0, 1, 0, 0, 0, []) := rfl
theorem c_78_8 : mm_code 78 8 = some (Instr.getfield 18, 3, 0, 9, 1, [293]) := rfl
theorem c_78_11 : mm_code 78 11 = some (Instr.iconst 0, 1, 0, 0, 0, []) := rfl
theorem c_78_12 : mm_code 78 12 = some (Instr.aload_n 0, 1, 0, 0, 0, []) := rfl
theorem c_78_13 : mm_code 78 13 = some (Instr.getfield 18, 3, 0, 9, 1, [293]) := rfl
theorem c_78_16 : mm_code 78 16 = some (Instr.invokevirtual 81, 3, 7, 13, 0, [331, 332, 333, 57, 334]) := rfl
theorem c_78_19 : mm_code 78 19 = some (Instr.aload_n 0, 1, 0, 0, 0, []) := rfl
theorem c_78_20 : mm_code 78 20 = some (Instr.getfield 21, 3, 0, 9, 2, [294]) := rfl
theorem c_78_23 : mm_code 78 23 = some (Instr.invokestatic 146, 3, 0, 79, 4, [606, 607, 69, 608]) := rfl
theorem c_78_26 : mm_code 78 26 = some (Instr.iconst (-1), 1, (-1), 0, 0, []) := rfl
theorem c_78_27 : mm_code 78 27 = some (Instr.if_icmp .eq 6, 3, 0, 33, 0, []) := rfl
theorem c_78_30 : mm_code 78 30 = some (Instr.bipush (-4), 2, (-4), 0, 0, []) := rfl
theorem c_78_32 : mm_code 78 32 = some (Instr.ireturn, 1, 0, 0, 0, []) := rfl
theorem c_78_33 : mm_code 78 33 = some (Instr.aload_n 0, 1, 0, 0, 0, []) := rfl
theorem c_78_34 : mm_code 78 34 = some (Instr.getfield 18, 3, 0, 9, 1, [293]) := rfl
theorem c_78_37 : mm_code 78 37 = some (Instr.aload_n 0, 1, 0, 0, 0, []) := rfl
theorem c_78_38 : mm_code 78 38 = some (Instr.getfield 21, 3, 0, 9, 2, [294]) := rfl
theorem c_78_41 : mm_code 78 41 = some (Instr.invokevirtual 101, 3, 7, 23, 1, [369, 370, 371, 57, 372]) := rfl
theorem c_78_44 : mm_code 78 44 = some (Instr.aload_n 0, 1, 0, 0, 0, []) := rfl
theorem c_78_45 : mm_code 78 45 = some (Instr.getfield 18, 3, 0, 9, 1, [293]) := rfl
theorem c_78_48 : mm_code 78 48 = some (Instr.invokevirtual 81, 3, 7, 13, 0, [331, 332, 333, 57, 334]) := rfl
theorem c_78_51 : mm_code 78 51 = some (Instr.ireturn, 1, 0, 0, 0, []) := rfl
theorem c_79_0 : mm_code 79 0 = some (Instr.iconst 0, 1, 0, 0, 0, []) := rfl
theorem c_79_1 : mm_code 79 1 = some (Instr.istore 4, 2, 0, 0, 0, []) := rfl
theorem c_79_3 : mm_code 79 3 = some (Instr.iload_n 1, 1, 0, 0, 0, []) := rfl
theorem c_79_4 : mm_code 79 4 = some (Instr.istore 5, 2, 0, 0, 0, []) := rfl
theorem c_79_6 : mm_code 79 6 = some (Instr.iload 5, 2, 0, 0, 0, []) := rfl
theorem c_79_8 : mm_code 79 8 = some (Instr.iload_n 2, 1, 0, 0, 0, []) := rfl
theorem c_79_9 : mm_code 79 9 = some (Instr.if_icmp .ge 40, 3, 0, 49, 0, []) := rfl
theorem c_79_12 : mm_code 79 12 = some (Instr.aload_n 0, 1, 0, 0, 0, []) := rfl
theorem c_79_13 : mm_code 79 13 = some (Instr.iload 5, 2, 0, 0, 0, []) := rfl
theorem c_79_15 : mm_code 79 15 = some (Instr.invokevirtual 7, 3, 7, 17, 1, [609, 350, 351, 57, 352]) := rfl
theorem c_79_18 : mm_code 79 18 = some (Instr.sipush 128, 3, 128, 0, 0, []) := rfl
theorem c_79_21 : mm_code 79 21 = some (Instr.if_icmp .ge 22, 3, 0, 43, 0, []) := rfl
theorem c_79_24 : mm_code 79 24 = some (Instr.iinc 4 1, 3, 0, 0, 0, []) := rfl
theorem c_79_27 : mm_code 79 27 = some (Instr.aload_n 3, 1, 0, 0, 0, []) := rfl
theorem c_79_28 : mm_code 79 28 = some (Instr.aload_n 0, 1, 0, 0, 0, []) := rfl
theorem c_79_29 : mm_code 79 29 = some (Instr.iload 5, 2, 0, 0, 0, []) := rfl
theorem c_79_31 : mm_code 79 31 = some (Instr.invokevirtual 7, 3, 7, 17, 1, [609, 350, 351, 57, 352]) := rfl
theorem c_79_34 : mm_code 79 34 = some (Instr.invokevirtual 15, 3, 7, 14, 1, [610, 337, 338, 57, 339]) := rfl
theorem c_79_37 : mm_code 79 37 = some (Instr.ifCond .ne 6, 3, 0, 43, 0, []) := rfl
theorem c_79_40 : mm_code 79 40 = some (Instr.bipush (-3), 2, (-3), 0, 0, []) := rfl
theorem c_79_42 : mm_code 79 42 = some (Instr.ireturn, 1, 0, 0, 0, []) := rfl
theorem c_79_43 : mm_code 79 43 = some (Instr.iinc 5 1, 3, 0, 0, 0, []) := rfl
theorem c_79_46 : mm_code 79 46 = some (Instr.goto (-40), 3, 0, 6, 0, []) := rfl
theorem c_79_49 : mm_code 79 49 = some (Instr.iload 4, 2, 0, 0, 0, []) := rfl
theorem c_79_51 : mm_code 79 51 = some (Instr.ifCond .le 15, 3, 0, 66, 0, []) := rfl
theorem c_79_54 : mm_code 79 54 = some (Instr.aload_n 3, 1, 0, 0, 0, []) := rfl
theorem c_79_55 : mm_code 79 55 = some (Instr.bipush 45, 2, 45, 0, 0, []) := rfl
theorem c_79_57 : mm_code 79 57 = some (Instr.invokevirtual 15, 3, 7, 14, 1, [610, 337, 338, 57, 339]) := rfl
theorem c_79_60 : mm_code 79 60 = some (Instr.ifCond .ne 6, 3, 0, 66, 0, []) := rfl
theorem c_79_63 : mm_code 79 63 = some (Instr.bipush (-3), 2, (-3), 0, 0, []) := rfl
theorem c_79_65 : mm_code 79 65 = some (Instr.ireturn, 1, 0, 0, 0, []) := rfl
theorem c_79_66 : mm_code 79 66 = some (Instr.aload_n 0, 1, 0, 0, 0, []) := rfl
theorem c_79_67 : mm_code 79 67 = some (Instr.iload_n 1, 1, 0, 0, 0, []) := rfl
theorem c_79_68 : mm_code 79 68 = some (Instr.iload_n 2, 1, 0, 0, 0, []) := rfl
theorem c_79_69 : mm_code 79 69 = some (Instr.iload 4, 2, 0, 0, 0, []) := rfl
theorem c_79_71 : mm_code 79 71 = some (Instr.aload_n 3, 1, 0, 0, 0, []) := rfl
theorem c_79_72 : mm_code 79 72 = some (Instr.invokestatic 19, 3, 0, 80, 5, [611, 612, 69, 613]) := rfl
theorem c_79_75 : mm_code 79 75 = some (Instr.ireturn, 1, 0, 0, 0, []) := rfl
theorem c_80_0 : mm_code 80 0 = some (Instr.sipush 128, 3, 128, 0, 0, []) := rfl
theorem c_80_3 : mm_code 80 3 = some (Instr.istore 5, 2, 0, 0, 0, []) := rfl
theorem c_80_5 : mm_code 80 5 = some (Instr.lconst 0, 1, 0, 0, 0, []) := rfl
theorem c_80_6 : mm_code 80 6 = some (Instr.lstore 6, 2, 0, 0, 0, []) := rfl
theorem c_80_8 : mm_code 80 8 = some (Instr.bipush 72, 2, 72, 0, 0, []) := rfl
theorem c_80_10 : mm_code 80 10 = some (Instr.istore 8, 2, 0, 0, 0, []) := rfl
theorem c_80_12 : mm_code 80 12 = some (Instr.iload_n 3, 1, 0, 0, 0, []) := rfl
theorem c_80_13 : mm_code 80 13 = some (Instr.istore 9, 2, 0, 0, 0, []) := rfl
theorem c_80_15 : mm_code 80 15 = some (Instr.iload_n 1, 1, 0, 0, 0, []) := rfl
theorem c_80_16 : mm_code 80 16 = some (Instr.istore 10, 2, 0, 0, 0, []) := rfl
theorem c_80_18 : mm_code 80 18 = some (Instr.iload 10, 2, 0, 0, 0, []) := rfl
theorem c_80_20 : mm_code 80 20 = some (Instr.iload_n 2, 1, 0, 0, 0, []) := rfl
theorem c_80_21 : mm_code 80 21 = some (Instr.if_icmp .ge 167, 3, 0, 188, 0, []) := rfl
theorem c_80_24 : mm_code 80 24 = some (Instr.iload 9, 2, 0, 0, 0, []) := rfl
theorem c_80_26 : mm_code 80 26 = some (Instr.iload_n 2, 1, 0, 0, 0, []) := rfl
theorem c_80_27 : mm_code 80 27 = some (Instr.iload_n 1, 1, 0, 0, 0, []) := rfl
theorem c_80_28 : mm_code 80 28 = some (Instr.isub, 1, 0, 0, 0, []) := rfl
theorem c_80_29 : mm_code 80 29 = some (Instr.if_icmp .ge 159, 3, 0, 188, 0, []) := rfl
theorem c_80_32 : mm_code 80 32 = some (Instr.aload_n 0, 1, 0, 0, 0, []) := rfl
theorem c_80_33 : mm_code 80 33 = some (Instr.iload_n 1, 1, 0, 0, 0, []) := rfl
theorem c_80_34 : mm_code 80 34 = some (Instr.iload_n 2, 1, 0, 0, 0, []) := rfl
theorem c_80_35 : mm_code 80 35 = some (Instr.iload 5, 2, 0, 0, 0, []) := rfl
theorem c_80_37 : mm_code 80 37 = some (Instr.invokestatic 23, 3, 0, 81, 4, [614, 615, 69, 616]) := rfl
theorem c_80_40 : mm_code 80 40 = some (Instr.istore 11, 2, 0, 0, 0, []) := rfl
theorem c_80_42 : mm_code 80 42 = some (Instr.lload 6, 2, 0, 0, 0, []) := rfl
theorem c_80_44 : mm_code 80 44 = some (Instr.iload 11, 2, 0, 0, 0, []) := rfl
theorem c_80_46 : mm_code 80 46 = some (Instr.iload 5, 2, 0, 0, 0, []) := rfl
theorem c_80_48 : mm_code 80 48 = some (Instr.isub, 1, 0, 0, 0, []) := rfl
theorem c_80_49 : mm_code 80 49 = some (Instr.i2l, 1, 0, 0, 0, []) := rfl
theorem c_80_50 : mm_code 80 50 = some (Instr.iload 9, 2, 0, 0, 0, []) := rfl
theorem c_80_52 : mm_code 80 52 = some (Instr.iconst 1, 1, 1, 0, 0, []) := rfl
theorem c_80_53 : mm_code 80 53 = some (Instr.iadd, 1, 0, 0, 0, []) := rfl
theorem c_80_54 : mm_code 80 54 = some (Instr.i2l, 1, 0, 0, 0, []) := rfl
theorem c_80_55 : mm_code 80 55 = some (Instr.lmul, 1, 0, 0, 0, []) := rfl
theorem c_80_56 : mm_code 80 56 = some (Instr.ladd, 1, 0, 0, 0, []) := rfl
theorem c_80_57 : mm_code 80 57 = some (Instr.lstore 6, 2, 0, 0, 0, []) := rfl
theorem c_80_59 : mm_code 80 59 = some (Instr.iload 11, 2, 0, 0, 0, []) := rfl
theorem c_80_61 : mm_code 80 61 = some (Instr.istore 5, 2, 0, 0, 0, []) := rfl
theorem c_80_63 : mm_code 80 63 = some (Instr.lload 6, 2, 0, 0, 0, []) := rfl
theorem c_80_65 : mm_code 80 65 = some (Instr.ldc2_w 27, 3, 2147483647, 0, 0, [618]) := rfl
theorem c_80_68 : mm_code 80 68 = some (Instr.lcmp, 1, 0, 0, 0, []) := rfl
set_option maxRecDepth 100000 in theorem c_80_69 : mm_code 80 69 = some (Instr.ifCond .le 6, 3, 0, 75, 0, []) := rfl
set_option maxRecDepth 100000 in theorem c_80_72 : mm_code 80 72 = some (Instr.bipush (-2), 2, (-2), 0, 0, []) := rfl
set_option maxRecDepth 100000 in theorem c_80_74 : mm_code 80 74 = some (Instr.ireturn, 1, 0, 0, 0, []) := rfl
set_option maxRecDepth 100000 in theorem c_80_75 : mm_code 80 75 = some (Instr.iload_n 1, 1, 0, 0, 0, []) := rfl
set_option maxRecDepth 100000 in theorem c_80_76 : mm_code 80 76 = some (Instr.istore 12, 2, 0, 0, 0, []) := rfl
set_option maxRecDepth 100000 in theorem c_80_78 : mm_code 80 78 = some (Instr.iload 12, 2, 0, 0, 0, []) := rfl
set_option maxRecDepth 100000 in theorem c_80_80 : mm_code 80 80 = some (Instr.iload_n 2, 1, 0, 0, 0, []) := rfl
set_option maxRecDepth 100000 in theorem c_80_81 : mm_code 80 81 = some (Instr.if_icmp .ge 92, 3, 0, 173, 0, []) := rfl
set_option maxRecDepth 100000 in theorem c_80_84 : mm_code 80 84 = some (Instr.aload_n 0, 1, 0, 0, 0, []) := rfl
set_option maxRecDepth 100000 in theorem c_80_85 : mm_code 80 85 = some (Instr.iload 12, 2, 0, 0, 0, []) := rfl
set_option maxRecDepth 100000 in theorem c_80_87 : mm_code 80 87 = some (Instr.invokevirtual 7, 3, 7, 17, 1, [609, 350, 351, 57, 352]) := rfl
set_option maxRecDepth 100000 in theorem c_80_90 : mm_code 80 90 = some (Instr.iload 5, 2, 0, 0, 0, []) := rfl
set_option maxRecDepth 100000 in theorem c_80_92 : mm_code 80 92 = some (Instr.if_icmp .ge 21, 3, 0, 113, 0, []) := rfl
set_option maxRecDepth 100000 in theorem c_80_95 : mm_code 80 95 = some (Instr.lload 6, 2, 0, 0, 0, []) := rfl
set_option maxRecDepth 100000 in theorem c_80_97 : mm_code 80 97 = some (Instr.lconst 1, 1, 1, 0, 0, []) := rfl
set_option maxRecDepth 100000 in theorem c_80_98 : mm_code 80 98 = some (Instr.ladd, 1, 0, 0, 0, []) := rfl
set_option maxRecDepth 100000 in theorem c_80_99 : mm_code 80 99 = some (Instr.lstore 6, 2, 0, 0, 0, []) := rfl
set_option maxRecDepth 100000 in theorem c_80_101 : mm_code 80 101 = some (Instr.lload 6, 2, 0, 0, 0, []) := rfl
set_option maxRecDepth 100000 in theorem c_80_103 : mm_code 80 103 = some (Instr.ldc2_w 27, 3, 2147483647, 0, 0, [618]) := rfl
set_option maxRecDepth 100000 in theorem c_80_106 : mm_code 80 106 = some (Instr.lcmp, 1, 0, 0, 0, []) := rfl
set_option maxRecDepth 100000 in theorem c_80_107 : mm_code 80 107 = some (Instr.ifCond .le 6, 3, 0, 113, 0, []) := rfl
set_option maxRecDepth 100000 in theorem c_80_110 : mm_code 80 110 = some (Instr.bipush (-2), 2, (-2), 0, 0, []) := rfl
set_option maxRecDepth 100000 in theorem c_80_112 : mm_code 80 112 = some (Instr.ireturn, 1, 0, 0, 0, []) := rfl
set_option maxRecDepth 100000 in theorem c_80_113 : mm_code 80 113 = some (Instr.aload_n 0, 1, 0, 0, 0, []) := rfl
set_option maxRecDepth 100000 in theorem c_80_114 : mm_code 80 114 = some (Instr.iload 12, 2, 0, 0, 0, []) := rfl
set_option maxRecDepth 100000 in theorem c_80_116 : mm_code 80 116 = some (Instr.invokevirtual 7, 3, 7, 17, 1, [609, 350, 351, 57, 352]) := rfl
set_option maxRecDepth 100000 in theorem c_80_119 : mm_code 80 119 = some (Instr.iload 5, 2, 0, 0, 0, []) := rfl
set_option maxRecDepth 100000 in theorem c_80_121 : mm_code 80 121 = some (Instr.if_icmp .ne 46, 3, 0, 167, 0, []) := rfl
set_option maxRecDepth 100000 in theorem c_80_124 : mm_code 80 124 = some (Instr.lload 6, 2, 0, 0, 0, []) := rfl
set_option maxRecDepth 100000 in theorem c_80_126 : mm_code 80 126 = some (Instr.iload 8, 2, 0, 0, 0, []) := rfl
set_option maxRecDepth 100000 in theorem c_80_128 : mm_code 80 128 = some (Instr.aload 4, 2, 0, 0, 0, []) := rfl
set_option maxRecDepth 100000 in theorem c_80_130 : mm_code 80 130 = some (Instr.invokestatic 29, 3, 0, 82, 3, [619, 620, 69, 621]) := rfl
set_option maxRecDepth 100000 in theorem c_80_133 : mm_code 80 133 = some (Instr.ifCond .ne 6, 3, 0, 139, 0, []) := rfl
set_option maxRecDepth 100000 in theorem c_80_136 : mm_code 80 136 = some (Instr.bipush (-3), 2, (-3), 0, 0, []) := rfl
set_option maxRecDepth 100000 in theorem c_80_138 : mm_code 80 138 = some (Instr.ireturn, 1, 0, 0, 0, []) := rfl
set_option maxRecDepth 100000 in theorem c_80_139 : mm_code 80 139 = some (Instr.lload 6, 2, 0, 0, 0, []) := rfl
set_option maxRecDepth 100000 in theorem c_80_141 : mm_code 80 141 = some (Instr.iload 9, 2, 0, 0, 0, []) := rfl
set_option maxRecDepth 100000 in theorem c_80_143 : mm_code 80 143 = some (Instr.iconst 1, 1, 1, 0, 0, []) := rfl
set_option maxRecDepth 100000 in theorem c_80_144 : mm_code 80 144 = some (Instr.iadd, 1, 0, 0, 0, []) := rfl
set_option maxRecDepth 100000 in theorem c_80_145 : mm_code 80 145 = some (Instr.iload 9, 2, 0, 0, 0, []) := rfl
set_option maxRecDepth 100000 in theorem c_80_147 : mm_code 80 147 = some (Instr.iload_n 3, 1, 0, 0, 0, []) := rfl
set_option maxRecDepth 100000 in theorem c_80_148 : mm_code 80 148 = some (Instr.if_icmp .ne 7, 3, 0, 155, 0, []) := rfl
set_option maxRecDepth 100000 in theorem c_80_151 : mm_code 80 151 = some (Instr.iconst 1, 1, 1, 0, 0, []) := rfl
set_option maxRecDepth 100000 in theorem c_80_152 : mm_code 80 152 = some (Instr.goto 4, 3, 0, 156, 0, []) := rfl
set_option maxRecDepth 100000 in theorem c_80_155 : mm_code 80 155 = some (Instr.iconst 0, 1, 0, 0, 0, []) := rfl
set_option maxRecDepth 100000 in theorem c_80_156 : mm_code 80 156 = some (Instr.invokestatic 33, 3, 0, 85, 3, [628, 629, 69, 630]) := rfl
set_option maxRecDepth 100000 in theorem c_80_159 : mm_code 80 159 = some (Instr.istore 8, 2, 0, 0, 0, []) := rfl
set_option maxRecDepth 100000 in theorem c_80_161 : mm_code 80 161 = some (Instr.lconst 0, 1, 0, 0, 0, []) := rfl
set_option maxRecDepth 100000 in theorem c_80_162 : mm_code 80 162 = some (Instr.lstore 6, 2, 0, 0, 0, []) := rfl
set_option maxRecDepth 100000 in theorem c_80_164 : mm_code 80 164 = some (Instr.iinc 9 1, 3, 0, 0, 0, []) := rfl
set_option maxRecDepth 100000 in theorem c_80_167 : mm_code 80 167 = some (Instr.iinc 12 1, 3, 0, 0, 0, []) := rfl
set_option maxRecDepth 100000 in theorem c_80_170 : mm_code 80 170 = some (Instr.goto (-92), 3, 0, 78, 0, []) := rfl
set_option maxRecDepth 100000 in theorem c_80_173 : mm_code 80 173 = some (Instr.lload 6, 2, 0, 0, 0, []) := rfl
set_option maxRecDepth 100000 in theorem c_80_175 : mm_code 80 175 = some (Instr.lconst 1, 1, 1, 0, 0, []) := rfl
set_option maxRecDepth 100000 in theorem c_80_176 : mm_code 80 176 = some (Instr.ladd, 1, 0, 0, 0, []) := rfl
set_option maxRecDepth 100000 in theorem c_80_177 : mm_code 80 177 = some (Instr.lstore 6, 2, 0, 0, 0, []) := rfl
set_option maxRecDepth 100000 in theorem c_80_179 : mm_code 80 179 = some (Instr.iinc 5 1, 3, 0, 0, 0, []) := rfl
set_option maxRecDepth 100000 in theorem c_80_182 : mm_code 80 182 = some (Instr.iinc 10 1, 3, 0, 0, 0, []) := rfl
set_option maxRecDepth 100000 in theorem c_80_185 : mm_code 80 185 = some (Instr.goto (-167), 3, 0, 18, 0, []) := rfl
set_option maxRecDepth 100000 in theorem c_80_188 : mm_code 80 188 = some (Instr.iconst (-1), 1, (-1), 0, 0, []) := rfl
set_option maxRecDepth 100000 in theorem c_80_189 : mm_code 80 189 = some (Instr.ireturn, 1, 0, 0, 0, []) := rfl
theorem c_81_0 : mm_code 81 0 = some (Instr.ldc 39, 2, 1114111, 0, 0, [617]) := rfl
theorem c_81_2 : mm_code 81 2 = some (Instr.istore 4, 2, 0, 0, 0, []) := rfl
theorem c_81_4 : mm_code 81 4 = some (Instr.iload_n 1, 1, 0, 0, 0, []) := rfl
theorem c_81_5 : mm_code 81 5 = some (Instr.istore 5, 2, 0, 0, 0, []) := rfl
theorem c_81_7 : mm_code 81 7 = some (Instr.iload 5, 2, 0, 0, 0, []) := rfl
theorem c_81_9 : mm_code 81 9 = some (Instr.iload_n 2, 1, 0, 0, 0, []) := rfl
theorem c_81_10 : mm_code 81 10 = some (Instr.if_icmp .ge 38, 3, 0, 48, 0, []) := rfl
theorem c_81_13 : mm_code 81 13 = some (Instr.aload_n 0, 1, 0, 0, 0, []) := rfl
theorem c_81_14 : mm_code 81 14 = some (Instr.iload 5, 2, 0, 0, 0, []) := rfl
theorem c_81_16 : mm_code 81 16 = some (Instr.invokevirtual 7, 3, 7, 17, 1, [609, 350, 351, 57, 352]) := rfl
theorem c_81_19 : mm_code 81 19 = some (Instr.iload_n 3, 1, 0, 0, 0, []) := rfl
theorem c_81_20 : mm_code 81 20 = some (Instr.if_icmp .lt 22, 3, 0, 42, 0, []) := rfl
theorem c_81_23 : mm_code 81 23 = some (Instr.aload_n 0, 1, 0, 0, 0, []) := rfl
theorem c_81_24 : mm_code 81 24 = some (Instr.iload 5, 2, 0, 0, 0, []) := rfl
theorem c_81_26 : mm_code 81 26 = some (Instr.invokevirtual 7, 3, 7, 17, 1, [609, 350, 351, 57, 352]) := rfl
theorem c_81_29 : mm_code 81 29 = some (Instr.iload 4, 2, 0, 0, 0, []) := rfl
theorem c_81_31 : mm_code 81 31 = some (Instr.if_icmp .ge 11, 3, 0, 42, 0, []) := rfl
theorem c_81_34 : mm_code 81 34 = some (Instr.aload_n 0, 1, 0, 0, 0, []) := rfl
theorem c_81_35 : mm_code 81 35 = some (Instr.iload 5, 2, 0, 0, 0, []) := rfl
theorem c_81_37 : mm_code 81 37 = some (Instr.invokevirtual 7, 3, 7, 17, 1, [609, 350, 351, 57, 352]) := rfl
theorem c_81_40 : mm_code 81 40 = some (Instr.istore 4, 2, 0, 0, 0, []) := rfl
theorem c_81_42 : mm_code 81 42 = some (Instr.iinc 5 1, 3, 0, 0, 0, []) := rfl
theorem c_81_45 : mm_code 81 45 = some (Instr.goto (-38), 3, 0, 7, 0, []) := rfl
theorem c_81_48 : mm_code 81 48 = some (Instr.iload 4, 2, 0, 0, 0, []) := rfl
theorem c_81_50 : mm_code 81 50 = some (Instr.ireturn, 1, 0, 0, 0, []) := rfl
theorem c_82_0 : mm_code 82 0 = some (Instr.lload_n 0, 1, 0, 0, 0, []) := rfl
theorem c_82_1 : mm_code 82 1 = some (Instr.lstore 4, 2, 0, 0, 0, []) := rfl
theorem c_82_3 : mm_code 82 3 = some (Instr.iconst 1, 1, 1, 0, 0, []) := rfl
theorem c_82_4 : mm_code 82 4 = some (Instr.istore 6, 2, 0, 0, 0, []) := rfl
theorem c_82_6 : mm_code 82 6 = some (Instr.iload 6, 2, 0, 0, 0, []) := rfl
theorem c_82_8 : mm_code 82 8 = some (Instr.bipush 40, 2, 40, 0, 0, []) := rfl
theorem c_82_10 : mm_code 82 10 = some (Instr.if_icmp .gt 85, 3, 0, 95, 0, []) := rfl
theorem c_82_13 : mm_code 82 13 = some (Instr.bipush 36, 2, 36, 0, 0, []) := rfl
theorem c_82_15 : mm_code 82 15 = some (Instr.iload 6, 2, 0, 0, 0, []) := rfl
theorem c_82_17 : mm_code 82 17 = some (Instr.imul, 1, 0, 0, 0, []) := rfl
theorem c_82_18 : mm_code 82 18 = some (Instr.iload_n 2, 1, 0, 0, 0, []) := rfl
theorem c_82_19 : mm_code 82 19 = some (Instr.invokestatic 40, 3, 0, 83, 2, [622, 623, 69, 624]) := rfl
theorem c_82_22 : mm_code 82 22 = some (Instr.istore 7, 2, 0, 0, 0, []) := rfl
theorem c_82_24 : mm_code 82 24 = some (Instr.lload 4, 2, 0, 0, 0, []) := rfl
theorem c_82_26 : mm_code 82 26 = some (Instr.iload 7, 2, 0, 0, 0, []) := rfl
theorem c_82_28 : mm_code 82 28 = some (Instr.i2l, 1, 0, 0, 0, []) := rfl
theorem c_82_29 : mm_code 82 29 = some (Instr.lcmp, 1, 0, 0, 0, []) := rfl
theorem c_82_30 : mm_code 82 30 = some (Instr.ifCond .ge 14, 3, 0, 44, 0, []) := rfl
theorem c_82_33 : mm_code 82 33 = some (Instr.aload_n 3, 1, 0, 0, 0, []) := rfl
theorem c_82_34 : mm_code 82 34 = some (Instr.lload 4, 2, 0, 0, 0, []) := rfl
theorem c_82_36 : mm_code 82 36 = some (Instr.l2i, 1, 0, 0, 0, []) := rfl
theorem c_82_37 : mm_code 82 37 = some (Instr.invokestatic 44, 3, 0, 84, 1, [625, 626, 69, 627]) := rfl
theorem c_82_40 : mm_code 82 40 = some (Instr.invokevirtual 15, 3, 7, 14, 1, [610, 337, 338, 57, 339]) := rfl
theorem c_82_43 : mm_code 82 43 = some (Instr.ireturn, 1, 1, 0, 0, []) := rfl
theorem c_82_44 : mm_code 82 44 = some (Instr.aload_n 3, 1, 0, 0, 0, []) := rfl
theorem c_82_45 : mm_code 82 45 = some (Instr.iload 7, 2, 0, 0, 0, []) := rfl
theorem c_82_47 : mm_code 82 47 = some (Instr.i2l, 1, 0, 0, 0, []) := rfl
theorem c_82_48 : mm_code 82 48 = some (Instr.lload 4, 2, 0, 0, 0, []) := rfl
theorem c_82_50 : mm_code 82 50 = some (Instr.iload 7, 2, 0, 0, 0, []) := rfl
theorem c_82_52 : mm_code 82 52 = some (Instr.i2l, 1, 0, 0, 0, []) := rfl
theorem c_82_53 : mm_code 82 53 = some (Instr.lsub, 1, 0, 0, 0, []) := rfl
theorem c_82_54 : mm_code 82 54 = some (Instr.bipush 36, 2, 36, 0, 0, []) := rfl
theorem c_82_56 : mm_code 82 56 = some (Instr.iload 7, 2, 0, 0, 0, []) := rfl
theorem c_82_58 : mm_code 82 58 = some (Instr.isub, 1, 0, 0, 0, []) := rfl
theorem c_82_59 : mm_code 82 59 = some (Instr.i2l, 1, 0, 0, 0, []) := rfl
theorem c_82_60 : mm_code 82 60 = some (Instr.lrem, 1, 0, 0, 0, []) := rfl
theorem c_82_61 : mm_code 82 61 = some (Instr.ladd, 1, 0, 0, 0, []) := rfl
theorem c_82_62 : mm_code 82 62 = some (Instr.l2i, 1, 0, 0, 0, []) := rfl
theorem c_82_63 : mm_code 82 63 = some (Instr.invokestatic 44, 3, 0, 84, 1, [625, 626, 69, 627]) := rfl
theorem c_82_66 : mm_code 82 66 = some (Instr.invokevirtual 15, 3, 7, 14, 1, [610, 337, 338, 57, 339]) := rfl
theorem c_82_69 : mm_code 82 69 = some (Instr.ifCond .ne 5, 3, 0, 74, 0, []) := rfl
set_option maxRecDepth 100000 in theorem c_82_72 : mm_code 82 72 = some (Instr.iconst 0, 1, 0, 0, 0, []) := rfl
set_option maxRecDepth 100000 in theorem c_82_73 : mm_code 82 73 = some (Instr.ireturn, 1, 1, 0, 0, []) := rfl
set_option maxRecDepth 100000 in theorem c_82_74 : mm_code 82 74 = some (Instr.lload 4, 2, 0, 0, 0, []) := rfl
set_option maxRecDepth 100000 in theorem c_82_76 : mm_code 82 76 = some (Instr.iload 7, 2, 0, 0, 0, []) := rfl
set_option maxRecDepth 100000 in theorem c_82_78 : mm_code 82 78 = some (Instr.i2l, 1, 0, 0, 0, []) := rfl
set_option maxRecDepth 100000 in theorem c_82_79 : mm_code 82 79 = some (Instr.lsub, 1, 0, 0, 0, []) := rfl
set_option maxRecDepth 100000 in theorem c_82_80 : mm_code 82 80 = some (Instr.bipush 36, 2, 36, 0, 0, []) := rfl
set_option maxRecDepth 100000 in theorem c_82_82 : mm_code 82 82 = some (Instr.iload 7, 2, 0, 0, 0, []) := rfl
set_option maxRecDepth 100000 in theorem c_82_84 : mm_code 82 84 = some (Instr.isub, 1, 0, 0, 0, []) := rfl
set_option maxRecDepth 100000 in theorem c_82_85 : mm_code 82 85 = some (Instr.i2l, 1, 0, 0, 0, []) := rfl
set_option maxRecDepth 100000 in theorem c_82_86 : mm_code 82 86 = some (Instr.ldiv, 1, 0, 0, 0, []) := rfl
set_option maxRecDepth 100000 in theorem c_82_87 : mm_code 82 87 = some (Instr.lstore 4, 2, 0, 0, 0, []) := rfl
set_option maxRecDepth 100000 in theorem c_82_89 : mm_code 82 89 = some (Instr.iinc 6 1, 3, 0, 0, 0, []) := rfl
set_option maxRecDepth 100000 in theorem c_82_92 : mm_code 82 92 = some (Instr.goto (-86), 3, 0, 6, 0, []) := rfl
set_option maxRecDepth 100000 in theorem c_82_95 : mm_code 82 95 = some (Instr.iconst 0, 1, 0, 0, 0, []) := rfl
set_option maxRecDepth 100000 in theorem c_82_96 : mm_code 82 96 = some (Instr.ireturn, 1, 1, 0, 0, []) := rfl
theorem c_83_0 : mm_code 83 0 = some (Instr.iload_n 0, 1, 0, 0, 0, []) := rfl
theorem c_83_1 : mm_code 83 1 = some (Instr.iload_n 1, 1, 0, 0, 0, []) := rfl
theorem c_83_2 : mm_code 83 2 = some (Instr.isub, 1, 0, 0, 0, []) := rfl
theorem c_83_3 : mm_code 83 3 = some (Instr.iconst 1, 1, 1, 0, 0, []) := rfl
theorem c_83_4 : mm_code 83 4 = some (Instr.if_icmp .ge 7, 3, 0, 11, 0, []) := rfl
theorem c_83_7 : mm_code 83 7 = some (Instr.iconst 1, 1, 1, 0, 0, []) := rfl
theorem c_83_8 : mm_code 83 8 = some (Instr.goto 19, 3, 0, 27, 0, []) := rfl
theorem c_83_11 : mm_code 83 11 = some (Instr.iload_n 0, 1, 0, 0, 0, []) := rfl
theorem c_83_12 : mm_code 83 12 = some (Instr.iload_n 1, 1, 0, 0, 0, []) := rfl
theorem c_83_13 : mm_code 83 13 = some (Instr.isub, 1, 0, 0, 0, []) := rfl
theorem c_83_14 : mm_code 83 14 = some (Instr.bipush 26, 2, 26, 0, 0, []) := rfl
theorem c_83_16 : mm_code 83 16 = some (Instr.if_icmp .le 8, 3, 0, 24, 0, []) := rfl
theorem c_83_19 : mm_code 83 19 = some (Instr.bipush 26, 2, 26, 0, 0, []) := rfl
theorem c_83_21 : mm_code 83 21 = some (Instr.goto 6, 3, 0, 27, 0, []) := rfl
theorem c_83_24 : mm_code 83 24 = some (Instr.iload_n 0, 1, 0, 0, 0, []) := rfl
theorem c_83_25 : mm_code 83 25 = some (Instr.iload_n 1, 1, 0, 0, 0, []) := rfl
theorem c_83_26 : mm_code 83 26 = some (Instr.isub, 1, 0, 0, 0, []) := rfl
theorem c_83_27 : mm_code 83 27 = some (Instr.ireturn, 1, 0, 0, 0, []) := rfl
theorem c_84_0 : mm_code 84 0 = some (Instr.iload_n 0, 1, 0, 0, 0, []) := rfl
theorem c_84_1 : mm_code 84 1 = some (Instr.bipush 26, 2, 26, 0, 0, []) := rfl
theorem c_84_3 : mm_code 84 3 = some (Instr.if_icmp .ge 10, 3, 0, 13, 0, []) := rfl
theorem c_84_6 : mm_code 84 6 = some (Instr.bipush 97, 2, 97, 0, 0, []) := rfl
theorem c_84_8 : mm_code 84 8 = some (Instr.iload_n 0, 1, 0, 0, 0, []) := rfl
theorem c_84_9 : mm_code 84 9 = some (Instr.iadd, 1, 0, 0, 0, []) := rfl
theorem c_84_10 : mm_code 84 10 = some (Instr.goto 10, 3, 0, 20, 0, []) := rfl
theorem c_84_13 : mm_code 84 13 = some (Instr.bipush 48, 2, 48, 0, 0, []) := rfl
theorem c_84_15 : mm_code 84 15 = some (Instr.iload_n 0, 1, 0, 0, 0, []) := rfl
theorem c_84_16 : mm_code 84 16 = some (Instr.iadd, 1, 0, 0, 0, []) := rfl
theorem c_84_17 : mm_code 84 17 = some (Instr.bipush 26, 2, 26, 0, 0, []) := rfl
theorem c_84_19 : mm_code 84 19 = some (Instr.isub, 1, 0, 0, 0, []) := rfl
theorem c_84_20 : mm_code 84 20 = some (Instr.ireturn, 1, 0, 0, 0, []) := rfl
theorem c_85_0 : mm_code 85 0 = some (Instr.iload_n 3, 1, 0, 0, 0, []) := rfl
theorem c_85_1 : mm_code 85 1 = some (Instr.ifCond .eq 11, 3, 0, 12, 0, []) := rfl
theorem c_85_4 : mm_code 85 4 = some (Instr.lload_n 0, 1, 0, 0, 0, []) := rfl
theorem c_85_5 : mm_code 85 5 = some (Instr.ldc2_w 47, 3, 700, 0, 0, [631]) := rfl
theorem c_85_8 : mm_code 85 8 = some (Instr.ldiv, 1, 0, 0, 0, []) := rfl
theorem c_85_9 : mm_code 85 9 = some (Instr.goto 8, 3, 0, 17, 0, []) := rfl
theorem c_85_12 : mm_code 85 12 = some (Instr.lload_n 0, 1, 0, 0, 0, []) := rfl
theorem c_85_13 : mm_code 85 13 = some (Instr.ldc2_w 49, 3, 2, 0, 0, [632]) := rfl
theorem c_85_16 : mm_code 85 16 = some (Instr.ldiv, 1, 0, 0, 0, []) := rfl
theorem c_85_17 : mm_code 85 17 = some (Instr.lstore 4, 2, 0, 0, 0, []) := rfl
theorem c_85_19 : mm_code 85 19 = some (Instr.lload 4, 2, 0, 0, 0, []) := rfl
theorem c_85_21 : mm_code 85 21 = some (Instr.lload 4, 2, 0, 0, 0, []) := rfl
theorem c_85_23 : mm_code 85 23 = some (Instr.iload_n 2, 1, 0, 0, 0, []) := rfl
theorem c_85_24 : mm_code 85 24 = some (Instr.i2l, 1, 0, 0, 0, []) := rfl
theorem c_85_25 : mm_code 85 25 = some (Instr.ldiv, 1, 0, 0, 0, []) := rfl
theorem c_85_26 : mm_code 85 26 = some (Instr.ladd, 1, 0, 0, 0, []) := rfl
theorem c_85_27 : mm_code 85 27 = some (Instr.lstore 4, 2, 0, 0, 0, []) := rfl
theorem c_85_29 : mm_code 85 29 = some (Instr.iconst 0, 1, 0, 0, 0, []) := rfl
theorem c_85_30 : mm_code 85 30 = some (Instr.istore 6, 2, 0, 0, 0, []) := rfl
theorem c_85_32 : mm_code 85 32 = some (Instr.iconst 0, 1, 0, 0, 0, []) := rfl
theorem c_85_33 : mm_code 85 33 = some (Instr.istore 7, 2, 0, 0, 0, []) := rfl
theorem c_85_35 : mm_code 85 35 = some (Instr.lload 4, 2, 0, 0, 0, []) := rfl
theorem c_85_37 : mm_code 85 37 = some (Instr.ldc2_w 51, 3, 455, 0, 0, [633]) := rfl
theorem c_85_40 : mm_code 85 40 = some (Instr.lcmp, 1, 0, 0, 0, []) := rfl
theorem c_85_41 : mm_code 85 41 = some (Instr.ifCond .le 27, 3, 0, 68, 0, []) := rfl
theorem c_85_44 : mm_code 85 44 = some (Instr.iload 7, 2, 0, 0, 0, []) := rfl
theorem c_85_46 : mm_code 85 46 = some (Instr.bipush 40, 2, 40, 0, 0, []) := rfl
theorem c_85_48 : mm_code 85 48 = some (Instr.if_icmp .ge 20, 3, 0, 68, 0, []) := rfl
theorem c_85_51 : mm_code 85 51 = some (Instr.lload 4, 2, 0, 0, 0, []) := rfl
theorem c_85_53 : mm_code 85 53 = some (Instr.ldc2_w 53, 3, 35, 0, 0, [634]) := rfl
theorem c_85_56 : mm_code 85 56 = some (Instr.ldiv, 1, 0, 0, 0, []) := rfl
theorem c_85_57 : mm_code 85 57 = some (Instr.lstore 4, 2, 0, 0, 0, []) := rfl
theorem c_85_59 : mm_code 85 59 = some (Instr.iinc 6 36, 3, 0, 0, 0, []) := rfl
theorem c_85_62 : mm_code 85 62 = some (Instr.iinc 7 1, 3, 0, 0, 0, []) := rfl
theorem c_85_65 : mm_code 85 65 = some (Instr.goto (-30), 3, 0, 35, 0, []) := rfl
theorem c_85_68 : mm_code 85 68 = some (Instr.iload 6, 2, 0, 0, 0, []) := rfl
theorem c_85_70 : mm_code 85 70 = some (Instr.ldc2_w 55, 3, 36, 0, 0, [635]) := rfl
theorem c_85_73 : mm_code 85 73 = some (Instr.lload 4, 2, 0, 0, 0, []) := rfl
theorem c_85_75 : mm_code 85 75 = some (Instr.lmul, 1, 0, 0, 0, []) := rfl
theorem c_85_76 : mm_code 85 76 = some (Instr.lload 4, 2, 0, 0, 0, []) := rfl
theorem c_85_78 : mm_code 85 78 = some (Instr.ldc2_w 57, 3, 38, 0, 0, [636]) := rfl
set_option maxRecDepth 100000 in theorem c_85_81 : mm_code 85 81 = some (Instr.ladd, 1, 0, 0, 0, []) := rfl
set_option maxRecDepth 100000 in theorem c_85_82 : mm_code 85 82 = some (Instr.ldiv, 1, 0, 0, 0, []) := rfl
set_option maxRecDepth 100000 in theorem c_85_83 : mm_code 85 83 = some (Instr.l2i, 1, 0, 0, 0, []) := rfl
set_option maxRecDepth 100000 in theorem c_85_84 : mm_code 85 84 = some (Instr.iadd, 1, 0, 0, 0, []) := rfl
set_option maxRecDepth 100000 in theorem c_85_85 : mm_code 85 85 = some (Instr.ireturn, 1, 0, 0, 0, []) := rfl
theorem c_86_0 : mm_code 86 0 = some (Instr.aload_n 0, 1, 0, 0, 0, []) := rfl
theorem c_86_1 : mm_code 86 1 = some (Instr.getfield 18, 3, 0, 9, 1, [293]) := rfl
theorem c_86_4 : mm_code 86 4 = some (Instr.iconst 0, 1, 0, 0, 0, []) := rfl
theorem c_86_5 : mm_code 86 5 = some (Instr.aload_n 0, 1, 0, 0, 0, []) := rfl
theorem c_86_6 : mm_code 86 6 = some (Instr.getfield 21, 3, 0, 9, 2, [294]) := rfl
theorem c_86_9 : mm_code 86 9 = some (Instr.invokestatic 152, 3, 0, 87, 3, [641, 642, 69, 643]) := rfl
theorem c_86_12 : mm_code 86 12 = some (Instr.istore_n 1, 1, 0, 0, 0, []) := rfl
theorem c_86_13 : mm_code 86 13 = some (Instr.iload_n 1, 1, 0, 0, 0, []) := rfl
theorem c_86_14 : mm_code 86 14 = some (Instr.iconst (-1), 1, (-1), 0, 0, []) := rfl
theorem c_86_15 : mm_code 86 15 = some (Instr.if_icmp .eq 8, 3, 0, 23, 0, []) := rfl
theorem c_86_18 : mm_code 86 18 = some (Instr.bipush (-10), 2, (-10), 0, 0, []) := rfl
theorem c_86_20 : mm_code 86 20 = some (Instr.iload_n 1, 1, 0, 0, 0, []) := rfl
theorem c_86_21 : mm_code 86 21 = some (Instr.isub, 1, 0, 0, 0, []) := rfl
theorem c_86_22 : mm_code 86 22 = some (Instr.ireturn, 1, 0, 0, 0, []) := rfl
theorem c_86_23 : mm_code 86 23 = some (Instr.aload_n 0, 1, 0, 0, 0, []) := rfl
theorem c_86_24 : mm_code 86 24 = some (Instr.getfield 18, 3, 0, 9, 1, [293]) := rfl
theorem c_86_27 : mm_code 86 27 = some (Instr.aload_n 0, 1, 0, 0, 0, []) := rfl
theorem c_86_28 : mm_code 86 28 = some (Instr.getfield 21, 3, 0, 9, 2, [294]) := rfl
theorem c_86_31 : mm_code 86 31 = some (Instr.invokevirtual 101, 3, 7, 23, 1, [369, 370, 371, 57, 372]) := rfl
theorem c_86_34 : mm_code 86 34 = some (Instr.aload_n 0, 1, 0, 0, 0, []) := rfl
theorem c_86_35 : mm_code 86 35 = some (Instr.getfield 18, 3, 0, 9, 1, [293]) := rfl
theorem c_86_38 : mm_code 86 38 = some (Instr.invokevirtual 81, 3, 7, 13, 0, [331, 332, 333, 57, 334]) := rfl
theorem c_86_41 : mm_code 86 41 = some (Instr.ireturn, 1, 0, 0, 0, []) := rfl
theorem c_87_0 : mm_code 87 0 = some (Instr.iload_n 1, 1, 0, 0, 0, []) := rfl
theorem c_87_1 : mm_code 87 1 = some (Instr.istore_n 3, 1, 0, 0, 0, []) := rfl
theorem c_87_2 : mm_code 87 2 = some (Instr.iload_n 1, 1, 0, 0, 0, []) := rfl
theorem c_87_3 : mm_code 87 3 = some (Instr.istore 4, 2, 0, 0, 0, []) := rfl
theorem c_87_5 : mm_code 87 5 = some (Instr.iload 4, 2, 0, 0, 0, []) := rfl
theorem c_87_7 : mm_code 87 7 = some (Instr.aload_n 0, 1, 0, 0, 0, []) := rfl
theorem c_87_8 : mm_code 87 8 = some (Instr.invokevirtual 59, 3, 7, 13, 0, [644, 332, 333, 57, 334]) := rfl
theorem c_87_11 : mm_code 87 11 = some (Instr.if_icmp .ge 40, 3, 0, 51, 0, []) := rfl
theorem c_87_14 : mm_code 87 14 = some (Instr.aload_n 0, 1, 0, 0, 0, []) := rfl
theorem c_87_15 : mm_code 87 15 = some (Instr.iload 4, 2, 0, 0, 0, []) := rfl
theorem c_87_17 : mm_code 87 17 = some (Instr.invokevirtual 7, 3, 7, 17, 1, [609, 350, 351, 57, 352]) := rfl
theorem c_87_20 : mm_code 87 20 = some (Instr.sipush 128, 3, 128, 0, 0, []) := rfl
theorem c_87_23 : mm_code 87 23 = some (Instr.if_icmp .lt 8, 3, 0, 31, 0, []) := rfl
theorem c_87_26 : mm_code 87 26 = some (Instr.iload 4, 2, 0, 0, 0, []) := rfl
theorem c_87_28 : mm_code 87 28 = some (Instr.iload_n 1, 1, 0, 0, 0, []) := rfl
theorem c_87_29 : mm_code 87 29 = some (Instr.isub, 1, 0, 0, 0, []) := rfl
theorem c_87_30 : mm_code 87 30 = some (Instr.ireturn, 1, 0, 0, 0, []) := rfl
theorem c_87_31 : mm_code 87 31 = some (Instr.aload_n 0, 1, 0, 0, 0, []) := rfl
theorem c_87_32 : mm_code 87 32 = some (Instr.iload 4, 2, 0, 0, 0, []) := rfl
theorem c_87_34 : mm_code 87 34 = some (Instr.invokevirtual 7, 3, 7, 17, 1, [609, 350, 351, 57, 352]) := rfl
theorem c_87_37 : mm_code 87 37 = some (Instr.bipush 45, 2, 45, 0, 0, []) := rfl
theorem c_87_39 : mm_code 87 39 = some (Instr.if_icmp .ne 6, 3, 0, 45, 0, []) := rfl
theorem c_87_42 : mm_code 87 42 = some (Instr.iload 4, 2, 0, 0, 0, []) := rfl
theorem c_87_44 : mm_code 87 44 = some (Instr.istore_n 3, 1, 0, 0, 0, []) := rfl
theorem c_87_45 : mm_code 87 45 = some (Instr.iinc 4 1, 3, 0, 0, 0, []) := rfl
theorem c_87_48 : mm_code 87 48 = some (Instr.goto (-43), 3, 0, 5, 0, []) := rfl
theorem c_87_51 : mm_code 87 51 = some (Instr.aload_n 2, 1, 0, 0, 0, []) := rfl
theorem c_87_52 : mm_code 87 52 = some (Instr.invokevirtual 63, 3, 7, 12, 0, [645, 328, 329, 57, 330]) := rfl
theorem c_87_55 : mm_code 87 55 = some (Instr.aload_n 2, 1, 0, 0, 0, []) := rfl
theorem c_87_56 : mm_code 87 56 = some (Instr.aload_n 0, 1, 0, 0, 0, []) := rfl
theorem c_87_57 : mm_code 87 57 = some (Instr.iload_n 1, 1, 0, 0, 0, []) := rfl
theorem c_87_58 : mm_code 87 58 = some (Instr.iload_n 3, 1, 0, 0, 0, []) := rfl
theorem c_87_59 : mm_code 87 59 = some (Instr.invokevirtual 66, 3, 7, 24, 3, [646, 376, 377, 57, 378]) := rfl
theorem c_87_62 : mm_code 87 62 = some (Instr.pop, 1, 0, 0, 0, []) := rfl
theorem c_87_63 : mm_code 87 63 = some (Instr.aload_n 0, 1, 0, 0, 0, []) := rfl
theorem c_87_64 : mm_code 87 64 = some (Instr.iload_n 3, 1, 0, 0, 0, []) := rfl
theorem c_87_65 : mm_code 87 65 = some (Instr.iload_n 1, 1, 0, 0, 0, []) := rfl
theorem c_87_66 : mm_code 87 66 = some (Instr.if_icmp .le 9, 3, 0, 75, 0, []) := rfl
theorem c_87_69 : mm_code 87 69 = some (Instr.iload_n 3, 1, 0, 0, 0, []) := rfl
theorem c_87_70 : mm_code 87 70 = some (Instr.iconst 1, 1, 1, 0, 0, []) := rfl
theorem c_87_71 : mm_code 87 71 = some (Instr.iadd, 1, 0, 0, 0, []) := rfl
set_option maxRecDepth 100000 in theorem c_87_72 : mm_code 87 72 = some (Instr.goto 4, 3, 0, 76, 0, []) := rfl
set_option maxRecDepth 100000 in theorem c_87_75 : mm_code 87 75 = some (Instr.iload_n 1, 1, 0, 0, 0, []) := rfl
set_option maxRecDepth 100000 in theorem c_87_76 : mm_code 87 76 = some (Instr.aload_n 2, 1, 0, 0, 0, []) := rfl
set_option maxRecDepth 100000 in theorem c_87_77 : mm_code 87 77 = some (Instr.invokestatic 70, 3, 0, 88, 3, [647, 648, 69, 649]) := rfl
set_option maxRecDepth 100000 in theorem c_87_80 : mm_code 87 80 = some (Instr.istore 4, 2, 0, 0, 0, []) := rfl
set_option maxRecDepth 100000 in theorem c_87_82 : mm_code 87 82 = some (Instr.iload 4, 2, 0, 0, 0, []) := rfl
set_option maxRecDepth 100000 in theorem c_87_84 : mm_code 87 84 = some (Instr.iconst (-1), 1, (-1), 0, 0, []) := rfl
set_option maxRecDepth 100000 in theorem c_87_85 : mm_code 87 85 = some (Instr.if_icmp .ne 7, 3, 0, 92, 0, []) := rfl
set_option maxRecDepth 100000 in theorem c_87_88 : mm_code 87 88 = some (Instr.iconst (-1), 1, (-1), 0, 0, []) := rfl
set_option maxRecDepth 100000 in theorem c_87_89 : mm_code 87 89 = some (Instr.goto 7, 3, 0, 96, 0, []) := rfl
set_option maxRecDepth 100000 in theorem c_87_92 : mm_code 87 92 = some (Instr.iload 4, 2, 0, 0, 0, []) := rfl
set_option maxRecDepth 100000 in theorem c_87_94 : mm_code 87 94 = some (Instr.iload_n 1, 1, 0, 0, 0, []) := rfl
set_option maxRecDepth 100000 in theorem c_87_95 : mm_code 87 95 = some (Instr.isub, 1, 0, 0, 0, []) := rfl
set_option maxRecDepth 100000 in theorem c_87_96 : mm_code 87 96 = some (Instr.ireturn, 1, 0, 0, 0, []) := rfl
theorem c_88_0 : mm_code 88 0 = some (Instr.ldc2_w 74, 3, 128, 0, 0, [650]) := rfl
theorem c_88_3 : mm_code 88 3 = some (Instr.lstore_n 3, 1, 0, 0, 0, []) := rfl
theorem c_88_4 : mm_code 88 4 = some (Instr.lconst 0, 1, 0, 0, 0, []) := rfl
theorem c_88_5 : mm_code 88 5 = some (Instr.lstore 5, 2, 0, 0, 0, []) := rfl
theorem c_88_7 : mm_code 88 7 = some (Instr.lconst 0, 1, 0, 0, 0, []) := rfl
theorem c_88_8 : mm_code 88 8 = some (Instr.lstore 7, 2, 0, 0, 0, []) := rfl
theorem c_88_10 : mm_code 88 10 = some (Instr.lconst 1, 1, 1, 0, 0, []) := rfl
theorem c_88_11 : mm_code 88 11 = some (Instr.lstore 9, 2, 0, 0, 0, []) := rfl
theorem c_88_13 : mm_code 88 13 = some (Instr.bipush 36, 2, 36, 0, 0, []) := rfl
theorem c_88_15 : mm_code 88 15 = some (Instr.istore 11, 2, 0, 0, 0, []) := rfl
theorem c_88_17 : mm_code 88 17 = some (Instr.bipush 72, 2, 72, 0, 0, []) := rfl
theorem c_88_19 : mm_code 88 19 = some (Instr.istore 12, 2, 0, 0, 0, []) := rfl
theorem c_88_21 : mm_code 88 21 = some (Instr.iload_n 1, 1, 0, 0, 0, []) := rfl
theorem c_88_22 : mm_code 88 22 = some (Instr.istore 13, 2, 0, 0, 0, []) := rfl
theorem c_88_24 : mm_code 88 24 = some (Instr.iload 13, 2, 0, 0, 0, []) := rfl
theorem c_88_26 : mm_code 88 26 = some (Instr.aload_n 0, 1, 0, 0, 0, []) := rfl
theorem c_88_27 : mm_code 88 27 = some (Instr.invokevirtual 59, 3, 7, 13, 0, [644, 332, 333, 57, 334]) := rfl
theorem c_88_30 : mm_code 88 30 = some (Instr.if_icmp .ge 206, 3, 0, 236, 0, []) := rfl
theorem c_88_33 : mm_code 88 33 = some (Instr.aload_n 0, 1, 0, 0, 0, []) := rfl
theorem c_88_34 : mm_code 88 34 = some (Instr.iload 13, 2, 0, 0, 0, []) := rfl
theorem c_88_36 : mm_code 88 36 = some (Instr.invokevirtual 7, 3, 7, 17, 1, [609, 350, 351, 57, 352]) := rfl
theorem c_88_39 : mm_code 88 39 = some (Instr.invokestatic 76, 3, 0, 89, 1, [651, 652, 69, 653]) := rfl
theorem c_88_42 : mm_code 88 42 = some (Instr.istore 14, 2, 0, 0, 0, []) := rfl
theorem c_88_44 : mm_code 88 44 = some (Instr.iload 14, 2, 0, 0, 0, []) := rfl
theorem c_88_46 : mm_code 88 46 = some (Instr.ifCond .ge 6, 3, 0, 52, 0, []) := rfl
theorem c_88_49 : mm_code 88 49 = some (Instr.iload 13, 2, 0, 0, 0, []) := rfl
theorem c_88_51 : mm_code 88 51 = some (Instr.ireturn, 1, 0, 0, 0, []) := rfl
theorem c_88_52 : mm_code 88 52 = some (Instr.lload 5, 2, 0, 0, 0, []) := rfl
theorem c_88_54 : mm_code 88 54 = some (Instr.iload 14, 2, 0, 0, 0, []) := rfl
theorem c_88_56 : mm_code 88 56 = some (Instr.i2l, 1, 0, 0, 0, []) := rfl
theorem c_88_57 : mm_code 88 57 = some (Instr.lload 9, 2, 0, 0, 0, []) := rfl
theorem c_88_59 : mm_code 88 59 = some (Instr.lmul, 1, 0, 0, 0, []) := rfl
theorem c_88_60 : mm_code 88 60 = some (Instr.ladd, 1, 0, 0, 0, []) := rfl
theorem c_88_61 : mm_code 88 61 = some (Instr.lstore 5, 2, 0, 0, 0, []) := rfl
theorem c_88_63 : mm_code 88 63 = some (Instr.iload 11, 2, 0, 0, 0, []) := rfl
theorem c_88_65 : mm_code 88 65 = some (Instr.iload 12, 2, 0, 0, 0, []) := rfl
theorem c_88_67 : mm_code 88 67 = some (Instr.invokestatic 40, 3, 0, 83, 2, [622, 623, 69, 624]) := rfl
theorem c_88_70 : mm_code 88 70 = some (Instr.istore 15, 2, 0, 0, 0, []) := rfl
theorem c_88_72 : mm_code 88 72 = some (Instr.iload 14, 2, 0, 0, 0, []) := rfl
theorem c_88_74 : mm_code 88 74 = some (Instr.iload 15, 2, 0, 0, 0, []) := rfl
theorem c_88_76 : mm_code 88 76 = some (Instr.if_icmp .lt 7, 3, 0, 83, 0, []) := rfl
set_option maxRecDepth 100000 in theorem c_88_79 : mm_code 88 79 = some (Instr.iconst 1, 1, 1, 0, 0, []) := rfl
set_option maxRecDepth 100000 in theorem c_88_80 : mm_code 88 80 = some (Instr.goto 4, 3, 0, 84, 0, []) := rfl
set_option maxRecDepth 100000 in theorem c_88_83 : mm_code 88 83 = some (Instr.iconst 0, 1, 0, 0, 0, []) := rfl
set_option maxRecDepth 100000 in theorem c_88_84 : mm_code 88 84 = some (Instr.istore 16, 2, 0, 0, 0, []) := rfl
set_option maxRecDepth 100000 in theorem c_88_86 : mm_code 88 86 = some (Instr.iload 16, 2, 0, 0, 0, []) := rfl
set_option maxRecDepth 100000 in theorem c_88_88 : mm_code 88 88 = some (Instr.ifCond .eq 15, 3, 0, 103, 0, []) := rfl
set_option maxRecDepth 100000 in theorem c_88_91 : mm_code 88 91 = some (Instr.lload 9, 2, 0, 0, 0, []) := rfl
set_option maxRecDepth 100000 in theorem c_88_93 : mm_code 88 93 = some (Instr.bipush 36, 2, 36, 0, 0, []) := rfl
set_option maxRecDepth 100000 in theorem c_88_95 : mm_code 88 95 = some (Instr.iload 15, 2, 0, 0, 0, []) := rfl
set_option maxRecDepth 100000 in theorem c_88_97 : mm_code 88 97 = some (Instr.isub, 1, 0, 0, 0, []) := rfl
set_option maxRecDepth 100000 in theorem c_88_98 : mm_code 88 98 = some (Instr.i2l, 1, 0, 0, 0, []) := rfl
set_option maxRecDepth 100000 in theorem c_88_99 : mm_code 88 99 = some (Instr.lmul, 1, 0, 0, 0, []) := rfl
set_option maxRecDepth 100000 in theorem c_88_100 : mm_code 88 100 = some (Instr.goto 4, 3, 0, 104, 0, []) := rfl
set_option maxRecDepth 100000 in theorem c_88_103 : mm_code 88 103 = some (Instr.lconst 1, 1, 1, 0, 0, []) := rfl
set_option maxRecDepth 100000 in theorem c_88_104 : mm_code 88 104 = some (Instr.lstore 9, 2, 0, 0, 0, []) := rfl
set_option maxRecDepth 100000 in theorem c_88_106 : mm_code 88 106 = some (Instr.iload 16, 2, 0, 0, 0, []) := rfl
set_option maxRecDepth 100000 in theorem c_88_108 : mm_code 88 108 = some (Instr.ifCond .eq 11, 3, 0, 119, 0, []) := rfl
set_option maxRecDepth 100000 in theorem c_88_111 : mm_code 88 111 = some (Instr.iload 11, 2, 0, 0, 0, []) := rfl
set_option maxRecDepth 100000 in theorem c_88_113 : mm_code 88 113 = some (Instr.bipush 36, 2, 36, 0, 0, []) := rfl
set_option maxRecDepth 100000 in theorem c_88_115 : mm_code 88 115 = some (Instr.iadd, 1, 0, 0, 0, []) := rfl
set_option maxRecDepth 100000 in theorem c_88_116 : mm_code 88 116 = some (Instr.goto 5, 3, 0, 121, 0, []) := rfl
set_option maxRecDepth 100000 in theorem c_88_119 : mm_code 88 119 = some (Instr.bipush 36, 2, 36, 0, 0, []) := rfl
set_option maxRecDepth 100000 in theorem c_88_121 : mm_code 88 121 = some (Instr.istore 11, 2, 0, 0, 0, []) := rfl
set_option maxRecDepth 100000 in theorem c_88_123 : mm_code 88 123 = some (Instr.lload 5, 2, 0, 0, 0, []) := rfl
set_option maxRecDepth 100000 in theorem c_88_125 : mm_code 88 125 = some (Instr.ldc2_w 27, 3, 2147483647, 0, 0, [618]) := rfl
set_option maxRecDepth 100000 in theorem c_88_128 : mm_code 88 128 = some (Instr.lcmp, 1, 0, 0, 0, []) := rfl
set_option maxRecDepth 100000 in theorem c_88_129 : mm_code 88 129 = some (Instr.ifCond .gt 12, 3, 0, 141, 0, []) := rfl
set_option maxRecDepth 100000 in theorem c_88_132 : mm_code 88 132 = some (Instr.lload 9, 2, 0, 0, 0, []) := rfl
set_option maxRecDepth 100000 in theorem c_88_134 : mm_code 88 134 = some (Instr.ldc2_w 27, 3, 2147483647, 0, 0, [618]) := rfl
set_option maxRecDepth 100000 in theorem c_88_137 : mm_code 88 137 = some (Instr.lcmp, 1, 0, 0, 0, []) := rfl
set_option maxRecDepth 100000 in theorem c_88_138 : mm_code 88 138 = some (Instr.ifCond .le 6, 3, 0, 144, 0, []) := rfl
set_option maxRecDepth 100000 in theorem c_88_141 : mm_code 88 141 = some (Instr.iload 13, 2, 0, 0, 0, []) := rfl
set_option maxRecDepth 100000 in theorem c_88_143 : mm_code 88 143 = some (Instr.ireturn, 1, 0, 0, 0, []) := rfl
set_option maxRecDepth 100000 in theorem c_88_144 : mm_code 88 144 = some (Instr.iload 16, 2, 0, 0, 0, []) := rfl
set_option maxRecDepth 100000 in theorem c_88_146 : mm_code 88 146 = some (Instr.ifCond .ne 84, 3, 0, 230, 0, []) := rfl
set_option maxRecDepth 100000 in theorem c_88_149 : mm_code 88 149 = some (Instr.aload_n 2, 1, 0, 0, 0, []) := rfl
set_option maxRecDepth 100000 in theorem c_88_150 : mm_code 88 150 = some (Instr.invokevirtual 59, 3, 7, 13, 0, [644, 332, 333, 57, 334]) := rfl
set_option maxRecDepth 100000 in theorem c_88_153 : mm_code 88 153 = some (Instr.iconst 1, 1, 1, 0, 0, []) := rfl
set_option maxRecDepth 100000 in theorem c_88_154 : mm_code 88 154 = some (Instr.iadd, 1, 0, 0, 0, []) := rfl
set_option maxRecDepth 100000 in theorem c_88_155 : mm_code 88 155 = some (Instr.istore 17, 2, 0, 0, 0, []) := rfl
set_option maxRecDepth 100000 in theorem c_88_157 : mm_code 88 157 = some (Instr.lload 5, 2, 0, 0, 0, []) := rfl
set_option maxRecDepth 100000 in theorem c_88_159 : mm_code 88 159 = some (Instr.lload 7, 2, 0, 0, 0, []) := rfl
set_option maxRecDepth 100000 in theorem c_88_161 : mm_code 88 161 = some (Instr.lsub, 1, 0, 0, 0, []) := rfl
set_option maxRecDepth 100000 in theorem c_88_162 : mm_code 88 162 = some (Instr.iload 17, 2, 0, 0, 0, []) := rfl
set_option maxRecDepth 100000 in theorem c_88_164 : mm_code 88 164 = some (Instr.lload 7, 2, 0, 0, 0, []) := rfl
set_option maxRecDepth 100000 in theorem c_88_166 : mm_code 88 166 = some (Instr.lconst 0, 1, 0, 0, 0, []) := rfl
set_option maxRecDepth 100000 in theorem c_88_167 : mm_code 88 167 = some (Instr.lcmp, 1, 0, 0, 0, []) := rfl
set_option maxRecDepth 100000 in theorem c_88_168 : mm_code 88 168 = some (Instr.ifCond .ne 7, 3, 0, 175, 0, []) := rfl
set_option maxRecDepth 100000 in theorem c_88_171 : mm_code 88 171 = some (Instr.iconst 1, 1, 1, 0, 0, []) := rfl
set_option maxRecDepth 100000 in theorem c_88_172 : mm_code 88 172 = some (Instr.goto 4, 3, 0, 176, 0, []) := rfl
set_option maxRecDepth 100000 in theorem c_88_175 : mm_code 88 175 = some (Instr.iconst 0, 1, 0, 0, 0, []) := rfl
set_option maxRecDepth 100000 in theorem c_88_176 : mm_code 88 176 = some (Instr.invokestatic 33, 3, 0, 85, 3, [628, 629, 69, 630]) := rfl
set_option maxRecDepth 100000 in theorem c_88_179 : mm_code 88 179 = some (Instr.istore 12, 2, 0, 0, 0, []) := rfl
set_option maxRecDepth 100000 in theorem c_88_181 : mm_code 88 181 = some (Instr.lload_n 3, 1, 0, 0, 0, []) := rfl
set_option maxRecDepth 100000 in theorem c_88_182 : mm_code 88 182 = some (Instr.lload 5, 2, 0, 0, 0, []) := rfl
set_option maxRecDepth 100000 in theorem c_88_184 : mm_code 88 184 = some (Instr.iload 17, 2, 0, 0, 0, []) := rfl
set_option maxRecDepth 100000 in theorem c_88_186 : mm_code 88 186 = some (Instr.i2l, 1, 0, 0, 0, []) := rfl
set_option maxRecDepth 100000 in theorem c_88_187 : mm_code 88 187 = some (Instr.ldiv, 1, 0, 0, 0, []) := rfl
set_option maxRecDepth 100000 in theorem c_88_188 : mm_code 88 188 = some (Instr.ladd, 1, 0, 0, 0, []) := rfl
set_option maxRecDepth 100000 in theorem c_88_189 : mm_code 88 189 = some (Instr.lstore_n 3, 1, 0, 0, 0, []) := rfl
set_option maxRecDepth 100000 in theorem c_88_190 : mm_code 88 190 = some (Instr.lload 5, 2, 0, 0, 0, []) := rfl
set_option maxRecDepth 100000 in theorem c_88_192 : mm_code 88 192 = some (Instr.iload 17, 2, 0, 0, 0, []) := rfl
set_option maxRecDepth 100000 in theorem c_88_194 : mm_code 88 194 = some (Instr.i2l, 1, 0, 0, 0, []) := rfl
set_option maxRecDepth 100000 in theorem c_88_195 : mm_code 88 195 = some (Instr.lrem, 1, 0, 0, 0, []) := rfl
set_option maxRecDepth 100000 in theorem c_88_196 : mm_code 88 196 = some (Instr.lstore 5, 2, 0, 0, 0, []) := rfl
set_option maxRecDepth 100000 in theorem c_88_198 : mm_code 88 198 = some (Instr.lload_n 3, 1, 0, 0, 0, []) := rfl
set_option maxRecDepth 100000 in theorem c_88_199 : mm_code 88 199 = some (Instr.invokestatic 79, 3, 0, 27, 1, [654, 391, 67, 392]) := rfl
set_option maxRecDepth 100000 in theorem c_88_202 : mm_code 88 202 = some (Instr.ifCond .eq 15, 3, 0, 217, 0, []) := rfl
set_option maxRecDepth 100000 in theorem c_88_205 : mm_code 88 205 = some (Instr.aload_n 2, 1, 0, 0, 0, []) := rfl
set_option maxRecDepth 100000 in theorem c_88_206 : mm_code 88 206 = some (Instr.lload 5, 2, 0, 0, 0, []) := rfl
set_option maxRecDepth 100000 in theorem c_88_208 : mm_code 88 208 = some (Instr.l2i, 1, 0, 0, 0, []) := rfl
set_option maxRecDepth 100000 in theorem c_88_209 : mm_code 88 209 = some (Instr.lload_n 3, 1, 0, 0, 0, []) := rfl
set_option maxRecDepth 100000 in theorem c_88_210 : mm_code 88 210 = some (Instr.l2i, 1, 0, 0, 0, []) := rfl
set_option maxRecDepth 100000 in theorem c_88_211 : mm_code 88 211 = some (Instr.invokevirtual 83, 3, 7, 90, 2, [655, 656, 657, 57, 658]) := rfl
set_option maxRecDepth 100000 in theorem c_88_214 : mm_code 88 214 = some (Instr.ifCond .ne 6, 3, 0, 220, 0, []) := rfl
set_option maxRecDepth 100000 in theorem c_88_217 : mm_code 88 217 = some (Instr.iload 13, 2, 0, 0, 0, []) := rfl
set_option maxRecDepth 100000 in theorem c_88_219 : mm_code 88 219 = some (Instr.ireturn, 1, 0, 0, 0, []) := rfl
set_option maxRecDepth 100000 in theorem c_88_220 : mm_code 88 220 = some (Instr.lload 5, 2, 0, 0, 0, []) := rfl
set_option maxRecDepth 100000 in theorem c_88_222 : mm_code 88 222 = some (Instr.lconst 1, 1, 1, 0, 0, []) := rfl
set_option maxRecDepth 100000 in theorem c_88_223 : mm_code 88 223 = some (Instr.ladd, 1, 0, 0, 0, []) := rfl
set_option maxRecDepth 100000 in theorem c_88_224 : mm_code 88 224 = some (Instr.lstore 5, 2, 0, 0, 0, []) := rfl
set_option maxRecDepth 100000 in theorem c_88_226 : mm_code 88 226 = some (Instr.lload 5, 2, 0, 0, 0, []) := rfl
set_option maxRecDepth 100000 in theorem c_88_228 : mm_code 88 228 = some (Instr.lstore 7, 2, 0, 0, 0, []) := rfl
set_option maxRecDepth 100000 in theorem c_88_230 : mm_code 88 230 = some (Instr.iinc 13 1, 3, 0, 0, 0, []) := rfl
set_option maxRecDepth 100000 in theorem c_88_233 : mm_code 88 233 = some (Instr.goto (-209), 3, 0, 24, 0, []) := rfl
set_option maxRecDepth 100000 in theorem c_88_236 : mm_code 88 236 = some (Instr.iload 11, 2, 0, 0, 0, []) := rfl
set_option maxRecDepth 100000 in theorem c_88_238 : mm_code 88 238 = some (Instr.bipush 36, 2, 36, 0, 0, []) := rfl
set_option maxRecDepth 100000 in theorem c_88_240 : mm_code 88 240 = some (Instr.if_icmp .ne 7, 3, 0, 247, 0, []) := rfl
set_option maxRecDepth 100000 in theorem c_88_243 : mm_code 88 243 = some (Instr.iconst (-1), 1, (-1), 0, 0, []) := rfl
set_option maxRecDepth 100000 in theorem c_88_244 : mm_code 88 244 = some (Instr.goto 7, 3, 0, 251, 0, []) := rfl
set_option maxRecDepth 100000 in theorem c_88_247 : mm_code 88 247 = some (Instr.aload_n 0, 1, 0, 0, 0, []) := rfl
set_option maxRecDepth 100000 in theorem c_88_248 : mm_code 88 248 = some (Instr.invokevirtual 59, 3, 7, 13, 0, [644, 332, 333, 57, 334]) := rfl
set_option maxRecDepth 100000 in theorem c_88_251 : mm_code 88 251 = some (Instr.ireturn, 1, 0, 0, 0, []) := rfl
theorem c_89_0 : mm_code 89 0 = some (Instr.iload_n 0, 1, 0, 0, 0, []) := rfl
theorem c_89_1 : mm_code 89 1 = some (Instr.bipush 97, 2, 97, 0, 0, []) := rfl
theorem c_89_3 : mm_code 89 3 = some (Instr.if_icmp .lt 14, 3, 0, 17, 0, []) := rfl
theorem c_89_6 : mm_code 89 6 = some (Instr.iload_n 0, 1, 0, 0, 0, []) := rfl
theorem c_89_7 : mm_code 89 7 = some (Instr.bipush 122, 2, 122, 0, 0, []) := rfl
theorem c_89_9 : mm_code 89 9 = some (Instr.if_icmp .gt 8, 3, 0, 17, 0, []) := rfl
theorem c_89_12 : mm_code 89 12 = some (Instr.iload_n 0, 1, 0, 0, 0, []) := rfl
theorem c_89_13 : mm_code 89 13 = some (Instr.bipush 97, 2, 97, 0, 0, []) := rfl
theorem c_89_15 : mm_code 89 15 = some (Instr.isub, 1, 0, 0, 0, []) := rfl
theorem c_89_16 : mm_code 89 16 = some (Instr.ireturn, 1, 0, 0, 0, []) := rfl
theorem c_89_17 : mm_code 89 17 = some (Instr.iload_n 0, 1, 0, 0, 0, []) := rfl
theorem c_89_18 : mm_code 89 18 = some (Instr.bipush 65, 2, 65, 0, 0, []) := rfl
theorem c_89_20 : mm_code 89 20 = some (Instr.if_icmp .lt 14, 3, 0, 34, 0, []) := rfl
theorem c_89_23 : mm_code 89 23 = some (Instr.iload_n 0, 1, 0, 0, 0, []) := rfl
theorem c_89_24 : mm_code 89 24 = some (Instr.bipush 90, 2, 90, 0, 0, []) := rfl
theorem c_89_26 : mm_code 89 26 = some (Instr.if_icmp .gt 8, 3, 0, 34, 0, []) := rfl
theorem c_89_29 : mm_code 89 29 = some (Instr.iload_n 0, 1, 0, 0, 0, []) := rfl
theorem c_89_30 : mm_code 89 30 = some (Instr.bipush 65, 2, 65, 0, 0, []) := rfl
theorem c_89_32 : mm_code 89 32 = some (Instr.isub, 1, 0, 0, 0, []) := rfl
theorem c_89_33 : mm_code 89 33 = some (Instr.ireturn, 1, 0, 0, 0, []) := rfl
theorem c_89_34 : mm_code 89 34 = some (Instr.iload_n 0, 1, 0, 0, 0, []) := rfl
theorem c_89_35 : mm_code 89 35 = some (Instr.bipush 48, 2, 48, 0, 0, []) := rfl
theorem c_89_37 : mm_code 89 37 = some (Instr.if_icmp .lt 19, 3, 0, 56, 0, []) := rfl
theorem c_89_40 : mm_code 89 40 = some (Instr.iload_n 0, 1, 0, 0, 0, []) := rfl
theorem c_89_41 : mm_code 89 41 = some (Instr.bipush 57, 2, 57, 0, 0, []) := rfl
theorem c_89_43 : mm_code 89 43 = some (Instr.if_icmp .gt 13, 3, 0, 56, 0, []) := rfl
theorem c_89_46 : mm_code 89 46 = some (Instr.iload_n 0, 1, 0, 0, 0, []) := rfl
theorem c_89_47 : mm_code 89 47 = some (Instr.bipush 48, 2, 48, 0, 0, []) := rfl
theorem c_89_49 : mm_code 89 49 = some (Instr.isub, 1, 0, 0, 0, []) := rfl
theorem c_89_50 : mm_code 89 50 = some (Instr.bipush 26, 2, 26, 0, 0, []) := rfl
theorem c_89_52 : mm_code 89 52 = some (Instr.iadd, 1, 0, 0, 0, []) := rfl
theorem c_89_53 : mm_code 89 53 = some (Instr.goto 4, 3, 0, 57, 0, []) := rfl
theorem c_89_56 : mm_code 89 56 = some (Instr.iconst (-1), 1, (-1), 0, 0, []) := rfl
theorem c_89_57 : mm_code 89 57 = some (Instr.ireturn, 1, 0, 0, 0, []) := rfl
end

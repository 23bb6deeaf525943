-- ===== PART A: goes FIRST, ahead of the names: the tables' words, and 'selects' of the private methods out of them =====
/-- a private method of a class that the tables say can be made, by its rows of tables_1 -/
def lw_okq (q : MethodName × Nat) : Prop := (q.1.cls ≠ "java/lang/invoke/MethodHandle" ∧ q.1.cls ≠ "java/lang/invoke/VarHandle") ∧ Cond.instantiable q.1.cls q.2 ∈ tables_1 ∧ Cond.privateMethod q.1 ∈ tables_1 ∧ Cond.instanceMethod q.1 ∈ tables_1
theorem lw_p0 : lw_okq (⟨"ExemptBeauty", "isPerson", "(I)Z"⟩, 10) := ⟨⟨by decide +kernel, by decide +kernel⟩, List.mem_of_getElem? (i := 20) (by decide +kernel), List.mem_of_getElem? (i := 316) (by decide +kernel), List.mem_of_getElem? (i := 317) (by decide +kernel)⟩
theorem lw_p1 : lw_okq (⟨"ExemptBeauty", "holding", "()LExemptBeauty$Office;"⟩, 10) := ⟨⟨by decide +kernel, by decide +kernel⟩, List.mem_of_getElem? (i := 20) (by decide +kernel), List.mem_of_getElem? (i := 320) (by decide +kernel), List.mem_of_getElem? (i := 321) (by decide +kernel)⟩
theorem lw_p2 : lw_okq (⟨"ExemptBeauty$Office", "holds", "(IILExemptBeauty$Person;II)Z"⟩, 8) := ⟨⟨by decide +kernel, by decide +kernel⟩, List.mem_of_getElem? (i := 138) (by decide +kernel), List.mem_of_getElem? (i := 332) (by decide +kernel), List.mem_of_getElem? (i := 333) (by decide +kernel)⟩
theorem lw_p3 : lw_okq (⟨"ExemptBeauty$Reader", "goTo", "(I)V"⟩, 5) := ⟨⟨by decide +kernel, by decide +kernel⟩, List.mem_of_getElem? (i := 178) (by decide +kernel), List.mem_of_getElem? (i := 417) (by decide +kernel), List.mem_of_getElem? (i := 418) (by decide +kernel)⟩
theorem lw_p4 : lw_okq (⟨"ExemptBeauty$Reader", "takes", "(C)Z"⟩, 5) := ⟨⟨by decide +kernel, by decide +kernel⟩, List.mem_of_getElem? (i := 178) (by decide +kernel), List.mem_of_getElem? (i := 421) (by decide +kernel), List.mem_of_getElem? (i := 422) (by decide +kernel)⟩
theorem lw_p5 : lw_okq (⟨"ExemptBeauty$Reader", "readsClause", "()Z"⟩, 5) := ⟨⟨by decide +kernel, by decide +kernel⟩, List.mem_of_getElem? (i := 178) (by decide +kernel), List.mem_of_getElem? (i := 425) (by decide +kernel), List.mem_of_getElem? (i := 426) (by decide +kernel)⟩
theorem lw_p6 : lw_okq (⟨"ExemptBeauty$Reader", "readWord", "()I"⟩, 5) := ⟨⟨by decide +kernel, by decide +kernel⟩, List.mem_of_getElem? (i := 178) (by decide +kernel), List.mem_of_getElem? (i := 429) (by decide +kernel), List.mem_of_getElem? (i := 430) (by decide +kernel)⟩
theorem lw_p7 : lw_okq (⟨"ExemptBeauty$Reader", "takesAll", "(Ljava/lang/String;)Z"⟩, 5) := ⟨⟨by decide +kernel, by decide +kernel⟩, List.mem_of_getElem? (i := 178) (by decide +kernel), List.mem_of_getElem? (i := 434) (by decide +kernel), List.mem_of_getElem? (i := 435) (by decide +kernel)⟩
theorem lw_p8 : lw_okq (⟨"ExemptBeauty$Reader", "readNumber", "()I"⟩, 5) := ⟨⟨by decide +kernel, by decide +kernel⟩, List.mem_of_getElem? (i := 178) (by decide +kernel), List.mem_of_getElem? (i := 491) (by decide +kernel), List.mem_of_getElem? (i := 492) (by decide +kernel)⟩
theorem lw_p9 : lw_okq (⟨"ExemptBeauty$Reader", "readsEither", "(I)Z"⟩, 5) := ⟨⟨by decide +kernel, by decide +kernel⟩, List.mem_of_getElem? (i := 178) (by decide +kernel), List.mem_of_getElem? (i := 496) (by decide +kernel), List.mem_of_getElem? (i := 497) (by decide +kernel)⟩
theorem lw_p10 : lw_okq (⟨"ExemptBeauty$Reader", "readsBoth", "(I)Z"⟩, 5) := ⟨⟨by decide +kernel, by decide +kernel⟩, List.mem_of_getElem? (i := 178) (by decide +kernel), List.mem_of_getElem? (i := 500) (by decide +kernel), List.mem_of_getElem? (i := 501) (by decide +kernel)⟩
theorem lw_p11 : lw_okq (⟨"ExemptBeauty$Reader", "readsPart", "(I)Z"⟩, 5) := ⟨⟨by decide +kernel, by decide +kernel⟩, List.mem_of_getElem? (i := 178) (by decide +kernel), List.mem_of_getElem? (i := 504) (by decide +kernel), List.mem_of_getElem? (i := 505) (by decide +kernel)⟩
theorem lw_p12 : lw_okq (⟨"ExemptBeauty$Reader", "readsTest", "()Z"⟩, 5) := ⟨⟨by decide +kernel, by decide +kernel⟩, List.mem_of_getElem? (i := 178) (by decide +kernel), List.mem_of_getElem? (i := 508) (by decide +kernel), List.mem_of_getElem? (i := 509) (by decide +kernel)⟩
theorem lw_p13 : lw_okq (⟨"ExemptBeauty", "paidByAll", "(I)I"⟩, 10) := ⟨⟨by decide +kernel, by decide +kernel⟩, List.mem_of_getElem? (i := 20) (by decide +kernel), List.mem_of_getElem? (i := 530) (by decide +kernel), List.mem_of_getElem? (i := 531) (by decide +kernel)⟩
theorem lw_p14 : lw_okq (⟨"ExemptBeauty$Asker", "nextInLine", "(II)I"⟩, 6) := ⟨⟨by decide +kernel, by decide +kernel⟩, List.mem_of_getElem? (i := 205) (by decide +kernel), List.mem_of_getElem? (i := 589) (by decide +kernel), List.mem_of_getElem? (i := 590) (by decide +kernel)⟩
theorem lw_p15 : lw_okq (⟨"ExemptBeauty$Asker", "paidFrom", "(II)I"⟩, 6) := ⟨⟨by decide +kernel, by decide +kernel⟩, List.mem_of_getElem? (i := 205) (by decide +kernel), List.mem_of_getElem? (i := 593) (by decide +kernel), List.mem_of_getElem? (i := 594) (by decide +kernel)⟩
def lw_privs_1 : List (MethodName × Nat) := [(⟨"ExemptBeauty", "isPerson", "(I)Z"⟩, 10), (⟨"ExemptBeauty", "holding", "()LExemptBeauty$Office;"⟩, 10), (⟨"ExemptBeauty$Office", "holds", "(IILExemptBeauty$Person;II)Z"⟩, 8), (⟨"ExemptBeauty$Reader", "goTo", "(I)V"⟩, 5), (⟨"ExemptBeauty$Reader", "takes", "(C)Z"⟩, 5), (⟨"ExemptBeauty$Reader", "readsClause", "()Z"⟩, 5), (⟨"ExemptBeauty$Reader", "readWord", "()I"⟩, 5), (⟨"ExemptBeauty$Reader", "takesAll", "(Ljava/lang/String;)Z"⟩, 5), (⟨"ExemptBeauty$Reader", "readNumber", "()I"⟩, 5), (⟨"ExemptBeauty$Reader", "readsEither", "(I)Z"⟩, 5), (⟨"ExemptBeauty$Reader", "readsBoth", "(I)Z"⟩, 5), (⟨"ExemptBeauty$Reader", "readsPart", "(I)Z"⟩, 5), (⟨"ExemptBeauty$Reader", "readsTest", "()Z"⟩, 5), (⟨"ExemptBeauty", "paidByAll", "(I)I"⟩, 10), (⟨"ExemptBeauty$Asker", "nextInLine", "(II)I"⟩, 6), (⟨"ExemptBeauty$Asker", "paidFrom", "(II)I"⟩, 6)]
theorem lw_r1 : ∀ q ∈ lw_privs_1, lw_okq q := List.forall_mem_cons.mpr ⟨lw_p0, List.forall_mem_cons.mpr ⟨lw_p1, List.forall_mem_cons.mpr ⟨lw_p2, List.forall_mem_cons.mpr ⟨lw_p3, List.forall_mem_cons.mpr ⟨lw_p4, List.forall_mem_cons.mpr ⟨lw_p5, List.forall_mem_cons.mpr ⟨lw_p6, List.forall_mem_cons.mpr ⟨lw_p7, List.forall_mem_cons.mpr ⟨lw_p8, List.forall_mem_cons.mpr ⟨lw_p9, List.forall_mem_cons.mpr ⟨lw_p10, List.forall_mem_cons.mpr ⟨lw_p11, List.forall_mem_cons.mpr ⟨lw_p12, List.forall_mem_cons.mpr ⟨lw_p13, List.forall_mem_cons.mpr ⟨lw_p14, List.forall_mem_cons.mpr ⟨lw_p15, fun _ h => absurd h List.not_mem_nil⟩⟩⟩⟩⟩⟩⟩⟩⟩⟩⟩⟩⟩⟩⟩⟩
theorem lw_p16 : lw_okq (⟨"ExemptBeauty$Asker", "nextPartner", "(LExemptBeauty$Office;II)I"⟩, 6) := ⟨⟨by decide +kernel, by decide +kernel⟩, List.mem_of_getElem? (i := 205) (by decide +kernel), List.mem_of_getElem? (i := 628) (by decide +kernel), List.mem_of_getElem? (i := 629) (by decide +kernel)⟩
theorem lw_p17 : lw_okq (⟨"ExemptBeauty$Asker", "paidBehind", "(LExemptBeauty$Office;III)I"⟩, 6) := ⟨⟨by decide +kernel, by decide +kernel⟩, List.mem_of_getElem? (i := 205) (by decide +kernel), List.mem_of_getElem? (i := 632) (by decide +kernel), List.mem_of_getElem? (i := 633) (by decide +kernel)⟩
theorem lw_p18 : lw_okq (⟨"ExemptBeauty$Actor", "perform", "(LExemptBeauty$Person;IIII)I"⟩, 2) := ⟨⟨by decide +kernel, by decide +kernel⟩, List.mem_of_getElem? (i := 234) (by decide +kernel), List.mem_of_getElem? (i := 764) (by decide +kernel), List.mem_of_getElem? (i := 765) (by decide +kernel)⟩
theorem lw_p19 : lw_okq (⟨"ExemptBeauty$Actor", "run", "(LExemptBeauty$Person;III)I"⟩, 2) := ⟨⟨by decide +kernel, by decide +kernel⟩, List.mem_of_getElem? (i := 234) (by decide +kernel), List.mem_of_getElem? (i := 770) (by decide +kernel), List.mem_of_getElem? (i := 771) (by decide +kernel)⟩
theorem lw_p20 : lw_okq (⟨"ExemptBeautyModel", "in", "(III)Z"⟩, 80) := ⟨⟨by decide +kernel, by decide +kernel⟩, List.mem_of_getElem? (i := 822) (by decide +kernel), List.mem_of_getElem? (i := 1074) (by decide +kernel), List.mem_of_getElem? (i := 1075) (by decide +kernel)⟩
theorem lw_p21 : lw_okq (⟨"ExemptBeautyModel", "isPerson", "(I)Z"⟩, 80) := ⟨⟨by decide +kernel, by decide +kernel⟩, List.mem_of_getElem? (i := 822) (by decide +kernel), List.mem_of_getElem? (i := 1082) (by decide +kernel), List.mem_of_getElem? (i := 1083) (by decide +kernel)⟩
theorem lw_p22 : lw_okq (⟨"ExemptBeautyModel", "isPart", "(I)Z"⟩, 80) := ⟨⟨by decide +kernel, by decide +kernel⟩, List.mem_of_getElem? (i := 822) (by decide +kernel), List.mem_of_getElem? (i := 1086) (by decide +kernel), List.mem_of_getElem? (i := 1087) (by decide +kernel)⟩
theorem lw_p23 : lw_okq (⟨"ExemptBeautyModel", "has", "(II)Z"⟩, 80) := ⟨⟨by decide +kernel, by decide +kernel⟩, List.mem_of_getElem? (i := 822) (by decide +kernel), List.mem_of_getElem? (i := 1094) (by decide +kernel), List.mem_of_getElem? (i := 1095) (by decide +kernel)⟩
theorem lw_p24 : lw_okq (⟨"ExemptBeautyModel", "goes", "(IZ)V"⟩, 80) := ⟨⟨by decide +kernel, by decide +kernel⟩, List.mem_of_getElem? (i := 822) (by decide +kernel), List.mem_of_getElem? (i := 1098) (by decide +kernel), List.mem_of_getElem? (i := 1099) (by decide +kernel)⟩
theorem lw_p25 : lw_okq (⟨"ExemptBeautyModel", "isHour", "(I)Z"⟩, 80) := ⟨⟨by decide +kernel, by decide +kernel⟩, List.mem_of_getElem? (i := 822) (by decide +kernel), List.mem_of_getElem? (i := 1110) (by decide +kernel), List.mem_of_getElem? (i := 1111) (by decide +kernel)⟩
theorem lw_p26 : lw_okq (⟨"ExemptBeautyModel", "goesText", "(I)Z"⟩, 80) := ⟨⟨by decide +kernel, by decide +kernel⟩, List.mem_of_getElem? (i := 822) (by decide +kernel), List.mem_of_getElem? (i := 1122) (by decide +kernel), List.mem_of_getElem? (i := 1123) (by decide +kernel)⟩
theorem lw_p27 : lw_okq (⟨"ExemptBeautyModel", "takesClause", "(I)Z"⟩, 80) := ⟨⟨by decide +kernel, by decide +kernel⟩, List.mem_of_getElem? (i := 822) (by decide +kernel), List.mem_of_getElem? (i := 1126) (by decide +kernel), List.mem_of_getElem? (i := 1127) (by decide +kernel)⟩
theorem lw_p28 : lw_okq (⟨"ExemptBeautyModel", "takesHead", "(I)Z"⟩, 80) := ⟨⟨by decide +kernel, by decide +kernel⟩, List.mem_of_getElem? (i := 822) (by decide +kernel), List.mem_of_getElem? (i := 1130) (by decide +kernel), List.mem_of_getElem? (i := 1131) (by decide +kernel)⟩
theorem lw_p29 : lw_okq (⟨"ExemptBeautyModel", "next", "()I"⟩, 80) := ⟨⟨by decide +kernel, by decide +kernel⟩, List.mem_of_getElem? (i := 822) (by decide +kernel), List.mem_of_getElem? (i := 1134) (by decide +kernel), List.mem_of_getElem? (i := 1135) (by decide +kernel)⟩
theorem lw_p30 : lw_okq (⟨"ExemptBeautyModel", "takesWord", "(II)Z"⟩, 80) := ⟨⟨by decide +kernel, by decide +kernel⟩, List.mem_of_getElem? (i := 822) (by decide +kernel), List.mem_of_getElem? (i := 1138) (by decide +kernel), List.mem_of_getElem? (i := 1139) (by decide +kernel)⟩
theorem lw_p31 : lw_okq (⟨"ExemptBeautyModel", "takes", "(I)Z"⟩, 80) := ⟨⟨by decide +kernel, by decide +kernel⟩, List.mem_of_getElem? (i := 822) (by decide +kernel), List.mem_of_getElem? (i := 1142) (by decide +kernel), List.mem_of_getElem? (i := 1143) (by decide +kernel)⟩
def lw_privs_2 : List (MethodName × Nat) := [(⟨"ExemptBeauty$Asker", "nextPartner", "(LExemptBeauty$Office;II)I"⟩, 6), (⟨"ExemptBeauty$Asker", "paidBehind", "(LExemptBeauty$Office;III)I"⟩, 6), (⟨"ExemptBeauty$Actor", "perform", "(LExemptBeauty$Person;IIII)I"⟩, 2), (⟨"ExemptBeauty$Actor", "run", "(LExemptBeauty$Person;III)I"⟩, 2), (⟨"ExemptBeautyModel", "in", "(III)Z"⟩, 80), (⟨"ExemptBeautyModel", "isPerson", "(I)Z"⟩, 80), (⟨"ExemptBeautyModel", "isPart", "(I)Z"⟩, 80), (⟨"ExemptBeautyModel", "has", "(II)Z"⟩, 80), (⟨"ExemptBeautyModel", "goes", "(IZ)V"⟩, 80), (⟨"ExemptBeautyModel", "isHour", "(I)Z"⟩, 80), (⟨"ExemptBeautyModel", "goesText", "(I)Z"⟩, 80), (⟨"ExemptBeautyModel", "takesClause", "(I)Z"⟩, 80), (⟨"ExemptBeautyModel", "takesHead", "(I)Z"⟩, 80), (⟨"ExemptBeautyModel", "next", "()I"⟩, 80), (⟨"ExemptBeautyModel", "takesWord", "(II)Z"⟩, 80), (⟨"ExemptBeautyModel", "takes", "(I)Z"⟩, 80)]
theorem lw_r2 : ∀ q ∈ lw_privs_2, lw_okq q := List.forall_mem_cons.mpr ⟨lw_p16, List.forall_mem_cons.mpr ⟨lw_p17, List.forall_mem_cons.mpr ⟨lw_p18, List.forall_mem_cons.mpr ⟨lw_p19, List.forall_mem_cons.mpr ⟨lw_p20, List.forall_mem_cons.mpr ⟨lw_p21, List.forall_mem_cons.mpr ⟨lw_p22, List.forall_mem_cons.mpr ⟨lw_p23, List.forall_mem_cons.mpr ⟨lw_p24, List.forall_mem_cons.mpr ⟨lw_p25, List.forall_mem_cons.mpr ⟨lw_p26, List.forall_mem_cons.mpr ⟨lw_p27, List.forall_mem_cons.mpr ⟨lw_p28, List.forall_mem_cons.mpr ⟨lw_p29, List.forall_mem_cons.mpr ⟨lw_p30, List.forall_mem_cons.mpr ⟨lw_p31, fun _ h => absurd h List.not_mem_nil⟩⟩⟩⟩⟩⟩⟩⟩⟩⟩⟩⟩⟩⟩⟩⟩
theorem lw_p32 : lw_okq (⟨"ExemptBeautyModel", "takesNumber", "()Z"⟩, 80) := ⟨⟨by decide +kernel, by decide +kernel⟩, List.mem_of_getElem? (i := 822) (by decide +kernel), List.mem_of_getElem? (i := 1146) (by decide +kernel), List.mem_of_getElem? (i := 1147) (by decide +kernel)⟩
theorem lw_p33 : lw_okq (⟨"ExemptBeautyModel", "isDigit", "()Z"⟩, 80) := ⟨⟨by decide +kernel, by decide +kernel⟩, List.mem_of_getElem? (i := 822) (by decide +kernel), List.mem_of_getElem? (i := 1150) (by decide +kernel), List.mem_of_getElem? (i := 1151) (by decide +kernel)⟩
theorem lw_p34 : lw_okq (⟨"ExemptBeautyModel", "takesE", "(I)Z"⟩, 80) := ⟨⟨by decide +kernel, by decide +kernel⟩, List.mem_of_getElem? (i := 822) (by decide +kernel), List.mem_of_getElem? (i := 1154) (by decide +kernel), List.mem_of_getElem? (i := 1155) (by decide +kernel)⟩
theorem lw_p35 : lw_okq (⟨"ExemptBeautyModel", "takesTest", "()Z"⟩, 80) := ⟨⟨by decide +kernel, by decide +kernel⟩, List.mem_of_getElem? (i := 822) (by decide +kernel), List.mem_of_getElem? (i := 1158) (by decide +kernel), List.mem_of_getElem? (i := 1159) (by decide +kernel)⟩
theorem lw_p36 : lw_okq (⟨"ExemptBeautyModel", "place", "(I)I"⟩, 80) := ⟨⟨by decide +kernel, by decide +kernel⟩, List.mem_of_getElem? (i := 822) (by decide +kernel), List.mem_of_getElem? (i := 1162) (by decide +kernel), List.mem_of_getElem? (i := 1163) (by decide +kernel)⟩
theorem lw_p37 : lw_okq (⟨"ExemptBeautyModel", "emits", "(I)V"⟩, 80) := ⟨⟨by decide +kernel, by decide +kernel⟩, List.mem_of_getElem? (i := 822) (by decide +kernel), List.mem_of_getElem? (i := 1166) (by decide +kernel), List.mem_of_getElem? (i := 1167) (by decide +kernel)⟩
theorem lw_p38 : lw_okq (⟨"ExemptBeautyModel", "whole", "()V"⟩, 80) := ⟨⟨by decide +kernel, by decide +kernel⟩, List.mem_of_getElem? (i := 822) (by decide +kernel), List.mem_of_getElem? (i := 1170) (by decide +kernel), List.mem_of_getElem? (i := 1171) (by decide +kernel)⟩
theorem lw_p39 : lw_okq (⟨"ExemptBeautyModel", "settle", "(I)V"⟩, 80) := ⟨⟨by decide +kernel, by decide +kernel⟩, List.mem_of_getElem? (i := 822) (by decide +kernel), List.mem_of_getElem? (i := 1174) (by decide +kernel), List.mem_of_getElem? (i := 1175) (by decide +kernel)⟩
theorem lw_p40 : lw_okq (⟨"ExemptBeautyModel", "fine", "(II)I"⟩, 80) := ⟨⟨by decide +kernel, by decide +kernel⟩, List.mem_of_getElem? (i := 822) (by decide +kernel), List.mem_of_getElem? (i := 1182) (by decide +kernel), List.mem_of_getElem? (i := 1183) (by decide +kernel)⟩
theorem lw_p41 : lw_okq (⟨"ExemptBeautyModel", "liking", "(II)I"⟩, 80) := ⟨⟨by decide +kernel, by decide +kernel⟩, List.mem_of_getElem? (i := 822) (by decide +kernel), List.mem_of_getElem? (i := 1186) (by decide +kernel), List.mem_of_getElem? (i := 1187) (by decide +kernel)⟩
theorem lw_p42 : lw_okq (⟨"ExemptBeautyModel", "begin", "()I"⟩, 80) := ⟨⟨by decide +kernel, by decide +kernel⟩, List.mem_of_getElem? (i := 822) (by decide +kernel), List.mem_of_getElem? (i := 1190) (by decide +kernel), List.mem_of_getElem? (i := 1191) (by decide +kernel)⟩
theorem lw_p43 : lw_okq (⟨"ExemptBeautyModel", "behind", "()I"⟩, 80) := ⟨⟨by decide +kernel, by decide +kernel⟩, List.mem_of_getElem? (i := 822) (by decide +kernel), List.mem_of_getElem? (i := 1194) (by decide +kernel), List.mem_of_getElem? (i := 1195) (by decide +kernel)⟩
theorem lw_p44 : lw_okq (⟨"ExemptBeautyModel", "holds", "(III)Z"⟩, 80) := ⟨⟨by decide +kernel, by decide +kernel⟩, List.mem_of_getElem? (i := 822) (by decide +kernel), List.mem_of_getElem? (i := 1198) (by decide +kernel), List.mem_of_getElem? (i := 1199) (by decide +kernel)⟩
theorem lw_p45 : lw_okq (⟨"ExemptBeautyModel", "factOf", "(III)I"⟩, 80) := ⟨⟨by decide +kernel, by decide +kernel⟩, List.mem_of_getElem? (i := 822) (by decide +kernel), List.mem_of_getElem? (i := 1202) (by decide +kernel), List.mem_of_getElem? (i := 1203) (by decide +kernel)⟩
theorem lw_p46 : lw_okq (⟨"ExemptBeautyModel", "glow", "()I"⟩, 80) := ⟨⟨by decide +kernel, by decide +kernel⟩, List.mem_of_getElem? (i := 822) (by decide +kernel), List.mem_of_getElem? (i := 1206) (by decide +kernel), List.mem_of_getElem? (i := 1207) (by decide +kernel)⟩
theorem lw_p47 : lw_okq (⟨"ExemptBeautyModel", "light", "()I"⟩, 80) := ⟨⟨by decide +kernel, by decide +kernel⟩, List.mem_of_getElem? (i := 822) (by decide +kernel), List.mem_of_getElem? (i := 1210) (by decide +kernel), List.mem_of_getElem? (i := 1211) (by decide +kernel)⟩
def lw_privs_3 : List (MethodName × Nat) := [(⟨"ExemptBeautyModel", "takesNumber", "()Z"⟩, 80), (⟨"ExemptBeautyModel", "isDigit", "()Z"⟩, 80), (⟨"ExemptBeautyModel", "takesE", "(I)Z"⟩, 80), (⟨"ExemptBeautyModel", "takesTest", "()Z"⟩, 80), (⟨"ExemptBeautyModel", "place", "(I)I"⟩, 80), (⟨"ExemptBeautyModel", "emits", "(I)V"⟩, 80), (⟨"ExemptBeautyModel", "whole", "()V"⟩, 80), (⟨"ExemptBeautyModel", "settle", "(I)V"⟩, 80), (⟨"ExemptBeautyModel", "fine", "(II)I"⟩, 80), (⟨"ExemptBeautyModel", "liking", "(II)I"⟩, 80), (⟨"ExemptBeautyModel", "begin", "()I"⟩, 80), (⟨"ExemptBeautyModel", "behind", "()I"⟩, 80), (⟨"ExemptBeautyModel", "holds", "(III)Z"⟩, 80), (⟨"ExemptBeautyModel", "factOf", "(III)I"⟩, 80), (⟨"ExemptBeautyModel", "glow", "()I"⟩, 80), (⟨"ExemptBeautyModel", "light", "()I"⟩, 80)]
theorem lw_r3 : ∀ q ∈ lw_privs_3, lw_okq q := List.forall_mem_cons.mpr ⟨lw_p32, List.forall_mem_cons.mpr ⟨lw_p33, List.forall_mem_cons.mpr ⟨lw_p34, List.forall_mem_cons.mpr ⟨lw_p35, List.forall_mem_cons.mpr ⟨lw_p36, List.forall_mem_cons.mpr ⟨lw_p37, List.forall_mem_cons.mpr ⟨lw_p38, List.forall_mem_cons.mpr ⟨lw_p39, List.forall_mem_cons.mpr ⟨lw_p40, List.forall_mem_cons.mpr ⟨lw_p41, List.forall_mem_cons.mpr ⟨lw_p42, List.forall_mem_cons.mpr ⟨lw_p43, List.forall_mem_cons.mpr ⟨lw_p44, List.forall_mem_cons.mpr ⟨lw_p45, List.forall_mem_cons.mpr ⟨lw_p46, List.forall_mem_cons.mpr ⟨lw_p47, fun _ h => absurd h List.not_mem_nil⟩⟩⟩⟩⟩⟩⟩⟩⟩⟩⟩⟩⟩⟩⟩⟩
theorem lw_p48 : lw_okq (⟨"ExemptBeautyModel", "lastOf", "(II)I"⟩, 80) := ⟨⟨by decide +kernel, by decide +kernel⟩, List.mem_of_getElem? (i := 822) (by decide +kernel), List.mem_of_getElem? (i := 1214) (by decide +kernel), List.mem_of_getElem? (i := 1215) (by decide +kernel)⟩
theorem lw_p49 : lw_okq (⟨"ExemptBeautyModel", "least", "(II)I"⟩, 80) := ⟨⟨by decide +kernel, by decide +kernel⟩, List.mem_of_getElem? (i := 822) (by decide +kernel), List.mem_of_getElem? (i := 1218) (by decide +kernel), List.mem_of_getElem? (i := 1219) (by decide +kernel)⟩
theorem lw_p50 : lw_okq (⟨"ExemptBeautyModel", "pays", "(I)I"⟩, 80) := ⟨⟨by decide +kernel, by decide +kernel⟩, List.mem_of_getElem? (i := 822) (by decide +kernel), List.mem_of_getElem? (i := 1222) (by decide +kernel), List.mem_of_getElem? (i := 1223) (by decide +kernel)⟩
theorem lw_p51 : lw_okq (⟨"ExemptBeautyModel", "rate", "()I"⟩, 80) := ⟨⟨by decide +kernel, by decide +kernel⟩, List.mem_of_getElem? (i := 822) (by decide +kernel), List.mem_of_getElem? (i := 1226) (by decide +kernel), List.mem_of_getElem? (i := 1227) (by decide +kernel)⟩
theorem lw_p52 : lw_okq (⟨"ExemptBeautyModel", "offMany", "(I)I"⟩, 80) := ⟨⟨by decide +kernel, by decide +kernel⟩, List.mem_of_getElem? (i := 822) (by decide +kernel), List.mem_of_getElem? (i := 1230) (by decide +kernel), List.mem_of_getElem? (i := 1231) (by decide +kernel)⟩
theorem lw_p53 : lw_okq (⟨"ExemptBeautyModel", "isOff", "(II)Z"⟩, 80) := ⟨⟨by decide +kernel, by decide +kernel⟩, List.mem_of_getElem? (i := 822) (by decide +kernel), List.mem_of_getElem? (i := 1234) (by decide +kernel), List.mem_of_getElem? (i := 1235) (by decide +kernel)⟩
theorem lw_p54 : lw_okq (⟨"ExemptBeautyModel", "taste", "()I"⟩, 80) := ⟨⟨by decide +kernel, by decide +kernel⟩, List.mem_of_getElem? (i := 822) (by decide +kernel), List.mem_of_getElem? (i := 1238) (by decide +kernel), List.mem_of_getElem? (i := 1239) (by decide +kernel)⟩
theorem lw_p55 : lw_okq (⟨"ExemptBeautyModel", "offSet", "(I)I"⟩, 80) := ⟨⟨by decide +kernel, by decide +kernel⟩, List.mem_of_getElem? (i := 822) (by decide +kernel), List.mem_of_getElem? (i := 1242) (by decide +kernel), List.mem_of_getElem? (i := 1243) (by decide +kernel)⟩
theorem lw_p56 : lw_okq (⟨"ExemptBeautyModel", "show", "(I)I"⟩, 80) := ⟨⟨by decide +kernel, by decide +kernel⟩, List.mem_of_getElem? (i := 822) (by decide +kernel), List.mem_of_getElem? (i := 1246) (by decide +kernel), List.mem_of_getElem? (i := 1247) (by decide +kernel)⟩
theorem lw_p57 : lw_okq (⟨"ExemptBeautyModel", "allPay", "()I"⟩, 80) := ⟨⟨by decide +kernel, by decide +kernel⟩, List.mem_of_getElem? (i := 822) (by decide +kernel), List.mem_of_getElem? (i := 1254) (by decide +kernel), List.mem_of_getElem? (i := 1255) (by decide +kernel)⟩
theorem lw_p58 : lw_okq (⟨"ExemptBeautyModel", "isYears", "(I)Z"⟩, 80) := ⟨⟨by decide +kernel, by decide +kernel⟩, List.mem_of_getElem? (i := 822) (by decide +kernel), List.mem_of_getElem? (i := 1262) (by decide +kernel), List.mem_of_getElem? (i := 1263) (by decide +kernel)⟩
theorem lw_p59 : lw_okq (⟨"ExemptBeautyModel", "goYears", "(I)V"⟩, 80) := ⟨⟨by decide +kernel, by decide +kernel⟩, List.mem_of_getElem? (i := 822) (by decide +kernel), List.mem_of_getElem? (i := 1266) (by decide +kernel), List.mem_of_getElem? (i := 1267) (by decide +kernel)⟩
theorem lw_p60 : lw_okq (⟨"ExemptBeautyModel", "goYear", "()V"⟩, 80) := ⟨⟨by decide +kernel, by decide +kernel⟩, List.mem_of_getElem? (i := 822) (by decide +kernel), List.mem_of_getElem? (i := 1270) (by decide +kernel), List.mem_of_getElem? (i := 1271) (by decide +kernel)⟩
theorem lw_p61 : lw_okq (⟨"ExemptBeautyModel", "save", "()V"⟩, 80) := ⟨⟨by decide +kernel, by decide +kernel⟩, List.mem_of_getElem? (i := 822) (by decide +kernel), List.mem_of_getElem? (i := 1278) (by decide +kernel), List.mem_of_getElem? (i := 1279) (by decide +kernel)⟩
theorem lw_p62 : lw_okq (⟨"ExemptBeautyModel", "putBack", "()V"⟩, 80) := ⟨⟨by decide +kernel, by decide +kernel⟩, List.mem_of_getElem? (i := 822) (by decide +kernel), List.mem_of_getElem? (i := 1282) (by decide +kernel), List.mem_of_getElem? (i := 1283) (by decide +kernel)⟩
theorem lw_p63 : lw_okq (⟨"ExemptBeautyModel", "paysAt", "(II)I"⟩, 80) := ⟨⟨by decide +kernel, by decide +kernel⟩, List.mem_of_getElem? (i := 822) (by decide +kernel), List.mem_of_getElem? (i := 1290) (by decide +kernel), List.mem_of_getElem? (i := 1291) (by decide +kernel)⟩
def lw_privs_4 : List (MethodName × Nat) := [(⟨"ExemptBeautyModel", "lastOf", "(II)I"⟩, 80), (⟨"ExemptBeautyModel", "least", "(II)I"⟩, 80), (⟨"ExemptBeautyModel", "pays", "(I)I"⟩, 80), (⟨"ExemptBeautyModel", "rate", "()I"⟩, 80), (⟨"ExemptBeautyModel", "offMany", "(I)I"⟩, 80), (⟨"ExemptBeautyModel", "isOff", "(II)Z"⟩, 80), (⟨"ExemptBeautyModel", "taste", "()I"⟩, 80), (⟨"ExemptBeautyModel", "offSet", "(I)I"⟩, 80), (⟨"ExemptBeautyModel", "show", "(I)I"⟩, 80), (⟨"ExemptBeautyModel", "allPay", "()I"⟩, 80), (⟨"ExemptBeautyModel", "isYears", "(I)Z"⟩, 80), (⟨"ExemptBeautyModel", "goYears", "(I)V"⟩, 80), (⟨"ExemptBeautyModel", "goYear", "()V"⟩, 80), (⟨"ExemptBeautyModel", "save", "()V"⟩, 80), (⟨"ExemptBeautyModel", "putBack", "()V"⟩, 80), (⟨"ExemptBeautyModel", "paysAt", "(II)I"⟩, 80)]
theorem lw_r4 : ∀ q ∈ lw_privs_4, lw_okq q := List.forall_mem_cons.mpr ⟨lw_p48, List.forall_mem_cons.mpr ⟨lw_p49, List.forall_mem_cons.mpr ⟨lw_p50, List.forall_mem_cons.mpr ⟨lw_p51, List.forall_mem_cons.mpr ⟨lw_p52, List.forall_mem_cons.mpr ⟨lw_p53, List.forall_mem_cons.mpr ⟨lw_p54, List.forall_mem_cons.mpr ⟨lw_p55, List.forall_mem_cons.mpr ⟨lw_p56, List.forall_mem_cons.mpr ⟨lw_p57, List.forall_mem_cons.mpr ⟨lw_p58, List.forall_mem_cons.mpr ⟨lw_p59, List.forall_mem_cons.mpr ⟨lw_p60, List.forall_mem_cons.mpr ⟨lw_p61, List.forall_mem_cons.mpr ⟨lw_p62, List.forall_mem_cons.mpr ⟨lw_p63, fun _ h => absurd h List.not_mem_nil⟩⟩⟩⟩⟩⟩⟩⟩⟩⟩⟩⟩⟩⟩⟩⟩
theorem lw_p64 : lw_okq (⟨"ExemptBeautyModel", "bestHour", "(I)I"⟩, 80) := ⟨⟨by decide +kernel, by decide +kernel⟩, List.mem_of_getElem? (i := 822) (by decide +kernel), List.mem_of_getElem? (i := 1298) (by decide +kernel), List.mem_of_getElem? (i := 1299) (by decide +kernel)⟩
theorem lw_p65 : lw_okq (⟨"ExemptBeautyModel", "rises", "(I)I"⟩, 80) := ⟨⟨by decide +kernel, by decide +kernel⟩, List.mem_of_getElem? (i := 822) (by decide +kernel), List.mem_of_getElem? (i := 1302) (by decide +kernel), List.mem_of_getElem? (i := 1303) (by decide +kernel)⟩
theorem lw_p66 : lw_okq (⟨"ExemptBeautyModel", "layCosts", "()V"⟩, 80) := ⟨⟨by decide +kernel, by decide +kernel⟩, List.mem_of_getElem? (i := 822) (by decide +kernel), List.mem_of_getElem? (i := 1310) (by decide +kernel), List.mem_of_getElem? (i := 1311) (by decide +kernel)⟩
theorem lw_p67 : lw_okq (⟨"ExemptBeautyModel", "layTurn", "(I)Z"⟩, 80) := ⟨⟨by decide +kernel, by decide +kernel⟩, List.mem_of_getElem? (i := 822) (by decide +kernel), List.mem_of_getElem? (i := 1314) (by decide +kernel), List.mem_of_getElem? (i := 1315) (by decide +kernel)⟩
theorem lw_p68 : lw_okq (⟨"ExemptBeautyModel", "jointlyOf", "(II)I"⟩, 80) := ⟨⟨by decide +kernel, by decide +kernel⟩, List.mem_of_getElem? (i := 822) (by decide +kernel), List.mem_of_getElem? (i := 1322) (by decide +kernel), List.mem_of_getElem? (i := 1323) (by decide +kernel)⟩
theorem lw_p69 : lw_okq (⟨"ExemptBeautyModel", "layPairs", "()V"⟩, 80) := ⟨⟨by decide +kernel, by decide +kernel⟩, List.mem_of_getElem? (i := 822) (by decide +kernel), List.mem_of_getElem? (i := 1330) (by decide +kernel), List.mem_of_getElem? (i := 1331) (by decide +kernel)⟩
theorem lw_p70 : lw_okq (⟨"ExemptBeautyModel", "firstBad", "()I"⟩, 80) := ⟨⟨by decide +kernel, by decide +kernel⟩, List.mem_of_getElem? (i := 822) (by decide +kernel), List.mem_of_getElem? (i := 1334) (by decide +kernel), List.mem_of_getElem? (i := 1335) (by decide +kernel)⟩
theorem lw_p71 : lw_okq (⟨"ExemptBeautyModel", "goesOn", "(I)Z"⟩, 80) := ⟨⟨by decide +kernel, by decide +kernel⟩, List.mem_of_getElem? (i := 822) (by decide +kernel), List.mem_of_getElem? (i := 1338) (by decide +kernel), List.mem_of_getElem? (i := 1339) (by decide +kernel)⟩
theorem lw_p72 : lw_okq (⟨"ExemptBeautyModel", "pairsCost", "()I"⟩, 80) := ⟨⟨by decide +kernel, by decide +kernel⟩, List.mem_of_getElem? (i := 822) (by decide +kernel), List.mem_of_getElem? (i := 1342) (by decide +kernel), List.mem_of_getElem? (i := 1343) (by decide +kernel)⟩
theorem lw_p73 : lw_okq (⟨"ExemptBeautyModel", "isLooked", "()Z"⟩, 80) := ⟨⟨by decide +kernel, by decide +kernel⟩, List.mem_of_getElem? (i := 822) (by decide +kernel), List.mem_of_getElem? (i := 1358) (by decide +kernel), List.mem_of_getElem? (i := 1359) (by decide +kernel)⟩
theorem lw_p74 : lw_okq (⟨"ExemptBeautyModel", "lowest", "(III)J"⟩, 80) := ⟨⟨by decide +kernel, by decide +kernel⟩, List.mem_of_getElem? (i := 822) (by decide +kernel), List.mem_of_getElem? (i := 1375) (by decide +kernel), List.mem_of_getElem? (i := 1376) (by decide +kernel)⟩
theorem lw_p75 : lw_okq (⟨"ExemptBeautyModel", "divisor", "(II)I"⟩, 80) := ⟨⟨by decide +kernel, by decide +kernel⟩, List.mem_of_getElem? (i := 822) (by decide +kernel), List.mem_of_getElem? (i := 1379) (by decide +kernel), List.mem_of_getElem? (i := 1380) (by decide +kernel)⟩
theorem lw_p76 : lw_okq (⟨"ExemptBeautyModel", "isTape", "(I)Z"⟩, 80) := ⟨⟨by decide +kernel, by decide +kernel⟩, List.mem_of_getElem? (i := 822) (by decide +kernel), List.mem_of_getElem? (i := 1407) (by decide +kernel), List.mem_of_getElem? (i := 1408) (by decide +kernel)⟩
theorem lw_p77 : lw_okq (⟨"ExemptBeautyModel", "showsAct", "(II)I"⟩, 80) := ⟨⟨by decide +kernel, by decide +kernel⟩, List.mem_of_getElem? (i := 822) (by decide +kernel), List.mem_of_getElem? (i := 1423) (by decide +kernel), List.mem_of_getElem? (i := 1424) (by decide +kernel)⟩
theorem lw_p78 : lw_okq (⟨"ExemptBeautyModel", "body", "(I)V"⟩, 80) := ⟨⟨by decide +kernel, by decide +kernel⟩, List.mem_of_getElem? (i := 822) (by decide +kernel), List.mem_of_getElem? (i := 1427) (by decide +kernel), List.mem_of_getElem? (i := 1428) (by decide +kernel)⟩
theorem lw_p79 : lw_okq (⟨"ExemptBeautyModel", "personShows", "(II)I"⟩, 80) := ⟨⟨by decide +kernel, by decide +kernel⟩, List.mem_of_getElem? (i := 822) (by decide +kernel), List.mem_of_getElem? (i := 1431) (by decide +kernel), List.mem_of_getElem? (i := 1432) (by decide +kernel)⟩
def lw_privs_5 : List (MethodName × Nat) := [(⟨"ExemptBeautyModel", "bestHour", "(I)I"⟩, 80), (⟨"ExemptBeautyModel", "rises", "(I)I"⟩, 80), (⟨"ExemptBeautyModel", "layCosts", "()V"⟩, 80), (⟨"ExemptBeautyModel", "layTurn", "(I)Z"⟩, 80), (⟨"ExemptBeautyModel", "jointlyOf", "(II)I"⟩, 80), (⟨"ExemptBeautyModel", "layPairs", "()V"⟩, 80), (⟨"ExemptBeautyModel", "firstBad", "()I"⟩, 80), (⟨"ExemptBeautyModel", "goesOn", "(I)Z"⟩, 80), (⟨"ExemptBeautyModel", "pairsCost", "()I"⟩, 80), (⟨"ExemptBeautyModel", "isLooked", "()Z"⟩, 80), (⟨"ExemptBeautyModel", "lowest", "(III)J"⟩, 80), (⟨"ExemptBeautyModel", "divisor", "(II)I"⟩, 80), (⟨"ExemptBeautyModel", "isTape", "(I)Z"⟩, 80), (⟨"ExemptBeautyModel", "showsAct", "(II)I"⟩, 80), (⟨"ExemptBeautyModel", "body", "(I)V"⟩, 80), (⟨"ExemptBeautyModel", "personShows", "(II)I"⟩, 80)]
theorem lw_r5 : ∀ q ∈ lw_privs_5, lw_okq q := List.forall_mem_cons.mpr ⟨lw_p64, List.forall_mem_cons.mpr ⟨lw_p65, List.forall_mem_cons.mpr ⟨lw_p66, List.forall_mem_cons.mpr ⟨lw_p67, List.forall_mem_cons.mpr ⟨lw_p68, List.forall_mem_cons.mpr ⟨lw_p69, List.forall_mem_cons.mpr ⟨lw_p70, List.forall_mem_cons.mpr ⟨lw_p71, List.forall_mem_cons.mpr ⟨lw_p72, List.forall_mem_cons.mpr ⟨lw_p73, List.forall_mem_cons.mpr ⟨lw_p74, List.forall_mem_cons.mpr ⟨lw_p75, List.forall_mem_cons.mpr ⟨lw_p76, List.forall_mem_cons.mpr ⟨lw_p77, List.forall_mem_cons.mpr ⟨lw_p78, List.forall_mem_cons.mpr ⟨lw_p79, fun _ h => absurd h List.not_mem_nil⟩⟩⟩⟩⟩⟩⟩⟩⟩⟩⟩⟩⟩⟩⟩⟩
theorem lw_p80 : lw_okq (⟨"ExemptBeautyModel", "paysAct", "(II)I"⟩, 80) := ⟨⟨by decide +kernel, by decide +kernel⟩, List.mem_of_getElem? (i := 822) (by decide +kernel), List.mem_of_getElem? (i := 1435) (by decide +kernel), List.mem_of_getElem? (i := 1436) (by decide +kernel)⟩
theorem lw_p81 : lw_okq (⟨"ExemptBeautyModel", "fadingPays", "(II)I"⟩, 80) := ⟨⟨by decide +kernel, by decide +kernel⟩, List.mem_of_getElem? (i := 822) (by decide +kernel), List.mem_of_getElem? (i := 1439) (by decide +kernel), List.mem_of_getElem? (i := 1440) (by decide +kernel)⟩
theorem lw_p82 : lw_okq (⟨"ExemptBeautyModel", "personPays", "(II)I"⟩, 80) := ⟨⟨by decide +kernel, by decide +kernel⟩, List.mem_of_getElem? (i := 822) (by decide +kernel), List.mem_of_getElem? (i := 1443) (by decide +kernel), List.mem_of_getElem? (i := 1444) (by decide +kernel)⟩
theorem lw_p83 : lw_okq (⟨"ExemptBeautyModel", "tellsAct", "(II)I"⟩, 80) := ⟨⟨by decide +kernel, by decide +kernel⟩, List.mem_of_getElem? (i := 822) (by decide +kernel), List.mem_of_getElem? (i := 1447) (by decide +kernel), List.mem_of_getElem? (i := 1448) (by decide +kernel)⟩
theorem lw_p84 : lw_okq (⟨"ExemptBeautyModel", "personTells", "(II)I"⟩, 80) := ⟨⟨by decide +kernel, by decide +kernel⟩, List.mem_of_getElem? (i := 822) (by decide +kernel), List.mem_of_getElem? (i := 1451) (by decide +kernel), List.mem_of_getElem? (i := 1452) (by decide +kernel)⟩
theorem lw_p85 : lw_okq (⟨"ExemptBeautyModel", "narrow", "(IJ)J"⟩, 80) := ⟨⟨by decide +kernel, by decide +kernel⟩, List.mem_of_getElem? (i := 822) (by decide +kernel), List.mem_of_getElem? (i := 1475) (by decide +kernel), List.mem_of_getElem? (i := 1476) (by decide +kernel)⟩
def lw_privs_6 : List (MethodName × Nat) := [(⟨"ExemptBeautyModel", "paysAct", "(II)I"⟩, 80), (⟨"ExemptBeautyModel", "fadingPays", "(II)I"⟩, 80), (⟨"ExemptBeautyModel", "personPays", "(II)I"⟩, 80), (⟨"ExemptBeautyModel", "tellsAct", "(II)I"⟩, 80), (⟨"ExemptBeautyModel", "personTells", "(II)I"⟩, 80), (⟨"ExemptBeautyModel", "narrow", "(IJ)J"⟩, 80)]
theorem lw_r6 : ∀ q ∈ lw_privs_6, lw_okq q := List.forall_mem_cons.mpr ⟨lw_p80, List.forall_mem_cons.mpr ⟨lw_p81, List.forall_mem_cons.mpr ⟨lw_p82, List.forall_mem_cons.mpr ⟨lw_p83, List.forall_mem_cons.mpr ⟨lw_p84, List.forall_mem_cons.mpr ⟨lw_p85, fun _ h => absurd h List.not_mem_nil⟩⟩⟩⟩⟩⟩
def lw_privs : List (MethodName × Nat) := lw_privs_1 ++ (lw_privs_2 ++ (lw_privs_3 ++ (lw_privs_4 ++ (lw_privs_5 ++ (lw_privs_6)))))
def lw_tbl : List Cond := k2_sels lw_privs ++ tables_1
theorem lw_privs_ok : ∀ q ∈ lw_privs, lw_okq q := by
  show ∀ q ∈ lw_privs_1 ++ (lw_privs_2 ++ (lw_privs_3 ++ (lw_privs_4 ++ (lw_privs_5 ++ (lw_privs_6))))), lw_okq q
  exact List.forall_mem_append.mpr ⟨lw_r1, List.forall_mem_append.mpr ⟨lw_r2, List.forall_mem_append.mpr ⟨lw_r3, List.forall_mem_append.mpr ⟨lw_r4, List.forall_mem_append.mpr ⟨lw_r5, lw_r6⟩⟩⟩⟩⟩

/-! names, fields, types, code: from the task's printed table -/
def RX0 : String := "ExemptBeauty$Actor"
def TX0 : u_T := fun k => match k with
  | 0 => ("ExemptBeauty$Actor", "bodies", "[I", true)
  | _ => ("ExemptBeauty$Actor", "ran", "I", false)
def tyX0 : Nat → FieldType := fun k => match k with
  | 0 => .array .int
  | _ => .int
theorem nmX0 : ∀ a, a < 2 → ∀ b, b < 2 → a ≠ b → (TX0 a).2.1 ≠ (TX0 b).2.1 := by decide +kernel
theorem tyX0_ok : ∀ k, k < 2 → parseFieldDescriptor (TX0 k).2.2.1 = some (tyX0 k) := by decide +kernel
def RX1 : String := "ExemptBeauty$Asker"
def TX1 : u_T := fun k => match k with
  | 0 => ("ExemptBeauty$Asker", "guess", "LExemptBeauty$Person;", true)
  | 1 => ("ExemptBeauty$Asker", "least", "[I", true)
  | 2 => ("ExemptBeauty$Asker", "who", "[I", true)
  | 3 => ("ExemptBeauty$Asker", "costs", "[I", true)
  | 4 => ("ExemptBeauty$Asker", "fines", "[I", true)
  | _ => ("ExemptBeauty$Asker", "looked", "[I", true)
def tyX1 : Nat → FieldType := fun k => match k with
  | 0 => .object "ExemptBeauty$Person"
  | 1 => .array .int
  | 2 => .array .int
  | 3 => .array .int
  | 4 => .array .int
  | _ => .array .int
theorem nmX1 : ∀ a, a < 6 → ∀ b, b < 6 → a ≠ b → (TX1 a).2.1 ≠ (TX1 b).2.1 := by decide +kernel
theorem tyX1_ok : ∀ k, k < 6 → parseFieldDescriptor (TX1 k).2.2.1 = some (tyX1 k) := by decide +kernel
def RX2 : String := "ExemptBeauty$Office"
def TX2 : u_T := fun k => match k with
  | 0 => ("ExemptBeauty$Office", "taste", "I", false)
  | 1 => ("ExemptBeauty$Office", "light", "I", false)
  | 2 => ("ExemptBeauty$Office", "rate", "I", false)
  | 3 => ("ExemptBeauty$Office", "weights", "[I", true)
  | 4 => ("ExemptBeauty$Office", "ends", "[I", true)
  | 5 => ("ExemptBeauty$Office", "wishes", "I", false)
  | 6 => ("ExemptBeauty$Office", "code", "[I", true)
  | _ => ("ExemptBeauty$Office", "length", "I", false)
def tyX2 : Nat → FieldType := fun k => match k with
  | 0 => .int
  | 1 => .int
  | 2 => .int
  | 3 => .array .int
  | 4 => .array .int
  | 5 => .int
  | 6 => .array .int
  | _ => .int
theorem nmX2 : ∀ a, a < 8 → ∀ b, b < 8 → a ≠ b → (TX2 a).2.1 ≠ (TX2 b).2.1 := by decide +kernel
theorem tyX2_ok : ∀ k, k < 8 → parseFieldDescriptor (TX2 k).2.2.1 = some (tyX2 k) := by decide +kernel
def RX3 : String := "ExemptBeauty$Person"
def TX3 : u_T := fun k => match k with
  | 0 => ("ExemptBeauty$Person", "number", "I", false)
  | 1 => ("ExemptBeauty$Person", "kind", "I", false)
  | 2 => ("ExemptBeauty$Person", "v", "I", false)
  | 3 => ("ExemptBeauty$Person", "age", "I", false)
  | 4 => ("ExemptBeauty$Person", "isGone", "Z", false)
  | 5 => ("ExemptBeauty$Person", "graces", "[I", true)
  | _ => ("ExemptBeauty$Person", "row", "[I", true)
def tyX3 : Nat → FieldType := fun k => match k with
  | 0 => .int
  | 1 => .int
  | 2 => .int
  | 3 => .int
  | 4 => .boolean
  | 5 => .array .int
  | _ => .array .int
theorem nmX3 : ∀ a, a < 7 → ∀ b, b < 7 → a ≠ b → (TX3 a).2.1 ≠ (TX3 b).2.1 := by decide +kernel
theorem tyX3_ok : ∀ k, k < 7 → parseFieldDescriptor (TX3 k).2.2.1 = some (tyX3 k) := by decide +kernel
def RX4 : String := "ExemptBeauty$Reader"
def TX4 : u_T := fun k => match k with
  | 0 => ("ExemptBeauty$Reader", "text", "[I", true)
  | 1 => ("ExemptBeauty$Reader", "length", "I", false)
  | 2 => ("ExemptBeauty$Reader", "at", "I", false)
  | 3 => ("ExemptBeauty$Reader", "sign", "I", false)
  | _ => ("ExemptBeauty$Reader", "made", "LExemptBeauty$Office;", false)
def tyX4 : Nat → FieldType := fun k => match k with
  | 0 => .array .int
  | 1 => .int
  | 2 => .int
  | 3 => .int
  | _ => .object "ExemptBeauty$Office"
theorem nmX4 : ∀ a, a < 5 → ∀ b, b < 5 → a ≠ b → (TX4 a).2.1 ≠ (TX4 b).2.1 := by decide +kernel
theorem tyX4_ok : ∀ k, k < 5 → parseFieldDescriptor (TX4 k).2.2.1 = some (tyX4 k) := by decide +kernel
def RX5 : String := "ExemptBeauty$Rows"
def TX5 : u_T := fun k => match k with
  | 0 => ("ExemptBeauty$Rows", "most", "I", true)
  | 1 => ("ExemptBeauty$Rows", "cells", "[I", true)
  | _ => ("ExemptBeauty$Rows", "size", "I", false)
def tyX5 : Nat → FieldType := fun k => match k with
  | 0 => .int
  | 1 => .array .int
  | _ => .int
theorem nmX5 : ∀ a, a < 3 → ∀ b, b < 3 → a ≠ b → (TX5 a).2.1 ≠ (TX5 b).2.1 := by decide +kernel
theorem tyX5_ok : ∀ k, k < 3 → parseFieldDescriptor (TX5 k).2.2.1 = some (tyX5 k) := by decide +kernel
def RX6 : String := "ExemptBeauty$Tape"
def TX6 : u_T := fun k => match k with
  | 0 => ("ExemptBeauty$Tape", "sort", "I", false)
  | 1 => ("ExemptBeauty$Tape", "length", "I", false)
  | _ => ("ExemptBeauty$Tape", "items", "[J", true)
def tyX6 : Nat → FieldType := fun k => match k with
  | 0 => .int
  | 1 => .int
  | _ => .array .long
theorem nmX6 : ∀ a, a < 3 → ∀ b, b < 3 → a ≠ b → (TX6 a).2.1 ≠ (TX6 b).2.1 := by decide +kernel
theorem tyX6_ok : ∀ k, k < 3 → parseFieldDescriptor (TX6 k).2.2.1 = some (tyX6 k) := by decide +kernel
def RX7 : String := "ExemptBeauty$Town"
def TX7 : u_T := fun k => match k with
  | 0 => ("ExemptBeauty$Town", "people", "[LExemptBeauty$Person;", true)
  | 1 => ("ExemptBeauty$Town", "size", "I", false)
  | 2 => ("ExemptBeauty$Town", "hour", "I", false)
  | 3 => ("ExemptBeauty$Town", "year", "I", false)
  | 4 => ("ExemptBeauty$Town", "holds", "I", false)
  | 5 => ("ExemptBeauty$Town", "looks", "LExemptBeauty$Rows;", true)
  | 6 => ("ExemptBeauty$Town", "plan", "LExemptBeauty$Rows;", true)
  | _ => ("ExemptBeauty$Town", "book", "LExemptBeauty$Rows;", true)
def tyX7 : Nat → FieldType := fun k => match k with
  | 0 => .array (.object "ExemptBeauty$Person")
  | 1 => .int
  | 2 => .int
  | 3 => .int
  | 4 => .int
  | 5 => .object "ExemptBeauty$Rows"
  | 6 => .object "ExemptBeauty$Rows"
  | _ => .object "ExemptBeauty$Rows"
theorem nmX7 : ∀ a, a < 8 → ∀ b, b < 8 → a ≠ b → (TX7 a).2.1 ≠ (TX7 b).2.1 := by decide +kernel
theorem tyX7_ok : ∀ k, k < 8 → parseFieldDescriptor (TX7 k).2.2.1 = some (tyX7 k) := by decide +kernel
def RX8 : String := "ExemptBeauty"
def TX8 : u_T := fun k => match k with
  | 0 => ("ExemptBeauty", "now", "LExemptBeauty$Town;", true)
  | 1 => ("ExemptBeauty", "kept", "LExemptBeauty$Town;", true)
  | 2 => ("ExemptBeauty", "isKept", "Z", false)
  | 3 => ("ExemptBeauty", "blank", "LExemptBeauty$Office;", true)
  | 4 => ("ExemptBeauty", "offices", "[LExemptBeauty$Office;", true)
  | 5 => ("ExemptBeauty", "officeCount", "I", false)
  | 6 => ("ExemptBeauty", "reader", "LExemptBeauty$Reader;", true)
  | 7 => ("ExemptBeauty", "asker", "LExemptBeauty$Asker;", true)
  | 8 => ("ExemptBeauty", "actor", "LExemptBeauty$Actor;", true)
  | _ => ("ExemptBeauty", "tapes", "[LExemptBeauty$Tape;", true)
def tyX8 : Nat → FieldType := fun k => match k with
  | 0 => .object "ExemptBeauty$Town"
  | 1 => .object "ExemptBeauty$Town"
  | 2 => .boolean
  | 3 => .object "ExemptBeauty$Office"
  | 4 => .array (.object "ExemptBeauty$Office")
  | 5 => .int
  | 6 => .object "ExemptBeauty$Reader"
  | 7 => .object "ExemptBeauty$Asker"
  | 8 => .object "ExemptBeauty$Actor"
  | _ => .array (.object "ExemptBeauty$Tape")
theorem nmX8 : ∀ a, a < 10 → ∀ b, b < 10 → a ≠ b → (TX8 a).2.1 ≠ (TX8 b).2.1 := by decide +kernel
theorem tyX8_ok : ∀ k, k < 10 → parseFieldDescriptor (TX8 k).2.2.1 = some (tyX8 k) := by decide +kernel
def RX9 : String := "ExemptBeautyModel"
def TX9 : u_T := fun k => match k with
  | 0 => ("ExemptBeautyModel", "people", "I", false)
  | 1 => ("ExemptBeautyModel", "gone", "I", false)
  | 2 => ("ExemptBeautyModel", "clock", "I", false)
  | 3 => ("ExemptBeautyModel", "years", "I", false)
  | 4 => ("ExemptBeautyModel", "kind", "[I", true)
  | 5 => ("ExemptBeautyModel", "v", "[I", true)
  | 6 => ("ExemptBeautyModel", "age", "[I", true)
  | 7 => ("ExemptBeautyModel", "graceOf", "[I", true)
  | 8 => ("ExemptBeautyModel", "rows", "[I", true)
  | 9 => ("ExemptBeautyModel", "offices", "I", false)
  | 10 => ("ExemptBeautyModel", "the", "I", false)
  | 11 => ("ExemptBeautyModel", "fed", "I", false)
  | 12 => ("ExemptBeautyModel", "at", "I", false)
  | 13 => ("ExemptBeautyModel", "digits", "I", false)
  | 14 => ("ExemptBeautyModel", "text", "[I", true)
  | 15 => ("ExemptBeautyModel", "clauses", "[I", true)
  | 16 => ("ExemptBeautyModel", "word", "[I", true)
  | 17 => ("ExemptBeautyModel", "number", "[I", true)
  | 18 => ("ExemptBeautyModel", "from", "[I", true)
  | 19 => ("ExemptBeautyModel", "to", "[I", true)
  | 20 => ("ExemptBeautyModel", "sign", "[I", true)
  | 21 => ("ExemptBeautyModel", "waits", "[I", true)
  | 22 => ("ExemptBeautyModel", "signs", "I", false)
  | 23 => ("ExemptBeautyModel", "waiting", "I", false)
  | 24 => ("ExemptBeautyModel", "open", "I", false)
  | 25 => ("ExemptBeautyModel", "letters", "[I", true)
  | 26 => ("ExemptBeautyModel", "tasteInMind", "I", false)
  | 27 => ("ExemptBeautyModel", "pile", "[Z", true)
  | 28 => ("ExemptBeautyModel", "keptGone", "I", false)
  | 29 => ("ExemptBeautyModel", "keptClock", "I", false)
  | 30 => ("ExemptBeautyModel", "keptYears", "I", false)
  | 31 => ("ExemptBeautyModel", "keptAge", "[I", true)
  | 32 => ("ExemptBeautyModel", "keptGrace", "[I", true)
  | 33 => ("ExemptBeautyModel", "cost", "[I", true)
  | 34 => ("ExemptBeautyModel", "turn", "[I", true)
  | 35 => ("ExemptBeautyModel", "bestTurn", "[I", true)
  | 36 => ("ExemptBeautyModel", "there", "I", false)
  | 37 => ("ExemptBeautyModel", "both", "[I", true)
  | 38 => ("ExemptBeautyModel", "alone", "[I", true)
  | 39 => ("ExemptBeautyModel", "partner", "[I", true)
  | 40 => ("ExemptBeautyModel", "bestPartner", "[I", true)
  | 41 => ("ExemptBeautyModel", "looks", "I", false)
  | 42 => ("ExemptBeautyModel", "lookWho", "[I", true)
  | 43 => ("ExemptBeautyModel", "lookPart", "[I", true)
  | 44 => ("ExemptBeautyModel", "lookWhen", "[I", true)
  | 45 => ("ExemptBeautyModel", "lookOff", "[Z", true)
  | 46 => ("ExemptBeautyModel", "plans", "I", false)
  | 47 => ("ExemptBeautyModel", "books", "I", false)
  | 48 => ("ExemptBeautyModel", "planWhat", "[I", true)
  | 49 => ("ExemptBeautyModel", "planNumber", "[I", true)
  | 50 => ("ExemptBeautyModel", "bookWho", "[I", true)
  | 51 => ("ExemptBeautyModel", "bookPays", "[I", true)
  | 52 => ("ExemptBeautyModel", "hasImage", "Z", false)
  | 53 => ("ExemptBeautyModel", "imageThe", "I", false)
  | 54 => ("ExemptBeautyModel", "imagePeople", "I", false)
  | 55 => ("ExemptBeautyModel", "imageGone", "I", false)
  | 56 => ("ExemptBeautyModel", "imageClock", "I", false)
  | 57 => ("ExemptBeautyModel", "imageYears", "I", false)
  | 58 => ("ExemptBeautyModel", "imageLooks", "I", false)
  | 59 => ("ExemptBeautyModel", "imagePlans", "I", false)
  | 60 => ("ExemptBeautyModel", "imageBooks", "I", false)
  | 61 => ("ExemptBeautyModel", "imageKind", "[I", true)
  | 62 => ("ExemptBeautyModel", "imageV", "[I", true)
  | 63 => ("ExemptBeautyModel", "imageAge", "[I", true)
  | 64 => ("ExemptBeautyModel", "imageGrace", "[I", true)
  | 65 => ("ExemptBeautyModel", "imageRows", "[I", true)
  | 66 => ("ExemptBeautyModel", "imageWho", "[I", true)
  | 67 => ("ExemptBeautyModel", "imagePart", "[I", true)
  | 68 => ("ExemptBeautyModel", "imageWhen", "[I", true)
  | 69 => ("ExemptBeautyModel", "imageWhat", "[I", true)
  | 70 => ("ExemptBeautyModel", "imageNumber", "[I", true)
  | 71 => ("ExemptBeautyModel", "imageBookWho", "[I", true)
  | 72 => ("ExemptBeautyModel", "imageBookPays", "[I", true)
  | 73 => ("ExemptBeautyModel", "imageOff", "[Z", true)
  | 74 => ("ExemptBeautyModel", "ran", "I", false)
  | 75 => ("ExemptBeautyModel", "bodies", "[I", true)
  | 76 => ("ExemptBeautyModel", "sort", "[I", true)
  | 77 => ("ExemptBeautyModel", "length", "[I", true)
  | 78 => ("ExemptBeautyModel", "item", "[J", true)
  | _ => ("ExemptBeautyModel", "aside", "[J", true)
def tyX9 : Nat → FieldType := fun k => match k with
  | 0 => .int
  | 1 => .int
  | 2 => .int
  | 3 => .int
  | 4 => .array .int
  | 5 => .array .int
  | 6 => .array .int
  | 7 => .array .int
  | 8 => .array .int
  | 9 => .int
  | 10 => .int
  | 11 => .int
  | 12 => .int
  | 13 => .int
  | 14 => .array .int
  | 15 => .array .int
  | 16 => .array .int
  | 17 => .array .int
  | 18 => .array .int
  | 19 => .array .int
  | 20 => .array .int
  | 21 => .array .int
  | 22 => .int
  | 23 => .int
  | 24 => .int
  | 25 => .array .int
  | 26 => .int
  | 27 => .array .boolean
  | 28 => .int
  | 29 => .int
  | 30 => .int
  | 31 => .array .int
  | 32 => .array .int
  | 33 => .array .int
  | 34 => .array .int
  | 35 => .array .int
  | 36 => .int
  | 37 => .array .int
  | 38 => .array .int
  | 39 => .array .int
  | 40 => .array .int
  | 41 => .int
  | 42 => .array .int
  | 43 => .array .int
  | 44 => .array .int
  | 45 => .array .boolean
  | 46 => .int
  | 47 => .int
  | 48 => .array .int
  | 49 => .array .int
  | 50 => .array .int
  | 51 => .array .int
  | 52 => .boolean
  | 53 => .int
  | 54 => .int
  | 55 => .int
  | 56 => .int
  | 57 => .int
  | 58 => .int
  | 59 => .int
  | 60 => .int
  | 61 => .array .int
  | 62 => .array .int
  | 63 => .array .int
  | 64 => .array .int
  | 65 => .array .int
  | 66 => .array .int
  | 67 => .array .int
  | 68 => .array .int
  | 69 => .array .int
  | 70 => .array .int
  | 71 => .array .int
  | 72 => .array .int
  | 73 => .array .boolean
  | 74 => .int
  | 75 => .array .int
  | 76 => .array .int
  | 77 => .array .int
  | 78 => .array .long
  | _ => .array .long
theorem nmX9 : ∀ a, a < 80 → ∀ b, b < 80 → a ≠ b → (TX9 a).2.1 ≠ (TX9 b).2.1 := by decide +kernel
theorem tyX9_ok : ∀ k, k < 80 → parseFieldDescriptor (TX9 k).2.2.1 = some (tyX9 k) := by decide +kernel
def RJ0 : String := "java/lang/String"
def RJ1 : String := "java/lang/StringLatin1"
def RJ6 : String := "java/lang/Integer"
def RJ7 : String := "java/util/Arrays"
abbrev cX0_init : ByteArray := prog_2_method_1_code
def yX0_init : MethodName := ⟨RX0, "<init>", "()V"⟩
abbrev cX0_forget : ByteArray := prog_2_method_2_code
def yX0_forget : MethodName := ⟨RX0, "forget", "()V"⟩
abbrev cX0_begin : ByteArray := prog_2_method_3_code
def yX0_begin : MethodName := ⟨RX0, "begin", "(LExemptBeauty$Person;II)I"⟩
abbrev cX0_perform : ByteArray := prog_2_method_4_code
def yX0_perform : MethodName := ⟨RX0, "perform", "(LExemptBeauty$Person;IIII)I"⟩
abbrev cX0_run : ByteArray := prog_2_method_5_code
def yX0_run : MethodName := ⟨RX0, "run", "(LExemptBeauty$Person;III)I"⟩
abbrev cX1_init : ByteArray := prog_3_method_1_code
def yX1_init : MethodName := ⟨RX1, "<init>", "()V"⟩
abbrev cX1_older : ByteArray := prog_3_method_2_code
def yX1_older : MethodName := ⟨RX1, "older", "(LExemptBeauty$Person;I)LExemptBeauty$Person;"⟩
abbrev cX1_bestHour : ByteArray := prog_3_method_3_code
def yX1_bestHour : MethodName := ⟨RX1, "bestHour", "(LExemptBeauty$Office;LExemptBeauty$Person;)I"⟩
abbrev cX1_firstRise : ByteArray := prog_3_method_4_code
def yX1_firstRise : MethodName := ⟨RX1, "firstRise", "(LExemptBeauty$Office;LExemptBeauty$Person;I)I"⟩
abbrev cX1_lineUp : ByteArray := prog_3_method_5_code
def yX1_lineUp : MethodName := ⟨RX1, "lineUp", "(LExemptBeauty$Town;LExemptBeauty$Office;)I"⟩
abbrev cX1_paidFrom : ByteArray := prog_3_method_6_code
def yX1_paidFrom : MethodName := ⟨RX1, "paidFrom", "(II)I"⟩
abbrev cX1_nextInLine : ByteArray := prog_3_method_7_code
def yX1_nextInLine : MethodName := ⟨RX1, "nextInLine", "(II)I"⟩
abbrev cX1_inLine : ByteArray := prog_3_method_8_code
def yX1_inLine : MethodName := ⟨RX1, "inLine", "(II)I"⟩
abbrev cX1_fillFines : ByteArray := prog_3_method_9_code
def yX1_fillFines : MethodName := ⟨RX1, "fillFines", "(LExemptBeauty$Town;LExemptBeauty$Office;I)V"⟩
abbrev cX1_paidByTwo : ByteArray := prog_3_method_10_code
def yX1_paidByTwo : MethodName := ⟨RX1, "paidByTwo", "(LExemptBeauty$Office;II)I"⟩
abbrev cX1_partsBelow : ByteArray := prog_3_method_11_code
def yX1_partsBelow : MethodName := ⟨RX1, "partsBelow", "(LExemptBeauty$Town;I)I"⟩
abbrev cX1_pairUp : ByteArray := prog_3_method_12_code
def yX1_pairUp : MethodName := ⟨RX1, "pairUp", "(LExemptBeauty$Town;LExemptBeauty$Office;)I"⟩
abbrev cX1_firstFree : ByteArray := prog_3_method_13_code
def yX1_firstFree : MethodName := ⟨RX1, "firstFree", "(I)I"⟩
abbrev cX1_paidBehind : ByteArray := prog_3_method_14_code
def yX1_paidBehind : MethodName := ⟨RX1, "paidBehind", "(LExemptBeauty$Office;III)I"⟩
abbrev cX1_nextPartner : ByteArray := prog_3_method_15_code
def yX1_nextPartner : MethodName := ⟨RX1, "nextPartner", "(LExemptBeauty$Office;II)I"⟩
abbrev cX1_partner : ByteArray := prog_3_method_16_code
def yX1_partner : MethodName := ⟨RX1, "partner", "(LExemptBeauty$Office;II)I"⟩
abbrev cX1_fillLooks : ByteArray := prog_3_method_17_code
def yX1_fillLooks : MethodName := ⟨RX1, "fillLooks", "(LExemptBeauty$Town;LExemptBeauty$Office;)V"⟩
abbrev cX1_areLooksSo : ByteArray := prog_3_method_18_code
def yX1_areLooksSo : MethodName := ⟨RX1, "areLooksSo", "(LExemptBeauty$Rows;I)Z"⟩
abbrev cX1_areLooksSoBy : ByteArray := prog_3_method_19_code
def yX1_areLooksSoBy : MethodName := ⟨RX1, "areLooksSoBy", "(LExemptBeauty$Town;LExemptBeauty$Office;)Z"⟩
abbrev cX1_goByPlan : ByteArray := prog_3_method_20_code
def yX1_goByPlan : MethodName := ⟨RX1, "goByPlan", "(LExemptBeauty$Town;LExemptBeauty$Person;)I"⟩
abbrev cX2_init : ByteArray := prog_4_method_1_code
def yX2_init : MethodName := ⟨RX2, "<init>", "()V"⟩
abbrev cX2_clear : ByteArray := prog_4_method_2_code
def yX2_clear : MethodName := ⟨RX2, "clear", "()V"⟩
abbrev cX2_addCode : ByteArray := prog_4_method_3_code
def yX2_addCode : MethodName := ⟨RX2, "addCode", "(I)V"⟩
abbrev cX2_addWish : ByteArray := prog_4_method_4_code
def yX2_addWish : MethodName := ⟨RX2, "addWish", "(I)V"⟩
abbrev cX2_glow : ByteArray := prog_4_method_5_code
def yX2_glow : MethodName := ⟨RX2, "glow", "(I)I"⟩
abbrev cX2_fine : ByteArray := prog_4_method_6_code
def yX2_fine : MethodName := ⟨RX2, "fine", "(LExemptBeauty$Person;II)I"⟩
abbrev cX2_profile : ByteArray := prog_4_method_7_code
def yX2_profile : MethodName := ⟨RX2, "profile", "(II)I"⟩
abbrev cX2_hands : ByteArray := prog_4_method_8_code
def yX2_hands : MethodName := ⟨RX2, "hands", "(I)I"⟩
abbrev cX2_liking : ByteArray := prog_4_method_9_code
def yX2_liking : MethodName := ⟨RX2, "liking", "(LExemptBeauty$Person;II)I"⟩
abbrev cX2_holds : ByteArray := prog_4_method_10_code
def yX2_holds : MethodName := ⟨RX2, "holds", "(IILExemptBeauty$Person;II)Z"⟩
abbrev cX2_isSo : ByteArray := prog_4_method_11_code
def yX2_isSo : MethodName := ⟨RX2, "isSo", "(ILExemptBeauty$Person;II)Z"⟩
abbrev cX2_pays : ByteArray := prog_4_method_12_code
def yX2_pays : MethodName := ⟨RX2, "pays", "(LExemptBeauty$Person;I)I"⟩
abbrev cX2_partsLetOff : ByteArray := prog_4_method_13_code
def yX2_partsLetOff : MethodName := ⟨RX2, "partsLetOff", "(LExemptBeauty$Person;I)I"⟩
abbrev cX2_partToShow : ByteArray := prog_4_method_14_code
def yX2_partToShow : MethodName := ⟨RX2, "partToShow", "(LExemptBeauty$Person;I)I"⟩
abbrev cX3_init : ByteArray := prog_5_method_1_code
def yX3_init : MethodName := ⟨RX3, "<init>", "()V"⟩
abbrev cX3_begin : ByteArray := prog_5_method_2_code
def yX3_begin : MethodName := ⟨RX3, "begin", "(IIII)V"⟩
abbrev cX3_copyFrom : ByteArray := prog_5_method_3_code
def yX3_copyFrom : MethodName := ⟨RX3, "copyFrom", "(LExemptBeauty$Person;)V"⟩
abbrev cX3_growOlder : ByteArray := prog_5_method_4_code
def yX3_growOlder : MethodName := ⟨RX3, "growOlder", "(I)V"⟩
abbrev cX4_init : ByteArray := prog_6_method_1_code
def yX4_init : MethodName := ⟨RX4, "<init>", "()V"⟩
abbrev cX4_handOver : ByteArray := prog_6_method_2_code
def yX4_handOver : MethodName := ⟨RX4, "handOver", "()LExemptBeauty$Office;"⟩
abbrev cX4_readsOffice : ByteArray := prog_6_method_3_code
def yX4_readsOffice : MethodName := ⟨RX4, "readsOffice", "()Z"⟩
abbrev cX4_goTo : ByteArray := prog_6_method_4_code
def yX4_goTo : MethodName := ⟨RX4, "goTo", "(I)V"⟩
abbrev cX4_takes : ByteArray := prog_6_method_5_code
def yX4_takes : MethodName := ⟨RX4, "takes", "(C)Z"⟩
abbrev cX4_takesAll : ByteArray := prog_6_method_6_code
def yX4_takesAll : MethodName := ⟨RX4, "takesAll", "(Ljava/lang/String;)Z"⟩
abbrev cX4_readsClause : ByteArray := prog_6_method_7_code
def yX4_readsClause : MethodName := ⟨RX4, "readsClause", "()Z"⟩
abbrev cX4_readWord : ByteArray := prog_6_method_8_code
def yX4_readWord : MethodName := ⟨RX4, "readWord", "()I"⟩
abbrev cX4_readNumber : ByteArray := prog_6_method_9_code
def yX4_readNumber : MethodName := ⟨RX4, "readNumber", "()I"⟩
abbrev cX4_readsEither : ByteArray := prog_6_method_10_code
def yX4_readsEither : MethodName := ⟨RX4, "readsEither", "(I)Z"⟩
abbrev cX4_readsBoth : ByteArray := prog_6_method_11_code
def yX4_readsBoth : MethodName := ⟨RX4, "readsBoth", "(I)Z"⟩
abbrev cX4_readsPart : ByteArray := prog_6_method_12_code
def yX4_readsPart : MethodName := ⟨RX4, "readsPart", "(I)Z"⟩
abbrev cX4_readsTest : ByteArray := prog_6_method_13_code
def yX4_readsTest : MethodName := ⟨RX4, "readsTest", "()Z"⟩
abbrev cX5_init : ByteArray := prog_7_method_1_code
def yX5_init : MethodName := ⟨RX5, "<init>", "(I)V"⟩
abbrev cX5_isFull : ByteArray := prog_7_method_2_code
def yX5_isFull : MethodName := ⟨RX5, "isFull", "()Z"⟩
abbrev cX5_put : ByteArray := prog_7_method_3_code
def yX5_put : MethodName := ⟨RX5, "put", "(IIII)I"⟩
abbrev cX5_cell : ByteArray := prog_7_method_4_code
def yX5_cell : MethodName := ⟨RX5, "cell", "(II)I"⟩
abbrev cX5_copyFrom : ByteArray := prog_7_method_5_code
def yX5_copyFrom : MethodName := ⟨RX5, "copyFrom", "(LExemptBeauty$Rows;)V"⟩
abbrev cX6_init : ByteArray := prog_8_method_1_code
def yX6_init : MethodName := ⟨RX6, "<init>", "()V"⟩
abbrev cX6_become : ByteArray := prog_8_method_2_code
def yX6_become : MethodName := ⟨RX6, "become", "(II)V"⟩
abbrev cX6_fitted : ByteArray := prog_8_method_3_code
def yX6_fitted : MethodName := ⟨RX6, "fitted", "(J)J"⟩
abbrev cX7_init : ByteArray := prog_9_method_1_code
def yX7_init : MethodName := ⟨RX7, "<init>", "()V"⟩
abbrev cX7_copyFrom : ByteArray := prog_9_method_2_code
def yX7_copyFrom : MethodName := ⟨RX7, "copyFrom", "(LExemptBeauty$Town;)V"⟩
abbrev cX8_init : ByteArray := prog_1_method_1_code
def yX8_init : MethodName := ⟨RX8, "<init>", "()V"⟩
abbrev cX8_person : ByteArray := prog_1_method_2_code
def yX8_person : MethodName := ⟨RX8, "person", "(III)I"⟩
abbrev cX8_of : ByteArray := prog_1_method_3_code
def yX8_of : MethodName := ⟨RX8, "of", "(II)I"⟩
abbrev cX8_grace : ByteArray := prog_1_method_4_code
def yX8_grace : MethodName := ⟨RX8, "grace", "(III)I"⟩
abbrev cX8_leave : ByteArray := prog_1_method_5_code
def yX8_leave : MethodName := ⟨RX8, "leave", "(IZ)I"⟩
abbrev cX8_row : ByteArray := prog_1_method_6_code
def yX8_row : MethodName := ⟨RX8, "row", "(III)I"⟩
abbrev cX8_hour : ByteArray := prog_1_method_7_code
def yX8_hour : MethodName := ⟨RX8, "hour", "(I)I"⟩
abbrev cX8_feed : ByteArray := prog_1_method_8_code
def yX8_feed : MethodName := ⟨RX8, "feed", "(I)I"⟩
abbrev cX8_office : ByteArray := prog_1_method_9_code
def yX8_office : MethodName := ⟨RX8, "office", "()I"⟩
abbrev cX8_told : ByteArray := prog_1_method_10_code
def yX8_told : MethodName := ⟨RX8, "told", "(I)I"⟩
abbrev cX8_pass : ByteArray := prog_1_method_11_code
def yX8_pass : MethodName := ⟨RX8, "pass", "(I)I"⟩
abbrev cX8_on : ByteArray := prog_1_method_12_code
def yX8_on : MethodName := ⟨RX8, "on", "(II)I"⟩
abbrev cX8_seenAt : ByteArray := prog_1_method_13_code
def yX8_seenAt : MethodName := ⟨RX8, "seenAt", "(II)I"⟩
abbrev cX8_when : ByteArray := prog_1_method_14_code
def yX8_when : MethodName := ⟨RX8, "when", "(II)I"⟩
abbrev cX8_line : ByteArray := prog_1_method_15_code
def yX8_line : MethodName := ⟨RX8, "line", "(I)I"⟩
abbrev cX8_jointly : ByteArray := prog_1_method_16_code
def yX8_jointly : MethodName := ⟨RX8, "jointly", "(II)I"⟩
abbrev cX8_pairs : ByteArray := prog_1_method_17_code
def yX8_pairs : MethodName := ⟨RX8, "pairs", "(I)I"⟩
abbrev cX8_raises : ByteArray := prog_1_method_18_code
def yX8_raises : MethodName := ⟨RX8, "raises", "(I)I"⟩
abbrev cX8_see : ByteArray := prog_1_method_19_code
def yX8_see : MethodName := ⟨RX8, "see", "(IIZI)I"⟩
abbrev cX8_tastes : ByteArray := prog_1_method_20_code
def yX8_tastes : MethodName := ⟨RX8, "tastes", "(I)I"⟩
abbrev cX8_graces : ByteArray := prog_1_method_21_code
def yX8_graces : MethodName := ⟨RX8, "graces", "(III)I"⟩
abbrev cX8_can : ByteArray := prog_1_method_22_code
def yX8_can : MethodName := ⟨RX8, "can", "(II)I"⟩
abbrev cX8_odds : ByteArray := prog_1_method_23_code
def yX8_odds : MethodName := ⟨RX8, "odds", "(III)J"⟩
abbrev cX8_mean : ByteArray := prog_1_method_24_code
def yX8_mean : MethodName := ⟨RX8, "mean", "(II)J"⟩
abbrev cX8_plan : ByteArray := prog_1_method_25_code
def yX8_plan : MethodName := ⟨RX8, "plan", "(II)I"⟩
abbrev cX8_ends : ByteArray := prog_1_method_26_code
def yX8_ends : MethodName := ⟨RX8, "ends", "(I)I"⟩
abbrev cX8_book : ByteArray := prog_1_method_27_code
def yX8_book : MethodName := ⟨RX8, "book", "(II)I"⟩
abbrev cX8_looked : ByteArray := prog_1_method_28_code
def yX8_looked : MethodName := ⟨RX8, "looked", "()I"⟩
abbrev cX8_judge : ByteArray := prog_1_method_29_code
def yX8_judge : MethodName := ⟨RX8, "judge", "(II)I"⟩
abbrev cX8_image : ByteArray := prog_1_method_30_code
def yX8_image : MethodName := ⟨RX8, "image", "()I"⟩
abbrev cX8_undo : ByteArray := prog_1_method_31_code
def yX8_undo : MethodName := ⟨RX8, "undo", "()I"⟩
abbrev cX8_act : ByteArray := prog_1_method_32_code
def yX8_act : MethodName := ⟨RX8, "act", "(III)I"⟩
abbrev cX8_trace : ByteArray := prog_1_method_33_code
def yX8_trace : MethodName := ⟨RX8, "trace", "(I)I"⟩
abbrev cX8_taken : ByteArray := prog_1_method_34_code
def yX8_taken : MethodName := ⟨RX8, "taken", "(II)I"⟩
abbrev cX8_count : ByteArray := prog_1_method_35_code
def yX8_count : MethodName := ⟨RX8, "count", "(I)I"⟩
abbrev cX8_tape : ByteArray := prog_1_method_36_code
def yX8_tape : MethodName := ⟨RX8, "tape", "(III)I"⟩
abbrev cX8_item : ByteArray := prog_1_method_37_code
def yX8_item : MethodName := ⟨RX8, "item", "(IIJ)I"⟩
abbrev cX8_read : ByteArray := prog_1_method_38_code
def yX8_read : MethodName := ⟨RX8, "read", "(II)J"⟩
abbrev cX8_shift : ByteArray := prog_1_method_39_code
def yX8_shift : MethodName := ⟨RX8, "shift", "(IIIII)I"⟩
abbrev cX8_isPerson : ByteArray := prog_1_method_40_code
def yX8_isPerson : MethodName := ⟨RX8, "isPerson", "(I)Z"⟩
abbrev cX8_isPart : ByteArray := prog_1_method_41_code
def yX8_isPart : MethodName := ⟨RX8, "isPart", "(I)Z"⟩
abbrev cX8_isHour : ByteArray := prog_1_method_42_code
def yX8_isHour : MethodName := ⟨RX8, "isHour", "(I)Z"⟩
abbrev cX8_isYears : ByteArray := prog_1_method_43_code
def yX8_isYears : MethodName := ⟨RX8, "isYears", "(I)Z"⟩
abbrev cX8_isTape : ByteArray := prog_1_method_44_code
def yX8_isTape : MethodName := ⟨RX8, "isTape", "(I)Z"⟩
abbrev cX8_isChoice : ByteArray := prog_1_method_45_code
def yX8_isChoice : MethodName := ⟨RX8, "isChoice", "(I)Z"⟩
abbrev cX8_isUnder : ByteArray := prog_1_method_46_code
def yX8_isUnder : MethodName := ⟨RX8, "isUnder", "(II)Z"⟩
abbrev cX8_holding : ByteArray := prog_1_method_47_code
def yX8_holding : MethodName := ⟨RX8, "holding", "()LExemptBeauty$Office;"⟩
abbrev cX8_paidByAll : ByteArray := prog_1_method_48_code
def yX8_paidByAll : MethodName := ⟨RX8, "paidByAll", "(I)I"⟩
abbrev cX8_sideOfFraction : ByteArray := prog_1_method_49_code
def yX8_sideOfFraction : MethodName := ⟨RX8, "sideOfFraction", "(III)J"⟩
abbrev cX9_init : ByteArray := prog_11_method_1_code
def yX9_init : MethodName := ⟨RX9, "<init>", "()V"⟩
abbrev cX9_in : ByteArray := prog_11_method_2_code
def yX9_in : MethodName := ⟨RX9, "in", "(III)Z"⟩
abbrev cX9_has : ByteArray := prog_11_method_3_code
def yX9_has : MethodName := ⟨RX9, "has", "(II)Z"⟩
abbrev cX9_least : ByteArray := prog_11_method_4_code
def yX9_least : MethodName := ⟨RX9, "least", "(II)I"⟩
abbrev cX9_isPerson : ByteArray := prog_11_method_5_code
def yX9_isPerson : MethodName := ⟨RX9, "isPerson", "(I)Z"⟩
abbrev cX9_isPart : ByteArray := prog_11_method_6_code
def yX9_isPart : MethodName := ⟨RX9, "isPart", "(I)Z"⟩
abbrev cX9_isHour : ByteArray := prog_11_method_7_code
def yX9_isHour : MethodName := ⟨RX9, "isHour", "(I)Z"⟩
abbrev cX9_isYears : ByteArray := prog_11_method_8_code
def yX9_isYears : MethodName := ⟨RX9, "isYears", "(I)Z"⟩
abbrev cX9_person : ByteArray := prog_11_method_9_code
def yX9_person : MethodName := ⟨RX9, "person", "(III)I"⟩
abbrev cX9_grace : ByteArray := prog_11_method_10_code
def yX9_grace : MethodName := ⟨RX9, "grace", "(III)I"⟩
abbrev cX9_goes : ByteArray := prog_11_method_11_code
def yX9_goes : MethodName := ⟨RX9, "goes", "(IZ)V"⟩
abbrev cX9_leave : ByteArray := prog_11_method_12_code
def yX9_leave : MethodName := ⟨RX9, "leave", "(IZ)I"⟩
abbrev cX9_row : ByteArray := prog_11_method_13_code
def yX9_row : MethodName := ⟨RX9, "row", "(III)I"⟩
abbrev cX9_hour : ByteArray := prog_11_method_14_code
def yX9_hour : MethodName := ⟨RX9, "hour", "(I)I"⟩
abbrev cX9_feed : ByteArray := prog_11_method_15_code
def yX9_feed : MethodName := ⟨RX9, "feed", "(I)I"⟩
abbrev cX9_next : ByteArray := prog_11_method_16_code
def yX9_next : MethodName := ⟨RX9, "next", "()I"⟩
abbrev cX9_takes : ByteArray := prog_11_method_17_code
def yX9_takes : MethodName := ⟨RX9, "takes", "(I)Z"⟩
abbrev cX9_takesWord : ByteArray := prog_11_method_18_code
def yX9_takesWord : MethodName := ⟨RX9, "takesWord", "(II)Z"⟩
abbrev cX9_isDigit : ByteArray := prog_11_method_19_code
def yX9_isDigit : MethodName := ⟨RX9, "isDigit", "()Z"⟩
abbrev cX9_takesNumber : ByteArray := prog_11_method_20_code
def yX9_takesNumber : MethodName := ⟨RX9, "takesNumber", "()Z"⟩
abbrev cX9_emits : ByteArray := prog_11_method_21_code
def yX9_emits : MethodName := ⟨RX9, "emits", "(I)V"⟩
abbrev cX9_whole : ByteArray := prog_11_method_22_code
def yX9_whole : MethodName := ⟨RX9, "whole", "()V"⟩
abbrev cX9_settle : ByteArray := prog_11_method_23_code
def yX9_settle : MethodName := ⟨RX9, "settle", "(I)V"⟩
abbrev cX9_place : ByteArray := prog_11_method_24_code
def yX9_place : MethodName := ⟨RX9, "place", "(I)I"⟩
abbrev cX9_takesTest : ByteArray := prog_11_method_25_code
def yX9_takesTest : MethodName := ⟨RX9, "takesTest", "()Z"⟩
abbrev cX9_takesE : ByteArray := prog_11_method_26_code
def yX9_takesE : MethodName := ⟨RX9, "takesE", "(I)Z"⟩
abbrev cX9_takesHead : ByteArray := prog_11_method_27_code
def yX9_takesHead : MethodName := ⟨RX9, "takesHead", "(I)Z"⟩
abbrev cX9_takesClause : ByteArray := prog_11_method_28_code
def yX9_takesClause : MethodName := ⟨RX9, "takesClause", "(I)Z"⟩
abbrev cX9_goesText : ByteArray := prog_11_method_29_code
def yX9_goesText : MethodName := ⟨RX9, "goesText", "(I)Z"⟩
abbrev cX9_office : ByteArray := prog_11_method_30_code
def yX9_office : MethodName := ⟨RX9, "office", "()I"⟩
abbrev cX9_begin : ByteArray := prog_11_method_31_code
def yX9_begin : MethodName := ⟨RX9, "begin", "()I"⟩
abbrev cX9_behind : ByteArray := prog_11_method_32_code
def yX9_behind : MethodName := ⟨RX9, "behind", "()I"⟩
abbrev cX9_lastOf : ByteArray := prog_11_method_33_code
def yX9_lastOf : MethodName := ⟨RX9, "lastOf", "(II)I"⟩
abbrev cX9_taste : ByteArray := prog_11_method_34_code
def yX9_taste : MethodName := ⟨RX9, "taste", "()I"⟩
abbrev cX9_light : ByteArray := prog_11_method_35_code
def yX9_light : MethodName := ⟨RX9, "light", "()I"⟩
abbrev cX9_rate : ByteArray := prog_11_method_36_code
def yX9_rate : MethodName := ⟨RX9, "rate", "()I"⟩
abbrev cX9_factOf : ByteArray := prog_11_method_37_code
def yX9_factOf : MethodName := ⟨RX9, "factOf", "(III)I"⟩
abbrev cX9_holds : ByteArray := prog_11_method_38_code
def yX9_holds : MethodName := ⟨RX9, "holds", "(III)Z"⟩
abbrev cX9_liking : ByteArray := prog_11_method_39_code
def yX9_liking : MethodName := ⟨RX9, "liking", "(II)I"⟩
abbrev cX9_glow : ByteArray := prog_11_method_40_code
def yX9_glow : MethodName := ⟨RX9, "glow", "()I"⟩
abbrev cX9_fine : ByteArray := prog_11_method_41_code
def yX9_fine : MethodName := ⟨RX9, "fine", "(II)I"⟩
abbrev cX9_isOff : ByteArray := prog_11_method_42_code
def yX9_isOff : MethodName := ⟨RX9, "isOff", "(II)Z"⟩
abbrev cX9_offSet : ByteArray := prog_11_method_43_code
def yX9_offSet : MethodName := ⟨RX9, "offSet", "(I)I"⟩
abbrev cX9_offMany : ByteArray := prog_11_method_44_code
def yX9_offMany : MethodName := ⟨RX9, "offMany", "(I)I"⟩
abbrev cX9_pays : ByteArray := prog_11_method_45_code
def yX9_pays : MethodName := ⟨RX9, "pays", "(I)I"⟩
abbrev cX9_allPay : ByteArray := prog_11_method_46_code
def yX9_allPay : MethodName := ⟨RX9, "allPay", "()I"⟩
abbrev cX9_show : ByteArray := prog_11_method_47_code
def yX9_show : MethodName := ⟨RX9, "show", "(I)I"⟩
abbrev cX9_of : ByteArray := prog_11_method_48_code
def yX9_of : MethodName := ⟨RX9, "of", "(II)I"⟩
abbrev cX9_told : ByteArray := prog_11_method_49_code
def yX9_told : MethodName := ⟨RX9, "told", "(I)I"⟩
abbrev cX9_goYear : ByteArray := prog_11_method_50_code
def yX9_goYear : MethodName := ⟨RX9, "goYear", "()V"⟩
abbrev cX9_goYears : ByteArray := prog_11_method_51_code
def yX9_goYears : MethodName := ⟨RX9, "goYears", "(I)V"⟩
abbrev cX9_pass : ByteArray := prog_11_method_52_code
def yX9_pass : MethodName := ⟨RX9, "pass", "(I)I"⟩
abbrev cX9_save : ByteArray := prog_11_method_53_code
def yX9_save : MethodName := ⟨RX9, "save", "()V"⟩
abbrev cX9_putBack : ByteArray := prog_11_method_54_code
def yX9_putBack : MethodName := ⟨RX9, "putBack", "()V"⟩
abbrev cX9_on : ByteArray := prog_11_method_55_code
def yX9_on : MethodName := ⟨RX9, "on", "(II)I"⟩
abbrev cX9_paysAt : ByteArray := prog_11_method_56_code
def yX9_paysAt : MethodName := ⟨RX9, "paysAt", "(II)I"⟩
abbrev cX9_seenAt : ByteArray := prog_11_method_57_code
def yX9_seenAt : MethodName := ⟨RX9, "seenAt", "(II)I"⟩
abbrev cX9_bestHour : ByteArray := prog_11_method_58_code
def yX9_bestHour : MethodName := ⟨RX9, "bestHour", "(I)I"⟩
abbrev cX9_rises : ByteArray := prog_11_method_59_code
def yX9_rises : MethodName := ⟨RX9, "rises", "(I)I"⟩
abbrev cX9_when : ByteArray := prog_11_method_60_code
def yX9_when : MethodName := ⟨RX9, "when", "(II)I"⟩
abbrev cX9_layCosts : ByteArray := prog_11_method_61_code
def yX9_layCosts : MethodName := ⟨RX9, "layCosts", "()V"⟩
abbrev cX9_layTurn : ByteArray := prog_11_method_62_code
def yX9_layTurn : MethodName := ⟨RX9, "layTurn", "(I)Z"⟩
abbrev cX9_line : ByteArray := prog_11_method_63_code
def yX9_line : MethodName := ⟨RX9, "line", "(I)I"⟩
abbrev cX9_jointlyOf : ByteArray := prog_11_method_64_code
def yX9_jointlyOf : MethodName := ⟨RX9, "jointlyOf", "(II)I"⟩
abbrev cX9_jointly : ByteArray := prog_11_method_65_code
def yX9_jointly : MethodName := ⟨RX9, "jointly", "(II)I"⟩
abbrev cX9_layPairs : ByteArray := prog_11_method_66_code
def yX9_layPairs : MethodName := ⟨RX9, "layPairs", "()V"⟩
abbrev cX9_firstBad : ByteArray := prog_11_method_67_code
def yX9_firstBad : MethodName := ⟨RX9, "firstBad", "()I"⟩
abbrev cX9_goesOn : ByteArray := prog_11_method_68_code
def yX9_goesOn : MethodName := ⟨RX9, "goesOn", "(I)Z"⟩
abbrev cX9_pairsCost : ByteArray := prog_11_method_69_code
def yX9_pairsCost : MethodName := ⟨RX9, "pairsCost", "()I"⟩
abbrev cX9_pairs : ByteArray := prog_11_method_70_code
def yX9_pairs : MethodName := ⟨RX9, "pairs", "(I)I"⟩
abbrev cX9_raises : ByteArray := prog_11_method_71_code
def yX9_raises : MethodName := ⟨RX9, "raises", "(I)I"⟩
abbrev cX9_see : ByteArray := prog_11_method_72_code
def yX9_see : MethodName := ⟨RX9, "see", "(IIZI)I"⟩
abbrev cX9_isLooked : ByteArray := prog_11_method_73_code
def yX9_isLooked : MethodName := ⟨RX9, "isLooked", "()Z"⟩
abbrev cX9_tastes : ByteArray := prog_11_method_74_code
def yX9_tastes : MethodName := ⟨RX9, "tastes", "(I)I"⟩
abbrev cX9_graces : ByteArray := prog_11_method_75_code
def yX9_graces : MethodName := ⟨RX9, "graces", "(III)I"⟩
abbrev cX9_can : ByteArray := prog_11_method_76_code
def yX9_can : MethodName := ⟨RX9, "can", "(II)I"⟩
abbrev cX9_divisor : ByteArray := prog_11_method_77_code
def yX9_divisor : MethodName := ⟨RX9, "divisor", "(II)I"⟩
abbrev cX9_lowest : ByteArray := prog_11_method_78_code
def yX9_lowest : MethodName := ⟨RX9, "lowest", "(III)J"⟩
abbrev cX9_odds : ByteArray := prog_11_method_79_code
def yX9_odds : MethodName := ⟨RX9, "odds", "(III)J"⟩
abbrev cX9_mean : ByteArray := prog_11_method_80_code
def yX9_mean : MethodName := ⟨RX9, "mean", "(II)J"⟩
abbrev cX9_plan : ByteArray := prog_11_method_81_code
def yX9_plan : MethodName := ⟨RX9, "plan", "(II)I"⟩
abbrev cX9_ends : ByteArray := prog_11_method_82_code
def yX9_ends : MethodName := ⟨RX9, "ends", "(I)I"⟩
abbrev cX9_book : ByteArray := prog_11_method_83_code
def yX9_book : MethodName := ⟨RX9, "book", "(II)I"⟩
abbrev cX9_looked : ByteArray := prog_11_method_84_code
def yX9_looked : MethodName := ⟨RX9, "looked", "()I"⟩
abbrev cX9_judge : ByteArray := prog_11_method_85_code
def yX9_judge : MethodName := ⟨RX9, "judge", "(II)I"⟩
abbrev cX9_image : ByteArray := prog_11_method_86_code
def yX9_image : MethodName := ⟨RX9, "image", "()I"⟩
abbrev cX9_undo : ByteArray := prog_11_method_87_code
def yX9_undo : MethodName := ⟨RX9, "undo", "()I"⟩
abbrev cX9_body : ByteArray := prog_11_method_88_code
def yX9_body : MethodName := ⟨RX9, "body", "(I)V"⟩
abbrev cX9_personShows : ByteArray := prog_11_method_89_code
def yX9_personShows : MethodName := ⟨RX9, "personShows", "(II)I"⟩
abbrev cX9_showsAct : ByteArray := prog_11_method_90_code
def yX9_showsAct : MethodName := ⟨RX9, "showsAct", "(II)I"⟩
abbrev cX9_personPays : ByteArray := prog_11_method_91_code
def yX9_personPays : MethodName := ⟨RX9, "personPays", "(II)I"⟩
abbrev cX9_fadingPays : ByteArray := prog_11_method_92_code
def yX9_fadingPays : MethodName := ⟨RX9, "fadingPays", "(II)I"⟩
abbrev cX9_paysAct : ByteArray := prog_11_method_93_code
def yX9_paysAct : MethodName := ⟨RX9, "paysAct", "(II)I"⟩
abbrev cX9_personTells : ByteArray := prog_11_method_94_code
def yX9_personTells : MethodName := ⟨RX9, "personTells", "(II)I"⟩
abbrev cX9_tellsAct : ByteArray := prog_11_method_95_code
def yX9_tellsAct : MethodName := ⟨RX9, "tellsAct", "(II)I"⟩
abbrev cX9_act : ByteArray := prog_11_method_96_code
def yX9_act : MethodName := ⟨RX9, "act", "(III)I"⟩
abbrev cX9_trace : ByteArray := prog_11_method_97_code
def yX9_trace : MethodName := ⟨RX9, "trace", "(I)I"⟩
abbrev cX9_taken : ByteArray := prog_11_method_98_code
def yX9_taken : MethodName := ⟨RX9, "taken", "(II)I"⟩
abbrev cX9_count : ByteArray := prog_11_method_99_code
def yX9_count : MethodName := ⟨RX9, "count", "(I)I"⟩
abbrev cX9_isTape : ByteArray := prog_11_method_100_code
def yX9_isTape : MethodName := ⟨RX9, "isTape", "(I)Z"⟩
abbrev cX9_tape : ByteArray := prog_11_method_101_code
def yX9_tape : MethodName := ⟨RX9, "tape", "(III)I"⟩
abbrev cX9_narrow : ByteArray := prog_11_method_102_code
def yX9_narrow : MethodName := ⟨RX9, "narrow", "(IJ)J"⟩
abbrev cX9_item : ByteArray := prog_11_method_103_code
def yX9_item : MethodName := ⟨RX9, "item", "(IIJ)I"⟩
abbrev cX9_read : ByteArray := prog_11_method_104_code
def yX9_read : MethodName := ⟨RX9, "read", "(II)J"⟩
abbrev cX9_shift : ByteArray := prog_11_method_105_code
def yX9_shift : MethodName := ⟨RX9, "shift", "(IIIII)I"⟩
abbrev cJ6_bitCount_0f7a4 : ByteArray := prog_12_method_49_code
def yJ6_bitCount_0f7a4 : MethodName := ⟨RJ6, "bitCount", "(I)I"⟩
abbrev cJ0_length_8abf5 : ByteArray := prog_14_method_54_code
def yJ0_length_8abf5 : MethodName := ⟨RJ0, "length", "()I"⟩
abbrev cJ0_charAt_5068e : ByteArray := prog_14_method_56_code
def yJ0_charAt_5068e : MethodName := ⟨RJ0, "charAt", "(I)C"⟩
abbrev cJ0_coder_7d493 : ByteArray := prog_14_method_152_code
def yJ0_coder_7d493 : MethodName := ⟨RJ0, "coder", "()B"⟩
abbrev cJ0_isLatin1_aae02 : ByteArray := prog_14_method_154_code
def yJ0_isLatin1_aae02 : MethodName := ⟨RJ0, "isLatin1", "()Z"⟩
abbrev cJ1_charAt_3b067 : ByteArray := prog_15_method_2_code
def yJ1_charAt_3b067 : MethodName := ⟨RJ1, "charAt", "([BI)C"⟩
abbrev cJ7_fill_d0a16 : ByteArray := prog_18_method_101_code
def yJ7_fill_d0a16 : MethodName := ⟨RJ7, "fill", "([JJ)V"⟩
abbrev cJ7_fill_53178 : ByteArray := prog_18_method_103_code
def yJ7_fill_53178 : MethodName := ⟨RJ7, "fill", "([II)V"⟩
def RL : String := "ExemptBeautyLaw"
abbrev vwCl : List vw_C := [(RX0, TX0, 2), (RX1, TX1, 6), (RX2, TX2, 8), (RX3, TX3, 7), (RX4, TX4, 5), (RX5, TX5, 3), (RX6, TX6, 3), (RX7, TX7, 8), (RX8, TX8, 10), (RX9, TX9, 80)]
def tyOf (ci : Nat) : Nat → FieldType := match ci with
  | 0 => tyX0
  | 1 => tyX1
  | 2 => tyX2
  | 3 => tyX3
  | 4 => tyX4
  | 5 => tyX5
  | 6 => tyX6
  | 7 => tyX7
  | 8 => tyX8
  | _ => tyX9
/-! the methods by number -/
def mNmL : List MethodName := [yX0_init, yX0_forget, yX0_begin, yX0_perform, yX0_run, yX1_init, yX1_older, yX1_bestHour, yX1_firstRise, yX1_lineUp, yX1_paidFrom, yX1_nextInLine, yX1_inLine, yX1_fillFines, yX1_paidByTwo, yX1_partsBelow, yX1_pairUp, yX1_firstFree, yX1_paidBehind, yX1_nextPartner, yX1_partner, yX1_fillLooks, yX1_areLooksSo, yX1_areLooksSoBy, yX1_goByPlan, yX2_init, yX2_clear, yX2_addCode, yX2_addWish, yX2_glow, yX2_fine, yX2_profile, yX2_hands, yX2_liking, yX2_holds, yX2_isSo, yX2_pays, yX2_partsLetOff, yX2_partToShow, yX3_init, yX3_begin, yX3_copyFrom, yX3_growOlder, yX4_init, yX4_handOver, yX4_readsOffice, yX4_goTo, yX4_takes, yX4_takesAll, yX4_readsClause, yX4_readWord, yX4_readNumber, yX4_readsEither, yX4_readsBoth, yX4_readsPart, yX4_readsTest, yX5_init, yX5_isFull, yX5_put, yX5_cell, yX5_copyFrom, yX6_init, yX6_become, yX6_fitted, yX7_init, yX7_copyFrom, yX8_init, yX8_person, yX8_of, yX8_grace, yX8_leave, yX8_row, yX8_hour, yX8_feed, yX8_office, yX8_told, yX8_pass, yX8_on, yX8_seenAt, yX8_when, yX8_line, yX8_jointly, yX8_pairs, yX8_raises, yX8_see, yX8_tastes, yX8_graces, yX8_can, yX8_odds, yX8_mean, yX8_plan, yX8_ends, yX8_book, yX8_looked, yX8_judge, yX8_image, yX8_undo, yX8_act, yX8_trace, yX8_taken, yX8_count, yX8_tape, yX8_item, yX8_read, yX8_shift, yX8_isPerson, yX8_isPart, yX8_isHour, yX8_isYears, yX8_isTape, yX8_isChoice, yX8_isUnder, yX8_holding, yX8_paidByAll, yX8_sideOfFraction, yX9_init, yX9_in, yX9_has, yX9_least, yX9_isPerson, yX9_isPart, yX9_isHour, yX9_isYears, yX9_person, yX9_grace, yX9_goes, yX9_leave, yX9_row, yX9_hour, yX9_feed, yX9_next, yX9_takes, yX9_takesWord, yX9_isDigit, yX9_takesNumber, yX9_emits, yX9_whole, yX9_settle, yX9_place, yX9_takesTest, yX9_takesE, yX9_takesHead, yX9_takesClause, yX9_goesText, yX9_office, yX9_begin, yX9_behind, yX9_lastOf, yX9_taste, yX9_light, yX9_rate, yX9_factOf, yX9_holds, yX9_liking, yX9_glow, yX9_fine, yX9_isOff, yX9_offSet, yX9_offMany, yX9_pays, yX9_allPay, yX9_show, yX9_of, yX9_told, yX9_goYear, yX9_goYears, yX9_pass, yX9_save, yX9_putBack, yX9_on, yX9_paysAt, yX9_seenAt, yX9_bestHour, yX9_rises, yX9_when, yX9_layCosts, yX9_layTurn, yX9_line, yX9_jointlyOf, yX9_jointly, yX9_layPairs, yX9_firstBad, yX9_goesOn, yX9_pairsCost, yX9_pairs, yX9_raises, yX9_see, yX9_isLooked, yX9_tastes, yX9_graces, yX9_can, yX9_divisor, yX9_lowest, yX9_odds, yX9_mean, yX9_plan, yX9_ends, yX9_book, yX9_looked, yX9_judge, yX9_image, yX9_undo, yX9_body, yX9_personShows, yX9_showsAct, yX9_personPays, yX9_fadingPays, yX9_paysAct, yX9_personTells, yX9_tellsAct, yX9_act, yX9_trace, yX9_taken, yX9_count, yX9_isTape, yX9_tape, yX9_narrow, yX9_item, yX9_read, yX9_shift, yJ6_bitCount_0f7a4, yJ0_length_8abf5, yJ0_charAt_5068e, yJ0_coder_7d493, yJ0_isLatin1_aae02, yJ1_charAt_3b067, yJ7_fill_d0a16, yJ7_fill_53178, x]
def mMaxL : List Nat := [1, 1, 4, 9, 5, 1, 3, 7, 7, 7, 3, 5, 6, 6, 7, 6, 6, 2, 5, 9, 8, 7, 4, 3, 6, 1, 1, 2, 2, 3, 6, 2, 1, 7, 10, 7, 3, 5, 7, 1, 5, 2, 3, 1, 2, 2, 2, 2, 3, 3, 1, 2, 3, 3, 2, 4, 2, 1, 6, 4, 2, 1, 3, 3, 2, 3, 2, 4, 5, 6, 4, 6, 3, 2, 2, 3, 3, 8, 3, 4, 3, 4, 3, 4, 5, 5, 9, 8, 7, 3, 3, 6, 3, 3, 5, 1, 1, 4, 2, 4, 2, 4, 6, 4, 8, 2, 1, 1, 1, 1, 1, 4, 2, 5, 7, 1, 4, 3, 3, 2, 2, 2, 2, 5, 5, 3, 4, 5, 3, 2, 1, 2, 4, 1, 2, 2, 1, 2, 2, 3, 4, 2, 2, 3, 2, 1, 1, 5, 1, 1, 1, 4, 9, 5, 3, 7, 3, 4, 4, 2, 3, 6, 3, 2, 2, 3, 2, 2, 2, 4, 5, 3, 4, 6, 3, 3, 5, 7, 5, 3, 3, 6, 4, 3, 7, 4, 5, 3, 5, 8, 7, 6, 5, 7, 5, 3, 4, 3, 2, 4, 2, 2, 2, 3, 3, 3, 3, 4, 3, 4, 4, 2, 4, 2, 2, 5, 4, 5, 3, 7, 1, 1, 2, 1, 1, 2, 5, 4, 4]
def mRetL : List (Option FieldType) := [none, none, (some .int), (some .int), (some .int), none, (some (.object "ExemptBeauty$Person")), (some .int), (some .int), (some .int), (some .int), (some .int), (some .int), none, (some .int), (some .int), (some .int), (some .int), (some .int), (some .int), (some .int), none, (some .boolean), (some .boolean), (some .int), none, none, none, none, (some .int), (some .int), (some .int), (some .int), (some .int), (some .boolean), (some .boolean), (some .int), (some .int), (some .int), none, none, none, none, none, (some (.object "ExemptBeauty$Office")), (some .boolean), none, (some .boolean), (some .boolean), (some .boolean), (some .int), (some .int), (some .boolean), (some .boolean), (some .boolean), (some .boolean), none, (some .boolean), (some .int), (some .int), none, none, none, (some .long), none, none, none, (some .int), (some .int), (some .int), (some .int), (some .int), (some .int), (some .int), (some .int), (some .int), (some .int), (some .int), (some .int), (some .int), (some .int), (some .int), (some .int), (some .int), (some .int), (some .int), (some .int), (some .int), (some .long), (some .long), (some .int), (some .int), (some .int), (some .int), (some .int), (some .int), (some .int), (some .int), (some .int), (some .int), (some .int), (some .int), (some .int), (some .long), (some .int), (some .boolean), (some .boolean), (some .boolean), (some .boolean), (some .boolean), (some .boolean), (some .boolean), (some (.object "ExemptBeauty$Office")), (some .int), (some .long), none, (some .boolean), (some .boolean), (some .int), (some .boolean), (some .boolean), (some .boolean), (some .boolean), (some .int), (some .int), none, (some .int), (some .int), (some .int), (some .int), (some .int), (some .boolean), (some .boolean), (some .boolean), (some .boolean), none, none, none, (some .int), (some .boolean), (some .boolean), (some .boolean), (some .boolean), (some .boolean), (some .int), (some .int), (some .int), (some .int), (some .int), (some .int), (some .int), (some .int), (some .boolean), (some .int), (some .int), (some .int), (some .boolean), (some .int), (some .int), (some .int), (some .int), (some .int), (some .int), (some .int), none, none, (some .int), none, none, (some .int), (some .int), (some .int), (some .int), (some .int), (some .int), none, (some .boolean), (some .int), (some .int), (some .int), none, (some .int), (some .boolean), (some .int), (some .int), (some .int), (some .int), (some .boolean), (some .int), (some .int), (some .int), (some .int), (some .long), (some .long), (some .long), (some .int), (some .int), (some .int), (some .int), (some .int), (some .int), (some .int), none, (some .int), (some .int), (some .int), (some .int), (some .int), (some .int), (some .int), (some .int), (some .int), (some .int), (some .int), (some .boolean), (some .int), (some .long), (some .int), (some .long), (some .int), (some .int), (some .int), (some .char), (some .byte), (some .boolean), (some .char), none, none, (some .boolean)]
def mBudL : List (Nat × Nat) := [(1, 20), (0, 0), (0, 0), (0, 0), (0, 0), (8, 165), (0, 0), (0, 0), (0, 0), (0, 0), (0, 0), (0, 0), (0, 0), (0, 0), (0, 0), (0, 0), (0, 0), (0, 0), (0, 0), (0, 0), (0, 0), (0, 0), (0, 0), (0, 0), (0, 0), (3, 120), (0, 0), (0, 0), (0, 0), (0, 0), (0, 0), (0, 0), (0, 0), (0, 0), (0, 0), (0, 0), (0, 0), (0, 0), (0, 0), (2, 10), (0, 0), (0, 0), (0, 0), (5, 228), (4, 128), (0, 0), (0, 0), (0, 0), (0, 0), (0, 0), (0, 0), (0, 0), (0, 0), (0, 0), (0, 0), (0, 0), (1, 40), (0, 0), (0, 0), (0, 0), (0, 0), (1, 60), (0, 0), (0, 0), (25, 237), (0, 0), (87, 1434), (0, 0), (0, 0), (0, 0), (0, 0), (0, 0), (0, 0), (0, 0), (4, 128), (0, 0), (0, 0), (0, 0), (0, 0), (0, 0), (0, 0), (0, 0), (0, 0), (0, 0), (0, 0), (0, 0), (0, 0), (0, 0), (0, 0), (0, 0), (0, 0), (0, 0), (0, 0), (0, 0), (0, 0), (0, 0), (0, 0), (0, 0), (0, 0), (0, 0), (0, 0), (0, 0), (0, 0), (0, 0), (0, 0), (0, 0), (0, 0), (0, 0), (0, 0), (0, 0), (0, 0), (0, 0), (0, 0), (0, 0), (0, 0), (50, 2041), (0, 0), (0, 0), (0, 0), (0, 0), (0, 0), (0, 0), (0, 0), (0, 0), (0, 0), (0, 0), (0, 0), (0, 0), (0, 0), (0, 0), (0, 0), (0, 0), (0, 0), (0, 0), (0, 0), (0, 0), (0, 0), (0, 0), (0, 0), (0, 0), (0, 0), (0, 0), (0, 0), (0, 0), (0, 0), (0, 0), (0, 0), (0, 0), (0, 0), (0, 0), (0, 0), (0, 0), (0, 0), (0, 0), (0, 0), (0, 0), (0, 0), (0, 0), (0, 0), (0, 0), (0, 0), (0, 0), (0, 0), (0, 0), (0, 0), (0, 0), (0, 0), (0, 0), (0, 0), (0, 0), (0, 0), (0, 0), (0, 0), (0, 0), (0, 0), (0, 0), (0, 0), (0, 0), (0, 0), (0, 0), (0, 0), (0, 0), (0, 0), (0, 0), (0, 0), (0, 0), (0, 0), (0, 0), (0, 0), (0, 0), (0, 0), (0, 0), (0, 0), (0, 0), (0, 0), (0, 0), (0, 0), (0, 0), (0, 0), (0, 0), (0, 0), (0, 0), (0, 0), (0, 0), (0, 0), (0, 0), (0, 0), (0, 0), (0, 0), (0, 0), (0, 0), (0, 0), (0, 0), (0, 0), (0, 0), (0, 0), (0, 0), (0, 0), (0, 0), (0, 0), (0, 0), (0, 0), (0, 0), (0, 0), (0, 0), (0, 0), (0, 0), (0, 0), (600000, 7302250)]
def mClsL : List Nat := [0, 0, 0, 0, 0, 1, 1, 1, 1, 1, 1, 1, 1, 1, 1, 1, 1, 1, 1, 1, 1, 1, 1, 1, 1, 2, 2, 2, 2, 2, 2, 2, 2, 2, 2, 2, 2, 2, 2, 3, 3, 3, 3, 4, 4, 4, 4, 4, 4, 4, 4, 4, 4, 4, 4, 4, 5, 5, 5, 5, 5, 6, 6, 6, 7, 7, 8, 8, 8, 8, 8, 8, 8, 8, 8, 8, 8, 8, 8, 8, 8, 8, 8, 8, 8, 8, 8, 8, 8, 8, 8, 8, 8, 8, 8, 8, 8, 8, 8, 8, 8, 8, 8, 8, 8, 8, 8, 8, 8, 8, 8, 8, 8, 8, 8, 9, 9, 9, 9, 9, 9, 9, 9, 9, 9, 9, 9, 9, 9, 9, 9, 9, 9, 9, 9, 9, 9, 9, 9, 9, 9, 9, 9, 9, 9, 9, 9, 9, 9, 9, 9, 9, 9, 9, 9, 9, 9, 9, 9, 9, 9, 9, 9, 9, 9, 9, 9, 9, 9, 9, 9, 9, 9, 9, 9, 9, 9, 9, 9, 9, 9, 9, 9, 9, 9, 9, 9, 9, 9, 9, 9, 9, 9, 9, 9, 9, 9, 9, 9, 9, 9, 9, 9, 9, 9, 9, 9, 9, 9, 9, 9, 9, 9, 9, 9, 9, 9, 9, 9, 9, 99, 60, 60, 60, 60, 99, 99, 99, 99]
def mBytesL : List ByteArray := [cX0_init, cX0_forget, cX0_begin, cX0_perform, cX0_run, cX1_init, cX1_older, cX1_bestHour, cX1_firstRise, cX1_lineUp, cX1_paidFrom, cX1_nextInLine, cX1_inLine, cX1_fillFines, cX1_paidByTwo, cX1_partsBelow, cX1_pairUp, cX1_firstFree, cX1_paidBehind, cX1_nextPartner, cX1_partner, cX1_fillLooks, cX1_areLooksSo, cX1_areLooksSoBy, cX1_goByPlan, cX2_init, cX2_clear, cX2_addCode, cX2_addWish, cX2_glow, cX2_fine, cX2_profile, cX2_hands, cX2_liking, cX2_holds, cX2_isSo, cX2_pays, cX2_partsLetOff, cX2_partToShow, cX3_init, cX3_begin, cX3_copyFrom, cX3_growOlder, cX4_init, cX4_handOver, cX4_readsOffice, cX4_goTo, cX4_takes, cX4_takesAll, cX4_readsClause, cX4_readWord, cX4_readNumber, cX4_readsEither, cX4_readsBoth, cX4_readsPart, cX4_readsTest, cX5_init, cX5_isFull, cX5_put, cX5_cell, cX5_copyFrom, cX6_init, cX6_become, cX6_fitted, cX7_init, cX7_copyFrom, cX8_init, cX8_person, cX8_of, cX8_grace, cX8_leave, cX8_row, cX8_hour, cX8_feed, cX8_office, cX8_told, cX8_pass, cX8_on, cX8_seenAt, cX8_when, cX8_line, cX8_jointly, cX8_pairs, cX8_raises, cX8_see, cX8_tastes, cX8_graces, cX8_can, cX8_odds, cX8_mean, cX8_plan, cX8_ends, cX8_book, cX8_looked, cX8_judge, cX8_image, cX8_undo, cX8_act, cX8_trace, cX8_taken, cX8_count, cX8_tape, cX8_item, cX8_read, cX8_shift, cX8_isPerson, cX8_isPart, cX8_isHour, cX8_isYears, cX8_isTape, cX8_isChoice, cX8_isUnder, cX8_holding, cX8_paidByAll, cX8_sideOfFraction, cX9_init, cX9_in, cX9_has, cX9_least, cX9_isPerson, cX9_isPart, cX9_isHour, cX9_isYears, cX9_person, cX9_grace, cX9_goes, cX9_leave, cX9_row, cX9_hour, cX9_feed, cX9_next, cX9_takes, cX9_takesWord, cX9_isDigit, cX9_takesNumber, cX9_emits, cX9_whole, cX9_settle, cX9_place, cX9_takesTest, cX9_takesE, cX9_takesHead, cX9_takesClause, cX9_goesText, cX9_office, cX9_begin, cX9_behind, cX9_lastOf, cX9_taste, cX9_light, cX9_rate, cX9_factOf, cX9_holds, cX9_liking, cX9_glow, cX9_fine, cX9_isOff, cX9_offSet, cX9_offMany, cX9_pays, cX9_allPay, cX9_show, cX9_of, cX9_told, cX9_goYear, cX9_goYears, cX9_pass, cX9_save, cX9_putBack, cX9_on, cX9_paysAt, cX9_seenAt, cX9_bestHour, cX9_rises, cX9_when, cX9_layCosts, cX9_layTurn, cX9_line, cX9_jointlyOf, cX9_jointly, cX9_layPairs, cX9_firstBad, cX9_goesOn, cX9_pairsCost, cX9_pairs, cX9_raises, cX9_see, cX9_isLooked, cX9_tastes, cX9_graces, cX9_can, cX9_divisor, cX9_lowest, cX9_odds, cX9_mean, cX9_plan, cX9_ends, cX9_book, cX9_looked, cX9_judge, cX9_image, cX9_undo, cX9_body, cX9_personShows, cX9_showsAct, cX9_personPays, cX9_fadingPays, cX9_paysAct, cX9_personTells, cX9_tellsAct, cX9_act, cX9_trace, cX9_taken, cX9_count, cX9_isTape, cX9_tape, cX9_narrow, cX9_item, cX9_read, cX9_shift, cJ6_bitCount_0f7a4, cJ0_length_8abf5, cJ0_charAt_5068e, cJ0_coder_7d493, cJ0_isLatin1_aae02, cJ1_charAt_3b067, cJ7_fill_d0a16, cJ7_fill_53178, code]
def mNm (y : Nat) : MethodName := mNmL.getD y x
def mMax (y : Nat) : Nat := mMaxL.getD y 0
def mRet (y : Nat) : Option FieldType := mRetL.getD y none
def mBud (y : Nat) : Nat × Nat := mBudL.getD y (0, 0)
def mClsOf (y : Nat) : Nat := mClsL.getD y 99
def mBytes (y : Nat) : ByteArray := mBytesL.getD y code
def mIdxL : List (List Nat) := [[323, 94, 322, 0, 0], [844, 94, 842, 843], [848, 94, 846, 847], [852, 94, 851, 18], [858, 94, 857, 19], [294, 93, 293, 0, 0], [637, 93, 635, 636], [660, 93, 658, 659], [665, 93, 663, 664], [673, 93, 671, 672], [681, 93, 680, 15], [677, 93, 676, 14], [687, 93, 685, 686], [695, 93, 693, 694], [700, 93, 698, 699], [733, 93, 731, 732], [708, 93, 706, 707], [712, 93, 711], [720, 93, 719, 17], [716, 93, 715, 16], [725, 93, 723, 724], [753, 93, 751, 752], [762, 93, 760, 761], [770, 93, 768, 769], [800, 93, 798, 799], [227, 91, 226, 0, 0], [501, 91, 499, 500], [600, 91, 598, 599], [604, 91, 602, 603], [430, 91, 428, 429], [412, 91, 410, 411], [439, 91, 438], [442, 91, 441], [416, 91, 414, 415], [420, 91, 419, 2], [426, 91, 425], [447, 91, 445, 446], [451, 91, 449, 450], [463, 91, 461, 462], [143, 90, 142, 0, 0], [393, 90, 391, 392], [641, 90, 639, 640], [629, 90, 627, 628], [267, 92, 266, 0, 0], [608, 92, 606, 607], [497, 92, 495, 496], [505, 92, 504, 3], [509, 92, 508, 4], [522, 92, 521, 7], [513, 92, 512, 5], [517, 92, 516, 6], [579, 92, 578, 8], [584, 92, 583, 9], [588, 92, 587, 10], [592, 92, 591, 11], [596, 92, 595, 12], [125, 89, 124, 0, 0], [741, 89, 739, 740], [745, 89, 743, 744], [757, 89, 755, 756], [830, 89, 828, 829], [339, 95, 338, 0, 0], [884, 95, 882, 883], [897, 95, 895, 896], [117, 88, 116, 0, 0], [825, 88, 823, 824], [109, 87, 108, 0, 0], [389, 87, 387, 388], [400, 87, 398, 399], [467, 87, 465, 466], [474, 87, 472, 473], [478, 87, 476, 477], [482, 87, 480, 481], [489, 87, 487, 488], [493, 87, 491, 492], [613, 87, 611, 612], [622, 87, 620, 621], [633, 87, 631, 632], [649, 87, 647, 648], [653, 87, 651, 652], [669, 87, 667, 668], [691, 87, 689, 690], [704, 87, 702, 703], [729, 87, 727, 728], [737, 87, 735, 736], [749, 87, 747, 748], [766, 87, 764, 765], [776, 87, 774, 775], [780, 87, 778, 779], [788, 87, 786, 787], [792, 87, 790, 791], [796, 87, 794, 795], [805, 87, 803, 804], [809, 87, 807, 808], [814, 87, 812, 813], [821, 87, 819, 820], [836, 87, 834, 835], [840, 87, 838, 839], [864, 87, 862, 863], [868, 87, 866, 867], [876, 87, 874, 875], [880, 87, 878, 879], [893, 87, 891, 892], [901, 87, 899, 900], [905, 87, 903, 904], [404, 87, 403, 0], [470, 87, 469], [485, 87, 484], [625, 87, 624], [817, 87, 816], [656, 87, 655], [871, 87, 870], [408, 87, 407, 1], [618, 87, 617, 13], [784, 87, 783], [911, 96, 910, 0, 0], [1162, 96, 1161, 20], [1182, 96, 1181, 23], [1306, 96, 1305, 49], [1170, 96, 1169, 21], [1174, 96, 1173, 22], [1198, 96, 1197, 25], [1350, 96, 1349, 58], [1158, 96, 1156, 1157], [1166, 96, 1164, 1165], [1186, 96, 1185, 24], [1178, 96, 1176, 1177], [1190, 96, 1188, 1189], [1194, 96, 1192, 1193], [1202, 96, 1200, 1201], [1222, 96, 1221, 29], [1230, 96, 1229, 31], [1226, 96, 1225, 30], [1238, 96, 1237, 33], [1234, 96, 1233, 32], [1254, 96, 1253, 37], [1258, 96, 1257, 38], [1262, 96, 1261, 39], [1250, 96, 1249, 36], [1246, 96, 1245, 35], [1242, 96, 1241, 34], [1218, 96, 1217, 28], [1214, 96, 1213, 27], [1210, 96, 1209, 26], [1206, 96, 1204, 1205], [1278, 96, 1277, 42], [1282, 96, 1281, 43], [1302, 96, 1301, 48], [1326, 96, 1325, 54], [1298, 96, 1297, 47], [1314, 96, 1313, 51], [1290, 96, 1289, 45], [1286, 96, 1285, 44], [1274, 96, 1273, 41], [1294, 96, 1293, 46], [1270, 96, 1269, 40], [1322, 96, 1321, 53], [1330, 96, 1329, 55], [1318, 96, 1317, 52], [1310, 96, 1309, 50], [1342, 96, 1341, 57], [1334, 96, 1333, 56], [1266, 96, 1264, 1265], [1338, 96, 1336, 1337], [1358, 96, 1357, 60], [1354, 96, 1353, 59], [1346, 96, 1344, 1345], [1366, 96, 1365, 61], [1370, 96, 1369, 62], [1362, 96, 1360, 1361], [1378, 96, 1377, 63], [1374, 96, 1372, 1373], [1386, 96, 1385, 64], [1390, 96, 1389, 65], [1382, 96, 1380, 1381], [1398, 96, 1397, 66], [1402, 96, 1401, 67], [1394, 96, 1392, 1393], [1410, 96, 1409, 68], [1406, 96, 1404, 1405], [1418, 96, 1417, 69], [1422, 96, 1421, 70], [1426, 96, 1425, 71], [1430, 96, 1429, 72], [1414, 96, 1412, 1413], [1434, 96, 1432, 1433], [1438, 96, 1436, 1437], [1446, 96, 1445, 73], [1442, 96, 1440, 1441], [1450, 96, 1448, 1449], [1454, 96, 1452, 1453], [1467, 96, 1466, 75], [1463, 96, 1462, 74], [1458, 96, 1456, 1457], [1471, 96, 1469, 1470], [1475, 96, 1473, 1474], [1479, 96, 1477, 1478], [1483, 96, 1481, 1482], [1487, 96, 1485, 1486], [1491, 96, 1489, 1490], [1499, 96, 1497, 1498], [1503, 96, 1501, 1502], [1515, 96, 1514, 78], [1519, 96, 1518, 79], [1511, 96, 1510, 77], [1531, 96, 1530, 82], [1527, 96, 1526, 81], [1523, 96, 1522, 80], [1539, 96, 1538, 84], [1535, 96, 1534, 83], [1507, 96, 1505, 1506], [1543, 96, 1541, 1542], [1547, 96, 1545, 1546], [1551, 96, 1549, 1550], [1495, 96, 1494, 76], [1555, 96, 1553, 1554], [1563, 96, 1562, 85], [1559, 96, 1557, 1558], [1567, 96, 1565, 1566], [1571, 96, 1569, 1570], [455, 99, 454], [526, 100, 524, 525], [536, 100, 534, 535], [530, 100, 528, 529], [540, 100, 538, 539], [543, 101, 542], [889, 97, 888], [396, 97, 395], []]
def mKindL : List Nat := [2, 1, 1, 1, 1, 2, 1, 1, 1, 1, 1, 1, 1, 1, 1, 1, 1, 0, 1, 1, 1, 1, 1, 1, 1, 2, 1, 1, 1, 1, 1, 0, 0, 1, 1, 0, 1, 1, 1, 2, 1, 1, 1, 2, 1, 1, 1, 1, 1, 1, 1, 1, 1, 1, 1, 1, 2, 1, 1, 1, 1, 2, 1, 1, 2, 1, 2, 1, 1, 1, 1, 1, 1, 1, 1, 1, 1, 1, 1, 1, 1, 1, 1, 1, 1, 1, 1, 1, 1, 1, 1, 1, 1, 1, 1, 1, 1, 1, 1, 1, 1, 1, 1, 1, 1, 1, 0, 0, 0, 0, 0, 0, 1, 1, 0, 2, 1, 1, 1, 1, 1, 1, 1, 1, 1, 1, 1, 1, 1, 1, 1, 1, 1, 1, 1, 1, 1, 1, 1, 1, 1, 1, 1, 1, 1, 1, 1, 1, 1, 1, 1, 1, 1, 1, 1, 1, 1, 1, 1, 1, 1, 1, 1, 1, 1, 1, 1, 1, 1, 1, 1, 1, 1, 1, 1, 1, 1, 1, 1, 1, 1, 1, 1, 1, 1, 1, 1, 1, 1, 1, 1, 1, 1, 1, 1, 1, 1, 1, 1, 1, 1, 1, 1, 1, 1, 1, 1, 1, 1, 1, 1, 1, 1, 1, 1, 1, 1, 1, 1, 1, 0, 1, 1, 1, 1, 0, 0, 0, 9]
def mKind (y : Nat) : Nat := mKindL.getD y 9
def mNestL : List Cond := [.methodLinkNest "ExemptBeauty$Town" 45 ⟨"ExemptBeauty$Person", "<init>", "()V"⟩ "ExemptBeauty", .methodLinkNest "ExemptBeauty" 27 ⟨"ExemptBeauty$Office", "<init>", "()V"⟩ "ExemptBeauty", .methodLinkNest "ExemptBeauty" 42 ⟨"ExemptBeauty$Reader", "<init>", "()V"⟩ "ExemptBeauty", .methodLinkNest "ExemptBeauty$Reader" 27 ⟨"ExemptBeauty$Office", "<init>", "()V"⟩ "ExemptBeauty", .methodLinkNest "ExemptBeauty" 49 ⟨"ExemptBeauty$Asker", "<init>", "()V"⟩ "ExemptBeauty", .methodLinkNest "ExemptBeauty$Asker" 11 ⟨"ExemptBeauty$Person", "<init>", "()V"⟩ "ExemptBeauty", .methodLinkNest "ExemptBeauty" 56 ⟨"ExemptBeauty$Actor", "<init>", "()V"⟩ "ExemptBeauty", .methodLinkNest "ExemptBeauty" 67 ⟨"ExemptBeauty$Tape", "<init>", "()V"⟩ "ExemptBeauty"]
/-! the shape of the cells: 0 the script, 1 ABOVE, 2 BODIES, 3 .. 8 the literals, 9 .. 14 their bytes, from 16 on what is made -/
def TYl : List Nat := [105, 105, 105, 60, 60, 60, 60, 60, 60, 104, 104, 104, 104, 104, 104, 99, 8, 7, 113, 5, 100, 5, 100, 5, 100, 3, 100, 100, 3, 100, 100, 3, 100, 100, 3, 100, 100, 3, 100, 100, 3, 100, 100, 7, 113, 5, 100, 5, 100, 5, 100, 3, 100, 100, 3, 100, 100, 3, 100, 100, 3, 100, 100, 3, 100, 100, 3, 100, 100, 2, 100, 100, 100, 112, 4, 100, 2, 100, 100, 100, 1, 3, 100, 100, 100, 100, 100, 100, 100, 0, 100, 116, 6, 101, 6, 101, 6, 101, 6, 101, 6, 101, 6, 101, 9, 100, 100, 100, 100, 100, 100, 100, 100, 100, 100, 100, 100, 100, 100, 102, 100, 100, 100, 100, 100, 100, 100, 100, 100, 100, 100, 100, 102, 100, 100, 100, 100, 100, 100, 100, 100, 100, 100, 100, 100, 100, 100, 100, 100, 102, 100, 100, 100, 101, 101]
def LNl : List Nat := [0, 7, 21, 0, 0, 0, 0, 0, 0, 4, 5, 4, 2, 2, 4, 0, 10, 8, 6, 3, 24, 3, 40, 3, 32, 7, 6, 4, 7, 6, 4, 7, 6, 4, 7, 6, 4, 7, 6, 4, 7, 6, 4, 8, 6, 3, 24, 3, 40, 3, 32, 7, 6, 4, 7, 6, 4, 7, 6, 4, 7, 6, 4, 7, 6, 4, 7, 6, 4, 8, 10, 10, 100, 6, 5, 100, 8, 10, 10, 100, 6, 7, 6, 4, 64, 6, 36, 36, 6, 2, 20, 6, 3, 60, 3, 60, 3, 60, 3, 60, 3, 60, 3, 60, 80, 6, 6, 6, 36, 24, 100, 6, 60, 60, 60, 60, 600, 101, 22, 100, 6, 36, 36, 6, 6, 36, 6, 6, 6, 6, 6, 6, 6, 10, 10, 8, 8, 6, 6, 6, 36, 24, 6, 6, 6, 10, 10, 8, 8, 6, 20, 6, 6, 360, 60]
def TY (h : Nat) : Nat := TYl.getD h (match (h - 155) % 4 with | 0 => 2 | _ => 100)
def LN (n h : Nat) : Nat := match h with
  | 0 => n
  | h => LNl.getD h (match (h - 155) % 4 with | 0 => 8 | 3 => 100 | _ => 10)
/-! ===== THE SMALL MACHINE: a big-step reading of the class's bytecode over whole numbers and numbered cells; 03 ties it to the machine ===== -/
abbrev mV : Type := Int ⊕ (Int64 ⊕ Option Nat)
abbrev vi (x : Int) : mV := .inl x
abbrev vl (x : Int64) : mV := .inr (.inl x)
abbrev vr (r : Option Nat) : mV := .inr (.inr r)
abbrev mH : Type := (Nat → Nat → Int) × (Nat → Nat → Int64) × (Nat → Nat → Option Nat) × Nat
abbrev mK : Type := Option mV → mH → Prop
abbrev mLs : Type := List (Option mV)
abbrev mJ : Type := Nat → Nat → Nat → Nat → Nat → mLs → List mV → mH → mK → Prop
abbrev mC : Type := Nat → Nat → List mV → mH → mK → Prop
/-- method, place, instruction, length, three numbers, a whole number, switch places -/
abbrev mRow : Type := Nat × Nat × Instr × Nat × (Nat × Nat × Nat) × Int × List (Int × Nat)
def wr (x : Int) : Int := (x + 2147483648) % 4294967296 - 2147483648
def up2 (f : Nat → Nat → Int) (a k : Nat) (v : Int) : Nat → Nat → Int := fun x j => if x = a ∧ j = k then v else f x j
def up2L (f : Nat → Nat → Int64) (a k : Nat) (v : Int64) : Nat → Nat → Int64 := fun x j => if x = a ∧ j = k then v else f x j
def up2R (f : Nat → Nat → Option Nat) (a k : Nat) (v : Option Nat) : Nat → Nat → Option Nat := fun x j => if x = a ∧ j = k then v else f x j
def bshl (a b : Int) : Int := (Int32.ofInt a <<< (Int32.ofInt b &&& 31)).toInt
def bshr (a b : Int) : Int := (Int32.ofInt a >>> (Int32.ofInt b &&& 31)).toInt
def bushr (a b : Int) : Int := (((Int32.ofInt a).toUInt32 >>> ((Int32.ofInt b).toUInt32 &&& Int32.toUInt32 31)).toInt32).toInt
def band (a b : Int) : Int := (Int32.ofInt a &&& Int32.ofInt b).toInt
def bior (a b : Int) : Int := (Int32.ofInt a ||| Int32.ofInt b).toInt
def bxor (a b : Int) : Int := (Int32.ofInt a ^^^ Int32.ofInt b).toInt
def bi8 (x : Int) : Int := (Int32.ofInt x).toInt8.toInt32.toInt
def bi16 (x : Int) : Int := (Int32.ofInt x).toInt16.toInt32.toInt
def bch (x : Int) : Int := ((Int32.ofInt x).toUInt32 % 65536).toInt32.toInt
def lcm3 (x y : Int64) : Int := (lg_cmp x y).toInt
/-! what is taken off the stack, and looked at -/
def eI (st : List mV) (f : Int → List mV → Prop) : Prop := match st with
  | .inl x :: r => f x r
  | _ => False
def eII (st : List mV) (f : Int → Int → List mV → Prop) : Prop := match st with
  | .inl b :: .inl a :: r => f a b r
  | _ => False
def eL (st : List mV) (f : Int64 → List mV → Prop) : Prop := match st with
  | .inr (.inl x) :: r => f x r
  | _ => False
def eLL (st : List mV) (f : Int64 → Int64 → List mV → Prop) : Prop := match st with
  | .inr (.inl b) :: .inr (.inl a) :: r => f a b r
  | _ => False
def eLI (st : List mV) (f : Int64 → Int → List mV → Prop) : Prop := match st with
  | .inl b :: .inr (.inl a) :: r => f a b r
  | _ => False
def eR (st : List mV) (f : Option Nat → List mV → Prop) : Prop := match st with
  | .inr (.inr x) :: r => f x r
  | _ => False
def eRI (st : List mV) (f : Option Nat → Int → List mV → Prop) : Prop := match st with
  | .inl i :: .inr (.inr a) :: r => f a i r
  | _ => False
def eRR (st : List mV) (f : Option Nat → Option Nat → List mV → Prop) : Prop := match st with
  | .inr (.inr v) :: .inr (.inr a) :: r => f a v r
  | _ => False
def eRII (st : List mV) (f : Option Nat → Int → Int → List mV → Prop) : Prop := match st with
  | .inl x :: .inl i :: .inr (.inr a) :: r => f a i x r
  | _ => False
def eRIL (st : List mV) (f : Option Nat → Int → Int64 → List mV → Prop) : Prop := match st with
  | .inr (.inl x) :: .inl i :: .inr (.inr a) :: r => f a i x r
  | _ => False
def eRIR (st : List mV) (f : Option Nat → Int → Option Nat → List mV → Prop) : Prop := match st with
  | .inr (.inr x) :: .inl i :: .inr (.inr a) :: r => f a i x r
  | _ => False
def isC1 (v : mV) : Bool := match v with
  | .inr (.inl _) => false
  | _ => true
def eD (st : List mV) (f : mV → List mV → Prop) : Prop := match st with
  | v :: r => match isC1 v with
    | true => f v r
    | false => False
  | _ => False
def eDD (st : List mV) (f : mV → mV → List mV → Prop) : Prop := match st with
  | v :: w :: r => match isC1 v && isC1 w with
    | true => f v w r
    | false => False
  | _ => False
def gI (ls : mLs) (i : Nat) (f : Int → Prop) : Prop := match ls[i]? with
  | some (some (.inl x)) => f x
  | _ => False
def gL (ls : mLs) (i : Nat) (f : Int64 → Prop) : Prop := match ls[i]? with
  | some (some (.inr (.inl x))) => f x
  | _ => False
def gR (ls : mLs) (i : Nat) (f : Option Nat → Prop) : Prop := match ls[i]? with
  | some (some (.inr (.inr x))) => f x
  | _ => False
/-- a value of one slot is put; a long that stood half in it is gone -/
def putL (ls : mLs) (i : Nat) (v : mV) (f : mLs → Prop) : Prop := match i with
  | 0 => f (ls.set 0 (some v))
  | j + 1 => match ls[j]? with
    | some (some (.inr (.inl _))) => False
    | _ => f (ls.set (j + 1) (some v))
def drf (r : Option Nat) (f : Nat → Prop) : Prop := match r with
  | some a => f a
  | none => False
def nbr (r : Option Nat) (A B : Prop) : Prop := match r with
  | some _ => B
  | none => A
def chk (b : Bool) (A : Prop) : Prop := match b with
  | true => A
  | false => False
def b01W (x : Int) (A : Prop) : Prop := if x = 0 then A else if x = 1 then A else False
def nzW (x : Int) (A : Prop) : Prop := if x = 0 then False else A
def cbr (c : ClassFile.Cond) (x y : Int) (A B : Prop) : Prop := match c with
  | .eq => if x = y then A else B
  | .ne => if x = y then B else A
  | .lt => if x < y then A else B
  | .ge => if x < y then B else A
  | .gt => if y < x then A else B
  | .le => if y < x then B else A
def swW (x : Int) (sw : List (Int × Nat)) (dflt : Nat) (f : Nat → Prop) : Prop := match sw with
  | [] => f dflt
  | (k, t) :: r => if x = k then f t else swW x r dflt f
def ri (r : Option mV) (f : Int → Prop) : Prop := match r with
  | some (.inl x) => f x
  | _ => False
def rl (r : Option mV) (f : Int64 → Prop) : Prop := match r with
  | some (.inr (.inl x)) => f x
  | _ => False
def rr (r : Option mV) (f : Option Nat → Prop) : Prop := match r with
  | some (.inr (.inr x)) => f x
  | _ => False
def rv (r : Option mV) (f : Prop) : Prop := match r with
  | none => f
  | _ => False
def catS (st : List mV) : Nat := match st with
  | [] => 0
  | .inr (.inl _) :: r => 2 + catS r
  | _ :: r => 1 + catS r
/-- the receiver of a call: it must be there -/
def recvW (vs : List mV) (f : Nat → List mV → Prop) : Prop := match vs with
  | .inr (.inr r) :: t => drf r fun a => f a (vr (some a) :: t)
  | _ => False
/-- the copied stretch -/
def cpy2 {α : Type} (f : Nat → Nat → α) (a i b j n : Nat) : Nat → Nat → α := fun x q => if x = b ∧ j ≤ q ∧ q < j + n then f a (i + (q - j)) else f x q
/-- what a call does behind its return -/
def retW (ic : Nat) (st : List mV) (f : List mV → mH → Prop) : mK := fun r H => match ic with
  | 0 => rv r (f st H)
  | 1 => ri r (fun x => f (vi x :: st) H)
  | 2 => rl r (fun x => f (vl x :: st) H)
  | _ => rr r (fun x => f (vr x :: st) H)
/-- a method's locals at its entry -/
def locs0 (vs : List mV) : mLs := match vs with
  | [] => []
  | .inr (.inl x) :: r => some (.inr (.inl x)) :: none :: locs0 r
  | v :: r => some v :: locs0 r
def callW (C : mC) (d y : Nat) (kc ks ic ib : Nat) (args st : List mV) (H : mH) (f : Nat → Nat → List mV → mH → Prop) : Prop := match d with
  | 0 => False
  | d' + 1 => chk (Nat.ble (catS st) 8 && (Nat.ble (mBud y).1 kc && (Nat.ble (mBud y).2 ks && (Nat.ble (locs0 args).length (mMax y) && Nat.beq args.length ib)))) (C d' y args H (retW ic st (f (kc - (mBud y).1) (ks - (mBud y).2))))
def copyW (st : List mV) (H : mH) (n : Nat) (f : List mV → mH → Prop) : Prop := match st with
  | .inl m :: .inl j :: .inr (.inr b) :: .inl i :: .inr (.inr a) :: r =>
    drf a fun a => drf b fun b => (0 ≤ i ∧ 0 ≤ j ∧ 0 ≤ m ∧ i + m ≤ LN n a ∧ j + m ≤ LN n b) ∧
      chk (Nat.beq (TY a) (TY b) && Nat.ble (catS r) 8) (match Nat.beq (TY a) 100 with
        | true => f r (cpy2 H.1 a i.toNat b j.toNat m.toNat, H.2)
        | false => chk (Nat.beq (TY a) 101) (f r (H.1, cpy2 H.2.1 a i.toNat b j.toNat m.toNat, H.2.2)))
  | _ => False
def chkIdxW (st : List mV) (f : List mV → Prop) : Prop := eII st fun i n r => (0 ≤ i ∧ i < n) ∧ chk (Nat.ble (catS r) 8) (f r)
/-- one instruction -/
def stepW (n : Nat) (P : mJ) (C : mC) (d : Nat) (w : mRow) (kc ks : Nat) (ls : mLs) (st : List mV) (H : mH) (K : mK) : Prop :=
  match w with
  | (y, pc, ins, len, (ia, ib, ic), z, sw) => match ins with
    | .iconst _ => P d y (pc + len) kc ks ls (vi z :: st) H K
    | .bipush _ => P d y (pc + len) kc ks ls (vi z :: st) H K
    | .sipush _ => P d y (pc + len) kc ks ls (vi z :: st) H K
    | .lconst _ => P d y (pc + len) kc ks ls (vl (Int64.ofInt z) :: st) H K
    | .ldc2_w _ => P d y (pc + len) kc ks ls (vl (Int64.ofInt z) :: st) H K
    | .ldc _ => P d y (pc + len) kc ks ls (vr (some ia) :: st) H K
    | .ldc_w _ => P d y (pc + len) kc ks ls (vi z :: st) H K
    | .iload _ => gI ls ia fun x => P d y (pc + len) kc ks ls (vi x :: st) H K
    | .iload_n _ => gI ls ia fun x => P d y (pc + len) kc ks ls (vi x :: st) H K
    | .lload _ => gL ls ia fun x => P d y (pc + len) kc ks ls (vl x :: st) H K
    | .lload_n _ => gL ls ia fun x => P d y (pc + len) kc ks ls (vl x :: st) H K
    | .aload _ => gR ls ia fun x => P d y (pc + len) kc ks ls (vr x :: st) H K
    | .aload_n _ => gR ls ia fun x => P d y (pc + len) kc ks ls (vr x :: st) H K
    | .istore _ => eI st fun x r => putL ls ia (vi x) fun ls => P d y (pc + len) kc ks ls r H K
    | .istore_n _ => eI st fun x r => putL ls ia (vi x) fun ls => P d y (pc + len) kc ks ls r H K
    | .astore _ => eR st fun x r => drf x fun a => putL ls ia (vr (some a)) fun ls => P d y (pc + len) kc ks ls r H K
    | .astore_n _ => eR st fun x r => drf x fun a => putL ls ia (vr (some a)) fun ls => P d y (pc + len) kc ks ls r H K
    | .iinc _ _ => gI ls ia fun x => putL ls ia (vi (wr (x + z))) fun ls => P d y (pc + len) kc ks ls st H K
    | .iadd => eII st fun a b r => P d y (pc + len) kc ks ls (vi (wr (a + b)) :: r) H K
    | .isub => eII st fun a b r => P d y (pc + len) kc ks ls (vi (wr (a - b)) :: r) H K
    | .imul => eII st fun a b r => P d y (pc + len) kc ks ls (vi (wr (a * b)) :: r) H K
    | .idiv => eII st fun a b r => nzW b (P d y (pc + len) kc ks ls (vi (wr (a.tdiv b)) :: r) H K)
    | .irem => eII st fun a b r => nzW b (P d y (pc + len) kc ks ls (vi (a.tmod b) :: r) H K)
    | .ineg => eI st fun a r => P d y (pc + len) kc ks ls (vi (wr (-a)) :: r) H K
    | .ishl => eII st fun a b r => P d y (pc + len) kc ks ls (vi (bshl a b) :: r) H K
    | .ishr => eII st fun a b r => P d y (pc + len) kc ks ls (vi (bshr a b) :: r) H K
    | .iushr => eII st fun a b r => P d y (pc + len) kc ks ls (vi (bushr a b) :: r) H K
    | .iand => eII st fun a b r => P d y (pc + len) kc ks ls (vi (band a b) :: r) H K
    | .ior => eII st fun a b r => P d y (pc + len) kc ks ls (vi (bior a b) :: r) H K
    | .ixor => eII st fun a b r => P d y (pc + len) kc ks ls (vi (bxor a b) :: r) H K
    | .i2l => eI st fun a r => P d y (pc + len) kc ks ls (vl (Int64.ofInt a) :: r) H K
    | .l2i => eL st fun a r => P d y (pc + len) kc ks ls (vi a.toInt32.toInt :: r) H K
    | .i2b => eI st fun a r => P d y (pc + len) kc ks ls (vi (bi8 a) :: r) H K
    | .i2s => eI st fun a r => P d y (pc + len) kc ks ls (vi (bi16 a) :: r) H K
    | .i2c => eI st fun a r => P d y (pc + len) kc ks ls (vi (bch a) :: r) H K
    | .lcmp => eLL st fun a b r => P d y (pc + len) kc ks ls (vi (lcm3 a b) :: r) H K
    | .lshl => eLI st fun a b r => P d y (pc + len) kc ks ls (vl (a <<< ((Int64.ofInt b) &&& 63)) :: r) H K
    | .lor => eLL st fun a b r => P d y (pc + len) kc ks ls (vl (a ||| b) :: r) H K
    | .land => eLL st fun a b r => P d y (pc + len) kc ks ls (vl (a &&& b) :: r) H K
    | .dup => eD st fun v r => P d y (pc + len) kc ks ls (v :: v :: r) H K
    | .dup2 => eDD st fun v w r => P d y (pc + len) kc ks ls (v :: w :: v :: w :: r) H K
    | .pop => eD st fun _ r => P d y (pc + len) kc ks ls r H K
    | .ifCond c _ => eI st fun x r => cbr c x 0 (P d y ia kc ks ls r H K) (P d y (pc + len) kc ks ls r H K)
    | .if_icmp c _ => eII st fun a b r => cbr c a b (P d y ia kc ks ls r H K) (P d y (pc + len) kc ks ls r H K)
    | .goto _ => P d y ia kc ks ls st H K
    | .ifnonnull _ => eR st fun x r => nbr x (P d y (pc + len) kc ks ls r H K) (P d y ia kc ks ls r H K)
    | .tableswitch _ _ _ _ => eI st fun x r => swW x sw ia fun t => P d y t kc ks ls r H K
    | .lookupswitch _ _ => eI st fun x r => swW x sw ia fun t => P d y t kc ks ls r H K
    | .getfield _ => eR st fun x r => drf x fun a => chk (Nat.beq (TY a) ia) (match ic with
        | 1 => P d y (pc + len) kc ks ls (vr (H.2.2.1 a ib) :: r) H K
        | _ => P d y (pc + len) kc ks ls (vi (H.1 a ib) :: r) H K)
    | .putfield _ => match ic with
        | 1 => eRR st fun x v r => drf x fun a => chk (Nat.beq (TY a) ia) (P d y (pc + len) kc ks ls r (H.1, H.2.1, up2R H.2.2.1 a ib v, H.2.2.2) K)
        | 2 => eRI st fun x v r => drf x fun a => chk (Nat.beq (TY a) ia) (b01W v (P d y (pc + len) kc ks ls r (up2 H.1 a ib v, H.2) K))
        | _ => eRI st fun x v r => drf x fun a => chk (Nat.beq (TY a) ia) (P d y (pc + len) kc ks ls r (up2 H.1 a ib v, H.2) K)
    | .getstatic _ => match ia with
        | 0 => P d y (pc + len) kc ks ls (vi z :: st) H K
        | _ => P d y (pc + len) kc ks ls (vr (some ib) :: st) H K
    | .new _ => match kc with
        | 0 => False
        | kc + 1 => chk (Nat.beq (TY H.2.2.2) ia && Nat.ble ib ks) (P d y (pc + len) kc (ks - ib) ls (vr (some H.2.2.2) :: st) (H.1, H.2.1, H.2.2.1, H.2.2.2 + 1) K)
    | .newarray _ => match kc with
        | 0 => False
        | kc + 1 => eI st fun x r => chk (Nat.beq (TY H.2.2.2) ia && (Nat.ble (LN n H.2.2.2) ks && Nat.ble (LN n H.2.2.2) 100000)) (x = (LN n H.2.2.2 : Int) ∧ P d y (pc + len) kc (ks - LN n H.2.2.2) ls (vr (some H.2.2.2) :: r) (H.1, H.2.1, H.2.2.1, H.2.2.2 + 1) K)
    | .anewarray _ => match kc with
        | 0 => False
        | kc + 1 => eI st fun x r => chk (Nat.beq (TY H.2.2.2) ia && (Nat.ble (LN n H.2.2.2) ks && Nat.ble (LN n H.2.2.2) 100000)) (x = (LN n H.2.2.2 : Int) ∧ P d y (pc + len) kc (ks - LN n H.2.2.2) ls (vr (some H.2.2.2) :: r) (H.1, H.2.1, H.2.2.1, H.2.2.2 + 1) K)
    | .arraylength => eR st fun x r => drf x fun a => chk (Nat.ble 100 (TY a)) (P d y (pc + len) kc ks ls (vi (LN n a : Int) :: r) H K)
    | .iaload => eRI st fun x i r => drf x fun a => chk (Nat.beq (TY a) 100 || Nat.beq (TY a) 105) ((0 ≤ i ∧ i < LN n a) ∧ P d y (pc + len) kc ks ls (vi (H.1 a i.toNat) :: r) H K)
    | .baload => eRI st fun x i r => drf x fun a => chk (Nat.beq (TY a) 102 || Nat.beq (TY a) 104) ((0 ≤ i ∧ i < LN n a) ∧ P d y (pc + len) kc ks ls (vi (H.1 a i.toNat) :: r) H K)
    | .laload => eRI st fun x i r => drf x fun a => chk (Nat.beq (TY a) 101) ((0 ≤ i ∧ i < LN n a) ∧ P d y (pc + len) kc ks ls (vl (H.2.1 a i.toNat) :: r) H K)
    | .aaload => eRI st fun x i r => drf x fun a => chk (Nat.ble 110 (TY a)) ((0 ≤ i ∧ i < LN n a) ∧ P d y (pc + len) kc ks ls (vr (H.2.2.1 a i.toNat) :: r) H K)
    | .iastore => eRII st fun x i v r => drf x fun a => chk (Nat.beq (TY a) 100) ((0 ≤ i ∧ i < LN n a) ∧ P d y (pc + len) kc ks ls r (up2 H.1 a i.toNat v, H.2) K)
    | .bastore => eRII st fun x i v r => drf x fun a => chk (Nat.beq (TY a) 102) ((0 ≤ i ∧ i < LN n a) ∧ b01W v (P d y (pc + len) kc ks ls r (up2 H.1 a i.toNat v, H.2) K))
    | .lastore => eRIL st fun x i v r => drf x fun a => chk (Nat.beq (TY a) 101) ((0 ≤ i ∧ i < LN n a) ∧ P d y (pc + len) kc ks ls r (H.1, up2L H.2.1 a i.toNat v, H.2.2) K)
    | .aastore => eRIR st fun x i v r => drf x fun a => drf v fun b => chk (Nat.beq (TY a) (TY b + 110) && Nat.blt (TY b) 20) ((0 ≤ i ∧ i < LN n a) ∧ P d y (pc + len) kc ks ls r (H.1, H.2.1, up2R H.2.2.1 a i.toNat (some b), H.2.2.2) K)
    | .invokestatic _ => match z with
        | 3 => copyW st H n fun r H => P d y (pc + len) kc ks ls r H K
        | 4 => chkIdxW st fun r => P d y (pc + len) kc ks ls r H K
        | 5 => eII st fun a b r => chk (Nat.ble (catS r) 8) (P d y (pc + len) kc ks ls (vi (if a < b then b else a) :: r) H K)
        | 6 => eII st fun a b r => chk (Nat.ble (catS r) 8) (P d y (pc + len) kc ks ls (vi (if b < a then b else a) :: r) H K)
        | 7 => eI st fun a r => chk (Nat.ble (catS r) 8) (P d y (pc + len) kc ks ls (vi (wr (if 0 ≤ a then a else 0 - a)) :: r) H K)
        | _ => callW C d ia kc ks ic ib (st.take ib).reverse (st.drop ib) H fun kc ks st H => P d y (pc + len) kc ks ls st H K
    | .invokevirtual _ => recvW (st.take ib).reverse fun a vs => chk (Nat.beq (TY a) (mClsOf ia)) (callW C d ia kc ks ic ib vs (st.drop ib) H fun kc ks st H => P d y (pc + len) kc ks ls st H K)
    | .invokespecial _ => match z with
        | 2 => eR st fun x r => drf x fun _ => chk (Nat.ble (catS r) 8) (P d y (pc + len) kc ks ls r H K)
        | _ => recvW (st.take ib).reverse fun a vs => chk (Nat.beq (TY a) (mClsOf ia)) (callW C d ia kc ks ic ib vs (st.drop ib) H fun kc ks st H => P d y (pc + len) kc ks ls st H K)
    | .ireturn => match st with
        | [.inl x] => match ia with
          | 0 => K (some (vi x)) H
          | 1 => b01W x (K (some (vi x)) H)
          | 2 => (0 ≤ x ∧ x < 65536) ∧ K (some (vi x)) H
          | _ => x = 0 ∧ K (some (vi x)) H
        | _ => False
    | .lreturn => match st with
        | [.inr (.inl x)] => K (some (vl x)) H
        | _ => False
    | .areturn => match st with
        | [.inr (.inr x)] => drf x fun a => K (some (vr (some a))) H
        | _ => False
    | .return_ => match st with
        | [] => K none H
        | _ => False
    | _ => False

/-! ===== what a row must be, so that the machine does what the row says ===== -/
def inR (z : Int) : Bool := decide (-2147483648 ≤ z) && decide (z < 2147483648)
def mOwn (y : Nat) : String := (mNm y).cls
def inT (w : Cond) : Bool := decide (w ∈ lw_tbl)
def fkG (d : String) : Nat := match d.toList with
  | 'L' :: _ => 1
  | '[' :: _ => 1
  | _ => 0
def fkP (d : String) : Nat := match d.toList with
  | 'L' :: _ => 1
  | '[' :: _ => 1
  | 'Z' :: _ => 2
  | _ => 0
def clAt (ci : Nat) : vw_C := vwCl.getD ci (RX0, TX0, 0)
def rkOf (r : Option FieldType) : Nat := match r with
  | none => 0
  | some .long => 2
  | some (.object _) => 3
  | some (.array _) => 3
  | _ => 1
def rcOf (r : Option FieldType) : Nat := match r with
  | some .int => 0
  | some .boolean => 1
  | some .char => 2
  | some .byte => 3
  | _ => 9
def nPar (y : MethodName) : Nat := ((parseMethodDescriptor y.desc).map fun d => d.parameters.length).getD 99
def hasPar (y : MethodName) : Bool := ((parseMethodDescriptor y.desc).map fun d => d.parameters.length).isSome
def notMH (y : MethodName) : Bool := decide (y.cls ≠ "java/lang/invoke/MethodHandle" ∧ y.cls ≠ "java/lang/invoke/VarHandle")
def wAt (sw : List (Int × Nat)) (w : Cond) : Bool := match sw with
  | (_, i) :: _ => decide (lw_tbl[i]? = some w)
  | [] => false
def atT (i : Nat) (w : Cond) : Bool := decide (lw_tbl[i]? = some w)
/-- what any callee needs: its code's word, its class's, how it is called -/
def okMeth (t : Nat) : Bool := notMH (mNm t) && hasPar (mNm t) && plainName (mNm t).cls && match mIdxL.getD t [] with
  | [_, b, c] => atT b (.initialized (mNm t).cls) && atT c (.static (mNm t)) && decide ((mNm t).name ≠ "<init>") && mKind t == 0
  | [_, b, c, d] => atT b (.initialized (mNm t).cls) && atT c (.instanceMethod (mNm t)) && atT d (.selects (mNm t).cls (mNm t) (mNm t)) && mKind t == 1 && (mClsOf t == 60 && decide ((mNm t).cls = "java/lang/String") || Nat.blt (mClsOf t) 10 && decide ((mNm t).cls = (clAt (mClsOf t)).1))
  | [_, b, c, _, _] => atT b (.initialized (mNm t).cls) && atT c (.instanceMethod (mNm t)) && mKind t == 2 && decide ((mNm t).name = "<init>") && decide (mRet t = none) && Nat.blt (mClsOf t) 10
  | _ => false
/-- .. and that its code is a word of the tables -/
def okM (t : Nat) : Prop := okMeth t = true ∧ Cond.code (mNm t) (mBytes t) (mMax t) (mRet t) ∈ lw_tbl.filter goodWord
def okIns (y pc : Nat) (ins : Instr) (len ia ib ic : Nat) (z : Int) (sw : List (Int × Nat)) : Bool :=
  match ins with
  | .iconst k => len == 1 && decide (k = z) && inR z
  | .bipush k => len == 2 && decide ((Int8.ofInt k).toInt32 = Int32.ofInt z) && inR z
  | .sipush k => len == 3 && decide ((Int16.ofInt k).toInt32 = Int32.ofInt z) && inR z
  | .lconst k => len == 1 && decide (Int64.ofNat k = Int64.ofInt z)
  | .ldc2_w i => len == 3 && wAt sw (.constantLong (mOwn y) i (Int64.ofInt z))
  | .ldc i => len == 2 && decide (mOwn y = RX4) && decide ((i, ia) ∈ ([(84, 3), (90, 4), (92, 5), (94, 6), (96, 7), (98, 8)] : List (Nat × Nat)))
  | .ldc_w i => len == 3 && wAt sw (.constant (mOwn y) i (Int32.ofInt z)) && inR z
  | .iload i => len == 2 && i == ia
  | .iload_n i => len == 1 && i.val == ia
  | .lload i => len == 2 && i == ia
  | .lload_n i => len == 1 && i.val == ia
  | .aload i => len == 2 && i == ia
  | .aload_n i => len == 1 && i.val == ia
  | .istore i => len == 2 && i == ia && Nat.blt ia (mMax y)
  | .istore_n i => len == 1 && i.val == ia && Nat.blt ia (mMax y)
  | .astore i => len == 2 && i == ia && Nat.blt ia (mMax y)
  | .astore_n i => len == 1 && i.val == ia && Nat.blt ia (mMax y)
  | .iinc i c => len == 3 && i == ia && decide (c = z) && Nat.blt ia (mMax y)
  | .ifCond _ off => len == 3 && decide ((pc : Int) + off = (ia : Int))
  | .if_icmp _ off => len == 3 && decide ((pc : Int) + off = (ia : Int))
  | .goto off => len == 3 && decide ((pc : Int) + off = (ia : Int))
  | .ifnonnull off => len == 3 && decide ((pc : Int) + off = (ia : Int))
  | .tableswitch d lo hi offs => decide ((pc : Int) + d = (ia : Int)) && decide (lo + offs.size = hi + 1) && sw.length == offs.size && (List.range offs.size).all (fun j => decide (sw[j]? = some (lo + j, ((pc : Int) + offs.getD j 0).toNat)) && decide (0 ≤ (pc : Int) + offs.getD j 0)) && inR lo && inR hi
  | .lookupswitch d ps => decide ((pc : Int) + d = (ia : Int)) && sw.length == ps.size && (ps.toList.zip (ps.toList.drop 1)).all (fun (a, next) => a.1 < next.1) && (ps.toList.zip sw).all (fun q => decide (q.1.1 = q.2.1) && decide ((pc : Int) + q.1.2 = (q.2.2 : Int)))
  | .getfield i => len == 3 && match ia with
    | 60 => match ib with
      | 0 => ic == 0 && wAt sw (.fieldLink (mOwn y) i "java/lang/String" "coder" "B")
      | _ => ib == 1 && ic == 1 && wAt sw (.fieldLink (mOwn y) i "java/lang/String" "value" "[B")
    | _ => Nat.blt ia 10 && Nat.blt ib (clAt ia).2.2 && decide (((clAt ia).2.1 ib).1 = (clAt ia).1) && wAt sw (.fieldLink (mOwn y) i (clAt ia).1 ((clAt ia).2.1 ib).2.1 ((clAt ia).2.1 ib).2.2.1) && ic == fkG ((clAt ia).2.1 ib).2.2.1
  | .putfield i => len == 3 && Nat.blt ia 10 && Nat.blt ib (clAt ia).2.2 && decide (((clAt ia).2.1 ib).1 = (clAt ia).1) && wAt sw (.fieldLink (mOwn y) i (clAt ia).1 ((clAt ia).2.1 ib).2.1 ((clAt ia).2.1 ib).2.2.1) && ic == fkP ((clAt ia).2.1 ib).2.2.1 && (!((clAt ia).2.1 ib).2.2.2 || (decide ((mNm y).name = "<init>") && decide ((clAt ia).1 = mOwn y)))
  | .getstatic i => len == 3 && match ia with
    | 0 => decide (z = 1) && wAt sw (.fieldLink (mOwn y) i "java/lang/String" "COMPACT_STRINGS" "Z")
    | _ => match ib with
      | 1 => wAt sw (.fieldLink (mOwn y) i "ExemptBeauty" "ABOVE" "[I") || (decide (mOwn y = RX0) && i == 35)
      | _ => ib == 2 && (decide (mOwn y = RX0) && i == 28)
  | .new i => len == 3 && Nat.blt ia 10 && ib == (clAt ia).2.2 && wAt sw (.classLink (mOwn y) i (clAt ia).1)
  | .newarray t => len == 2 && match t with
    | .int => ia == 100
    | .long => ia == 101
    | .boolean => ia == 102
    | _ => false
  | .anewarray i => len == 3 && Nat.ble 110 ia && decide (ia - 110 ∈ ([2, 3, 6] : List Nat)) && wAt sw (.classLink (mOwn y) i (clAt (ia - 110)).1)
  | .invokestatic i => len == 3 && match z with
    | 3 => wAt sw (.methodLink (mOwn y) i arraycopyName)
    | 4 => wAt sw (.methodLink (mOwn y) i ⟨"java/lang/String", "checkIndex", "(II)V"⟩)
    | 5 => wAt sw (.methodLink (mOwn y) i Lib.Math.max.name)
    | 6 => wAt sw (.methodLink (mOwn y) i Lib.Math.min.name)
    | 7 => wAt sw (.methodLink (mOwn y) i Lib.Math.abs.name)
    | _ => Nat.blt ia 228 && mKind ia == 0 && wAt sw (.methodLink (mOwn y) i (mNm ia)) && nPar (mNm ia) == ib && ic == rkOf (mRet ia)
  | .invokevirtual i => len == 3 && Nat.blt ia 228 && mKind ia == 1 && wAt sw (.methodLink (mOwn y) i (mNm ia)) && nPar (mNm ia) + 1 == ib && ic == rkOf (mRet ia)
  | .invokespecial i => len == 3 && match z with
    | 2 => wAt sw (.methodLink (mOwn y) i Lib.objectInit)
    | _ => Nat.blt ia 228 && mKind ia == 2 && (wAt sw (.methodLink (mOwn y) i (mNm ia)) || decide (Cond.methodLinkNest (mOwn y) i (mNm ia) "ExemptBeauty" ∈ mNestL)) && nPar (mNm ia) + 1 == ib && ic == 0
  | .ireturn => len == 1 && ia == rcOf (mRet y) && !(rcOf (mRet y) == 9)
  | .lreturn => len == 1 && decide (mRet y = some .long)
  | .areturn => len == 1 && rkOf (mRet y) == 3
  | .return_ => len == 1 && decide (mRet y = none)
  | .arraylength | .iaload | .baload | .laload | .aaload | .iastore | .bastore | .lastore | .aastore => len == 1
  | .iadd | .isub | .imul | .idiv | .irem | .ineg | .ishl | .ishr | .iushr | .iand | .ior | .ixor | .i2l | .l2i | .i2b | .i2s | .i2c | .lcmp | .lshl | .lor | .land | .dup | .dup2 | .pop => len == 1
  | _ => false
def okRow (w : mRow) : Bool := match w with
  | (y, pc, ins, len, (ia, ib, ic), z, sw) => Nat.blt y mNmL.length && decide (decode (mBytes y) pc = .ok (ins, len)) && okIns y pc ins len ia ib ic z sw

def ent (P : mJ) : mC := fun d y args H K => P d y 0 (mBud y).1 (mBud y).2 (locs0 args ++ List.replicate (mMax y - (locs0 args).length) none) [] H K
def mMono (P : mJ) : Prop := ∀ d y pc kc ks ls st H (K K' : mK), (∀ r H, K r H → K' r H) → P d y pc kc ks ls st H K → P d y pc kc ks ls st H K'
def mClosed (n : Nat) (P : mJ) : Prop := ∀ d (w : mRow) kc ks ls st H K, okRow w = true → stepW n P (ent P) d w kc ks ls st H K → P d w.1 w.2.1 kc ks ls st H K
/-- the least judgement that the instructions close -/
def Wm (n : Nat) : mJ := fun d y pc kc ks ls st H K => ∀ P : mJ, mMono P → mClosed n P → P d y pc kc ks ls st H K
def Cm (n : Nat) : mC := ent (Wm n)


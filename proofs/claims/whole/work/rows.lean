section
-- ===== PART A: goes FIRST, ahead of the names: the tables' words, and 'selects' of the private methods out of them =====
/-- a private method of a class that the tables say can be made, by its rows of tables_1 -/
def lw_okq (q : MethodName × Nat) : Prop := (q.1.cls ≠ "java/lang/invoke/MethodHandle" ∧ q.1.cls ≠ "java/lang/invoke/VarHandle") ∧ Cond.instantiable q.1.cls q.2 ∈ tables_1 ∧ Cond.privateMethod q.1 ∈ tables_1 ∧ Cond.instanceMethod q.1 ∈ tables_1
theorem lw_p0 : lw_okq (⟨"ExemptBeauty", "isPerson", "(I)Z"⟩, 10) := ⟨⟨by decide +kernel, by decide +kernel⟩, List.mem_of_getElem? (i := 20) (by decide +kernel), List.mem_of_getElem? (i := 316) (by decide +kernel), List.mem_of_getElem? (i := 317) (by decide +kernel)⟩
theorem lw_p1 : lw_okq (⟨"ExemptBeauty", "holding", "()LExemptBeauty$Office;"⟩, 10) := ⟨⟨by decide +kernel, by decide +kernel⟩, List.mem_of_getElem? (i := 20) (by decide +kernel), List.mem_of_getElem? (i := 320) (by decide +kernel), List.mem_of_getElem? (i := 321) (by decide +kernel)⟩
theorem lw_p2 : lw_okq (⟨"ExemptBeauty$Office", "holds", "(IILExemptBeauty$Person;II)Z"⟩, 8) := ⟨⟨by decide +kernel, by decide +kernel⟩, List.mem_of_getElem? (i := 138) (by decide +kernel), List.mem_of_getElem? (i := 332) (by decide +kernel), List.mem_of_getElem? (i := 333) (by decide +kernel)⟩
theorem lw_p3 : lw_okq (⟨"ExemptBeauty$Reader", "goTo", "(I)V"⟩, 5) := ⟨⟨by decide +kernel, by decide +kernel⟩, List.mem_of_getElem? (i := 178) (by decide +kernel), List.mem_of_getElem? (i := 417) (by decide +kernel), List.mem_of_getElem? (i := 418) (by decide +kernel)⟩
theorem lw_p4 : lw_okq (⟨"ExemptBeauty$Reader", "takes", "(C)Z"⟩, 5) := ⟨⟨by decide +kernel, by decide +kernel⟩, List.mem_of_getElem? (i := 178) (by decide +kernel), List.mem_of_getElem? (i := 421) (by decide +kernel), List.mem_of_getElem? (i := 422) (by decide +kernel)⟩
theorem lw_p5 : lw_okq (⟨"ExemptBeauty$Reader", "readsClause", "()Z"⟩, 5) := ⟨⟨by decide +kernel, by decide +kernel⟩, List.mem_of_getElem? (i := 178) (by decide +kernel), List.mem_of_getElem? (i := 425) (by decide +kernel), List.mem_of_getElem? (i := 426) (by decide +kernel)⟩
theorem lw_p6 : lw_okq (⟨"ExemptBeauty$Reader", "readWord", "()I"⟩, 5) := ⟨⟨by decide +kernel, by decide +kernel⟩, List.mem_of_getElem? (i := 178) (by decide +kernel), List.mem_of_getElem? (i := 429) (by decide +kernel), List.mem_of_getElem? (i := 430) (by decide +kernel)⟩
theorem lw_p7 : lw_okq (⟨"ExemptBeauty$Reader", "takesAll", "(Ljava/lang/String;)Z"⟩, 5) := ⟨⟨by decide +kernel, by decide +kernel⟩, List.mem_of_getElem? (i := 178) (by decide +kernel), List.mem_of_getElem? (i := 434) (by decide +kernel), List.mem_of_getElem? (i := 435) (by decide +kernel)⟩
theorem lw_p8 : lw_okq (⟨"ExemptBeauty$Reader", "readNumber", "()I"⟩, 5) := ⟨⟨by decide +kernel, by decide +kernel⟩, List.mem_of_getElem? (i := 178) (by decide +kernel), List.mem_of_getElem? (i := 491) (by decide +kernel), List.mem_of_getElem? (i := 492) (by decide +kernel)⟩
theorem lw_p9 : lw_okq (⟨"ExemptBeauty$Reader", "readsEither", "(I)Z"⟩, 5) := ⟨⟨by decide +kernel, by decide +kernel⟩, List.mem_of_getElem? (i := 178) (by decide +kernel), List.mem_of_getElem? (i := 496) (by decide +kernel), List.mem_of_getElem? (i := 497) (by decide +kernel)⟩
theorem lw_p10 : lw_okq (⟨"ExemptBeauty$Reader", "readsBoth", "(I)Z"⟩, 5) := ⟨⟨by decide +kernel, by decide +kernel⟩, List.mem_of_getElem? (i := 178) (by decide +kernel), List.mem_of_getElem? (i := 500) (by decide +kernel), List.mem_of_getElem? (i := 501) (by decide +kernel)⟩
theorem lw_p11 : lw_okq (⟨"ExemptBeauty$Reader", "readsPart", "(I)Z"⟩, 5) := ⟨⟨by decide +kernel, by decide +kernel⟩, List.mem_of_getElem? (i := 178) (by decide +kernel), List.mem_of_getElem? (i := 504) (by decide +kernel), List.mem_of_getElem? (i := 505) (by decide +kernel)⟩
theorem lw_p12 : lw_okq (⟨"ExemptBeauty$Reader", "readsTest", "()Z"⟩, 5) := ⟨⟨by decide +kernel, by decide +kernel⟩, List.mem_of_getElem? (i := 178) (by decide +kernel), List.mem_of_getElem? (i := 508) (by decide +kernel), List.mem_of_getElem? (i := 509) (by decide +kernel)⟩
theorem lw_p13 : lw_okq (⟨"ExemptBeauty", "paidByAll", "(I)I"⟩, 10) := ⟨⟨by decide +kernel, by decide +kernel⟩, List.mem_of_getElem? (i := 20) (by decide +kernel), List.mem_of_getElem? (i := 530) (by decide +kernel), List.mem_of_getElem? (i := 531) (by decide +kernel)⟩
theorem lw_p14 : lw_okq (⟨"ExemptBeauty$Asker", "nextInLine", "(II)I"⟩, 6) := ⟨⟨by decide +kernel, by decide +kernel⟩, List.mem_of_getElem? (i := 205) (by decide +kernel), List.mem_of_getElem? (i := 589) (by decide +kernel), List.mem_of_getElem? (i := 590) (by decide +kernel)⟩
theorem lw_p15 : lw_okq (⟨"ExemptBeauty$Asker", "paidFrom", "(II)I"⟩, 6) := ⟨⟨by decide +kernel, by decide +kernel⟩, List.mem_of_getElem? (i := 205) (by decide +kernel), List.mem_of_getElem? (i := 593) (by decide +kernel), List.mem_of_getElem? (i := 594) (by decide +kernel)⟩
def lw_privs_1 : List (MethodName × Nat) := [(⟨"ExemptBeauty", "isPerson", "(I)Z"⟩, 10), (⟨"ExemptBeauty", "holding", "()LExemptBeauty$Office;"⟩, 10), (⟨"ExemptBeauty$Office", "holds", "(IILExemptBeauty$Person;II)Z"⟩, 8), (⟨"ExemptBeauty$Reader", "goTo", "(I)V"⟩, 5), (⟨"ExemptBeauty$Reader", "takes", "(C)Z"⟩, 5), (⟨"ExemptBeauty$Reader", "readsClause", "()Z"⟩, 5), (⟨"ExemptBeauty$Reader", "readWord", "()I"⟩, 5), (⟨"ExemptBeauty$Reader", "takesAll", "(Ljava/lang/String;)Z"⟩, 5), (⟨"ExemptBeauty$Reader", "readNumber", "()I"⟩, 5), (⟨"ExemptBeauty$Reader", "readsEither", "(I)Z"⟩, 5), (⟨"ExemptBeauty$Reader", "readsBoth", "(I)Z"⟩, 5), (⟨"ExemptBeauty$Reader", "readsPart", "(I)Z"⟩, 5), (⟨"ExemptBeauty$Reader", "readsTest", "()Z"⟩, 5), (⟨"ExemptBeauty", "paidByAll", "(I)I"⟩, 10), (⟨"ExemptBeauty$Asker", "nextInLine", "(II)I"⟩, 6), (⟨"ExemptBeauty$Asker", "paidFrom", "(II)I"⟩, 6)]
theorem lw_r1 : ∀ q ∈ lw_privs_1, lw_okq q := List.forall_mem_cons.mpr ⟨lw_p0, List.forall_mem_cons.mpr ⟨lw_p1, List.forall_mem_cons.mpr ⟨lw_p2, List.forall_mem_cons.mpr ⟨lw_p3, List.forall_mem_cons.mpr ⟨lw_p4, List.forall_mem_cons.mpr ⟨lw_p5, List.forall_mem_cons.mpr ⟨lw_p6, List.forall_mem_cons.mpr ⟨lw_p7, List.forall_mem_cons.mpr ⟨lw_p8, List.forall_mem_cons.mpr ⟨lw_p9, List.forall_mem_cons.mpr ⟨lw_p10, List.forall_mem_cons.mpr ⟨lw_p11, List.forall_mem_cons.mpr ⟨lw_p12, List.forall_mem_cons.mpr ⟨lw_p13, List.forall_mem_cons.mpr ⟨lw_p14, List.forall_mem_cons.mpr ⟨lw_p15, fun _ h => absurd h List.not_mem_nil⟩⟩⟩⟩⟩⟩⟩⟩⟩⟩⟩⟩⟩⟩⟩⟩
theorem lw_p16 : lw_okq (⟨"ExemptBeauty$Asker", "nextPartner", "(LExemptBeauty$Office;II)I"⟩, 6) := ⟨⟨by decide +kernel, by decide +kernel⟩, List.mem_of_getElem? (i := 205) (by decide +kernel), List.mem_of_getElem? (i := 628) (by decide +kernel), List.mem_of_getElem? (i := 629) (by decide +kernel)⟩
theorem lw_p17 : lw_okq (⟨"ExemptBeauty$Asker", "paidBehind", "(LExemptBeauty$Office;III)I"⟩, 6) := ⟨⟨by decide +kernel, by decide +kernel⟩, List.mem_of_getElem? (i := 205) (by decide +kernel), List.mem_of_getElem? (i := 632) (by decide +kernel), List.mem_of_getElem? (i := 633) (by decide +kernel)⟩
theorem lw_p18 : lw_okq (⟨"ExemptBeauty$Actor", "perform", "(LExemptBeauty$Person;IIII)I"⟩, 2) := ⟨⟨by decide +kernel, by decide +kernel⟩, List.mem_of_getElem? (i := 234) (by decide +kernel), List.mem_of_getElem? (i := 764) (by decide +kernel), List.mem_of_getElem? (i := 765) (by decide +kernel)⟩
theorem lw_p19 : lw_okq (⟨"ExemptBeauty$Actor", "run", "(LExemptBeauty$Person;III)I"⟩, 2) := ⟨⟨by decide +kernel, by decide +kernel⟩, List.mem_of_getElem? (i := 234) (by decide +kernel), List.mem_of_getElem? (i := 770) (by decide +kernel), List.mem_of_getElem? (i := 771) (by decide +kernel)⟩
theorem lw_p20 : lw_okq (⟨"ExemptBeautyModel", "in", "(III)Z"⟩, 80) := ⟨⟨by decide +kernel, by decide +kernel⟩, List.mem_of_getElem? (i := 822) (by decide +kernel), List.mem_of_getElem? (i := 1074) (by decide +kernel), List.mem_of_getElem? (i := 1075) (by decide +kernel)⟩
theorem lw_p21 : lw_okq (⟨"ExemptBeautyModel", "isPerson", "(I)Z"⟩, 80) := ⟨⟨by decide +kernel, by decide +kernel⟩, List.mem_of_getElem? (i := 822) (by decide +kernel), List.mem_of_getElem? (i := 1082) (by decide +kernel), List.mem_of_getElem? (i := 1083) (by decide +kernel)⟩
theorem lw_p22 : lw_okq (⟨"ExemptBeautyModel", "isPart", "(I)Z"⟩, 80) := ⟨⟨by decide +kernel, by decide +kernel⟩, List.mem_of_getElem? (i := 822) (by decide +kernel), List.mem_of_getElem? (i := 1086) (by decide +kernel), List.mem_of_getElem? (i := 1087) (by decide +kernel)⟩
theorem lw_p23 : lw_okq (⟨"ExemptBeautyModel", "has", "(II)Z"⟩, 80) := ⟨⟨by decide +kernel, by decide +kernel⟩, List.mem_of_getElem? (i := 822) (by decide +kernel), List.mem_of_getElem? (i := 1094) (by decide +kernel), List.mem_of_getElem? (i := 1095) (by decide +kernel)⟩
theorem lw_p24 : lw_okq (⟨"ExemptBeautyModel", "goes", "(IZ)V"⟩, 80) := ⟨⟨by decide +kernel, by decide +kernel⟩, List.mem_of_getElem? (i := 822) (by decide +kernel), List.mem_of_getElem? (i := 1098) (by decide +kernel), List.mem_of_getElem? (i := 1099) (by decide +kernel)⟩
theorem lw_p25 : lw_okq (⟨"ExemptBeautyModel", "isHour", "(I)Z"⟩, 80) := ⟨⟨by decide +kernel, by decide +kernel⟩, List.mem_of_getElem? (i := 822) (by decide +kernel), List.mem_of_getElem? (i := 1110) (by decide +kernel), List.mem_of_getElem? (i := 1111) (by decide +kernel)⟩
theorem lw_p26 : lw_okq (⟨"ExemptBeautyModel", "goesText", "(I)Z"⟩, 80) := ⟨⟨by decide +kernel, by decide +kernel⟩, List.mem_of_getElem? (i := 822) (by decide +kernel), List.mem_of_getElem? (i := 1122) (by decide +kernel), List.mem_of_getElem? (i := 1123) (by decide +kernel)⟩
theorem lw_p27 : lw_okq (⟨"ExemptBeautyModel", "takesClause", "(I)Z"⟩, 80) := ⟨⟨by decide +kernel, by decide +kernel⟩, List.mem_of_getElem? (i := 822) (by decide +kernel), List.mem_of_getElem? (i := 1126) (by decide +kernel), List.mem_of_getElem? (i := 1127) (by decide +kernel)⟩
theorem lw_p28 : lw_okq (⟨"ExemptBeautyModel", "takesHead", "(I)Z"⟩, 80) := ⟨⟨by decide +kernel, by decide +kernel⟩, List.mem_of_getElem? (i := 822) (by decide +kernel), List.mem_of_getElem? (i := 1130) (by decide +kernel), List.mem_of_getElem? (i := 1131) (by decide +kernel)⟩
theorem lw_p29 : lw_okq (⟨"ExemptBeautyModel", "next", "()I"⟩, 80) := ⟨⟨by decide +kernel, by decide +kernel⟩, List.mem_of_getElem? (i := 822) (by decide +kernel), List.mem_of_getElem? (i := 1134) (by decide +kernel), List.mem_of_getElem? (i := 1135) (by decide +kernel)⟩
theorem lw_p30 : lw_okq (⟨"ExemptBeautyModel", "takesWord", "(II)Z"⟩, 80) := ⟨⟨by decide +kernel, by decide +kernel⟩, List.mem_of_getElem? (i := 822) (by decide +kernel), List.mem_of_getElem? (i := 1138) (by decide +kernel), List.mem_of_getElem? (i := 1139) (by decide +kernel)⟩
theorem lw_p31 : lw_okq (⟨"ExemptBeautyModel", "takes", "(I)Z"⟩, 80) := ⟨⟨by decide +kernel, by decide +kernel⟩, List.mem_of_getElem? (i := 822) (by decide +kernel), List.mem_of_getElem? (i := 1142) (by decide +kernel), List.mem_of_getElem? (i := 1143) (by decide +kernel)⟩
def lw_privs_2 : List (MethodName × Nat) := [(⟨"ExemptBeauty$Asker", "nextPartner", "(LExemptBeauty$Office;II)I"⟩, 6), (⟨"ExemptBeauty$Asker", "paidBehind", "(LExemptBeauty$Office;III)I"⟩, 6), (⟨"ExemptBeauty$Actor", "perform", "(LExemptBeauty$Person;IIII)I"⟩, 2), (⟨"ExemptBeauty$Actor", "run", "(LExemptBeauty$Person;III)I"⟩, 2), (⟨"ExemptBeautyModel", "in", "(III)Z"⟩, 80), (⟨"ExemptBeautyModel", "isPerson", "(I)Z"⟩, 80), (⟨"ExemptBeautyModel", "isPart", "(I)Z"⟩, 80), (⟨"ExemptBeautyModel", "has", "(II)Z"⟩, 80), (⟨"ExemptBeautyModel", "goes", "(IZ)V"⟩, 80), (⟨"ExemptBeautyModel", "isHour", "(I)Z"⟩, 80), (⟨"ExemptBeautyModel", "goesText", "(I)Z"⟩, 80), (⟨"ExemptBeautyModel", "takesClause", "(I)Z"⟩, 80), (⟨"ExemptBeautyModel", "takesHead", "(I)Z"⟩, 80), (⟨"ExemptBeautyModel", "next", "()I"⟩, 80), (⟨"ExemptBeautyModel", "takesWord", "(II)Z"⟩, 80), (⟨"ExemptBeautyModel", "takes", "(I)Z"⟩, 80)]
theorem lw_r2 : ∀ q ∈ lw_privs_2, lw_okq q := List.forall_mem_cons.mpr ⟨lw_p16, List.forall_mem_cons.mpr ⟨lw_p17, List.forall_mem_cons.mpr ⟨lw_p18, List.forall_mem_cons.mpr ⟨lw_p19, List.forall_mem_cons.mpr ⟨lw_p20, List.forall_mem_cons.mpr ⟨lw_p21, List.forall_mem_cons.mpr ⟨lw_p22, List.forall_mem_cons.mpr ⟨lw_p23, List.forall_mem_cons.mpr ⟨lw_p24, List.forall_mem_cons.mpr ⟨lw_p25, List.forall_mem_cons.mpr ⟨lw_p26, List.forall_mem_cons.mpr ⟨lw_p27, List.forall_mem_cons.mpr ⟨lw_p28, List.forall_mem_cons.mpr ⟨lw_p29, List.forall_mem_cons.mpr ⟨lw_p30, List.forall_mem_cons.mpr ⟨lw_p31, fun _ h => absurd h List.not_mem_nil⟩⟩⟩⟩⟩⟩⟩⟩⟩⟩⟩⟩⟩⟩⟩⟩
theorem lw_p32 : lw_okq (⟨"ExemptBeautyModel", "takesNumber", "()Z"⟩, 80) := ⟨⟨by decide +kernel, by decide +kernel⟩, List.mem_of_getElem? (i := 822) (by decide +kernel), List.mem_of_getElem? (i := 1146) (by decide +kernel), List.mem_of_getElem? (i := 1147) (by decide +kernel)⟩
theorem lw_p33 : lw_okq (⟨"ExemptBeautyModel", "isDigit", "()Z"⟩, 80) := ⟨⟨by decide +kernel, by decide +kernel⟩, List.mem_of_getElem? (i := 822) (by decide +kernel), List.mem_of_getElem? (i := 1150) (by decide +kernel), List.mem_of_getElem? (i := 1151) (by decide +kernel)⟩
theorem lw_p34 : lw_okq (⟨"ExemptBeautyModel", "takesE", "(I)Z"⟩, 80) := ⟨⟨by decide +kernel, by decide +kernel⟩, List.mem_of_getElem? (i := 822) (by decide +kernel), List.mem_of_getElem? (i := 1154) (by decide +kernel), List.mem_of_getElem? (i := 1155) (by decide +kernel)⟩
theorem lw_p35 : lw_okq (⟨"ExemptBeautyModel", "takesTest", "()Z"⟩, 80) := ⟨⟨by decide +kernel, by decide +kernel⟩, List.mem_of_getElem? (i := 822) (by decide +kernel), List.mem_of_getElem? (i := 1158) (by decide +kernel), List.mem_of_getElem? (i := 1159) (by decide +kernel)⟩
theorem lw_p36 : lw_okq (⟨"ExemptBeautyModel", "place", "(I)I"⟩, 80) := ⟨⟨by decide +kernel, by decide +kernel⟩, List.mem_of_getElem? (i := 822) (by decide +kernel), List.mem_of_getElem? (i := 1162) (by decide +kernel), List.mem_of_getElem? (i := 1163) (by decide +kernel)⟩
theorem lw_p37 : lw_okq (⟨"ExemptBeautyModel", "emits", "(I)V"⟩, 80) := ⟨⟨by decide +kernel, by decide +kernel⟩, List.mem_of_getElem? (i := 822) (by decide +kernel), List.mem_of_getElem? (i := 1166) (by decide +kernel), List.mem_of_getElem? (i := 1167) (by decide +kernel)⟩
theorem lw_p38 : lw_okq (⟨"ExemptBeautyModel", "whole", "()V"⟩, 80) := ⟨⟨by decide +kernel, by decide +kernel⟩, List.mem_of_getElem? (i := 822) (by decide +kernel), List.mem_of_getElem? (i := 1170) (by decide +kernel), List.mem_of_getElem? (i := 1171) (by decide +kernel)⟩
theorem lw_p39 : lw_okq (⟨"ExemptBeautyModel", "settle", "(I)V"⟩, 80) := ⟨⟨by decide +kernel, by decide +kernel⟩, List.mem_of_getElem? (i := 822) (by decide +kernel), List.mem_of_getElem? (i := 1174) (by decide +kernel), List.mem_of_getElem? (i := 1175) (by decide +kernel)⟩
theorem lw_p40 : lw_okq (⟨"ExemptBeautyModel", "fine", "(II)I"⟩, 80) := ⟨⟨by decide +kernel, by decide +kernel⟩, List.mem_of_getElem? (i := 822) (by decide +kernel), List.mem_of_getElem? (i := 1182) (by decide +kernel), List.mem_of_getElem? (i := 1183) (by decide +kernel)⟩
theorem lw_p41 : lw_okq (⟨"ExemptBeautyModel", "liking", "(II)I"⟩, 80) := ⟨⟨by decide +kernel, by decide +kernel⟩, List.mem_of_getElem? (i := 822) (by decide +kernel), List.mem_of_getElem? (i := 1186) (by decide +kernel), List.mem_of_getElem? (i := 1187) (by decide +kernel)⟩
theorem lw_p42 : lw_okq (⟨"ExemptBeautyModel", "begin", "()I"⟩, 80) := ⟨⟨by decide +kernel, by decide +kernel⟩, List.mem_of_getElem? (i := 822) (by decide +kernel), List.mem_of_getElem? (i := 1190) (by decide +kernel), List.mem_of_getElem? (i := 1191) (by decide +kernel)⟩
theorem lw_p43 : lw_okq (⟨"ExemptBeautyModel", "behind", "()I"⟩, 80) := ⟨⟨by decide +kernel, by decide +kernel⟩, List.mem_of_getElem? (i := 822) (by decide +kernel), List.mem_of_getElem? (i := 1194) (by decide +kernel), List.mem_of_getElem? (i := 1195) (by decide +kernel)⟩
theorem lw_p44 : lw_okq (⟨"ExemptBeautyModel", "holds", "(III)Z"⟩, 80) := ⟨⟨by decide +kernel, by decide +kernel⟩, List.mem_of_getElem? (i := 822) (by decide +kernel), List.mem_of_getElem? (i := 1198) (by decide +kernel), List.mem_of_getElem? (i := 1199) (by decide +kernel)⟩
theorem lw_p45 : lw_okq (⟨"ExemptBeautyModel", "factOf", "(III)I"⟩, 80) := ⟨⟨by decide +kernel, by decide +kernel⟩, List.mem_of_getElem? (i := 822) (by decide +kernel), List.mem_of_getElem? (i := 1202) (by decide +kernel), List.mem_of_getElem? (i := 1203) (by decide +kernel)⟩
theorem lw_p46 : lw_okq (⟨"ExemptBeautyModel", "glow", "()I"⟩, 80) := ⟨⟨by decide +kernel, by decide +kernel⟩, List.mem_of_getElem? (i := 822) (by decide +kernel), List.mem_of_getElem? (i := 1206) (by decide +kernel), List.mem_of_getElem? (i := 1207) (by decide +kernel)⟩
theorem lw_p47 : lw_okq (⟨"ExemptBeautyModel", "light", "()I"⟩, 80) := ⟨⟨by decide +kernel, by decide +kernel⟩, List.mem_of_getElem? (i := 822) (by decide +kernel), List.mem_of_getElem? (i := 1210) (by decide +kernel), List.mem_of_getElem? (i := 1211) (by decide +kernel)⟩
def lw_privs_3 : List (MethodName × Nat) := [(⟨"ExemptBeautyModel", "takesNumber", "()Z"⟩, 80), (⟨"ExemptBeautyModel", "isDigit", "()Z"⟩, 80), (⟨"ExemptBeautyModel", "takesE", "(I)Z"⟩, 80), (⟨"ExemptBeautyModel", "takesTest", "()Z"⟩, 80), (⟨"ExemptBeautyModel", "place", "(I)I"⟩, 80), (⟨"ExemptBeautyModel", "emits", "(I)V"⟩, 80), (⟨"ExemptBeautyModel", "whole", "()V"⟩, 80), (⟨"ExemptBeautyModel", "settle", "(I)V"⟩, 80), (⟨"ExemptBeautyModel", "fine", "(II)I"⟩, 80), (⟨"ExemptBeautyModel", "liking", "(II)I"⟩, 80), (⟨"ExemptBeautyModel", "begin", "()I"⟩, 80), (⟨"ExemptBeautyModel", "behind", "()I"⟩, 80), (⟨"ExemptBeautyModel", "holds", "(III)Z"⟩, 80), (⟨"ExemptBeautyModel", "factOf", "(III)I"⟩, 80), (⟨"ExemptBeautyModel", "glow", "()I"⟩, 80), (⟨"ExemptBeautyModel", "light", "()I"⟩, 80)]
theorem lw_r3 : ∀ q ∈ lw_privs_3, lw_okq q := List.forall_mem_cons.mpr ⟨lw_p32, List.forall_mem_cons.mpr ⟨lw_p33, List.forall_mem_cons.mpr ⟨lw_p34, List.forall_mem_cons.mpr ⟨lw_p35, List.forall_mem_cons.mpr ⟨lw_p36, List.forall_mem_cons.mpr ⟨lw_p37, List.forall_mem_cons.mpr ⟨lw_p38, List.forall_mem_cons.mpr ⟨lw_p39, List.forall_mem_cons.mpr ⟨lw_p40, List.forall_mem_cons.mpr ⟨lw_p41, List.forall_mem_cons.mpr ⟨lw_p42, List.forall_mem_cons.mpr ⟨lw_p43, List.forall_mem_cons.mpr ⟨lw_p44, List.forall_mem_cons.mpr ⟨lw_p45, List.forall_mem_cons.mpr ⟨lw_p46, List.forall_mem_cons.mpr ⟨lw_p47, fun _ h => absurd h List.not_mem_nil⟩⟩⟩⟩⟩⟩⟩⟩⟩⟩⟩⟩⟩⟩⟩⟩
theorem lw_p48 : lw_okq (⟨"ExemptBeautyModel", "lastOf", "(II)I"⟩, 80) := ⟨⟨by decide +kernel, by decide +kernel⟩, List.mem_of_getElem? (i := 822) (by decide +kernel), List.mem_of_getElem? (i := 1214) (by decide +kernel), List.mem_of_getElem? (i := 1215) (by decide +kernel)⟩
theorem lw_p49 : lw_okq (⟨"ExemptBeautyModel", "least", "(II)I"⟩, 80) := ⟨⟨by decide +kernel, by decide +kernel⟩, List.mem_of_getElem? (i := 822) (by decide +kernel), List.mem_of_getElem? (i := 1218) (by decide +kernel), List.mem_of_getElem? (i := 1219) (by decide +kernel)⟩
theorem lw_p50 : lw_okq (⟨"ExemptBeautyModel", "pays", "(I)I"⟩, 80) := ⟨⟨by decide +kernel, by decide +kernel⟩, List.mem_of_getElem? (i := 822) (by decide +kernel), List.mem_of_getElem? (i := 1222) (by decide +kernel), List.mem_of_getElem? (i := 1223) (by decide +kernel)⟩
theorem lw_p51 : lw_okq (⟨"ExemptBeautyModel", "rate", "()I"⟩, 80) := ⟨⟨by decide +kernel, by decide +kernel⟩, List.mem_of_getElem? (i := 822) (by decide +kernel), List.mem_of_getElem? (i := 1226) (by decide +kernel), List.mem_of_getElem? (i := 1227) (by decide +kernel)⟩
theorem lw_p52 : lw_okq (⟨"ExemptBeautyModel", "offMany", "(I)I"⟩, 80) := ⟨⟨by decide +kernel, by decide +kernel⟩, List.mem_of_getElem? (i := 822) (by decide +kernel), List.mem_of_getElem? (i := 1230) (by decide +kernel), List.mem_of_getElem? (i := 1231) (by decide +kernel)⟩
theorem lw_p53 : lw_okq (⟨"ExemptBeautyModel", "isOff", "(II)Z"⟩, 80) := ⟨⟨by decide +kernel, by decide +kernel⟩, List.mem_of_getElem? (i := 822) (by decide +kernel), List.mem_of_getElem? (i := 1234) (by decide +kernel), List.mem_of_getElem? (i := 1235) (by decide +kernel)⟩
theorem lw_p54 : lw_okq (⟨"ExemptBeautyModel", "taste", "()I"⟩, 80) := ⟨⟨by decide +kernel, by decide +kernel⟩, List.mem_of_getElem? (i := 822) (by decide +kernel), List.mem_of_getElem? (i := 1238) (by decide +kernel), List.mem_of_getElem? (i := 1239) (by decide +kernel)⟩
theorem lw_p55 : lw_okq (⟨"ExemptBeautyModel", "offSet", "(I)I"⟩, 80) := ⟨⟨by decide +kernel, by decide +kernel⟩, List.mem_of_getElem? (i := 822) (by decide +kernel), List.mem_of_getElem? (i := 1242) (by decide +kernel), List.mem_of_getElem? (i := 1243) (by decide +kernel)⟩
theorem lw_p56 : lw_okq (⟨"ExemptBeautyModel", "show", "(I)I"⟩, 80) := ⟨⟨by decide +kernel, by decide +kernel⟩, List.mem_of_getElem? (i := 822) (by decide +kernel), List.mem_of_getElem? (i := 1246) (by decide +kernel), List.mem_of_getElem? (i := 1247) (by decide +kernel)⟩
theorem lw_p57 : lw_okq (⟨"ExemptBeautyModel", "allPay", "()I"⟩, 80) := ⟨⟨by decide +kernel, by decide +kernel⟩, List.mem_of_getElem? (i := 822) (by decide +kernel), List.mem_of_getElem? (i := 1254) (by decide +kernel), List.mem_of_getElem? (i := 1255) (by decide +kernel)⟩
theorem lw_p58 : lw_okq (⟨"ExemptBeautyModel", "isYears", "(I)Z"⟩, 80) := ⟨⟨by decide +kernel, by decide +kernel⟩, List.mem_of_getElem? (i := 822) (by decide +kernel), List.mem_of_getElem? (i := 1262) (by decide +kernel), List.mem_of_getElem? (i := 1263) (by decide +kernel)⟩
theorem lw_p59 : lw_okq (⟨"ExemptBeautyModel", "goYears", "(I)V"⟩, 80) := ⟨⟨by decide +kernel, by decide +kernel⟩, List.mem_of_getElem? (i := 822) (by decide +kernel), List.mem_of_getElem? (i := 1266) (by decide +kernel), List.mem_of_getElem? (i := 1267) (by decide +kernel)⟩
theorem lw_p60 : lw_okq (⟨"ExemptBeautyModel", "goYear", "()V"⟩, 80) := ⟨⟨by decide +kernel, by decide +kernel⟩, List.mem_of_getElem? (i := 822) (by decide +kernel), List.mem_of_getElem? (i := 1270) (by decide +kernel), List.mem_of_getElem? (i := 1271) (by decide +kernel)⟩
theorem lw_p61 : lw_okq (⟨"ExemptBeautyModel", "save", "()V"⟩, 80) := ⟨⟨by decide +kernel, by decide +kernel⟩, List.mem_of_getElem? (i := 822) (by decide +kernel), List.mem_of_getElem? (i := 1278) (by decide +kernel), List.mem_of_getElem? (i := 1279) (by decide +kernel)⟩
theorem lw_p62 : lw_okq (⟨"ExemptBeautyModel", "putBack", "()V"⟩, 80) := ⟨⟨by decide +kernel, by decide +kernel⟩, List.mem_of_getElem? (i := 822) (by decide +kernel), List.mem_of_getElem? (i := 1282) (by decide +kernel), List.mem_of_getElem? (i := 1283) (by decide +kernel)⟩
theorem lw_p63 : lw_okq (⟨"ExemptBeautyModel", "paysAt", "(II)I"⟩, 80) := ⟨⟨by decide +kernel, by decide +kernel⟩, List.mem_of_getElem? (i := 822) (by decide +kernel), List.mem_of_getElem? (i := 1290) (by decide +kernel), List.mem_of_getElem? (i := 1291) (by decide +kernel)⟩
def lw_privs_4 : List (MethodName × Nat) := [(⟨"ExemptBeautyModel", "lastOf", "(II)I"⟩, 80), (⟨"ExemptBeautyModel", "least", "(II)I"⟩, 80), (⟨"ExemptBeautyModel", "pays", "(I)I"⟩, 80), (⟨"ExemptBeautyModel", "rate", "()I"⟩, 80), (⟨"ExemptBeautyModel", "offMany", "(I)I"⟩, 80), (⟨"ExemptBeautyModel", "isOff", "(II)Z"⟩, 80), (⟨"ExemptBeautyModel", "taste", "()I"⟩, 80), (⟨"ExemptBeautyModel", "offSet", "(I)I"⟩, 80), (⟨"ExemptBeautyModel", "show", "(I)I"⟩, 80), (⟨"ExemptBeautyModel", "allPay", "()I"⟩, 80), (⟨"ExemptBeautyModel", "isYears", "(I)Z"⟩, 80), (⟨"ExemptBeautyModel", "goYears", "(I)V"⟩, 80), (⟨"ExemptBeautyModel", "goYear", "()V"⟩, 80), (⟨"ExemptBeautyModel", "save", "()V"⟩, 80), (⟨"ExemptBeautyModel", "putBack", "()V"⟩, 80), (⟨"ExemptBeautyModel", "paysAt", "(II)I"⟩, 80)]
theorem lw_r4 : ∀ q ∈ lw_privs_4, lw_okq q := List.forall_mem_cons.mpr ⟨lw_p48, List.forall_mem_cons.mpr ⟨lw_p49, List.forall_mem_cons.mpr ⟨lw_p50, List.forall_mem_cons.mpr ⟨lw_p51, List.forall_mem_cons.mpr ⟨lw_p52, List.forall_mem_cons.mpr ⟨lw_p53, List.forall_mem_cons.mpr ⟨lw_p54, List.forall_mem_cons.mpr ⟨lw_p55, List.forall_mem_cons.mpr ⟨lw_p56, List.forall_mem_cons.mpr ⟨lw_p57, List.forall_mem_cons.mpr ⟨lw_p58, List.forall_mem_cons.mpr ⟨lw_p59, List.forall_mem_cons.mpr ⟨lw_p60, List.forall_mem_cons.mpr ⟨lw_p61, List.forall_mem_cons.mpr ⟨lw_p62, List.forall_mem_cons.mpr ⟨lw_p63, fun _ h => absurd h List.not_mem_nil⟩⟩⟩⟩⟩⟩⟩⟩⟩⟩⟩⟩⟩⟩⟩⟩
theorem lw_p64 : lw_okq (⟨"ExemptBeautyModel", "bestHour", "(I)I"⟩, 80) := ⟨⟨by decide +kernel, by decide +kernel⟩, List.mem_of_getElem? (i := 822) (by decide +kernel), List.mem_of_getElem? (i := 1298) (by decide +kernel), List.mem_of_getElem? (i := 1299) (by decide +kernel)⟩
theorem lw_p65 : lw_okq (⟨"ExemptBeautyModel", "rises", "(I)I"⟩, 80) := ⟨⟨by decide +kernel, by decide +kernel⟩, List.mem_of_getElem? (i := 822) (by decide +kernel), List.mem_of_getElem? (i := 1302) (by decide +kernel), List.mem_of_getElem? (i := 1303) (by decide +kernel)⟩
theorem lw_p66 : lw_okq (⟨"ExemptBeautyModel", "layCosts", "()V"⟩, 80) := ⟨⟨by decide +kernel, by decide +kernel⟩, List.mem_of_getElem? (i := 822) (by decide +kernel), List.mem_of_getElem? (i := 1310) (by decide +kernel), List.mem_of_getElem? (i := 1311) (by decide +kernel)⟩
theorem lw_p67 : lw_okq (⟨"ExemptBeautyModel", "layTurn", "(I)Z"⟩, 80) := ⟨⟨by decide +kernel, by decide +kernel⟩, List.mem_of_getElem? (i := 822) (by decide +kernel), List.mem_of_getElem? (i := 1314) (by decide +kernel), List.mem_of_getElem? (i := 1315) (by decide +kernel)⟩
theorem lw_p68 : lw_okq (⟨"ExemptBeautyModel", "jointlyOf", "(II)I"⟩, 80) := ⟨⟨by decide +kernel, by decide +kernel⟩, List.mem_of_getElem? (i := 822) (by decide +kernel), List.mem_of_getElem? (i := 1322) (by decide +kernel), List.mem_of_getElem? (i := 1323) (by decide +kernel)⟩
theorem lw_p69 : lw_okq (⟨"ExemptBeautyModel", "layPairs", "()V"⟩, 80) := ⟨⟨by decide +kernel, by decide +kernel⟩, List.mem_of_getElem? (i := 822) (by decide +kernel), List.mem_of_getElem? (i := 1330) (by decide +kernel), List.mem_of_getElem? (i := 1331) (by decide +kernel)⟩
theorem lw_p70 : lw_okq (⟨"ExemptBeautyModel", "firstBad", "()I"⟩, 80) := ⟨⟨by decide +kernel, by decide +kernel⟩, List.mem_of_getElem? (i := 822) (by decide +kernel), List.mem_of_getElem? (i := 1334) (by decide +kernel), List.mem_of_getElem? (i := 1335) (by decide +kernel)⟩
theorem lw_p71 : lw_okq (⟨"ExemptBeautyModel", "goesOn", "(I)Z"⟩, 80) := ⟨⟨by decide +kernel, by decide +kernel⟩, List.mem_of_getElem? (i := 822) (by decide +kernel), List.mem_of_getElem? (i := 1338) (by decide +kernel), List.mem_of_getElem? (i := 1339) (by decide +kernel)⟩
theorem lw_p72 : lw_okq (⟨"ExemptBeautyModel", "pairsCost", "()I"⟩, 80) := ⟨⟨by decide +kernel, by decide +kernel⟩, List.mem_of_getElem? (i := 822) (by decide +kernel), List.mem_of_getElem? (i := 1342) (by decide +kernel), List.mem_of_getElem? (i := 1343) (by decide +kernel)⟩
theorem lw_p73 : lw_okq (⟨"ExemptBeautyModel", "isLooked", "()Z"⟩, 80) := ⟨⟨by decide +kernel, by decide +kernel⟩, List.mem_of_getElem? (i := 822) (by decide +kernel), List.mem_of_getElem? (i := 1358) (by decide +kernel), List.mem_of_getElem? (i := 1359) (by decide +kernel)⟩
theorem lw_p74 : lw_okq (⟨"ExemptBeautyModel", "lowest", "(III)J"⟩, 80) := ⟨⟨by decide +kernel, by decide +kernel⟩, List.mem_of_getElem? (i := 822) (by decide +kernel), List.mem_of_getElem? (i := 1375) (by decide +kernel), List.mem_of_getElem? (i := 1376) (by decide +kernel)⟩
theorem lw_p75 : lw_okq (⟨"ExemptBeautyModel", "divisor", "(II)I"⟩, 80) := ⟨⟨by decide +kernel, by decide +kernel⟩, List.mem_of_getElem? (i := 822) (by decide +kernel), List.mem_of_getElem? (i := 1379) (by decide +kernel), List.mem_of_getElem? (i := 1380) (by decide +kernel)⟩
theorem lw_p76 : lw_okq (⟨"ExemptBeautyModel", "isTape", "(I)Z"⟩, 80) := ⟨⟨by decide +kernel, by decide +kernel⟩, List.mem_of_getElem? (i := 822) (by decide +kernel), List.mem_of_getElem? (i := 1407) (by decide +kernel), List.mem_of_getElem? (i := 1408) (by decide +kernel)⟩
theorem lw_p77 : lw_okq (⟨"ExemptBeautyModel", "showsAct", "(II)I"⟩, 80) := ⟨⟨by decide +kernel, by decide +kernel⟩, List.mem_of_getElem? (i := 822) (by decide +kernel), List.mem_of_getElem? (i := 1423) (by decide +kernel), List.mem_of_getElem? (i := 1424) (by decide +kernel)⟩
theorem lw_p78 : lw_okq (⟨"ExemptBeautyModel", "body", "(I)V"⟩, 80) := ⟨⟨by decide +kernel, by decide +kernel⟩, List.mem_of_getElem? (i := 822) (by decide +kernel), List.mem_of_getElem? (i := 1427) (by decide +kernel), List.mem_of_getElem? (i := 1428) (by decide +kernel)⟩
theorem lw_p79 : lw_okq (⟨"ExemptBeautyModel", "personShows", "(II)I"⟩, 80) := ⟨⟨by decide +kernel, by decide +kernel⟩, List.mem_of_getElem? (i := 822) (by decide +kernel), List.mem_of_getElem? (i := 1431) (by decide +kernel), List.mem_of_getElem? (i := 1432) (by decide +kernel)⟩
def lw_privs_5 : List (MethodName × Nat) := [(⟨"ExemptBeautyModel", "bestHour", "(I)I"⟩, 80), (⟨"ExemptBeautyModel", "rises", "(I)I"⟩, 80), (⟨"ExemptBeautyModel", "layCosts", "()V"⟩, 80), (⟨"ExemptBeautyModel", "layTurn", "(I)Z"⟩, 80), (⟨"ExemptBeautyModel", "jointlyOf", "(II)I"⟩, 80), (⟨"ExemptBeautyModel", "layPairs", "()V"⟩, 80), (⟨"ExemptBeautyModel", "firstBad", "()I"⟩, 80), (⟨"ExemptBeautyModel", "goesOn", "(I)Z"⟩, 80), (⟨"ExemptBeautyModel", "pairsCost", "()I"⟩, 80), (⟨"ExemptBeautyModel", "isLooked", "()Z"⟩, 80), (⟨"ExemptBeautyModel", "lowest", "(III)J"⟩, 80), (⟨"ExemptBeautyModel", "divisor", "(II)I"⟩, 80), (⟨"ExemptBeautyModel", "isTape", "(I)Z"⟩, 80), (⟨"ExemptBeautyModel", "showsAct", "(II)I"⟩, 80), (⟨"ExemptBeautyModel", "body", "(I)V"⟩, 80), (⟨"ExemptBeautyModel", "personShows", "(II)I"⟩, 80)]
theorem lw_r5 : ∀ q ∈ lw_privs_5, lw_okq q := List.forall_mem_cons.mpr ⟨lw_p64, List.forall_mem_cons.mpr ⟨lw_p65, List.forall_mem_cons.mpr ⟨lw_p66, List.forall_mem_cons.mpr ⟨lw_p67, List.forall_mem_cons.mpr ⟨lw_p68, List.forall_mem_cons.mpr ⟨lw_p69, List.forall_mem_cons.mpr ⟨lw_p70, List.forall_mem_cons.mpr ⟨lw_p71, List.forall_mem_cons.mpr ⟨lw_p72, List.forall_mem_cons.mpr ⟨lw_p73, List.forall_mem_cons.mpr ⟨lw_p74, List.forall_mem_cons.mpr ⟨lw_p75, List.forall_mem_cons.mpr ⟨lw_p76, List.forall_mem_cons.mpr ⟨lw_p77, List.forall_mem_cons.mpr ⟨lw_p78, List.forall_mem_cons.mpr ⟨lw_p79, fun _ h => absurd h List.not_mem_nil⟩⟩⟩⟩⟩⟩⟩⟩⟩⟩⟩⟩⟩⟩⟩⟩
theorem lw_p80 : lw_okq (⟨"ExemptBeautyModel", "paysAct", "(II)I"⟩, 80) := ⟨⟨by decide +kernel, by decide +kernel⟩, List.mem_of_getElem? (i := 822) (by decide +kernel), List.mem_of_getElem? (i := 1435) (by decide +kernel), List.mem_of_getElem? (i := 1436) (by decide +kernel)⟩
theorem lw_p81 : lw_okq (⟨"ExemptBeautyModel", "fadingPays", "(II)I"⟩, 80) := ⟨⟨by decide +kernel, by decide +kernel⟩, List.mem_of_getElem? (i := 822) (by decide +kernel), List.mem_of_getElem? (i := 1439) (by decide +kernel), List.mem_of_getElem? (i := 1440) (by decide +kernel)⟩
theorem lw_p82 : lw_okq (⟨"ExemptBeautyModel", "personPays", "(II)I"⟩, 80) := ⟨⟨by decide +kernel, by decide +kernel⟩, List.mem_of_getElem? (i := 822) (by decide +kernel), List.mem_of_getElem? (i := 1443) (by decide +kernel), List.mem_of_getElem? (i := 1444) (by decide +kernel)⟩
theorem lw_p83 : lw_okq (⟨"ExemptBeautyModel", "tellsAct", "(II)I"⟩, 80) := ⟨⟨by decide +kernel, by decide +kernel⟩, List.mem_of_getElem? (i := 822) (by decide +kernel), List.mem_of_getElem? (i := 1447) (by decide +kernel), List.mem_of_getElem? (i := 1448) (by decide +kernel)⟩
theorem lw_p84 : lw_okq (⟨"ExemptBeautyModel", "personTells", "(II)I"⟩, 80) := ⟨⟨by decide +kernel, by decide +kernel⟩, List.mem_of_getElem? (i := 822) (by decide +kernel), List.mem_of_getElem? (i := 1451) (by decide +kernel), List.mem_of_getElem? (i := 1452) (by decide +kernel)⟩
theorem lw_p85 : lw_okq (⟨"ExemptBeautyModel", "narrow", "(IJ)J"⟩, 80) := ⟨⟨by decide +kernel, by decide +kernel⟩, List.mem_of_getElem? (i := 822) (by decide +kernel), List.mem_of_getElem? (i := 1475) (by decide +kernel), List.mem_of_getElem? (i := 1476) (by decide +kernel)⟩
def lw_privs_6 : List (MethodName × Nat) := [(⟨"ExemptBeautyModel", "paysAct", "(II)I"⟩, 80), (⟨"ExemptBeautyModel", "fadingPays", "(II)I"⟩, 80), (⟨"ExemptBeautyModel", "personPays", "(II)I"⟩, 80), (⟨"ExemptBeautyModel", "tellsAct", "(II)I"⟩, 80), (⟨"ExemptBeautyModel", "personTells", "(II)I"⟩, 80), (⟨"ExemptBeautyModel", "narrow", "(IJ)J"⟩, 80)]
theorem lw_r6 : ∀ q ∈ lw_privs_6, lw_okq q := List.forall_mem_cons.mpr ⟨lw_p80, List.forall_mem_cons.mpr ⟨lw_p81, List.forall_mem_cons.mpr ⟨lw_p82, List.forall_mem_cons.mpr ⟨lw_p83, List.forall_mem_cons.mpr ⟨lw_p84, List.forall_mem_cons.mpr ⟨lw_p85, fun _ h => absurd h List.not_mem_nil⟩⟩⟩⟩⟩⟩
def lw_privs : List (MethodName × Nat) := lw_privs_1 ++ (lw_privs_2 ++ (lw_privs_3 ++ (lw_privs_4 ++ (lw_privs_5 ++ (lw_privs_6)))))
def lw_tbl : List Cond := k2_sels lw_privs ++ tables_1
theorem lw_privs_ok : ∀ q ∈ lw_privs, lw_okq q := by
  show ∀ q ∈ lw_privs_1 ++ (lw_privs_2 ++ (lw_privs_3 ++ (lw_privs_4 ++ (lw_privs_5 ++ (lw_privs_6))))), lw_okq q
  exact List.forall_mem_append.mpr ⟨lw_r1, List.forall_mem_append.mpr ⟨lw_r2, List.forall_mem_append.mpr ⟨lw_r3, List.forall_mem_append.mpr ⟨lw_r4, List.forall_mem_append.mpr ⟨lw_r5, lw_r6⟩⟩⟩⟩⟩

/-! names, fields, types, code: from the task's printed table -/
def RX0 : String := "ExemptBeauty$Actor"
def TX0 : u_T := fun k => match k with
  | 0 => ("ExemptBeauty$Actor", "bodies", "[I", true)
  | _ => ("ExemptBeauty$Actor", "ran", "I", false)
def tyX0 : Nat → FieldType := fun k => match k with
  | 0 => .array .int
  | _ => .int
theorem nmX0 : ∀ a, a < 2 → ∀ b, b < 2 → a ≠ b → (TX0 a).2.1 ≠ (TX0 b).2.1 := by decide +kernel
theorem tyX0_ok : ∀ k, k < 2 → parseFieldDescriptor (TX0 k).2.2.1 = some (tyX0 k) := by decide +kernel
def RX1 : String := "ExemptBeauty$Asker"
def TX1 : u_T := fun k => match k with
  | 0 => ("ExemptBeauty$Asker", "guess", "LExemptBeauty$Person;", true)
  | 1 => ("ExemptBeauty$Asker", "least", "[I", true)
  | 2 => ("ExemptBeauty$Asker", "who", "[I", true)
  | 3 => ("ExemptBeauty$Asker", "costs", "[I", true)
  | 4 => ("ExemptBeauty$Asker", "fines", "[I", true)
  | _ => ("ExemptBeauty$Asker", "looked", "[I", true)
def tyX1 : Nat → FieldType := fun k => match k with
  | 0 => .object "ExemptBeauty$Person"
  | 1 => .array .int
  | 2 => .array .int
  | 3 => .array .int
  | 4 => .array .int
  | _ => .array .int
theorem nmX1 : ∀ a, a < 6 → ∀ b, b < 6 → a ≠ b → (TX1 a).2.1 ≠ (TX1 b).2.1 := by decide +kernel
theorem tyX1_ok : ∀ k, k < 6 → parseFieldDescriptor (TX1 k).2.2.1 = some (tyX1 k) := by decide +kernel
def RX2 : String := "ExemptBeauty$Office"
def TX2 : u_T := fun k => match k with
  | 0 => ("ExemptBeauty$Office", "taste", "I", false)
  | 1 => ("ExemptBeauty$Office", "light", "I", false)
  | 2 => ("ExemptBeauty$Office", "rate", "I", false)
  | 3 => ("ExemptBeauty$Office", "weights", "[I", true)
  | 4 => ("ExemptBeauty$Office", "ends", "[I", true)
  | 5 => ("ExemptBeauty$Office", "wishes", "I", false)
  | 6 => ("ExemptBeauty$Office", "code", "[I", true)
  | _ => ("ExemptBeauty$Office", "length", "I", false)
def tyX2 : Nat → FieldType := fun k => match k with
  | 0 => .int
  | 1 => .int
  | 2 => .int
  | 3 => .array .int
  | 4 => .array .int
  | 5 => .int
  | 6 => .array .int
  | _ => .int
theorem nmX2 : ∀ a, a < 8 → ∀ b, b < 8 → a ≠ b → (TX2 a).2.1 ≠ (TX2 b).2.1 := by decide +kernel
theorem tyX2_ok : ∀ k, k < 8 → parseFieldDescriptor (TX2 k).2.2.1 = some (tyX2 k) := by decide +kernel
def RX3 : String := "ExemptBeauty$Person"
def TX3 : u_T := fun k => match k with
  | 0 => ("ExemptBeauty$Person", "number", "I", false)
  | 1 => ("ExemptBeauty$Person", "kind", "I", false)
  | 2 => ("ExemptBeauty$Person", "v", "I", false)
  | 3 => ("ExemptBeauty$Person", "age", "I", false)
  | 4 => ("ExemptBeauty$Person", "isGone", "Z", false)
  | 5 => ("ExemptBeauty$Person", "graces", "[I", true)
  | _ => ("ExemptBeauty$Person", "row", "[I", true)
def tyX3 : Nat → FieldType := fun k => match k with
  | 0 => .int
  | 1 => .int
  | 2 => .int
  | 3 => .int
  | 4 => .boolean
  | 5 => .array .int
  | _ => .array .int
theorem nmX3 : ∀ a, a < 7 → ∀ b, b < 7 → a ≠ b → (TX3 a).2.1 ≠ (TX3 b).2.1 := by decide +kernel
theorem tyX3_ok : ∀ k, k < 7 → parseFieldDescriptor (TX3 k).2.2.1 = some (tyX3 k) := by decide +kernel
def RX4 : String := "ExemptBeauty$Reader"
def TX4 : u_T := fun k => match k with
  | 0 => ("ExemptBeauty$Reader", "text", "[I", true)
  | 1 => ("ExemptBeauty$Reader", "length", "I", false)
  | 2 => ("ExemptBeauty$Reader", "at", "I", false)
  | 3 => ("ExemptBeauty$Reader", "sign", "I", false)
  | _ => ("ExemptBeauty$Reader", "made", "LExemptBeauty$Office;", false)
def tyX4 : Nat → FieldType := fun k => match k with
  | 0 => .array .int
  | 1 => .int
  | 2 => .int
  | 3 => .int
  | _ => .object "ExemptBeauty$Office"
theorem nmX4 : ∀ a, a < 5 → ∀ b, b < 5 → a ≠ b → (TX4 a).2.1 ≠ (TX4 b).2.1 := by decide +kernel
theorem tyX4_ok : ∀ k, k < 5 → parseFieldDescriptor (TX4 k).2.2.1 = some (tyX4 k) := by decide +kernel
def RX5 : String := "ExemptBeauty$Rows"
def TX5 : u_T := fun k => match k with
  | 0 => ("ExemptBeauty$Rows", "most", "I", true)
  | 1 => ("ExemptBeauty$Rows", "cells", "[I", true)
  | _ => ("ExemptBeauty$Rows", "size", "I", false)
def tyX5 : Nat → FieldType := fun k => match k with
  | 0 => .int
  | 1 => .array .int
  | _ => .int
theorem nmX5 : ∀ a, a < 3 → ∀ b, b < 3 → a ≠ b → (TX5 a).2.1 ≠ (TX5 b).2.1 := by decide +kernel
theorem tyX5_ok : ∀ k, k < 3 → parseFieldDescriptor (TX5 k).2.2.1 = some (tyX5 k) := by decide +kernel
def RX6 : String := "ExemptBeauty$Tape"
def TX6 : u_T := fun k => match k with
  | 0 => ("ExemptBeauty$Tape", "sort", "I", false)
  | 1 => ("ExemptBeauty$Tape", "length", "I", false)
  | _ => ("ExemptBeauty$Tape", "items", "[J", true)
def tyX6 : Nat → FieldType := fun k => match k with
  | 0 => .int
  | 1 => .int
  | _ => .array .long
theorem nmX6 : ∀ a, a < 3 → ∀ b, b < 3 → a ≠ b → (TX6 a).2.1 ≠ (TX6 b).2.1 := by decide +kernel
theorem tyX6_ok : ∀ k, k < 3 → parseFieldDescriptor (TX6 k).2.2.1 = some (tyX6 k) := by decide +kernel
def RX7 : String := "ExemptBeauty$Town"
def TX7 : u_T := fun k => match k with
  | 0 => ("ExemptBeauty$Town", "people", "[LExemptBeauty$Person;", true)
  | 1 => ("ExemptBeauty$Town", "size", "I", false)
  | 2 => ("ExemptBeauty$Town", "hour", "I", false)
  | 3 => ("ExemptBeauty$Town", "year", "I", false)
  | 4 => ("ExemptBeauty$Town", "holds", "I", false)
  | 5 => ("ExemptBeauty$Town", "looks", "LExemptBeauty$Rows;", true)
  | 6 => ("ExemptBeauty$Town", "plan", "LExemptBeauty$Rows;", true)
  | _ => ("ExemptBeauty$Town", "book", "LExemptBeauty$Rows;", true)
def tyX7 : Nat → FieldType := fun k => match k with
  | 0 => .array (.object "ExemptBeauty$Person")
  | 1 => .int
  | 2 => .int
  | 3 => .int
  | 4 => .int
  | 5 => .object "ExemptBeauty$Rows"
  | 6 => .object "ExemptBeauty$Rows"
  | _ => .object "ExemptBeauty$Rows"
theorem nmX7 : ∀ a, a < 8 → ∀ b, b < 8 → a ≠ b → (TX7 a).2.1 ≠ (TX7 b).2.1 := by decide +kernel
theorem tyX7_ok : ∀ k, k < 8 → parseFieldDescriptor (TX7 k).2.2.1 = some (tyX7 k) := by decide +kernel
def RX8 : String := "ExemptBeauty"
def TX8 : u_T := fun k => match k with
  | 0 => ("ExemptBeauty", "now", "LExemptBeauty$Town;", true)
  | 1 => ("ExemptBeauty", "kept", "LExemptBeauty$Town;", true)
  | 2 => ("ExemptBeauty", "isKept", "Z", false)
  | 3 => ("ExemptBeauty", "blank", "LExemptBeauty$Office;", true)
  | 4 => ("ExemptBeauty", "offices", "[LExemptBeauty$Office;", true)
  | 5 => ("ExemptBeauty", "officeCount", "I", false)
  | 6 => ("ExemptBeauty", "reader", "LExemptBeauty$Reader;", true)
  | 7 => ("ExemptBeauty", "asker", "LExemptBeauty$Asker;", true)
  | 8 => ("ExemptBeauty", "actor", "LExemptBeauty$Actor;", true)
  | _ => ("ExemptBeauty", "tapes", "[LExemptBeauty$Tape;", true)
def tyX8 : Nat → FieldType := fun k => match k with
  | 0 => .object "ExemptBeauty$Town"
  | 1 => .object "ExemptBeauty$Town"
  | 2 => .boolean
  | 3 => .object "ExemptBeauty$Office"
  | 4 => .array (.object "ExemptBeauty$Office")
  | 5 => .int
  | 6 => .object "ExemptBeauty$Reader"
  | 7 => .object "ExemptBeauty$Asker"
  | 8 => .object "ExemptBeauty$Actor"
  | _ => .array (.object "ExemptBeauty$Tape")
theorem nmX8 : ∀ a, a < 10 → ∀ b, b < 10 → a ≠ b → (TX8 a).2.1 ≠ (TX8 b).2.1 := by decide +kernel
theorem tyX8_ok : ∀ k, k < 10 → parseFieldDescriptor (TX8 k).2.2.1 = some (tyX8 k) := by decide +kernel
def RX9 : String := "ExemptBeautyModel"
def TX9 : u_T := fun k => match k with
  | 0 => ("ExemptBeautyModel", "people", "I", false)
  | 1 => ("ExemptBeautyModel", "gone", "I", false)
  | 2 => ("ExemptBeautyModel", "clock", "I", false)
  | 3 => ("ExemptBeautyModel", "years", "I", false)
  | 4 => ("ExemptBeautyModel", "kind", "[I", true)
  | 5 => ("ExemptBeautyModel", "v", "[I", true)
  | 6 => ("ExemptBeautyModel", "age", "[I", true)
  | 7 => ("ExemptBeautyModel", "graceOf", "[I", true)
  | 8 => ("ExemptBeautyModel", "rows", "[I", true)
  | 9 => ("ExemptBeautyModel", "offices", "I", false)
  | 10 => ("ExemptBeautyModel", "the", "I", false)
  | 11 => ("ExemptBeautyModel", "fed", "I", false)
  | 12 => ("ExemptBeautyModel", "at", "I", false)
  | 13 => ("ExemptBeautyModel", "digits", "I", false)
  | 14 => ("ExemptBeautyModel", "text", "[I", true)
  | 15 => ("ExemptBeautyModel", "clauses", "[I", true)
  | 16 => ("ExemptBeautyModel", "word", "[I", true)
  | 17 => ("ExemptBeautyModel", "number", "[I", true)
  | 18 => ("ExemptBeautyModel", "from", "[I", true)
  | 19 => ("ExemptBeautyModel", "to", "[I", true)
  | 20 => ("ExemptBeautyModel", "sign", "[I", true)
  | 21 => ("ExemptBeautyModel", "waits", "[I", true)
  | 22 => ("ExemptBeautyModel", "signs", "I", false)
  | 23 => ("ExemptBeautyModel", "waiting", "I", false)
  | 24 => ("ExemptBeautyModel", "open", "I", false)
  | 25 => ("ExemptBeautyModel", "letters", "[I", true)
  | 26 => ("ExemptBeautyModel", "tasteInMind", "I", false)
  | 27 => ("ExemptBeautyModel", "pile", "[Z", true)
  | 28 => ("ExemptBeautyModel", "keptGone", "I", false)
  | 29 => ("ExemptBeautyModel", "keptClock", "I", false)
  | 30 => ("ExemptBeautyModel", "keptYears", "I", false)
  | 31 => ("ExemptBeautyModel", "keptAge", "[I", true)
  | 32 => ("ExemptBeautyModel", "keptGrace", "[I", true)
  | 33 => ("ExemptBeautyModel", "cost", "[I", true)
  | 34 => ("ExemptBeautyModel", "turn", "[I", true)
  | 35 => ("ExemptBeautyModel", "bestTurn", "[I", true)
  | 36 => ("ExemptBeautyModel", "there", "I", false)
  | 37 => ("ExemptBeautyModel", "both", "[I", true)
  | 38 => ("ExemptBeautyModel", "alone", "[I", true)
  | 39 => ("ExemptBeautyModel", "partner", "[I", true)
  | 40 => ("ExemptBeautyModel", "bestPartner", "[I", true)
  | 41 => ("ExemptBeautyModel", "looks", "I", false)
  | 42 => ("ExemptBeautyModel", "lookWho", "[I", true)
  | 43 => ("ExemptBeautyModel", "lookPart", "[I", true)
  | 44 => ("ExemptBeautyModel", "lookWhen", "[I", true)
  | 45 => ("ExemptBeautyModel", "lookOff", "[Z", true)
  | 46 => ("ExemptBeautyModel", "plans", "I", false)
  | 47 => ("ExemptBeautyModel", "books", "I", false)
  | 48 => ("ExemptBeautyModel", "planWhat", "[I", true)
  | 49 => ("ExemptBeautyModel", "planNumber", "[I", true)
  | 50 => ("ExemptBeautyModel", "bookWho", "[I", true)
  | 51 => ("ExemptBeautyModel", "bookPays", "[I", true)
  | 52 => ("ExemptBeautyModel", "hasImage", "Z", false)
  | 53 => ("ExemptBeautyModel", "imageThe", "I", false)
  | 54 => ("ExemptBeautyModel", "imagePeople", "I", false)
  | 55 => ("ExemptBeautyModel", "imageGone", "I", false)
  | 56 => ("ExemptBeautyModel", "imageClock", "I", false)
  | 57 => ("ExemptBeautyModel", "imageYears", "I", false)
  | 58 => ("ExemptBeautyModel", "imageLooks", "I", false)
  | 59 => ("ExemptBeautyModel", "imagePlans", "I", false)
  | 60 => ("ExemptBeautyModel", "imageBooks", "I", false)
  | 61 => ("ExemptBeautyModel", "imageKind", "[I", true)
  | 62 => ("ExemptBeautyModel", "imageV", "[I", true)
  | 63 => ("ExemptBeautyModel", "imageAge", "[I", true)
  | 64 => ("ExemptBeautyModel", "imageGrace", "[I", true)
  | 65 => ("ExemptBeautyModel", "imageRows", "[I", true)
  | 66 => ("ExemptBeautyModel", "imageWho", "[I", true)
  | 67 => ("ExemptBeautyModel", "imagePart", "[I", true)
  | 68 => ("ExemptBeautyModel", "imageWhen", "[I", true)
  | 69 => ("ExemptBeautyModel", "imageWhat", "[I", true)
  | 70 => ("ExemptBeautyModel", "imageNumber", "[I", true)
  | 71 => ("ExemptBeautyModel", "imageBookWho", "[I", true)
  | 72 => ("ExemptBeautyModel", "imageBookPays", "[I", true)
  | 73 => ("ExemptBeautyModel", "imageOff", "[Z", true)
  | 74 => ("ExemptBeautyModel", "ran", "I", false)
  | 75 => ("ExemptBeautyModel", "bodies", "[I", true)
  | 76 => ("ExemptBeautyModel", "sort", "[I", true)
  | 77 => ("ExemptBeautyModel", "length", "[I", true)
  | 78 => ("ExemptBeautyModel", "item", "[J", true)
  | _ => ("ExemptBeautyModel", "aside", "[J", true)
def tyX9 : Nat → FieldType := fun k => match k with
  | 0 => .int
  | 1 => .int
  | 2 => .int
  | 3 => .int
  | 4 => .array .int
  | 5 => .array .int
  | 6 => .array .int
  | 7 => .array .int
  | 8 => .array .int
  | 9 => .int
  | 10 => .int
  | 11 => .int
  | 12 => .int
  | 13 => .int
  | 14 => .array .int
  | 15 => .array .int
  | 16 => .array .int
  | 17 => .array .int
  | 18 => .array .int
  | 19 => .array .int
  | 20 => .array .int
  | 21 => .array .int
  | 22 => .int
  | 23 => .int
  | 24 => .int
  | 25 => .array .int
  | 26 => .int
  | 27 => .array .boolean
  | 28 => .int
  | 29 => .int
  | 30 => .int
  | 31 => .array .int
  | 32 => .array .int
  | 33 => .array .int
  | 34 => .array .int
  | 35 => .array .int
  | 36 => .int
  | 37 => .array .int
  | 38 => .array .int
  | 39 => .array .int
  | 40 => .array .int
  | 41 => .int
  | 42 => .array .int
  | 43 => .array .int
  | 44 => .array .int
  | 45 => .array .boolean
  | 46 => .int
  | 47 => .int
  | 48 => .array .int
  | 49 => .array .int
  | 50 => .array .int
  | 51 => .array .int
  | 52 => .boolean
  | 53 => .int
  | 54 => .int
  | 55 => .int
  | 56 => .int
  | 57 => .int
  | 58 => .int
  | 59 => .int
  | 60 => .int
  | 61 => .array .int
  | 62 => .array .int
  | 63 => .array .int
  | 64 => .array .int
  | 65 => .array .int
  | 66 => .array .int
  | 67 => .array .int
  | 68 => .array .int
  | 69 => .array .int
  | 70 => .array .int
  | 71 => .array .int
  | 72 => .array .int
  | 73 => .array .boolean
  | 74 => .int
  | 75 => .array .int
  | 76 => .array .int
  | 77 => .array .int
  | 78 => .array .long
  | _ => .array .long
theorem nmX9 : ∀ a, a < 80 → ∀ b, b < 80 → a ≠ b → (TX9 a).2.1 ≠ (TX9 b).2.1 := by decide +kernel
theorem tyX9_ok : ∀ k, k < 80 → parseFieldDescriptor (TX9 k).2.2.1 = some (tyX9 k) := by decide +kernel
def RJ0 : String := "java/lang/String"
def RJ1 : String := "java/lang/StringLatin1"
def RJ6 : String := "java/lang/Integer"
def RJ7 : String := "java/util/Arrays"
abbrev cX0_init : ByteArray := prog_2_method_1_code
def yX0_init : MethodName := ⟨RX0, "<init>", "()V"⟩
abbrev cX0_forget : ByteArray := prog_2_method_2_code
def yX0_forget : MethodName := ⟨RX0, "forget", "()V"⟩
abbrev cX0_begin : ByteArray := prog_2_method_3_code
def yX0_begin : MethodName := ⟨RX0, "begin", "(LExemptBeauty$Person;II)I"⟩
abbrev cX0_perform : ByteArray := prog_2_method_4_code
def yX0_perform : MethodName := ⟨RX0, "perform", "(LExemptBeauty$Person;IIII)I"⟩
abbrev cX0_run : ByteArray := prog_2_method_5_code
def yX0_run : MethodName := ⟨RX0, "run", "(LExemptBeauty$Person;III)I"⟩
abbrev cX1_init : ByteArray := prog_3_method_1_code
def yX1_init : MethodName := ⟨RX1, "<init>", "()V"⟩
abbrev cX1_older : ByteArray := prog_3_method_2_code
def yX1_older : MethodName := ⟨RX1, "older", "(LExemptBeauty$Person;I)LExemptBeauty$Person;"⟩
abbrev cX1_bestHour : ByteArray := prog_3_method_3_code
def yX1_bestHour : MethodName := ⟨RX1, "bestHour", "(LExemptBeauty$Office;LExemptBeauty$Person;)I"⟩
abbrev cX1_firstRise : ByteArray := prog_3_method_4_code
def yX1_firstRise : MethodName := ⟨RX1, "firstRise", "(LExemptBeauty$Office;LExemptBeauty$Person;I)I"⟩
abbrev cX1_lineUp : ByteArray := prog_3_method_5_code
def yX1_lineUp : MethodName := ⟨RX1, "lineUp", "(LExemptBeauty$Town;LExemptBeauty$Office;)I"⟩
abbrev cX1_paidFrom : ByteArray := prog_3_method_6_code
def yX1_paidFrom : MethodName := ⟨RX1, "paidFrom", "(II)I"⟩
abbrev cX1_nextInLine : ByteArray := prog_3_method_7_code
def yX1_nextInLine : MethodName := ⟨RX1, "nextInLine", "(II)I"⟩
abbrev cX1_inLine : ByteArray := prog_3_method_8_code
def yX1_inLine : MethodName := ⟨RX1, "inLine", "(II)I"⟩
abbrev cX1_fillFines : ByteArray := prog_3_method_9_code
def yX1_fillFines : MethodName := ⟨RX1, "fillFines", "(LExemptBeauty$Town;LExemptBeauty$Office;I)V"⟩
abbrev cX1_paidByTwo : ByteArray := prog_3_method_10_code
def yX1_paidByTwo : MethodName := ⟨RX1, "paidByTwo", "(LExemptBeauty$Office;II)I"⟩
abbrev cX1_partsBelow : ByteArray := prog_3_method_11_code
def yX1_partsBelow : MethodName := ⟨RX1, "partsBelow", "(LExemptBeauty$Town;I)I"⟩
abbrev cX1_pairUp : ByteArray := prog_3_method_12_code
def yX1_pairUp : MethodName := ⟨RX1, "pairUp", "(LExemptBeauty$Town;LExemptBeauty$Office;)I"⟩
abbrev cX1_firstFree : ByteArray := prog_3_method_13_code
def yX1_firstFree : MethodName := ⟨RX1, "firstFree", "(I)I"⟩
abbrev cX1_paidBehind : ByteArray := prog_3_method_14_code
def yX1_paidBehind : MethodName := ⟨RX1, "paidBehind", "(LExemptBeauty$Office;III)I"⟩
abbrev cX1_nextPartner : ByteArray := prog_3_method_15_code
def yX1_nextPartner : MethodName := ⟨RX1, "nextPartner", "(LExemptBeauty$Office;II)I"⟩
abbrev cX1_partner : ByteArray := prog_3_method_16_code
def yX1_partner : MethodName := ⟨RX1, "partner", "(LExemptBeauty$Office;II)I"⟩
abbrev cX1_fillLooks : ByteArray := prog_3_method_17_code
def yX1_fillLooks : MethodName := ⟨RX1, "fillLooks", "(LExemptBeauty$Town;LExemptBeauty$Office;)V"⟩
abbrev cX1_areLooksSo : ByteArray := prog_3_method_18_code
def yX1_areLooksSo : MethodName := ⟨RX1, "areLooksSo", "(LExemptBeauty$Rows;I)Z"⟩
abbrev cX1_areLooksSoBy : ByteArray := prog_3_method_19_code
def yX1_areLooksSoBy : MethodName := ⟨RX1, "areLooksSoBy", "(LExemptBeauty$Town;LExemptBeauty$Office;)Z"⟩
abbrev cX1_goByPlan : ByteArray := prog_3_method_20_code
def yX1_goByPlan : MethodName := ⟨RX1, "goByPlan", "(LExemptBeauty$Town;LExemptBeauty$Person;)I"⟩
abbrev cX2_init : ByteArray := prog_4_method_1_code
def yX2_init : MethodName := ⟨RX2, "<init>", "()V"⟩
abbrev cX2_clear : ByteArray := prog_4_method_2_code
def yX2_clear : MethodName := ⟨RX2, "clear", "()V"⟩
abbrev cX2_addCode : ByteArray := prog_4_method_3_code
def yX2_addCode : MethodName := ⟨RX2, "addCode", "(I)V"⟩
abbrev cX2_addWish : ByteArray := prog_4_method_4_code
def yX2_addWish : MethodName := ⟨RX2, "addWish", "(I)V"⟩
abbrev cX2_glow : ByteArray := prog_4_method_5_code
def yX2_glow : MethodName := ⟨RX2, "glow", "(I)I"⟩
abbrev cX2_fine : ByteArray := prog_4_method_6_code
def yX2_fine : MethodName := ⟨RX2, "fine", "(LExemptBeauty$Person;II)I"⟩
abbrev cX2_profile : ByteArray := prog_4_method_7_code
def yX2_profile : MethodName := ⟨RX2, "profile", "(II)I"⟩
abbrev cX2_hands : ByteArray := prog_4_method_8_code
def yX2_hands : MethodName := ⟨RX2, "hands", "(I)I"⟩
abbrev cX2_liking : ByteArray := prog_4_method_9_code
def yX2_liking : MethodName := ⟨RX2, "liking", "(LExemptBeauty$Person;II)I"⟩
abbrev cX2_holds : ByteArray := prog_4_method_10_code
def yX2_holds : MethodName := ⟨RX2, "holds", "(IILExemptBeauty$Person;II)Z"⟩
abbrev cX2_isSo : ByteArray := prog_4_method_11_code
def yX2_isSo : MethodName := ⟨RX2, "isSo", "(ILExemptBeauty$Person;II)Z"⟩
abbrev cX2_pays : ByteArray := prog_4_method_12_code
def yX2_pays : MethodName := ⟨RX2, "pays", "(LExemptBeauty$Person;I)I"⟩
abbrev cX2_partsLetOff : ByteArray := prog_4_method_13_code
def yX2_partsLetOff : MethodName := ⟨RX2, "partsLetOff", "(LExemptBeauty$Person;I)I"⟩
abbrev cX2_partToShow : ByteArray := prog_4_method_14_code
def yX2_partToShow : MethodName := ⟨RX2, "partToShow", "(LExemptBeauty$Person;I)I"⟩
abbrev cX3_init : ByteArray := prog_5_method_1_code
def yX3_init : MethodName := ⟨RX3, "<init>", "()V"⟩
abbrev cX3_begin : ByteArray := prog_5_method_2_code
def yX3_begin : MethodName := ⟨RX3, "begin", "(IIII)V"⟩
abbrev cX3_copyFrom : ByteArray := prog_5_method_3_code
def yX3_copyFrom : MethodName := ⟨RX3, "copyFrom", "(LExemptBeauty$Person;)V"⟩
abbrev cX3_growOlder : ByteArray := prog_5_method_4_code
def yX3_growOlder : MethodName := ⟨RX3, "growOlder", "(I)V"⟩
abbrev cX4_init : ByteArray := prog_6_method_1_code
def yX4_init : MethodName := ⟨RX4, "<init>", "()V"⟩
abbrev cX4_handOver : ByteArray := prog_6_method_2_code
def yX4_handOver : MethodName := ⟨RX4, "handOver", "()LExemptBeauty$Office;"⟩
abbrev cX4_readsOffice : ByteArray := prog_6_method_3_code
def yX4_readsOffice : MethodName := ⟨RX4, "readsOffice", "()Z"⟩
abbrev cX4_goTo : ByteArray := prog_6_method_4_code
def yX4_goTo : MethodName := ⟨RX4, "goTo", "(I)V"⟩
abbrev cX4_takes : ByteArray := prog_6_method_5_code
def yX4_takes : MethodName := ⟨RX4, "takes", "(C)Z"⟩
abbrev cX4_takesAll : ByteArray := prog_6_method_6_code
def yX4_takesAll : MethodName := ⟨RX4, "takesAll", "(Ljava/lang/String;)Z"⟩
abbrev cX4_readsClause : ByteArray := prog_6_method_7_code
def yX4_readsClause : MethodName := ⟨RX4, "readsClause", "()Z"⟩
abbrev cX4_readWord : ByteArray := prog_6_method_8_code
def yX4_readWord : MethodName := ⟨RX4, "readWord", "()I"⟩
abbrev cX4_readNumber : ByteArray := prog_6_method_9_code
def yX4_readNumber : MethodName := ⟨RX4, "readNumber", "()I"⟩
abbrev cX4_readsEither : ByteArray := prog_6_method_10_code
def yX4_readsEither : MethodName := ⟨RX4, "readsEither", "(I)Z"⟩
abbrev cX4_readsBoth : ByteArray := prog_6_method_11_code
def yX4_readsBoth : MethodName := ⟨RX4, "readsBoth", "(I)Z"⟩
abbrev cX4_readsPart : ByteArray := prog_6_method_12_code
def yX4_readsPart : MethodName := ⟨RX4, "readsPart", "(I)Z"⟩
abbrev cX4_readsTest : ByteArray := prog_6_method_13_code
def yX4_readsTest : MethodName := ⟨RX4, "readsTest", "()Z"⟩
abbrev cX5_init : ByteArray := prog_7_method_1_code
def yX5_init : MethodName := ⟨RX5, "<init>", "(I)V"⟩
abbrev cX5_isFull : ByteArray := prog_7_method_2_code
def yX5_isFull : MethodName := ⟨RX5, "isFull", "()Z"⟩
abbrev cX5_put : ByteArray := prog_7_method_3_code
def yX5_put : MethodName := ⟨RX5, "put", "(IIII)I"⟩
abbrev cX5_cell : ByteArray := prog_7_method_4_code
def yX5_cell : MethodName := ⟨RX5, "cell", "(II)I"⟩
abbrev cX5_copyFrom : ByteArray := prog_7_method_5_code
def yX5_copyFrom : MethodName := ⟨RX5, "copyFrom", "(LExemptBeauty$Rows;)V"⟩
abbrev cX6_init : ByteArray := prog_8_method_1_code
def yX6_init : MethodName := ⟨RX6, "<init>", "()V"⟩
abbrev cX6_become : ByteArray := prog_8_method_2_code
def yX6_become : MethodName := ⟨RX6, "become", "(II)V"⟩
abbrev cX6_fitted : ByteArray := prog_8_method_3_code
def yX6_fitted : MethodName := ⟨RX6, "fitted", "(J)J"⟩
abbrev cX7_init : ByteArray := prog_9_method_1_code
def yX7_init : MethodName := ⟨RX7, "<init>", "()V"⟩
abbrev cX7_copyFrom : ByteArray := prog_9_method_2_code
def yX7_copyFrom : MethodName := ⟨RX7, "copyFrom", "(LExemptBeauty$Town;)V"⟩
abbrev cX8_init : ByteArray := prog_1_method_1_code
def yX8_init : MethodName := ⟨RX8, "<init>", "()V"⟩
abbrev cX8_person : ByteArray := prog_1_method_2_code
def yX8_person : MethodName := ⟨RX8, "person", "(III)I"⟩
abbrev cX8_of : ByteArray := prog_1_method_3_code
def yX8_of : MethodName := ⟨RX8, "of", "(II)I"⟩
abbrev cX8_grace : ByteArray := prog_1_method_4_code
def yX8_grace : MethodName := ⟨RX8, "grace", "(III)I"⟩
abbrev cX8_leave : ByteArray := prog_1_method_5_code
def yX8_leave : MethodName := ⟨RX8, "leave", "(IZ)I"⟩
abbrev cX8_row : ByteArray := prog_1_method_6_code
def yX8_row : MethodName := ⟨RX8, "row", "(III)I"⟩
abbrev cX8_hour : ByteArray := prog_1_method_7_code
def yX8_hour : MethodName := ⟨RX8, "hour", "(I)I"⟩
abbrev cX8_feed : ByteArray := prog_1_method_8_code
def yX8_feed : MethodName := ⟨RX8, "feed", "(I)I"⟩
abbrev cX8_office : ByteArray := prog_1_method_9_code
def yX8_office : MethodName := ⟨RX8, "office", "()I"⟩
abbrev cX8_told : ByteArray := prog_1_method_10_code
def yX8_told : MethodName := ⟨RX8, "told", "(I)I"⟩
abbrev cX8_pass : ByteArray := prog_1_method_11_code
def yX8_pass : MethodName := ⟨RX8, "pass", "(I)I"⟩
abbrev cX8_on : ByteArray := prog_1_method_12_code
def yX8_on : MethodName := ⟨RX8, "on", "(II)I"⟩
abbrev cX8_seenAt : ByteArray := prog_1_method_13_code
def yX8_seenAt : MethodName := ⟨RX8, "seenAt", "(II)I"⟩
abbrev cX8_when : ByteArray := prog_1_method_14_code
def yX8_when : MethodName := ⟨RX8, "when", "(II)I"⟩
abbrev cX8_line : ByteArray := prog_1_method_15_code
def yX8_line : MethodName := ⟨RX8, "line", "(I)I"⟩
abbrev cX8_jointly : ByteArray := prog_1_method_16_code
def yX8_jointly : MethodName := ⟨RX8, "jointly", "(II)I"⟩
abbrev cX8_pairs : ByteArray := prog_1_method_17_code
def yX8_pairs : MethodName := ⟨RX8, "pairs", "(I)I"⟩
abbrev cX8_raises : ByteArray := prog_1_method_18_code
def yX8_raises : MethodName := ⟨RX8, "raises", "(I)I"⟩
abbrev cX8_see : ByteArray := prog_1_method_19_code
def yX8_see : MethodName := ⟨RX8, "see", "(IIZI)I"⟩
abbrev cX8_tastes : ByteArray := prog_1_method_20_code
def yX8_tastes : MethodName := ⟨RX8, "tastes", "(I)I"⟩
abbrev cX8_graces : ByteArray := prog_1_method_21_code
def yX8_graces : MethodName := ⟨RX8, "graces", "(III)I"⟩
abbrev cX8_can : ByteArray := prog_1_method_22_code
def yX8_can : MethodName := ⟨RX8, "can", "(II)I"⟩
abbrev cX8_odds : ByteArray := prog_1_method_23_code
def yX8_odds : MethodName := ⟨RX8, "odds", "(III)J"⟩
abbrev cX8_mean : ByteArray := prog_1_method_24_code
def yX8_mean : MethodName := ⟨RX8, "mean", "(II)J"⟩
abbrev cX8_plan : ByteArray := prog_1_method_25_code
def yX8_plan : MethodName := ⟨RX8, "plan", "(II)I"⟩
abbrev cX8_ends : ByteArray := prog_1_method_26_code
def yX8_ends : MethodName := ⟨RX8, "ends", "(I)I"⟩
abbrev cX8_book : ByteArray := prog_1_method_27_code
def yX8_book : MethodName := ⟨RX8, "book", "(II)I"⟩
abbrev cX8_looked : ByteArray := prog_1_method_28_code
def yX8_looked : MethodName := ⟨RX8, "looked", "()I"⟩
abbrev cX8_judge : ByteArray := prog_1_method_29_code
def yX8_judge : MethodName := ⟨RX8, "judge", "(II)I"⟩
abbrev cX8_image : ByteArray := prog_1_method_30_code
def yX8_image : MethodName := ⟨RX8, "image", "()I"⟩
abbrev cX8_undo : ByteArray := prog_1_method_31_code
def yX8_undo : MethodName := ⟨RX8, "undo", "()I"⟩
abbrev cX8_act : ByteArray := prog_1_method_32_code
def yX8_act : MethodName := ⟨RX8, "act", "(III)I"⟩
abbrev cX8_trace : ByteArray := prog_1_method_33_code
def yX8_trace : MethodName := ⟨RX8, "trace", "(I)I"⟩
abbrev cX8_taken : ByteArray := prog_1_method_34_code
def yX8_taken : MethodName := ⟨RX8, "taken", "(II)I"⟩
abbrev cX8_count : ByteArray := prog_1_method_35_code
def yX8_count : MethodName := ⟨RX8, "count", "(I)I"⟩
abbrev cX8_tape : ByteArray := prog_1_method_36_code
def yX8_tape : MethodName := ⟨RX8, "tape", "(III)I"⟩
abbrev cX8_item : ByteArray := prog_1_method_37_code
def yX8_item : MethodName := ⟨RX8, "item", "(IIJ)I"⟩
abbrev cX8_read : ByteArray := prog_1_method_38_code
def yX8_read : MethodName := ⟨RX8, "read", "(II)J"⟩
abbrev cX8_shift : ByteArray := prog_1_method_39_code
def yX8_shift : MethodName := ⟨RX8, "shift", "(IIIII)I"⟩
abbrev cX8_isPerson : ByteArray := prog_1_method_40_code
def yX8_isPerson : MethodName := ⟨RX8, "isPerson", "(I)Z"⟩
abbrev cX8_isPart : ByteArray := prog_1_method_41_code
def yX8_isPart : MethodName := ⟨RX8, "isPart", "(I)Z"⟩
abbrev cX8_isHour : ByteArray := prog_1_method_42_code
def yX8_isHour : MethodName := ⟨RX8, "isHour", "(I)Z"⟩
abbrev cX8_isYears : ByteArray := prog_1_method_43_code
def yX8_isYears : MethodName := ⟨RX8, "isYears", "(I)Z"⟩
abbrev cX8_isTape : ByteArray := prog_1_method_44_code
def yX8_isTape : MethodName := ⟨RX8, "isTape", "(I)Z"⟩
abbrev cX8_isChoice : ByteArray := prog_1_method_45_code
def yX8_isChoice : MethodName := ⟨RX8, "isChoice", "(I)Z"⟩
abbrev cX8_isUnder : ByteArray := prog_1_method_46_code
def yX8_isUnder : MethodName := ⟨RX8, "isUnder", "(II)Z"⟩
abbrev cX8_holding : ByteArray := prog_1_method_47_code
def yX8_holding : MethodName := ⟨RX8, "holding", "()LExemptBeauty$Office;"⟩
abbrev cX8_paidByAll : ByteArray := prog_1_method_48_code
def yX8_paidByAll : MethodName := ⟨RX8, "paidByAll", "(I)I"⟩
abbrev cX8_sideOfFraction : ByteArray := prog_1_method_49_code
def yX8_sideOfFraction : MethodName := ⟨RX8, "sideOfFraction", "(III)J"⟩
abbrev cX9_init : ByteArray := prog_11_method_1_code
def yX9_init : MethodName := ⟨RX9, "<init>", "()V"⟩
abbrev cX9_in : ByteArray := prog_11_method_2_code
def yX9_in : MethodName := ⟨RX9, "in", "(III)Z"⟩
abbrev cX9_has : ByteArray := prog_11_method_3_code
def yX9_has : MethodName := ⟨RX9, "has", "(II)Z"⟩
abbrev cX9_least : ByteArray := prog_11_method_4_code
def yX9_least : MethodName := ⟨RX9, "least", "(II)I"⟩
abbrev cX9_isPerson : ByteArray := prog_11_method_5_code
def yX9_isPerson : MethodName := ⟨RX9, "isPerson", "(I)Z"⟩
abbrev cX9_isPart : ByteArray := prog_11_method_6_code
def yX9_isPart : MethodName := ⟨RX9, "isPart", "(I)Z"⟩
abbrev cX9_isHour : ByteArray := prog_11_method_7_code
def yX9_isHour : MethodName := ⟨RX9, "isHour", "(I)Z"⟩
abbrev cX9_isYears : ByteArray := prog_11_method_8_code
def yX9_isYears : MethodName := ⟨RX9, "isYears", "(I)Z"⟩
abbrev cX9_person : ByteArray := prog_11_method_9_code
def yX9_person : MethodName := ⟨RX9, "person", "(III)I"⟩
abbrev cX9_grace : ByteArray := prog_11_method_10_code
def yX9_grace : MethodName := ⟨RX9, "grace", "(III)I"⟩
abbrev cX9_goes : ByteArray := prog_11_method_11_code
def yX9_goes : MethodName := ⟨RX9, "goes", "(IZ)V"⟩
abbrev cX9_leave : ByteArray := prog_11_method_12_code
def yX9_leave : MethodName := ⟨RX9, "leave", "(IZ)I"⟩
abbrev cX9_row : ByteArray := prog_11_method_13_code
def yX9_row : MethodName := ⟨RX9, "row", "(III)I"⟩
abbrev cX9_hour : ByteArray := prog_11_method_14_code
def yX9_hour : MethodName := ⟨RX9, "hour", "(I)I"⟩
abbrev cX9_feed : ByteArray := prog_11_method_15_code
def yX9_feed : MethodName := ⟨RX9, "feed", "(I)I"⟩
abbrev cX9_next : ByteArray := prog_11_method_16_code
def yX9_next : MethodName := ⟨RX9, "next", "()I"⟩
abbrev cX9_takes : ByteArray := prog_11_method_17_code
def yX9_takes : MethodName := ⟨RX9, "takes", "(I)Z"⟩
abbrev cX9_takesWord : ByteArray := prog_11_method_18_code
def yX9_takesWord : MethodName := ⟨RX9, "takesWord", "(II)Z"⟩
abbrev cX9_isDigit : ByteArray := prog_11_method_19_code
def yX9_isDigit : MethodName := ⟨RX9, "isDigit", "()Z"⟩
abbrev cX9_takesNumber : ByteArray := prog_11_method_20_code
def yX9_takesNumber : MethodName := ⟨RX9, "takesNumber", "()Z"⟩
abbrev cX9_emits : ByteArray := prog_11_method_21_code
def yX9_emits : MethodName := ⟨RX9, "emits", "(I)V"⟩
abbrev cX9_whole : ByteArray := prog_11_method_22_code
def yX9_whole : MethodName := ⟨RX9, "whole", "()V"⟩
abbrev cX9_settle : ByteArray := prog_11_method_23_code
def yX9_settle : MethodName := ⟨RX9, "settle", "(I)V"⟩
abbrev cX9_place : ByteArray := prog_11_method_24_code
def yX9_place : MethodName := ⟨RX9, "place", "(I)I"⟩
abbrev cX9_takesTest : ByteArray := prog_11_method_25_code
def yX9_takesTest : MethodName := ⟨RX9, "takesTest", "()Z"⟩
abbrev cX9_takesE : ByteArray := prog_11_method_26_code
def yX9_takesE : MethodName := ⟨RX9, "takesE", "(I)Z"⟩
abbrev cX9_takesHead : ByteArray := prog_11_method_27_code
def yX9_takesHead : MethodName := ⟨RX9, "takesHead", "(I)Z"⟩
abbrev cX9_takesClause : ByteArray := prog_11_method_28_code
def yX9_takesClause : MethodName := ⟨RX9, "takesClause", "(I)Z"⟩
abbrev cX9_goesText : ByteArray := prog_11_method_29_code
def yX9_goesText : MethodName := ⟨RX9, "goesText", "(I)Z"⟩
abbrev cX9_office : ByteArray := prog_11_method_30_code
def yX9_office : MethodName := ⟨RX9, "office", "()I"⟩
abbrev cX9_begin : ByteArray := prog_11_method_31_code
def yX9_begin : MethodName := ⟨RX9, "begin", "()I"⟩
abbrev cX9_behind : ByteArray := prog_11_method_32_code
def yX9_behind : MethodName := ⟨RX9, "behind", "()I"⟩
abbrev cX9_lastOf : ByteArray := prog_11_method_33_code
def yX9_lastOf : MethodName := ⟨RX9, "lastOf", "(II)I"⟩
abbrev cX9_taste : ByteArray := prog_11_method_34_code
def yX9_taste : MethodName := ⟨RX9, "taste", "()I"⟩
abbrev cX9_light : ByteArray := prog_11_method_35_code
def yX9_light : MethodName := ⟨RX9, "light", "()I"⟩
abbrev cX9_rate : ByteArray := prog_11_method_36_code
def yX9_rate : MethodName := ⟨RX9, "rate", "()I"⟩
abbrev cX9_factOf : ByteArray := prog_11_method_37_code
def yX9_factOf : MethodName := ⟨RX9, "factOf", "(III)I"⟩
abbrev cX9_holds : ByteArray := prog_11_method_38_code
def yX9_holds : MethodName := ⟨RX9, "holds", "(III)Z"⟩
abbrev cX9_liking : ByteArray := prog_11_method_39_code
def yX9_liking : MethodName := ⟨RX9, "liking", "(II)I"⟩
abbrev cX9_glow : ByteArray := prog_11_method_40_code
def yX9_glow : MethodName := ⟨RX9, "glow", "()I"⟩
abbrev cX9_fine : ByteArray := prog_11_method_41_code
def yX9_fine : MethodName := ⟨RX9, "fine", "(II)I"⟩
abbrev cX9_isOff : ByteArray := prog_11_method_42_code
def yX9_isOff : MethodName := ⟨RX9, "isOff", "(II)Z"⟩
abbrev cX9_offSet : ByteArray := prog_11_method_43_code
def yX9_offSet : MethodName := ⟨RX9, "offSet", "(I)I"⟩
abbrev cX9_offMany : ByteArray := prog_11_method_44_code
def yX9_offMany : MethodName := ⟨RX9, "offMany", "(I)I"⟩
abbrev cX9_pays : ByteArray := prog_11_method_45_code
def yX9_pays : MethodName := ⟨RX9, "pays", "(I)I"⟩
abbrev cX9_allPay : ByteArray := prog_11_method_46_code
def yX9_allPay : MethodName := ⟨RX9, "allPay", "()I"⟩
abbrev cX9_show : ByteArray := prog_11_method_47_code
def yX9_show : MethodName := ⟨RX9, "show", "(I)I"⟩
abbrev cX9_of : ByteArray := prog_11_method_48_code
def yX9_of : MethodName := ⟨RX9, "of", "(II)I"⟩
abbrev cX9_told : ByteArray := prog_11_method_49_code
def yX9_told : MethodName := ⟨RX9, "told", "(I)I"⟩
abbrev cX9_goYear : ByteArray := prog_11_method_50_code
def yX9_goYear : MethodName := ⟨RX9, "goYear", "()V"⟩
abbrev cX9_goYears : ByteArray := prog_11_method_51_code
def yX9_goYears : MethodName := ⟨RX9, "goYears", "(I)V"⟩
abbrev cX9_pass : ByteArray := prog_11_method_52_code
def yX9_pass : MethodName := ⟨RX9, "pass", "(I)I"⟩
abbrev cX9_save : ByteArray := prog_11_method_53_code
def yX9_save : MethodName := ⟨RX9, "save", "()V"⟩
abbrev cX9_putBack : ByteArray := prog_11_method_54_code
def yX9_putBack : MethodName := ⟨RX9, "putBack", "()V"⟩
abbrev cX9_on : ByteArray := prog_11_method_55_code
def yX9_on : MethodName := ⟨RX9, "on", "(II)I"⟩
abbrev cX9_paysAt : ByteArray := prog_11_method_56_code
def yX9_paysAt : MethodName := ⟨RX9, "paysAt", "(II)I"⟩
abbrev cX9_seenAt : ByteArray := prog_11_method_57_code
def yX9_seenAt : MethodName := ⟨RX9, "seenAt", "(II)I"⟩
abbrev cX9_bestHour : ByteArray := prog_11_method_58_code
def yX9_bestHour : MethodName := ⟨RX9, "bestHour", "(I)I"⟩
abbrev cX9_rises : ByteArray := prog_11_method_59_code
def yX9_rises : MethodName := ⟨RX9, "rises", "(I)I"⟩
abbrev cX9_when : ByteArray := prog_11_method_60_code
def yX9_when : MethodName := ⟨RX9, "when", "(II)I"⟩
abbrev cX9_layCosts : ByteArray := prog_11_method_61_code
def yX9_layCosts : MethodName := ⟨RX9, "layCosts", "()V"⟩
abbrev cX9_layTurn : ByteArray := prog_11_method_62_code
def yX9_layTurn : MethodName := ⟨RX9, "layTurn", "(I)Z"⟩
abbrev cX9_line : ByteArray := prog_11_method_63_code
def yX9_line : MethodName := ⟨RX9, "line", "(I)I"⟩
abbrev cX9_jointlyOf : ByteArray := prog_11_method_64_code
def yX9_jointlyOf : MethodName := ⟨RX9, "jointlyOf", "(II)I"⟩
abbrev cX9_jointly : ByteArray := prog_11_method_65_code
def yX9_jointly : MethodName := ⟨RX9, "jointly", "(II)I"⟩
abbrev cX9_layPairs : ByteArray := prog_11_method_66_code
def yX9_layPairs : MethodName := ⟨RX9, "layPairs", "()V"⟩
abbrev cX9_firstBad : ByteArray := prog_11_method_67_code
def yX9_firstBad : MethodName := ⟨RX9, "firstBad", "()I"⟩
abbrev cX9_goesOn : ByteArray := prog_11_method_68_code
def yX9_goesOn : MethodName := ⟨RX9, "goesOn", "(I)Z"⟩
abbrev cX9_pairsCost : ByteArray := prog_11_method_69_code
def yX9_pairsCost : MethodName := ⟨RX9, "pairsCost", "()I"⟩
abbrev cX9_pairs : ByteArray := prog_11_method_70_code
def yX9_pairs : MethodName := ⟨RX9, "pairs", "(I)I"⟩
abbrev cX9_raises : ByteArray := prog_11_method_71_code
def yX9_raises : MethodName := ⟨RX9, "raises", "(I)I"⟩
abbrev cX9_see : ByteArray := prog_11_method_72_code
def yX9_see : MethodName := ⟨RX9, "see", "(IIZI)I"⟩
abbrev cX9_isLooked : ByteArray := prog_11_method_73_code
def yX9_isLooked : MethodName := ⟨RX9, "isLooked", "()Z"⟩
abbrev cX9_tastes : ByteArray := prog_11_method_74_code
def yX9_tastes : MethodName := ⟨RX9, "tastes", "(I)I"⟩
abbrev cX9_graces : ByteArray := prog_11_method_75_code
def yX9_graces : MethodName := ⟨RX9, "graces", "(III)I"⟩
abbrev cX9_can : ByteArray := prog_11_method_76_code
def yX9_can : MethodName := ⟨RX9, "can", "(II)I"⟩
abbrev cX9_divisor : ByteArray := prog_11_method_77_code
def yX9_divisor : MethodName := ⟨RX9, "divisor", "(II)I"⟩
abbrev cX9_lowest : ByteArray := prog_11_method_78_code
def yX9_lowest : MethodName := ⟨RX9, "lowest", "(III)J"⟩
abbrev cX9_odds : ByteArray := prog_11_method_79_code
def yX9_odds : MethodName := ⟨RX9, "odds", "(III)J"⟩
abbrev cX9_mean : ByteArray := prog_11_method_80_code
def yX9_mean : MethodName := ⟨RX9, "mean", "(II)J"⟩
abbrev cX9_plan : ByteArray := prog_11_method_81_code
def yX9_plan : MethodName := ⟨RX9, "plan", "(II)I"⟩
abbrev cX9_ends : ByteArray := prog_11_method_82_code
def yX9_ends : MethodName := ⟨RX9, "ends", "(I)I"⟩
abbrev cX9_book : ByteArray := prog_11_method_83_code
def yX9_book : MethodName := ⟨RX9, "book", "(II)I"⟩
abbrev cX9_looked : ByteArray := prog_11_method_84_code
def yX9_looked : MethodName := ⟨RX9, "looked", "()I"⟩
abbrev cX9_judge : ByteArray := prog_11_method_85_code
def yX9_judge : MethodName := ⟨RX9, "judge", "(II)I"⟩
abbrev cX9_image : ByteArray := prog_11_method_86_code
def yX9_image : MethodName := ⟨RX9, "image", "()I"⟩
abbrev cX9_undo : ByteArray := prog_11_method_87_code
def yX9_undo : MethodName := ⟨RX9, "undo", "()I"⟩
abbrev cX9_body : ByteArray := prog_11_method_88_code
def yX9_body : MethodName := ⟨RX9, "body", "(I)V"⟩
abbrev cX9_personShows : ByteArray := prog_11_method_89_code
def yX9_personShows : MethodName := ⟨RX9, "personShows", "(II)I"⟩
abbrev cX9_showsAct : ByteArray := prog_11_method_90_code
def yX9_showsAct : MethodName := ⟨RX9, "showsAct", "(II)I"⟩
abbrev cX9_personPays : ByteArray := prog_11_method_91_code
def yX9_personPays : MethodName := ⟨RX9, "personPays", "(II)I"⟩
abbrev cX9_fadingPays : ByteArray := prog_11_method_92_code
def yX9_fadingPays : MethodName := ⟨RX9, "fadingPays", "(II)I"⟩
abbrev cX9_paysAct : ByteArray := prog_11_method_93_code
def yX9_paysAct : MethodName := ⟨RX9, "paysAct", "(II)I"⟩
abbrev cX9_personTells : ByteArray := prog_11_method_94_code
def yX9_personTells : MethodName := ⟨RX9, "personTells", "(II)I"⟩
abbrev cX9_tellsAct : ByteArray := prog_11_method_95_code
def yX9_tellsAct : MethodName := ⟨RX9, "tellsAct", "(II)I"⟩
abbrev cX9_act : ByteArray := prog_11_method_96_code
def yX9_act : MethodName := ⟨RX9, "act", "(III)I"⟩
abbrev cX9_trace : ByteArray := prog_11_method_97_code
def yX9_trace : MethodName := ⟨RX9, "trace", "(I)I"⟩
abbrev cX9_taken : ByteArray := prog_11_method_98_code
def yX9_taken : MethodName := ⟨RX9, "taken", "(II)I"⟩
abbrev cX9_count : ByteArray := prog_11_method_99_code
def yX9_count : MethodName := ⟨RX9, "count", "(I)I"⟩
abbrev cX9_isTape : ByteArray := prog_11_method_100_code
def yX9_isTape : MethodName := ⟨RX9, "isTape", "(I)Z"⟩
abbrev cX9_tape : ByteArray := prog_11_method_101_code
def yX9_tape : MethodName := ⟨RX9, "tape", "(III)I"⟩
abbrev cX9_narrow : ByteArray := prog_11_method_102_code
def yX9_narrow : MethodName := ⟨RX9, "narrow", "(IJ)J"⟩
abbrev cX9_item : ByteArray := prog_11_method_103_code
def yX9_item : MethodName := ⟨RX9, "item", "(IIJ)I"⟩
abbrev cX9_read : ByteArray := prog_11_method_104_code
def yX9_read : MethodName := ⟨RX9, "read", "(II)J"⟩
abbrev cX9_shift : ByteArray := prog_11_method_105_code
def yX9_shift : MethodName := ⟨RX9, "shift", "(IIIII)I"⟩
abbrev cJ6_bitCount_0f7a4 : ByteArray := prog_12_method_49_code
def yJ6_bitCount_0f7a4 : MethodName := ⟨RJ6, "bitCount", "(I)I"⟩
abbrev cJ0_length_8abf5 : ByteArray := prog_14_method_54_code
def yJ0_length_8abf5 : MethodName := ⟨RJ0, "length", "()I"⟩
abbrev cJ0_charAt_5068e : ByteArray := prog_14_method_56_code
def yJ0_charAt_5068e : MethodName := ⟨RJ0, "charAt", "(I)C"⟩
abbrev cJ0_coder_7d493 : ByteArray := prog_14_method_152_code
def yJ0_coder_7d493 : MethodName := ⟨RJ0, "coder", "()B"⟩
abbrev cJ0_isLatin1_aae02 : ByteArray := prog_14_method_154_code
def yJ0_isLatin1_aae02 : MethodName := ⟨RJ0, "isLatin1", "()Z"⟩
abbrev cJ1_charAt_3b067 : ByteArray := prog_15_method_2_code
def yJ1_charAt_3b067 : MethodName := ⟨RJ1, "charAt", "([BI)C"⟩
abbrev cJ7_fill_d0a16 : ByteArray := prog_18_method_101_code
def yJ7_fill_d0a16 : MethodName := ⟨RJ7, "fill", "([JJ)V"⟩
abbrev cJ7_fill_53178 : ByteArray := prog_18_method_103_code
def yJ7_fill_53178 : MethodName := ⟨RJ7, "fill", "([II)V"⟩
def RL : String := "ExemptBeautyLaw"
abbrev vwCl : List vw_C := [(RX0, TX0, 2), (RX1, TX1, 6), (RX2, TX2, 8), (RX3, TX3, 7), (RX4, TX4, 5), (RX5, TX5, 3), (RX6, TX6, 3), (RX7, TX7, 8), (RX8, TX8, 10), (RX9, TX9, 80)]
def tyOf (ci : Nat) : Nat → FieldType := match ci with
  | 0 => tyX0
  | 1 => tyX1
  | 2 => tyX2
  | 3 => tyX3
  | 4 => tyX4
  | 5 => tyX5
  | 6 => tyX6
  | 7 => tyX7
  | 8 => tyX8
  | _ => tyX9
/-! the methods by number -/
def mNmL : List MethodName := [yX0_init, yX0_forget, yX0_begin, yX0_perform, yX0_run, yX1_init, yX1_older, yX1_bestHour, yX1_firstRise, yX1_lineUp, yX1_paidFrom, yX1_nextInLine, yX1_inLine, yX1_fillFines, yX1_paidByTwo, yX1_partsBelow, yX1_pairUp, yX1_firstFree, yX1_paidBehind, yX1_nextPartner, yX1_partner, yX1_fillLooks, yX1_areLooksSo, yX1_areLooksSoBy, yX1_goByPlan, yX2_init, yX2_clear, yX2_addCode, yX2_addWish, yX2_glow, yX2_fine, yX2_profile, yX2_hands, yX2_liking, yX2_holds, yX2_isSo, yX2_pays, yX2_partsLetOff, yX2_partToShow, yX3_init, yX3_begin, yX3_copyFrom, yX3_growOlder, yX4_init, yX4_handOver, yX4_readsOffice, yX4_goTo, yX4_takes, yX4_takesAll, yX4_readsClause, yX4_readWord, yX4_readNumber, yX4_readsEither, yX4_readsBoth, yX4_readsPart, yX4_readsTest, yX5_init, yX5_isFull, yX5_put, yX5_cell, yX5_copyFrom, yX6_init, yX6_become, yX6_fitted, yX7_init, yX7_copyFrom, yX8_init, yX8_person, yX8_of, yX8_grace, yX8_leave, yX8_row, yX8_hour, yX8_feed, yX8_office, yX8_told, yX8_pass, yX8_on, yX8_seenAt, yX8_when, yX8_line, yX8_jointly, yX8_pairs, yX8_raises, yX8_see, yX8_tastes, yX8_graces, yX8_can, yX8_odds, yX8_mean, yX8_plan, yX8_ends, yX8_book, yX8_looked, yX8_judge, yX8_image, yX8_undo, yX8_act, yX8_trace, yX8_taken, yX8_count, yX8_tape, yX8_item, yX8_read, yX8_shift, yX8_isPerson, yX8_isPart, yX8_isHour, yX8_isYears, yX8_isTape, yX8_isChoice, yX8_isUnder, yX8_holding, yX8_paidByAll, yX8_sideOfFraction, yX9_init, yX9_in, yX9_has, yX9_least, yX9_isPerson, yX9_isPart, yX9_isHour, yX9_isYears, yX9_person, yX9_grace, yX9_goes, yX9_leave, yX9_row, yX9_hour, yX9_feed, yX9_next, yX9_takes, yX9_takesWord, yX9_isDigit, yX9_takesNumber, yX9_emits, yX9_whole, yX9_settle, yX9_place, yX9_takesTest, yX9_takesE, yX9_takesHead, yX9_takesClause, yX9_goesText, yX9_office, yX9_begin, yX9_behind, yX9_lastOf, yX9_taste, yX9_light, yX9_rate, yX9_factOf, yX9_holds, yX9_liking, yX9_glow, yX9_fine, yX9_isOff, yX9_offSet, yX9_offMany, yX9_pays, yX9_allPay, yX9_show, yX9_of, yX9_told, yX9_goYear, yX9_goYears, yX9_pass, yX9_save, yX9_putBack, yX9_on, yX9_paysAt, yX9_seenAt, yX9_bestHour, yX9_rises, yX9_when, yX9_layCosts, yX9_layTurn, yX9_line, yX9_jointlyOf, yX9_jointly, yX9_layPairs, yX9_firstBad, yX9_goesOn, yX9_pairsCost, yX9_pairs, yX9_raises, yX9_see, yX9_isLooked, yX9_tastes, yX9_graces, yX9_can, yX9_divisor, yX9_lowest, yX9_odds, yX9_mean, yX9_plan, yX9_ends, yX9_book, yX9_looked, yX9_judge, yX9_image, yX9_undo, yX9_body, yX9_personShows, yX9_showsAct, yX9_personPays, yX9_fadingPays, yX9_paysAct, yX9_personTells, yX9_tellsAct, yX9_act, yX9_trace, yX9_taken, yX9_count, yX9_isTape, yX9_tape, yX9_narrow, yX9_item, yX9_read, yX9_shift, yJ6_bitCount_0f7a4, yJ0_length_8abf5, yJ0_charAt_5068e, yJ0_coder_7d493, yJ0_isLatin1_aae02, yJ1_charAt_3b067, yJ7_fill_d0a16, yJ7_fill_53178, x]
def mMaxL : List Nat := [1, 1, 4, 9, 5, 1, 3, 7, 7, 7, 3, 5, 6, 6, 7, 6, 6, 2, 5, 9, 8, 7, 4, 3, 6, 1, 1, 2, 2, 3, 6, 2, 1, 7, 10, 7, 3, 5, 7, 1, 5, 2, 3, 1, 2, 2, 2, 2, 3, 3, 1, 2, 3, 3, 2, 4, 2, 1, 6, 4, 2, 1, 3, 3, 2, 3, 2, 4, 5, 6, 4, 6, 3, 2, 2, 3, 3, 8, 3, 4, 3, 4, 3, 4, 5, 5, 9, 8, 7, 3, 3, 6, 3, 3, 5, 1, 1, 4, 2, 4, 2, 4, 6, 4, 8, 2, 1, 1, 1, 1, 1, 4, 2, 5, 7, 1, 4, 3, 3, 2, 2, 2, 2, 5, 5, 3, 4, 5, 3, 2, 1, 2, 4, 1, 2, 2, 1, 2, 2, 3, 4, 2, 2, 3, 2, 1, 1, 5, 1, 1, 1, 4, 9, 5, 3, 7, 3, 4, 4, 2, 3, 6, 3, 2, 2, 3, 2, 2, 2, 4, 5, 3, 4, 6, 3, 3, 5, 7, 5, 3, 3, 6, 4, 3, 7, 4, 5, 3, 5, 8, 7, 6, 5, 7, 5, 3, 4, 3, 2, 4, 2, 2, 2, 3, 3, 3, 3, 4, 3, 4, 4, 2, 4, 2, 2, 5, 4, 5, 3, 7, 1, 1, 2, 1, 1, 2, 5, 4, 4]
def mRetL : List (Option FieldType) := [none, none, (some .int), (some .int), (some .int), none, (some (.object "ExemptBeauty$Person")), (some .int), (some .int), (some .int), (some .int), (some .int), (some .int), none, (some .int), (some .int), (some .int), (some .int), (some .int), (some .int), (some .int), none, (some .boolean), (some .boolean), (some .int), none, none, none, none, (some .int), (some .int), (some .int), (some .int), (some .int), (some .boolean), (some .boolean), (some .int), (some .int), (some .int), none, none, none, none, none, (some (.object "ExemptBeauty$Office")), (some .boolean), none, (some .boolean), (some .boolean), (some .boolean), (some .int), (some .int), (some .boolean), (some .boolean), (some .boolean), (some .boolean), none, (some .boolean), (some .int), (some .int), none, none, none, (some .long), none, none, none, (some .int), (some .int), (some .int), (some .int), (some .int), (some .int), (some .int), (some .int), (some .int), (some .int), (some .int), (some .int), (some .int), (some .int), (some .int), (some .int), (some .int), (some .int), (some .int), (some .int), (some .int), (some .long), (some .long), (some .int), (some .int), (some .int), (some .int), (some .int), (some .int), (some .int), (some .int), (some .int), (some .int), (some .int), (some .int), (some .int), (some .long), (some .int), (some .boolean), (some .boolean), (some .boolean), (some .boolean), (some .boolean), (some .boolean), (some .boolean), (some (.object "ExemptBeauty$Office")), (some .int), (some .long), none, (some .boolean), (some .boolean), (some .int), (some .boolean), (some .boolean), (some .boolean), (some .boolean), (some .int), (some .int), none, (some .int), (some .int), (some .int), (some .int), (some .int), (some .boolean), (some .boolean), (some .boolean), (some .boolean), none, none, none, (some .int), (some .boolean), (some .boolean), (some .boolean), (some .boolean), (some .boolean), (some .int), (some .int), (some .int), (some .int), (some .int), (some .int), (some .int), (some .int), (some .boolean), (some .int), (some .int), (some .int), (some .boolean), (some .int), (some .int), (some .int), (some .int), (some .int), (some .int), (some .int), none, none, (some .int), none, none, (some .int), (some .int), (some .int), (some .int), (some .int), (some .int), none, (some .boolean), (some .int), (some .int), (some .int), none, (some .int), (some .boolean), (some .int), (some .int), (some .int), (some .int), (some .boolean), (some .int), (some .int), (some .int), (some .int), (some .long), (some .long), (some .long), (some .int), (some .int), (some .int), (some .int), (some .int), (some .int), (some .int), none, (some .int), (some .int), (some .int), (some .int), (some .int), (some .int), (some .int), (some .int), (some .int), (some .int), (some .int), (some .boolean), (some .int), (some .long), (some .int), (some .long), (some .int), (some .int), (some .int), (some .char), (some .byte), (some .boolean), (some .char), none, none, (some .boolean)]
def mBudL : List (Nat × Nat) := [(1, 20), (0, 0), (0, 0), (0, 0), (0, 0), (8, 165), (0, 0), (0, 0), (0, 0), (0, 0), (0, 0), (0, 0), (0, 0), (0, 0), (0, 0), (0, 0), (0, 0), (0, 0), (0, 0), (0, 0), (0, 0), (0, 0), (0, 0), (0, 0), (0, 0), (3, 120), (0, 0), (0, 0), (0, 0), (0, 0), (0, 0), (0, 0), (0, 0), (0, 0), (0, 0), (0, 0), (0, 0), (0, 0), (0, 0), (2, 10), (0, 0), (0, 0), (0, 0), (5, 228), (4, 128), (0, 0), (0, 0), (0, 0), (0, 0), (0, 0), (0, 0), (0, 0), (0, 0), (0, 0), (0, 0), (0, 0), (1, 40), (0, 0), (0, 0), (0, 0), (0, 0), (1, 60), (0, 0), (0, 0), (25, 237), (0, 0), (87, 1434), (0, 0), (0, 0), (0, 0), (0, 0), (0, 0), (0, 0), (0, 0), (4, 128), (0, 0), (0, 0), (0, 0), (0, 0), (0, 0), (0, 0), (0, 0), (0, 0), (0, 0), (0, 0), (0, 0), (0, 0), (0, 0), (0, 0), (0, 0), (0, 0), (0, 0), (0, 0), (0, 0), (0, 0), (0, 0), (0, 0), (0, 0), (0, 0), (0, 0), (0, 0), (0, 0), (0, 0), (0, 0), (0, 0), (0, 0), (0, 0), (0, 0), (0, 0), (0, 0), (0, 0), (0, 0), (0, 0), (0, 0), (0, 0), (50, 2041), (0, 0), (0, 0), (0, 0), (0, 0), (0, 0), (0, 0), (0, 0), (0, 0), (0, 0), (0, 0), (0, 0), (0, 0), (0, 0), (0, 0), (0, 0), (0, 0), (0, 0), (0, 0), (0, 0), (0, 0), (0, 0), (0, 0), (0, 0), (0, 0), (0, 0), (0, 0), (0, 0), (0, 0), (0, 0), (0, 0), (0, 0), (0, 0), (0, 0), (0, 0), (0, 0), (0, 0), (0, 0), (0, 0), (0, 0), (0, 0), (0, 0), (0, 0), (0, 0), (0, 0), (0, 0), (0, 0), (0, 0), (0, 0), (0, 0), (0, 0), (0, 0), (0, 0), (0, 0), (0, 0), (0, 0), (0, 0), (0, 0), (0, 0), (0, 0), (0, 0), (0, 0), (0, 0), (0, 0), (0, 0), (0, 0), (0, 0), (0, 0), (0, 0), (0, 0), (0, 0), (0, 0), (0, 0), (0, 0), (0, 0), (0, 0), (0, 0), (0, 0), (0, 0), (0, 0), (0, 0), (0, 0), (0, 0), (0, 0), (0, 0), (0, 0), (0, 0), (0, 0), (0, 0), (0, 0), (0, 0), (0, 0), (0, 0), (0, 0), (0, 0), (0, 0), (0, 0), (0, 0), (0, 0), (0, 0), (0, 0), (0, 0), (0, 0), (0, 0), (0, 0), (0, 0), (0, 0), (0, 0), (0, 0), (0, 0), (0, 0), (0, 0), (0, 0), (600000, 7302250)]
def mClsL : List Nat := [0, 0, 0, 0, 0, 1, 1, 1, 1, 1, 1, 1, 1, 1, 1, 1, 1, 1, 1, 1, 1, 1, 1, 1, 1, 2, 2, 2, 2, 2, 2, 2, 2, 2, 2, 2, 2, 2, 2, 3, 3, 3, 3, 4, 4, 4, 4, 4, 4, 4, 4, 4, 4, 4, 4, 4, 5, 5, 5, 5, 5, 6, 6, 6, 7, 7, 8, 8, 8, 8, 8, 8, 8, 8, 8, 8, 8, 8, 8, 8, 8, 8, 8, 8, 8, 8, 8, 8, 8, 8, 8, 8, 8, 8, 8, 8, 8, 8, 8, 8, 8, 8, 8, 8, 8, 8, 8, 8, 8, 8, 8, 8, 8, 8, 8, 9, 9, 9, 9, 9, 9, 9, 9, 9, 9, 9, 9, 9, 9, 9, 9, 9, 9, 9, 9, 9, 9, 9, 9, 9, 9, 9, 9, 9, 9, 9, 9, 9, 9, 9, 9, 9, 9, 9, 9, 9, 9, 9, 9, 9, 9, 9, 9, 9, 9, 9, 9, 9, 9, 9, 9, 9, 9, 9, 9, 9, 9, 9, 9, 9, 9, 9, 9, 9, 9, 9, 9, 9, 9, 9, 9, 9, 9, 9, 9, 9, 9, 9, 9, 9, 9, 9, 9, 9, 9, 9, 9, 9, 9, 9, 9, 9, 9, 9, 9, 9, 9, 9, 9, 9, 99, 60, 60, 60, 60, 99, 99, 99, 99]
def mBytesL : List ByteArray := [cX0_init, cX0_forget, cX0_begin, cX0_perform, cX0_run, cX1_init, cX1_older, cX1_bestHour, cX1_firstRise, cX1_lineUp, cX1_paidFrom, cX1_nextInLine, cX1_inLine, cX1_fillFines, cX1_paidByTwo, cX1_partsBelow, cX1_pairUp, cX1_firstFree, cX1_paidBehind, cX1_nextPartner, cX1_partner, cX1_fillLooks, cX1_areLooksSo, cX1_areLooksSoBy, cX1_goByPlan, cX2_init, cX2_clear, cX2_addCode, cX2_addWish, cX2_glow, cX2_fine, cX2_profile, cX2_hands, cX2_liking, cX2_holds, cX2_isSo, cX2_pays, cX2_partsLetOff, cX2_partToShow, cX3_init, cX3_begin, cX3_copyFrom, cX3_growOlder, cX4_init, cX4_handOver, cX4_readsOffice, cX4_goTo, cX4_takes, cX4_takesAll, cX4_readsClause, cX4_readWord, cX4_readNumber, cX4_readsEither, cX4_readsBoth, cX4_readsPart, cX4_readsTest, cX5_init, cX5_isFull, cX5_put, cX5_cell, cX5_copyFrom, cX6_init, cX6_become, cX6_fitted, cX7_init, cX7_copyFrom, cX8_init, cX8_person, cX8_of, cX8_grace, cX8_leave, cX8_row, cX8_hour, cX8_feed, cX8_office, cX8_told, cX8_pass, cX8_on, cX8_seenAt, cX8_when, cX8_line, cX8_jointly, cX8_pairs, cX8_raises, cX8_see, cX8_tastes, cX8_graces, cX8_can, cX8_odds, cX8_mean, cX8_plan, cX8_ends, cX8_book, cX8_looked, cX8_judge, cX8_image, cX8_undo, cX8_act, cX8_trace, cX8_taken, cX8_count, cX8_tape, cX8_item, cX8_read, cX8_shift, cX8_isPerson, cX8_isPart, cX8_isHour, cX8_isYears, cX8_isTape, cX8_isChoice, cX8_isUnder, cX8_holding, cX8_paidByAll, cX8_sideOfFraction, cX9_init, cX9_in, cX9_has, cX9_least, cX9_isPerson, cX9_isPart, cX9_isHour, cX9_isYears, cX9_person, cX9_grace, cX9_goes, cX9_leave, cX9_row, cX9_hour, cX9_feed, cX9_next, cX9_takes, cX9_takesWord, cX9_isDigit, cX9_takesNumber, cX9_emits, cX9_whole, cX9_settle, cX9_place, cX9_takesTest, cX9_takesE, cX9_takesHead, cX9_takesClause, cX9_goesText, cX9_office, cX9_begin, cX9_behind, cX9_lastOf, cX9_taste, cX9_light, cX9_rate, cX9_factOf, cX9_holds, cX9_liking, cX9_glow, cX9_fine, cX9_isOff, cX9_offSet, cX9_offMany, cX9_pays, cX9_allPay, cX9_show, cX9_of, cX9_told, cX9_goYear, cX9_goYears, cX9_pass, cX9_save, cX9_putBack, cX9_on, cX9_paysAt, cX9_seenAt, cX9_bestHour, cX9_rises, cX9_when, cX9_layCosts, cX9_layTurn, cX9_line, cX9_jointlyOf, cX9_jointly, cX9_layPairs, cX9_firstBad, cX9_goesOn, cX9_pairsCost, cX9_pairs, cX9_raises, cX9_see, cX9_isLooked, cX9_tastes, cX9_graces, cX9_can, cX9_divisor, cX9_lowest, cX9_odds, cX9_mean, cX9_plan, cX9_ends, cX9_book, cX9_looked, cX9_judge, cX9_image, cX9_undo, cX9_body, cX9_personShows, cX9_showsAct, cX9_personPays, cX9_fadingPays, cX9_paysAct, cX9_personTells, cX9_tellsAct, cX9_act, cX9_trace, cX9_taken, cX9_count, cX9_isTape, cX9_tape, cX9_narrow, cX9_item, cX9_read, cX9_shift, cJ6_bitCount_0f7a4, cJ0_length_8abf5, cJ0_charAt_5068e, cJ0_coder_7d493, cJ0_isLatin1_aae02, cJ1_charAt_3b067, cJ7_fill_d0a16, cJ7_fill_53178, code]
def mNm (y : Nat) : MethodName := mNmL.getD y x
def mMax (y : Nat) : Nat := mMaxL.getD y 0
def mRet (y : Nat) : Option FieldType := mRetL.getD y none
def mBud (y : Nat) : Nat × Nat := mBudL.getD y (0, 0)
def mClsOf (y : Nat) : Nat := mClsL.getD y 99
def mBytes (y : Nat) : ByteArray := mBytesL.getD y code
def mIdxL : List (List Nat) := [[323, 94, 322, 0, 0], [844, 94, 842, 843], [848, 94, 846, 847], [852, 94, 851, 18], [858, 94, 857, 19], [294, 93, 293, 0, 0], [637, 93, 635, 636], [660, 93, 658, 659], [665, 93, 663, 664], [673, 93, 671, 672], [681, 93, 680, 15], [677, 93, 676, 14], [687, 93, 685, 686], [695, 93, 693, 694], [700, 93, 698, 699], [733, 93, 731, 732], [708, 93, 706, 707], [712, 93, 711], [720, 93, 719, 17], [716, 93, 715, 16], [725, 93, 723, 724], [753, 93, 751, 752], [762, 93, 760, 761], [770, 93, 768, 769], [800, 93, 798, 799], [227, 91, 226, 0, 0], [501, 91, 499, 500], [600, 91, 598, 599], [604, 91, 602, 603], [430, 91, 428, 429], [412, 91, 410, 411], [439, 91, 438], [442, 91, 441], [416, 91, 414, 415], [420, 91, 419, 2], [426, 91, 425], [447, 91, 445, 446], [451, 91, 449, 450], [463, 91, 461, 462], [143, 90, 142, 0, 0], [393, 90, 391, 392], [641, 90, 639, 640], [629, 90, 627, 628], [267, 92, 266, 0, 0], [608, 92, 606, 607], [497, 92, 495, 496], [505, 92, 504, 3], [509, 92, 508, 4], [522, 92, 521, 7], [513, 92, 512, 5], [517, 92, 516, 6], [579, 92, 578, 8], [584, 92, 583, 9], [588, 92, 587, 10], [592, 92, 591, 11], [596, 92, 595, 12], [125, 89, 124, 0, 0], [741, 89, 739, 740], [745, 89, 743, 744], [757, 89, 755, 756], [830, 89, 828, 829], [339, 95, 338, 0, 0], [884, 95, 882, 883], [897, 95, 895, 896], [117, 88, 116, 0, 0], [825, 88, 823, 824], [109, 87, 108, 0, 0], [389, 87, 387, 388], [400, 87, 398, 399], [467, 87, 465, 466], [474, 87, 472, 473], [478, 87, 476, 477], [482, 87, 480, 481], [489, 87, 487, 488], [493, 87, 491, 492], [613, 87, 611, 612], [622, 87, 620, 621], [633, 87, 631, 632], [649, 87, 647, 648], [653, 87, 651, 652], [669, 87, 667, 668], [691, 87, 689, 690], [704, 87, 702, 703], [729, 87, 727, 728], [737, 87, 735, 736], [749, 87, 747, 748], [766, 87, 764, 765], [776, 87, 774, 775], [780, 87, 778, 779], [788, 87, 786, 787], [792, 87, 790, 791], [796, 87, 794, 795], [805, 87, 803, 804], [809, 87, 807, 808], [814, 87, 812, 813], [821, 87, 819, 820], [836, 87, 834, 835], [840, 87, 838, 839], [864, 87, 862, 863], [868, 87, 866, 867], [876, 87, 874, 875], [880, 87, 878, 879], [893, 87, 891, 892], [901, 87, 899, 900], [905, 87, 903, 904], [404, 87, 403, 0], [470, 87, 469], [485, 87, 484], [625, 87, 624], [817, 87, 816], [656, 87, 655], [871, 87, 870], [408, 87, 407, 1], [618, 87, 617, 13], [784, 87, 783], [911, 96, 910, 0, 0], [1162, 96, 1161, 20], [1182, 96, 1181, 23], [1306, 96, 1305, 49], [1170, 96, 1169, 21], [1174, 96, 1173, 22], [1198, 96, 1197, 25], [1350, 96, 1349, 58], [1158, 96, 1156, 1157], [1166, 96, 1164, 1165], [1186, 96, 1185, 24], [1178, 96, 1176, 1177], [1190, 96, 1188, 1189], [1194, 96, 1192, 1193], [1202, 96, 1200, 1201], [1222, 96, 1221, 29], [1230, 96, 1229, 31], [1226, 96, 1225, 30], [1238, 96, 1237, 33], [1234, 96, 1233, 32], [1254, 96, 1253, 37], [1258, 96, 1257, 38], [1262, 96, 1261, 39], [1250, 96, 1249, 36], [1246, 96, 1245, 35], [1242, 96, 1241, 34], [1218, 96, 1217, 28], [1214, 96, 1213, 27], [1210, 96, 1209, 26], [1206, 96, 1204, 1205], [1278, 96, 1277, 42], [1282, 96, 1281, 43], [1302, 96, 1301, 48], [1326, 96, 1325, 54], [1298, 96, 1297, 47], [1314, 96, 1313, 51], [1290, 96, 1289, 45], [1286, 96, 1285, 44], [1274, 96, 1273, 41], [1294, 96, 1293, 46], [1270, 96, 1269, 40], [1322, 96, 1321, 53], [1330, 96, 1329, 55], [1318, 96, 1317, 52], [1310, 96, 1309, 50], [1342, 96, 1341, 57], [1334, 96, 1333, 56], [1266, 96, 1264, 1265], [1338, 96, 1336, 1337], [1358, 96, 1357, 60], [1354, 96, 1353, 59], [1346, 96, 1344, 1345], [1366, 96, 1365, 61], [1370, 96, 1369, 62], [1362, 96, 1360, 1361], [1378, 96, 1377, 63], [1374, 96, 1372, 1373], [1386, 96, 1385, 64], [1390, 96, 1389, 65], [1382, 96, 1380, 1381], [1398, 96, 1397, 66], [1402, 96, 1401, 67], [1394, 96, 1392, 1393], [1410, 96, 1409, 68], [1406, 96, 1404, 1405], [1418, 96, 1417, 69], [1422, 96, 1421, 70], [1426, 96, 1425, 71], [1430, 96, 1429, 72], [1414, 96, 1412, 1413], [1434, 96, 1432, 1433], [1438, 96, 1436, 1437], [1446, 96, 1445, 73], [1442, 96, 1440, 1441], [1450, 96, 1448, 1449], [1454, 96, 1452, 1453], [1467, 96, 1466, 75], [1463, 96, 1462, 74], [1458, 96, 1456, 1457], [1471, 96, 1469, 1470], [1475, 96, 1473, 1474], [1479, 96, 1477, 1478], [1483, 96, 1481, 1482], [1487, 96, 1485, 1486], [1491, 96, 1489, 1490], [1499, 96, 1497, 1498], [1503, 96, 1501, 1502], [1515, 96, 1514, 78], [1519, 96, 1518, 79], [1511, 96, 1510, 77], [1531, 96, 1530, 82], [1527, 96, 1526, 81], [1523, 96, 1522, 80], [1539, 96, 1538, 84], [1535, 96, 1534, 83], [1507, 96, 1505, 1506], [1543, 96, 1541, 1542], [1547, 96, 1545, 1546], [1551, 96, 1549, 1550], [1495, 96, 1494, 76], [1555, 96, 1553, 1554], [1563, 96, 1562, 85], [1559, 96, 1557, 1558], [1567, 96, 1565, 1566], [1571, 96, 1569, 1570], [455, 99, 454], [526, 100, 524, 525], [536, 100, 534, 535], [530, 100, 528, 529], [540, 100, 538, 539], [543, 101, 542], [889, 97, 888], [396, 97, 395], []]
def mKindL : List Nat := [2, 1, 1, 1, 1, 2, 1, 1, 1, 1, 1, 1, 1, 1, 1, 1, 1, 0, 1, 1, 1, 1, 1, 1, 1, 2, 1, 1, 1, 1, 1, 0, 0, 1, 1, 0, 1, 1, 1, 2, 1, 1, 1, 2, 1, 1, 1, 1, 1, 1, 1, 1, 1, 1, 1, 1, 2, 1, 1, 1, 1, 2, 1, 1, 2, 1, 2, 1, 1, 1, 1, 1, 1, 1, 1, 1, 1, 1, 1, 1, 1, 1, 1, 1, 1, 1, 1, 1, 1, 1, 1, 1, 1, 1, 1, 1, 1, 1, 1, 1, 1, 1, 1, 1, 1, 1, 0, 0, 0, 0, 0, 0, 1, 1, 0, 2, 1, 1, 1, 1, 1, 1, 1, 1, 1, 1, 1, 1, 1, 1, 1, 1, 1, 1, 1, 1, 1, 1, 1, 1, 1, 1, 1, 1, 1, 1, 1, 1, 1, 1, 1, 1, 1, 1, 1, 1, 1, 1, 1, 1, 1, 1, 1, 1, 1, 1, 1, 1, 1, 1, 1, 1, 1, 1, 1, 1, 1, 1, 1, 1, 1, 1, 1, 1, 1, 1, 1, 1, 1, 1, 1, 1, 1, 1, 1, 1, 1, 1, 1, 1, 1, 1, 1, 1, 1, 1, 1, 1, 1, 1, 1, 1, 1, 1, 1, 1, 1, 1, 1, 1, 0, 1, 1, 1, 1, 0, 0, 0, 9]
def mKind (y : Nat) : Nat := mKindL.getD y 9
def mNestL : List Cond := [.methodLinkNest "ExemptBeauty$Town" 45 ⟨"ExemptBeauty$Person", "<init>", "()V"⟩ "ExemptBeauty", .methodLinkNest "ExemptBeauty" 27 ⟨"ExemptBeauty$Office", "<init>", "()V"⟩ "ExemptBeauty", .methodLinkNest "ExemptBeauty" 42 ⟨"ExemptBeauty$Reader", "<init>", "()V"⟩ "ExemptBeauty", .methodLinkNest "ExemptBeauty$Reader" 27 ⟨"ExemptBeauty$Office", "<init>", "()V"⟩ "ExemptBeauty", .methodLinkNest "ExemptBeauty" 49 ⟨"ExemptBeauty$Asker", "<init>", "()V"⟩ "ExemptBeauty", .methodLinkNest "ExemptBeauty$Asker" 11 ⟨"ExemptBeauty$Person", "<init>", "()V"⟩ "ExemptBeauty", .methodLinkNest "ExemptBeauty" 56 ⟨"ExemptBeauty$Actor", "<init>", "()V"⟩ "ExemptBeauty", .methodLinkNest "ExemptBeauty" 67 ⟨"ExemptBeauty$Tape", "<init>", "()V"⟩ "ExemptBeauty"]
/-! the shape of the cells: 0 the script, 1 ABOVE, 2 BODIES, 3 .. 8 the literals, 9 .. 14 their bytes, from 16 on what is made -/
def TYl : List Nat := [105, 105, 105, 60, 60, 60, 60, 60, 60, 104, 104, 104, 104, 104, 104, 99, 8, 7, 113, 5, 100, 5, 100, 5, 100, 3, 100, 100, 3, 100, 100, 3, 100, 100, 3, 100, 100, 3, 100, 100, 3, 100, 100, 7, 113, 5, 100, 5, 100, 5, 100, 3, 100, 100, 3, 100, 100, 3, 100, 100, 3, 100, 100, 3, 100, 100, 3, 100, 100, 2, 100, 100, 100, 112, 4, 100, 2, 100, 100, 100, 1, 3, 100, 100, 100, 100, 100, 100, 100, 0, 100, 116, 6, 101, 6, 101, 6, 101, 6, 101, 6, 101, 6, 101, 9, 100, 100, 100, 100, 100, 100, 100, 100, 100, 100, 100, 100, 100, 100, 102, 100, 100, 100, 100, 100, 100, 100, 100, 100, 100, 100, 100, 102, 100, 100, 100, 100, 100, 100, 100, 100, 100, 100, 100, 100, 100, 100, 100, 100, 102, 100, 100, 100, 101, 101]
def LNl : List Nat := [0, 7, 21, 0, 0, 0, 0, 0, 0, 4, 5, 4, 2, 2, 4, 0, 10, 8, 6, 3, 24, 3, 40, 3, 32, 7, 6, 4, 7, 6, 4, 7, 6, 4, 7, 6, 4, 7, 6, 4, 7, 6, 4, 8, 6, 3, 24, 3, 40, 3, 32, 7, 6, 4, 7, 6, 4, 7, 6, 4, 7, 6, 4, 7, 6, 4, 7, 6, 4, 8, 10, 10, 100, 6, 5, 100, 8, 10, 10, 100, 6, 7, 6, 4, 64, 6, 36, 36, 6, 2, 20, 6, 3, 60, 3, 60, 3, 60, 3, 60, 3, 60, 3, 60, 80, 6, 6, 6, 36, 24, 100, 6, 60, 60, 60, 60, 600, 101, 22, 100, 6, 36, 36, 6, 6, 36, 6, 6, 6, 6, 6, 6, 6, 10, 10, 8, 8, 6, 6, 6, 36, 24, 6, 6, 6, 10, 10, 8, 8, 6, 20, 6, 6, 360, 60]
def TY (h : Nat) : Nat := TYl.getD h (match (h - 155) % 4 with | 0 => 2 | _ => 100)
def LN (n h : Nat) : Nat := match h with
  | 0 => n
  | h => LNl.getD h (match (h - 155) % 4 with | 0 => 8 | 3 => 100 | _ => 10)
/-! ===== THE SMALL MACHINE: a big-step reading of the class's bytecode over whole numbers and numbered cells; 03 ties it to the machine ===== -/
abbrev mV : Type := Int ⊕ (Int64 ⊕ Option Nat)
abbrev vi (x : Int) : mV := .inl x
abbrev vl (x : Int64) : mV := .inr (.inl x)
abbrev vr (r : Option Nat) : mV := .inr (.inr r)
abbrev mH : Type := (Nat → Nat → Int) × (Nat → Nat → Int64) × (Nat → Nat → Option Nat) × Nat
abbrev mK : Type := Option mV → mH → Prop
abbrev mLs : Type := List (Option mV)
abbrev mJ : Type := Nat → Nat → Nat → Nat → Nat → mLs → List mV → mH → mK → Prop
abbrev mC : Type := Nat → Nat → List mV → mH → mK → Prop
/-- method, place, instruction, length, three numbers, a whole number, switch places -/
abbrev mRow : Type := Nat × Nat × Instr × Nat × (Nat × Nat × Nat) × Int × List (Int × Nat)
def wr (x : Int) : Int := (x + 2147483648) % 4294967296 - 2147483648
def up2 (f : Nat → Nat → Int) (a k : Nat) (v : Int) : Nat → Nat → Int := fun x j => if x = a ∧ j = k then v else f x j
def up2L (f : Nat → Nat → Int64) (a k : Nat) (v : Int64) : Nat → Nat → Int64 := fun x j => if x = a ∧ j = k then v else f x j
def up2R (f : Nat → Nat → Option Nat) (a k : Nat) (v : Option Nat) : Nat → Nat → Option Nat := fun x j => if x = a ∧ j = k then v else f x j
def bshl (a b : Int) : Int := (Int32.ofInt a <<< (Int32.ofInt b &&& 31)).toInt
def bshr (a b : Int) : Int := (Int32.ofInt a >>> (Int32.ofInt b &&& 31)).toInt
def bushr (a b : Int) : Int := (((Int32.ofInt a).toUInt32 >>> ((Int32.ofInt b).toUInt32 &&& Int32.toUInt32 31)).toInt32).toInt
def band (a b : Int) : Int := (Int32.ofInt a &&& Int32.ofInt b).toInt
def bior (a b : Int) : Int := (Int32.ofInt a ||| Int32.ofInt b).toInt
def bxor (a b : Int) : Int := (Int32.ofInt a ^^^ Int32.ofInt b).toInt
def bi8 (x : Int) : Int := (Int32.ofInt x).toInt8.toInt32.toInt
def bi16 (x : Int) : Int := (Int32.ofInt x).toInt16.toInt32.toInt
def bch (x : Int) : Int := ((Int32.ofInt x).toUInt32 % 65536).toInt32.toInt
def lcm3 (x y : Int64) : Int := (lg_cmp x y).toInt
/-! what is taken off the stack, and looked at -/
def eI (st : List mV) (f : Int → List mV → Prop) : Prop := match st with
  | .inl x :: r => f x r
  | _ => False
def eII (st : List mV) (f : Int → Int → List mV → Prop) : Prop := match st with
  | .inl b :: .inl a :: r => f a b r
  | _ => False
def eL (st : List mV) (f : Int64 → List mV → Prop) : Prop := match st with
  | .inr (.inl x) :: r => f x r
  | _ => False
def eLL (st : List mV) (f : Int64 → Int64 → List mV → Prop) : Prop := match st with
  | .inr (.inl b) :: .inr (.inl a) :: r => f a b r
  | _ => False
def eLI (st : List mV) (f : Int64 → Int → List mV → Prop) : Prop := match st with
  | .inl b :: .inr (.inl a) :: r => f a b r
  | _ => False
def eR (st : List mV) (f : Option Nat → List mV → Prop) : Prop := match st with
  | .inr (.inr x) :: r => f x r
  | _ => False
def eRI (st : List mV) (f : Option Nat → Int → List mV → Prop) : Prop := match st with
  | .inl i :: .inr (.inr a) :: r => f a i r
  | _ => False
def eRR (st : List mV) (f : Option Nat → Option Nat → List mV → Prop) : Prop := match st with
  | .inr (.inr v) :: .inr (.inr a) :: r => f a v r
  | _ => False
def eRII (st : List mV) (f : Option Nat → Int → Int → List mV → Prop) : Prop := match st with
  | .inl x :: .inl i :: .inr (.inr a) :: r => f a i x r
  | _ => False
def eRIL (st : List mV) (f : Option Nat → Int → Int64 → List mV → Prop) : Prop := match st with
  | .inr (.inl x) :: .inl i :: .inr (.inr a) :: r => f a i x r
  | _ => False
def eRIR (st : List mV) (f : Option Nat → Int → Option Nat → List mV → Prop) : Prop := match st with
  | .inr (.inr x) :: .inl i :: .inr (.inr a) :: r => f a i x r
  | _ => False
def isC1 (v : mV) : Bool := match v with
  | .inr (.inl _) => false
  | _ => true
def eD (st : List mV) (f : mV → List mV → Prop) : Prop := match st with
  | v :: r => match isC1 v with
    | true => f v r
    | false => False
  | _ => False
def eDD (st : List mV) (f : mV → mV → List mV → Prop) : Prop := match st with
  | v :: w :: r => match isC1 v && isC1 w with
    | true => f v w r
    | false => False
  | _ => False
def gI (ls : mLs) (i : Nat) (f : Int → Prop) : Prop := match ls[i]? with
  | some (some (.inl x)) => f x
  | _ => False
def gL (ls : mLs) (i : Nat) (f : Int64 → Prop) : Prop := match ls[i]? with
  | some (some (.inr (.inl x))) => f x
  | _ => False
def gR (ls : mLs) (i : Nat) (f : Option Nat → Prop) : Prop := match ls[i]? with
  | some (some (.inr (.inr x))) => f x
  | _ => False
/-- a value of one slot is put; a long that stood half in it is gone -/
def putL (ls : mLs) (i : Nat) (v : mV) (f : mLs → Prop) : Prop := match i with
  | 0 => f (ls.set 0 (some v))
  | j + 1 => match ls[j]? with
    | some (some (.inr (.inl _))) => False
    | _ => f (ls.set (j + 1) (some v))
def drf (r : Option Nat) (f : Nat → Prop) : Prop := match r with
  | some a => f a
  | none => False
def nbr (r : Option Nat) (A B : Prop) : Prop := match r with
  | some _ => B
  | none => A
def chk (b : Bool) (A : Prop) : Prop := match b with
  | true => A
  | false => False
def b01W (x : Int) (A : Prop) : Prop := if x = 0 then A else if x = 1 then A else False
def nzW (x : Int) (A : Prop) : Prop := if x = 0 then False else A
def cbr (c : ClassFile.Cond) (x y : Int) (A B : Prop) : Prop := match c with
  | .eq => if x = y then A else B
  | .ne => if x = y then B else A
  | .lt => if x < y then A else B
  | .ge => if x < y then B else A
  | .gt => if y < x then A else B
  | .le => if y < x then B else A
def swW (x : Int) (sw : List (Int × Nat)) (dflt : Nat) (f : Nat → Prop) : Prop := match sw with
  | [] => f dflt
  | (k, t) :: r => if x = k then f t else swW x r dflt f
def ri (r : Option mV) (f : Int → Prop) : Prop := match r with
  | some (.inl x) => f x
  | _ => False
def rl (r : Option mV) (f : Int64 → Prop) : Prop := match r with
  | some (.inr (.inl x)) => f x
  | _ => False
def rr (r : Option mV) (f : Option Nat → Prop) : Prop := match r with
  | some (.inr (.inr x)) => f x
  | _ => False
def rv (r : Option mV) (f : Prop) : Prop := match r with
  | none => f
  | _ => False
def catS (st : List mV) : Nat := match st with
  | [] => 0
  | .inr (.inl _) :: r => 2 + catS r
  | _ :: r => 1 + catS r
def headR (vs : List mV) (f : Nat → Prop) : Prop := match vs with
  | .inr (.inr (some a)) :: _ => f a
  | .inr (.inr none) :: _ => False
  | _ => False
/-- the copied stretch -/
def cpy2 {α : Type} (f : Nat → Nat → α) (a i b j n : Nat) : Nat → Nat → α := fun x q => if x = b ∧ j ≤ q ∧ q < j + n then f a (i + (q - j)) else f x q
/-- what a call does behind its return -/
def retW (ic : Nat) (st : List mV) (f : List mV → mH → Prop) : mK := fun r H => match ic with
  | 0 => rv r (f st H)
  | 1 => ri r (fun x => f (vi x :: st) H)
  | 2 => rl r (fun x => f (vl x :: st) H)
  | _ => rr r (fun x => f (vr x :: st) H)
/-- a method's locals at its entry -/
def locs0 (vs : List mV) : mLs := match vs with
  | [] => []
  | .inr (.inl x) :: r => some (.inr (.inl x)) :: none :: locs0 r
  | v :: r => some v :: locs0 r
def callW (C : mC) (d y : Nat) (kc ks ic ib : Nat) (args st : List mV) (H : mH) (f : Nat → Nat → List mV → mH → Prop) : Prop := match d with
  | 0 => False
  | d' + 1 => chk (Nat.ble (catS st) 8 && (Nat.ble (mBud y).1 kc && (Nat.ble (mBud y).2 ks && (Nat.ble (locs0 args).length (mMax y) && Nat.beq args.length ib)))) (C d' y args H (retW ic st (f (kc - (mBud y).1) (ks - (mBud y).2))))
def copyW (st : List mV) (H : mH) (n : Nat) (f : List mV → mH → Prop) : Prop := match st with
  | .inl m :: .inl j :: .inr (.inr b) :: .inl i :: .inr (.inr a) :: r =>
    drf a fun a => drf b fun b => (0 ≤ i ∧ 0 ≤ j ∧ 0 ≤ m ∧ i + m ≤ LN n a ∧ j + m ≤ LN n b) ∧
      chk (Nat.beq (TY a) (TY b) && Nat.ble (catS r) 8) (match Nat.beq (TY a) 100 with
        | true => f r (cpy2 H.1 a i.toNat b j.toNat m.toNat, H.2)
        | false => chk (Nat.beq (TY a) 101) (f r (H.1, cpy2 H.2.1 a i.toNat b j.toNat m.toNat, H.2.2)))
  | _ => False
def chkIdxW (st : List mV) (f : List mV → Prop) : Prop := eII st fun i n r => (0 ≤ i ∧ i < n) ∧ chk (Nat.ble (catS r) 8) (f r)
/-- one instruction -/
def stepW (n : Nat) (P : mJ) (C : mC) (d : Nat) (w : mRow) (kc ks : Nat) (ls : mLs) (st : List mV) (H : mH) (K : mK) : Prop :=
  match w with
  | (y, pc, ins, len, (ia, ib, ic), z, sw) => match ins with
    | .iconst _ => P d y (pc + len) kc ks ls (vi z :: st) H K
    | .bipush _ => P d y (pc + len) kc ks ls (vi z :: st) H K
    | .sipush _ => P d y (pc + len) kc ks ls (vi z :: st) H K
    | .lconst _ => P d y (pc + len) kc ks ls (vl (Int64.ofInt z) :: st) H K
    | .ldc2_w _ => P d y (pc + len) kc ks ls (vl (Int64.ofInt z) :: st) H K
    | .ldc _ => P d y (pc + len) kc ks ls (vr (some ia) :: st) H K
    | .ldc_w _ => P d y (pc + len) kc ks ls (vi z :: st) H K
    | .iload _ => gI ls ia fun x => P d y (pc + len) kc ks ls (vi x :: st) H K
    | .iload_n _ => gI ls ia fun x => P d y (pc + len) kc ks ls (vi x :: st) H K
    | .lload _ => gL ls ia fun x => P d y (pc + len) kc ks ls (vl x :: st) H K
    | .lload_n _ => gL ls ia fun x => P d y (pc + len) kc ks ls (vl x :: st) H K
    | .aload _ => gR ls ia fun x => P d y (pc + len) kc ks ls (vr x :: st) H K
    | .aload_n _ => gR ls ia fun x => P d y (pc + len) kc ks ls (vr x :: st) H K
    | .istore _ => eI st fun x r => putL ls ia (vi x) fun ls => P d y (pc + len) kc ks ls r H K
    | .istore_n _ => eI st fun x r => putL ls ia (vi x) fun ls => P d y (pc + len) kc ks ls r H K
    | .astore _ => eR st fun x r => drf x fun a => putL ls ia (vr (some a)) fun ls => P d y (pc + len) kc ks ls r H K
    | .astore_n _ => eR st fun x r => drf x fun a => putL ls ia (vr (some a)) fun ls => P d y (pc + len) kc ks ls r H K
    | .iinc _ _ => gI ls ia fun x => putL ls ia (vi (wr (x + z))) fun ls => P d y (pc + len) kc ks ls st H K
    | .iadd => eII st fun a b r => P d y (pc + len) kc ks ls (vi (wr (a + b)) :: r) H K
    | .isub => eII st fun a b r => P d y (pc + len) kc ks ls (vi (wr (a - b)) :: r) H K
    | .imul => eII st fun a b r => P d y (pc + len) kc ks ls (vi (wr (a * b)) :: r) H K
    | .idiv => eII st fun a b r => nzW b (P d y (pc + len) kc ks ls (vi (wr (a.tdiv b)) :: r) H K)
    | .irem => eII st fun a b r => nzW b (P d y (pc + len) kc ks ls (vi (a.tmod b) :: r) H K)
    | .ineg => eI st fun a r => P d y (pc + len) kc ks ls (vi (wr (-a)) :: r) H K
    | .ishl => eII st fun a b r => P d y (pc + len) kc ks ls (vi (bshl a b) :: r) H K
    | .ishr => eII st fun a b r => P d y (pc + len) kc ks ls (vi (bshr a b) :: r) H K
    | .iushr => eII st fun a b r => P d y (pc + len) kc ks ls (vi (bushr a b) :: r) H K
    | .iand => eII st fun a b r => P d y (pc + len) kc ks ls (vi (band a b) :: r) H K
    | .ior => eII st fun a b r => P d y (pc + len) kc ks ls (vi (bior a b) :: r) H K
    | .ixor => eII st fun a b r => P d y (pc + len) kc ks ls (vi (bxor a b) :: r) H K
    | .i2l => eI st fun a r => P d y (pc + len) kc ks ls (vl (Int64.ofInt a) :: r) H K
    | .l2i => eL st fun a r => P d y (pc + len) kc ks ls (vi a.toInt32.toInt :: r) H K
    | .i2b => eI st fun a r => P d y (pc + len) kc ks ls (vi (bi8 a) :: r) H K
    | .i2s => eI st fun a r => P d y (pc + len) kc ks ls (vi (bi16 a) :: r) H K
    | .i2c => eI st fun a r => P d y (pc + len) kc ks ls (vi (bch a) :: r) H K
    | .lcmp => eLL st fun a b r => P d y (pc + len) kc ks ls (vi (lcm3 a b) :: r) H K
    | .lshl => eLI st fun a b r => P d y (pc + len) kc ks ls (vl (a <<< ((Int64.ofInt b) &&& 63)) :: r) H K
    | .lor => eLL st fun a b r => P d y (pc + len) kc ks ls (vl (a ||| b) :: r) H K
    | .land => eLL st fun a b r => P d y (pc + len) kc ks ls (vl (a &&& b) :: r) H K
    | .dup => eD st fun v r => P d y (pc + len) kc ks ls (v :: v :: r) H K
    | .dup2 => eDD st fun v w r => P d y (pc + len) kc ks ls (v :: w :: v :: w :: r) H K
    | .pop => eD st fun _ r => P d y (pc + len) kc ks ls r H K
    | .ifCond c _ => eI st fun x r => cbr c x 0 (P d y ia kc ks ls r H K) (P d y (pc + len) kc ks ls r H K)
    | .if_icmp c _ => eII st fun a b r => cbr c a b (P d y ia kc ks ls r H K) (P d y (pc + len) kc ks ls r H K)
    | .goto _ => P d y ia kc ks ls st H K
    | .ifnonnull _ => eR st fun x r => nbr x (P d y (pc + len) kc ks ls r H K) (P d y ia kc ks ls r H K)
    | .tableswitch _ _ _ _ => eI st fun x r => swW x sw ia fun t => P d y t kc ks ls r H K
    | .lookupswitch _ _ => eI st fun x r => swW x sw ia fun t => P d y t kc ks ls r H K
    | .getfield _ => eR st fun x r => drf x fun a => chk (Nat.beq (TY a) ia) (match ic with
        | 1 => P d y (pc + len) kc ks ls (vr (H.2.2.1 a ib) :: r) H K
        | _ => P d y (pc + len) kc ks ls (vi (H.1 a ib) :: r) H K)
    | .putfield _ => match ic with
        | 1 => eRR st fun x v r => drf x fun a => chk (Nat.beq (TY a) ia) (P d y (pc + len) kc ks ls r (H.1, H.2.1, up2R H.2.2.1 a ib v, H.2.2.2) K)
        | 2 => eRI st fun x v r => drf x fun a => chk (Nat.beq (TY a) ia) (b01W v (P d y (pc + len) kc ks ls r (up2 H.1 a ib v, H.2) K))
        | _ => eRI st fun x v r => drf x fun a => chk (Nat.beq (TY a) ia) (P d y (pc + len) kc ks ls r (up2 H.1 a ib v, H.2) K)
    | .getstatic _ => match ia with
        | 0 => P d y (pc + len) kc ks ls (vi z :: st) H K
        | _ => P d y (pc + len) kc ks ls (vr (some ib) :: st) H K
    | .new _ => match kc with
        | 0 => False
        | kc + 1 => chk (Nat.beq (TY H.2.2.2) ia && Nat.ble ib ks) (P d y (pc + len) kc (ks - ib) ls (vr (some H.2.2.2) :: st) (H.1, H.2.1, H.2.2.1, H.2.2.2 + 1) K)
    | .newarray _ => match kc with
        | 0 => False
        | kc + 1 => eI st fun x r => chk (Nat.beq (TY H.2.2.2) ia && (Nat.ble (LN n H.2.2.2) ks && Nat.ble (LN n H.2.2.2) 100000)) (x = (LN n H.2.2.2 : Int) ∧ P d y (pc + len) kc (ks - LN n H.2.2.2) ls (vr (some H.2.2.2) :: r) (H.1, H.2.1, H.2.2.1, H.2.2.2 + 1) K)
    | .anewarray _ => match kc with
        | 0 => False
        | kc + 1 => eI st fun x r => chk (Nat.beq (TY H.2.2.2) ia && (Nat.ble (LN n H.2.2.2) ks && Nat.ble (LN n H.2.2.2) 100000)) (x = (LN n H.2.2.2 : Int) ∧ P d y (pc + len) kc (ks - LN n H.2.2.2) ls (vr (some H.2.2.2) :: r) (H.1, H.2.1, H.2.2.1, H.2.2.2 + 1) K)
    | .arraylength => eR st fun x r => drf x fun a => chk (Nat.ble 100 (TY a)) (P d y (pc + len) kc ks ls (vi (LN n a : Int) :: r) H K)
    | .iaload => eRI st fun x i r => drf x fun a => chk (Nat.beq (TY a) 100 || Nat.beq (TY a) 105) ((0 ≤ i ∧ i < LN n a) ∧ P d y (pc + len) kc ks ls (vi (H.1 a i.toNat) :: r) H K)
    | .baload => eRI st fun x i r => drf x fun a => chk (Nat.beq (TY a) 102 || Nat.beq (TY a) 104) ((0 ≤ i ∧ i < LN n a) ∧ P d y (pc + len) kc ks ls (vi (H.1 a i.toNat) :: r) H K)
    | .laload => eRI st fun x i r => drf x fun a => chk (Nat.beq (TY a) 101) ((0 ≤ i ∧ i < LN n a) ∧ P d y (pc + len) kc ks ls (vl (H.2.1 a i.toNat) :: r) H K)
    | .aaload => eRI st fun x i r => drf x fun a => chk (Nat.ble 110 (TY a)) ((0 ≤ i ∧ i < LN n a) ∧ P d y (pc + len) kc ks ls (vr (H.2.2.1 a i.toNat) :: r) H K)
    | .iastore => eRII st fun x i v r => drf x fun a => chk (Nat.beq (TY a) 100) ((0 ≤ i ∧ i < LN n a) ∧ P d y (pc + len) kc ks ls r (up2 H.1 a i.toNat v, H.2) K)
    | .bastore => eRII st fun x i v r => drf x fun a => chk (Nat.beq (TY a) 102) ((0 ≤ i ∧ i < LN n a) ∧ b01W v (P d y (pc + len) kc ks ls r (up2 H.1 a i.toNat v, H.2) K))
    | .lastore => eRIL st fun x i v r => drf x fun a => chk (Nat.beq (TY a) 101) ((0 ≤ i ∧ i < LN n a) ∧ P d y (pc + len) kc ks ls r (H.1, up2L H.2.1 a i.toNat v, H.2.2) K)
    | .aastore => eRIR st fun x i v r => drf x fun a => drf v fun b => chk (Nat.beq (TY a) (TY b + 110) && Nat.blt (TY b) 20) ((0 ≤ i ∧ i < LN n a) ∧ P d y (pc + len) kc ks ls r (H.1, H.2.1, up2R H.2.2.1 a i.toNat (some b), H.2.2.2) K)
    | .invokestatic _ => match z with
        | 3 => copyW st H n fun r H => P d y (pc + len) kc ks ls r H K
        | 4 => chkIdxW st fun r => P d y (pc + len) kc ks ls r H K
        | 5 => eII st fun a b r => chk (Nat.ble (catS r) 8) (P d y (pc + len) kc ks ls (vi (if a < b then b else a) :: r) H K)
        | 6 => eII st fun a b r => chk (Nat.ble (catS r) 8) (P d y (pc + len) kc ks ls (vi (if b < a then b else a) :: r) H K)
        | 7 => eI st fun a r => chk (Nat.ble (catS r) 8) (P d y (pc + len) kc ks ls (vi (wr (if 0 ≤ a then a else 0 - a)) :: r) H K)
        | _ => callW C d ia kc ks ic ib (st.take ib).reverse (st.drop ib) H fun kc ks st H => P d y (pc + len) kc ks ls st H K
    | .invokevirtual _ => headR (st.take ib).reverse fun a => chk (Nat.beq (TY a) (mClsOf ia)) (callW C d ia kc ks ic ib (st.take ib).reverse (st.drop ib) H fun kc ks st H => P d y (pc + len) kc ks ls st H K)
    | .invokespecial _ => match z with
        | 2 => eR st fun x r => drf x fun _ => chk (Nat.ble (catS r) 8) (P d y (pc + len) kc ks ls r H K)
        | _ => headR (st.take ib).reverse fun a => chk (Nat.beq (TY a) (mClsOf ia)) (callW C d ia kc ks ic ib (st.take ib).reverse (st.drop ib) H fun kc ks st H => P d y (pc + len) kc ks ls st H K)
    | .ireturn => match st with
        | [.inl x] => match ia with
          | 0 => K (some (vi x)) H
          | 1 => b01W x (K (some (vi x)) H)
          | 2 => (0 ≤ x ∧ x < 65536) ∧ K (some (vi x)) H
          | _ => x = 0 ∧ K (some (vi x)) H
        | _ => False
    | .lreturn => match st with
        | [.inr (.inl x)] => K (some (vl x)) H
        | _ => False
    | .areturn => match st with
        | [.inr (.inr x)] => drf x fun a => K (some (vr (some a))) H
        | _ => False
    | .return_ => match st with
        | [] => K none H
        | _ => False
    | _ => False

/-! ===== what a row must be, so that the machine does what the row says ===== -/
def inR (z : Int) : Bool := decide (-2147483648 ≤ z) && decide (z < 2147483648)
def mOwn (y : Nat) : String := (mNm y).cls
def inT (w : Cond) : Bool := decide (w ∈ lw_tbl)
def fkG (d : String) : Nat := match d.toList with
  | 'L' :: _ => 1
  | '[' :: _ => 1
  | _ => 0
def fkP (d : String) : Nat := match d.toList with
  | 'L' :: _ => 1
  | '[' :: _ => 1
  | 'Z' :: _ => 2
  | _ => 0
def clAt (ci : Nat) : vw_C := vwCl.getD ci (RX0, TX0, 0)
def rkOf (r : Option FieldType) : Nat := match r with
  | none => 0
  | some .long => 2
  | some (.object _) => 3
  | some (.array _) => 3
  | _ => 1
def rcOf (r : Option FieldType) : Nat := match r with
  | some .int => 0
  | some .boolean => 1
  | some .char => 2
  | some .byte => 3
  | _ => 9
def nPar (y : MethodName) : Nat := ((parseMethodDescriptor y.desc).map fun d => d.parameters.length).getD 99
def hasPar (y : MethodName) : Bool := ((parseMethodDescriptor y.desc).map fun d => d.parameters.length).isSome
def notMH (y : MethodName) : Bool := decide (y.cls ≠ "java/lang/invoke/MethodHandle" ∧ y.cls ≠ "java/lang/invoke/VarHandle")
def wAt (sw : List (Int × Nat)) (w : Cond) : Bool := match sw with
  | (_, i) :: _ => decide (lw_tbl[i]? = some w)
  | [] => false
def atT (i : Nat) (w : Cond) : Bool := decide (lw_tbl[i]? = some w)
/-- what any callee needs: its code's word, its class's, how it is called -/
def okMeth (t : Nat) : Bool := notMH (mNm t) && hasPar (mNm t) && plainName (mNm t).cls && match mIdxL.getD t [] with
  | [_, b, c] => atT b (.initialized (mNm t).cls) && atT c (.static (mNm t)) && decide ((mNm t).name ≠ "<init>") && mKind t == 0
  | [_, b, c, d] => atT b (.initialized (mNm t).cls) && atT c (.instanceMethod (mNm t)) && atT d (.selects (mNm t).cls (mNm t) (mNm t)) && mKind t == 1 && (mClsOf t == 60 && decide ((mNm t).cls = "java/lang/String") || Nat.blt (mClsOf t) 10 && decide ((mNm t).cls = (clAt (mClsOf t)).1))
  | [_, b, c, _, _] => atT b (.initialized (mNm t).cls) && atT c (.instanceMethod (mNm t)) && mKind t == 2 && decide ((mNm t).name = "<init>") && decide (mRet t = none) && Nat.blt (mClsOf t) 10
  | _ => false
/-- .. and that its code is a word of the tables -/
def okM (t : Nat) : Prop := okMeth t = true ∧ Cond.code (mNm t) (mBytes t) (mMax t) (mRet t) ∈ lw_tbl.filter goodWord
def okIns (y pc : Nat) (ins : Instr) (len ia ib ic : Nat) (z : Int) (sw : List (Int × Nat)) : Bool :=
  match ins with
  | .iconst k => len == 1 && decide (k = z) && inR z
  | .bipush k => len == 2 && decide ((Int8.ofInt k).toInt32 = Int32.ofInt z) && inR z
  | .sipush k => len == 3 && decide ((Int16.ofInt k).toInt32 = Int32.ofInt z) && inR z
  | .lconst k => len == 1 && decide (Int64.ofNat k = Int64.ofInt z)
  | .ldc2_w i => len == 3 && wAt sw (.constantLong (mOwn y) i (Int64.ofInt z))
  | .ldc i => len == 2 && decide (mOwn y = RX4) && decide ((i, ia) ∈ ([(84, 3), (90, 4), (92, 5), (94, 6), (96, 7), (98, 8)] : List (Nat × Nat)))
  | .ldc_w i => len == 3 && wAt sw (.constant (mOwn y) i (Int32.ofInt z)) && inR z
  | .iload i => len == 2 && i == ia
  | .iload_n i => len == 1 && i.val == ia
  | .lload i => len == 2 && i == ia
  | .lload_n i => len == 1 && i.val == ia
  | .aload i => len == 2 && i == ia
  | .aload_n i => len == 1 && i.val == ia
  | .istore i => len == 2 && i == ia && Nat.blt ia (mMax y)
  | .istore_n i => len == 1 && i.val == ia && Nat.blt ia (mMax y)
  | .astore i => len == 2 && i == ia && Nat.blt ia (mMax y)
  | .astore_n i => len == 1 && i.val == ia && Nat.blt ia (mMax y)
  | .iinc i c => len == 3 && i == ia && decide (c = z) && Nat.blt ia (mMax y)
  | .ifCond _ off => len == 3 && decide ((pc : Int) + off = (ia : Int))
  | .if_icmp _ off => len == 3 && decide ((pc : Int) + off = (ia : Int))
  | .goto off => len == 3 && decide ((pc : Int) + off = (ia : Int))
  | .ifnonnull off => len == 3 && decide ((pc : Int) + off = (ia : Int))
  | .tableswitch d lo hi offs => decide ((pc : Int) + d = (ia : Int)) && decide (lo + offs.size = hi + 1) && sw.length == offs.size && (List.range offs.size).all (fun j => decide (sw[j]? = some (lo + j, ((pc : Int) + offs.getD j 0).toNat)) && decide (0 ≤ (pc : Int) + offs.getD j 0)) && inR lo && inR hi
  | .lookupswitch d ps => decide ((pc : Int) + d = (ia : Int)) && sw.length == ps.size && (ps.toList.zip (ps.toList.drop 1)).all (fun (a, next) => a.1 < next.1) && (ps.toList.zip sw).all (fun q => decide (q.1.1 = q.2.1) && decide ((pc : Int) + q.1.2 = (q.2.2 : Int)))
  | .getfield i => len == 3 && match ia with
    | 60 => match ib with
      | 0 => ic == 0 && wAt sw (.fieldLink (mOwn y) i "java/lang/String" "coder" "B")
      | _ => ib == 1 && ic == 1 && wAt sw (.fieldLink (mOwn y) i "java/lang/String" "value" "[B")
    | _ => Nat.blt ia 10 && Nat.blt ib (clAt ia).2.2 && decide (((clAt ia).2.1 ib).1 = (clAt ia).1) && wAt sw (.fieldLink (mOwn y) i (clAt ia).1 ((clAt ia).2.1 ib).2.1 ((clAt ia).2.1 ib).2.2.1) && ic == fkG ((clAt ia).2.1 ib).2.2.1
  | .putfield i => len == 3 && Nat.blt ia 10 && Nat.blt ib (clAt ia).2.2 && decide (((clAt ia).2.1 ib).1 = (clAt ia).1) && wAt sw (.fieldLink (mOwn y) i (clAt ia).1 ((clAt ia).2.1 ib).2.1 ((clAt ia).2.1 ib).2.2.1) && ic == fkP ((clAt ia).2.1 ib).2.2.1 && (!((clAt ia).2.1 ib).2.2.2 || (decide ((mNm y).name = "<init>") && decide ((clAt ia).1 = mOwn y)))
  | .getstatic i => len == 3 && match ia with
    | 0 => decide (z = 1) && wAt sw (.fieldLink (mOwn y) i "java/lang/String" "COMPACT_STRINGS" "Z")
    | _ => match ib with
      | 1 => wAt sw (.fieldLink (mOwn y) i "ExemptBeauty" "ABOVE" "[I") || (decide (mOwn y = RX0) && i == 35)
      | _ => ib == 2 && (decide (mOwn y = RX0) && i == 28)
  | .new i => len == 3 && Nat.blt ia 10 && ib == (clAt ia).2.2 && wAt sw (.classLink (mOwn y) i (clAt ia).1)
  | .newarray t => len == 2 && match t with
    | .int => ia == 100
    | .long => ia == 101
    | .boolean => ia == 102
    | _ => false
  | .anewarray i => len == 3 && Nat.ble 110 ia && decide (ia - 110 ∈ ([2, 3, 6] : List Nat)) && wAt sw (.classLink (mOwn y) i (clAt (ia - 110)).1)
  | .invokestatic i => len == 3 && match z with
    | 3 => wAt sw (.methodLink (mOwn y) i arraycopyName)
    | 4 => wAt sw (.methodLink (mOwn y) i ⟨"java/lang/String", "checkIndex", "(II)V"⟩)
    | 5 => wAt sw (.methodLink (mOwn y) i Lib.Math.max.name)
    | 6 => wAt sw (.methodLink (mOwn y) i Lib.Math.min.name)
    | 7 => wAt sw (.methodLink (mOwn y) i Lib.Math.abs.name)
    | _ => Nat.blt ia 228 && mKind ia == 0 && wAt sw (.methodLink (mOwn y) i (mNm ia)) && nPar (mNm ia) == ib && ic == rkOf (mRet ia)
  | .invokevirtual i => len == 3 && Nat.blt ia 228 && mKind ia == 1 && wAt sw (.methodLink (mOwn y) i (mNm ia)) && nPar (mNm ia) + 1 == ib && ic == rkOf (mRet ia)
  | .invokespecial i => len == 3 && match z with
    | 2 => wAt sw (.methodLink (mOwn y) i Lib.objectInit)
    | _ => Nat.blt ia 228 && mKind ia == 2 && (wAt sw (.methodLink (mOwn y) i (mNm ia)) || decide (Cond.methodLinkNest (mOwn y) i (mNm ia) "ExemptBeauty" ∈ mNestL)) && nPar (mNm ia) + 1 == ib && ic == 0
  | .ireturn => len == 1 && ia == rcOf (mRet y) && !(rcOf (mRet y) == 9)
  | .lreturn => len == 1 && decide (mRet y = some .long)
  | .areturn => len == 1 && rkOf (mRet y) == 3
  | .return_ => len == 1 && decide (mRet y = none)
  | .arraylength | .iaload | .baload | .laload | .aaload | .iastore | .bastore | .lastore | .aastore => len == 1
  | .iadd | .isub | .imul | .idiv | .irem | .ineg | .ishl | .ishr | .iushr | .iand | .ior | .ixor | .i2l | .l2i | .i2b | .i2s | .i2c | .lcmp | .lshl | .lor | .land | .dup | .dup2 | .pop => len == 1
  | _ => false
def okRow (w : mRow) : Bool := match w with
  | (y, pc, ins, len, (ia, ib, ic), z, sw) => Nat.blt y mNmL.length && decide (decode (mBytes y) pc = .ok (ins, len)) && okIns y pc ins len ia ib ic z sw

def ent (P : mJ) : mC := fun d y args H K => P d y 0 (mBud y).1 (mBud y).2 (locs0 args ++ List.replicate (mMax y - (locs0 args).length) none) [] H K
def mMono (P : mJ) : Prop := ∀ d y pc kc ks ls st H (K K' : mK), (∀ r H, K r H → K' r H) → P d y pc kc ks ls st H K → P d y pc kc ks ls st H K'
def mClosed (n : Nat) (P : mJ) : Prop := ∀ d (w : mRow) kc ks ls st H K, okRow w = true → stepW n P (ent P) d w kc ks ls st H K → P d w.1 w.2.1 kc ks ls st H K
/-- the least judgement that the instructions close -/
def Wm (n : Nat) : mJ := fun d y pc kc ks ls st H K => ∀ P : mJ, mMono P → mClosed n P → P d y pc kc ks ls st H K
def Cm (n : Nat) : mC := ent (Wm n)
end
section
def rows_0 : List mRow := [
  (0, 0, .aload_n 0, 1, (0, 0, 0), 0, []),
  (0, 1, .invokespecial 3, 3, (0, 0, 0), 2, [(0, 324)]),
  (0, 4, .aload_n 0, 1, (0, 0, 0), 0, []),
  (0, 5, .bipush 20, 2, (0, 0, 0), 20, []),
  (0, 7, .newarray .int, 2, (100, 0, 0), 0, []),
  (0, 9, .putfield 9, 3, (0, 0, 1), 0, [(0, 325)]),
  (0, 12, .aload_n 0, 1, (0, 0, 0), 0, []),
  (0, 13, .iconst 0, 1, (0, 0, 0), 0, []),
  (0, 14, .putfield 15, 3, (0, 1, 0), 0, [(0, 327)]),
  (0, 17, .return_, 1, (0, 0, 0), 0, [])]
def rows_1 : List mRow := [
  (1, 0, .aload_n 0, 1, (0, 0, 0), 0, []),
  (1, 1, .iconst 0, 1, (0, 0, 0), 0, []),
  (1, 2, .putfield 15, 3, (0, 1, 0), 0, [(0, 327)]),
  (1, 5, .return_, 1, (0, 0, 0), 0, [])]
def rows_2 : List mRow := [
  (2, 0, .aload_n 0, 1, (0, 0, 0), 0, []),
  (2, 1, .aload_n 1, 1, (1, 0, 0), 0, []),
  (2, 2, .aload_n 1, 1, (1, 0, 0), 0, []),
  (2, 3, .getfield 19, 3, (3, 1, 0), 0, [(0, 150)]),
  (2, 6, .iload_n 2, 1, (2, 0, 0), 0, []),
  (2, 7, .iload_n 3, 1, (3, 0, 0), 0, []),
  (2, 8, .iconst 0, 1, (0, 0, 0), 0, []),
  (2, 9, .invokevirtual 24, 3, (3, 6, 1), 0, [(0, 849)]),
  (2, 12, .ireturn, 1, (0, 0, 0), 0, [])]
def rows_3 : List mRow := [
  (3, 0, .iload_n 2, 1, (2, 0, 0), 0, []),
  (3, 1, .istore 6, 2, (6, 0, 0), 0, []),
  (3, 3, .iconst 0, 1, (0, 0, 0), 0, []),
  (3, 4, .istore 7, 2, (7, 0, 0), 0, []),
  (3, 6, .iload 7, 2, (7, 0, 0), 0, []),
  (3, 8, .bipush 7, 2, (0, 0, 0), 7, []),
  (3, 10, .if_icmp .ge 71, 3, (81, 0, 0), 0, []),
  (3, 13, .iload 6, 2, (6, 0, 0), 0, []),
  (3, 15, .ifCond .lt 66, 3, (81, 0, 0), 0, []),
  (3, 18, .iload 6, 2, (6, 0, 0), 0, []),
  (3, 20, .bipush 7, 2, (0, 0, 0), 7, []),
  (3, 22, .if_icmp .ge 59, 3, (81, 0, 0), 0, []),
  (3, 25, .getstatic 28, 3, (1, 2, 0), 0, []),
  (3, 28, .iload 6, 2, (6, 0, 0), 0, []),
  (3, 30, .iconst 3, 1, (0, 0, 0), 3, []),
  (3, 31, .imul, 1, (0, 0, 0), 0, []),
  (3, 32, .iload_n 3, 1, (3, 0, 0), 0, []),
  (3, 33, .iadd, 1, (0, 0, 0), 0, []),
  (3, 34, .iaload, 1, (0, 0, 0), 0, []),
  (3, 35, .istore 8, 2, (8, 0, 0), 0, []),
  (3, 37, .iload 8, 2, (8, 0, 0), 0, []),
  (3, 39, .ifCond .eq 28, 3, (67, 0, 0), 0, []),
  (3, 42, .iload 5, 2, (5, 0, 0), 0, []),
  (3, 44, .bipush 40, 2, (0, 0, 0), 40, []),
  (3, 46, .if_icmp .ge 19, 3, (65, 0, 0), 0, []),
  (3, 49, .aload_n 0, 1, (0, 0, 0), 0, []),
  (3, 50, .aload_n 1, 1, (1, 0, 0), 0, []),
  (3, 51, .iload 8, 2, (8, 0, 0), 0, []),
  (3, 53, .iload 4, 2, (4, 0, 0), 0, []),
  (3, 55, .iload 5, 2, (5, 0, 0), 0, []),
  (3, 57, .iconst 1, 1, (0, 0, 0), 1, []),
  (3, 58, .iadd, 1, (0, 0, 0), 0, []),
  (3, 59, .invokevirtual 31, 3, (4, 5, 1), 0, [(0, 855)]),
  (3, 62, .goto 4, 3, (66, 0, 0), 0, []),
  (3, 65, .iconst 0, 1, (0, 0, 0), 0, []),
  (3, 66, .ireturn, 1, (0, 0, 0), 0, []),
  (3, 67, .getstatic 35, 3, (1, 1, 0), 0, []),
  (3, 70, .iload 6, 2, (6, 0, 0), 0, []),
  (3, 72, .iaload, 1, (0, 0, 0), 0, []),
  (3, 73, .istore 6, 2, (6, 0, 0), 0, []),
  (3, 75, .iinc 7 1, 3, (7, 0, 0), 1, []),
  (3, 78, .goto (-72), 3, (6, 0, 0), 0, []),
  (3, 81, .iconst 0, 1, (0, 0, 0), 0, []),
  (3, 82, .ireturn, 1, (0, 0, 0), 0, [])]
def rows_4 : List mRow := [
  (4, 0, .aload_n 0, 1, (0, 0, 0), 0, []),
  (4, 1, .getfield 15, 3, (0, 1, 0), 0, [(0, 327)]),
  (4, 4, .bipush 20, 2, (0, 0, 0), 20, []),
  (4, 6, .if_icmp .ge 13, 3, (19, 0, 0), 0, []),
  (4, 9, .aload_n 0, 1, (0, 0, 0), 0, []),
  (4, 10, .getfield 9, 3, (0, 0, 1), 0, [(0, 325)]),
  (4, 13, .aload_n 0, 1, (0, 0, 0), 0, []),
  (4, 14, .getfield 15, 3, (0, 1, 0), 0, [(0, 327)]),
  (4, 17, .iload_n 2, 1, (2, 0, 0), 0, []),
  (4, 18, .iastore, 1, (0, 0, 0), 0, []),
  (4, 19, .aload_n 0, 1, (0, 0, 0), 0, []),
  (4, 20, .dup, 1, (0, 0, 0), 0, []),
  (4, 21, .getfield 15, 3, (0, 1, 0), 0, [(0, 327)]),
  (4, 24, .iconst 1, 1, (0, 0, 0), 1, []),
  (4, 25, .iadd, 1, (0, 0, 0), 0, []),
  (4, 26, .putfield 15, 3, (0, 1, 0), 0, [(0, 327)]),
  (4, 29, .iload_n 2, 1, (2, 0, 0), 0, []),
  (4, 30, .lookupswitch 271 #[(10, 98), (11, 105), (12, 124), (20, 140), (30, 154), (40, 167), (50, 192), (51, 204), (60, 217), (70, 233), (71, 255)], 98, (301, 0, 0), 0, [(10, 128), (11, 135), (12, 154), (20, 170), (30, 184), (40, 197), (50, 222), (51, 234), (60, 247), (70, 263), (71, 285)]),
  (4, 128, .iload_n 3, 1, (3, 0, 0), 0, []),
  (4, 129, .aload_n 1, 1, (1, 0, 0), 0, []),
  (4, 130, .getfield 38, 3, (3, 0, 0), 0, [(0, 146)]),
  (4, 133, .iadd, 1, (0, 0, 0), 0, []),
  (4, 134, .ireturn, 1, (0, 0, 0), 0, []),
  (4, 135, .aload_n 0, 1, (0, 0, 0), 0, []),
  (4, 136, .aload_n 1, 1, (1, 0, 0), 0, []),
  (4, 137, .aload_n 1, 1, (1, 0, 0), 0, []),
  (4, 138, .getfield 19, 3, (3, 1, 0), 0, [(0, 150)]),
  (4, 141, .iconst 0, 1, (0, 0, 0), 0, []),
  (4, 142, .iload_n 3, 1, (3, 0, 0), 0, []),
  (4, 143, .iload 4, 2, (4, 0, 0), 0, []),
  (4, 145, .invokevirtual 24, 3, (3, 6, 1), 0, [(0, 849)]),
  (4, 148, .aload_n 1, 1, (1, 0, 0), 0, []),
  (4, 149, .getfield 41, 3, (3, 2, 0), 0, [(0, 155)]),
  (4, 152, .isub, 1, (0, 0, 0), 0, []),
  (4, 153, .ireturn, 1, (0, 0, 0), 0, []),
  (4, 154, .aload_n 0, 1, (0, 0, 0), 0, []),
  (4, 155, .aload_n 1, 1, (1, 0, 0), 0, []),
  (4, 156, .aload_n 1, 1, (1, 0, 0), 0, []),
  (4, 157, .getfield 19, 3, (3, 1, 0), 0, [(0, 150)]),
  (4, 160, .iconst 1, 1, (0, 0, 0), 1, []),
  (4, 161, .iload_n 3, 1, (3, 0, 0), 0, []),
  (4, 162, .iload 4, 2, (4, 0, 0), 0, []),
  (4, 164, .invokevirtual 24, 3, (3, 6, 1), 0, [(0, 849)]),
  (4, 167, .iconst 2, 1, (0, 0, 0), 2, []),
  (4, 168, .imul, 1, (0, 0, 0), 0, []),
  (4, 169, .ireturn, 1, (0, 0, 0), 0, []),
  (4, 170, .aload_n 0, 1, (0, 0, 0), 0, []),
  (4, 171, .aload_n 1, 1, (1, 0, 0), 0, []),
  (4, 172, .iconst 0, 1, (0, 0, 0), 0, []),
  (4, 173, .iconst 1, 1, (0, 0, 0), 1, []),
  (4, 174, .iload_n 3, 1, (3, 0, 0), 0, []),
  (4, 175, .iload 4, 2, (4, 0, 0), 0, []),
  (4, 177, .invokevirtual 24, 3, (3, 6, 1), 0, [(0, 849)]),
  (4, 180, .bipush 6, 2, (0, 0, 0), 6, []),
  (4, 182, .ixor, 1, (0, 0, 0), 0, []),
  (4, 183, .ireturn, 1, (0, 0, 0), 0, []),
  (4, 184, .aload_n 0, 1, (0, 0, 0), 0, []),
  (4, 185, .aload_n 1, 1, (1, 0, 0), 0, []),
  (4, 186, .iconst 0, 1, (0, 0, 0), 0, []),
  (4, 187, .iconst 0, 1, (0, 0, 0), 0, []),
  (4, 188, .iload_n 3, 1, (3, 0, 0), 0, []),
  (4, 189, .iconst 3, 1, (0, 0, 0), 3, []),
  (4, 190, .imul, 1, (0, 0, 0), 0, []),
  (4, 191, .iload 4, 2, (4, 0, 0), 0, []),
  (4, 193, .invokevirtual 24, 3, (3, 6, 1), 0, [(0, 849)]),
  (4, 196, .ireturn, 1, (0, 0, 0), 0, []),
  (4, 197, .aload_n 0, 1, (0, 0, 0), 0, []),
  (4, 198, .aload_n 1, 1, (1, 0, 0), 0, []),
  (4, 199, .iconst 0, 1, (0, 0, 0), 0, []),
  (4, 200, .iconst 2, 1, (0, 0, 0), 2, []),
  (4, 201, .iload_n 3, 1, (3, 0, 0), 0, []),
  (4, 202, .iload 4, 2, (4, 0, 0), 0, []),
  (4, 204, .invokevirtual 24, 3, (3, 6, 1), 0, [(0, 849)]),
  (4, 207, .aload_n 0, 1, (0, 0, 0), 0, []),
  (4, 208, .aload_n 1, 1, (1, 0, 0), 0, []),
  (4, 209, .aload_n 1, 1, (1, 0, 0), 0, []),
  (4, 210, .getfield 19, 3, (3, 1, 0), 0, [(0, 150)]),
  (4, 213, .iconst 1, 1, (0, 0, 0), 1, []),
  (4, 214, .iconst 1, 1, (0, 0, 0), 1, []),
  (4, 215, .iload 4, 2, (4, 0, 0), 0, []),
  (4, 217, .invokevirtual 24, 3, (3, 6, 1), 0, [(0, 849)]),
  (4, 220, .iadd, 1, (0, 0, 0), 0, []),
  (4, 221, .ireturn, 1, (0, 0, 0), 0, []),
  (4, 222, .aload_n 0, 1, (0, 0, 0), 0, []),
  (4, 223, .aload_n 1, 1, (1, 0, 0), 0, []),
  (4, 224, .iconst 1, 1, (0, 0, 0), 1, []),
  (4, 225, .iconst 0, 1, (0, 0, 0), 0, []),
  (4, 226, .iload_n 3, 1, (3, 0, 0), 0, []),
  (4, 227, .iload 4, 2, (4, 0, 0), 0, []),
  (4, 229, .invokevirtual 24, 3, (3, 6, 1), 0, [(0, 849)]),
  (4, 232, .ineg, 1, (0, 0, 0), 0, []),
  (4, 233, .ireturn, 1, (0, 0, 0), 0, []),
  (4, 234, .aload_n 0, 1, (0, 0, 0), 0, []),
  (4, 235, .aload_n 1, 1, (1, 0, 0), 0, []),
  (4, 236, .iconst 1, 1, (0, 0, 0), 1, []),
  (4, 237, .iconst 1, 1, (0, 0, 0), 1, []),
  (4, 238, .iload_n 3, 1, (3, 0, 0), 0, []),
  (4, 239, .iconst 1, 1, (0, 0, 0), 1, []),
  (4, 240, .iadd, 1, (0, 0, 0), 0, []),
  (4, 241, .iload 4, 2, (4, 0, 0), 0, []),
  (4, 243, .invokevirtual 24, 3, (3, 6, 1), 0, [(0, 849)]),
  (4, 246, .ireturn, 1, (0, 0, 0), 0, []),
  (4, 247, .aload_n 0, 1, (0, 0, 0), 0, []),
  (4, 248, .aload_n 1, 1, (1, 0, 0), 0, []),
  (4, 249, .iconst 2, 1, (0, 0, 0), 2, []),
  (4, 250, .iconst 2, 1, (0, 0, 0), 2, []),
  (4, 251, .iload_n 3, 1, (3, 0, 0), 0, []),
  (4, 252, .aload_n 1, 1, (1, 0, 0), 0, []),
  (4, 253, .getfield 38, 3, (3, 0, 0), 0, [(0, 146)]),
  (4, 256, .isub, 1, (0, 0, 0), 0, []),
  (4, 257, .iload 4, 2, (4, 0, 0), 0, []),
  (4, 259, .invokevirtual 24, 3, (3, 6, 1), 0, [(0, 849)]),
  (4, 262, .ireturn, 1, (0, 0, 0), 0, []),
  (4, 263, .aload_n 0, 1, (0, 0, 0), 0, []),
  (4, 264, .aload_n 1, 1, (1, 0, 0), 0, []),
  (4, 265, .iconst 3, 1, (0, 0, 0), 3, []),
  (4, 266, .iconst 1, 1, (0, 0, 0), 1, []),
  (4, 267, .iload_n 3, 1, (3, 0, 0), 0, []),
  (4, 268, .iload 4, 2, (4, 0, 0), 0, []),
  (4, 270, .invokevirtual 24, 3, (3, 6, 1), 0, [(0, 849)]),
  (4, 273, .aload_n 0, 1, (0, 0, 0), 0, []),
  (4, 274, .aload_n 1, 1, (1, 0, 0), 0, []),
  (4, 275, .iconst 3, 1, (0, 0, 0), 3, []),
  (4, 276, .iconst 0, 1, (0, 0, 0), 0, []),
  (4, 277, .iconst 2, 1, (0, 0, 0), 2, []),
  (4, 278, .iload 4, 2, (4, 0, 0), 0, []),
  (4, 280, .invokevirtual 24, 3, (3, 6, 1), 0, [(0, 849)]),
  (4, 283, .iadd, 1, (0, 0, 0), 0, []),
  (4, 284, .ireturn, 1, (0, 0, 0), 0, []),
  (4, 285, .aload_n 0, 1, (0, 0, 0), 0, []),
  (4, 286, .aload_n 1, 1, (1, 0, 0), 0, []),
  (4, 287, .iconst 3, 1, (0, 0, 0), 3, []),
  (4, 288, .iconst 0, 1, (0, 0, 0), 0, []),
  (4, 289, .iload_n 3, 1, (3, 0, 0), 0, []),
  (4, 290, .iload 4, 2, (4, 0, 0), 0, []),
  (4, 292, .invokevirtual 24, 3, (3, 6, 1), 0, [(0, 849)]),
  (4, 295, .aload_n 1, 1, (1, 0, 0), 0, []),
  (4, 296, .getfield 41, 3, (3, 2, 0), 0, [(0, 155)]),
  (4, 299, .ixor, 1, (0, 0, 0), 0, []),
  (4, 300, .ireturn, 1, (0, 0, 0), 0, []),
  (4, 301, .iconst 0, 1, (0, 0, 0), 0, []),
  (4, 302, .ireturn, 1, (0, 0, 0), 0, [])]
def rows_5 : List mRow := [
  (5, 0, .aload_n 0, 1, (0, 0, 0), 0, []),
  (5, 1, .invokespecial 3, 3, (0, 0, 0), 2, [(0, 295)]),
  (5, 4, .aload_n 0, 1, (0, 0, 0), 0, []),
  (5, 5, .new 9, 3, (3, 7, 0), 0, [(0, 296)]),
  (5, 8, .dup, 1, (0, 0, 0), 0, []),
  (5, 9, .invokespecial 11, 3, (39, 1, 0), 0, []),
  (5, 12, .putfield 12, 3, (1, 0, 1), 0, [(0, 298)]),
  (5, 15, .aload_n 0, 1, (0, 0, 0), 0, []),
  (5, 16, .bipush 64, 2, (0, 0, 0), 64, []),
  (5, 18, .newarray .int, 2, (100, 0, 0), 0, []),
  (5, 20, .putfield 18, 3, (1, 1, 1), 0, [(0, 300)]),
  (5, 23, .aload_n 0, 1, (0, 0, 0), 0, []),
  (5, 24, .bipush 6, 2, (0, 0, 0), 6, []),
  (5, 26, .newarray .int, 2, (100, 0, 0), 0, []),
  (5, 28, .putfield 22, 3, (1, 2, 1), 0, [(0, 302)]),
  (5, 31, .aload_n 0, 1, (0, 0, 0), 0, []),
  (5, 32, .bipush 36, 2, (0, 0, 0), 36, []),
  (5, 34, .newarray .int, 2, (100, 0, 0), 0, []),
  (5, 36, .putfield 25, 3, (1, 3, 1), 0, [(0, 303)]),
  (5, 39, .aload_n 0, 1, (0, 0, 0), 0, []),
  (5, 40, .bipush 36, 2, (0, 0, 0), 36, []),
  (5, 42, .newarray .int, 2, (100, 0, 0), 0, []),
  (5, 44, .putfield 28, 3, (1, 4, 1), 0, [(0, 304)]),
  (5, 47, .aload_n 0, 1, (0, 0, 0), 0, []),
  (5, 48, .bipush 6, 2, (0, 0, 0), 6, []),
  (5, 50, .newarray .int, 2, (100, 0, 0), 0, []),
  (5, 52, .putfield 31, 3, (1, 5, 1), 0, [(0, 305)]),
  (5, 55, .return_, 1, (0, 0, 0), 0, [])]
def rows_6 : List mRow := [
  (6, 0, .aload_n 0, 1, (0, 0, 0), 0, []),
  (6, 1, .getfield 12, 3, (1, 0, 1), 0, [(0, 298)]),
  (6, 4, .aload_n 1, 1, (1, 0, 0), 0, []),
  (6, 5, .invokevirtual 34, 3, (41, 2, 0), 0, [(0, 638)]),
  (6, 8, .aload_n 0, 1, (0, 0, 0), 0, []),
  (6, 9, .getfield 12, 3, (1, 0, 1), 0, [(0, 298)]),
  (6, 12, .iload_n 2, 1, (2, 0, 0), 0, []),
  (6, 13, .invokevirtual 38, 3, (42, 2, 0), 0, [(0, 645)]),
  (6, 16, .aload_n 0, 1, (0, 0, 0), 0, []),
  (6, 17, .getfield 12, 3, (1, 0, 1), 0, [(0, 298)]),
  (6, 20, .areturn, 1, (0, 0, 0), 0, [])]
def rows_7 : List mRow := [
  (7, 0, .iconst 0, 1, (0, 0, 0), 0, []),
  (7, 1, .istore_n 3, 1, (3, 0, 0), 0, []),
  (7, 2, .aload_n 1, 1, (1, 0, 0), 0, []),
  (7, 3, .aload_n 2, 1, (2, 0, 0), 0, []),
  (7, 4, .iconst 0, 1, (0, 0, 0), 0, []),
  (7, 5, .invokevirtual 42, 3, (36, 3, 1), 0, [(0, 661)]),
  (7, 8, .istore 4, 2, (4, 0, 0), 0, []),
  (7, 10, .iconst 1, 1, (0, 0, 0), 1, []),
  (7, 11, .istore 5, 2, (5, 0, 0), 0, []),
  (7, 13, .iload 5, 2, (5, 0, 0), 0, []),
  (7, 15, .bipush 24, 2, (0, 0, 0), 24, []),
  (7, 17, .if_icmp .ge 32, 3, (49, 0, 0), 0, []),
  (7, 20, .aload_n 1, 1, (1, 0, 0), 0, []),
  (7, 21, .aload_n 2, 1, (2, 0, 0), 0, []),
  (7, 22, .iload 5, 2, (5, 0, 0), 0, []),
  (7, 24, .invokevirtual 42, 3, (36, 3, 1), 0, [(0, 661)]),
  (7, 27, .istore 6, 2, (6, 0, 0), 0, []),
  (7, 29, .iload 6, 2, (6, 0, 0), 0, []),
  (7, 31, .iload 4, 2, (4, 0, 0), 0, []),
  (7, 33, .if_icmp .ge 10, 3, (43, 0, 0), 0, []),
  (7, 36, .iload 6, 2, (6, 0, 0), 0, []),
  (7, 38, .istore 4, 2, (4, 0, 0), 0, []),
  (7, 40, .iload 5, 2, (5, 0, 0), 0, []),
  (7, 42, .istore_n 3, 1, (3, 0, 0), 0, []),
  (7, 43, .iinc 5 1, 3, (5, 0, 0), 1, []),
  (7, 46, .goto (-33), 3, (13, 0, 0), 0, []),
  (7, 49, .iload_n 3, 1, (3, 0, 0), 0, []),
  (7, 50, .ireturn, 1, (0, 0, 0), 0, [])]
def rows_8 : List mRow := [
  (8, 0, .aload_n 0, 1, (0, 0, 0), 0, []),
  (8, 1, .getfield 12, 3, (1, 0, 1), 0, [(0, 298)]),
  (8, 4, .aload_n 2, 1, (2, 0, 0), 0, []),
  (8, 5, .invokevirtual 34, 3, (41, 2, 0), 0, [(0, 638)]),
  (8, 8, .aload_n 1, 1, (1, 0, 0), 0, []),
  (8, 9, .aload_n 0, 1, (0, 0, 0), 0, []),
  (8, 10, .getfield 12, 3, (1, 0, 1), 0, [(0, 298)]),
  (8, 13, .iload_n 3, 1, (3, 0, 0), 0, []),
  (8, 14, .invokevirtual 42, 3, (36, 3, 1), 0, [(0, 661)]),
  (8, 17, .istore 4, 2, (4, 0, 0), 0, []),
  (8, 19, .iconst 1, 1, (0, 0, 0), 1, []),
  (8, 20, .istore 5, 2, (5, 0, 0), 0, []),
  (8, 22, .iload 5, 2, (5, 0, 0), 0, []),
  (8, 24, .bipush 60, 2, (0, 0, 0), 60, []),
  (8, 26, .if_icmp .gt 42, 3, (68, 0, 0), 0, []),
  (8, 29, .aload_n 0, 1, (0, 0, 0), 0, []),
  (8, 30, .getfield 12, 3, (1, 0, 1), 0, [(0, 298)]),
  (8, 33, .iconst 1, 1, (0, 0, 0), 1, []),
  (8, 34, .invokevirtual 38, 3, (42, 2, 0), 0, [(0, 645)]),
  (8, 37, .aload_n 1, 1, (1, 0, 0), 0, []),
  (8, 38, .aload_n 0, 1, (0, 0, 0), 0, []),
  (8, 39, .getfield 12, 3, (1, 0, 1), 0, [(0, 298)]),
  (8, 42, .iload_n 3, 1, (3, 0, 0), 0, []),
  (8, 43, .invokevirtual 42, 3, (36, 3, 1), 0, [(0, 661)]),
  (8, 46, .istore 6, 2, (6, 0, 0), 0, []),
  (8, 48, .iload 6, 2, (6, 0, 0), 0, []),
  (8, 50, .iload 4, 2, (4, 0, 0), 0, []),
  (8, 52, .if_icmp .le 6, 3, (58, 0, 0), 0, []),
  (8, 55, .iload 5, 2, (5, 0, 0), 0, []),
  (8, 57, .ireturn, 1, (0, 0, 0), 0, []),
  (8, 58, .iload 6, 2, (6, 0, 0), 0, []),
  (8, 60, .istore 4, 2, (4, 0, 0), 0, []),
  (8, 62, .iinc 5 1, 3, (5, 0, 0), 1, []),
  (8, 65, .goto (-43), 3, (22, 0, 0), 0, []),
  (8, 68, .bipush (-5), 2, (0, 0, 0), (-5), []),
  (8, 70, .ireturn, 1, (0, 0, 0), 0, [])]
def rows_9 : List mRow := [
  (9, 0, .iconst 0, 1, (0, 0, 0), 0, []),
  (9, 1, .istore_n 3, 1, (3, 0, 0), 0, []),
  (9, 2, .iconst 0, 1, (0, 0, 0), 0, []),
  (9, 3, .istore 4, 2, (4, 0, 0), 0, []),
  (9, 5, .iload 4, 2, (4, 0, 0), 0, []),
  (9, 7, .aload_n 1, 1, (1, 0, 0), 0, []),
  (9, 8, .getfield 48, 3, (7, 1, 0), 0, [(0, 190)]),
  (9, 11, .if_icmp .ge 40, 3, (51, 0, 0), 0, []),
  (9, 14, .iload 4, 2, (4, 0, 0), 0, []),
  (9, 16, .bipush 6, 2, (0, 0, 0), 6, []),
  (9, 18, .if_icmp .ge 33, 3, (51, 0, 0), 0, []),
  (9, 21, .aload_n 1, 1, (1, 0, 0), 0, []),
  (9, 22, .getfield 54, 3, (7, 0, 1), 0, [(0, 187)]),
  (9, 25, .iload 4, 2, (4, 0, 0), 0, []),
  (9, 27, .aaload, 1, (0, 0, 0), 0, []),
  (9, 28, .getfield 58, 3, (3, 4, 0), 0, [(0, 162)]),
  (9, 31, .ifCond .ne 14, 3, (45, 0, 0), 0, []),
  (9, 34, .aload_n 0, 1, (0, 0, 0), 0, []),
  (9, 35, .getfield 22, 3, (1, 2, 1), 0, [(0, 302)]),
  (9, 38, .iload_n 3, 1, (3, 0, 0), 0, []),
  (9, 39, .iload 4, 2, (4, 0, 0), 0, []),
  (9, 41, .iastore, 1, (0, 0, 0), 0, []),
  (9, 42, .iinc 3 1, 3, (3, 0, 0), 1, []),
  (9, 45, .iinc 4 1, 3, (4, 0, 0), 1, []),
  (9, 48, .goto (-43), 3, (5, 0, 0), 0, []),
  (9, 51, .iconst 0, 1, (0, 0, 0), 0, []),
  (9, 52, .istore 4, 2, (4, 0, 0), 0, []),
  (9, 54, .iload 4, 2, (4, 0, 0), 0, []),
  (9, 56, .iload_n 3, 1, (3, 0, 0), 0, []),
  (9, 57, .if_icmp .ge 67, 3, (124, 0, 0), 0, []),
  (9, 60, .aload_n 1, 1, (1, 0, 0), 0, []),
  (9, 61, .getfield 62, 3, (7, 2, 0), 0, [(0, 193)]),
  (9, 64, .iload 4, 2, (4, 0, 0), 0, []),
  (9, 66, .iadd, 1, (0, 0, 0), 0, []),
  (9, 67, .bipush 24, 2, (0, 0, 0), 24, []),
  (9, 69, .irem, 1, (0, 0, 0), 0, []),
  (9, 70, .istore 5, 2, (5, 0, 0), 0, []),
  (9, 72, .iconst 0, 1, (0, 0, 0), 0, []),
  (9, 73, .istore 6, 2, (6, 0, 0), 0, []),
  (9, 75, .iload 6, 2, (6, 0, 0), 0, []),
  (9, 77, .iload_n 3, 1, (3, 0, 0), 0, []),
  (9, 78, .if_icmp .ge 40, 3, (118, 0, 0), 0, []),
  (9, 81, .aload_n 0, 1, (0, 0, 0), 0, []),
  (9, 82, .getfield 25, 3, (1, 3, 1), 0, [(0, 303)]),
  (9, 85, .iload 4, 2, (4, 0, 0), 0, []),
  (9, 87, .bipush 6, 2, (0, 0, 0), 6, []),
  (9, 89, .imul, 1, (0, 0, 0), 0, []),
  (9, 90, .iload 6, 2, (6, 0, 0), 0, []),
  (9, 92, .iadd, 1, (0, 0, 0), 0, []),
  (9, 93, .aload_n 2, 1, (2, 0, 0), 0, []),
  (9, 94, .aload_n 1, 1, (1, 0, 0), 0, []),
  (9, 95, .getfield 54, 3, (7, 0, 1), 0, [(0, 187)]),
  (9, 98, .aload_n 0, 1, (0, 0, 0), 0, []),
  (9, 99, .getfield 22, 3, (1, 2, 1), 0, [(0, 302)]),
  (9, 102, .iload 6, 2, (6, 0, 0), 0, []),
  (9, 104, .iaload, 1, (0, 0, 0), 0, []),
  (9, 105, .aaload, 1, (0, 0, 0), 0, []),
  (9, 106, .iload 5, 2, (5, 0, 0), 0, []),
  (9, 108, .invokevirtual 42, 3, (36, 3, 1), 0, [(0, 661)]),
  (9, 111, .iastore, 1, (0, 0, 0), 0, []),
  (9, 112, .iinc 6 1, 3, (6, 0, 0), 1, []),
  (9, 115, .goto (-40), 3, (75, 0, 0), 0, []),
  (9, 118, .iinc 4 1, 3, (4, 0, 0), 1, []),
  (9, 121, .goto (-67), 3, (54, 0, 0), 0, []),
  (9, 124, .iconst 1, 1, (0, 0, 0), 1, []),
  (9, 125, .iload_n 3, 1, (3, 0, 0), 0, []),
  (9, 126, .ishl, 1, (0, 0, 0), 0, []),
  (9, 127, .iconst 1, 1, (0, 0, 0), 1, []),
  (9, 128, .isub, 1, (0, 0, 0), 0, []),
  (9, 129, .istore 4, 2, (4, 0, 0), 0, []),
  (9, 131, .aload_n 0, 1, (0, 0, 0), 0, []),
  (9, 132, .getfield 18, 3, (1, 1, 1), 0, [(0, 300)]),
  (9, 135, .iload 4, 2, (4, 0, 0), 0, []),
  (9, 137, .iconst 0, 1, (0, 0, 0), 0, []),
  (9, 138, .iastore, 1, (0, 0, 0), 0, []),
  (9, 139, .iload 4, 2, (4, 0, 0), 0, []),
  (9, 141, .iconst 1, 1, (0, 0, 0), 1, []),
  (9, 142, .isub, 1, (0, 0, 0), 0, []),
  (9, 143, .istore 5, 2, (5, 0, 0), 0, []),
  (9, 145, .iload 5, 2, (5, 0, 0), 0, []),
  (9, 147, .ifCond .lt 29, 3, (176, 0, 0), 0, []),
  (9, 150, .aload_n 0, 1, (0, 0, 0), 0, []),
  (9, 151, .getfield 18, 3, (1, 1, 1), 0, [(0, 300)]),
  (9, 154, .iload 5, 2, (5, 0, 0), 0, []),
  (9, 156, .aload_n 0, 1, (0, 0, 0), 0, []),
  (9, 157, .iload 5, 2, (5, 0, 0), 0, []),
  (9, 159, .aload_n 0, 1, (0, 0, 0), 0, []),
  (9, 160, .iload 5, 2, (5, 0, 0), 0, []),
  (9, 162, .iload_n 3, 1, (3, 0, 0), 0, []),
  (9, 163, .invokevirtual 65, 3, (11, 3, 1), 0, [(0, 674)]),
  (9, 166, .invokevirtual 69, 3, (10, 3, 1), 0, [(0, 678)]),
  (9, 169, .iastore, 1, (0, 0, 0), 0, []),
  (9, 170, .iinc 5 (-1), 3, (5, 0, 0), (-1), []),
  (9, 173, .goto (-28), 3, (145, 0, 0), 0, []),
  (9, 176, .iload_n 3, 1, (3, 0, 0), 0, []),
  (9, 177, .ireturn, 1, (0, 0, 0), 0, [])]
def rows_10 : List mRow := [
  (10, 0, .aload_n 0, 1, (0, 0, 0), 0, []),
  (10, 1, .getfield 25, 3, (1, 3, 1), 0, [(0, 303)]),
  (10, 4, .iload_n 1, 1, (1, 0, 0), 0, []),
  (10, 5, .invokestatic 72, 3, (220, 1, 1), 0, [(0, 682)]),
  (10, 8, .bipush 6, 2, (0, 0, 0), 6, []),
  (10, 10, .imul, 1, (0, 0, 0), 0, []),
  (10, 11, .iload_n 2, 1, (2, 0, 0), 0, []),
  (10, 12, .iadd, 1, (0, 0, 0), 0, []),
  (10, 13, .iaload, 1, (0, 0, 0), 0, []),
  (10, 14, .aload_n 0, 1, (0, 0, 0), 0, []),
  (10, 15, .getfield 18, 3, (1, 1, 1), 0, [(0, 300)]),
  (10, 18, .iload_n 1, 1, (1, 0, 0), 0, []),
  (10, 19, .iconst 1, 1, (0, 0, 0), 1, []),
  (10, 20, .iload_n 2, 1, (2, 0, 0), 0, []),
  (10, 21, .ishl, 1, (0, 0, 0), 0, []),
  (10, 22, .ior, 1, (0, 0, 0), 0, []),
  (10, 23, .iaload, 1, (0, 0, 0), 0, []),
  (10, 24, .iadd, 1, (0, 0, 0), 0, []),
  (10, 25, .ireturn, 1, (0, 0, 0), 0, [])]
def rows_11 : List mRow := [
  (11, 0, .iconst (-1), 1, (0, 0, 0), (-1), []),
  (11, 1, .istore_n 3, 1, (3, 0, 0), 0, []),
  (11, 2, .iconst 0, 1, (0, 0, 0), 0, []),
  (11, 3, .istore 4, 2, (4, 0, 0), 0, []),
  (11, 5, .iload 4, 2, (4, 0, 0), 0, []),
  (11, 7, .iload_n 2, 1, (2, 0, 0), 0, []),
  (11, 8, .if_icmp .ge 41, 3, (49, 0, 0), 0, []),
  (11, 11, .iload_n 1, 1, (1, 0, 0), 0, []),
  (11, 12, .iload 4, 2, (4, 0, 0), 0, []),
  (11, 14, .ishr, 1, (0, 0, 0), 0, []),
  (11, 15, .iconst 1, 1, (0, 0, 0), 1, []),
  (11, 16, .iand, 1, (0, 0, 0), 0, []),
  (11, 17, .ifCond .ne 26, 3, (43, 0, 0), 0, []),
  (11, 20, .iload_n 3, 1, (3, 0, 0), 0, []),
  (11, 21, .ifCond .lt 19, 3, (40, 0, 0), 0, []),
  (11, 24, .aload_n 0, 1, (0, 0, 0), 0, []),
  (11, 25, .iload_n 1, 1, (1, 0, 0), 0, []),
  (11, 26, .iload 4, 2, (4, 0, 0), 0, []),
  (11, 28, .invokevirtual 69, 3, (10, 3, 1), 0, [(0, 678)]),
  (11, 31, .aload_n 0, 1, (0, 0, 0), 0, []),
  (11, 32, .iload_n 1, 1, (1, 0, 0), 0, []),
  (11, 33, .iload_n 3, 1, (3, 0, 0), 0, []),
  (11, 34, .invokevirtual 69, 3, (10, 3, 1), 0, [(0, 678)]),
  (11, 37, .if_icmp .ge 6, 3, (43, 0, 0), 0, []),
  (11, 40, .iload 4, 2, (4, 0, 0), 0, []),
  (11, 42, .istore_n 3, 1, (3, 0, 0), 0, []),
  (11, 43, .iinc 4 1, 3, (4, 0, 0), 1, []),
  (11, 46, .goto (-41), 3, (5, 0, 0), 0, []),
  (11, 49, .iconst 0, 1, (0, 0, 0), 0, []),
  (11, 50, .iload_n 3, 1, (3, 0, 0), 0, []),
  (11, 51, .invokestatic 78, 3, (0, 0, 0), 5, [(0, 683)]),
  (11, 54, .ireturn, 1, (0, 0, 0), 0, [])]
def rows_12 : List mRow := [
  (12, 0, .iconst 0, 1, (0, 0, 0), 0, []),
  (12, 1, .istore_n 3, 1, (3, 0, 0), 0, []),
  (12, 2, .iconst 0, 1, (0, 0, 0), 0, []),
  (12, 3, .istore 4, 2, (4, 0, 0), 0, []),
  (12, 5, .iload 4, 2, (4, 0, 0), 0, []),
  (12, 7, .iload_n 2, 1, (2, 0, 0), 0, []),
  (12, 8, .if_icmp .ge 38, 3, (46, 0, 0), 0, []),
  (12, 11, .aload_n 0, 1, (0, 0, 0), 0, []),
  (12, 12, .iload_n 3, 1, (3, 0, 0), 0, []),
  (12, 13, .iload_n 2, 1, (2, 0, 0), 0, []),
  (12, 14, .invokevirtual 65, 3, (11, 3, 1), 0, [(0, 674)]),
  (12, 17, .istore 5, 2, (5, 0, 0), 0, []),
  (12, 19, .iload 4, 2, (4, 0, 0), 0, []),
  (12, 21, .iload_n 1, 1, (1, 0, 0), 0, []),
  (12, 22, .if_icmp .ne 11, 3, (33, 0, 0), 0, []),
  (12, 25, .aload_n 0, 1, (0, 0, 0), 0, []),
  (12, 26, .getfield 22, 3, (1, 2, 1), 0, [(0, 302)]),
  (12, 29, .iload 5, 2, (5, 0, 0), 0, []),
  (12, 31, .iaload, 1, (0, 0, 0), 0, []),
  (12, 32, .ireturn, 1, (0, 0, 0), 0, []),
  (12, 33, .iload_n 3, 1, (3, 0, 0), 0, []),
  (12, 34, .iconst 1, 1, (0, 0, 0), 1, []),
  (12, 35, .iload 5, 2, (5, 0, 0), 0, []),
  (12, 37, .ishl, 1, (0, 0, 0), 0, []),
  (12, 38, .ior, 1, (0, 0, 0), 0, []),
  (12, 39, .istore_n 3, 1, (3, 0, 0), 0, []),
  (12, 40, .iinc 4 1, 3, (4, 0, 0), 1, []),
  (12, 43, .goto (-38), 3, (5, 0, 0), 0, []),
  (12, 46, .bipush (-5), 2, (0, 0, 0), (-5), []),
  (12, 48, .ireturn, 1, (0, 0, 0), 0, [])]
def rows_13 : List mRow := [
  (13, 0, .iconst 0, 1, (0, 0, 0), 0, []),
  (13, 1, .istore 4, 2, (4, 0, 0), 0, []),
  (13, 3, .iload 4, 2, (4, 0, 0), 0, []),
  (13, 5, .aload_n 1, 1, (1, 0, 0), 0, []),
  (13, 6, .getfield 48, 3, (7, 1, 0), 0, [(0, 190)]),
  (13, 9, .if_icmp .ge 59, 3, (68, 0, 0), 0, []),
  (13, 12, .iload 4, 2, (4, 0, 0), 0, []),
  (13, 14, .bipush 6, 2, (0, 0, 0), 6, []),
  (13, 16, .if_icmp .ge 52, 3, (68, 0, 0), 0, []),
  (13, 19, .iconst 0, 1, (0, 0, 0), 0, []),
  (13, 20, .istore 5, 2, (5, 0, 0), 0, []),
  (13, 22, .iload 5, 2, (5, 0, 0), 0, []),
  (13, 24, .bipush 6, 2, (0, 0, 0), 6, []),
  (13, 26, .if_icmp .ge 36, 3, (62, 0, 0), 0, []),
  (13, 29, .aload_n 0, 1, (0, 0, 0), 0, []),
  (13, 30, .getfield 28, 3, (1, 4, 1), 0, [(0, 304)]),
  (13, 33, .iload 4, 2, (4, 0, 0), 0, []),
  (13, 35, .bipush 6, 2, (0, 0, 0), 6, []),
  (13, 37, .imul, 1, (0, 0, 0), 0, []),
  (13, 38, .iload 5, 2, (5, 0, 0), 0, []),
  (13, 40, .iadd, 1, (0, 0, 0), 0, []),
  (13, 41, .aload_n 2, 1, (2, 0, 0), 0, []),
  (13, 42, .aload_n 1, 1, (1, 0, 0), 0, []),
  (13, 43, .getfield 54, 3, (7, 0, 1), 0, [(0, 187)]),
  (13, 46, .iload 4, 2, (4, 0, 0), 0, []),
  (13, 48, .aaload, 1, (0, 0, 0), 0, []),
  (13, 49, .iload 5, 2, (5, 0, 0), 0, []),
  (13, 51, .iload_n 3, 1, (3, 0, 0), 0, []),
  (13, 52, .invokevirtual 83, 3, (30, 4, 1), 0, [(0, 696)]),
  (13, 55, .iastore, 1, (0, 0, 0), 0, []),
  (13, 56, .iinc 5 1, 3, (5, 0, 0), 1, []),
  (13, 59, .goto (-37), 3, (22, 0, 0), 0, []),
  (13, 62, .iinc 4 1, 3, (4, 0, 0), 1, []),
  (13, 65, .goto (-62), 3, (3, 0, 0), 0, []),
  (13, 68, .return_, 1, (0, 0, 0), 0, [])]
def rows_14 : List mRow := [
  (14, 0, .iconst 0, 1, (0, 0, 0), 0, []),
  (14, 1, .istore 4, 2, (4, 0, 0), 0, []),
  (14, 3, .iconst 0, 1, (0, 0, 0), 0, []),
  (14, 4, .istore 5, 2, (5, 0, 0), 0, []),
  (14, 6, .iload 5, 2, (5, 0, 0), 0, []),
  (14, 8, .bipush 6, 2, (0, 0, 0), 6, []),
  (14, 10, .if_icmp .ge 56, 3, (66, 0, 0), 0, []),
  (14, 13, .aload_n 0, 1, (0, 0, 0), 0, []),
  (14, 14, .getfield 28, 3, (1, 4, 1), 0, [(0, 304)]),
  (14, 17, .iload_n 2, 1, (2, 0, 0), 0, []),
  (14, 18, .bipush 6, 2, (0, 0, 0), 6, []),
  (14, 20, .imul, 1, (0, 0, 0), 0, []),
  (14, 21, .iload 5, 2, (5, 0, 0), 0, []),
  (14, 23, .iadd, 1, (0, 0, 0), 0, []),
  (14, 24, .iaload, 1, (0, 0, 0), 0, []),
  (14, 25, .aload_n 0, 1, (0, 0, 0), 0, []),
  (14, 26, .getfield 28, 3, (1, 4, 1), 0, [(0, 304)]),
  (14, 29, .iload_n 3, 1, (3, 0, 0), 0, []),
  (14, 30, .bipush 6, 2, (0, 0, 0), 6, []),
  (14, 32, .imul, 1, (0, 0, 0), 0, []),
  (14, 33, .iload 5, 2, (5, 0, 0), 0, []),
  (14, 35, .iadd, 1, (0, 0, 0), 0, []),
  (14, 36, .iaload, 1, (0, 0, 0), 0, []),
  (14, 37, .invokestatic 78, 3, (0, 0, 0), 5, [(0, 683)]),
  (14, 40, .istore 6, 2, (6, 0, 0), 0, []),
  (14, 42, .iload 6, 2, (6, 0, 0), 0, []),
  (14, 44, .aload_n 1, 1, (1, 0, 0), 0, []),
  (14, 45, .getfield 87, 3, (2, 0, 0), 0, [(0, 231)]),
  (14, 48, .if_icmp .ge 12, 3, (60, 0, 0), 0, []),
  (14, 51, .iload 4, 2, (4, 0, 0), 0, []),
  (14, 53, .aload_n 1, 1, (1, 0, 0), 0, []),
  (14, 54, .getfield 90, 3, (2, 2, 0), 0, [(0, 238)]),
  (14, 57, .iadd, 1, (0, 0, 0), 0, []),
  (14, 58, .istore 4, 2, (4, 0, 0), 0, []),
  (14, 60, .iinc 5 1, 3, (5, 0, 0), 1, []),
  (14, 63, .goto (-57), 3, (6, 0, 0), 0, []),
  (14, 66, .iload 4, 2, (4, 0, 0), 0, []),
  (14, 68, .ireturn, 1, (0, 0, 0), 0, [])]
def rows_15 : List mRow := [
  (15, 0, .iconst 0, 1, (0, 0, 0), 0, []),
  (15, 1, .istore_n 3, 1, (3, 0, 0), 0, []),
  (15, 2, .iconst 0, 1, (0, 0, 0), 0, []),
  (15, 3, .istore 4, 2, (4, 0, 0), 0, []),
  (15, 5, .iload 4, 2, (4, 0, 0), 0, []),
  (15, 7, .aload_n 1, 1, (1, 0, 0), 0, []),
  (15, 8, .getfield 48, 3, (7, 1, 0), 0, [(0, 190)]),
  (15, 11, .if_icmp .ge 70, 3, (81, 0, 0), 0, []),
  (15, 14, .iload 4, 2, (4, 0, 0), 0, []),
  (15, 16, .bipush 6, 2, (0, 0, 0), 6, []),
  (15, 18, .if_icmp .ge 63, 3, (81, 0, 0), 0, []),
  (15, 21, .iconst 0, 1, (0, 0, 0), 0, []),
  (15, 22, .istore 5, 2, (5, 0, 0), 0, []),
  (15, 24, .iload 5, 2, (5, 0, 0), 0, []),
  (15, 26, .bipush 6, 2, (0, 0, 0), 6, []),
  (15, 28, .if_icmp .ge 47, 3, (75, 0, 0), 0, []),
  (15, 31, .aload_n 1, 1, (1, 0, 0), 0, []),
  (15, 32, .getfield 54, 3, (7, 0, 1), 0, [(0, 187)]),
  (15, 35, .iload 4, 2, (4, 0, 0), 0, []),
  (15, 37, .aaload, 1, (0, 0, 0), 0, []),
  (15, 38, .getfield 58, 3, (3, 4, 0), 0, [(0, 162)]),
  (15, 41, .ifCond .ne 34, 3, (75, 0, 0), 0, []),
  (15, 44, .iload_n 3, 1, (3, 0, 0), 0, []),
  (15, 45, .aload_n 0, 1, (0, 0, 0), 0, []),
  (15, 46, .getfield 28, 3, (1, 4, 1), 0, [(0, 304)]),
  (15, 49, .iload 4, 2, (4, 0, 0), 0, []),
  (15, 51, .bipush 6, 2, (0, 0, 0), 6, []),
  (15, 53, .imul, 1, (0, 0, 0), 0, []),
  (15, 54, .iload 5, 2, (5, 0, 0), 0, []),
  (15, 56, .iadd, 1, (0, 0, 0), 0, []),
  (15, 57, .iaload, 1, (0, 0, 0), 0, []),
  (15, 58, .iload_n 2, 1, (2, 0, 0), 0, []),
  (15, 59, .if_icmp .ge 7, 3, (66, 0, 0), 0, []),
  (15, 62, .iconst 1, 1, (0, 0, 0), 1, []),
  (15, 63, .goto 4, 3, (67, 0, 0), 0, []),
  (15, 66, .iconst 0, 1, (0, 0, 0), 0, []),
  (15, 67, .iadd, 1, (0, 0, 0), 0, []),
  (15, 68, .istore_n 3, 1, (3, 0, 0), 0, []),
  (15, 69, .iinc 5 1, 3, (5, 0, 0), 1, []),
  (15, 72, .goto (-48), 3, (24, 0, 0), 0, []),
  (15, 75, .iinc 4 1, 3, (4, 0, 0), 1, []),
  (15, 78, .goto (-73), 3, (5, 0, 0), 0, []),
  (15, 81, .iload_n 3, 1, (3, 0, 0), 0, []),
  (15, 82, .ireturn, 1, (0, 0, 0), 0, [])]
def rows_16 : List mRow := [
  (16, 0, .aload_n 0, 1, (0, 0, 0), 0, []),
  (16, 1, .aload_n 1, 1, (1, 0, 0), 0, []),
  (16, 2, .aload_n 2, 1, (2, 0, 0), 0, []),
  (16, 3, .aload_n 1, 1, (1, 0, 0), 0, []),
  (16, 4, .getfield 62, 3, (7, 2, 0), 0, [(0, 193)]),
  (16, 7, .invokevirtual 93, 3, (13, 4, 0), 0, [(0, 709)]),
  (16, 10, .iconst 0, 1, (0, 0, 0), 0, []),
  (16, 11, .istore_n 3, 1, (3, 0, 0), 0, []),
  (16, 12, .iconst 0, 1, (0, 0, 0), 0, []),
  (16, 13, .istore 4, 2, (4, 0, 0), 0, []),
  (16, 15, .iload 4, 2, (4, 0, 0), 0, []),
  (16, 17, .bipush 6, 2, (0, 0, 0), 6, []),
  (16, 19, .if_icmp .ge 38, 3, (57, 0, 0), 0, []),
  (16, 22, .iload 4, 2, (4, 0, 0), 0, []),
  (16, 24, .aload_n 1, 1, (1, 0, 0), 0, []),
  (16, 25, .getfield 48, 3, (7, 1, 0), 0, [(0, 190)]),
  (16, 28, .if_icmp .ge 16, 3, (44, 0, 0), 0, []),
  (16, 31, .aload_n 1, 1, (1, 0, 0), 0, []),
  (16, 32, .getfield 54, 3, (7, 0, 1), 0, [(0, 187)]),
  (16, 35, .iload 4, 2, (4, 0, 0), 0, []),
  (16, 37, .aaload, 1, (0, 0, 0), 0, []),
  (16, 38, .getfield 58, 3, (3, 4, 0), 0, [(0, 162)]),
  (16, 41, .ifCond .eq 10, 3, (51, 0, 0), 0, []),
  (16, 44, .iload_n 3, 1, (3, 0, 0), 0, []),
  (16, 45, .iconst 1, 1, (0, 0, 0), 1, []),
  (16, 46, .iload 4, 2, (4, 0, 0), 0, []),
  (16, 48, .ishl, 1, (0, 0, 0), 0, []),
  (16, 49, .ior, 1, (0, 0, 0), 0, []),
  (16, 50, .istore_n 3, 1, (3, 0, 0), 0, []),
  (16, 51, .iinc 4 1, 3, (4, 0, 0), 1, []),
  (16, 54, .goto (-39), 3, (15, 0, 0), 0, []),
  (16, 57, .aload_n 0, 1, (0, 0, 0), 0, []),
  (16, 58, .getfield 18, 3, (1, 1, 1), 0, [(0, 300)]),
  (16, 61, .bipush 63, 2, (0, 0, 0), 63, []),
  (16, 63, .iconst 0, 1, (0, 0, 0), 0, []),
  (16, 64, .iastore, 1, (0, 0, 0), 0, []),
  (16, 65, .bipush 62, 2, (0, 0, 0), 62, []),
  (16, 67, .istore 4, 2, (4, 0, 0), 0, []),
  (16, 69, .iload 4, 2, (4, 0, 0), 0, []),
  (16, 71, .ifCond .lt 49, 3, (120, 0, 0), 0, []),
  (16, 74, .iload 4, 2, (4, 0, 0), 0, []),
  (16, 76, .iload_n 3, 1, (3, 0, 0), 0, []),
  (16, 77, .iand, 1, (0, 0, 0), 0, []),
  (16, 78, .iload_n 3, 1, (3, 0, 0), 0, []),
  (16, 79, .if_icmp .ne 35, 3, (114, 0, 0), 0, []),
  (16, 82, .iload 4, 2, (4, 0, 0), 0, []),
  (16, 84, .invokestatic 97, 3, (17, 1, 1), 0, [(0, 710)]),
  (16, 87, .istore 5, 2, (5, 0, 0), 0, []),
  (16, 89, .aload_n 0, 1, (0, 0, 0), 0, []),
  (16, 90, .getfield 18, 3, (1, 1, 1), 0, [(0, 300)]),
  (16, 93, .iload 4, 2, (4, 0, 0), 0, []),
  (16, 95, .aload_n 0, 1, (0, 0, 0), 0, []),
  (16, 96, .aload_n 2, 1, (2, 0, 0), 0, []),
  (16, 97, .iload 4, 2, (4, 0, 0), 0, []),
  (16, 99, .iload 5, 2, (5, 0, 0), 0, []),
  (16, 101, .aload_n 0, 1, (0, 0, 0), 0, []),
  (16, 102, .aload_n 2, 1, (2, 0, 0), 0, []),
  (16, 103, .iload 4, 2, (4, 0, 0), 0, []),
  (16, 105, .iload 5, 2, (5, 0, 0), 0, []),
  (16, 107, .invokevirtual 100, 3, (19, 4, 1), 0, [(0, 713)]),
  (16, 110, .invokevirtual 104, 3, (18, 5, 1), 0, [(0, 717)]),
  (16, 113, .iastore, 1, (0, 0, 0), 0, []),
  (16, 114, .iinc 4 (-1), 3, (4, 0, 0), (-1), []),
  (16, 117, .goto (-48), 3, (69, 0, 0), 0, []),
  (16, 120, .iload_n 3, 1, (3, 0, 0), 0, []),
  (16, 121, .ireturn, 1, (0, 0, 0), 0, [])]
def rows_17 : List mRow := [
  (17, 0, .iconst 0, 1, (0, 0, 0), 0, []),
  (17, 1, .istore_n 1, 1, (1, 0, 0), 0, []),
  (17, 2, .iload_n 1, 1, (1, 0, 0), 0, []),
  (17, 3, .bipush 6, 2, (0, 0, 0), 6, []),
  (17, 5, .if_icmp .ge 19, 3, (24, 0, 0), 0, []),
  (17, 8, .iload_n 0, 1, (0, 0, 0), 0, []),
  (17, 9, .iload_n 1, 1, (1, 0, 0), 0, []),
  (17, 10, .ishr, 1, (0, 0, 0), 0, []),
  (17, 11, .iconst 1, 1, (0, 0, 0), 1, []),
  (17, 12, .iand, 1, (0, 0, 0), 0, []),
  (17, 13, .ifCond .ne 5, 3, (18, 0, 0), 0, []),
  (17, 16, .iload_n 1, 1, (1, 0, 0), 0, []),
  (17, 17, .ireturn, 1, (0, 0, 0), 0, []),
  (17, 18, .iinc 1 1, 3, (1, 0, 0), 1, []),
  (17, 21, .goto (-19), 3, (2, 0, 0), 0, []),
  (17, 24, .iconst 0, 1, (0, 0, 0), 0, []),
  (17, 25, .ireturn, 1, (0, 0, 0), 0, [])]
def rows_18 : List mRow := [
  (18, 0, .aload_n 0, 1, (0, 0, 0), 0, []),
  (18, 1, .aload_n 1, 1, (1, 0, 0), 0, []),
  (18, 2, .iload_n 3, 1, (3, 0, 0), 0, []),
  (18, 3, .iload 4, 2, (4, 0, 0), 0, []),
  (18, 5, .invokevirtual 108, 3, (14, 4, 1), 0, [(0, 721)]),
  (18, 8, .aload_n 0, 1, (0, 0, 0), 0, []),
  (18, 9, .getfield 18, 3, (1, 1, 1), 0, [(0, 300)]),
  (18, 12, .iload_n 2, 1, (2, 0, 0), 0, []),
  (18, 13, .iconst 1, 1, (0, 0, 0), 1, []),
  (18, 14, .iload_n 3, 1, (3, 0, 0), 0, []),
  (18, 15, .ishl, 1, (0, 0, 0), 0, []),
  (18, 16, .ior, 1, (0, 0, 0), 0, []),
  (18, 17, .iconst 1, 1, (0, 0, 0), 1, []),
  (18, 18, .iload 4, 2, (4, 0, 0), 0, []),
  (18, 20, .ishl, 1, (0, 0, 0), 0, []),
  (18, 21, .ior, 1, (0, 0, 0), 0, []),
  (18, 22, .iaload, 1, (0, 0, 0), 0, []),
  (18, 23, .iadd, 1, (0, 0, 0), 0, []),
  (18, 24, .ireturn, 1, (0, 0, 0), 0, [])]
def rows_19 : List mRow := [
  (19, 0, .iconst (-1), 1, (0, 0, 0), (-1), []),
  (19, 1, .istore 4, 2, (4, 0, 0), 0, []),
  (19, 3, .iconst 0, 1, (0, 0, 0), 0, []),
  (19, 4, .istore 5, 2, (5, 0, 0), 0, []),
  (19, 6, .iconst 1, 1, (0, 0, 0), 1, []),
  (19, 7, .istore 6, 2, (6, 0, 0), 0, []),
  (19, 9, .iload 6, 2, (6, 0, 0), 0, []),
  (19, 11, .bipush 6, 2, (0, 0, 0), 6, []),
  (19, 13, .iload_n 3, 1, (3, 0, 0), 0, []),
  (19, 14, .isub, 1, (0, 0, 0), 0, []),
  (19, 15, .if_icmp .gt 68, 3, (83, 0, 0), 0, []),
  (19, 18, .iload 6, 2, (6, 0, 0), 0, []),
  (19, 20, .bipush 6, 2, (0, 0, 0), 6, []),
  (19, 22, .iload_n 3, 1, (3, 0, 0), 0, []),
  (19, 23, .isub, 1, (0, 0, 0), 0, []),
  (19, 24, .if_icmp .ne 7, 3, (31, 0, 0), 0, []),
  (19, 27, .iload_n 3, 1, (3, 0, 0), 0, []),
  (19, 28, .goto 7, 3, (35, 0, 0), 0, []),
  (19, 31, .iload_n 3, 1, (3, 0, 0), 0, []),
  (19, 32, .iload 6, 2, (6, 0, 0), 0, []),
  (19, 34, .iadd, 1, (0, 0, 0), 0, []),
  (19, 35, .istore 7, 2, (7, 0, 0), 0, []),
  (19, 37, .iload_n 2, 1, (2, 0, 0), 0, []),
  (19, 38, .iload 7, 2, (7, 0, 0), 0, []),
  (19, 40, .ishr, 1, (0, 0, 0), 0, []),
  (19, 41, .iconst 1, 1, (0, 0, 0), 1, []),
  (19, 42, .iand, 1, (0, 0, 0), 0, []),
  (19, 43, .ifCond .ne 34, 3, (77, 0, 0), 0, []),
  (19, 46, .aload_n 0, 1, (0, 0, 0), 0, []),
  (19, 47, .aload_n 1, 1, (1, 0, 0), 0, []),
  (19, 48, .iload_n 2, 1, (2, 0, 0), 0, []),
  (19, 49, .iload_n 3, 1, (3, 0, 0), 0, []),
  (19, 50, .iload 7, 2, (7, 0, 0), 0, []),
  (19, 52, .invokevirtual 104, 3, (18, 5, 1), 0, [(0, 717)]),
  (19, 55, .istore 8, 2, (8, 0, 0), 0, []),
  (19, 57, .iload 4, 2, (4, 0, 0), 0, []),
  (19, 59, .ifCond .lt 10, 3, (69, 0, 0), 0, []),
  (19, 62, .iload 8, 2, (8, 0, 0), 0, []),
  (19, 64, .iload 5, 2, (5, 0, 0), 0, []),
  (19, 66, .if_icmp .ge 11, 3, (77, 0, 0), 0, []),
  (19, 69, .iload 7, 2, (7, 0, 0), 0, []),
  (19, 71, .istore 4, 2, (4, 0, 0), 0, []),
  (19, 73, .iload 8, 2, (8, 0, 0), 0, []),
  (19, 75, .istore 5, 2, (5, 0, 0), 0, []),
  (19, 77, .iinc 6 1, 3, (6, 0, 0), 1, []),
  (19, 80, .goto (-71), 3, (9, 0, 0), 0, []),
  (19, 83, .iload 4, 2, (4, 0, 0), 0, []),
  (19, 85, .ifCond .ge 7, 3, (92, 0, 0), 0, []),
  (19, 88, .iload_n 3, 1, (3, 0, 0), 0, []),
  (19, 89, .goto 5, 3, (94, 0, 0), 0, []),
  (19, 92, .iload 4, 2, (4, 0, 0), 0, []),
  (19, 94, .ireturn, 1, (0, 0, 0), 0, [])]
def rows_20 : List mRow := [
  (20, 0, .iload_n 2, 1, (2, 0, 0), 0, []),
  (20, 1, .istore 4, 2, (4, 0, 0), 0, []),
  (20, 3, .iconst 0, 1, (0, 0, 0), 0, []),
  (20, 4, .istore 5, 2, (5, 0, 0), 0, []),
  (20, 6, .iload 5, 2, (5, 0, 0), 0, []),
  (20, 8, .bipush 6, 2, (0, 0, 0), 6, []),
  (20, 10, .if_icmp .ge 78, 3, (88, 0, 0), 0, []),
  (20, 13, .iload 4, 2, (4, 0, 0), 0, []),
  (20, 15, .bipush 63, 2, (0, 0, 0), 63, []),
  (20, 17, .if_icmp .eq 71, 3, (88, 0, 0), 0, []),
  (20, 20, .iload 4, 2, (4, 0, 0), 0, []),
  (20, 22, .invokestatic 97, 3, (17, 1, 1), 0, [(0, 710)]),
  (20, 25, .istore 6, 2, (6, 0, 0), 0, []),
  (20, 27, .aload_n 0, 1, (0, 0, 0), 0, []),
  (20, 28, .aload_n 1, 1, (1, 0, 0), 0, []),
  (20, 29, .iload 4, 2, (4, 0, 0), 0, []),
  (20, 31, .iload 6, 2, (6, 0, 0), 0, []),
  (20, 33, .invokevirtual 100, 3, (19, 4, 1), 0, [(0, 713)]),
  (20, 36, .istore 7, 2, (7, 0, 0), 0, []),
  (20, 38, .iload 6, 2, (6, 0, 0), 0, []),
  (20, 40, .iload_n 3, 1, (3, 0, 0), 0, []),
  (20, 41, .if_icmp .ne 18, 3, (59, 0, 0), 0, []),
  (20, 44, .iload 7, 2, (7, 0, 0), 0, []),
  (20, 46, .iload 6, 2, (6, 0, 0), 0, []),
  (20, 48, .if_icmp .ne 8, 3, (56, 0, 0), 0, []),
  (20, 51, .bipush (-5), 2, (0, 0, 0), (-5), []),
  (20, 53, .goto 5, 3, (58, 0, 0), 0, []),
  (20, 56, .iload 7, 2, (7, 0, 0), 0, []),
  (20, 58, .ireturn, 1, (0, 0, 0), 0, []),
  (20, 59, .iload 7, 2, (7, 0, 0), 0, []),
  (20, 61, .iload_n 3, 1, (3, 0, 0), 0, []),
  (20, 62, .if_icmp .ne 6, 3, (68, 0, 0), 0, []),
  (20, 65, .iload 6, 2, (6, 0, 0), 0, []),
  (20, 67, .ireturn, 1, (0, 0, 0), 0, []),
  (20, 68, .iload 4, 2, (4, 0, 0), 0, []),
  (20, 70, .iconst 1, 1, (0, 0, 0), 1, []),
  (20, 71, .iload 6, 2, (6, 0, 0), 0, []),
  (20, 73, .ishl, 1, (0, 0, 0), 0, []),
  (20, 74, .iconst 1, 1, (0, 0, 0), 1, []),
  (20, 75, .iload 7, 2, (7, 0, 0), 0, []),
  (20, 77, .ishl, 1, (0, 0, 0), 0, []),
  (20, 78, .ior, 1, (0, 0, 0), 0, []),
  (20, 79, .ior, 1, (0, 0, 0), 0, []),
  (20, 80, .istore 4, 2, (4, 0, 0), 0, []),
  (20, 82, .iinc 5 1, 3, (5, 0, 0), 1, []),
  (20, 85, .goto (-79), 3, (6, 0, 0), 0, []),
  (20, 88, .bipush (-5), 2, (0, 0, 0), (-5), []),
  (20, 90, .ireturn, 1, (0, 0, 0), 0, [])]
def rows_21 : List mRow := [
  (21, 0, .aload_n 1, 1, (1, 0, 0), 0, []),
  (21, 1, .getfield 111, 3, (7, 5, 1), 0, [(0, 199)]),
  (21, 4, .astore_n 3, 1, (3, 0, 0), 0, []),
  (21, 5, .iconst 0, 1, (0, 0, 0), 0, []),
  (21, 6, .istore 4, 2, (4, 0, 0), 0, []),
  (21, 8, .iload 4, 2, (4, 0, 0), 0, []),
  (21, 10, .aload_n 3, 1, (3, 0, 0), 0, []),
  (21, 11, .getfield 115, 3, (5, 2, 0), 0, [(0, 130)]),
  (21, 14, .if_icmp .ge 84, 3, (98, 0, 0), 0, []),
  (21, 17, .iload 4, 2, (4, 0, 0), 0, []),
  (21, 19, .aload_n 0, 1, (0, 0, 0), 0, []),
  (21, 20, .getfield 31, 3, (1, 5, 1), 0, [(0, 305)]),
  (21, 23, .arraylength, 1, (0, 0, 0), 0, []),
  (21, 24, .if_icmp .ge 74, 3, (98, 0, 0), 0, []),
  (21, 27, .aload_n 3, 1, (3, 0, 0), 0, []),
  (21, 28, .iload 4, 2, (4, 0, 0), 0, []),
  (21, 30, .iconst 0, 1, (0, 0, 0), 0, []),
  (21, 31, .invokevirtual 118, 3, (59, 3, 1), 0, [(0, 754)]),
  (21, 34, .istore 5, 2, (5, 0, 0), 0, []),
  (21, 36, .iload 5, 2, (5, 0, 0), 0, []),
  (21, 38, .ifCond .lt 54, 3, (92, 0, 0), 0, []),
  (21, 41, .iload 5, 2, (5, 0, 0), 0, []),
  (21, 43, .bipush 6, 2, (0, 0, 0), 6, []),
  (21, 45, .if_icmp .ge 47, 3, (92, 0, 0), 0, []),
  (21, 48, .aload_n 0, 1, (0, 0, 0), 0, []),
  (21, 49, .aload_n 1, 1, (1, 0, 0), 0, []),
  (21, 50, .getfield 54, 3, (7, 0, 1), 0, [(0, 187)]),
  (21, 53, .iload 5, 2, (5, 0, 0), 0, []),
  (21, 55, .aaload, 1, (0, 0, 0), 0, []),
  (21, 56, .aload_n 3, 1, (3, 0, 0), 0, []),
  (21, 57, .iload 4, 2, (4, 0, 0), 0, []),
  (21, 59, .iconst 3, 1, (0, 0, 0), 3, []),
  (21, 60, .invokevirtual 118, 3, (59, 3, 1), 0, [(0, 754)]),
  (21, 63, .invokevirtual 121, 3, (6, 3, 3), 0, [(0, 758)]),
  (21, 66, .astore 6, 2, (6, 0, 0), 0, []),
  (21, 68, .aload_n 0, 1, (0, 0, 0), 0, []),
  (21, 69, .getfield 31, 3, (1, 5, 1), 0, [(0, 305)]),
  (21, 72, .iload 4, 2, (4, 0, 0), 0, []),
  (21, 74, .aload_n 2, 1, (2, 0, 0), 0, []),
  (21, 75, .aload 6, 2, (6, 0, 0), 0, []),
  (21, 77, .aload_n 3, 1, (3, 0, 0), 0, []),
  (21, 78, .iload 4, 2, (4, 0, 0), 0, []),
  (21, 80, .iconst 1, 1, (0, 0, 0), 1, []),
  (21, 81, .invokevirtual 118, 3, (59, 3, 1), 0, [(0, 754)]),
  (21, 84, .aload_n 1, 1, (1, 0, 0), 0, []),
  (21, 85, .getfield 62, 3, (7, 2, 0), 0, [(0, 193)]),
  (21, 88, .invokevirtual 83, 3, (30, 4, 1), 0, [(0, 696)]),
  (21, 91, .iastore, 1, (0, 0, 0), 0, []),
  (21, 92, .iinc 4 1, 3, (4, 0, 0), 1, []),
  (21, 95, .goto (-87), 3, (8, 0, 0), 0, []),
  (21, 98, .return_, 1, (0, 0, 0), 0, [])]
def rows_22 : List mRow := [
  (22, 0, .iconst 0, 1, (0, 0, 0), 0, []),
  (22, 1, .istore_n 3, 1, (3, 0, 0), 0, []),
  (22, 2, .iload_n 3, 1, (3, 0, 0), 0, []),
  (22, 3, .aload_n 1, 1, (1, 0, 0), 0, []),
  (22, 4, .getfield 115, 3, (5, 2, 0), 0, [(0, 130)]),
  (22, 7, .if_icmp .ge 53, 3, (60, 0, 0), 0, []),
  (22, 10, .iload_n 3, 1, (3, 0, 0), 0, []),
  (22, 11, .aload_n 0, 1, (0, 0, 0), 0, []),
  (22, 12, .getfield 31, 3, (1, 5, 1), 0, [(0, 305)]),
  (22, 15, .arraylength, 1, (0, 0, 0), 0, []),
  (22, 16, .if_icmp .ge 44, 3, (60, 0, 0), 0, []),
  (22, 19, .aload_n 0, 1, (0, 0, 0), 0, []),
  (22, 20, .getfield 31, 3, (1, 5, 1), 0, [(0, 305)]),
  (22, 23, .iload_n 3, 1, (3, 0, 0), 0, []),
  (22, 24, .iaload, 1, (0, 0, 0), 0, []),
  (22, 25, .iload_n 2, 1, (2, 0, 0), 0, []),
  (22, 26, .if_icmp .lt 7, 3, (33, 0, 0), 0, []),
  (22, 29, .iconst 1, 1, (0, 0, 0), 1, []),
  (22, 30, .goto 4, 3, (34, 0, 0), 0, []),
  (22, 33, .iconst 0, 1, (0, 0, 0), 0, []),
  (22, 34, .aload_n 1, 1, (1, 0, 0), 0, []),
  (22, 35, .iload_n 3, 1, (3, 0, 0), 0, []),
  (22, 36, .iconst 2, 1, (0, 0, 0), 2, []),
  (22, 37, .invokevirtual 118, 3, (59, 3, 1), 0, [(0, 754)]),
  (22, 40, .iconst 1, 1, (0, 0, 0), 1, []),
  (22, 41, .if_icmp .ne 7, 3, (48, 0, 0), 0, []),
  (22, 44, .iconst 1, 1, (0, 0, 0), 1, []),
  (22, 45, .goto 4, 3, (49, 0, 0), 0, []),
  (22, 48, .iconst 0, 1, (0, 0, 0), 0, []),
  (22, 49, .if_icmp .eq 5, 3, (54, 0, 0), 0, []),
  (22, 52, .iconst 0, 1, (0, 0, 0), 0, []),
  (22, 53, .ireturn, 1, (1, 0, 0), 0, []),
  (22, 54, .iinc 3 1, 3, (3, 0, 0), 1, []),
  (22, 57, .goto (-55), 3, (2, 0, 0), 0, []),
  (22, 60, .iconst 1, 1, (0, 0, 0), 1, []),
  (22, 61, .ireturn, 1, (1, 0, 0), 0, [])]
def rows_23 : List mRow := [
  (23, 0, .aload_n 0, 1, (0, 0, 0), 0, []),
  (23, 1, .aload_n 1, 1, (1, 0, 0), 0, []),
  (23, 2, .aload_n 2, 1, (2, 0, 0), 0, []),
  (23, 3, .invokevirtual 125, 3, (21, 3, 0), 0, [(0, 771)]),
  (23, 6, .aload_n 0, 1, (0, 0, 0), 0, []),
  (23, 7, .aload_n 1, 1, (1, 0, 0), 0, []),
  (23, 8, .getfield 111, 3, (7, 5, 1), 0, [(0, 199)]),
  (23, 11, .aload_n 2, 1, (2, 0, 0), 0, []),
  (23, 12, .getfield 87, 3, (2, 0, 0), 0, [(0, 231)]),
  (23, 15, .invokevirtual 129, 3, (22, 3, 1), 0, [(0, 772)]),
  (23, 18, .ireturn, 1, (1, 0, 0), 0, [])]
def rows_24 : List mRow := [
  (24, 0, .aload_n 0, 1, (0, 0, 0), 0, []),
  (24, 1, .getfield 12, 3, (1, 0, 1), 0, [(0, 298)]),
  (24, 4, .aload_n 2, 1, (2, 0, 0), 0, []),
  (24, 5, .invokevirtual 34, 3, (41, 2, 0), 0, [(0, 638)]),
  (24, 8, .aload_n 1, 1, (1, 0, 0), 0, []),
  (24, 9, .getfield 62, 3, (7, 2, 0), 0, [(0, 193)]),
  (24, 12, .istore_n 3, 1, (3, 0, 0), 0, []),
  (24, 13, .iconst 0, 1, (0, 0, 0), 0, []),
  (24, 14, .istore 4, 2, (4, 0, 0), 0, []),
  (24, 16, .iload 4, 2, (4, 0, 0), 0, []),
  (24, 18, .aload_n 1, 1, (1, 0, 0), 0, []),
  (24, 19, .getfield 133, 3, (7, 6, 1), 0, [(0, 202)]),
  (24, 22, .getfield 115, 3, (5, 2, 0), 0, [(0, 130)]),
  (24, 25, .if_icmp .ge 115, 3, (140, 0, 0), 0, []),
  (24, 28, .aload_n 1, 1, (1, 0, 0), 0, []),
  (24, 29, .getfield 133, 3, (7, 6, 1), 0, [(0, 202)]),
  (24, 32, .iload 4, 2, (4, 0, 0), 0, []),
  (24, 34, .iconst 1, 1, (0, 0, 0), 1, []),
  (24, 35, .invokevirtual 118, 3, (59, 3, 1), 0, [(0, 754)]),
  (24, 38, .istore 5, 2, (5, 0, 0), 0, []),
  (24, 40, .aload_n 1, 1, (1, 0, 0), 0, []),
  (24, 41, .getfield 133, 3, (7, 6, 1), 0, [(0, 202)]),
  (24, 44, .iload 4, 2, (4, 0, 0), 0, []),
  (24, 46, .iconst 0, 1, (0, 0, 0), 0, []),
  (24, 47, .invokevirtual 118, 3, (59, 3, 1), 0, [(0, 754)]),
  (24, 50, .tableswitch 77 0 2 #[26, 37, 43], 26, (127, 0, 0), 0, [(0, 76), (1, 87), (2, 93)]),
  (24, 76, .aload_n 0, 1, (0, 0, 0), 0, []),
  (24, 77, .getfield 12, 3, (1, 0, 1), 0, [(0, 298)]),
  (24, 80, .iconst 1, 1, (0, 0, 0), 1, []),
  (24, 81, .invokevirtual 38, 3, (42, 2, 0), 0, [(0, 645)]),
  (24, 84, .goto 50, 3, (134, 0, 0), 0, []),
  (24, 87, .iload 5, 2, (5, 0, 0), 0, []),
  (24, 89, .istore_n 3, 1, (3, 0, 0), 0, []),
  (24, 90, .goto 44, 3, (134, 0, 0), 0, []),
  (24, 93, .aload_n 0, 1, (0, 0, 0), 0, []),
  (24, 94, .getfield 12, 3, (1, 0, 1), 0, [(0, 298)]),
  (24, 97, .aload_n 0, 1, (0, 0, 0), 0, []),
  (24, 98, .getfield 12, 3, (1, 0, 1), 0, [(0, 298)]),
  (24, 101, .getfield 58, 3, (3, 4, 0), 0, [(0, 162)]),
  (24, 104, .ifCond .ne 12, 3, (116, 0, 0), 0, []),
  (24, 107, .iload 5, 2, (5, 0, 0), 0, []),
  (24, 109, .aload_n 2, 1, (2, 0, 0), 0, []),
  (24, 110, .getfield 136, 3, (3, 0, 0), 0, [(0, 148)]),
  (24, 113, .if_icmp .ne 7, 3, (120, 0, 0), 0, []),
  (24, 116, .iconst 1, 1, (0, 0, 0), 1, []),
  (24, 117, .goto 4, 3, (121, 0, 0), 0, []),
  (24, 120, .iconst 0, 1, (0, 0, 0), 0, []),
  (24, 121, .putfield 58, 3, (3, 4, 2), 0, [(0, 162)]),
  (24, 124, .goto 10, 3, (134, 0, 0), 0, []),
  (24, 127, .iload_n 3, 1, (3, 0, 0), 0, []),
  (24, 128, .iconst 1, 1, (0, 0, 0), 1, []),
  (24, 129, .iadd, 1, (0, 0, 0), 0, []),
  (24, 130, .bipush 24, 2, (0, 0, 0), 24, []),
  (24, 132, .irem, 1, (0, 0, 0), 0, []),
  (24, 133, .istore_n 3, 1, (3, 0, 0), 0, []),
  (24, 134, .iinc 4 1, 3, (4, 0, 0), 1, []),
  (24, 137, .goto (-121), 3, (16, 0, 0), 0, []),
  (24, 140, .iload_n 3, 1, (3, 0, 0), 0, []),
  (24, 141, .ireturn, 1, (0, 0, 0), 0, [])]
def rows_25 : List mRow := [
  (25, 0, .aload_n 0, 1, (0, 0, 0), 0, []),
  (25, 1, .invokespecial 3, 3, (0, 0, 0), 2, [(0, 228)]),
  (25, 4, .aload_n 0, 1, (0, 0, 0), 0, []),
  (25, 5, .bipush 8, 2, (0, 0, 0), 8, []),
  (25, 7, .putfield 9, 3, (2, 0, 0), 0, [(0, 229)]),
  (25, 10, .aload_n 0, 1, (0, 0, 0), 0, []),
  (25, 11, .bipush 18, 2, (0, 0, 0), 18, []),
  (25, 13, .putfield 15, 3, (2, 1, 0), 0, [(0, 233)]),
  (25, 16, .aload_n 0, 1, (0, 0, 0), 0, []),
  (25, 17, .bipush 10, 2, (0, 0, 0), 10, []),
  (25, 19, .putfield 18, 3, (2, 2, 0), 0, [(0, 236)]),
  (25, 22, .aload_n 0, 1, (0, 0, 0), 0, []),
  (25, 23, .bipush 10, 2, (0, 0, 0), 10, []),
  (25, 25, .newarray .int, 2, (100, 0, 0), 0, []),
  (25, 27, .putfield 21, 3, (2, 3, 1), 0, [(0, 240)]),
  (25, 30, .aload_n 0, 1, (0, 0, 0), 0, []),
  (25, 31, .bipush 10, 2, (0, 0, 0), 10, []),
  (25, 33, .newarray .int, 2, (100, 0, 0), 0, []),
  (25, 35, .putfield 25, 3, (2, 4, 1), 0, [(0, 241)]),
  (25, 38, .aload_n 0, 1, (0, 0, 0), 0, []),
  (25, 39, .iconst 0, 1, (0, 0, 0), 0, []),
  (25, 40, .putfield 28, 3, (2, 5, 0), 0, [(0, 242)]),
  (25, 43, .aload_n 0, 1, (0, 0, 0), 0, []),
  (25, 44, .bipush 100, 2, (0, 0, 0), 100, []),
  (25, 46, .newarray .int, 2, (100, 0, 0), 0, []),
  (25, 48, .putfield 31, 3, (2, 6, 1), 0, [(0, 243)]),
  (25, 51, .aload_n 0, 1, (0, 0, 0), 0, []),
  (25, 52, .iconst 0, 1, (0, 0, 0), 0, []),
  (25, 53, .putfield 34, 3, (2, 7, 0), 0, [(0, 244)]),
  (25, 56, .return_, 1, (0, 0, 0), 0, [])]
def rows_26 : List mRow := [
  (26, 0, .aload_n 0, 1, (0, 0, 0), 0, []),
  (26, 1, .bipush 8, 2, (0, 0, 0), 8, []),
  (26, 3, .putfield 9, 3, (2, 0, 0), 0, [(0, 229)]),
  (26, 6, .aload_n 0, 1, (0, 0, 0), 0, []),
  (26, 7, .bipush 18, 2, (0, 0, 0), 18, []),
  (26, 9, .putfield 15, 3, (2, 1, 0), 0, [(0, 233)]),
  (26, 12, .aload_n 0, 1, (0, 0, 0), 0, []),
  (26, 13, .bipush 10, 2, (0, 0, 0), 10, []),
  (26, 15, .putfield 18, 3, (2, 2, 0), 0, [(0, 236)]),
  (26, 18, .aload_n 0, 1, (0, 0, 0), 0, []),
  (26, 19, .iconst 0, 1, (0, 0, 0), 0, []),
  (26, 20, .putfield 28, 3, (2, 5, 0), 0, [(0, 242)]),
  (26, 23, .aload_n 0, 1, (0, 0, 0), 0, []),
  (26, 24, .iconst 0, 1, (0, 0, 0), 0, []),
  (26, 25, .putfield 34, 3, (2, 7, 0), 0, [(0, 244)]),
  (26, 28, .return_, 1, (0, 0, 0), 0, [])]
def rows_27 : List mRow := [
  (27, 0, .aload_n 0, 1, (0, 0, 0), 0, []),
  (27, 1, .getfield 34, 3, (2, 7, 0), 0, [(0, 244)]),
  (27, 4, .bipush 100, 2, (0, 0, 0), 100, []),
  (27, 6, .if_icmp .ge 23, 3, (29, 0, 0), 0, []),
  (27, 9, .aload_n 0, 1, (0, 0, 0), 0, []),
  (27, 10, .getfield 31, 3, (2, 6, 1), 0, [(0, 243)]),
  (27, 13, .aload_n 0, 1, (0, 0, 0), 0, []),
  (27, 14, .getfield 34, 3, (2, 7, 0), 0, [(0, 244)]),
  (27, 17, .iload_n 1, 1, (1, 0, 0), 0, []),
  (27, 18, .iastore, 1, (0, 0, 0), 0, []),
  (27, 19, .aload_n 0, 1, (0, 0, 0), 0, []),
  (27, 20, .dup, 1, (0, 0, 0), 0, []),
  (27, 21, .getfield 34, 3, (2, 7, 0), 0, [(0, 244)]),
  (27, 24, .iconst 1, 1, (0, 0, 0), 1, []),
  (27, 25, .iadd, 1, (0, 0, 0), 0, []),
  (27, 26, .putfield 34, 3, (2, 7, 0), 0, [(0, 244)]),
  (27, 29, .return_, 1, (0, 0, 0), 0, [])]
def rows_28 : List mRow := [
  (28, 0, .aload_n 0, 1, (0, 0, 0), 0, []),
  (28, 1, .getfield 28, 3, (2, 5, 0), 0, [(0, 242)]),
  (28, 4, .bipush 10, 2, (0, 0, 0), 10, []),
  (28, 6, .if_icmp .ge 36, 3, (42, 0, 0), 0, []),
  (28, 9, .aload_n 0, 1, (0, 0, 0), 0, []),
  (28, 10, .getfield 21, 3, (2, 3, 1), 0, [(0, 240)]),
  (28, 13, .aload_n 0, 1, (0, 0, 0), 0, []),
  (28, 14, .getfield 28, 3, (2, 5, 0), 0, [(0, 242)]),
  (28, 17, .iload_n 1, 1, (1, 0, 0), 0, []),
  (28, 18, .iastore, 1, (0, 0, 0), 0, []),
  (28, 19, .aload_n 0, 1, (0, 0, 0), 0, []),
  (28, 20, .getfield 25, 3, (2, 4, 1), 0, [(0, 241)]),
  (28, 23, .aload_n 0, 1, (0, 0, 0), 0, []),
  (28, 24, .getfield 28, 3, (2, 5, 0), 0, [(0, 242)]),
  (28, 27, .aload_n 0, 1, (0, 0, 0), 0, []),
  (28, 28, .getfield 34, 3, (2, 7, 0), 0, [(0, 244)]),
  (28, 31, .iastore, 1, (0, 0, 0), 0, []),
  (28, 32, .aload_n 0, 1, (0, 0, 0), 0, []),
  (28, 33, .dup, 1, (0, 0, 0), 0, []),
  (28, 34, .getfield 28, 3, (2, 5, 0), 0, [(0, 242)]),
  (28, 37, .iconst 1, 1, (0, 0, 0), 1, []),
  (28, 38, .iadd, 1, (0, 0, 0), 0, []),
  (28, 39, .putfield 28, 3, (2, 5, 0), 0, [(0, 242)]),
  (28, 42, .return_, 1, (0, 0, 0), 0, [])]
def rows_29 : List mRow := [
  (29, 0, .iload_n 1, 1, (1, 0, 0), 0, []),
  (29, 1, .aload_n 0, 1, (0, 0, 0), 0, []),
  (29, 2, .getfield 15, 3, (2, 1, 0), 0, [(0, 233)]),
  (29, 5, .isub, 1, (0, 0, 0), 0, []),
  (29, 6, .invokestatic 37, 3, (0, 0, 0), 7, [(0, 431)]),
  (29, 9, .istore_n 2, 1, (2, 0, 0), 0, []),
  (29, 10, .iconst 0, 1, (0, 0, 0), 0, []),
  (29, 11, .bipush 9, 2, (0, 0, 0), 9, []),
  (29, 13, .iload_n 2, 1, (2, 0, 0), 0, []),
  (29, 14, .bipush 24, 2, (0, 0, 0), 24, []),
  (29, 16, .iload_n 2, 1, (2, 0, 0), 0, []),
  (29, 17, .isub, 1, (0, 0, 0), 0, []),
  (29, 18, .invokestatic 43, 3, (0, 0, 0), 6, [(0, 434)]),
  (29, 21, .isub, 1, (0, 0, 0), 0, []),
  (29, 22, .invokestatic 47, 3, (0, 0, 0), 5, [(0, 421)]),
  (29, 25, .ireturn, 1, (0, 0, 0), 0, [])]
def rows_30 : List mRow := [
  (30, 0, .iload_n 2, 1, (2, 0, 0), 0, []),
  (30, 1, .ifCond .lt 9, 3, (10, 0, 0), 0, []),
  (30, 4, .iload_n 2, 1, (2, 0, 0), 0, []),
  (30, 5, .bipush 6, 2, (0, 0, 0), 6, []),
  (30, 7, .if_icmp .lt 5, 3, (12, 0, 0), 0, []),
  (30, 10, .iconst 0, 1, (0, 0, 0), 0, []),
  (30, 11, .ireturn, 1, (0, 0, 0), 0, []),
  (30, 12, .aload_n 1, 1, (1, 0, 0), 0, []),
  (30, 13, .getfield 50, 3, (3, 5, 1), 0, [(0, 166)]),
  (30, 16, .iload_n 2, 1, (2, 0, 0), 0, []),
  (30, 17, .iaload, 1, (0, 0, 0), 0, []),
  (30, 18, .aload_n 0, 1, (0, 0, 0), 0, []),
  (30, 19, .aload_n 1, 1, (1, 0, 0), 0, []),
  (30, 20, .iload_n 2, 1, (2, 0, 0), 0, []),
  (30, 21, .iload_n 3, 1, (3, 0, 0), 0, []),
  (30, 22, .invokevirtual 55, 3, (33, 4, 1), 0, [(0, 413)]),
  (30, 25, .iadd, 1, (0, 0, 0), 0, []),
  (30, 26, .istore 4, 2, (4, 0, 0), 0, []),
  (30, 28, .iload 4, 2, (4, 0, 0), 0, []),
  (30, 30, .aload_n 0, 1, (0, 0, 0), 0, []),
  (30, 31, .iload_n 3, 1, (3, 0, 0), 0, []),
  (30, 32, .invokevirtual 59, 3, (29, 2, 1), 0, [(0, 427)]),
  (30, 35, .iconst 3, 1, (0, 0, 0), 3, []),
  (30, 36, .idiv, 1, (0, 0, 0), 0, []),
  (30, 37, .iadd, 1, (0, 0, 0), 0, []),
  (30, 38, .istore 5, 2, (5, 0, 0), 0, []),
  (30, 40, .aload_n 1, 1, (1, 0, 0), 0, []),
  (30, 41, .getfield 62, 3, (3, 1, 0), 0, [(0, 152)]),
  (30, 44, .tableswitch 123 1 6 #[40, 51, 60, 68, 79, 106], 40, (167, 0, 0), 0, [(1, 84), (2, 95), (3, 104), (4, 112), (5, 123), (6, 150)]),
  (30, 84, .iload 5, 2, (5, 0, 0), 0, []),
  (30, 86, .aload_n 1, 1, (1, 0, 0), 0, []),
  (30, 87, .getfield 65, 3, (3, 3, 0), 0, [(0, 159)]),
  (30, 90, .bipush 20, 2, (0, 0, 0), 20, []),
  (30, 92, .idiv, 1, (0, 0, 0), 0, []),
  (30, 93, .isub, 1, (0, 0, 0), 0, []),
  (30, 94, .ireturn, 1, (0, 0, 0), 0, []),
  (30, 95, .iload 5, 2, (5, 0, 0), 0, []),
  (30, 97, .iload_n 2, 1, (2, 0, 0), 0, []),
  (30, 98, .iload_n 3, 1, (3, 0, 0), 0, []),
  (30, 99, .invokestatic 68, 3, (31, 2, 1), 0, [(0, 437)]),
  (30, 102, .iadd, 1, (0, 0, 0), 0, []),
  (30, 103, .ireturn, 1, (0, 0, 0), 0, []),
  (30, 104, .iload 5, 2, (5, 0, 0), 0, []),
  (30, 106, .iload_n 2, 1, (2, 0, 0), 0, []),
  (30, 107, .invokestatic 71, 3, (32, 1, 1), 0, [(0, 440)]),
  (30, 110, .iadd, 1, (0, 0, 0), 0, []),
  (30, 111, .ireturn, 1, (0, 0, 0), 0, []),
  (30, 112, .iload 4, 2, (4, 0, 0), 0, []),
  (30, 114, .aload_n 1, 1, (1, 0, 0), 0, []),
  (30, 115, .getfield 65, 3, (3, 3, 0), 0, [(0, 159)]),
  (30, 118, .bipush 20, 2, (0, 0, 0), 20, []),
  (30, 120, .idiv, 1, (0, 0, 0), 0, []),
  (30, 121, .isub, 1, (0, 0, 0), 0, []),
  (30, 122, .ireturn, 1, (0, 0, 0), 0, []),
  (30, 123, .iload 5, 2, (5, 0, 0), 0, []),
  (30, 125, .iload_n 2, 1, (2, 0, 0), 0, []),
  (30, 126, .iload_n 3, 1, (3, 0, 0), 0, []),
  (30, 127, .invokestatic 68, 3, (31, 2, 1), 0, [(0, 437)]),
  (30, 130, .iadd, 1, (0, 0, 0), 0, []),
  (30, 131, .aload_n 1, 1, (1, 0, 0), 0, []),
  (30, 132, .getfield 65, 3, (3, 3, 0), 0, [(0, 159)]),
  (30, 135, .bipush 20, 2, (0, 0, 0), 20, []),
  (30, 137, .if_icmp .ge 10, 3, (147, 0, 0), 0, []),
  (30, 140, .aload_n 1, 1, (1, 0, 0), 0, []),
  (30, 141, .getfield 74, 3, (3, 2, 0), 0, [(0, 156)]),
  (30, 144, .goto 4, 3, (148, 0, 0), 0, []),
  (30, 147, .iconst 0, 1, (0, 0, 0), 0, []),
  (30, 148, .iadd, 1, (0, 0, 0), 0, []),
  (30, 149, .ireturn, 1, (0, 0, 0), 0, []),
  (30, 150, .iload 5, 2, (5, 0, 0), 0, []),
  (30, 152, .iload_n 2, 1, (2, 0, 0), 0, []),
  (30, 153, .invokestatic 71, 3, (32, 1, 1), 0, [(0, 440)]),
  (30, 156, .iadd, 1, (0, 0, 0), 0, []),
  (30, 157, .aload_n 1, 1, (1, 0, 0), 0, []),
  (30, 158, .getfield 77, 3, (3, 6, 1), 0, [(0, 169)]),
  (30, 161, .iload_n 2, 1, (2, 0, 0), 0, []),
  (30, 162, .iconst 4, 1, (0, 0, 0), 4, []),
  (30, 163, .irem, 1, (0, 0, 0), 0, []),
  (30, 164, .iaload, 1, (0, 0, 0), 0, []),
  (30, 165, .iadd, 1, (0, 0, 0), 0, []),
  (30, 166, .ireturn, 1, (0, 0, 0), 0, []),
  (30, 167, .iload 5, 2, (5, 0, 0), 0, []),
  (30, 169, .ireturn, 1, (0, 0, 0), 0, [])]
def rows_31 : List mRow := [
  (31, 0, .iload_n 1, 1, (1, 0, 0), 0, []),
  (31, 1, .iconst 2, 1, (0, 0, 0), 2, []),
  (31, 2, .irem, 1, (0, 0, 0), 0, []),
  (31, 3, .ifCond .ne 12, 3, (15, 0, 0), 0, []),
  (31, 6, .iload_n 0, 1, (0, 0, 0), 0, []),
  (31, 7, .iconst 3, 1, (0, 0, 0), 3, []),
  (31, 8, .if_icmp .ge 7, 3, (15, 0, 0), 0, []),
  (31, 11, .iconst 3, 1, (0, 0, 0), 3, []),
  (31, 12, .goto 4, 3, (16, 0, 0), 0, []),
  (31, 15, .iconst 0, 1, (0, 0, 0), 0, []),
  (31, 16, .ireturn, 1, (0, 0, 0), 0, [])]
def rows_32 : List mRow := [
  (32, 0, .iload_n 0, 1, (0, 0, 0), 0, []),
  (32, 1, .iconst 1, 1, (0, 0, 0), 1, []),
  (32, 2, .if_icmp .ne 7, 3, (9, 0, 0), 0, []),
  (32, 5, .iconst 5, 1, (0, 0, 0), 5, []),
  (32, 6, .goto 4, 3, (10, 0, 0), 0, []),
  (32, 9, .iconst 0, 1, (0, 0, 0), 0, []),
  (32, 10, .ireturn, 1, (0, 0, 0), 0, [])]
def rows_33 : List mRow := [
  (33, 0, .iconst 0, 1, (0, 0, 0), 0, []),
  (33, 1, .istore 4, 2, (4, 0, 0), 0, []),
  (33, 3, .iconst 0, 1, (0, 0, 0), 0, []),
  (33, 4, .istore 5, 2, (5, 0, 0), 0, []),
  (33, 6, .iconst 0, 1, (0, 0, 0), 0, []),
  (33, 7, .istore 6, 2, (6, 0, 0), 0, []),
  (33, 9, .iload 6, 2, (6, 0, 0), 0, []),
  (33, 11, .aload_n 0, 1, (0, 0, 0), 0, []),
  (33, 12, .getfield 28, 3, (2, 5, 0), 0, [(0, 242)]),
  (33, 15, .if_icmp .ge 56, 3, (71, 0, 0), 0, []),
  (33, 18, .iload 6, 2, (6, 0, 0), 0, []),
  (33, 20, .bipush 10, 2, (0, 0, 0), 10, []),
  (33, 22, .if_icmp .ge 49, 3, (71, 0, 0), 0, []),
  (33, 25, .aload_n 0, 1, (0, 0, 0), 0, []),
  (33, 26, .iload 5, 2, (5, 0, 0), 0, []),
  (33, 28, .aload_n 0, 1, (0, 0, 0), 0, []),
  (33, 29, .getfield 25, 3, (2, 4, 1), 0, [(0, 241)]),
  (33, 32, .iload 6, 2, (6, 0, 0), 0, []),
  (33, 34, .iaload, 1, (0, 0, 0), 0, []),
  (33, 35, .aload_n 1, 1, (1, 0, 0), 0, []),
  (33, 36, .iload_n 2, 1, (2, 0, 0), 0, []),
  (33, 37, .iload_n 3, 1, (3, 0, 0), 0, []),
  (33, 38, .invokevirtual 80, 3, (34, 6, 1), 0, [(0, 417)]),
  (33, 41, .ifCond .eq 15, 3, (56, 0, 0), 0, []),
  (33, 44, .iload 4, 2, (4, 0, 0), 0, []),
  (33, 46, .aload_n 0, 1, (0, 0, 0), 0, []),
  (33, 47, .getfield 21, 3, (2, 3, 1), 0, [(0, 240)]),
  (33, 50, .iload 6, 2, (6, 0, 0), 0, []),
  (33, 52, .iaload, 1, (0, 0, 0), 0, []),
  (33, 53, .iadd, 1, (0, 0, 0), 0, []),
  (33, 54, .istore 4, 2, (4, 0, 0), 0, []),
  (33, 56, .aload_n 0, 1, (0, 0, 0), 0, []),
  (33, 57, .getfield 25, 3, (2, 4, 1), 0, [(0, 241)]),
  (33, 60, .iload 6, 2, (6, 0, 0), 0, []),
  (33, 62, .iaload, 1, (0, 0, 0), 0, []),
  (33, 63, .istore 5, 2, (5, 0, 0), 0, []),
  (33, 65, .iinc 6 1, 3, (6, 0, 0), 1, []),
  (33, 68, .goto (-59), 3, (9, 0, 0), 0, []),
  (33, 71, .iload 4, 2, (4, 0, 0), 0, []),
  (33, 73, .ireturn, 1, (0, 0, 0), 0, [])]
def rows_34 : List mRow := [
  (34, 0, .iconst 0, 1, (0, 0, 0), 0, []),
  (34, 1, .istore 6, 2, (6, 0, 0), 0, []),
  (34, 3, .iconst 0, 1, (0, 0, 0), 0, []),
  (34, 4, .iload_n 1, 1, (1, 0, 0), 0, []),
  (34, 5, .invokestatic 47, 3, (0, 0, 0), 5, [(0, 421)]),
  (34, 8, .istore 7, 2, (7, 0, 0), 0, []),
  (34, 10, .iload 7, 2, (7, 0, 0), 0, []),
  (34, 12, .iload_n 2, 1, (2, 0, 0), 0, []),
  (34, 13, .if_icmp .ge 120, 3, (133, 0, 0), 0, []),
  (34, 16, .iload 7, 2, (7, 0, 0), 0, []),
  (34, 18, .bipush 100, 2, (0, 0, 0), 100, []),
  (34, 20, .if_icmp .ge 113, 3, (133, 0, 0), 0, []),
  (34, 23, .aload_n 0, 1, (0, 0, 0), 0, []),
  (34, 24, .getfield 31, 3, (2, 6, 1), 0, [(0, 243)]),
  (34, 27, .iload 7, 2, (7, 0, 0), 0, []),
  (34, 29, .iaload, 1, (0, 0, 0), 0, []),
  (34, 30, .istore 8, 2, (8, 0, 0), 0, []),
  (34, 32, .iload 6, 2, (6, 0, 0), 0, []),
  (34, 34, .iconst 1, 1, (0, 0, 0), 1, []),
  (34, 35, .ishr, 1, (0, 0, 0), 0, []),
  (34, 36, .istore 9, 2, (9, 0, 0), 0, []),
  (34, 38, .iload 8, 2, (8, 0, 0), 0, []),
  (34, 40, .tableswitch 62 (-3) (-1) #[50, 37, 28], 28, (102, 0, 0), 0, [((-3), 90), ((-2), 77), ((-1), 68)]),
  (34, 68, .iload 6, 2, (6, 0, 0), 0, []),
  (34, 70, .iconst 1, 1, (0, 0, 0), 1, []),
  (34, 71, .ixor, 1, (0, 0, 0), 0, []),
  (34, 72, .istore 6, 2, (6, 0, 0), 0, []),
  (34, 74, .goto 53, 3, (127, 0, 0), 0, []),
  (34, 77, .iload 9, 2, (9, 0, 0), 0, []),
  (34, 79, .iload 6, 2, (6, 0, 0), 0, []),
  (34, 81, .bipush (-2), 2, (0, 0, 0), (-2), []),
  (34, 83, .ior, 1, (0, 0, 0), 0, []),
  (34, 84, .iand, 1, (0, 0, 0), 0, []),
  (34, 85, .istore 6, 2, (6, 0, 0), 0, []),
  (34, 87, .goto 40, 3, (127, 0, 0), 0, []),
  (34, 90, .iload 9, 2, (9, 0, 0), 0, []),
  (34, 92, .iload 6, 2, (6, 0, 0), 0, []),
  (34, 94, .iconst 1, 1, (0, 0, 0), 1, []),
  (34, 95, .iand, 1, (0, 0, 0), 0, []),
  (34, 96, .ior, 1, (0, 0, 0), 0, []),
  (34, 97, .istore 6, 2, (6, 0, 0), 0, []),
  (34, 99, .goto 28, 3, (127, 0, 0), 0, []),
  (34, 102, .iload 6, 2, (6, 0, 0), 0, []),
  (34, 104, .iconst 1, 1, (0, 0, 0), 1, []),
  (34, 105, .ishl, 1, (0, 0, 0), 0, []),
  (34, 106, .iload 8, 2, (8, 0, 0), 0, []),
  (34, 108, .aload_n 3, 1, (3, 0, 0), 0, []),
  (34, 109, .iload 4, 2, (4, 0, 0), 0, []),
  (34, 111, .iload 5, 2, (5, 0, 0), 0, []),
  (34, 113, .invokestatic 84, 3, (35, 4, 1), 0, [(0, 424)]),
  (34, 116, .ifCond .eq 7, 3, (123, 0, 0), 0, []),
  (34, 119, .iconst 1, 1, (0, 0, 0), 1, []),
  (34, 120, .goto 4, 3, (124, 0, 0), 0, []),
  (34, 123, .iconst 0, 1, (0, 0, 0), 0, []),
  (34, 124, .ior, 1, (0, 0, 0), 0, []),
  (34, 125, .istore 6, 2, (6, 0, 0), 0, []),
  (34, 127, .iinc 7 1, 3, (7, 0, 0), 1, []),
  (34, 130, .goto (-120), 3, (10, 0, 0), 0, []),
  (34, 133, .iload 6, 2, (6, 0, 0), 0, []),
  (34, 135, .iconst 1, 1, (0, 0, 0), 1, []),
  (34, 136, .iand, 1, (0, 0, 0), 0, []),
  (34, 137, .iconst 1, 1, (0, 0, 0), 1, []),
  (34, 138, .if_icmp .ne 7, 3, (145, 0, 0), 0, []),
  (34, 141, .iconst 1, 1, (0, 0, 0), 1, []),
  (34, 142, .goto 4, 3, (146, 0, 0), 0, []),
  (34, 145, .iconst 0, 1, (0, 0, 0), 0, []),
  (34, 146, .ireturn, 1, (1, 0, 0), 0, [])]
def rows_35 : List mRow := [
  (35, 0, .iload_n 0, 1, (0, 0, 0), 0, []),
  (35, 1, .bipush 100, 2, (0, 0, 0), 100, []),
  (35, 3, .irem, 1, (0, 0, 0), 0, []),
  (35, 4, .istore 4, 2, (4, 0, 0), 0, []),
  (35, 6, .iload_n 0, 1, (0, 0, 0), 0, []),
  (35, 7, .bipush 100, 2, (0, 0, 0), 100, []),
  (35, 9, .idiv, 1, (0, 0, 0), 0, []),
  (35, 10, .iconst 3, 1, (0, 0, 0), 3, []),
  (35, 11, .irem, 1, (0, 0, 0), 0, []),
  (35, 12, .istore 5, 2, (5, 0, 0), 0, []),
  (35, 14, .iload_n 0, 1, (0, 0, 0), 0, []),
  (35, 15, .sipush 300, 3, (0, 0, 0), 300, []),
  (35, 18, .idiv, 1, (0, 0, 0), 0, []),
  (35, 19, .tableswitch 78 0 4 #[33, 42, 48, 57, 66], 33, (97, 0, 0), 0, [(0, 52), (1, 61), (2, 67), (3, 76), (4, 85)]),
  (35, 52, .aload_n 1, 1, (1, 0, 0), 0, []),
  (35, 53, .getfield 88, 3, (3, 0, 0), 0, [(0, 147)]),
  (35, 56, .istore 6, 2, (6, 0, 0), 0, []),
  (35, 58, .goto 42, 3, (100, 0, 0), 0, []),
  (35, 61, .iload_n 2, 1, (2, 0, 0), 0, []),
  (35, 62, .istore 6, 2, (6, 0, 0), 0, []),
  (35, 64, .goto 36, 3, (100, 0, 0), 0, []),
  (35, 67, .aload_n 1, 1, (1, 0, 0), 0, []),
  (35, 68, .getfield 62, 3, (3, 1, 0), 0, [(0, 152)]),
  (35, 71, .istore 6, 2, (6, 0, 0), 0, []),
  (35, 73, .goto 27, 3, (100, 0, 0), 0, []),
  (35, 76, .aload_n 1, 1, (1, 0, 0), 0, []),
  (35, 77, .getfield 74, 3, (3, 2, 0), 0, [(0, 156)]),
  (35, 80, .istore 6, 2, (6, 0, 0), 0, []),
  (35, 82, .goto 18, 3, (100, 0, 0), 0, []),
  (35, 85, .aload_n 1, 1, (1, 0, 0), 0, []),
  (35, 86, .getfield 65, 3, (3, 3, 0), 0, [(0, 159)]),
  (35, 89, .bipush 10, 2, (0, 0, 0), 10, []),
  (35, 91, .idiv, 1, (0, 0, 0), 0, []),
  (35, 92, .istore 6, 2, (6, 0, 0), 0, []),
  (35, 94, .goto 6, 3, (100, 0, 0), 0, []),
  (35, 97, .iload_n 3, 1, (3, 0, 0), 0, []),
  (35, 98, .istore 6, 2, (6, 0, 0), 0, []),
  (35, 100, .iload 5, 2, (5, 0, 0), 0, []),
  (35, 102, .ifCond .ne 18, 3, (120, 0, 0), 0, []),
  (35, 105, .iload 6, 2, (6, 0, 0), 0, []),
  (35, 107, .iload 4, 2, (4, 0, 0), 0, []),
  (35, 109, .if_icmp .ge 7, 3, (116, 0, 0), 0, []),
  (35, 112, .iconst 1, 1, (0, 0, 0), 1, []),
  (35, 113, .goto 40, 3, (153, 0, 0), 0, []),
  (35, 116, .iconst 0, 1, (0, 0, 0), 0, []),
  (35, 117, .goto 36, 3, (153, 0, 0), 0, []),
  (35, 120, .iload 5, 2, (5, 0, 0), 0, []),
  (35, 122, .iconst 1, 1, (0, 0, 0), 1, []),
  (35, 123, .if_icmp .ne 18, 3, (141, 0, 0), 0, []),
  (35, 126, .iload 6, 2, (6, 0, 0), 0, []),
  (35, 128, .iload 4, 2, (4, 0, 0), 0, []),
  (35, 130, .if_icmp .ne 7, 3, (137, 0, 0), 0, []),
  (35, 133, .iconst 1, 1, (0, 0, 0), 1, []),
  (35, 134, .goto 19, 3, (153, 0, 0), 0, []),
  (35, 137, .iconst 0, 1, (0, 0, 0), 0, []),
  (35, 138, .goto 15, 3, (153, 0, 0), 0, []),
  (35, 141, .iload 6, 2, (6, 0, 0), 0, []),
  (35, 143, .iload 4, 2, (4, 0, 0), 0, []),
  (35, 145, .if_icmp .le 7, 3, (152, 0, 0), 0, []),
  (35, 148, .iconst 1, 1, (0, 0, 0), 1, []),
  (35, 149, .goto 4, 3, (153, 0, 0), 0, []),
  (35, 152, .iconst 0, 1, (0, 0, 0), 0, []),
  (35, 153, .ireturn, 1, (1, 0, 0), 0, [])]
def rows_36 : List mRow := [
  (36, 0, .aload_n 1, 1, (1, 0, 0), 0, []),
  (36, 1, .getfield 91, 3, (3, 4, 0), 0, [(0, 163)]),
  (36, 4, .ifCond .eq 5, 3, (9, 0, 0), 0, []),
  (36, 7, .iconst 0, 1, (0, 0, 0), 0, []),
  (36, 8, .ireturn, 1, (0, 0, 0), 0, []),
  (36, 9, .bipush 6, 2, (0, 0, 0), 6, []),
  (36, 11, .aload_n 0, 1, (0, 0, 0), 0, []),
  (36, 12, .aload_n 1, 1, (1, 0, 0), 0, []),
  (36, 13, .iload_n 2, 1, (2, 0, 0), 0, []),
  (36, 14, .invokevirtual 95, 3, (37, 3, 1), 0, [(0, 448)]),
  (36, 17, .invokestatic 99, 3, (220, 1, 1), 0, [(0, 453)]),
  (36, 20, .isub, 1, (0, 0, 0), 0, []),
  (36, 21, .aload_n 0, 1, (0, 0, 0), 0, []),
  (36, 22, .getfield 18, 3, (2, 2, 0), 0, [(0, 236)]),
  (36, 25, .imul, 1, (0, 0, 0), 0, []),
  (36, 26, .ireturn, 1, (0, 0, 0), 0, [])]
def rows_37 : List mRow := [
  (37, 0, .iconst 0, 1, (0, 0, 0), 0, []),
  (37, 1, .istore_n 3, 1, (3, 0, 0), 0, []),
  (37, 2, .iconst 0, 1, (0, 0, 0), 0, []),
  (37, 3, .istore 4, 2, (4, 0, 0), 0, []),
  (37, 5, .iload 4, 2, (4, 0, 0), 0, []),
  (37, 7, .bipush 6, 2, (0, 0, 0), 6, []),
  (37, 9, .if_icmp .ge 31, 3, (40, 0, 0), 0, []),
  (37, 12, .aload_n 0, 1, (0, 0, 0), 0, []),
  (37, 13, .aload_n 1, 1, (1, 0, 0), 0, []),
  (37, 14, .iload 4, 2, (4, 0, 0), 0, []),
  (37, 16, .iload_n 2, 1, (2, 0, 0), 0, []),
  (37, 17, .invokevirtual 104, 3, (30, 4, 1), 0, [(0, 452)]),
  (37, 20, .aload_n 0, 1, (0, 0, 0), 0, []),
  (37, 21, .getfield 9, 3, (2, 0, 0), 0, [(0, 229)]),
  (37, 24, .if_icmp .lt 10, 3, (34, 0, 0), 0, []),
  (37, 27, .iload_n 3, 1, (3, 0, 0), 0, []),
  (37, 28, .iconst 1, 1, (0, 0, 0), 1, []),
  (37, 29, .iload 4, 2, (4, 0, 0), 0, []),
  (37, 31, .ishl, 1, (0, 0, 0), 0, []),
  (37, 32, .ior, 1, (0, 0, 0), 0, []),
  (37, 33, .istore_n 3, 1, (3, 0, 0), 0, []),
  (37, 34, .iinc 4 1, 3, (4, 0, 0), 1, []),
  (37, 37, .goto (-32), 3, (5, 0, 0), 0, []),
  (37, 40, .iload_n 3, 1, (3, 0, 0), 0, []),
  (37, 41, .ireturn, 1, (0, 0, 0), 0, [])]
def rows_38 : List mRow := [
  (38, 0, .iconst 0, 1, (0, 0, 0), 0, []),
  (38, 1, .istore_n 3, 1, (3, 0, 0), 0, []),
  (38, 2, .bipush (-5), 2, (0, 0, 0), (-5), []),
  (38, 4, .istore 4, 2, (4, 0, 0), 0, []),
  (38, 6, .iconst 0, 1, (0, 0, 0), 0, []),
  (38, 7, .istore 5, 2, (5, 0, 0), 0, []),
  (38, 9, .iload 5, 2, (5, 0, 0), 0, []),
  (38, 11, .bipush 6, 2, (0, 0, 0), 6, []),
  (38, 13, .if_icmp .ge 48, 3, (61, 0, 0), 0, []),
  (38, 16, .aload_n 0, 1, (0, 0, 0), 0, []),
  (38, 17, .aload_n 1, 1, (1, 0, 0), 0, []),
  (38, 18, .iload 5, 2, (5, 0, 0), 0, []),
  (38, 20, .iload_n 2, 1, (2, 0, 0), 0, []),
  (38, 21, .invokevirtual 104, 3, (30, 4, 1), 0, [(0, 452)]),
  (38, 24, .istore 6, 2, (6, 0, 0), 0, []),
  (38, 26, .iload 6, 2, (6, 0, 0), 0, []),
  (38, 28, .aload_n 0, 1, (0, 0, 0), 0, []),
  (38, 29, .getfield 9, 3, (2, 0, 0), 0, [(0, 229)]),
  (38, 32, .if_icmp .ge 23, 3, (55, 0, 0), 0, []),
  (38, 35, .iload 4, 2, (4, 0, 0), 0, []),
  (38, 37, .bipush (-5), 2, (0, 0, 0), (-5), []),
  (38, 39, .if_icmp .eq 9, 3, (48, 0, 0), 0, []),
  (38, 42, .iload 6, 2, (6, 0, 0), 0, []),
  (38, 44, .iload_n 3, 1, (3, 0, 0), 0, []),
  (38, 45, .if_icmp .le 10, 3, (55, 0, 0), 0, []),
  (38, 48, .iload 6, 2, (6, 0, 0), 0, []),
  (38, 50, .istore_n 3, 1, (3, 0, 0), 0, []),
  (38, 51, .iload 5, 2, (5, 0, 0), 0, []),
  (38, 53, .istore 4, 2, (4, 0, 0), 0, []),
  (38, 55, .iinc 5 1, 3, (5, 0, 0), 1, []),
  (38, 58, .goto (-49), 3, (9, 0, 0), 0, []),
  (38, 61, .iload 4, 2, (4, 0, 0), 0, []),
  (38, 63, .ireturn, 1, (0, 0, 0), 0, [])]
def rows_39 : List mRow := [
  (39, 0, .aload_n 0, 1, (0, 0, 0), 0, []),
  (39, 1, .invokespecial 3, 3, (0, 0, 0), 2, [(0, 144)]),
  (39, 4, .aload_n 0, 1, (0, 0, 0), 0, []),
  (39, 5, .bipush 6, 2, (0, 0, 0), 6, []),
  (39, 7, .newarray .int, 2, (100, 0, 0), 0, []),
  (39, 9, .putfield 9, 3, (3, 5, 1), 0, [(0, 164)]),
  (39, 12, .aload_n 0, 1, (0, 0, 0), 0, []),
  (39, 13, .iconst 4, 1, (0, 0, 0), 4, []),
  (39, 14, .newarray .int, 2, (100, 0, 0), 0, []),
  (39, 16, .putfield 15, 3, (3, 6, 1), 0, [(0, 167)]),
  (39, 19, .return_, 1, (0, 0, 0), 0, [])]
def rows_40 : List mRow := [
  (40, 0, .aload_n 0, 1, (0, 0, 0), 0, []),
  (40, 1, .iload_n 1, 1, (1, 0, 0), 0, []),
  (40, 2, .putfield 18, 3, (3, 0, 0), 0, [(0, 145)]),
  (40, 5, .aload_n 0, 1, (0, 0, 0), 0, []),
  (40, 6, .iload_n 2, 1, (2, 0, 0), 0, []),
  (40, 7, .putfield 22, 3, (3, 1, 0), 0, [(0, 149)]),
  (40, 10, .aload_n 0, 1, (0, 0, 0), 0, []),
  (40, 11, .iload_n 3, 1, (3, 0, 0), 0, []),
  (40, 12, .putfield 25, 3, (3, 2, 0), 0, [(0, 153)]),
  (40, 15, .aload_n 0, 1, (0, 0, 0), 0, []),
  (40, 16, .iload 4, 2, (4, 0, 0), 0, []),
  (40, 18, .putfield 28, 3, (3, 3, 0), 0, [(0, 157)]),
  (40, 21, .aload_n 0, 1, (0, 0, 0), 0, []),
  (40, 22, .iconst 0, 1, (0, 0, 0), 0, []),
  (40, 23, .putfield 31, 3, (3, 4, 2), 0, [(0, 160)]),
  (40, 26, .aload_n 0, 1, (0, 0, 0), 0, []),
  (40, 27, .getfield 9, 3, (3, 5, 1), 0, [(0, 164)]),
  (40, 30, .iload_n 3, 1, (3, 0, 0), 0, []),
  (40, 31, .invokestatic 35, 3, (227, 2, 0), 0, [(0, 394)]),
  (40, 34, .aload_n 0, 1, (0, 0, 0), 0, []),
  (40, 35, .getfield 15, 3, (3, 6, 1), 0, [(0, 167)]),
  (40, 38, .iconst 0, 1, (0, 0, 0), 0, []),
  (40, 39, .invokestatic 35, 3, (227, 2, 0), 0, [(0, 394)]),
  (40, 42, .return_, 1, (0, 0, 0), 0, [])]
def rows_41 : List mRow := [
  (41, 0, .aload_n 0, 1, (0, 0, 0), 0, []),
  (41, 1, .aload_n 1, 1, (1, 0, 0), 0, []),
  (41, 2, .getfield 18, 3, (3, 0, 0), 0, [(0, 145)]),
  (41, 5, .putfield 18, 3, (3, 0, 0), 0, [(0, 145)]),
  (41, 8, .aload_n 0, 1, (0, 0, 0), 0, []),
  (41, 9, .aload_n 1, 1, (1, 0, 0), 0, []),
  (41, 10, .getfield 22, 3, (3, 1, 0), 0, [(0, 149)]),
  (41, 13, .putfield 22, 3, (3, 1, 0), 0, [(0, 149)]),
  (41, 16, .aload_n 0, 1, (0, 0, 0), 0, []),
  (41, 17, .aload_n 1, 1, (1, 0, 0), 0, []),
  (41, 18, .getfield 25, 3, (3, 2, 0), 0, [(0, 153)]),
  (41, 21, .putfield 25, 3, (3, 2, 0), 0, [(0, 153)]),
  (41, 24, .aload_n 0, 1, (0, 0, 0), 0, []),
  (41, 25, .aload_n 1, 1, (1, 0, 0), 0, []),
  (41, 26, .getfield 28, 3, (3, 3, 0), 0, [(0, 157)]),
  (41, 29, .putfield 28, 3, (3, 3, 0), 0, [(0, 157)]),
  (41, 32, .aload_n 0, 1, (0, 0, 0), 0, []),
  (41, 33, .aload_n 1, 1, (1, 0, 0), 0, []),
  (41, 34, .getfield 31, 3, (3, 4, 0), 0, [(0, 160)]),
  (41, 37, .putfield 31, 3, (3, 4, 2), 0, [(0, 160)]),
  (41, 40, .aload_n 1, 1, (1, 0, 0), 0, []),
  (41, 41, .getfield 9, 3, (3, 5, 1), 0, [(0, 164)]),
  (41, 44, .iconst 0, 1, (0, 0, 0), 0, []),
  (41, 45, .aload_n 0, 1, (0, 0, 0), 0, []),
  (41, 46, .getfield 9, 3, (3, 5, 1), 0, [(0, 164)]),
  (41, 49, .iconst 0, 1, (0, 0, 0), 0, []),
  (41, 50, .bipush 6, 2, (0, 0, 0), 6, []),
  (41, 52, .invokestatic 41, 3, (0, 0, 0), 3, [(0, 642)]),
  (41, 55, .aload_n 1, 1, (1, 0, 0), 0, []),
  (41, 56, .getfield 15, 3, (3, 6, 1), 0, [(0, 167)]),
  (41, 59, .iconst 0, 1, (0, 0, 0), 0, []),
  (41, 60, .aload_n 0, 1, (0, 0, 0), 0, []),
  (41, 61, .getfield 15, 3, (3, 6, 1), 0, [(0, 167)]),
  (41, 64, .iconst 0, 1, (0, 0, 0), 0, []),
  (41, 65, .iconst 4, 1, (0, 0, 0), 4, []),
  (41, 66, .invokestatic 41, 3, (0, 0, 0), 3, [(0, 642)]),
  (41, 69, .return_, 1, (0, 0, 0), 0, [])]
def rows_42 : List mRow := [
  (42, 0, .iconst 0, 1, (0, 0, 0), 0, []),
  (42, 1, .istore_n 2, 1, (2, 0, 0), 0, []),
  (42, 2, .iload_n 2, 1, (2, 0, 0), 0, []),
  (42, 3, .iload_n 1, 1, (1, 0, 0), 0, []),
  (42, 4, .if_icmp .ge 57, 3, (61, 0, 0), 0, []),
  (42, 7, .aload_n 0, 1, (0, 0, 0), 0, []),
  (42, 8, .getfield 28, 3, (3, 3, 0), 0, [(0, 157)]),
  (42, 11, .bipush 99, 2, (0, 0, 0), 99, []),
  (42, 13, .if_icmp .ge 48, 3, (61, 0, 0), 0, []),
  (42, 16, .aload_n 0, 1, (0, 0, 0), 0, []),
  (42, 17, .dup, 1, (0, 0, 0), 0, []),
  (42, 18, .getfield 28, 3, (3, 3, 0), 0, [(0, 157)]),
  (42, 21, .iconst 1, 1, (0, 0, 0), 1, []),
  (42, 22, .iadd, 1, (0, 0, 0), 0, []),
  (42, 23, .putfield 28, 3, (3, 3, 0), 0, [(0, 157)]),
  (42, 26, .aload_n 0, 1, (0, 0, 0), 0, []),
  (42, 27, .getfield 28, 3, (3, 3, 0), 0, [(0, 157)]),
  (42, 30, .bipush 40, 2, (0, 0, 0), 40, []),
  (42, 32, .if_icmp .ne 23, 3, (55, 0, 0), 0, []),
  (42, 35, .aload_n 0, 1, (0, 0, 0), 0, []),
  (42, 36, .getfield 25, 3, (3, 2, 0), 0, [(0, 153)]),
  (42, 39, .ifCond .lt 16, 3, (55, 0, 0), 0, []),
  (42, 42, .aload_n 0, 1, (0, 0, 0), 0, []),
  (42, 43, .getfield 9, 3, (3, 5, 1), 0, [(0, 164)]),
  (42, 46, .aload_n 0, 1, (0, 0, 0), 0, []),
  (42, 47, .getfield 25, 3, (3, 2, 0), 0, [(0, 153)]),
  (42, 50, .bipush 6, 2, (0, 0, 0), 6, []),
  (42, 52, .irem, 1, (0, 0, 0), 0, []),
  (42, 53, .iconst 0, 1, (0, 0, 0), 0, []),
  (42, 54, .iastore, 1, (0, 0, 0), 0, []),
  (42, 55, .iinc 2 1, 3, (2, 0, 0), 1, []),
  (42, 58, .goto (-56), 3, (2, 0, 0), 0, []),
  (42, 61, .return_, 1, (0, 0, 0), 0, [])]
def rows_43 : List mRow := [
  (43, 0, .aload_n 0, 1, (0, 0, 0), 0, []),
  (43, 1, .invokespecial 3, 3, (0, 0, 0), 2, [(0, 268)]),
  (43, 4, .aload_n 0, 1, (0, 0, 0), 0, []),
  (43, 5, .bipush 100, 2, (0, 0, 0), 100, []),
  (43, 7, .newarray .int, 2, (100, 0, 0), 0, []),
  (43, 9, .putfield 9, 3, (4, 0, 1), 0, [(0, 271)]),
  (43, 12, .aload_n 0, 1, (0, 0, 0), 0, []),
  (43, 13, .iconst 0, 1, (0, 0, 0), 0, []),
  (43, 14, .putfield 15, 3, (4, 1, 0), 0, [(0, 273)]),
  (43, 17, .aload_n 0, 1, (0, 0, 0), 0, []),
  (43, 18, .iconst 0, 1, (0, 0, 0), 0, []),
  (43, 19, .putfield 19, 3, (4, 2, 0), 0, [(0, 275)]),
  (43, 22, .aload_n 0, 1, (0, 0, 0), 0, []),
  (43, 23, .iconst (-1), 1, (0, 0, 0), (-1), []),
  (43, 24, .putfield 22, 3, (4, 3, 0), 0, [(0, 277)]),
  (43, 27, .aload_n 0, 1, (0, 0, 0), 0, []),
  (43, 28, .new 25, 3, (2, 8, 0), 0, [(0, 269)]),
  (43, 31, .dup, 1, (0, 0, 0), 0, []),
  (43, 32, .invokespecial 27, 3, (25, 1, 0), 0, []),
  (43, 35, .putfield 28, 3, (4, 4, 1), 0, [(0, 278)]),
  (43, 38, .return_, 1, (0, 0, 0), 0, [])]
def rows_44 : List mRow := [
  (44, 0, .aload_n 0, 1, (0, 0, 0), 0, []),
  (44, 1, .getfield 28, 3, (4, 4, 1), 0, [(0, 278)]),
  (44, 4, .astore_n 1, 1, (1, 0, 0), 0, []),
  (44, 5, .aload_n 0, 1, (0, 0, 0), 0, []),
  (44, 6, .new 25, 3, (2, 8, 0), 0, [(0, 269)]),
  (44, 9, .dup, 1, (0, 0, 0), 0, []),
  (44, 10, .invokespecial 27, 3, (25, 1, 0), 0, []),
  (44, 13, .putfield 28, 3, (4, 4, 1), 0, [(0, 278)]),
  (44, 16, .aload_n 1, 1, (1, 0, 0), 0, []),
  (44, 17, .areturn, 1, (0, 0, 0), 0, [])]
def rows_45 : List mRow := [
  (45, 0, .aload_n 0, 1, (0, 0, 0), 0, []),
  (45, 1, .getfield 28, 3, (4, 4, 1), 0, [(0, 278)]),
  (45, 4, .invokevirtual 32, 3, (26, 1, 0), 0, [(0, 498)]),
  (45, 7, .aload_n 0, 1, (0, 0, 0), 0, []),
  (45, 8, .iconst 0, 1, (0, 0, 0), 0, []),
  (45, 9, .invokevirtual 35, 3, (46, 2, 0), 0, [(0, 502)]),
  (45, 12, .iconst 0, 1, (0, 0, 0), 0, []),
  (45, 13, .istore_n 1, 1, (1, 0, 0), 0, []),
  (45, 14, .iload_n 1, 1, (1, 0, 0), 0, []),
  (45, 15, .bipush 10, 2, (0, 0, 0), 10, []),
  (45, 17, .if_icmp .ge 44, 3, (61, 0, 0), 0, []),
  (45, 20, .iload_n 1, 1, (1, 0, 0), 0, []),
  (45, 21, .ifCond .le 12, 3, (33, 0, 0), 0, []),
  (45, 24, .aload_n 0, 1, (0, 0, 0), 0, []),
  (45, 25, .bipush 59, 2, (0, 0, 0), 59, []),
  (45, 27, .invokevirtual 39, 3, (47, 2, 1), 0, [(0, 506)]),
  (45, 30, .ifCond .eq 10, 3, (40, 0, 0), 0, []),
  (45, 33, .aload_n 0, 1, (0, 0, 0), 0, []),
  (45, 34, .invokevirtual 43, 3, (49, 1, 1), 0, [(0, 510)]),
  (45, 37, .ifCond .ne 5, 3, (42, 0, 0), 0, []),
  (45, 40, .iconst 0, 1, (0, 0, 0), 0, []),
  (45, 41, .ireturn, 1, (1, 0, 0), 0, []),
  (45, 42, .aload_n 0, 1, (0, 0, 0), 0, []),
  (45, 43, .getfield 19, 3, (4, 2, 0), 0, [(0, 275)]),
  (45, 46, .aload_n 0, 1, (0, 0, 0), 0, []),
  (45, 47, .getfield 15, 3, (4, 1, 0), 0, [(0, 273)]),
  (45, 50, .if_icmp .lt 5, 3, (55, 0, 0), 0, []),
  (45, 53, .iconst 1, 1, (0, 0, 0), 1, []),
  (45, 54, .ireturn, 1, (1, 0, 0), 0, []),
  (45, 55, .iinc 1 1, 3, (1, 0, 0), 1, []),
  (45, 58, .goto (-44), 3, (14, 0, 0), 0, []),
  (45, 61, .iconst 0, 1, (0, 0, 0), 0, []),
  (45, 62, .ireturn, 1, (1, 0, 0), 0, [])]
def rows_46 : List mRow := [
  (46, 0, .aload_n 0, 1, (0, 0, 0), 0, []),
  (46, 1, .iload_n 1, 1, (1, 0, 0), 0, []),
  (46, 2, .putfield 19, 3, (4, 2, 0), 0, [(0, 275)]),
  (46, 5, .aload_n 0, 1, (0, 0, 0), 0, []),
  (46, 6, .aload_n 0, 1, (0, 0, 0), 0, []),
  (46, 7, .getfield 19, 3, (4, 2, 0), 0, [(0, 275)]),
  (46, 10, .ifCond .lt 35, 3, (45, 0, 0), 0, []),
  (46, 13, .aload_n 0, 1, (0, 0, 0), 0, []),
  (46, 14, .getfield 19, 3, (4, 2, 0), 0, [(0, 275)]),
  (46, 17, .aload_n 0, 1, (0, 0, 0), 0, []),
  (46, 18, .getfield 15, 3, (4, 1, 0), 0, [(0, 273)]),
  (46, 21, .if_icmp .ge 24, 3, (45, 0, 0), 0, []),
  (46, 24, .aload_n 0, 1, (0, 0, 0), 0, []),
  (46, 25, .getfield 19, 3, (4, 2, 0), 0, [(0, 275)]),
  (46, 28, .bipush 100, 2, (0, 0, 0), 100, []),
  (46, 30, .if_icmp .ge 15, 3, (45, 0, 0), 0, []),
  (46, 33, .aload_n 0, 1, (0, 0, 0), 0, []),
  (46, 34, .getfield 9, 3, (4, 0, 1), 0, [(0, 271)]),
  (46, 37, .aload_n 0, 1, (0, 0, 0), 0, []),
  (46, 38, .getfield 19, 3, (4, 2, 0), 0, [(0, 275)]),
  (46, 41, .iaload, 1, (0, 0, 0), 0, []),
  (46, 42, .goto 4, 3, (46, 0, 0), 0, []),
  (46, 45, .iconst (-1), 1, (0, 0, 0), (-1), []),
  (46, 46, .putfield 22, 3, (4, 3, 0), 0, [(0, 277)]),
  (46, 49, .return_, 1, (0, 0, 0), 0, [])]
def rows_47 : List mRow := [
  (47, 0, .aload_n 0, 1, (0, 0, 0), 0, []),
  (47, 1, .getfield 22, 3, (4, 3, 0), 0, [(0, 277)]),
  (47, 4, .iload_n 1, 1, (1, 0, 0), 0, []),
  (47, 5, .if_icmp .eq 5, 3, (10, 0, 0), 0, []),
  (47, 8, .iconst 0, 1, (0, 0, 0), 0, []),
  (47, 9, .ireturn, 1, (1, 0, 0), 0, []),
  (47, 10, .aload_n 0, 1, (0, 0, 0), 0, []),
  (47, 11, .aload_n 0, 1, (0, 0, 0), 0, []),
  (47, 12, .getfield 19, 3, (4, 2, 0), 0, [(0, 275)]),
  (47, 15, .iconst 1, 1, (0, 0, 0), 1, []),
  (47, 16, .iadd, 1, (0, 0, 0), 0, []),
  (47, 17, .invokevirtual 35, 3, (46, 2, 0), 0, [(0, 502)]),
  (47, 20, .iconst 1, 1, (0, 0, 0), 1, []),
  (47, 21, .ireturn, 1, (1, 0, 0), 0, [])]
def rows_48 : List mRow := [
  (48, 0, .iconst 0, 1, (0, 0, 0), 0, []),
  (48, 1, .istore_n 2, 1, (2, 0, 0), 0, []),
  (48, 2, .iload_n 2, 1, (2, 0, 0), 0, []),
  (48, 3, .aload_n 1, 1, (1, 0, 0), 0, []),
  (48, 4, .invokevirtual 47, 3, (221, 1, 1), 0, [(0, 523)]),
  (48, 7, .if_icmp .ge 23, 3, (30, 0, 0), 0, []),
  (48, 10, .aload_n 0, 1, (0, 0, 0), 0, []),
  (48, 11, .aload_n 1, 1, (1, 0, 0), 0, []),
  (48, 12, .iload_n 2, 1, (2, 0, 0), 0, []),
  (48, 13, .invokevirtual 52, 3, (222, 2, 1), 0, [(0, 533)]),
  (48, 16, .invokevirtual 39, 3, (47, 2, 1), 0, [(0, 506)]),
  (48, 19, .ifCond .ne 5, 3, (24, 0, 0), 0, []),
  (48, 22, .iconst 0, 1, (0, 0, 0), 0, []),
  (48, 23, .ireturn, 1, (1, 0, 0), 0, []),
  (48, 24, .iinc 2 1, 3, (2, 0, 0), 1, []),
  (48, 27, .goto (-25), 3, (2, 0, 0), 0, []),
  (48, 30, .iconst 1, 1, (0, 0, 0), 1, []),
  (48, 31, .ireturn, 1, (1, 0, 0), 0, [])]
def rows_49 : List mRow := [
  (49, 0, .aload_n 0, 1, (0, 0, 0), 0, []),
  (49, 1, .invokevirtual 56, 3, (50, 1, 1), 0, [(0, 514)]),
  (49, 4, .istore_n 1, 1, (1, 0, 0), 0, []),
  (49, 5, .iload_n 1, 1, (1, 0, 0), 0, []),
  (49, 6, .iconst (-1), 1, (0, 0, 0), (-1), []),
  (49, 7, .if_icmp .ne 7, 3, (14, 0, 0), 0, []),
  (49, 10, .iconst (-1), 1, (0, 0, 0), (-1), []),
  (49, 11, .goto 7, 3, (18, 0, 0), 0, []),
  (49, 14, .aload_n 0, 1, (0, 0, 0), 0, []),
  (49, 15, .invokevirtual 59, 3, (51, 1, 1), 0, [(0, 576)]),
  (49, 18, .istore_n 2, 1, (2, 0, 0), 0, []),
  (49, 19, .iload_n 2, 1, (2, 0, 0), 0, []),
  (49, 20, .iconst (-1), 1, (0, 0, 0), (-1), []),
  (49, 21, .if_icmp .ne 5, 3, (26, 0, 0), 0, []),
  (49, 24, .iconst 0, 1, (0, 0, 0), 0, []),
  (49, 25, .ireturn, 1, (1, 0, 0), 0, []),
  (49, 26, .iload_n 1, 1, (1, 0, 0), 0, []),
  (49, 27, .tableswitch 60 2 4 #[25, 35, 50], 25, (87, 0, 0), 0, [(2, 52), (3, 62), (4, 77)]),
  (49, 52, .aload_n 0, 1, (0, 0, 0), 0, []),
  (49, 53, .getfield 28, 3, (4, 4, 1), 0, [(0, 278)]),
  (49, 56, .iload_n 2, 1, (2, 0, 0), 0, []),
  (49, 57, .putfield 62, 3, (2, 0, 0), 0, [(0, 230)]),
  (49, 60, .iconst 1, 1, (0, 0, 0), 1, []),
  (49, 61, .ireturn, 1, (1, 0, 0), 0, []),
  (49, 62, .aload_n 0, 1, (0, 0, 0), 0, []),
  (49, 63, .getfield 28, 3, (4, 4, 1), 0, [(0, 278)]),
  (49, 66, .iload_n 2, 1, (2, 0, 0), 0, []),
  (49, 67, .bipush 23, 2, (0, 0, 0), 23, []),
  (49, 69, .invokestatic 65, 3, (0, 0, 0), 6, [(0, 580)]),
  (49, 72, .putfield 71, 3, (2, 1, 0), 0, [(0, 234)]),
  (49, 75, .iconst 1, 1, (0, 0, 0), 1, []),
  (49, 76, .ireturn, 1, (1, 0, 0), 0, []),
  (49, 77, .aload_n 0, 1, (0, 0, 0), 0, []),
  (49, 78, .getfield 28, 3, (4, 4, 1), 0, [(0, 278)]),
  (49, 81, .iload_n 2, 1, (2, 0, 0), 0, []),
  (49, 82, .putfield 74, 3, (2, 2, 0), 0, [(0, 237)]),
  (49, 85, .iconst 1, 1, (0, 0, 0), 1, []),
  (49, 86, .ireturn, 1, (1, 0, 0), 0, []),
  (49, 87, .aload_n 0, 1, (0, 0, 0), 0, []),
  (49, 88, .bipush 32, 2, (0, 0, 0), 32, []),
  (49, 90, .invokevirtual 39, 3, (47, 2, 1), 0, [(0, 506)]),
  (49, 93, .ifCond .eq 11, 3, (104, 0, 0), 0, []),
  (49, 96, .aload_n 0, 1, (0, 0, 0), 0, []),
  (49, 97, .iconst 0, 1, (0, 0, 0), 0, []),
  (49, 98, .invokevirtual 77, 3, (52, 2, 1), 0, [(0, 581)]),
  (49, 101, .ifCond .ne 5, 3, (106, 0, 0), 0, []),
  (49, 104, .iconst 0, 1, (0, 0, 0), 0, []),
  (49, 105, .ireturn, 1, (1, 0, 0), 0, []),
  (49, 106, .aload_n 0, 1, (0, 0, 0), 0, []),
  (49, 107, .getfield 28, 3, (4, 4, 1), 0, [(0, 278)]),
  (49, 110, .iload_n 1, 1, (1, 0, 0), 0, []),
  (49, 111, .ifCond .ne 7, 3, (118, 0, 0), 0, []),
  (49, 114, .iload_n 2, 1, (2, 0, 0), 0, []),
  (49, 115, .goto 5, 3, (120, 0, 0), 0, []),
  (49, 118, .iload_n 2, 1, (2, 0, 0), 0, []),
  (49, 119, .ineg, 1, (0, 0, 0), 0, []),
  (49, 120, .invokevirtual 81, 3, (28, 2, 0), 0, [(0, 601)]),
  (49, 123, .iconst 1, 1, (0, 0, 0), 1, []),
  (49, 124, .ireturn, 1, (1, 0, 0), 0, [])]
def rows_50 : List mRow := [
  (50, 0, .aload_n 0, 1, (0, 0, 0), 0, []),
  (50, 1, .bipush 109, 2, (0, 0, 0), 109, []),
  (50, 3, .invokevirtual 39, 3, (47, 2, 1), 0, [(0, 506)]),
  (50, 6, .ifCond .eq 18, 3, (24, 0, 0), 0, []),
  (50, 9, .aload_n 0, 1, (0, 0, 0), 0, []),
  (50, 10, .ldc 84, 2, (3, 0, 0), 0, []),
  (50, 12, .invokevirtual 86, 3, (48, 2, 1), 0, [(0, 519)]),
  (50, 15, .ifCond .eq 7, 3, (22, 0, 0), 0, []),
  (50, 18, .iconst 1, 1, (0, 0, 0), 1, []),
  (50, 19, .goto 4, 3, (23, 0, 0), 0, []),
  (50, 22, .iconst (-1), 1, (0, 0, 0), (-1), []),
  (50, 23, .ireturn, 1, (0, 0, 0), 0, []),
  (50, 24, .aload_n 0, 1, (0, 0, 0), 0, []),
  (50, 25, .bipush 116, 2, (0, 0, 0), 116, []),
  (50, 27, .invokevirtual 39, 3, (47, 2, 1), 0, [(0, 506)]),
  (50, 30, .ifCond .eq 18, 3, (48, 0, 0), 0, []),
  (50, 33, .aload_n 0, 1, (0, 0, 0), 0, []),
  (50, 34, .ldc 90, 2, (4, 0, 0), 0, []),
  (50, 36, .invokevirtual 86, 3, (48, 2, 1), 0, [(0, 519)]),
  (50, 39, .ifCond .eq 7, 3, (46, 0, 0), 0, []),
  (50, 42, .iconst 2, 1, (0, 0, 0), 2, []),
  (50, 43, .goto 4, 3, (47, 0, 0), 0, []),
  (50, 46, .iconst (-1), 1, (0, 0, 0), (-1), []),
  (50, 47, .ireturn, 1, (0, 0, 0), 0, []),
  (50, 48, .aload_n 0, 1, (0, 0, 0), 0, []),
  (50, 49, .bipush 114, 2, (0, 0, 0), 114, []),
  (50, 51, .invokevirtual 39, 3, (47, 2, 1), 0, [(0, 506)]),
  (50, 54, .ifCond .eq 18, 3, (72, 0, 0), 0, []),
  (50, 57, .aload_n 0, 1, (0, 0, 0), 0, []),
  (50, 58, .ldc 92, 2, (5, 0, 0), 0, []),
  (50, 60, .invokevirtual 86, 3, (48, 2, 1), 0, [(0, 519)]),
  (50, 63, .ifCond .eq 7, 3, (70, 0, 0), 0, []),
  (50, 66, .iconst 4, 1, (0, 0, 0), 4, []),
  (50, 67, .goto 4, 3, (71, 0, 0), 0, []),
  (50, 70, .iconst (-1), 1, (0, 0, 0), (-1), []),
  (50, 71, .ireturn, 1, (0, 0, 0), 0, []),
  (50, 72, .aload_n 0, 1, (0, 0, 0), 0, []),
  (50, 73, .ldc 94, 2, (6, 0, 0), 0, []),
  (50, 75, .invokevirtual 86, 3, (48, 2, 1), 0, [(0, 519)]),
  (50, 78, .ifCond .ne 5, 3, (83, 0, 0), 0, []),
  (50, 81, .iconst (-1), 1, (0, 0, 0), (-1), []),
  (50, 82, .ireturn, 1, (0, 0, 0), 0, []),
  (50, 83, .aload_n 0, 1, (0, 0, 0), 0, []),
  (50, 84, .bipush 107, 2, (0, 0, 0), 107, []),
  (50, 86, .invokevirtual 39, 3, (47, 2, 1), 0, [(0, 506)]),
  (50, 89, .ifCond .eq 18, 3, (107, 0, 0), 0, []),
  (50, 92, .aload_n 0, 1, (0, 0, 0), 0, []),
  (50, 93, .ldc 96, 2, (7, 0, 0), 0, []),
  (50, 95, .invokevirtual 86, 3, (48, 2, 1), 0, [(0, 519)]),
  (50, 98, .ifCond .eq 7, 3, (105, 0, 0), 0, []),
  (50, 101, .iconst 0, 1, (0, 0, 0), 0, []),
  (50, 102, .goto 4, 3, (106, 0, 0), 0, []),
  (50, 105, .iconst (-1), 1, (0, 0, 0), (-1), []),
  (50, 106, .ireturn, 1, (0, 0, 0), 0, []),
  (50, 107, .aload_n 0, 1, (0, 0, 0), 0, []),
  (50, 108, .ldc 98, 2, (8, 0, 0), 0, []),
  (50, 110, .invokevirtual 86, 3, (48, 2, 1), 0, [(0, 519)]),
  (50, 113, .ifCond .eq 7, 3, (120, 0, 0), 0, []),
  (50, 116, .iconst 3, 1, (0, 0, 0), 3, []),
  (50, 117, .goto 4, 3, (121, 0, 0), 0, []),
  (50, 120, .iconst (-1), 1, (0, 0, 0), (-1), []),
  (50, 121, .ireturn, 1, (0, 0, 0), 0, [])]
def rows_51 : List mRow := [
  (51, 0, .aload_n 0, 1, (0, 0, 0), 0, []),
  (51, 1, .getfield 22, 3, (4, 3, 0), 0, [(0, 277)]),
  (51, 4, .bipush 48, 2, (0, 0, 0), 48, []),
  (51, 6, .if_icmp .lt 12, 3, (18, 0, 0), 0, []),
  (51, 9, .aload_n 0, 1, (0, 0, 0), 0, []),
  (51, 10, .getfield 22, 3, (4, 3, 0), 0, [(0, 277)]),
  (51, 13, .bipush 57, 2, (0, 0, 0), 57, []),
  (51, 15, .if_icmp .le 5, 3, (20, 0, 0), 0, []),
  (51, 18, .iconst (-1), 1, (0, 0, 0), (-1), []),
  (51, 19, .ireturn, 1, (0, 0, 0), 0, []),
  (51, 20, .aload_n 0, 1, (0, 0, 0), 0, []),
  (51, 21, .getfield 22, 3, (4, 3, 0), 0, [(0, 277)]),
  (51, 24, .bipush 48, 2, (0, 0, 0), 48, []),
  (51, 26, .isub, 1, (0, 0, 0), 0, []),
  (51, 27, .istore_n 1, 1, (1, 0, 0), 0, []),
  (51, 28, .aload_n 0, 1, (0, 0, 0), 0, []),
  (51, 29, .aload_n 0, 1, (0, 0, 0), 0, []),
  (51, 30, .getfield 19, 3, (4, 2, 0), 0, [(0, 275)]),
  (51, 33, .iconst 1, 1, (0, 0, 0), 1, []),
  (51, 34, .iadd, 1, (0, 0, 0), 0, []),
  (51, 35, .invokevirtual 35, 3, (46, 2, 0), 0, [(0, 502)]),
  (51, 38, .aload_n 0, 1, (0, 0, 0), 0, []),
  (51, 39, .getfield 22, 3, (4, 3, 0), 0, [(0, 277)]),
  (51, 42, .bipush 48, 2, (0, 0, 0), 48, []),
  (51, 44, .if_icmp .lt 12, 3, (56, 0, 0), 0, []),
  (51, 47, .aload_n 0, 1, (0, 0, 0), 0, []),
  (51, 48, .getfield 22, 3, (4, 3, 0), 0, [(0, 277)]),
  (51, 51, .bipush 57, 2, (0, 0, 0), 57, []),
  (51, 53, .if_icmp .le 5, 3, (58, 0, 0), 0, []),
  (51, 56, .iload_n 1, 1, (1, 0, 0), 0, []),
  (51, 57, .ireturn, 1, (0, 0, 0), 0, []),
  (51, 58, .iload_n 1, 1, (1, 0, 0), 0, []),
  (51, 59, .bipush 10, 2, (0, 0, 0), 10, []),
  (51, 61, .imul, 1, (0, 0, 0), 0, []),
  (51, 62, .aload_n 0, 1, (0, 0, 0), 0, []),
  (51, 63, .getfield 22, 3, (4, 3, 0), 0, [(0, 277)]),
  (51, 66, .iadd, 1, (0, 0, 0), 0, []),
  (51, 67, .bipush 48, 2, (0, 0, 0), 48, []),
  (51, 69, .isub, 1, (0, 0, 0), 0, []),
  (51, 70, .istore_n 1, 1, (1, 0, 0), 0, []),
  (51, 71, .aload_n 0, 1, (0, 0, 0), 0, []),
  (51, 72, .aload_n 0, 1, (0, 0, 0), 0, []),
  (51, 73, .getfield 19, 3, (4, 2, 0), 0, [(0, 275)]),
  (51, 76, .iconst 1, 1, (0, 0, 0), 1, []),
  (51, 77, .iadd, 1, (0, 0, 0), 0, []),
  (51, 78, .invokevirtual 35, 3, (46, 2, 0), 0, [(0, 502)]),
  (51, 81, .iload_n 1, 1, (1, 0, 0), 0, []),
  (51, 82, .ireturn, 1, (0, 0, 0), 0, [])]
def rows_52 : List mRow := [
  (52, 0, .aload_n 0, 1, (0, 0, 0), 0, []),
  (52, 1, .iload_n 1, 1, (1, 0, 0), 0, []),
  (52, 2, .invokevirtual 100, 3, (53, 2, 1), 0, [(0, 585)]),
  (52, 5, .ifCond .ne 5, 3, (10, 0, 0), 0, []),
  (52, 8, .iconst 0, 1, (0, 0, 0), 0, []),
  (52, 9, .ireturn, 1, (1, 0, 0), 0, []),
  (52, 10, .iconst 0, 1, (0, 0, 0), 0, []),
  (52, 11, .istore_n 2, 1, (2, 0, 0), 0, []),
  (52, 12, .iload_n 2, 1, (2, 0, 0), 0, []),
  (52, 13, .bipush 100, 2, (0, 0, 0), 100, []),
  (52, 15, .if_icmp .ge 37, 3, (52, 0, 0), 0, []),
  (52, 18, .aload_n 0, 1, (0, 0, 0), 0, []),
  (52, 19, .bipush 124, 2, (0, 0, 0), 124, []),
  (52, 21, .invokevirtual 39, 3, (47, 2, 1), 0, [(0, 506)]),
  (52, 24, .ifCond .eq 28, 3, (52, 0, 0), 0, []),
  (52, 27, .aload_n 0, 1, (0, 0, 0), 0, []),
  (52, 28, .iload_n 1, 1, (1, 0, 0), 0, []),
  (52, 29, .invokevirtual 100, 3, (53, 2, 1), 0, [(0, 585)]),
  (52, 32, .ifCond .ne 5, 3, (37, 0, 0), 0, []),
  (52, 35, .iconst 0, 1, (0, 0, 0), 0, []),
  (52, 36, .ireturn, 1, (1, 0, 0), 0, []),
  (52, 37, .aload_n 0, 1, (0, 0, 0), 0, []),
  (52, 38, .getfield 28, 3, (4, 4, 1), 0, [(0, 278)]),
  (52, 41, .bipush (-3), 2, (0, 0, 0), (-3), []),
  (52, 43, .invokevirtual 103, 3, (27, 2, 0), 0, [(0, 597)]),
  (52, 46, .iinc 2 1, 3, (2, 0, 0), 1, []),
  (52, 49, .goto (-37), 3, (12, 0, 0), 0, []),
  (52, 52, .iconst 1, 1, (0, 0, 0), 1, []),
  (52, 53, .ireturn, 1, (1, 0, 0), 0, [])]
def rows_53 : List mRow := [
  (53, 0, .aload_n 0, 1, (0, 0, 0), 0, []),
  (53, 1, .iload_n 1, 1, (1, 0, 0), 0, []),
  (53, 2, .invokevirtual 106, 3, (54, 2, 1), 0, [(0, 589)]),
  (53, 5, .ifCond .ne 5, 3, (10, 0, 0), 0, []),
  (53, 8, .iconst 0, 1, (0, 0, 0), 0, []),
  (53, 9, .ireturn, 1, (1, 0, 0), 0, []),
  (53, 10, .iconst 0, 1, (0, 0, 0), 0, []),
  (53, 11, .istore_n 2, 1, (2, 0, 0), 0, []),
  (53, 12, .iload_n 2, 1, (2, 0, 0), 0, []),
  (53, 13, .bipush 100, 2, (0, 0, 0), 100, []),
  (53, 15, .if_icmp .ge 37, 3, (52, 0, 0), 0, []),
  (53, 18, .aload_n 0, 1, (0, 0, 0), 0, []),
  (53, 19, .bipush 38, 2, (0, 0, 0), 38, []),
  (53, 21, .invokevirtual 39, 3, (47, 2, 1), 0, [(0, 506)]),
  (53, 24, .ifCond .eq 28, 3, (52, 0, 0), 0, []),
  (53, 27, .aload_n 0, 1, (0, 0, 0), 0, []),
  (53, 28, .iload_n 1, 1, (1, 0, 0), 0, []),
  (53, 29, .invokevirtual 106, 3, (54, 2, 1), 0, [(0, 589)]),
  (53, 32, .ifCond .ne 5, 3, (37, 0, 0), 0, []),
  (53, 35, .iconst 0, 1, (0, 0, 0), 0, []),
  (53, 36, .ireturn, 1, (1, 0, 0), 0, []),
  (53, 37, .aload_n 0, 1, (0, 0, 0), 0, []),
  (53, 38, .getfield 28, 3, (4, 4, 1), 0, [(0, 278)]),
  (53, 41, .bipush (-2), 2, (0, 0, 0), (-2), []),
  (53, 43, .invokevirtual 103, 3, (27, 2, 0), 0, [(0, 597)]),
  (53, 46, .iinc 2 1, 3, (2, 0, 0), 1, []),
  (53, 49, .goto (-37), 3, (12, 0, 0), 0, []),
  (53, 52, .iconst 1, 1, (0, 0, 0), 1, []),
  (53, 53, .ireturn, 1, (1, 0, 0), 0, [])]
def rows_54 : List mRow := [
  (54, 0, .aload_n 0, 1, (0, 0, 0), 0, []),
  (54, 1, .getfield 22, 3, (4, 3, 0), 0, [(0, 277)]),
  (54, 4, .bipush 33, 2, (0, 0, 0), 33, []),
  (54, 6, .if_icmp .eq 17, 3, (23, 0, 0), 0, []),
  (54, 9, .aload_n 0, 1, (0, 0, 0), 0, []),
  (54, 10, .getfield 22, 3, (4, 3, 0), 0, [(0, 277)]),
  (54, 13, .bipush 40, 2, (0, 0, 0), 40, []),
  (54, 15, .if_icmp .eq 8, 3, (23, 0, 0), 0, []),
  (54, 18, .aload_n 0, 1, (0, 0, 0), 0, []),
  (54, 19, .invokevirtual 109, 3, (55, 1, 1), 0, [(0, 593)]),
  (54, 22, .ireturn, 1, (1, 0, 0), 0, []),
  (54, 23, .iload_n 1, 1, (1, 0, 0), 0, []),
  (54, 24, .iconst 4, 1, (0, 0, 0), 4, []),
  (54, 25, .if_icmp .lt 5, 3, (30, 0, 0), 0, []),
  (54, 28, .iconst 0, 1, (0, 0, 0), 0, []),
  (54, 29, .ireturn, 1, (1, 0, 0), 0, []),
  (54, 30, .aload_n 0, 1, (0, 0, 0), 0, []),
  (54, 31, .bipush 40, 2, (0, 0, 0), 40, []),
  (54, 33, .invokevirtual 39, 3, (47, 2, 1), 0, [(0, 506)]),
  (54, 36, .ifCond .eq 28, 3, (64, 0, 0), 0, []),
  (54, 39, .aload_n 0, 1, (0, 0, 0), 0, []),
  (54, 40, .iload_n 1, 1, (1, 0, 0), 0, []),
  (54, 41, .iconst 1, 1, (0, 0, 0), 1, []),
  (54, 42, .iadd, 1, (0, 0, 0), 0, []),
  (54, 43, .invokevirtual 77, 3, (52, 2, 1), 0, [(0, 581)]),
  (54, 46, .ifCond .eq 16, 3, (62, 0, 0), 0, []),
  (54, 49, .aload_n 0, 1, (0, 0, 0), 0, []),
  (54, 50, .bipush 41, 2, (0, 0, 0), 41, []),
  (54, 52, .invokevirtual 39, 3, (47, 2, 1), 0, [(0, 506)]),
  (54, 55, .ifCond .eq 7, 3, (62, 0, 0), 0, []),
  (54, 58, .iconst 1, 1, (0, 0, 0), 1, []),
  (54, 59, .goto 4, 3, (63, 0, 0), 0, []),
  (54, 62, .iconst 0, 1, (0, 0, 0), 0, []),
  (54, 63, .ireturn, 1, (1, 0, 0), 0, []),
  (54, 64, .aload_n 0, 1, (0, 0, 0), 0, []),
  (54, 65, .aload_n 0, 1, (0, 0, 0), 0, []),
  (54, 66, .getfield 19, 3, (4, 2, 0), 0, [(0, 275)]),
  (54, 69, .iconst 1, 1, (0, 0, 0), 1, []),
  (54, 70, .iadd, 1, (0, 0, 0), 0, []),
  (54, 71, .invokevirtual 35, 3, (46, 2, 0), 0, [(0, 502)]),
  (54, 74, .aload_n 0, 1, (0, 0, 0), 0, []),
  (54, 75, .iload_n 1, 1, (1, 0, 0), 0, []),
  (54, 76, .iconst 1, 1, (0, 0, 0), 1, []),
  (54, 77, .iadd, 1, (0, 0, 0), 0, []),
  (54, 78, .invokevirtual 106, 3, (54, 2, 1), 0, [(0, 589)]),
  (54, 81, .ifCond .ne 5, 3, (86, 0, 0), 0, []),
  (54, 84, .iconst 0, 1, (0, 0, 0), 0, []),
  (54, 85, .ireturn, 1, (1, 0, 0), 0, []),
  (54, 86, .aload_n 0, 1, (0, 0, 0), 0, []),
  (54, 87, .getfield 28, 3, (4, 4, 1), 0, [(0, 278)]),
  (54, 90, .iconst (-1), 1, (0, 0, 0), (-1), []),
  (54, 91, .invokevirtual 103, 3, (27, 2, 0), 0, [(0, 597)]),
  (54, 94, .iconst 1, 1, (0, 0, 0), 1, []),
  (54, 95, .ireturn, 1, (1, 0, 0), 0, [])]
def rows_55 : List mRow := [
  (55, 0, .aload_n 0, 1, (0, 0, 0), 0, []),
  (55, 1, .getfield 22, 3, (4, 3, 0), 0, [(0, 277)]),
  (55, 4, .lookupswitch 90 #[(97, 80), (104, 85), (107, 70), (112, 60), (116, 65), (118, 75)], 60, (94, 0, 0), 0, [(97, 84), (104, 89), (107, 74), (112, 64), (116, 69), (118, 79)]),
  (55, 64, .iconst 0, 1, (0, 0, 0), 0, []),
  (55, 65, .istore_n 1, 1, (1, 0, 0), 0, []),
  (55, 66, .goto 30, 3, (96, 0, 0), 0, []),
  (55, 69, .iconst 1, 1, (0, 0, 0), 1, []),
  (55, 70, .istore_n 1, 1, (1, 0, 0), 0, []),
  (55, 71, .goto 25, 3, (96, 0, 0), 0, []),
  (55, 74, .iconst 2, 1, (0, 0, 0), 2, []),
  (55, 75, .istore_n 1, 1, (1, 0, 0), 0, []),
  (55, 76, .goto 20, 3, (96, 0, 0), 0, []),
  (55, 79, .iconst 3, 1, (0, 0, 0), 3, []),
  (55, 80, .istore_n 1, 1, (1, 0, 0), 0, []),
  (55, 81, .goto 15, 3, (96, 0, 0), 0, []),
  (55, 84, .iconst 4, 1, (0, 0, 0), 4, []),
  (55, 85, .istore_n 1, 1, (1, 0, 0), 0, []),
  (55, 86, .goto 10, 3, (96, 0, 0), 0, []),
  (55, 89, .iconst 5, 1, (0, 0, 0), 5, []),
  (55, 90, .istore_n 1, 1, (1, 0, 0), 0, []),
  (55, 91, .goto 5, 3, (96, 0, 0), 0, []),
  (55, 94, .iconst 0, 1, (0, 0, 0), 0, []),
  (55, 95, .ireturn, 1, (1, 0, 0), 0, []),
  (55, 96, .aload_n 0, 1, (0, 0, 0), 0, []),
  (55, 97, .aload_n 0, 1, (0, 0, 0), 0, []),
  (55, 98, .getfield 19, 3, (4, 2, 0), 0, [(0, 275)]),
  (55, 101, .iconst 1, 1, (0, 0, 0), 1, []),
  (55, 102, .iadd, 1, (0, 0, 0), 0, []),
  (55, 103, .invokevirtual 35, 3, (46, 2, 0), 0, [(0, 502)]),
  (55, 106, .aload_n 0, 1, (0, 0, 0), 0, []),
  (55, 107, .getfield 22, 3, (4, 3, 0), 0, [(0, 277)]),
  (55, 110, .bipush 60, 2, (0, 0, 0), 60, []),
  (55, 112, .isub, 1, (0, 0, 0), 0, []),
  (55, 113, .istore_n 2, 1, (2, 0, 0), 0, []),
  (55, 114, .iload_n 2, 1, (2, 0, 0), 0, []),
  (55, 115, .ifCond .lt 8, 3, (123, 0, 0), 0, []),
  (55, 118, .iload_n 2, 1, (2, 0, 0), 0, []),
  (55, 119, .iconst 2, 1, (0, 0, 0), 2, []),
  (55, 120, .if_icmp .le 5, 3, (125, 0, 0), 0, []),
  (55, 123, .iconst 0, 1, (0, 0, 0), 0, []),
  (55, 124, .ireturn, 1, (1, 0, 0), 0, []),
  (55, 125, .aload_n 0, 1, (0, 0, 0), 0, []),
  (55, 126, .aload_n 0, 1, (0, 0, 0), 0, []),
  (55, 127, .getfield 19, 3, (4, 2, 0), 0, [(0, 275)]),
  (55, 130, .iconst 1, 1, (0, 0, 0), 1, []),
  (55, 131, .iadd, 1, (0, 0, 0), 0, []),
  (55, 132, .invokevirtual 35, 3, (46, 2, 0), 0, [(0, 502)]),
  (55, 135, .aload_n 0, 1, (0, 0, 0), 0, []),
  (55, 136, .invokevirtual 59, 3, (51, 1, 1), 0, [(0, 576)]),
  (55, 139, .istore_n 3, 1, (3, 0, 0), 0, []),
  (55, 140, .iload_n 3, 1, (3, 0, 0), 0, []),
  (55, 141, .iconst (-1), 1, (0, 0, 0), (-1), []),
  (55, 142, .if_icmp .ne 5, 3, (147, 0, 0), 0, []),
  (55, 145, .iconst 0, 1, (0, 0, 0), 0, []),
  (55, 146, .ireturn, 1, (1, 0, 0), 0, []),
  (55, 147, .aload_n 0, 1, (0, 0, 0), 0, []),
  (55, 148, .getfield 28, 3, (4, 4, 1), 0, [(0, 278)]),
  (55, 151, .iload_n 1, 1, (1, 0, 0), 0, []),
  (55, 152, .iconst 3, 1, (0, 0, 0), 3, []),
  (55, 153, .imul, 1, (0, 0, 0), 0, []),
  (55, 154, .iload_n 2, 1, (2, 0, 0), 0, []),
  (55, 155, .iadd, 1, (0, 0, 0), 0, []),
  (55, 156, .bipush 100, 2, (0, 0, 0), 100, []),
  (55, 158, .imul, 1, (0, 0, 0), 0, []),
  (55, 159, .iload_n 3, 1, (3, 0, 0), 0, []),
  (55, 160, .iadd, 1, (0, 0, 0), 0, []),
  (55, 161, .invokevirtual 103, 3, (27, 2, 0), 0, [(0, 597)]),
  (55, 164, .iconst 1, 1, (0, 0, 0), 1, []),
  (55, 165, .ireturn, 1, (1, 0, 0), 0, [])]
def rows_56 : List mRow := [
  (56, 0, .aload_n 0, 1, (0, 0, 0), 0, []),
  (56, 1, .invokespecial 1, 3, (0, 0, 0), 2, [(0, 126)]),
  (56, 4, .aload_n 0, 1, (0, 0, 0), 0, []),
  (56, 5, .iconst 0, 1, (0, 0, 0), 0, []),
  (56, 6, .putfield 7, 3, (5, 2, 0), 0, [(0, 129)]),
  (56, 9, .aload_n 0, 1, (0, 0, 0), 0, []),
  (56, 10, .iload_n 1, 1, (1, 0, 0), 0, []),
  (56, 11, .ifCond .ge 7, 3, (18, 0, 0), 0, []),
  (56, 14, .iconst 0, 1, (0, 0, 0), 0, []),
  (56, 15, .goto 4, 3, (19, 0, 0), 0, []),
  (56, 18, .iload_n 1, 1, (1, 0, 0), 0, []),
  (56, 19, .putfield 13, 3, (5, 0, 0), 0, [(0, 127)]),
  (56, 22, .aload_n 0, 1, (0, 0, 0), 0, []),
  (56, 23, .aload_n 0, 1, (0, 0, 0), 0, []),
  (56, 24, .getfield 13, 3, (5, 0, 0), 0, [(0, 127)]),
  (56, 27, .iconst 4, 1, (0, 0, 0), 4, []),
  (56, 28, .imul, 1, (0, 0, 0), 0, []),
  (56, 29, .newarray .int, 2, (100, 0, 0), 0, []),
  (56, 31, .putfield 16, 3, (5, 1, 1), 0, [(0, 128)]),
  (56, 34, .return_, 1, (0, 0, 0), 0, [])]
def rows_57 : List mRow := [
  (57, 0, .aload_n 0, 1, (0, 0, 0), 0, []),
  (57, 1, .getfield 7, 3, (5, 2, 0), 0, [(0, 129)]),
  (57, 4, .aload_n 0, 1, (0, 0, 0), 0, []),
  (57, 5, .getfield 13, 3, (5, 0, 0), 0, [(0, 127)]),
  (57, 8, .if_icmp .lt 7, 3, (15, 0, 0), 0, []),
  (57, 11, .iconst 1, 1, (0, 0, 0), 1, []),
  (57, 12, .goto 4, 3, (16, 0, 0), 0, []),
  (57, 15, .iconst 0, 1, (0, 0, 0), 0, []),
  (57, 16, .ireturn, 1, (1, 0, 0), 0, [])]
def rows_58 : List mRow := [
  (58, 0, .aload_n 0, 1, (0, 0, 0), 0, []),
  (58, 1, .getfield 7, 3, (5, 2, 0), 0, [(0, 129)]),
  (58, 4, .iconst 4, 1, (0, 0, 0), 4, []),
  (58, 5, .imul, 1, (0, 0, 0), 0, []),
  (58, 6, .istore 5, 2, (5, 0, 0), 0, []),
  (58, 8, .iload 5, 2, (5, 0, 0), 0, []),
  (58, 10, .iconst 4, 1, (0, 0, 0), 4, []),
  (58, 11, .iadd, 1, (0, 0, 0), 0, []),
  (58, 12, .aload_n 0, 1, (0, 0, 0), 0, []),
  (58, 13, .getfield 16, 3, (5, 1, 1), 0, [(0, 128)]),
  (58, 16, .arraylength, 1, (0, 0, 0), 0, []),
  (58, 17, .if_icmp .gt 52, 3, (69, 0, 0), 0, []),
  (58, 20, .aload_n 0, 1, (0, 0, 0), 0, []),
  (58, 21, .getfield 16, 3, (5, 1, 1), 0, [(0, 128)]),
  (58, 24, .iload 5, 2, (5, 0, 0), 0, []),
  (58, 26, .iload_n 1, 1, (1, 0, 0), 0, []),
  (58, 27, .iastore, 1, (0, 0, 0), 0, []),
  (58, 28, .aload_n 0, 1, (0, 0, 0), 0, []),
  (58, 29, .getfield 16, 3, (5, 1, 1), 0, [(0, 128)]),
  (58, 32, .iload 5, 2, (5, 0, 0), 0, []),
  (58, 34, .iconst 1, 1, (0, 0, 0), 1, []),
  (58, 35, .iadd, 1, (0, 0, 0), 0, []),
  (58, 36, .iload_n 2, 1, (2, 0, 0), 0, []),
  (58, 37, .iastore, 1, (0, 0, 0), 0, []),
  (58, 38, .aload_n 0, 1, (0, 0, 0), 0, []),
  (58, 39, .getfield 16, 3, (5, 1, 1), 0, [(0, 128)]),
  (58, 42, .iload 5, 2, (5, 0, 0), 0, []),
  (58, 44, .iconst 2, 1, (0, 0, 0), 2, []),
  (58, 45, .iadd, 1, (0, 0, 0), 0, []),
  (58, 46, .iload_n 3, 1, (3, 0, 0), 0, []),
  (58, 47, .iastore, 1, (0, 0, 0), 0, []),
  (58, 48, .aload_n 0, 1, (0, 0, 0), 0, []),
  (58, 49, .getfield 16, 3, (5, 1, 1), 0, [(0, 128)]),
  (58, 52, .iload 5, 2, (5, 0, 0), 0, []),
  (58, 54, .iconst 3, 1, (0, 0, 0), 3, []),
  (58, 55, .iadd, 1, (0, 0, 0), 0, []),
  (58, 56, .iload 4, 2, (4, 0, 0), 0, []),
  (58, 58, .iastore, 1, (0, 0, 0), 0, []),
  (58, 59, .aload_n 0, 1, (0, 0, 0), 0, []),
  (58, 60, .dup, 1, (0, 0, 0), 0, []),
  (58, 61, .getfield 7, 3, (5, 2, 0), 0, [(0, 129)]),
  (58, 64, .iconst 1, 1, (0, 0, 0), 1, []),
  (58, 65, .iadd, 1, (0, 0, 0), 0, []),
  (58, 66, .putfield 7, 3, (5, 2, 0), 0, [(0, 129)]),
  (58, 69, .aload_n 0, 1, (0, 0, 0), 0, []),
  (58, 70, .getfield 7, 3, (5, 2, 0), 0, [(0, 129)]),
  (58, 73, .ireturn, 1, (0, 0, 0), 0, [])]
def rows_59 : List mRow := [
  (59, 0, .iload_n 1, 1, (1, 0, 0), 0, []),
  (59, 1, .iconst 4, 1, (0, 0, 0), 4, []),
  (59, 2, .imul, 1, (0, 0, 0), 0, []),
  (59, 3, .iload_n 2, 1, (2, 0, 0), 0, []),
  (59, 4, .iadd, 1, (0, 0, 0), 0, []),
  (59, 5, .istore_n 3, 1, (3, 0, 0), 0, []),
  (59, 6, .iload_n 3, 1, (3, 0, 0), 0, []),
  (59, 7, .ifCond .lt 12, 3, (19, 0, 0), 0, []),
  (59, 10, .iload_n 3, 1, (3, 0, 0), 0, []),
  (59, 11, .aload_n 0, 1, (0, 0, 0), 0, []),
  (59, 12, .getfield 16, 3, (5, 1, 1), 0, [(0, 128)]),
  (59, 15, .arraylength, 1, (0, 0, 0), 0, []),
  (59, 16, .if_icmp .lt 7, 3, (23, 0, 0), 0, []),
  (59, 19, .iconst 0, 1, (0, 0, 0), 0, []),
  (59, 20, .goto 9, 3, (29, 0, 0), 0, []),
  (59, 23, .aload_n 0, 1, (0, 0, 0), 0, []),
  (59, 24, .getfield 16, 3, (5, 1, 1), 0, [(0, 128)]),
  (59, 27, .iload_n 3, 1, (3, 0, 0), 0, []),
  (59, 28, .iaload, 1, (0, 0, 0), 0, []),
  (59, 29, .ireturn, 1, (0, 0, 0), 0, [])]
def rows_60 : List mRow := [
  (60, 0, .aload_n 1, 1, (1, 0, 0), 0, []),
  (60, 1, .getfield 16, 3, (5, 1, 1), 0, [(0, 128)]),
  (60, 4, .iconst 0, 1, (0, 0, 0), 0, []),
  (60, 5, .aload_n 0, 1, (0, 0, 0), 0, []),
  (60, 6, .getfield 16, 3, (5, 1, 1), 0, [(0, 128)]),
  (60, 9, .iconst 0, 1, (0, 0, 0), 0, []),
  (60, 10, .aload_n 0, 1, (0, 0, 0), 0, []),
  (60, 11, .getfield 16, 3, (5, 1, 1), 0, [(0, 128)]),
  (60, 14, .arraylength, 1, (0, 0, 0), 0, []),
  (60, 15, .aload_n 1, 1, (1, 0, 0), 0, []),
  (60, 16, .getfield 16, 3, (5, 1, 1), 0, [(0, 128)]),
  (60, 19, .arraylength, 1, (0, 0, 0), 0, []),
  (60, 20, .invokestatic 20, 3, (0, 0, 0), 6, [(0, 831)]),
  (60, 23, .invokestatic 26, 3, (0, 0, 0), 3, [(0, 832)]),
  (60, 26, .aload_n 0, 1, (0, 0, 0), 0, []),
  (60, 27, .aload_n 1, 1, (1, 0, 0), 0, []),
  (60, 28, .getfield 7, 3, (5, 2, 0), 0, [(0, 129)]),
  (60, 31, .putfield 7, 3, (5, 2, 0), 0, [(0, 129)]),
  (60, 34, .return_, 1, (0, 0, 0), 0, [])]
def rows_61 : List mRow := [
  (61, 0, .aload_n 0, 1, (0, 0, 0), 0, []),
  (61, 1, .invokespecial 3, 3, (0, 0, 0), 2, [(0, 340)]),
  (61, 4, .aload_n 0, 1, (0, 0, 0), 0, []),
  (61, 5, .iconst (-1), 1, (0, 0, 0), (-1), []),
  (61, 6, .putfield 9, 3, (6, 0, 0), 0, [(0, 341)]),
  (61, 9, .aload_n 0, 1, (0, 0, 0), 0, []),
  (61, 10, .iconst 0, 1, (0, 0, 0), 0, []),
  (61, 11, .putfield 15, 3, (6, 1, 0), 0, [(0, 343)]),
  (61, 14, .aload_n 0, 1, (0, 0, 0), 0, []),
  (61, 15, .bipush 60, 2, (0, 0, 0), 60, []),
  (61, 17, .newarray .long, 2, (101, 0, 0), 0, []),
  (61, 19, .putfield 18, 3, (6, 2, 1), 0, [(0, 345)]),
  (61, 22, .return_, 1, (0, 0, 0), 0, [])]
def rows_62 : List mRow := [
  (62, 0, .aload_n 0, 1, (0, 0, 0), 0, []),
  (62, 1, .iload_n 1, 1, (1, 0, 0), 0, []),
  (62, 2, .putfield 9, 3, (6, 0, 0), 0, [(0, 341)]),
  (62, 5, .aload_n 0, 1, (0, 0, 0), 0, []),
  (62, 6, .iconst 0, 1, (0, 0, 0), 0, []),
  (62, 7, .iload_n 2, 1, (2, 0, 0), 0, []),
  (62, 8, .bipush 60, 2, (0, 0, 0), 60, []),
  (62, 10, .invokestatic 22, 3, (0, 0, 0), 6, [(0, 885)]),
  (62, 13, .invokestatic 28, 3, (0, 0, 0), 5, [(0, 886)]),
  (62, 16, .putfield 15, 3, (6, 1, 0), 0, [(0, 343)]),
  (62, 19, .aload_n 0, 1, (0, 0, 0), 0, []),
  (62, 20, .getfield 18, 3, (6, 2, 1), 0, [(0, 345)]),
  (62, 23, .lconst 0, 1, (0, 0, 0), 0, []),
  (62, 24, .invokestatic 31, 3, (226, 2, 0), 0, [(0, 887)]),
  (62, 27, .return_, 1, (0, 0, 0), 0, [])]
def rows_63 : List mRow := [
  (63, 0, .aload_n 0, 1, (0, 0, 0), 0, []),
  (63, 1, .getfield 9, 3, (6, 0, 0), 0, [(0, 341)]),
  (63, 4, .tableswitch 48 0 3 #[32, 37, 42, 46], 32, (52, 0, 0), 0, [(0, 36), (1, 41), (2, 46), (3, 50)]),
  (63, 36, .lload_n 1, 1, (1, 0, 0), 0, []),
  (63, 37, .l2i, 1, (0, 0, 0), 0, []),
  (63, 38, .i2b, 1, (0, 0, 0), 0, []),
  (63, 39, .i2l, 1, (0, 0, 0), 0, []),
  (63, 40, .lreturn, 1, (0, 0, 0), 0, []),
  (63, 41, .lload_n 1, 1, (1, 0, 0), 0, []),
  (63, 42, .l2i, 1, (0, 0, 0), 0, []),
  (63, 43, .i2s, 1, (0, 0, 0), 0, []),
  (63, 44, .i2l, 1, (0, 0, 0), 0, []),
  (63, 45, .lreturn, 1, (0, 0, 0), 0, []),
  (63, 46, .lload_n 1, 1, (1, 0, 0), 0, []),
  (63, 47, .l2i, 1, (0, 0, 0), 0, []),
  (63, 48, .i2l, 1, (0, 0, 0), 0, []),
  (63, 49, .lreturn, 1, (0, 0, 0), 0, []),
  (63, 50, .lload_n 1, 1, (1, 0, 0), 0, []),
  (63, 51, .lreturn, 1, (0, 0, 0), 0, []),
  (63, 52, .lload_n 1, 1, (1, 0, 0), 0, []),
  (63, 53, .lconst 0, 1, (0, 0, 0), 0, []),
  (63, 54, .lcmp, 1, (0, 0, 0), 0, []),
  (63, 55, .ifCond .eq 7, 3, (62, 0, 0), 0, []),
  (63, 58, .lconst 1, 1, (0, 0, 0), 1, []),
  (63, 59, .goto 4, 3, (63, 0, 0), 0, []),
  (63, 62, .lconst 0, 1, (0, 0, 0), 0, []),
  (63, 63, .lreturn, 1, (0, 0, 0), 0, [])]
def rows_64 : List mRow := [
  (64, 0, .aload_n 0, 1, (0, 0, 0), 0, []),
  (64, 1, .invokespecial 3, 3, (0, 0, 0), 2, [(0, 118)]),
  (64, 4, .aload_n 0, 1, (0, 0, 0), 0, []),
  (64, 5, .bipush 6, 2, (0, 0, 0), 6, []),
  (64, 7, .anewarray 9, 3, (113, 0, 0), 0, [(0, 119)]),
  (64, 10, .putfield 11, 3, (7, 0, 1), 0, [(0, 185)]),
  (64, 13, .aload_n 0, 1, (0, 0, 0), 0, []),
  (64, 14, .iconst 0, 1, (0, 0, 0), 0, []),
  (64, 15, .putfield 17, 3, (7, 1, 0), 0, [(0, 188)]),
  (64, 18, .aload_n 0, 1, (0, 0, 0), 0, []),
  (64, 19, .bipush 12, 2, (0, 0, 0), 12, []),
  (64, 21, .putfield 21, 3, (7, 2, 0), 0, [(0, 191)]),
  (64, 24, .aload_n 0, 1, (0, 0, 0), 0, []),
  (64, 25, .iconst 0, 1, (0, 0, 0), 0, []),
  (64, 26, .putfield 24, 3, (7, 3, 0), 0, [(0, 194)]),
  (64, 29, .aload_n 0, 1, (0, 0, 0), 0, []),
  (64, 30, .iconst (-1), 1, (0, 0, 0), (-1), []),
  (64, 31, .putfield 27, 3, (7, 4, 0), 0, [(0, 196)]),
  (64, 34, .aload_n 0, 1, (0, 0, 0), 0, []),
  (64, 35, .new 30, 3, (5, 3, 0), 0, [(0, 121)]),
  (64, 38, .dup, 1, (0, 0, 0), 0, []),
  (64, 39, .bipush 6, 2, (0, 0, 0), 6, []),
  (64, 41, .invokespecial 32, 3, (56, 2, 0), 0, [(0, 123)]),
  (64, 44, .putfield 35, 3, (7, 5, 1), 0, [(0, 198)]),
  (64, 47, .aload_n 0, 1, (0, 0, 0), 0, []),
  (64, 48, .new 30, 3, (5, 3, 0), 0, [(0, 121)]),
  (64, 51, .dup, 1, (0, 0, 0), 0, []),
  (64, 52, .bipush 10, 2, (0, 0, 0), 10, []),
  (64, 54, .invokespecial 32, 3, (56, 2, 0), 0, [(0, 123)]),
  (64, 57, .putfield 39, 3, (7, 6, 1), 0, [(0, 201)]),
  (64, 60, .aload_n 0, 1, (0, 0, 0), 0, []),
  (64, 61, .new 30, 3, (5, 3, 0), 0, [(0, 121)]),
  (64, 64, .dup, 1, (0, 0, 0), 0, []),
  (64, 65, .bipush 8, 2, (0, 0, 0), 8, []),
  (64, 67, .invokespecial 32, 3, (56, 2, 0), 0, [(0, 123)]),
  (64, 70, .putfield 42, 3, (7, 7, 1), 0, [(0, 204)]),
  (64, 73, .iconst 0, 1, (0, 0, 0), 0, []),
  (64, 74, .istore_n 1, 1, (1, 0, 0), 0, []),
  (64, 75, .iload_n 1, 1, (1, 0, 0), 0, []),
  (64, 76, .bipush 6, 2, (0, 0, 0), 6, []),
  (64, 78, .if_icmp .ge 22, 3, (100, 0, 0), 0, []),
  (64, 81, .aload_n 0, 1, (0, 0, 0), 0, []),
  (64, 82, .getfield 11, 3, (7, 0, 1), 0, [(0, 185)]),
  (64, 85, .iload_n 1, 1, (1, 0, 0), 0, []),
  (64, 86, .new 9, 3, (3, 7, 0), 0, [(0, 119)]),
  (64, 89, .dup, 1, (0, 0, 0), 0, []),
  (64, 90, .invokespecial 45, 3, (39, 1, 0), 0, []),
  (64, 93, .aastore, 1, (0, 0, 0), 0, []),
  (64, 94, .iinc 1 1, 3, (1, 0, 0), 1, []),
  (64, 97, .goto (-22), 3, (75, 0, 0), 0, []),
  (64, 100, .return_, 1, (0, 0, 0), 0, [])]
def rows_65 : List mRow := [
  (65, 0, .iconst 0, 1, (0, 0, 0), 0, []),
  (65, 1, .istore_n 2, 1, (2, 0, 0), 0, []),
  (65, 2, .iload_n 2, 1, (2, 0, 0), 0, []),
  (65, 3, .bipush 6, 2, (0, 0, 0), 6, []),
  (65, 5, .if_icmp .ge 24, 3, (29, 0, 0), 0, []),
  (65, 8, .aload_n 0, 1, (0, 0, 0), 0, []),
  (65, 9, .getfield 11, 3, (7, 0, 1), 0, [(0, 185)]),
  (65, 12, .iload_n 2, 1, (2, 0, 0), 0, []),
  (65, 13, .aaload, 1, (0, 0, 0), 0, []),
  (65, 14, .aload_n 1, 1, (1, 0, 0), 0, []),
  (65, 15, .getfield 11, 3, (7, 0, 1), 0, [(0, 185)]),
  (65, 18, .iload_n 2, 1, (2, 0, 0), 0, []),
  (65, 19, .aaload, 1, (0, 0, 0), 0, []),
  (65, 20, .invokevirtual 46, 3, (41, 2, 0), 0, [(0, 826)]),
  (65, 23, .iinc 2 1, 3, (2, 0, 0), 1, []),
  (65, 26, .goto (-24), 3, (2, 0, 0), 0, []),
  (65, 29, .aload_n 0, 1, (0, 0, 0), 0, []),
  (65, 30, .aload_n 1, 1, (1, 0, 0), 0, []),
  (65, 31, .getfield 17, 3, (7, 1, 0), 0, [(0, 188)]),
  (65, 34, .putfield 17, 3, (7, 1, 0), 0, [(0, 188)]),
  (65, 37, .aload_n 0, 1, (0, 0, 0), 0, []),
  (65, 38, .aload_n 1, 1, (1, 0, 0), 0, []),
  (65, 39, .getfield 21, 3, (7, 2, 0), 0, [(0, 191)]),
  (65, 42, .putfield 21, 3, (7, 2, 0), 0, [(0, 191)]),
  (65, 45, .aload_n 0, 1, (0, 0, 0), 0, []),
  (65, 46, .aload_n 1, 1, (1, 0, 0), 0, []),
  (65, 47, .getfield 24, 3, (7, 3, 0), 0, [(0, 194)]),
  (65, 50, .putfield 24, 3, (7, 3, 0), 0, [(0, 194)]),
  (65, 53, .aload_n 0, 1, (0, 0, 0), 0, []),
  (65, 54, .aload_n 1, 1, (1, 0, 0), 0, []),
  (65, 55, .getfield 27, 3, (7, 4, 0), 0, [(0, 196)]),
  (65, 58, .putfield 27, 3, (7, 4, 0), 0, [(0, 196)]),
  (65, 61, .aload_n 0, 1, (0, 0, 0), 0, []),
  (65, 62, .getfield 35, 3, (7, 5, 1), 0, [(0, 198)]),
  (65, 65, .aload_n 1, 1, (1, 0, 0), 0, []),
  (65, 66, .getfield 35, 3, (7, 5, 1), 0, [(0, 198)]),
  (65, 69, .invokevirtual 50, 3, (60, 2, 0), 0, [(0, 827)]),
  (65, 72, .aload_n 0, 1, (0, 0, 0), 0, []),
  (65, 73, .getfield 39, 3, (7, 6, 1), 0, [(0, 201)]),
  (65, 76, .aload_n 1, 1, (1, 0, 0), 0, []),
  (65, 77, .getfield 39, 3, (7, 6, 1), 0, [(0, 201)]),
  (65, 80, .invokevirtual 50, 3, (60, 2, 0), 0, [(0, 827)]),
  (65, 83, .aload_n 0, 1, (0, 0, 0), 0, []),
  (65, 84, .getfield 42, 3, (7, 7, 1), 0, [(0, 204)]),
  (65, 87, .aload_n 1, 1, (1, 0, 0), 0, []),
  (65, 88, .getfield 42, 3, (7, 7, 1), 0, [(0, 204)]),
  (65, 91, .invokevirtual 50, 3, (60, 2, 0), 0, [(0, 827)]),
  (65, 94, .return_, 1, (0, 0, 0), 0, [])]
def rows_66 : List mRow := [
  (66, 0, .aload_n 0, 1, (0, 0, 0), 0, []),
  (66, 1, .invokespecial 3, 3, (0, 0, 0), 2, [(0, 110)]),
  (66, 4, .aload_n 0, 1, (0, 0, 0), 0, []),
  (66, 5, .new 9, 3, (7, 8, 0), 0, [(0, 113)]),
  (66, 8, .dup, 1, (0, 0, 0), 0, []),
  (66, 9, .invokespecial 11, 3, (64, 1, 0), 0, [(0, 115)]),
  (66, 12, .putfield 12, 3, (8, 0, 1), 0, [(0, 355)]),
  (66, 15, .aload_n 0, 1, (0, 0, 0), 0, []),
  (66, 16, .new 9, 3, (7, 8, 0), 0, [(0, 113)]),
  (66, 19, .dup, 1, (0, 0, 0), 0, []),
  (66, 20, .invokespecial 11, 3, (64, 1, 0), 0, [(0, 115)]),
  (66, 23, .putfield 18, 3, (8, 1, 1), 0, [(0, 356)]),
  (66, 26, .aload_n 0, 1, (0, 0, 0), 0, []),
  (66, 27, .iconst 0, 1, (0, 0, 0), 0, []),
  (66, 28, .putfield 21, 3, (8, 2, 2), 0, [(0, 357)]),
  (66, 31, .aload_n 0, 1, (0, 0, 0), 0, []),
  (66, 32, .new 25, 3, (2, 8, 0), 0, [(0, 223)]),
  (66, 35, .dup, 1, (0, 0, 0), 0, []),
  (66, 36, .invokespecial 27, 3, (25, 1, 0), 0, []),
  (66, 39, .putfield 28, 3, (8, 3, 1), 0, [(0, 358)]),
  (66, 42, .aload_n 0, 1, (0, 0, 0), 0, []),
  (66, 43, .bipush 6, 2, (0, 0, 0), 6, []),
  (66, 45, .anewarray 25, 3, (112, 0, 0), 0, [(0, 223)]),
  (66, 48, .putfield 32, 3, (8, 4, 1), 0, [(0, 359)]),
  (66, 51, .aload_n 0, 1, (0, 0, 0), 0, []),
  (66, 52, .iconst 0, 1, (0, 0, 0), 0, []),
  (66, 53, .putfield 36, 3, (8, 5, 0), 0, [(0, 360)]),
  (66, 56, .aload_n 0, 1, (0, 0, 0), 0, []),
  (66, 57, .new 40, 3, (4, 5, 0), 0, [(0, 263)]),
  (66, 60, .dup, 1, (0, 0, 0), 0, []),
  (66, 61, .invokespecial 42, 3, (43, 1, 0), 0, []),
  (66, 64, .putfield 43, 3, (8, 6, 1), 0, [(0, 361)]),
  (66, 67, .aload_n 0, 1, (0, 0, 0), 0, []),
  (66, 68, .new 47, 3, (1, 6, 0), 0, [(0, 290)]),
  (66, 71, .dup, 1, (0, 0, 0), 0, []),
  (66, 72, .invokespecial 49, 3, (5, 1, 0), 0, []),
  (66, 75, .putfield 50, 3, (8, 7, 1), 0, [(0, 362)]),
  (66, 78, .aload_n 0, 1, (0, 0, 0), 0, []),
  (66, 79, .new 54, 3, (0, 2, 0), 0, [(0, 319)]),
  (66, 82, .dup, 1, (0, 0, 0), 0, []),
  (66, 83, .invokespecial 56, 3, (0, 1, 0), 0, []),
  (66, 86, .putfield 57, 3, (8, 8, 1), 0, [(0, 363)]),
  (66, 89, .aload_n 0, 1, (0, 0, 0), 0, []),
  (66, 90, .bipush 6, 2, (0, 0, 0), 6, []),
  (66, 92, .anewarray 61, 3, (116, 0, 0), 0, [(0, 334)]),
  (66, 95, .putfield 63, 3, (8, 9, 1), 0, [(0, 364)]),
  (66, 98, .iconst 0, 1, (0, 0, 0), 0, []),
  (66, 99, .istore_n 1, 1, (1, 0, 0), 0, []),
  (66, 100, .iload_n 1, 1, (1, 0, 0), 0, []),
  (66, 101, .bipush 6, 2, (0, 0, 0), 6, []),
  (66, 103, .if_icmp .ge 22, 3, (125, 0, 0), 0, []),
  (66, 106, .aload_n 0, 1, (0, 0, 0), 0, []),
  (66, 107, .getfield 63, 3, (8, 9, 1), 0, [(0, 364)]),
  (66, 110, .iload_n 1, 1, (1, 0, 0), 0, []),
  (66, 111, .new 61, 3, (6, 3, 0), 0, [(0, 334)]),
  (66, 114, .dup, 1, (0, 0, 0), 0, []),
  (66, 115, .invokespecial 67, 3, (61, 1, 0), 0, []),
  (66, 118, .aastore, 1, (0, 0, 0), 0, []),
  (66, 119, .iinc 1 1, 3, (1, 0, 0), 1, []),
  (66, 122, .goto (-22), 3, (100, 0, 0), 0, []),
  (66, 125, .return_, 1, (0, 0, 0), 0, [])]
def rows_67 : List mRow := [
  (67, 0, .iload_n 1, 1, (1, 0, 0), 0, []),
  (67, 1, .ifCond .lt 9, 3, (10, 0, 0), 0, []),
  (67, 4, .iload_n 1, 1, (1, 0, 0), 0, []),
  (67, 5, .bipush 7, 2, (0, 0, 0), 7, []),
  (67, 7, .if_icmp .lt 5, 3, (12, 0, 0), 0, []),
  (67, 10, .iconst (-1), 1, (0, 0, 0), (-1), []),
  (67, 11, .ireturn, 1, (0, 0, 0), 0, []),
  (67, 12, .iload_n 2, 1, (2, 0, 0), 0, []),
  (67, 13, .ifCond .lt 19, 3, (32, 0, 0), 0, []),
  (67, 16, .iload_n 2, 1, (2, 0, 0), 0, []),
  (67, 17, .bipush 10, 2, (0, 0, 0), 10, []),
  (67, 19, .if_icmp .ge 13, 3, (32, 0, 0), 0, []),
  (67, 22, .iload_n 3, 1, (3, 0, 0), 0, []),
  (67, 23, .ifCond .lt 9, 3, (32, 0, 0), 0, []),
  (67, 26, .iload_n 3, 1, (3, 0, 0), 0, []),
  (67, 27, .bipush 99, 2, (0, 0, 0), 99, []),
  (67, 29, .if_icmp .le 6, 3, (35, 0, 0), 0, []),
  (67, 32, .bipush (-2), 2, (0, 0, 0), (-2), []),
  (67, 34, .ireturn, 1, (0, 0, 0), 0, []),
  (67, 35, .aload_n 0, 1, (0, 0, 0), 0, []),
  (67, 36, .getfield 12, 3, (8, 0, 1), 0, [(0, 355)]),
  (67, 39, .getfield 68, 3, (7, 1, 0), 0, [(0, 189)]),
  (67, 42, .bipush 6, 2, (0, 0, 0), 6, []),
  (67, 44, .if_icmp .lt 6, 3, (50, 0, 0), 0, []),
  (67, 47, .bipush (-4), 2, (0, 0, 0), (-4), []),
  (67, 49, .ireturn, 1, (0, 0, 0), 0, []),
  (67, 50, .aload_n 0, 1, (0, 0, 0), 0, []),
  (67, 51, .getfield 12, 3, (8, 0, 1), 0, [(0, 355)]),
  (67, 54, .getfield 71, 3, (7, 0, 1), 0, [(0, 186)]),
  (67, 57, .aload_n 0, 1, (0, 0, 0), 0, []),
  (67, 58, .getfield 12, 3, (8, 0, 1), 0, [(0, 355)]),
  (67, 61, .getfield 68, 3, (7, 1, 0), 0, [(0, 189)]),
  (67, 64, .aaload, 1, (0, 0, 0), 0, []),
  (67, 65, .aload_n 0, 1, (0, 0, 0), 0, []),
  (67, 66, .getfield 12, 3, (8, 0, 1), 0, [(0, 355)]),
  (67, 69, .getfield 68, 3, (7, 1, 0), 0, [(0, 189)]),
  (67, 72, .iload_n 1, 1, (1, 0, 0), 0, []),
  (67, 73, .iload_n 2, 1, (2, 0, 0), 0, []),
  (67, 74, .iload_n 3, 1, (3, 0, 0), 0, []),
  (67, 75, .invokevirtual 75, 3, (40, 5, 0), 0, [(0, 390)]),
  (67, 78, .aload_n 0, 1, (0, 0, 0), 0, []),
  (67, 79, .getfield 12, 3, (8, 0, 1), 0, [(0, 355)]),
  (67, 82, .dup, 1, (0, 0, 0), 0, []),
  (67, 83, .getfield 68, 3, (7, 1, 0), 0, [(0, 189)]),
  (67, 86, .iconst 1, 1, (0, 0, 0), 1, []),
  (67, 87, .iadd, 1, (0, 0, 0), 0, []),
  (67, 88, .putfield 68, 3, (7, 1, 0), 0, [(0, 189)]),
  (67, 91, .aload_n 0, 1, (0, 0, 0), 0, []),
  (67, 92, .getfield 12, 3, (8, 0, 1), 0, [(0, 355)]),
  (67, 95, .getfield 68, 3, (7, 1, 0), 0, [(0, 189)]),
  (67, 98, .iconst 1, 1, (0, 0, 0), 1, []),
  (67, 99, .isub, 1, (0, 0, 0), 0, []),
  (67, 100, .ireturn, 1, (0, 0, 0), 0, [])]
def rows_68 : List mRow := [
  (68, 0, .aload_n 0, 1, (0, 0, 0), 0, []),
  (68, 1, .iload_n 1, 1, (1, 0, 0), 0, []),
  (68, 2, .invokevirtual 81, 3, (105, 2, 1), 0, [(0, 401)]),
  (68, 5, .ifCond .ne 7, 3, (12, 0, 0), 0, []),
  (68, 8, .sipush (-1001), 3, (0, 0, 0), (-1001), []),
  (68, 11, .ireturn, 1, (0, 0, 0), 0, []),
  (68, 12, .aload_n 0, 1, (0, 0, 0), 0, []),
  (68, 13, .getfield 12, 3, (8, 0, 1), 0, [(0, 355)]),
  (68, 16, .getfield 71, 3, (7, 0, 1), 0, [(0, 186)]),
  (68, 19, .iload_n 1, 1, (1, 0, 0), 0, []),
  (68, 20, .aaload, 1, (0, 0, 0), 0, []),
  (68, 21, .astore_n 3, 1, (3, 0, 0), 0, []),
  (68, 22, .aload_n 0, 1, (0, 0, 0), 0, []),
  (68, 23, .invokevirtual 85, 3, (112, 1, 3), 0, [(0, 405)]),
  (68, 26, .astore 4, 2, (4, 0, 0), 0, []),
  (68, 28, .iload_n 2, 1, (2, 0, 0), 0, []),
  (68, 29, .bipush 10, 2, (0, 0, 0), 10, []),
  (68, 31, .if_icmp .lt 19, 3, (50, 0, 0), 0, []),
  (68, 34, .iload_n 2, 1, (2, 0, 0), 0, []),
  (68, 35, .bipush 16, 2, (0, 0, 0), 16, []),
  (68, 37, .if_icmp .ge 13, 3, (50, 0, 0), 0, []),
  (68, 40, .aload_n 3, 1, (3, 0, 0), 0, []),
  (68, 41, .getfield 89, 3, (3, 5, 1), 0, [(0, 165)]),
  (68, 44, .iload_n 2, 1, (2, 0, 0), 0, []),
  (68, 45, .bipush 10, 2, (0, 0, 0), 10, []),
  (68, 47, .isub, 1, (0, 0, 0), 0, []),
  (68, 48, .iaload, 1, (0, 0, 0), 0, []),
  (68, 49, .ireturn, 1, (0, 0, 0), 0, []),
  (68, 50, .iload_n 2, 1, (2, 0, 0), 0, []),
  (68, 51, .bipush 20, 2, (0, 0, 0), 20, []),
  (68, 53, .if_icmp .lt 27, 3, (80, 0, 0), 0, []),
  (68, 56, .iload_n 2, 1, (2, 0, 0), 0, []),
  (68, 57, .bipush 26, 2, (0, 0, 0), 26, []),
  (68, 59, .if_icmp .ge 21, 3, (80, 0, 0), 0, []),
  (68, 62, .aload 4, 2, (4, 0, 0), 0, []),
  (68, 64, .aload_n 3, 1, (3, 0, 0), 0, []),
  (68, 65, .iload_n 2, 1, (2, 0, 0), 0, []),
  (68, 66, .bipush 20, 2, (0, 0, 0), 20, []),
  (68, 68, .isub, 1, (0, 0, 0), 0, []),
  (68, 69, .aload_n 0, 1, (0, 0, 0), 0, []),
  (68, 70, .getfield 12, 3, (8, 0, 1), 0, [(0, 355)]),
  (68, 73, .getfield 93, 3, (7, 2, 0), 0, [(0, 192)]),
  (68, 76, .invokevirtual 96, 3, (30, 4, 1), 0, [(0, 409)]),
  (68, 79, .ireturn, 1, (0, 0, 0), 0, []),
  (68, 80, .iload_n 2, 1, (2, 0, 0), 0, []),
  (68, 81, .bipush 30, 2, (0, 0, 0), 30, []),
  (68, 83, .if_icmp .lt 27, 3, (110, 0, 0), 0, []),
  (68, 86, .iload_n 2, 1, (2, 0, 0), 0, []),
  (68, 87, .bipush 36, 2, (0, 0, 0), 36, []),
  (68, 89, .if_icmp .ge 21, 3, (110, 0, 0), 0, []),
  (68, 92, .aload 4, 2, (4, 0, 0), 0, []),
  (68, 94, .aload_n 3, 1, (3, 0, 0), 0, []),
  (68, 95, .iload_n 2, 1, (2, 0, 0), 0, []),
  (68, 96, .bipush 30, 2, (0, 0, 0), 30, []),
  (68, 98, .isub, 1, (0, 0, 0), 0, []),
  (68, 99, .aload_n 0, 1, (0, 0, 0), 0, []),
  (68, 100, .getfield 12, 3, (8, 0, 1), 0, [(0, 355)]),
  (68, 103, .getfield 93, 3, (7, 2, 0), 0, [(0, 192)]),
  (68, 106, .invokevirtual 100, 3, (33, 4, 1), 0, [(0, 443)]),
  (68, 109, .ireturn, 1, (0, 0, 0), 0, []),
  (68, 110, .iload_n 2, 1, (2, 0, 0), 0, []),
  (68, 111, .tableswitch 111 0 6 #[41, 46, 51, 56, 69, 83, 97], 41, (222, 0, 0), 0, [(0, 152), (1, 157), (2, 162), (3, 167), (4, 180), (5, 194), (6, 208)]),
  (68, 152, .aload_n 3, 1, (3, 0, 0), 0, []),
  (68, 153, .getfield 103, 3, (3, 1, 0), 0, [(0, 151)]),
  (68, 156, .ireturn, 1, (0, 0, 0), 0, []),
  (68, 157, .aload_n 3, 1, (3, 0, 0), 0, []),
  (68, 158, .getfield 106, 3, (3, 2, 0), 0, [(0, 154)]),
  (68, 161, .ireturn, 1, (0, 0, 0), 0, []),
  (68, 162, .aload_n 3, 1, (3, 0, 0), 0, []),
  (68, 163, .getfield 109, 3, (3, 3, 0), 0, [(0, 158)]),
  (68, 166, .ireturn, 1, (0, 0, 0), 0, []),
  (68, 167, .aload_n 3, 1, (3, 0, 0), 0, []),
  (68, 168, .getfield 112, 3, (3, 4, 0), 0, [(0, 161)]),
  (68, 171, .ifCond .eq 7, 3, (178, 0, 0), 0, []),
  (68, 174, .iconst 1, 1, (0, 0, 0), 1, []),
  (68, 175, .goto 4, 3, (179, 0, 0), 0, []),
  (68, 178, .iconst 0, 1, (0, 0, 0), 0, []),
  (68, 179, .ireturn, 1, (0, 0, 0), 0, []),
  (68, 180, .aload 4, 2, (4, 0, 0), 0, []),
  (68, 182, .aload_n 3, 1, (3, 0, 0), 0, []),
  (68, 183, .aload_n 0, 1, (0, 0, 0), 0, []),
  (68, 184, .getfield 12, 3, (8, 0, 1), 0, [(0, 355)]),
  (68, 187, .getfield 93, 3, (7, 2, 0), 0, [(0, 192)]),
  (68, 190, .invokevirtual 115, 3, (36, 3, 1), 0, [(0, 444)]),
  (68, 193, .ireturn, 1, (0, 0, 0), 0, []),
  (68, 194, .aload 4, 2, (4, 0, 0), 0, []),
  (68, 196, .aload_n 3, 1, (3, 0, 0), 0, []),
  (68, 197, .aload_n 0, 1, (0, 0, 0), 0, []),
  (68, 198, .getfield 12, 3, (8, 0, 1), 0, [(0, 355)]),
  (68, 201, .getfield 93, 3, (7, 2, 0), 0, [(0, 192)]),
  (68, 204, .invokevirtual 119, 3, (37, 3, 1), 0, [(0, 459)]),
  (68, 207, .ireturn, 1, (0, 0, 0), 0, []),
  (68, 208, .aload 4, 2, (4, 0, 0), 0, []),
  (68, 210, .aload_n 3, 1, (3, 0, 0), 0, []),
  (68, 211, .aload_n 0, 1, (0, 0, 0), 0, []),
  (68, 212, .getfield 12, 3, (8, 0, 1), 0, [(0, 355)]),
  (68, 215, .getfield 93, 3, (7, 2, 0), 0, [(0, 192)]),
  (68, 218, .invokevirtual 122, 3, (38, 3, 1), 0, [(0, 460)]),
  (68, 221, .ireturn, 1, (0, 0, 0), 0, []),
  (68, 222, .sipush (-1001), 3, (0, 0, 0), (-1001), []),
  (68, 225, .ireturn, 1, (0, 0, 0), 0, [])]
def rows_69 : List mRow := [
  (69, 0, .aload_n 0, 1, (0, 0, 0), 0, []),
  (69, 1, .iload_n 1, 1, (1, 0, 0), 0, []),
  (69, 2, .invokevirtual 81, 3, (105, 2, 1), 0, [(0, 401)]),
  (69, 5, .ifCond .eq 10, 3, (15, 0, 0), 0, []),
  (69, 8, .iload_n 2, 1, (2, 0, 0), 0, []),
  (69, 9, .invokestatic 125, 3, (106, 1, 1), 0, [(0, 468)]),
  (69, 12, .ifCond .ne 5, 3, (17, 0, 0), 0, []),
  (69, 15, .iconst (-1), 1, (0, 0, 0), (-1), []),
  (69, 16, .ireturn, 1, (0, 0, 0), 0, []),
  (69, 17, .iload_n 3, 1, (3, 0, 0), 0, []),
  (69, 18, .ifCond .lt 9, 3, (27, 0, 0), 0, []),
  (69, 21, .iload_n 3, 1, (3, 0, 0), 0, []),
  (69, 22, .bipush 10, 2, (0, 0, 0), 10, []),
  (69, 24, .if_icmp .lt 6, 3, (30, 0, 0), 0, []),
  (69, 27, .bipush (-2), 2, (0, 0, 0), (-2), []),
  (69, 29, .ireturn, 1, (0, 0, 0), 0, []),
  (69, 30, .aload_n 0, 1, (0, 0, 0), 0, []),
  (69, 31, .getfield 12, 3, (8, 0, 1), 0, [(0, 355)]),
  (69, 34, .getfield 71, 3, (7, 0, 1), 0, [(0, 186)]),
  (69, 37, .iload_n 1, 1, (1, 0, 0), 0, []),
  (69, 38, .aaload, 1, (0, 0, 0), 0, []),
  (69, 39, .getfield 89, 3, (3, 5, 1), 0, [(0, 165)]),
  (69, 42, .astore 4, 2, (4, 0, 0), 0, []),
  (69, 44, .aload 4, 2, (4, 0, 0), 0, []),
  (69, 46, .iload_n 2, 1, (2, 0, 0), 0, []),
  (69, 47, .iaload, 1, (0, 0, 0), 0, []),
  (69, 48, .istore 5, 2, (5, 0, 0), 0, []),
  (69, 50, .aload 4, 2, (4, 0, 0), 0, []),
  (69, 52, .iload_n 2, 1, (2, 0, 0), 0, []),
  (69, 53, .iload_n 3, 1, (3, 0, 0), 0, []),
  (69, 54, .iastore, 1, (0, 0, 0), 0, []),
  (69, 55, .iload 5, 2, (5, 0, 0), 0, []),
  (69, 57, .ireturn, 1, (0, 0, 0), 0, [])]
def rows_70 : List mRow := [
  (70, 0, .aload_n 0, 1, (0, 0, 0), 0, []),
  (70, 1, .iload_n 1, 1, (1, 0, 0), 0, []),
  (70, 2, .invokevirtual 81, 3, (105, 2, 1), 0, [(0, 401)]),
  (70, 5, .ifCond .ne 5, 3, (10, 0, 0), 0, []),
  (70, 8, .iconst (-1), 1, (0, 0, 0), (-1), []),
  (70, 9, .ireturn, 1, (0, 0, 0), 0, []),
  (70, 10, .aload_n 0, 1, (0, 0, 0), 0, []),
  (70, 11, .getfield 12, 3, (8, 0, 1), 0, [(0, 355)]),
  (70, 14, .getfield 71, 3, (7, 0, 1), 0, [(0, 186)]),
  (70, 17, .iload_n 1, 1, (1, 0, 0), 0, []),
  (70, 18, .aaload, 1, (0, 0, 0), 0, []),
  (70, 19, .getfield 112, 3, (3, 4, 0), 0, [(0, 161)]),
  (70, 22, .istore_n 3, 1, (3, 0, 0), 0, []),
  (70, 23, .aload_n 0, 1, (0, 0, 0), 0, []),
  (70, 24, .getfield 12, 3, (8, 0, 1), 0, [(0, 355)]),
  (70, 27, .getfield 71, 3, (7, 0, 1), 0, [(0, 186)]),
  (70, 30, .iload_n 1, 1, (1, 0, 0), 0, []),
  (70, 31, .aaload, 1, (0, 0, 0), 0, []),
  (70, 32, .iload_n 2, 1, (2, 0, 0), 0, []),
  (70, 33, .putfield 112, 3, (3, 4, 2), 0, [(0, 161)]),
  (70, 36, .iload_n 3, 1, (3, 0, 0), 0, []),
  (70, 37, .ifCond .eq 7, 3, (44, 0, 0), 0, []),
  (70, 40, .iconst 1, 1, (0, 0, 0), 1, []),
  (70, 41, .goto 4, 3, (45, 0, 0), 0, []),
  (70, 44, .iconst 0, 1, (0, 0, 0), 0, []),
  (70, 45, .ireturn, 1, (0, 0, 0), 0, [])]
def rows_71 : List mRow := [
  (71, 0, .aload_n 0, 1, (0, 0, 0), 0, []),
  (71, 1, .iload_n 1, 1, (1, 0, 0), 0, []),
  (71, 2, .invokevirtual 81, 3, (105, 2, 1), 0, [(0, 401)]),
  (71, 5, .ifCond .eq 12, 3, (17, 0, 0), 0, []),
  (71, 8, .iload_n 2, 1, (2, 0, 0), 0, []),
  (71, 9, .ifCond .lt 8, 3, (17, 0, 0), 0, []),
  (71, 12, .iload_n 2, 1, (2, 0, 0), 0, []),
  (71, 13, .iconst 4, 1, (0, 0, 0), 4, []),
  (71, 14, .if_icmp .lt 5, 3, (19, 0, 0), 0, []),
  (71, 17, .iconst (-1), 1, (0, 0, 0), (-1), []),
  (71, 18, .ireturn, 1, (0, 0, 0), 0, []),
  (71, 19, .iload_n 3, 1, (3, 0, 0), 0, []),
  (71, 20, .ifCond .lt 9, 3, (29, 0, 0), 0, []),
  (71, 23, .iload_n 3, 1, (3, 0, 0), 0, []),
  (71, 24, .bipush 10, 2, (0, 0, 0), 10, []),
  (71, 26, .if_icmp .lt 6, 3, (32, 0, 0), 0, []),
  (71, 29, .bipush (-2), 2, (0, 0, 0), (-2), []),
  (71, 31, .ireturn, 1, (0, 0, 0), 0, []),
  (71, 32, .aload_n 0, 1, (0, 0, 0), 0, []),
  (71, 33, .getfield 12, 3, (8, 0, 1), 0, [(0, 355)]),
  (71, 36, .getfield 71, 3, (7, 0, 1), 0, [(0, 186)]),
  (71, 39, .iload_n 1, 1, (1, 0, 0), 0, []),
  (71, 40, .aaload, 1, (0, 0, 0), 0, []),
  (71, 41, .astore 4, 2, (4, 0, 0), 0, []),
  (71, 43, .aload 4, 2, (4, 0, 0), 0, []),
  (71, 45, .getfield 103, 3, (3, 1, 0), 0, [(0, 151)]),
  (71, 48, .bipush 6, 2, (0, 0, 0), 6, []),
  (71, 50, .if_icmp .eq 6, 3, (56, 0, 0), 0, []),
  (71, 53, .bipush (-3), 2, (0, 0, 0), (-3), []),
  (71, 55, .ireturn, 1, (0, 0, 0), 0, []),
  (71, 56, .aload 4, 2, (4, 0, 0), 0, []),
  (71, 58, .getfield 128, 3, (3, 6, 1), 0, [(0, 168)]),
  (71, 61, .iload_n 2, 1, (2, 0, 0), 0, []),
  (71, 62, .iaload, 1, (0, 0, 0), 0, []),
  (71, 63, .istore 5, 2, (5, 0, 0), 0, []),
  (71, 65, .aload 4, 2, (4, 0, 0), 0, []),
  (71, 67, .getfield 128, 3, (3, 6, 1), 0, [(0, 168)]),
  (71, 70, .iload_n 2, 1, (2, 0, 0), 0, []),
  (71, 71, .iload_n 3, 1, (3, 0, 0), 0, []),
  (71, 72, .iastore, 1, (0, 0, 0), 0, []),
  (71, 73, .iload 5, 2, (5, 0, 0), 0, []),
  (71, 75, .ireturn, 1, (0, 0, 0), 0, [])]
def rows_72 : List mRow := [
  (72, 0, .iload_n 1, 1, (1, 0, 0), 0, []),
  (72, 1, .invokestatic 131, 3, (107, 1, 1), 0, [(0, 483)]),
  (72, 4, .ifCond .ne 6, 3, (10, 0, 0), 0, []),
  (72, 7, .bipush (-2), 2, (0, 0, 0), (-2), []),
  (72, 9, .ireturn, 1, (0, 0, 0), 0, []),
  (72, 10, .aload_n 0, 1, (0, 0, 0), 0, []),
  (72, 11, .getfield 12, 3, (8, 0, 1), 0, [(0, 355)]),
  (72, 14, .getfield 93, 3, (7, 2, 0), 0, [(0, 192)]),
  (72, 17, .istore_n 2, 1, (2, 0, 0), 0, []),
  (72, 18, .aload_n 0, 1, (0, 0, 0), 0, []),
  (72, 19, .getfield 12, 3, (8, 0, 1), 0, [(0, 355)]),
  (72, 22, .iload_n 1, 1, (1, 0, 0), 0, []),
  (72, 23, .putfield 93, 3, (7, 2, 0), 0, [(0, 192)]),
  (72, 26, .iload_n 2, 1, (2, 0, 0), 0, []),
  (72, 27, .ireturn, 1, (0, 0, 0), 0, [])]
def rows_73 : List mRow := [
  (73, 0, .iload_n 1, 1, (1, 0, 0), 0, []),
  (73, 1, .ifCond .lt 10, 3, (11, 0, 0), 0, []),
  (73, 4, .iload_n 1, 1, (1, 0, 0), 0, []),
  (73, 5, .sipush 128, 3, (0, 0, 0), 128, []),
  (73, 8, .if_icmp .lt 6, 3, (14, 0, 0), 0, []),
  (73, 11, .bipush (-2), 2, (0, 0, 0), (-2), []),
  (73, 13, .ireturn, 1, (0, 0, 0), 0, []),
  (73, 14, .aload_n 0, 1, (0, 0, 0), 0, []),
  (73, 15, .getfield 43, 3, (8, 6, 1), 0, [(0, 361)]),
  (73, 18, .getfield 134, 3, (4, 1, 0), 0, [(0, 274)]),
  (73, 21, .bipush 100, 2, (0, 0, 0), 100, []),
  (73, 23, .if_icmp .lt 6, 3, (29, 0, 0), 0, []),
  (73, 26, .bipush (-4), 2, (0, 0, 0), (-4), []),
  (73, 28, .ireturn, 1, (0, 0, 0), 0, []),
  (73, 29, .aload_n 0, 1, (0, 0, 0), 0, []),
  (73, 30, .getfield 43, 3, (8, 6, 1), 0, [(0, 361)]),
  (73, 33, .getfield 137, 3, (4, 0, 1), 0, [(0, 272)]),
  (73, 36, .aload_n 0, 1, (0, 0, 0), 0, []),
  (73, 37, .getfield 43, 3, (8, 6, 1), 0, [(0, 361)]),
  (73, 40, .getfield 134, 3, (4, 1, 0), 0, [(0, 274)]),
  (73, 43, .iload_n 1, 1, (1, 0, 0), 0, []),
  (73, 44, .iastore, 1, (0, 0, 0), 0, []),
  (73, 45, .aload_n 0, 1, (0, 0, 0), 0, []),
  (73, 46, .getfield 43, 3, (8, 6, 1), 0, [(0, 361)]),
  (73, 49, .dup, 1, (0, 0, 0), 0, []),
  (73, 50, .getfield 134, 3, (4, 1, 0), 0, [(0, 274)]),
  (73, 53, .iconst 1, 1, (0, 0, 0), 1, []),
  (73, 54, .iadd, 1, (0, 0, 0), 0, []),
  (73, 55, .putfield 134, 3, (4, 1, 0), 0, [(0, 274)]),
  (73, 58, .aload_n 0, 1, (0, 0, 0), 0, []),
  (73, 59, .getfield 43, 3, (8, 6, 1), 0, [(0, 361)]),
  (73, 62, .getfield 134, 3, (4, 1, 0), 0, [(0, 274)]),
  (73, 65, .ireturn, 1, (0, 0, 0), 0, [])]
def rows_74 : List mRow := [
  (74, 0, .aload_n 0, 1, (0, 0, 0), 0, []),
  (74, 1, .getfield 36, 3, (8, 5, 0), 0, [(0, 360)]),
  (74, 4, .bipush 6, 2, (0, 0, 0), 6, []),
  (74, 6, .if_icmp .lt 6, 3, (12, 0, 0), 0, []),
  (74, 9, .bipush (-4), 2, (0, 0, 0), (-4), []),
  (74, 11, .ireturn, 1, (0, 0, 0), 0, []),
  (74, 12, .aload_n 0, 1, (0, 0, 0), 0, []),
  (74, 13, .getfield 43, 3, (8, 6, 1), 0, [(0, 361)]),
  (74, 16, .invokevirtual 140, 3, (45, 1, 1), 0, [(0, 494)]),
  (74, 19, .istore_n 1, 1, (1, 0, 0), 0, []),
  (74, 20, .aload_n 0, 1, (0, 0, 0), 0, []),
  (74, 21, .getfield 43, 3, (8, 6, 1), 0, [(0, 361)]),
  (74, 24, .iconst 0, 1, (0, 0, 0), 0, []),
  (74, 25, .putfield 134, 3, (4, 1, 0), 0, [(0, 274)]),
  (74, 28, .iload_n 1, 1, (1, 0, 0), 0, []),
  (74, 29, .ifCond .ne 14, 3, (43, 0, 0), 0, []),
  (74, 32, .bipush (-10), 2, (0, 0, 0), (-10), []),
  (74, 34, .aload_n 0, 1, (0, 0, 0), 0, []),
  (74, 35, .getfield 43, 3, (8, 6, 1), 0, [(0, 361)]),
  (74, 38, .getfield 144, 3, (4, 2, 0), 0, [(0, 276)]),
  (74, 41, .isub, 1, (0, 0, 0), 0, []),
  (74, 42, .ireturn, 1, (0, 0, 0), 0, []),
  (74, 43, .aload_n 0, 1, (0, 0, 0), 0, []),
  (74, 44, .getfield 32, 3, (8, 4, 1), 0, [(0, 359)]),
  (74, 47, .aload_n 0, 1, (0, 0, 0), 0, []),
  (74, 48, .getfield 36, 3, (8, 5, 0), 0, [(0, 360)]),
  (74, 51, .aload_n 0, 1, (0, 0, 0), 0, []),
  (74, 52, .getfield 43, 3, (8, 6, 1), 0, [(0, 361)]),
  (74, 55, .invokevirtual 147, 3, (44, 1, 3), 0, [(0, 605)]),
  (74, 58, .aastore, 1, (0, 0, 0), 0, []),
  (74, 59, .aload_n 0, 1, (0, 0, 0), 0, []),
  (74, 60, .getfield 12, 3, (8, 0, 1), 0, [(0, 355)]),
  (74, 63, .aload_n 0, 1, (0, 0, 0), 0, []),
  (74, 64, .getfield 36, 3, (8, 5, 0), 0, [(0, 360)]),
  (74, 67, .putfield 150, 3, (7, 4, 0), 0, [(0, 197)]),
  (74, 70, .aload_n 0, 1, (0, 0, 0), 0, []),
  (74, 71, .dup, 1, (0, 0, 0), 0, []),
  (74, 72, .getfield 36, 3, (8, 5, 0), 0, [(0, 360)]),
  (74, 75, .iconst 1, 1, (0, 0, 0), 1, []),
  (74, 76, .iadd, 1, (0, 0, 0), 0, []),
  (74, 77, .putfield 36, 3, (8, 5, 0), 0, [(0, 360)]),
  (74, 80, .aload_n 0, 1, (0, 0, 0), 0, []),
  (74, 81, .getfield 12, 3, (8, 0, 1), 0, [(0, 355)]),
  (74, 84, .getfield 150, 3, (7, 4, 0), 0, [(0, 197)]),
  (74, 87, .ireturn, 1, (0, 0, 0), 0, [])]
def rows_75 : List mRow := [
  (75, 0, .aload_n 0, 1, (0, 0, 0), 0, []),
  (75, 1, .invokevirtual 85, 3, (112, 1, 3), 0, [(0, 405)]),
  (75, 4, .astore_n 2, 1, (2, 0, 0), 0, []),
  (75, 5, .iload_n 1, 1, (1, 0, 0), 0, []),
  (75, 6, .tableswitch 97 0 6 #[42, 50, 58, 63, 68, 73, 85], 42, (103, 0, 0), 0, [(0, 48), (1, 56), (2, 64), (3, 69), (4, 74), (5, 79), (6, 91)]),
  (75, 48, .aload_n 0, 1, (0, 0, 0), 0, []),
  (75, 49, .getfield 12, 3, (8, 0, 1), 0, [(0, 355)]),
  (75, 52, .getfield 153, 3, (7, 3, 0), 0, [(0, 195)]),
  (75, 55, .ireturn, 1, (0, 0, 0), 0, []),
  (75, 56, .aload_n 0, 1, (0, 0, 0), 0, []),
  (75, 57, .getfield 12, 3, (8, 0, 1), 0, [(0, 355)]),
  (75, 60, .getfield 93, 3, (7, 2, 0), 0, [(0, 192)]),
  (75, 63, .ireturn, 1, (0, 0, 0), 0, []),
  (75, 64, .aload_n 2, 1, (2, 0, 0), 0, []),
  (75, 65, .getfield 156, 3, (2, 0, 0), 0, [(0, 232)]),
  (75, 68, .ireturn, 1, (0, 0, 0), 0, []),
  (75, 69, .aload_n 2, 1, (2, 0, 0), 0, []),
  (75, 70, .getfield 159, 3, (2, 1, 0), 0, [(0, 235)]),
  (75, 73, .ireturn, 1, (0, 0, 0), 0, []),
  (75, 74, .aload_n 2, 1, (2, 0, 0), 0, []),
  (75, 75, .getfield 162, 3, (2, 2, 0), 0, [(0, 239)]),
  (75, 78, .ireturn, 1, (0, 0, 0), 0, []),
  (75, 79, .aload_n 2, 1, (2, 0, 0), 0, []),
  (75, 80, .aload_n 0, 1, (0, 0, 0), 0, []),
  (75, 81, .getfield 12, 3, (8, 0, 1), 0, [(0, 355)]),
  (75, 84, .getfield 93, 3, (7, 2, 0), 0, [(0, 192)]),
  (75, 87, .invokevirtual 165, 3, (29, 2, 1), 0, [(0, 614)]),
  (75, 90, .ireturn, 1, (0, 0, 0), 0, []),
  (75, 91, .aload_n 0, 1, (0, 0, 0), 0, []),
  (75, 92, .aload_n 0, 1, (0, 0, 0), 0, []),
  (75, 93, .getfield 12, 3, (8, 0, 1), 0, [(0, 355)]),
  (75, 96, .getfield 93, 3, (7, 2, 0), 0, [(0, 192)]),
  (75, 99, .invokevirtual 169, 3, (113, 2, 1), 0, [(0, 615)]),
  (75, 102, .ireturn, 1, (0, 0, 0), 0, []),
  (75, 103, .iconst (-1), 1, (0, 0, 0), (-1), []),
  (75, 104, .ireturn, 1, (0, 0, 0), 0, [])]
def rows_76 : List mRow := [
  (76, 0, .iload_n 1, 1, (1, 0, 0), 0, []),
  (76, 1, .invokestatic 172, 3, (108, 1, 1), 0, [(0, 623)]),
  (76, 4, .ifCond .ne 6, 3, (10, 0, 0), 0, []),
  (76, 7, .bipush (-2), 2, (0, 0, 0), (-2), []),
  (76, 9, .ireturn, 1, (0, 0, 0), 0, []),
  (76, 10, .aload_n 0, 1, (0, 0, 0), 0, []),
  (76, 11, .getfield 12, 3, (8, 0, 1), 0, [(0, 355)]),
  (76, 14, .getfield 153, 3, (7, 3, 0), 0, [(0, 195)]),
  (76, 17, .iload_n 1, 1, (1, 0, 0), 0, []),
  (76, 18, .iadd, 1, (0, 0, 0), 0, []),
  (76, 19, .sipush 9999, 3, (0, 0, 0), 9999, []),
  (76, 22, .if_icmp .le 6, 3, (28, 0, 0), 0, []),
  (76, 25, .bipush (-3), 2, (0, 0, 0), (-3), []),
  (76, 27, .ireturn, 1, (0, 0, 0), 0, []),
  (76, 28, .iconst 0, 1, (0, 0, 0), 0, []),
  (76, 29, .istore_n 2, 1, (2, 0, 0), 0, []),
  (76, 30, .iload_n 2, 1, (2, 0, 0), 0, []),
  (76, 31, .aload_n 0, 1, (0, 0, 0), 0, []),
  (76, 32, .getfield 12, 3, (8, 0, 1), 0, [(0, 355)]),
  (76, 35, .getfield 68, 3, (7, 1, 0), 0, [(0, 189)]),
  (76, 38, .if_icmp .ge 22, 3, (60, 0, 0), 0, []),
  (76, 41, .aload_n 0, 1, (0, 0, 0), 0, []),
  (76, 42, .getfield 12, 3, (8, 0, 1), 0, [(0, 355)]),
  (76, 45, .getfield 71, 3, (7, 0, 1), 0, [(0, 186)]),
  (76, 48, .iload_n 2, 1, (2, 0, 0), 0, []),
  (76, 49, .aaload, 1, (0, 0, 0), 0, []),
  (76, 50, .iload_n 1, 1, (1, 0, 0), 0, []),
  (76, 51, .invokevirtual 175, 3, (42, 2, 0), 0, [(0, 626)]),
  (76, 54, .iinc 2 1, 3, (2, 0, 0), 1, []),
  (76, 57, .goto (-27), 3, (30, 0, 0), 0, []),
  (76, 60, .aload_n 0, 1, (0, 0, 0), 0, []),
  (76, 61, .getfield 12, 3, (8, 0, 1), 0, [(0, 355)]),
  (76, 64, .dup, 1, (0, 0, 0), 0, []),
  (76, 65, .getfield 153, 3, (7, 3, 0), 0, [(0, 195)]),
  (76, 68, .iload_n 1, 1, (1, 0, 0), 0, []),
  (76, 69, .iadd, 1, (0, 0, 0), 0, []),
  (76, 70, .putfield 153, 3, (7, 3, 0), 0, [(0, 195)]),
  (76, 73, .aload_n 0, 1, (0, 0, 0), 0, []),
  (76, 74, .getfield 12, 3, (8, 0, 1), 0, [(0, 355)]),
  (76, 77, .getfield 153, 3, (7, 3, 0), 0, [(0, 195)]),
  (76, 80, .ireturn, 1, (0, 0, 0), 0, [])]
def rows_77 : List mRow := [
  (77, 0, .aload_n 0, 1, (0, 0, 0), 0, []),
  (77, 1, .iload_n 2, 1, (2, 0, 0), 0, []),
  (77, 2, .bipush 10, 2, (0, 0, 0), 10, []),
  (77, 4, .isub, 1, (0, 0, 0), 0, []),
  (77, 5, .invokevirtual 81, 3, (105, 2, 1), 0, [(0, 401)]),
  (77, 8, .istore_n 3, 1, (3, 0, 0), 0, []),
  (77, 9, .aload_n 0, 1, (0, 0, 0), 0, []),
  (77, 10, .iload_n 2, 1, (2, 0, 0), 0, []),
  (77, 11, .bipush 20, 2, (0, 0, 0), 20, []),
  (77, 13, .isub, 1, (0, 0, 0), 0, []),
  (77, 14, .invokevirtual 81, 3, (105, 2, 1), 0, [(0, 401)]),
  (77, 17, .istore 4, 2, (4, 0, 0), 0, []),
  (77, 19, .iload_n 2, 1, (2, 0, 0), 0, []),
  (77, 20, .ifCond .eq 14, 3, (34, 0, 0), 0, []),
  (77, 23, .iload_n 3, 1, (3, 0, 0), 0, []),
  (77, 24, .ifCond .ne 10, 3, (34, 0, 0), 0, []),
  (77, 27, .iload 4, 2, (4, 0, 0), 0, []),
  (77, 29, .ifCond .ne 5, 3, (34, 0, 0), 0, []),
  (77, 32, .iconst (-1), 1, (0, 0, 0), (-1), []),
  (77, 33, .ireturn, 1, (0, 0, 0), 0, []),
  (77, 34, .iload_n 1, 1, (1, 0, 0), 0, []),
  (77, 35, .invokestatic 172, 3, (108, 1, 1), 0, [(0, 623)]),
  (77, 38, .ifCond .ne 6, 3, (44, 0, 0), 0, []),
  (77, 41, .bipush (-2), 2, (0, 0, 0), (-2), []),
  (77, 43, .ireturn, 1, (0, 0, 0), 0, []),
  (77, 44, .aload_n 0, 1, (0, 0, 0), 0, []),
  (77, 45, .invokevirtual 85, 3, (112, 1, 3), 0, [(0, 405)]),
  (77, 48, .astore 5, 2, (5, 0, 0), 0, []),
  (77, 50, .iload_n 3, 1, (3, 0, 0), 0, []),
  (77, 51, .ifCond .eq 36, 3, (87, 0, 0), 0, []),
  (77, 54, .aload 5, 2, (5, 0, 0), 0, []),
  (77, 56, .aload_n 0, 1, (0, 0, 0), 0, []),
  (77, 57, .getfield 50, 3, (8, 7, 1), 0, [(0, 362)]),
  (77, 60, .aload_n 0, 1, (0, 0, 0), 0, []),
  (77, 61, .getfield 12, 3, (8, 0, 1), 0, [(0, 355)]),
  (77, 64, .getfield 71, 3, (7, 0, 1), 0, [(0, 186)]),
  (77, 67, .iload_n 2, 1, (2, 0, 0), 0, []),
  (77, 68, .bipush 10, 2, (0, 0, 0), 10, []),
  (77, 70, .isub, 1, (0, 0, 0), 0, []),
  (77, 71, .aaload, 1, (0, 0, 0), 0, []),
  (77, 72, .iload_n 1, 1, (1, 0, 0), 0, []),
  (77, 73, .invokevirtual 179, 3, (6, 3, 3), 0, [(0, 634)]),
  (77, 76, .aload_n 0, 1, (0, 0, 0), 0, []),
  (77, 77, .getfield 12, 3, (8, 0, 1), 0, [(0, 355)]),
  (77, 80, .getfield 93, 3, (7, 2, 0), 0, [(0, 192)]),
  (77, 83, .invokevirtual 115, 3, (36, 3, 1), 0, [(0, 444)]),
  (77, 86, .ireturn, 1, (0, 0, 0), 0, []),
  (77, 87, .iload 4, 2, (4, 0, 0), 0, []),
  (77, 89, .ifCond .eq 36, 3, (125, 0, 0), 0, []),
  (77, 92, .aload 5, 2, (5, 0, 0), 0, []),
  (77, 94, .aload_n 0, 1, (0, 0, 0), 0, []),
  (77, 95, .getfield 50, 3, (8, 7, 1), 0, [(0, 362)]),
  (77, 98, .aload_n 0, 1, (0, 0, 0), 0, []),
  (77, 99, .getfield 12, 3, (8, 0, 1), 0, [(0, 355)]),
  (77, 102, .getfield 71, 3, (7, 0, 1), 0, [(0, 186)]),
  (77, 105, .iload_n 2, 1, (2, 0, 0), 0, []),
  (77, 106, .bipush 20, 2, (0, 0, 0), 20, []),
  (77, 108, .isub, 1, (0, 0, 0), 0, []),
  (77, 109, .aaload, 1, (0, 0, 0), 0, []),
  (77, 110, .iload_n 1, 1, (1, 0, 0), 0, []),
  (77, 111, .invokevirtual 179, 3, (6, 3, 3), 0, [(0, 634)]),
  (77, 114, .aload_n 0, 1, (0, 0, 0), 0, []),
  (77, 115, .getfield 12, 3, (8, 0, 1), 0, [(0, 355)]),
  (77, 118, .getfield 93, 3, (7, 2, 0), 0, [(0, 192)]),
  (77, 121, .invokevirtual 119, 3, (37, 3, 1), 0, [(0, 459)]),
  (77, 124, .ireturn, 1, (0, 0, 0), 0, []),
  (77, 125, .iconst 0, 1, (0, 0, 0), 0, []),
  (77, 126, .istore 6, 2, (6, 0, 0), 0, []),
  (77, 128, .iconst 0, 1, (0, 0, 0), 0, []),
  (77, 129, .istore 7, 2, (7, 0, 0), 0, []),
  (77, 131, .iload 7, 2, (7, 0, 0), 0, []),
  (77, 133, .aload_n 0, 1, (0, 0, 0), 0, []),
  (77, 134, .getfield 12, 3, (8, 0, 1), 0, [(0, 355)]),
  (77, 137, .getfield 68, 3, (7, 1, 0), 0, [(0, 189)]),
  (77, 140, .if_icmp .ge 44, 3, (184, 0, 0), 0, []),
  (77, 143, .iload 6, 2, (6, 0, 0), 0, []),
  (77, 145, .aload 5, 2, (5, 0, 0), 0, []),
  (77, 147, .aload_n 0, 1, (0, 0, 0), 0, []),
  (77, 148, .getfield 50, 3, (8, 7, 1), 0, [(0, 362)]),
  (77, 151, .aload_n 0, 1, (0, 0, 0), 0, []),
  (77, 152, .getfield 12, 3, (8, 0, 1), 0, [(0, 355)]),
  (77, 155, .getfield 71, 3, (7, 0, 1), 0, [(0, 186)]),
  (77, 158, .iload 7, 2, (7, 0, 0), 0, []),
  (77, 160, .aaload, 1, (0, 0, 0), 0, []),
  (77, 161, .iload_n 1, 1, (1, 0, 0), 0, []),
  (77, 162, .invokevirtual 179, 3, (6, 3, 3), 0, [(0, 634)]),
  (77, 165, .aload_n 0, 1, (0, 0, 0), 0, []),
  (77, 166, .getfield 12, 3, (8, 0, 1), 0, [(0, 355)]),
  (77, 169, .getfield 93, 3, (7, 2, 0), 0, [(0, 192)]),
  (77, 172, .invokevirtual 115, 3, (36, 3, 1), 0, [(0, 444)]),
  (77, 175, .iadd, 1, (0, 0, 0), 0, []),
  (77, 176, .istore 6, 2, (6, 0, 0), 0, []),
  (77, 178, .iinc 7 1, 3, (7, 0, 0), 1, []),
  (77, 181, .goto (-50), 3, (131, 0, 0), 0, []),
  (77, 184, .iload 6, 2, (6, 0, 0), 0, []),
  (77, 186, .ireturn, 1, (0, 0, 0), 0, [])]
def rows_78 : List mRow := [
  (78, 0, .aload_n 0, 1, (0, 0, 0), 0, []),
  (78, 1, .iload_n 1, 1, (1, 0, 0), 0, []),
  (78, 2, .invokevirtual 81, 3, (105, 2, 1), 0, [(0, 401)]),
  (78, 5, .ifCond .ne 5, 3, (10, 0, 0), 0, []),
  (78, 8, .iconst (-1), 1, (0, 0, 0), (-1), []),
  (78, 9, .ireturn, 1, (0, 0, 0), 0, []),
  (78, 10, .iload_n 2, 1, (2, 0, 0), 0, []),
  (78, 11, .invokestatic 131, 3, (107, 1, 1), 0, [(0, 483)]),
  (78, 14, .ifCond .ne 6, 3, (20, 0, 0), 0, []),
  (78, 17, .bipush (-2), 2, (0, 0, 0), (-2), []),
  (78, 19, .ireturn, 1, (0, 0, 0), 0, []),
  (78, 20, .aload_n 0, 1, (0, 0, 0), 0, []),
  (78, 21, .invokevirtual 85, 3, (112, 1, 3), 0, [(0, 405)]),
  (78, 24, .aload_n 0, 1, (0, 0, 0), 0, []),
  (78, 25, .getfield 12, 3, (8, 0, 1), 0, [(0, 355)]),
  (78, 28, .getfield 71, 3, (7, 0, 1), 0, [(0, 186)]),
  (78, 31, .iload_n 1, 1, (1, 0, 0), 0, []),
  (78, 32, .aaload, 1, (0, 0, 0), 0, []),
  (78, 33, .iload_n 2, 1, (2, 0, 0), 0, []),
  (78, 34, .invokevirtual 115, 3, (36, 3, 1), 0, [(0, 444)]),
  (78, 37, .ireturn, 1, (0, 0, 0), 0, [])]
def rows_79 : List mRow := [
  (79, 0, .aload_n 0, 1, (0, 0, 0), 0, []),
  (79, 1, .iload_n 1, 1, (1, 0, 0), 0, []),
  (79, 2, .invokevirtual 81, 3, (105, 2, 1), 0, [(0, 401)]),
  (79, 5, .ifCond .eq 10, 3, (15, 0, 0), 0, []),
  (79, 8, .iload_n 2, 1, (2, 0, 0), 0, []),
  (79, 9, .invokestatic 183, 3, (110, 1, 1), 0, [(0, 654)]),
  (79, 12, .ifCond .ne 5, 3, (17, 0, 0), 0, []),
  (79, 15, .iconst (-1), 1, (0, 0, 0), (-1), []),
  (79, 16, .ireturn, 1, (0, 0, 0), 0, []),
  (79, 17, .aload_n 0, 1, (0, 0, 0), 0, []),
  (79, 18, .getfield 12, 3, (8, 0, 1), 0, [(0, 355)]),
  (79, 21, .getfield 71, 3, (7, 0, 1), 0, [(0, 186)]),
  (79, 24, .iload_n 1, 1, (1, 0, 0), 0, []),
  (79, 25, .aaload, 1, (0, 0, 0), 0, []),
  (79, 26, .astore_n 3, 1, (3, 0, 0), 0, []),
  (79, 27, .iload_n 2, 1, (2, 0, 0), 0, []),
  (79, 28, .ifCond .ne 16, 3, (44, 0, 0), 0, []),
  (79, 31, .aload_n 0, 1, (0, 0, 0), 0, []),
  (79, 32, .getfield 50, 3, (8, 7, 1), 0, [(0, 362)]),
  (79, 35, .aload_n 0, 1, (0, 0, 0), 0, []),
  (79, 36, .invokevirtual 85, 3, (112, 1, 3), 0, [(0, 405)]),
  (79, 39, .aload_n 3, 1, (3, 0, 0), 0, []),
  (79, 40, .invokevirtual 186, 3, (7, 3, 1), 0, [(0, 657)]),
  (79, 43, .ireturn, 1, (0, 0, 0), 0, []),
  (79, 44, .aload_n 0, 1, (0, 0, 0), 0, []),
  (79, 45, .getfield 50, 3, (8, 7, 1), 0, [(0, 362)]),
  (79, 48, .aload_n 0, 1, (0, 0, 0), 0, []),
  (79, 49, .invokevirtual 85, 3, (112, 1, 3), 0, [(0, 405)]),
  (79, 52, .aload_n 3, 1, (3, 0, 0), 0, []),
  (79, 53, .aload_n 0, 1, (0, 0, 0), 0, []),
  (79, 54, .getfield 12, 3, (8, 0, 1), 0, [(0, 355)]),
  (79, 57, .getfield 93, 3, (7, 2, 0), 0, [(0, 192)]),
  (79, 60, .invokevirtual 190, 3, (8, 4, 1), 0, [(0, 662)]),
  (79, 63, .ireturn, 1, (0, 0, 0), 0, [])]
def rows_80 : List mRow := [
  (80, 0, .iload_n 1, 1, (1, 0, 0), 0, []),
  (80, 1, .iconst (-1), 1, (0, 0, 0), (-1), []),
  (80, 2, .if_icmp .lt 9, 3, (11, 0, 0), 0, []),
  (80, 5, .iload_n 1, 1, (1, 0, 0), 0, []),
  (80, 6, .bipush 6, 2, (0, 0, 0), 6, []),
  (80, 8, .if_icmp .lt 5, 3, (13, 0, 0), 0, []),
  (80, 11, .iconst (-1), 1, (0, 0, 0), (-1), []),
  (80, 12, .ireturn, 1, (0, 0, 0), 0, []),
  (80, 13, .aload_n 0, 1, (0, 0, 0), 0, []),
  (80, 14, .getfield 50, 3, (8, 7, 1), 0, [(0, 362)]),
  (80, 17, .aload_n 0, 1, (0, 0, 0), 0, []),
  (80, 18, .getfield 12, 3, (8, 0, 1), 0, [(0, 355)]),
  (80, 21, .aload_n 0, 1, (0, 0, 0), 0, []),
  (80, 22, .invokevirtual 85, 3, (112, 1, 3), 0, [(0, 405)]),
  (80, 25, .invokevirtual 194, 3, (9, 3, 1), 0, [(0, 670)]),
  (80, 28, .istore_n 2, 1, (2, 0, 0), 0, []),
  (80, 29, .iload_n 1, 1, (1, 0, 0), 0, []),
  (80, 30, .ifCond .ge 15, 3, (45, 0, 0), 0, []),
  (80, 33, .aload_n 0, 1, (0, 0, 0), 0, []),
  (80, 34, .getfield 50, 3, (8, 7, 1), 0, [(0, 362)]),
  (80, 37, .getfield 198, 3, (1, 1, 1), 0, [(0, 301)]),
  (80, 40, .iconst 0, 1, (0, 0, 0), 0, []),
  (80, 41, .iaload, 1, (0, 0, 0), 0, []),
  (80, 42, .goto 12, 3, (54, 0, 0), 0, []),
  (80, 45, .aload_n 0, 1, (0, 0, 0), 0, []),
  (80, 46, .getfield 50, 3, (8, 7, 1), 0, [(0, 362)]),
  (80, 49, .iload_n 1, 1, (1, 0, 0), 0, []),
  (80, 50, .iload_n 2, 1, (2, 0, 0), 0, []),
  (80, 51, .invokevirtual 201, 3, (12, 3, 1), 0, [(0, 684)]),
  (80, 54, .ireturn, 1, (0, 0, 0), 0, [])]
def rows_81 : List mRow := [
  (81, 0, .aload_n 0, 1, (0, 0, 0), 0, []),
  (81, 1, .iload_n 1, 1, (1, 0, 0), 0, []),
  (81, 2, .invokevirtual 81, 3, (105, 2, 1), 0, [(0, 401)]),
  (81, 5, .ifCond .eq 11, 3, (16, 0, 0), 0, []),
  (81, 8, .aload_n 0, 1, (0, 0, 0), 0, []),
  (81, 9, .iload_n 2, 1, (2, 0, 0), 0, []),
  (81, 10, .invokevirtual 81, 3, (105, 2, 1), 0, [(0, 401)]),
  (81, 13, .ifCond .ne 5, 3, (18, 0, 0), 0, []),
  (81, 16, .iconst (-1), 1, (0, 0, 0), (-1), []),
  (81, 17, .ireturn, 1, (0, 0, 0), 0, []),
  (81, 18, .iload_n 1, 1, (1, 0, 0), 0, []),
  (81, 19, .iload_n 2, 1, (2, 0, 0), 0, []),
  (81, 20, .if_icmp .ne 6, 3, (26, 0, 0), 0, []),
  (81, 23, .bipush (-2), 2, (0, 0, 0), (-2), []),
  (81, 25, .ireturn, 1, (0, 0, 0), 0, []),
  (81, 26, .aload_n 0, 1, (0, 0, 0), 0, []),
  (81, 27, .invokevirtual 85, 3, (112, 1, 3), 0, [(0, 405)]),
  (81, 30, .astore_n 3, 1, (3, 0, 0), 0, []),
  (81, 31, .aload_n 0, 1, (0, 0, 0), 0, []),
  (81, 32, .getfield 50, 3, (8, 7, 1), 0, [(0, 362)]),
  (81, 35, .aload_n 0, 1, (0, 0, 0), 0, []),
  (81, 36, .getfield 12, 3, (8, 0, 1), 0, [(0, 355)]),
  (81, 39, .aload_n 3, 1, (3, 0, 0), 0, []),
  (81, 40, .aload_n 0, 1, (0, 0, 0), 0, []),
  (81, 41, .getfield 12, 3, (8, 0, 1), 0, [(0, 355)]),
  (81, 44, .getfield 93, 3, (7, 2, 0), 0, [(0, 192)]),
  (81, 47, .invokevirtual 205, 3, (13, 4, 0), 0, [(0, 692)]),
  (81, 50, .aload_n 0, 1, (0, 0, 0), 0, []),
  (81, 51, .getfield 50, 3, (8, 7, 1), 0, [(0, 362)]),
  (81, 54, .aload_n 3, 1, (3, 0, 0), 0, []),
  (81, 55, .iload_n 1, 1, (1, 0, 0), 0, []),
  (81, 56, .iload_n 2, 1, (2, 0, 0), 0, []),
  (81, 57, .invokevirtual 209, 3, (14, 4, 1), 0, [(0, 697)]),
  (81, 60, .ireturn, 1, (0, 0, 0), 0, [])]
def rows_82 : List mRow := [
  (82, 0, .iload_n 1, 1, (1, 0, 0), 0, []),
  (82, 1, .ifCond .eq 16, 3, (17, 0, 0), 0, []),
  (82, 4, .aload_n 0, 1, (0, 0, 0), 0, []),
  (82, 5, .iload_n 1, 1, (1, 0, 0), 0, []),
  (82, 6, .bipush 10, 2, (0, 0, 0), 10, []),
  (82, 8, .isub, 1, (0, 0, 0), 0, []),
  (82, 9, .invokevirtual 81, 3, (105, 2, 1), 0, [(0, 401)]),
  (82, 12, .ifCond .ne 5, 3, (17, 0, 0), 0, []),
  (82, 15, .iconst (-1), 1, (0, 0, 0), (-1), []),
  (82, 16, .ireturn, 1, (0, 0, 0), 0, []),
  (82, 17, .aload_n 0, 1, (0, 0, 0), 0, []),
  (82, 18, .getfield 50, 3, (8, 7, 1), 0, [(0, 362)]),
  (82, 21, .aload_n 0, 1, (0, 0, 0), 0, []),
  (82, 22, .getfield 12, 3, (8, 0, 1), 0, [(0, 355)]),
  (82, 25, .aload_n 0, 1, (0, 0, 0), 0, []),
  (82, 26, .invokevirtual 85, 3, (112, 1, 3), 0, [(0, 405)]),
  (82, 29, .invokevirtual 213, 3, (16, 3, 1), 0, [(0, 705)]),
  (82, 32, .istore_n 2, 1, (2, 0, 0), 0, []),
  (82, 33, .iload_n 1, 1, (1, 0, 0), 0, []),
  (82, 34, .ifCond .ne 15, 3, (49, 0, 0), 0, []),
  (82, 37, .aload_n 0, 1, (0, 0, 0), 0, []),
  (82, 38, .getfield 50, 3, (8, 7, 1), 0, [(0, 362)]),
  (82, 41, .getfield 198, 3, (1, 1, 1), 0, [(0, 301)]),
  (82, 44, .iload_n 2, 1, (2, 0, 0), 0, []),
  (82, 45, .iaload, 1, (0, 0, 0), 0, []),
  (82, 46, .goto 19, 3, (65, 0, 0), 0, []),
  (82, 49, .aload_n 0, 1, (0, 0, 0), 0, []),
  (82, 50, .getfield 50, 3, (8, 7, 1), 0, [(0, 362)]),
  (82, 53, .aload_n 0, 1, (0, 0, 0), 0, []),
  (82, 54, .invokevirtual 85, 3, (112, 1, 3), 0, [(0, 405)]),
  (82, 57, .iload_n 2, 1, (2, 0, 0), 0, []),
  (82, 58, .iload_n 1, 1, (1, 0, 0), 0, []),
  (82, 59, .bipush 10, 2, (0, 0, 0), 10, []),
  (82, 61, .isub, 1, (0, 0, 0), 0, []),
  (82, 62, .invokevirtual 216, 3, (20, 4, 1), 0, [(0, 722)]),
  (82, 65, .ireturn, 1, (0, 0, 0), 0, [])]
def rows_83 : List mRow := [
  (83, 0, .iload_n 1, 1, (1, 0, 0), 0, []),
  (83, 1, .ifCond .lt 10, 3, (11, 0, 0), 0, []),
  (83, 4, .iload_n 1, 1, (1, 0, 0), 0, []),
  (83, 5, .sipush 9999, 3, (0, 0, 0), 9999, []),
  (83, 8, .if_icmp .le 6, 3, (14, 0, 0), 0, []),
  (83, 11, .bipush (-2), 2, (0, 0, 0), (-2), []),
  (83, 13, .ireturn, 1, (0, 0, 0), 0, []),
  (83, 14, .aload_n 0, 1, (0, 0, 0), 0, []),
  (83, 15, .invokevirtual 85, 3, (112, 1, 3), 0, [(0, 405)]),
  (83, 18, .astore_n 2, 1, (2, 0, 0), 0, []),
  (83, 19, .aload_n 0, 1, (0, 0, 0), 0, []),
  (83, 20, .getfield 50, 3, (8, 7, 1), 0, [(0, 362)]),
  (83, 23, .aload_n 0, 1, (0, 0, 0), 0, []),
  (83, 24, .getfield 12, 3, (8, 0, 1), 0, [(0, 355)]),
  (83, 27, .aload_n 2, 1, (2, 0, 0), 0, []),
  (83, 28, .aload_n 0, 1, (0, 0, 0), 0, []),
  (83, 29, .getfield 12, 3, (8, 0, 1), 0, [(0, 355)]),
  (83, 32, .getfield 93, 3, (7, 2, 0), 0, [(0, 192)]),
  (83, 35, .invokevirtual 205, 3, (13, 4, 0), 0, [(0, 692)]),
  (83, 38, .iconst 0, 1, (0, 0, 0), 0, []),
  (83, 39, .istore_n 3, 1, (3, 0, 0), 0, []),
  (83, 40, .iload_n 3, 1, (3, 0, 0), 0, []),
  (83, 41, .bipush 61, 2, (0, 0, 0), 61, []),
  (83, 43, .if_icmp .ge 32, 3, (75, 0, 0), 0, []),
  (83, 46, .aload_n 0, 1, (0, 0, 0), 0, []),
  (83, 47, .getfield 50, 3, (8, 7, 1), 0, [(0, 362)]),
  (83, 50, .aload_n 0, 1, (0, 0, 0), 0, []),
  (83, 51, .getfield 12, 3, (8, 0, 1), 0, [(0, 355)]),
  (83, 54, .iload_n 3, 1, (3, 0, 0), 0, []),
  (83, 55, .invokevirtual 219, 3, (15, 3, 1), 0, [(0, 730)]),
  (83, 58, .aload_n 2, 1, (2, 0, 0), 0, []),
  (83, 59, .getfield 162, 3, (2, 2, 0), 0, [(0, 239)]),
  (83, 62, .imul, 1, (0, 0, 0), 0, []),
  (83, 63, .iload_n 1, 1, (1, 0, 0), 0, []),
  (83, 64, .if_icmp .lt 5, 3, (69, 0, 0), 0, []),
  (83, 67, .iload_n 3, 1, (3, 0, 0), 0, []),
  (83, 68, .ireturn, 1, (0, 0, 0), 0, []),
  (83, 69, .iinc 3 1, 3, (3, 0, 0), 1, []),
  (83, 72, .goto (-32), 3, (40, 0, 0), 0, []),
  (83, 75, .bipush (-5), 2, (0, 0, 0), (-5), []),
  (83, 77, .ireturn, 1, (0, 0, 0), 0, [])]
def rows_84 : List mRow := [
  (84, 0, .iload_n 1, 1, (1, 0, 0), 0, []),
  (84, 1, .iconst (-1), 1, (0, 0, 0), (-1), []),
  (84, 2, .if_icmp .ne 16, 3, (18, 0, 0), 0, []),
  (84, 5, .aload_n 0, 1, (0, 0, 0), 0, []),
  (84, 6, .getfield 12, 3, (8, 0, 1), 0, [(0, 355)]),
  (84, 9, .getfield 223, 3, (7, 5, 1), 0, [(0, 200)]),
  (84, 12, .iconst 0, 1, (0, 0, 0), 0, []),
  (84, 13, .putfield 227, 3, (5, 2, 0), 0, [(0, 131)]),
  (84, 16, .iconst 0, 1, (0, 0, 0), 0, []),
  (84, 17, .ireturn, 1, (0, 0, 0), 0, []),
  (84, 18, .aload_n 0, 1, (0, 0, 0), 0, []),
  (84, 19, .iload_n 1, 1, (1, 0, 0), 0, []),
  (84, 20, .invokevirtual 81, 3, (105, 2, 1), 0, [(0, 401)]),
  (84, 23, .ifCond .eq 10, 3, (33, 0, 0), 0, []),
  (84, 26, .iload_n 2, 1, (2, 0, 0), 0, []),
  (84, 27, .invokestatic 125, 3, (106, 1, 1), 0, [(0, 468)]),
  (84, 30, .ifCond .ne 5, 3, (35, 0, 0), 0, []),
  (84, 33, .iconst (-1), 1, (0, 0, 0), (-1), []),
  (84, 34, .ireturn, 1, (0, 0, 0), 0, []),
  (84, 35, .iload 4, 2, (4, 0, 0), 0, []),
  (84, 37, .ifCond .lt 10, 3, (47, 0, 0), 0, []),
  (84, 40, .iload 4, 2, (4, 0, 0), 0, []),
  (84, 42, .bipush 20, 2, (0, 0, 0), 20, []),
  (84, 44, .if_icmp .le 6, 3, (50, 0, 0), 0, []),
  (84, 47, .bipush (-2), 2, (0, 0, 0), (-2), []),
  (84, 49, .ireturn, 1, (0, 0, 0), 0, []),
  (84, 50, .aload_n 0, 1, (0, 0, 0), 0, []),
  (84, 51, .getfield 12, 3, (8, 0, 1), 0, [(0, 355)]),
  (84, 54, .getfield 223, 3, (7, 5, 1), 0, [(0, 200)]),
  (84, 57, .invokevirtual 230, 3, (57, 1, 1), 0, [(0, 738)]),
  (84, 60, .ifCond .eq 6, 3, (66, 0, 0), 0, []),
  (84, 63, .bipush (-4), 2, (0, 0, 0), (-4), []),
  (84, 65, .ireturn, 1, (0, 0, 0), 0, []),
  (84, 66, .aload_n 0, 1, (0, 0, 0), 0, []),
  (84, 67, .getfield 12, 3, (8, 0, 1), 0, [(0, 355)]),
  (84, 70, .getfield 223, 3, (7, 5, 1), 0, [(0, 200)]),
  (84, 73, .iload_n 1, 1, (1, 0, 0), 0, []),
  (84, 74, .iload_n 2, 1, (2, 0, 0), 0, []),
  (84, 75, .iload_n 3, 1, (3, 0, 0), 0, []),
  (84, 76, .ifCond .eq 7, 3, (83, 0, 0), 0, []),
  (84, 79, .iconst 1, 1, (0, 0, 0), 1, []),
  (84, 80, .goto 4, 3, (84, 0, 0), 0, []),
  (84, 83, .iconst 0, 1, (0, 0, 0), 0, []),
  (84, 84, .iload 4, 2, (4, 0, 0), 0, []),
  (84, 86, .invokevirtual 233, 3, (58, 5, 1), 0, [(0, 742)]),
  (84, 89, .ireturn, 1, (0, 0, 0), 0, [])]
def rows_85 : List mRow := [
  (85, 0, .iload_n 1, 1, (1, 0, 0), 0, []),
  (85, 1, .invokestatic 183, 3, (110, 1, 1), 0, [(0, 654)]),
  (85, 4, .ifCond .ne 5, 3, (9, 0, 0), 0, []),
  (85, 7, .iconst (-1), 1, (0, 0, 0), (-1), []),
  (85, 8, .ireturn, 1, (0, 0, 0), 0, []),
  (85, 9, .aload_n 0, 1, (0, 0, 0), 0, []),
  (85, 10, .getfield 50, 3, (8, 7, 1), 0, [(0, 362)]),
  (85, 13, .aload_n 0, 1, (0, 0, 0), 0, []),
  (85, 14, .getfield 12, 3, (8, 0, 1), 0, [(0, 355)]),
  (85, 17, .aload_n 0, 1, (0, 0, 0), 0, []),
  (85, 18, .invokevirtual 85, 3, (112, 1, 3), 0, [(0, 405)]),
  (85, 21, .invokevirtual 237, 3, (21, 3, 0), 0, [(0, 750)]),
  (85, 24, .iconst 0, 1, (0, 0, 0), 0, []),
  (85, 25, .istore_n 2, 1, (2, 0, 0), 0, []),
  (85, 26, .bipush (-5), 2, (0, 0, 0), (-5), []),
  (85, 28, .istore_n 3, 1, (3, 0, 0), 0, []),
  (85, 29, .bipush 60, 2, (0, 0, 0), 60, []),
  (85, 31, .istore 4, 2, (4, 0, 0), 0, []),
  (85, 33, .iload 4, 2, (4, 0, 0), 0, []),
  (85, 35, .ifCond .lt 34, 3, (69, 0, 0), 0, []),
  (85, 38, .aload_n 0, 1, (0, 0, 0), 0, []),
  (85, 39, .getfield 50, 3, (8, 7, 1), 0, [(0, 362)]),
  (85, 42, .aload_n 0, 1, (0, 0, 0), 0, []),
  (85, 43, .getfield 12, 3, (8, 0, 1), 0, [(0, 355)]),
  (85, 46, .getfield 223, 3, (7, 5, 1), 0, [(0, 200)]),
  (85, 49, .iload 4, 2, (4, 0, 0), 0, []),
  (85, 51, .invokevirtual 241, 3, (22, 3, 1), 0, [(0, 759)]),
  (85, 54, .ifCond .eq 9, 3, (63, 0, 0), 0, []),
  (85, 57, .iinc 2 1, 3, (2, 0, 0), 1, []),
  (85, 60, .iload 4, 2, (4, 0, 0), 0, []),
  (85, 62, .istore_n 3, 1, (3, 0, 0), 0, []),
  (85, 63, .iinc 4 (-1), 3, (4, 0, 0), (-1), []),
  (85, 66, .goto (-33), 3, (33, 0, 0), 0, []),
  (85, 69, .iload_n 1, 1, (1, 0, 0), 0, []),
  (85, 70, .ifCond .ne 7, 3, (77, 0, 0), 0, []),
  (85, 73, .iload_n 2, 1, (2, 0, 0), 0, []),
  (85, 74, .goto 4, 3, (78, 0, 0), 0, []),
  (85, 77, .iload_n 3, 1, (3, 0, 0), 0, []),
  (85, 78, .ireturn, 1, (0, 0, 0), 0, [])]
def rows_86 : List mRow := [
  (86, 0, .aload_n 0, 1, (0, 0, 0), 0, []),
  (86, 1, .iload_n 1, 1, (1, 0, 0), 0, []),
  (86, 2, .invokevirtual 81, 3, (105, 2, 1), 0, [(0, 401)]),
  (86, 5, .ifCond .eq 17, 3, (22, 0, 0), 0, []),
  (86, 8, .iload_n 2, 1, (2, 0, 0), 0, []),
  (86, 9, .invokestatic 125, 3, (106, 1, 1), 0, [(0, 468)]),
  (86, 12, .ifCond .eq 10, 3, (22, 0, 0), 0, []),
  (86, 15, .iload_n 3, 1, (3, 0, 0), 0, []),
  (86, 16, .invokestatic 183, 3, (110, 1, 1), 0, [(0, 654)]),
  (86, 19, .ifCond .ne 5, 3, (24, 0, 0), 0, []),
  (86, 22, .iconst (-1), 1, (0, 0, 0), (-1), []),
  (86, 23, .ireturn, 1, (0, 0, 0), 0, []),
  (86, 24, .aload_n 0, 1, (0, 0, 0), 0, []),
  (86, 25, .getfield 12, 3, (8, 0, 1), 0, [(0, 355)]),
  (86, 28, .getfield 71, 3, (7, 0, 1), 0, [(0, 186)]),
  (86, 31, .iload_n 1, 1, (1, 0, 0), 0, []),
  (86, 32, .aaload, 1, (0, 0, 0), 0, []),
  (86, 33, .astore 4, 2, (4, 0, 0), 0, []),
  (86, 35, .aload 4, 2, (4, 0, 0), 0, []),
  (86, 37, .getfield 89, 3, (3, 5, 1), 0, [(0, 165)]),
  (86, 40, .iload_n 2, 1, (2, 0, 0), 0, []),
  (86, 41, .iaload, 1, (0, 0, 0), 0, []),
  (86, 42, .istore 5, 2, (5, 0, 0), 0, []),
  (86, 44, .iconst 0, 1, (0, 0, 0), 0, []),
  (86, 45, .istore 6, 2, (6, 0, 0), 0, []),
  (86, 47, .bipush (-5), 2, (0, 0, 0), (-5), []),
  (86, 49, .istore 7, 2, (7, 0, 0), 0, []),
  (86, 51, .bipush 9, 2, (0, 0, 0), 9, []),
  (86, 53, .istore 8, 2, (8, 0, 0), 0, []),
  (86, 55, .iload 8, 2, (8, 0, 0), 0, []),
  (86, 57, .ifCond .lt 43, 3, (100, 0, 0), 0, []),
  (86, 60, .aload 4, 2, (4, 0, 0), 0, []),
  (86, 62, .getfield 89, 3, (3, 5, 1), 0, [(0, 165)]),
  (86, 65, .iload_n 2, 1, (2, 0, 0), 0, []),
  (86, 66, .iload 8, 2, (8, 0, 0), 0, []),
  (86, 68, .iastore, 1, (0, 0, 0), 0, []),
  (86, 69, .aload_n 0, 1, (0, 0, 0), 0, []),
  (86, 70, .getfield 50, 3, (8, 7, 1), 0, [(0, 362)]),
  (86, 73, .aload_n 0, 1, (0, 0, 0), 0, []),
  (86, 74, .getfield 12, 3, (8, 0, 1), 0, [(0, 355)]),
  (86, 77, .aload_n 0, 1, (0, 0, 0), 0, []),
  (86, 78, .invokevirtual 85, 3, (112, 1, 3), 0, [(0, 405)]),
  (86, 81, .invokevirtual 245, 3, (23, 3, 1), 0, [(0, 767)]),
  (86, 84, .ifCond .eq 10, 3, (94, 0, 0), 0, []),
  (86, 87, .iinc 6 1, 3, (6, 0, 0), 1, []),
  (86, 90, .iload 8, 2, (8, 0, 0), 0, []),
  (86, 92, .istore 7, 2, (7, 0, 0), 0, []),
  (86, 94, .iinc 8 (-1), 3, (8, 0, 0), (-1), []),
  (86, 97, .goto (-42), 3, (55, 0, 0), 0, []),
  (86, 100, .aload 4, 2, (4, 0, 0), 0, []),
  (86, 102, .getfield 89, 3, (3, 5, 1), 0, [(0, 165)]),
  (86, 105, .iload_n 2, 1, (2, 0, 0), 0, []),
  (86, 106, .iload 5, 2, (5, 0, 0), 0, []),
  (86, 108, .iastore, 1, (0, 0, 0), 0, []),
  (86, 109, .iload_n 3, 1, (3, 0, 0), 0, []),
  (86, 110, .ifCond .ne 8, 3, (118, 0, 0), 0, []),
  (86, 113, .iload 6, 2, (6, 0, 0), 0, []),
  (86, 115, .goto 5, 3, (120, 0, 0), 0, []),
  (86, 118, .iload 7, 2, (7, 0, 0), 0, []),
  (86, 120, .ireturn, 1, (0, 0, 0), 0, [])]
def rows_87 : List mRow := [
  (87, 0, .aload_n 0, 1, (0, 0, 0), 0, []),
  (87, 1, .iload_n 1, 1, (1, 0, 0), 0, []),
  (87, 2, .invokevirtual 81, 3, (105, 2, 1), 0, [(0, 401)]),
  (87, 5, .ifCond .eq 10, 3, (15, 0, 0), 0, []),
  (87, 8, .iload_n 2, 1, (2, 0, 0), 0, []),
  (87, 9, .invokestatic 183, 3, (110, 1, 1), 0, [(0, 654)]),
  (87, 12, .ifCond .ne 5, 3, (17, 0, 0), 0, []),
  (87, 15, .iconst (-1), 1, (0, 0, 0), (-1), []),
  (87, 16, .ireturn, 1, (0, 0, 0), 0, []),
  (87, 17, .aload_n 0, 1, (0, 0, 0), 0, []),
  (87, 18, .getfield 12, 3, (8, 0, 1), 0, [(0, 355)]),
  (87, 21, .getfield 71, 3, (7, 0, 1), 0, [(0, 186)]),
  (87, 24, .iload_n 1, 1, (1, 0, 0), 0, []),
  (87, 25, .aaload, 1, (0, 0, 0), 0, []),
  (87, 26, .astore_n 3, 1, (3, 0, 0), 0, []),
  (87, 27, .aload_n 3, 1, (3, 0, 0), 0, []),
  (87, 28, .getfield 106, 3, (3, 2, 0), 0, [(0, 154)]),
  (87, 31, .istore 4, 2, (4, 0, 0), 0, []),
  (87, 33, .iconst 0, 1, (0, 0, 0), 0, []),
  (87, 34, .istore 5, 2, (5, 0, 0), 0, []),
  (87, 36, .bipush (-5), 2, (0, 0, 0), (-5), []),
  (87, 38, .istore 6, 2, (6, 0, 0), 0, []),
  (87, 40, .bipush 9, 2, (0, 0, 0), 9, []),
  (87, 42, .istore 7, 2, (7, 0, 0), 0, []),
  (87, 44, .iload 7, 2, (7, 0, 0), 0, []),
  (87, 46, .ifCond .lt 40, 3, (86, 0, 0), 0, []),
  (87, 49, .aload_n 3, 1, (3, 0, 0), 0, []),
  (87, 50, .iload 7, 2, (7, 0, 0), 0, []),
  (87, 52, .putfield 106, 3, (3, 2, 0), 0, [(0, 154)]),
  (87, 55, .aload_n 0, 1, (0, 0, 0), 0, []),
  (87, 56, .getfield 50, 3, (8, 7, 1), 0, [(0, 362)]),
  (87, 59, .aload_n 0, 1, (0, 0, 0), 0, []),
  (87, 60, .getfield 12, 3, (8, 0, 1), 0, [(0, 355)]),
  (87, 63, .aload_n 0, 1, (0, 0, 0), 0, []),
  (87, 64, .invokevirtual 85, 3, (112, 1, 3), 0, [(0, 405)]),
  (87, 67, .invokevirtual 245, 3, (23, 3, 1), 0, [(0, 767)]),
  (87, 70, .ifCond .eq 10, 3, (80, 0, 0), 0, []),
  (87, 73, .iinc 5 1, 3, (5, 0, 0), 1, []),
  (87, 76, .iload 7, 2, (7, 0, 0), 0, []),
  (87, 78, .istore 6, 2, (6, 0, 0), 0, []),
  (87, 80, .iinc 7 (-1), 3, (7, 0, 0), (-1), []),
  (87, 83, .goto (-39), 3, (44, 0, 0), 0, []),
  (87, 86, .aload_n 3, 1, (3, 0, 0), 0, []),
  (87, 87, .iload 4, 2, (4, 0, 0), 0, []),
  (87, 89, .putfield 106, 3, (3, 2, 0), 0, [(0, 154)]),
  (87, 92, .iload_n 2, 1, (2, 0, 0), 0, []),
  (87, 93, .ifCond .ne 8, 3, (101, 0, 0), 0, []),
  (87, 96, .iload 5, 2, (5, 0, 0), 0, []),
  (87, 98, .goto 5, 3, (103, 0, 0), 0, []),
  (87, 101, .iload 6, 2, (6, 0, 0), 0, []),
  (87, 103, .ireturn, 1, (0, 0, 0), 0, [])]
def rows_88 : List mRow := [
  (88, 0, .aload_n 0, 1, (0, 0, 0), 0, []),
  (88, 1, .iload_n 1, 1, (1, 0, 0), 0, []),
  (88, 2, .invokevirtual 81, 3, (105, 2, 1), 0, [(0, 401)]),
  (88, 5, .ifCond .eq 17, 3, (22, 0, 0), 0, []),
  (88, 8, .iload_n 2, 1, (2, 0, 0), 0, []),
  (88, 9, .invokestatic 125, 3, (106, 1, 1), 0, [(0, 468)]),
  (88, 12, .ifCond .eq 10, 3, (22, 0, 0), 0, []),
  (88, 15, .iload_n 3, 1, (3, 0, 0), 0, []),
  (88, 16, .invokestatic 183, 3, (110, 1, 1), 0, [(0, 654)]),
  (88, 19, .ifCond .ne 7, 3, (26, 0, 0), 0, []),
  (88, 22, .ldc2_w 249, 3, (0, 0, 0), (-9223372036854775808), [(0, 781)]),
  (88, 25, .lreturn, 1, (0, 0, 0), 0, []),
  (88, 26, .aload_n 0, 1, (0, 0, 0), 0, []),
  (88, 27, .invokevirtual 85, 3, (112, 1, 3), 0, [(0, 405)]),
  (88, 30, .astore 4, 2, (4, 0, 0), 0, []),
  (88, 32, .iconst 0, 1, (0, 0, 0), 0, []),
  (88, 33, .istore 5, 2, (5, 0, 0), 0, []),
  (88, 35, .iconst 0, 1, (0, 0, 0), 0, []),
  (88, 36, .istore 6, 2, (6, 0, 0), 0, []),
  (88, 38, .iload 6, 2, (6, 0, 0), 0, []),
  (88, 40, .bipush 24, 2, (0, 0, 0), 24, []),
  (88, 42, .if_icmp .ge 37, 3, (79, 0, 0), 0, []),
  (88, 45, .aload 4, 2, (4, 0, 0), 0, []),
  (88, 47, .aload_n 0, 1, (0, 0, 0), 0, []),
  (88, 48, .getfield 12, 3, (8, 0, 1), 0, [(0, 355)]),
  (88, 51, .getfield 71, 3, (7, 0, 1), 0, [(0, 186)]),
  (88, 54, .iload_n 1, 1, (1, 0, 0), 0, []),
  (88, 55, .aaload, 1, (0, 0, 0), 0, []),
  (88, 56, .iload_n 2, 1, (2, 0, 0), 0, []),
  (88, 57, .iload 6, 2, (6, 0, 0), 0, []),
  (88, 59, .invokevirtual 96, 3, (30, 4, 1), 0, [(0, 409)]),
  (88, 62, .aload 4, 2, (4, 0, 0), 0, []),
  (88, 64, .getfield 156, 3, (2, 0, 0), 0, [(0, 232)]),
  (88, 67, .if_icmp .lt 6, 3, (73, 0, 0), 0, []),
  (88, 70, .iinc 5 1, 3, (5, 0, 0), 1, []),
  (88, 73, .iinc 6 1, 3, (6, 0, 0), 1, []),
  (88, 76, .goto (-38), 3, (38, 0, 0), 0, []),
  (88, 79, .iload 5, 2, (5, 0, 0), 0, []),
  (88, 81, .bipush 24, 2, (0, 0, 0), 24, []),
  (88, 83, .iload_n 3, 1, (3, 0, 0), 0, []),
  (88, 84, .invokestatic 251, 3, (114, 3, 2), 0, [(0, 782)]),
  (88, 87, .lreturn, 1, (0, 0, 0), 0, [])]
def rows_89 : List mRow := [
  (89, 0, .iload_n 1, 1, (1, 0, 0), 0, []),
  (89, 1, .invokestatic 131, 3, (107, 1, 1), 0, [(0, 483)]),
  (89, 4, .ifCond .eq 20, 3, (24, 0, 0), 0, []),
  (89, 7, .iload_n 2, 1, (2, 0, 0), 0, []),
  (89, 8, .invokestatic 183, 3, (110, 1, 1), 0, [(0, 654)]),
  (89, 11, .ifCond .eq 13, 3, (24, 0, 0), 0, []),
  (89, 14, .aload_n 0, 1, (0, 0, 0), 0, []),
  (89, 15, .getfield 12, 3, (8, 0, 1), 0, [(0, 355)]),
  (89, 18, .getfield 68, 3, (7, 1, 0), 0, [(0, 189)]),
  (89, 21, .ifCond .gt 7, 3, (28, 0, 0), 0, []),
  (89, 24, .ldc2_w 249, 3, (0, 0, 0), (-9223372036854775808), [(0, 781)]),
  (89, 27, .lreturn, 1, (0, 0, 0), 0, []),
  (89, 28, .aload_n 0, 1, (0, 0, 0), 0, []),
  (89, 29, .iload_n 1, 1, (1, 0, 0), 0, []),
  (89, 30, .invokevirtual 169, 3, (113, 2, 1), 0, [(0, 615)]),
  (89, 33, .aload_n 0, 1, (0, 0, 0), 0, []),
  (89, 34, .getfield 12, 3, (8, 0, 1), 0, [(0, 355)]),
  (89, 37, .getfield 68, 3, (7, 1, 0), 0, [(0, 189)]),
  (89, 40, .iload_n 2, 1, (2, 0, 0), 0, []),
  (89, 41, .invokestatic 251, 3, (114, 3, 2), 0, [(0, 782)]),
  (89, 44, .lreturn, 1, (0, 0, 0), 0, [])]
def rows_90 : List mRow := [
  (90, 0, .iload_n 1, 1, (1, 0, 0), 0, []),
  (90, 1, .iconst (-1), 1, (0, 0, 0), (-1), []),
  (90, 2, .if_icmp .ne 16, 3, (18, 0, 0), 0, []),
  (90, 5, .aload_n 0, 1, (0, 0, 0), 0, []),
  (90, 6, .getfield 12, 3, (8, 0, 1), 0, [(0, 355)]),
  (90, 9, .getfield 255, 3, (7, 6, 1), 0, [(0, 203)]),
  (90, 12, .iconst 0, 1, (0, 0, 0), 0, []),
  (90, 13, .putfield 227, 3, (5, 2, 0), 0, [(0, 131)]),
  (90, 16, .iconst 0, 1, (0, 0, 0), 0, []),
  (90, 17, .ireturn, 1, (0, 0, 0), 0, []),
  (90, 18, .iload_n 1, 1, (1, 0, 0), 0, []),
  (90, 19, .ifCond .lt 21, 3, (40, 0, 0), 0, []),
  (90, 22, .iload_n 1, 1, (1, 0, 0), 0, []),
  (90, 23, .iconst 4, 1, (0, 0, 0), 4, []),
  (90, 24, .if_icmp .ge 16, 3, (40, 0, 0), 0, []),
  (90, 27, .iload_n 1, 1, (1, 0, 0), 0, []),
  (90, 28, .iconst 2, 1, (0, 0, 0), 2, []),
  (90, 29, .if_icmp .ne 13, 3, (42, 0, 0), 0, []),
  (90, 32, .aload_n 0, 1, (0, 0, 0), 0, []),
  (90, 33, .iload_n 2, 1, (2, 0, 0), 0, []),
  (90, 34, .invokevirtual 81, 3, (105, 2, 1), 0, [(0, 401)]),
  (90, 37, .ifCond .ne 5, 3, (42, 0, 0), 0, []),
  (90, 40, .iconst (-1), 1, (0, 0, 0), (-1), []),
  (90, 41, .ireturn, 1, (0, 0, 0), 0, []),
  (90, 42, .iload_n 1, 1, (1, 0, 0), 0, []),
  (90, 43, .iconst 1, 1, (0, 0, 0), 1, []),
  (90, 44, .if_icmp .ne 13, 3, (57, 0, 0), 0, []),
  (90, 47, .iload_n 2, 1, (2, 0, 0), 0, []),
  (90, 48, .invokestatic 131, 3, (107, 1, 1), 0, [(0, 483)]),
  (90, 51, .ifCond .ne 6, 3, (57, 0, 0), 0, []),
  (90, 54, .bipush (-2), 2, (0, 0, 0), (-2), []),
  (90, 56, .ireturn, 1, (0, 0, 0), 0, []),
  (90, 57, .aload_n 0, 1, (0, 0, 0), 0, []),
  (90, 58, .getfield 12, 3, (8, 0, 1), 0, [(0, 355)]),
  (90, 61, .getfield 255, 3, (7, 6, 1), 0, [(0, 203)]),
  (90, 64, .invokevirtual 230, 3, (57, 1, 1), 0, [(0, 738)]),
  (90, 67, .ifCond .eq 6, 3, (73, 0, 0), 0, []),
  (90, 70, .bipush (-4), 2, (0, 0, 0), (-4), []),
  (90, 72, .ireturn, 1, (0, 0, 0), 0, []),
  (90, 73, .aload_n 0, 1, (0, 0, 0), 0, []),
  (90, 74, .getfield 12, 3, (8, 0, 1), 0, [(0, 355)]),
  (90, 77, .getfield 255, 3, (7, 6, 1), 0, [(0, 203)]),
  (90, 80, .iload_n 1, 1, (1, 0, 0), 0, []),
  (90, 81, .iload_n 2, 1, (2, 0, 0), 0, []),
  (90, 82, .iconst 0, 1, (0, 0, 0), 0, []),
  (90, 83, .iconst 0, 1, (0, 0, 0), 0, []),
  (90, 84, .invokevirtual 233, 3, (58, 5, 1), 0, [(0, 742)]),
  (90, 87, .ireturn, 1, (0, 0, 0), 0, [])]
def rows_91 : List mRow := [
  (91, 0, .iload_n 1, 1, (1, 0, 0), 0, []),
  (91, 1, .invokestatic 183, 3, (110, 1, 1), 0, [(0, 654)]),
  (91, 4, .ifCond .ne 5, 3, (9, 0, 0), 0, []),
  (91, 7, .iconst (-1), 1, (0, 0, 0), (-1), []),
  (91, 8, .ireturn, 1, (0, 0, 0), 0, []),
  (91, 9, .aload_n 0, 1, (0, 0, 0), 0, []),
  (91, 10, .invokevirtual 85, 3, (112, 1, 3), 0, [(0, 405)]),
  (91, 13, .astore_n 2, 1, (2, 0, 0), 0, []),
  (91, 14, .iconst 0, 1, (0, 0, 0), 0, []),
  (91, 15, .istore_n 3, 1, (3, 0, 0), 0, []),
  (91, 16, .iconst 0, 1, (0, 0, 0), 0, []),
  (91, 17, .istore 4, 2, (4, 0, 0), 0, []),
  (91, 19, .iload 4, 2, (4, 0, 0), 0, []),
  (91, 21, .aload_n 0, 1, (0, 0, 0), 0, []),
  (91, 22, .getfield 12, 3, (8, 0, 1), 0, [(0, 355)]),
  (91, 25, .getfield 68, 3, (7, 1, 0), 0, [(0, 189)]),
  (91, 28, .if_icmp .ge 87, 3, (115, 0, 0), 0, []),
  (91, 31, .aload_n 0, 1, (0, 0, 0), 0, []),
  (91, 32, .getfield 50, 3, (8, 7, 1), 0, [(0, 362)]),
  (91, 35, .aload_n 0, 1, (0, 0, 0), 0, []),
  (91, 36, .getfield 12, 3, (8, 0, 1), 0, [(0, 355)]),
  (91, 39, .aload_n 0, 1, (0, 0, 0), 0, []),
  (91, 40, .getfield 12, 3, (8, 0, 1), 0, [(0, 355)]),
  (91, 43, .getfield 71, 3, (7, 0, 1), 0, [(0, 186)]),
  (91, 46, .iload 4, 2, (4, 0, 0), 0, []),
  (91, 48, .aaload, 1, (0, 0, 0), 0, []),
  (91, 49, .invokevirtual 258, 3, (24, 3, 1), 0, [(0, 797)]),
  (91, 52, .istore 5, 2, (5, 0, 0), 0, []),
  (91, 54, .iload_n 1, 1, (1, 0, 0), 0, []),
  (91, 55, .ifCond .ne 22, 3, (77, 0, 0), 0, []),
  (91, 58, .iload_n 3, 1, (3, 0, 0), 0, []),
  (91, 59, .aload_n 2, 1, (2, 0, 0), 0, []),
  (91, 60, .aload_n 0, 1, (0, 0, 0), 0, []),
  (91, 61, .getfield 50, 3, (8, 7, 1), 0, [(0, 362)]),
  (91, 64, .getfield 262, 3, (1, 0, 1), 0, [(0, 299)]),
  (91, 67, .iload 5, 2, (5, 0, 0), 0, []),
  (91, 69, .invokevirtual 115, 3, (36, 3, 1), 0, [(0, 444)]),
  (91, 72, .iadd, 1, (0, 0, 0), 0, []),
  (91, 73, .istore_n 3, 1, (3, 0, 0), 0, []),
  (91, 74, .goto 35, 3, (109, 0, 0), 0, []),
  (91, 77, .aload_n 0, 1, (0, 0, 0), 0, []),
  (91, 78, .getfield 50, 3, (8, 7, 1), 0, [(0, 362)]),
  (91, 81, .getfield 262, 3, (1, 0, 1), 0, [(0, 299)]),
  (91, 84, .getfield 112, 3, (3, 4, 0), 0, [(0, 161)]),
  (91, 87, .ifCond .ne 22, 3, (109, 0, 0), 0, []),
  (91, 90, .iload_n 3, 1, (3, 0, 0), 0, []),
  (91, 91, .aload_n 2, 1, (2, 0, 0), 0, []),
  (91, 92, .aload_n 0, 1, (0, 0, 0), 0, []),
  (91, 93, .getfield 50, 3, (8, 7, 1), 0, [(0, 362)]),
  (91, 96, .getfield 262, 3, (1, 0, 1), 0, [(0, 299)]),
  (91, 99, .iload 5, 2, (5, 0, 0), 0, []),
  (91, 101, .invokevirtual 119, 3, (37, 3, 1), 0, [(0, 459)]),
  (91, 104, .invokestatic 266, 3, (220, 1, 1), 0, [(0, 801)]),
  (91, 107, .iadd, 1, (0, 0, 0), 0, []),
  (91, 108, .istore_n 3, 1, (3, 0, 0), 0, []),
  (91, 109, .iinc 4 1, 3, (4, 0, 0), 1, []),
  (91, 112, .goto (-93), 3, (19, 0, 0), 0, []),
  (91, 115, .iload_n 3, 1, (3, 0, 0), 0, []),
  (91, 116, .ireturn, 1, (0, 0, 0), 0, [])]
def rows_92 : List mRow := [
  (92, 0, .iload_n 1, 1, (1, 0, 0), 0, []),
  (92, 1, .iconst (-1), 1, (0, 0, 0), (-1), []),
  (92, 2, .if_icmp .ne 16, 3, (18, 0, 0), 0, []),
  (92, 5, .aload_n 0, 1, (0, 0, 0), 0, []),
  (92, 6, .getfield 12, 3, (8, 0, 1), 0, [(0, 355)]),
  (92, 9, .getfield 271, 3, (7, 7, 1), 0, [(0, 205)]),
  (92, 12, .iconst 0, 1, (0, 0, 0), 0, []),
  (92, 13, .putfield 227, 3, (5, 2, 0), 0, [(0, 131)]),
  (92, 16, .iconst 0, 1, (0, 0, 0), 0, []),
  (92, 17, .ireturn, 1, (0, 0, 0), 0, []),
  (92, 18, .aload_n 0, 1, (0, 0, 0), 0, []),
  (92, 19, .iload_n 1, 1, (1, 0, 0), 0, []),
  (92, 20, .invokevirtual 81, 3, (105, 2, 1), 0, [(0, 401)]),
  (92, 23, .ifCond .ne 5, 3, (28, 0, 0), 0, []),
  (92, 26, .iconst (-1), 1, (0, 0, 0), (-1), []),
  (92, 27, .ireturn, 1, (0, 0, 0), 0, []),
  (92, 28, .iload_n 2, 1, (2, 0, 0), 0, []),
  (92, 29, .ifCond .lt 10, 3, (39, 0, 0), 0, []),
  (92, 32, .iload_n 2, 1, (2, 0, 0), 0, []),
  (92, 33, .sipush 999, 3, (0, 0, 0), 999, []),
  (92, 36, .if_icmp .le 6, 3, (42, 0, 0), 0, []),
  (92, 39, .bipush (-2), 2, (0, 0, 0), (-2), []),
  (92, 41, .ireturn, 1, (0, 0, 0), 0, []),
  (92, 42, .aload_n 0, 1, (0, 0, 0), 0, []),
  (92, 43, .getfield 12, 3, (8, 0, 1), 0, [(0, 355)]),
  (92, 46, .getfield 271, 3, (7, 7, 1), 0, [(0, 205)]),
  (92, 49, .invokevirtual 230, 3, (57, 1, 1), 0, [(0, 738)]),
  (92, 52, .ifCond .eq 6, 3, (58, 0, 0), 0, []),
  (92, 55, .bipush (-4), 2, (0, 0, 0), (-4), []),
  (92, 57, .ireturn, 1, (0, 0, 0), 0, []),
  (92, 58, .aload_n 0, 1, (0, 0, 0), 0, []),
  (92, 59, .getfield 12, 3, (8, 0, 1), 0, [(0, 355)]),
  (92, 62, .getfield 271, 3, (7, 7, 1), 0, [(0, 205)]),
  (92, 65, .iload_n 1, 1, (1, 0, 0), 0, []),
  (92, 66, .iload_n 2, 1, (2, 0, 0), 0, []),
  (92, 67, .iconst 0, 1, (0, 0, 0), 0, []),
  (92, 68, .iconst 0, 1, (0, 0, 0), 0, []),
  (92, 69, .invokevirtual 233, 3, (58, 5, 1), 0, [(0, 742)]),
  (92, 72, .ireturn, 1, (0, 0, 0), 0, [])]
def rows_93 : List mRow := [
  (93, 0, .iconst 0, 1, (0, 0, 0), 0, []),
  (93, 1, .istore_n 1, 1, (1, 0, 0), 0, []),
  (93, 2, .iload_n 1, 1, (1, 0, 0), 0, []),
  (93, 3, .aload_n 0, 1, (0, 0, 0), 0, []),
  (93, 4, .getfield 12, 3, (8, 0, 1), 0, [(0, 355)]),
  (93, 7, .getfield 271, 3, (7, 7, 1), 0, [(0, 205)]),
  (93, 10, .getfield 227, 3, (5, 2, 0), 0, [(0, 131)]),
  (93, 13, .if_icmp .ge 70, 3, (83, 0, 0), 0, []),
  (93, 16, .aload_n 0, 1, (0, 0, 0), 0, []),
  (93, 17, .getfield 12, 3, (8, 0, 1), 0, [(0, 355)]),
  (93, 20, .getfield 271, 3, (7, 7, 1), 0, [(0, 205)]),
  (93, 23, .iload_n 1, 1, (1, 0, 0), 0, []),
  (93, 24, .iconst 0, 1, (0, 0, 0), 0, []),
  (93, 25, .invokevirtual 274, 3, (59, 3, 1), 0, [(0, 810)]),
  (93, 28, .istore_n 2, 1, (2, 0, 0), 0, []),
  (93, 29, .aload_n 0, 1, (0, 0, 0), 0, []),
  (93, 30, .iload_n 2, 1, (2, 0, 0), 0, []),
  (93, 31, .invokevirtual 81, 3, (105, 2, 1), 0, [(0, 401)]),
  (93, 34, .ifCond .eq 43, 3, (77, 0, 0), 0, []),
  (93, 37, .aload_n 0, 1, (0, 0, 0), 0, []),
  (93, 38, .invokevirtual 85, 3, (112, 1, 3), 0, [(0, 405)]),
  (93, 41, .aload_n 0, 1, (0, 0, 0), 0, []),
  (93, 42, .getfield 12, 3, (8, 0, 1), 0, [(0, 355)]),
  (93, 45, .getfield 71, 3, (7, 0, 1), 0, [(0, 186)]),
  (93, 48, .iload_n 2, 1, (2, 0, 0), 0, []),
  (93, 49, .aaload, 1, (0, 0, 0), 0, []),
  (93, 50, .aload_n 0, 1, (0, 0, 0), 0, []),
  (93, 51, .getfield 12, 3, (8, 0, 1), 0, [(0, 355)]),
  (93, 54, .getfield 93, 3, (7, 2, 0), 0, [(0, 192)]),
  (93, 57, .invokevirtual 115, 3, (36, 3, 1), 0, [(0, 444)]),
  (93, 60, .aload_n 0, 1, (0, 0, 0), 0, []),
  (93, 61, .getfield 12, 3, (8, 0, 1), 0, [(0, 355)]),
  (93, 64, .getfield 271, 3, (7, 7, 1), 0, [(0, 205)]),
  (93, 67, .iload_n 1, 1, (1, 0, 0), 0, []),
  (93, 68, .iconst 1, 1, (0, 0, 0), 1, []),
  (93, 69, .invokevirtual 274, 3, (59, 3, 1), 0, [(0, 810)]),
  (93, 72, .if_icmp .eq 5, 3, (77, 0, 0), 0, []),
  (93, 75, .iload_n 1, 1, (1, 0, 0), 0, []),
  (93, 76, .ireturn, 1, (0, 0, 0), 0, []),
  (93, 77, .iinc 1 1, 3, (1, 0, 0), 1, []),
  (93, 80, .goto (-78), 3, (2, 0, 0), 0, []),
  (93, 83, .bipush (-5), 2, (0, 0, 0), (-5), []),
  (93, 85, .ireturn, 1, (0, 0, 0), 0, [])]
def rows_94 : List mRow := [
  (94, 0, .iload_n 1, 1, (1, 0, 0), 0, []),
  (94, 1, .invokestatic 277, 3, (109, 1, 1), 0, [(0, 815)]),
  (94, 4, .ifCond .ne 5, 3, (9, 0, 0), 0, []),
  (94, 7, .iconst (-1), 1, (0, 0, 0), (-1), []),
  (94, 8, .ireturn, 1, (0, 0, 0), 0, []),
  (94, 9, .aload_n 0, 1, (0, 0, 0), 0, []),
  (94, 10, .getfield 63, 3, (8, 9, 1), 0, [(0, 364)]),
  (94, 13, .iload_n 1, 1, (1, 0, 0), 0, []),
  (94, 14, .aaload, 1, (0, 0, 0), 0, []),
  (94, 15, .astore_n 3, 1, (3, 0, 0), 0, []),
  (94, 16, .aload_n 3, 1, (3, 0, 0), 0, []),
  (94, 17, .getfield 280, 3, (6, 0, 0), 0, [(0, 342)]),
  (94, 20, .iconst (-1), 1, (0, 0, 0), (-1), []),
  (94, 21, .if_icmp .eq 14, 3, (35, 0, 0), 0, []),
  (94, 24, .aload_n 3, 1, (3, 0, 0), 0, []),
  (94, 25, .getfield 280, 3, (6, 0, 0), 0, [(0, 342)]),
  (94, 28, .iconst 2, 1, (0, 0, 0), 2, []),
  (94, 29, .if_icmp .eq 6, 3, (35, 0, 0), 0, []),
  (94, 32, .bipush (-12), 2, (0, 0, 0), (-12), []),
  (94, 34, .ireturn, 1, (0, 0, 0), 0, []),
  (94, 35, .iconst 0, 1, (0, 0, 0), 0, []),
  (94, 36, .istore 4, 2, (4, 0, 0), 0, []),
  (94, 38, .iload 4, 2, (4, 0, 0), 0, []),
  (94, 40, .aload_n 0, 1, (0, 0, 0), 0, []),
  (94, 41, .getfield 12, 3, (8, 0, 1), 0, [(0, 355)]),
  (94, 44, .getfield 68, 3, (7, 1, 0), 0, [(0, 189)]),
  (94, 47, .if_icmp .ge 71, 3, (118, 0, 0), 0, []),
  (94, 50, .iload_n 2, 1, (2, 0, 0), 0, []),
  (94, 51, .ifCond .lt 14, 3, (65, 0, 0), 0, []),
  (94, 54, .iload 4, 2, (4, 0, 0), 0, []),
  (94, 56, .aload_n 3, 1, (3, 0, 0), 0, []),
  (94, 57, .getfield 283, 3, (6, 1, 0), 0, [(0, 344)]),
  (94, 60, .iload_n 2, 1, (2, 0, 0), 0, []),
  (94, 61, .isub, 1, (0, 0, 0), 0, []),
  (94, 62, .if_icmp .lt 9, 3, (71, 0, 0), 0, []),
  (94, 65, .bipush 100, 2, (0, 0, 0), 100, []),
  (94, 67, .iload 4, 2, (4, 0, 0), 0, []),
  (94, 69, .iadd, 1, (0, 0, 0), 0, []),
  (94, 70, .ireturn, 1, (0, 0, 0), 0, []),
  (94, 71, .aload_n 3, 1, (3, 0, 0), 0, []),
  (94, 72, .getfield 284, 3, (6, 2, 1), 0, [(0, 346)]),
  (94, 75, .iload_n 2, 1, (2, 0, 0), 0, []),
  (94, 76, .iload 4, 2, (4, 0, 0), 0, []),
  (94, 78, .iadd, 1, (0, 0, 0), 0, []),
  (94, 79, .laload, 1, (0, 0, 0), 0, []),
  (94, 80, .aload_n 0, 1, (0, 0, 0), 0, []),
  (94, 81, .invokevirtual 85, 3, (112, 1, 3), 0, [(0, 405)]),
  (94, 84, .aload_n 0, 1, (0, 0, 0), 0, []),
  (94, 85, .getfield 12, 3, (8, 0, 1), 0, [(0, 355)]),
  (94, 88, .getfield 71, 3, (7, 0, 1), 0, [(0, 186)]),
  (94, 91, .iload 4, 2, (4, 0, 0), 0, []),
  (94, 93, .aaload, 1, (0, 0, 0), 0, []),
  (94, 94, .aload_n 0, 1, (0, 0, 0), 0, []),
  (94, 95, .getfield 12, 3, (8, 0, 1), 0, [(0, 355)]),
  (94, 98, .getfield 93, 3, (7, 2, 0), 0, [(0, 192)]),
  (94, 101, .invokevirtual 115, 3, (36, 3, 1), 0, [(0, 444)]),
  (94, 104, .i2l, 1, (0, 0, 0), 0, []),
  (94, 105, .lcmp, 1, (0, 0, 0), 0, []),
  (94, 106, .ifCond .eq 6, 3, (112, 0, 0), 0, []),
  (94, 109, .iload 4, 2, (4, 0, 0), 0, []),
  (94, 111, .ireturn, 1, (0, 0, 0), 0, []),
  (94, 112, .iinc 4 1, 3, (4, 0, 0), 1, []),
  (94, 115, .goto (-77), 3, (38, 0, 0), 0, []),
  (94, 118, .bipush (-5), 2, (0, 0, 0), (-5), []),
  (94, 120, .ireturn, 1, (0, 0, 0), 0, [])]
def rows_95 : List mRow := [
  (95, 0, .aload_n 0, 1, (0, 0, 0), 0, []),
  (95, 1, .getfield 18, 3, (8, 1, 1), 0, [(0, 356)]),
  (95, 4, .aload_n 0, 1, (0, 0, 0), 0, []),
  (95, 5, .getfield 12, 3, (8, 0, 1), 0, [(0, 355)]),
  (95, 8, .invokevirtual 288, 3, (65, 2, 0), 0, [(0, 822)]),
  (95, 11, .aload_n 0, 1, (0, 0, 0), 0, []),
  (95, 12, .iconst 1, 1, (0, 0, 0), 1, []),
  (95, 13, .putfield 21, 3, (8, 2, 2), 0, [(0, 357)]),
  (95, 16, .aload_n 0, 1, (0, 0, 0), 0, []),
  (95, 17, .getfield 12, 3, (8, 0, 1), 0, [(0, 355)]),
  (95, 20, .getfield 68, 3, (7, 1, 0), 0, [(0, 189)]),
  (95, 23, .ireturn, 1, (0, 0, 0), 0, [])]
def rows_96 : List mRow := [
  (96, 0, .aload_n 0, 1, (0, 0, 0), 0, []),
  (96, 1, .getfield 21, 3, (8, 2, 0), 0, [(0, 357)]),
  (96, 4, .ifCond .ne 6, 3, (10, 0, 0), 0, []),
  (96, 7, .bipush (-3), 2, (0, 0, 0), (-3), []),
  (96, 9, .ireturn, 1, (0, 0, 0), 0, []),
  (96, 10, .aload_n 0, 1, (0, 0, 0), 0, []),
  (96, 11, .getfield 12, 3, (8, 0, 1), 0, [(0, 355)]),
  (96, 14, .aload_n 0, 1, (0, 0, 0), 0, []),
  (96, 15, .getfield 18, 3, (8, 1, 1), 0, [(0, 356)]),
  (96, 18, .invokevirtual 288, 3, (65, 2, 0), 0, [(0, 822)]),
  (96, 21, .aload_n 0, 1, (0, 0, 0), 0, []),
  (96, 22, .getfield 12, 3, (8, 0, 1), 0, [(0, 355)]),
  (96, 25, .getfield 68, 3, (7, 1, 0), 0, [(0, 189)]),
  (96, 28, .ireturn, 1, (0, 0, 0), 0, [])]
def rows_97 : List mRow := [
  (97, 0, .aload_n 0, 1, (0, 0, 0), 0, []),
  (97, 1, .getfield 57, 3, (8, 8, 1), 0, [(0, 363)]),
  (97, 4, .invokevirtual 292, 3, (1, 1, 0), 0, [(0, 841)]),
  (97, 7, .aload_n 0, 1, (0, 0, 0), 0, []),
  (97, 8, .iload_n 1, 1, (1, 0, 0), 0, []),
  (97, 9, .invokevirtual 81, 3, (105, 2, 1), 0, [(0, 401)]),
  (97, 12, .ifCond .eq 12, 3, (24, 0, 0), 0, []),
  (97, 15, .iload_n 2, 1, (2, 0, 0), 0, []),
  (97, 16, .ifCond .lt 8, 3, (24, 0, 0), 0, []),
  (97, 19, .iload_n 2, 1, (2, 0, 0), 0, []),
  (97, 20, .iconst 3, 1, (0, 0, 0), 3, []),
  (97, 21, .if_icmp .lt 5, 3, (26, 0, 0), 0, []),
  (97, 24, .iconst 0, 1, (0, 0, 0), 0, []),
  (97, 25, .ireturn, 1, (0, 0, 0), 0, []),
  (97, 26, .aload_n 0, 1, (0, 0, 0), 0, []),
  (97, 27, .getfield 57, 3, (8, 8, 1), 0, [(0, 363)]),
  (97, 30, .aload_n 0, 1, (0, 0, 0), 0, []),
  (97, 31, .getfield 12, 3, (8, 0, 1), 0, [(0, 355)]),
  (97, 34, .getfield 71, 3, (7, 0, 1), 0, [(0, 186)]),
  (97, 37, .iload_n 1, 1, (1, 0, 0), 0, []),
  (97, 38, .aaload, 1, (0, 0, 0), 0, []),
  (97, 39, .iload_n 2, 1, (2, 0, 0), 0, []),
  (97, 40, .iload_n 3, 1, (3, 0, 0), 0, []),
  (97, 41, .invokevirtual 295, 3, (2, 4, 1), 0, [(0, 845)]),
  (97, 44, .ireturn, 1, (0, 0, 0), 0, [])]
def rows_98 : List mRow := [
  (98, 0, .iload_n 1, 1, (1, 0, 0), 0, []),
  (98, 1, .ifCond .lt 20, 3, (21, 0, 0), 0, []),
  (98, 4, .iload_n 1, 1, (1, 0, 0), 0, []),
  (98, 5, .aload_n 0, 1, (0, 0, 0), 0, []),
  (98, 6, .getfield 57, 3, (8, 8, 1), 0, [(0, 363)]),
  (98, 9, .getfield 297, 3, (0, 1, 0), 0, [(0, 328)]),
  (98, 12, .if_icmp .ge 9, 3, (21, 0, 0), 0, []),
  (98, 15, .iload_n 1, 1, (1, 0, 0), 0, []),
  (98, 16, .bipush 20, 2, (0, 0, 0), 20, []),
  (98, 18, .if_icmp .lt 5, 3, (23, 0, 0), 0, []),
  (98, 21, .iconst (-1), 1, (0, 0, 0), (-1), []),
  (98, 22, .ireturn, 1, (0, 0, 0), 0, []),
  (98, 23, .aload_n 0, 1, (0, 0, 0), 0, []),
  (98, 24, .getfield 57, 3, (8, 8, 1), 0, [(0, 363)]),
  (98, 27, .getfield 300, 3, (0, 0, 1), 0, [(0, 326)]),
  (98, 30, .iload_n 1, 1, (1, 0, 0), 0, []),
  (98, 31, .iaload, 1, (0, 0, 0), 0, []),
  (98, 32, .ireturn, 1, (0, 0, 0), 0, [])]
def rows_99 : List mRow := [
  (99, 0, .iload_n 2, 1, (2, 0, 0), 0, []),
  (99, 1, .ifCond .lt 9, 3, (10, 0, 0), 0, []),
  (99, 4, .iload_n 2, 1, (2, 0, 0), 0, []),
  (99, 5, .bipush 7, 2, (0, 0, 0), 7, []),
  (99, 7, .if_icmp .lt 6, 3, (13, 0, 0), 0, []),
  (99, 10, .bipush (-2), 2, (0, 0, 0), (-2), []),
  (99, 12, .ireturn, 1, (0, 0, 0), 0, []),
  (99, 13, .aload_n 0, 1, (0, 0, 0), 0, []),
  (99, 14, .iload_n 1, 1, (1, 0, 0), 0, []),
  (99, 15, .invokevirtual 81, 3, (105, 2, 1), 0, [(0, 401)]),
  (99, 18, .ifCond .ne 6, 3, (24, 0, 0), 0, []),
  (99, 21, .bipush (-11), 2, (0, 0, 0), (-11), []),
  (99, 23, .ireturn, 1, (0, 0, 0), 0, []),
  (99, 24, .aload_n 0, 1, (0, 0, 0), 0, []),
  (99, 25, .getfield 12, 3, (8, 0, 1), 0, [(0, 355)]),
  (99, 28, .getfield 71, 3, (7, 0, 1), 0, [(0, 186)]),
  (99, 31, .iload_n 1, 1, (1, 0, 0), 0, []),
  (99, 32, .aaload, 1, (0, 0, 0), 0, []),
  (99, 33, .getfield 103, 3, (3, 1, 0), 0, [(0, 151)]),
  (99, 36, .istore_n 3, 1, (3, 0, 0), 0, []),
  (99, 37, .iload_n 3, 1, (3, 0, 0), 0, []),
  (99, 38, .iload_n 2, 1, (2, 0, 0), 0, []),
  (99, 39, .invokestatic 303, 3, (111, 2, 1), 0, [(0, 869)]),
  (99, 42, .ifCond .eq 7, 3, (49, 0, 0), 0, []),
  (99, 45, .iload_n 3, 1, (3, 0, 0), 0, []),
  (99, 46, .goto 5, 3, (51, 0, 0), 0, []),
  (99, 49, .bipush (-12), 2, (0, 0, 0), (-12), []),
  (99, 51, .ireturn, 1, (0, 0, 0), 0, [])]
def rows_100 : List mRow := [
  (100, 0, .iload_n 1, 1, (1, 0, 0), 0, []),
  (100, 1, .tableswitch 105 0 6 #[43, 51, 56, 67, 78, 89, 97], 43, (106, 0, 0), 0, [(0, 44), (1, 52), (2, 57), (3, 68), (4, 79), (5, 90), (6, 98)]),
  (100, 44, .aload_n 0, 1, (0, 0, 0), 0, []),
  (100, 45, .getfield 12, 3, (8, 0, 1), 0, [(0, 355)]),
  (100, 48, .getfield 68, 3, (7, 1, 0), 0, [(0, 189)]),
  (100, 51, .ireturn, 1, (0, 0, 0), 0, []),
  (100, 52, .aload_n 0, 1, (0, 0, 0), 0, []),
  (100, 53, .getfield 36, 3, (8, 5, 0), 0, [(0, 360)]),
  (100, 56, .ireturn, 1, (0, 0, 0), 0, []),
  (100, 57, .aload_n 0, 1, (0, 0, 0), 0, []),
  (100, 58, .getfield 12, 3, (8, 0, 1), 0, [(0, 355)]),
  (100, 61, .getfield 223, 3, (7, 5, 1), 0, [(0, 200)]),
  (100, 64, .getfield 227, 3, (5, 2, 0), 0, [(0, 131)]),
  (100, 67, .ireturn, 1, (0, 0, 0), 0, []),
  (100, 68, .aload_n 0, 1, (0, 0, 0), 0, []),
  (100, 69, .getfield 12, 3, (8, 0, 1), 0, [(0, 355)]),
  (100, 72, .getfield 255, 3, (7, 6, 1), 0, [(0, 203)]),
  (100, 75, .getfield 227, 3, (5, 2, 0), 0, [(0, 131)]),
  (100, 78, .ireturn, 1, (0, 0, 0), 0, []),
  (100, 79, .aload_n 0, 1, (0, 0, 0), 0, []),
  (100, 80, .getfield 12, 3, (8, 0, 1), 0, [(0, 355)]),
  (100, 83, .getfield 271, 3, (7, 7, 1), 0, [(0, 205)]),
  (100, 86, .getfield 227, 3, (5, 2, 0), 0, [(0, 131)]),
  (100, 89, .ireturn, 1, (0, 0, 0), 0, []),
  (100, 90, .aload_n 0, 1, (0, 0, 0), 0, []),
  (100, 91, .getfield 43, 3, (8, 6, 1), 0, [(0, 361)]),
  (100, 94, .getfield 134, 3, (4, 1, 0), 0, [(0, 274)]),
  (100, 97, .ireturn, 1, (0, 0, 0), 0, []),
  (100, 98, .aload_n 0, 1, (0, 0, 0), 0, []),
  (100, 99, .getfield 57, 3, (8, 8, 1), 0, [(0, 363)]),
  (100, 102, .getfield 297, 3, (0, 1, 0), 0, [(0, 328)]),
  (100, 105, .ireturn, 1, (0, 0, 0), 0, []),
  (100, 106, .bipush (-2), 2, (0, 0, 0), (-2), []),
  (100, 108, .ireturn, 1, (0, 0, 0), 0, [])]
def rows_101 : List mRow := [
  (101, 0, .iload_n 1, 1, (1, 0, 0), 0, []),
  (101, 1, .invokestatic 277, 3, (109, 1, 1), 0, [(0, 815)]),
  (101, 4, .ifCond .ne 5, 3, (9, 0, 0), 0, []),
  (101, 7, .iconst (-1), 1, (0, 0, 0), (-1), []),
  (101, 8, .ireturn, 1, (0, 0, 0), 0, []),
  (101, 9, .iload_n 2, 1, (2, 0, 0), 0, []),
  (101, 10, .iconst (-1), 1, (0, 0, 0), (-1), []),
  (101, 11, .if_icmp .ne 16, 3, (27, 0, 0), 0, []),
  (101, 14, .aload_n 0, 1, (0, 0, 0), 0, []),
  (101, 15, .getfield 63, 3, (8, 9, 1), 0, [(0, 364)]),
  (101, 18, .iload_n 1, 1, (1, 0, 0), 0, []),
  (101, 19, .aaload, 1, (0, 0, 0), 0, []),
  (101, 20, .iconst (-1), 1, (0, 0, 0), (-1), []),
  (101, 21, .iconst 0, 1, (0, 0, 0), 0, []),
  (101, 22, .invokevirtual 307, 3, (62, 3, 0), 0, [(0, 881)]),
  (101, 25, .iconst 1, 1, (0, 0, 0), 1, []),
  (101, 26, .ireturn, 1, (0, 0, 0), 0, []),
  (101, 27, .iload_n 2, 1, (2, 0, 0), 0, []),
  (101, 28, .ifCond .lt 14, 3, (42, 0, 0), 0, []),
  (101, 31, .iload_n 2, 1, (2, 0, 0), 0, []),
  (101, 32, .iconst 5, 1, (0, 0, 0), 5, []),
  (101, 33, .if_icmp .ge 9, 3, (42, 0, 0), 0, []),
  (101, 36, .iload_n 3, 1, (3, 0, 0), 0, []),
  (101, 37, .bipush 60, 2, (0, 0, 0), 60, []),
  (101, 39, .if_icmp .le 6, 3, (45, 0, 0), 0, []),
  (101, 42, .bipush (-2), 2, (0, 0, 0), (-2), []),
  (101, 44, .ireturn, 1, (0, 0, 0), 0, []),
  (101, 45, .iload_n 3, 1, (3, 0, 0), 0, []),
  (101, 46, .ifCond .ge 6, 3, (52, 0, 0), 0, []),
  (101, 49, .bipush (-14), 2, (0, 0, 0), (-14), []),
  (101, 51, .ireturn, 1, (0, 0, 0), 0, []),
  (101, 52, .aload_n 0, 1, (0, 0, 0), 0, []),
  (101, 53, .getfield 63, 3, (8, 9, 1), 0, [(0, 364)]),
  (101, 56, .iload_n 1, 1, (1, 0, 0), 0, []),
  (101, 57, .aaload, 1, (0, 0, 0), 0, []),
  (101, 58, .iload_n 2, 1, (2, 0, 0), 0, []),
  (101, 59, .iload_n 3, 1, (3, 0, 0), 0, []),
  (101, 60, .invokevirtual 307, 3, (62, 3, 0), 0, [(0, 881)]),
  (101, 63, .iconst 1, 1, (0, 0, 0), 1, []),
  (101, 64, .ireturn, 1, (0, 0, 0), 0, [])]
def rows_102 : List mRow := [
  (102, 0, .iload_n 1, 1, (1, 0, 0), 0, []),
  (102, 1, .invokestatic 277, 3, (109, 1, 1), 0, [(0, 815)]),
  (102, 4, .ifCond .ne 5, 3, (9, 0, 0), 0, []),
  (102, 7, .iconst (-1), 1, (0, 0, 0), (-1), []),
  (102, 8, .ireturn, 1, (0, 0, 0), 0, []),
  (102, 9, .aload_n 0, 1, (0, 0, 0), 0, []),
  (102, 10, .getfield 63, 3, (8, 9, 1), 0, [(0, 364)]),
  (102, 13, .iload_n 1, 1, (1, 0, 0), 0, []),
  (102, 14, .aaload, 1, (0, 0, 0), 0, []),
  (102, 15, .astore 5, 2, (5, 0, 0), 0, []),
  (102, 17, .aload 5, 2, (5, 0, 0), 0, []),
  (102, 19, .getfield 280, 3, (6, 0, 0), 0, [(0, 342)]),
  (102, 22, .iconst (-1), 1, (0, 0, 0), (-1), []),
  (102, 23, .if_icmp .ne 6, 3, (29, 0, 0), 0, []),
  (102, 26, .bipush (-11), 2, (0, 0, 0), (-11), []),
  (102, 28, .ireturn, 1, (0, 0, 0), 0, []),
  (102, 29, .iload_n 2, 1, (2, 0, 0), 0, []),
  (102, 30, .ifCond .lt 12, 3, (42, 0, 0), 0, []),
  (102, 33, .iload_n 2, 1, (2, 0, 0), 0, []),
  (102, 34, .aload 5, 2, (5, 0, 0), 0, []),
  (102, 36, .getfield 283, 3, (6, 1, 0), 0, [(0, 344)]),
  (102, 39, .if_icmp .lt 6, 3, (45, 0, 0), 0, []),
  (102, 42, .bipush (-13), 2, (0, 0, 0), (-13), []),
  (102, 44, .ireturn, 1, (0, 0, 0), 0, []),
  (102, 45, .aload 5, 2, (5, 0, 0), 0, []),
  (102, 47, .getfield 284, 3, (6, 2, 1), 0, [(0, 346)]),
  (102, 50, .iload_n 2, 1, (2, 0, 0), 0, []),
  (102, 51, .aload 5, 2, (5, 0, 0), 0, []),
  (102, 53, .lload_n 3, 1, (3, 0, 0), 0, []),
  (102, 54, .invokevirtual 311, 3, (63, 2, 2), 0, [(0, 894)]),
  (102, 57, .lastore, 1, (0, 0, 0), 0, []),
  (102, 58, .iconst 1, 1, (0, 0, 0), 1, []),
  (102, 59, .ireturn, 1, (0, 0, 0), 0, [])]
def rows_103 : List mRow := [
  (103, 0, .iload_n 1, 1, (1, 0, 0), 0, []),
  (103, 1, .invokestatic 277, 3, (109, 1, 1), 0, [(0, 815)]),
  (103, 4, .ifCond .ne 7, 3, (11, 0, 0), 0, []),
  (103, 7, .ldc2_w 249, 3, (0, 0, 0), (-9223372036854775808), [(0, 781)]),
  (103, 10, .lreturn, 1, (0, 0, 0), 0, []),
  (103, 11, .aload_n 0, 1, (0, 0, 0), 0, []),
  (103, 12, .getfield 63, 3, (8, 9, 1), 0, [(0, 364)]),
  (103, 15, .iload_n 1, 1, (1, 0, 0), 0, []),
  (103, 16, .aaload, 1, (0, 0, 0), 0, []),
  (103, 17, .astore_n 3, 1, (3, 0, 0), 0, []),
  (103, 18, .iload_n 2, 1, (2, 0, 0), 0, []),
  (103, 19, .ifCond .lt 11, 3, (30, 0, 0), 0, []),
  (103, 22, .iload_n 2, 1, (2, 0, 0), 0, []),
  (103, 23, .aload_n 3, 1, (3, 0, 0), 0, []),
  (103, 24, .getfield 283, 3, (6, 1, 0), 0, [(0, 344)]),
  (103, 27, .if_icmp .lt 9, 3, (36, 0, 0), 0, []),
  (103, 30, .ldc2_w 249, 3, (0, 0, 0), (-9223372036854775808), [(0, 781)]),
  (103, 33, .goto 9, 3, (42, 0, 0), 0, []),
  (103, 36, .aload_n 3, 1, (3, 0, 0), 0, []),
  (103, 37, .getfield 284, 3, (6, 2, 1), 0, [(0, 346)]),
  (103, 40, .iload_n 2, 1, (2, 0, 0), 0, []),
  (103, 41, .laload, 1, (0, 0, 0), 0, []),
  (103, 42, .lreturn, 1, (0, 0, 0), 0, [])]
def rows_104 : List mRow := [
  (104, 0, .iload_n 1, 1, (1, 0, 0), 0, []),
  (104, 1, .invokestatic 277, 3, (109, 1, 1), 0, [(0, 815)]),
  (104, 4, .ifCond .eq 10, 3, (14, 0, 0), 0, []),
  (104, 7, .iload_n 3, 1, (3, 0, 0), 0, []),
  (104, 8, .invokestatic 277, 3, (109, 1, 1), 0, [(0, 815)]),
  (104, 11, .ifCond .ne 5, 3, (16, 0, 0), 0, []),
  (104, 14, .iconst (-1), 1, (0, 0, 0), (-1), []),
  (104, 15, .ireturn, 1, (0, 0, 0), 0, []),
  (104, 16, .aload_n 0, 1, (0, 0, 0), 0, []),
  (104, 17, .getfield 63, 3, (8, 9, 1), 0, [(0, 364)]),
  (104, 20, .iload_n 1, 1, (1, 0, 0), 0, []),
  (104, 21, .aaload, 1, (0, 0, 0), 0, []),
  (104, 22, .astore 6, 2, (6, 0, 0), 0, []),
  (104, 24, .aload_n 0, 1, (0, 0, 0), 0, []),
  (104, 25, .getfield 63, 3, (8, 9, 1), 0, [(0, 364)]),
  (104, 28, .iload_n 3, 1, (3, 0, 0), 0, []),
  (104, 29, .aaload, 1, (0, 0, 0), 0, []),
  (104, 30, .astore 7, 2, (7, 0, 0), 0, []),
  (104, 32, .aload 6, 2, (6, 0, 0), 0, []),
  (104, 34, .getfield 280, 3, (6, 0, 0), 0, [(0, 342)]),
  (104, 37, .iconst (-1), 1, (0, 0, 0), (-1), []),
  (104, 38, .if_icmp .eq 12, 3, (50, 0, 0), 0, []),
  (104, 41, .aload 7, 2, (7, 0, 0), 0, []),
  (104, 43, .getfield 280, 3, (6, 0, 0), 0, [(0, 342)]),
  (104, 46, .iconst (-1), 1, (0, 0, 0), (-1), []),
  (104, 47, .if_icmp .ne 6, 3, (53, 0, 0), 0, []),
  (104, 50, .bipush (-11), 2, (0, 0, 0), (-11), []),
  (104, 52, .ireturn, 1, (0, 0, 0), 0, []),
  (104, 53, .aload 6, 2, (6, 0, 0), 0, []),
  (104, 55, .getfield 280, 3, (6, 0, 0), 0, [(0, 342)]),
  (104, 58, .aload 7, 2, (7, 0, 0), 0, []),
  (104, 60, .getfield 280, 3, (6, 0, 0), 0, [(0, 342)]),
  (104, 63, .if_icmp .eq 6, 3, (69, 0, 0), 0, []),
  (104, 66, .bipush (-12), 2, (0, 0, 0), (-12), []),
  (104, 68, .ireturn, 1, (0, 0, 0), 0, []),
  (104, 69, .iload 5, 2, (5, 0, 0), 0, []),
  (104, 71, .ifCond .lt 37, 3, (108, 0, 0), 0, []),
  (104, 74, .iload_n 2, 1, (2, 0, 0), 0, []),
  (104, 75, .ifCond .lt 33, 3, (108, 0, 0), 0, []),
  (104, 78, .iload 4, 2, (4, 0, 0), 0, []),
  (104, 80, .ifCond .lt 28, 3, (108, 0, 0), 0, []),
  (104, 83, .iload_n 2, 1, (2, 0, 0), 0, []),
  (104, 84, .aload 6, 2, (6, 0, 0), 0, []),
  (104, 86, .getfield 283, 3, (6, 1, 0), 0, [(0, 344)]),
  (104, 89, .iload 5, 2, (5, 0, 0), 0, []),
  (104, 91, .isub, 1, (0, 0, 0), 0, []),
  (104, 92, .if_icmp .gt 16, 3, (108, 0, 0), 0, []),
  (104, 95, .iload 4, 2, (4, 0, 0), 0, []),
  (104, 97, .aload 7, 2, (7, 0, 0), 0, []),
  (104, 99, .getfield 283, 3, (6, 1, 0), 0, [(0, 344)]),
  (104, 102, .iload 5, 2, (5, 0, 0), 0, []),
  (104, 104, .isub, 1, (0, 0, 0), 0, []),
  (104, 105, .if_icmp .le 6, 3, (111, 0, 0), 0, []),
  (104, 108, .bipush (-13), 2, (0, 0, 0), (-13), []),
  (104, 110, .ireturn, 1, (0, 0, 0), 0, []),
  (104, 111, .aload 6, 2, (6, 0, 0), 0, []),
  (104, 113, .getfield 284, 3, (6, 2, 1), 0, [(0, 346)]),
  (104, 116, .iload_n 2, 1, (2, 0, 0), 0, []),
  (104, 117, .aload 7, 2, (7, 0, 0), 0, []),
  (104, 119, .getfield 284, 3, (6, 2, 1), 0, [(0, 346)]),
  (104, 122, .iload 4, 2, (4, 0, 0), 0, []),
  (104, 124, .iload 5, 2, (5, 0, 0), 0, []),
  (104, 126, .invokestatic 315, 3, (0, 0, 0), 3, [(0, 906)]),
  (104, 129, .iload 5, 2, (5, 0, 0), 0, []),
  (104, 131, .ireturn, 1, (0, 0, 0), 0, [])]
def rows_105 : List mRow := [
  (105, 0, .iload_n 1, 1, (1, 0, 0), 0, []),
  (105, 1, .ifCond .lt 24, 3, (25, 0, 0), 0, []),
  (105, 4, .iload_n 1, 1, (1, 0, 0), 0, []),
  (105, 5, .aload_n 0, 1, (0, 0, 0), 0, []),
  (105, 6, .getfield 12, 3, (8, 0, 1), 0, [(0, 355)]),
  (105, 9, .getfield 68, 3, (7, 1, 0), 0, [(0, 189)]),
  (105, 12, .if_icmp .ge 13, 3, (25, 0, 0), 0, []),
  (105, 15, .iload_n 1, 1, (1, 0, 0), 0, []),
  (105, 16, .bipush 6, 2, (0, 0, 0), 6, []),
  (105, 18, .if_icmp .ge 7, 3, (25, 0, 0), 0, []),
  (105, 21, .iconst 1, 1, (0, 0, 0), 1, []),
  (105, 22, .goto 4, 3, (26, 0, 0), 0, []),
  (105, 25, .iconst 0, 1, (0, 0, 0), 0, []),
  (105, 26, .ireturn, 1, (1, 0, 0), 0, [])]
def rows_106 : List mRow := [
  (106, 0, .iload_n 0, 1, (0, 0, 0), 0, []),
  (106, 1, .ifCond .lt 13, 3, (14, 0, 0), 0, []),
  (106, 4, .iload_n 0, 1, (0, 0, 0), 0, []),
  (106, 5, .bipush 6, 2, (0, 0, 0), 6, []),
  (106, 7, .if_icmp .ge 7, 3, (14, 0, 0), 0, []),
  (106, 10, .iconst 1, 1, (0, 0, 0), 1, []),
  (106, 11, .goto 4, 3, (15, 0, 0), 0, []),
  (106, 14, .iconst 0, 1, (0, 0, 0), 0, []),
  (106, 15, .ireturn, 1, (1, 0, 0), 0, [])]
def rows_107 : List mRow := [
  (107, 0, .iload_n 0, 1, (0, 0, 0), 0, []),
  (107, 1, .ifCond .lt 13, 3, (14, 0, 0), 0, []),
  (107, 4, .iload_n 0, 1, (0, 0, 0), 0, []),
  (107, 5, .bipush 24, 2, (0, 0, 0), 24, []),
  (107, 7, .if_icmp .ge 7, 3, (14, 0, 0), 0, []),
  (107, 10, .iconst 1, 1, (0, 0, 0), 1, []),
  (107, 11, .goto 4, 3, (15, 0, 0), 0, []),
  (107, 14, .iconst 0, 1, (0, 0, 0), 0, []),
  (107, 15, .ireturn, 1, (1, 0, 0), 0, [])]
def rows_108 : List mRow := [
  (108, 0, .iload_n 0, 1, (0, 0, 0), 0, []),
  (108, 1, .ifCond .lt 13, 3, (14, 0, 0), 0, []),
  (108, 4, .iload_n 0, 1, (0, 0, 0), 0, []),
  (108, 5, .bipush 60, 2, (0, 0, 0), 60, []),
  (108, 7, .if_icmp .gt 7, 3, (14, 0, 0), 0, []),
  (108, 10, .iconst 1, 1, (0, 0, 0), 1, []),
  (108, 11, .goto 4, 3, (15, 0, 0), 0, []),
  (108, 14, .iconst 0, 1, (0, 0, 0), 0, []),
  (108, 15, .ireturn, 1, (1, 0, 0), 0, [])]
def rows_109 : List mRow := [
  (109, 0, .iload_n 0, 1, (0, 0, 0), 0, []),
  (109, 1, .ifCond .lt 13, 3, (14, 0, 0), 0, []),
  (109, 4, .iload_n 0, 1, (0, 0, 0), 0, []),
  (109, 5, .bipush 6, 2, (0, 0, 0), 6, []),
  (109, 7, .if_icmp .ge 7, 3, (14, 0, 0), 0, []),
  (109, 10, .iconst 1, 1, (0, 0, 0), 1, []),
  (109, 11, .goto 4, 3, (15, 0, 0), 0, []),
  (109, 14, .iconst 0, 1, (0, 0, 0), 0, []),
  (109, 15, .ireturn, 1, (1, 0, 0), 0, [])]
def rows_110 : List mRow := [
  (110, 0, .iload_n 0, 1, (0, 0, 0), 0, []),
  (110, 1, .ifCond .eq 8, 3, (9, 0, 0), 0, []),
  (110, 4, .iload_n 0, 1, (0, 0, 0), 0, []),
  (110, 5, .iconst 1, 1, (0, 0, 0), 1, []),
  (110, 6, .if_icmp .ne 7, 3, (13, 0, 0), 0, []),
  (110, 9, .iconst 1, 1, (0, 0, 0), 1, []),
  (110, 10, .goto 4, 3, (14, 0, 0), 0, []),
  (110, 13, .iconst 0, 1, (0, 0, 0), 0, []),
  (110, 14, .ireturn, 1, (1, 0, 0), 0, [])]
def rows_111 : List mRow := [
  (111, 0, .iload_n 0, 1, (0, 0, 0), 0, []),
  (111, 1, .istore_n 2, 1, (2, 0, 0), 0, []),
  (111, 2, .iconst 0, 1, (0, 0, 0), 0, []),
  (111, 3, .istore_n 3, 1, (3, 0, 0), 0, []),
  (111, 4, .iload_n 3, 1, (3, 0, 0), 0, []),
  (111, 5, .bipush 7, 2, (0, 0, 0), 7, []),
  (111, 7, .if_icmp .ge 32, 3, (39, 0, 0), 0, []),
  (111, 10, .iload_n 2, 1, (2, 0, 0), 0, []),
  (111, 11, .ifCond .lt 28, 3, (39, 0, 0), 0, []),
  (111, 14, .iload_n 2, 1, (2, 0, 0), 0, []),
  (111, 15, .bipush 7, 2, (0, 0, 0), 7, []),
  (111, 17, .if_icmp .ge 22, 3, (39, 0, 0), 0, []),
  (111, 20, .iload_n 2, 1, (2, 0, 0), 0, []),
  (111, 21, .iload_n 1, 1, (1, 0, 0), 0, []),
  (111, 22, .if_icmp .ne 5, 3, (27, 0, 0), 0, []),
  (111, 25, .iconst 1, 1, (0, 0, 0), 1, []),
  (111, 26, .ireturn, 1, (1, 0, 0), 0, []),
  (111, 27, .getstatic 321, 3, (1, 1, 0), 0, [(0, 872)]),
  (111, 30, .iload_n 2, 1, (2, 0, 0), 0, []),
  (111, 31, .iaload, 1, (0, 0, 0), 0, []),
  (111, 32, .istore_n 2, 1, (2, 0, 0), 0, []),
  (111, 33, .iinc 3 1, 3, (3, 0, 0), 1, []),
  (111, 36, .goto (-32), 3, (4, 0, 0), 0, []),
  (111, 39, .iconst 0, 1, (0, 0, 0), 0, []),
  (111, 40, .ireturn, 1, (1, 0, 0), 0, [])]
def rows_112 : List mRow := [
  (112, 0, .aload_n 0, 1, (0, 0, 0), 0, []),
  (112, 1, .getfield 12, 3, (8, 0, 1), 0, [(0, 355)]),
  (112, 4, .getfield 150, 3, (7, 4, 0), 0, [(0, 197)]),
  (112, 7, .istore_n 1, 1, (1, 0, 0), 0, []),
  (112, 8, .iload_n 1, 1, (1, 0, 0), 0, []),
  (112, 9, .ifCond .lt 26, 3, (35, 0, 0), 0, []),
  (112, 12, .iload_n 1, 1, (1, 0, 0), 0, []),
  (112, 13, .aload_n 0, 1, (0, 0, 0), 0, []),
  (112, 14, .getfield 36, 3, (8, 5, 0), 0, [(0, 360)]),
  (112, 17, .if_icmp .ge 18, 3, (35, 0, 0), 0, []),
  (112, 20, .iload_n 1, 1, (1, 0, 0), 0, []),
  (112, 21, .bipush 6, 2, (0, 0, 0), 6, []),
  (112, 23, .if_icmp .ge 12, 3, (35, 0, 0), 0, []),
  (112, 26, .aload_n 0, 1, (0, 0, 0), 0, []),
  (112, 27, .getfield 32, 3, (8, 4, 1), 0, [(0, 359)]),
  (112, 30, .iload_n 1, 1, (1, 0, 0), 0, []),
  (112, 31, .aaload, 1, (0, 0, 0), 0, []),
  (112, 32, .ifnonnull 8, 3, (40, 0, 0), 0, []),
  (112, 35, .aload_n 0, 1, (0, 0, 0), 0, []),
  (112, 36, .getfield 28, 3, (8, 3, 1), 0, [(0, 358)]),
  (112, 39, .areturn, 1, (0, 0, 0), 0, []),
  (112, 40, .aload_n 0, 1, (0, 0, 0), 0, []),
  (112, 41, .getfield 32, 3, (8, 4, 1), 0, [(0, 359)]),
  (112, 44, .iload_n 1, 1, (1, 0, 0), 0, []),
  (112, 45, .aaload, 1, (0, 0, 0), 0, []),
  (112, 46, .areturn, 1, (0, 0, 0), 0, [])]
def rows_113 : List mRow := [
  (113, 0, .aload_n 0, 1, (0, 0, 0), 0, []),
  (113, 1, .invokevirtual 85, 3, (112, 1, 3), 0, [(0, 405)]),
  (113, 4, .astore_n 2, 1, (2, 0, 0), 0, []),
  (113, 5, .iconst 0, 1, (0, 0, 0), 0, []),
  (113, 6, .istore_n 3, 1, (3, 0, 0), 0, []),
  (113, 7, .iconst 0, 1, (0, 0, 0), 0, []),
  (113, 8, .istore 4, 2, (4, 0, 0), 0, []),
  (113, 10, .iload 4, 2, (4, 0, 0), 0, []),
  (113, 12, .aload_n 0, 1, (0, 0, 0), 0, []),
  (113, 13, .getfield 12, 3, (8, 0, 1), 0, [(0, 355)]),
  (113, 16, .getfield 68, 3, (7, 1, 0), 0, [(0, 189)]),
  (113, 19, .if_icmp .ge 27, 3, (46, 0, 0), 0, []),
  (113, 22, .iload_n 3, 1, (3, 0, 0), 0, []),
  (113, 23, .aload_n 2, 1, (2, 0, 0), 0, []),
  (113, 24, .aload_n 0, 1, (0, 0, 0), 0, []),
  (113, 25, .getfield 12, 3, (8, 0, 1), 0, [(0, 355)]),
  (113, 28, .getfield 71, 3, (7, 0, 1), 0, [(0, 186)]),
  (113, 31, .iload 4, 2, (4, 0, 0), 0, []),
  (113, 33, .aaload, 1, (0, 0, 0), 0, []),
  (113, 34, .iload_n 1, 1, (1, 0, 0), 0, []),
  (113, 35, .invokevirtual 115, 3, (36, 3, 1), 0, [(0, 444)]),
  (113, 38, .iadd, 1, (0, 0, 0), 0, []),
  (113, 39, .istore_n 3, 1, (3, 0, 0), 0, []),
  (113, 40, .iinc 4 1, 3, (4, 0, 0), 1, []),
  (113, 43, .goto (-33), 3, (10, 0, 0), 0, []),
  (113, 46, .iload_n 3, 1, (3, 0, 0), 0, []),
  (113, 47, .ireturn, 1, (0, 0, 0), 0, [])]
def rows_114 : List mRow := [
  (114, 0, .iload_n 0, 1, (0, 0, 0), 0, []),
  (114, 1, .istore_n 3, 1, (3, 0, 0), 0, []),
  (114, 2, .iload_n 1, 1, (1, 0, 0), 0, []),
  (114, 3, .istore 4, 2, (4, 0, 0), 0, []),
  (114, 5, .iconst 0, 1, (0, 0, 0), 0, []),
  (114, 6, .istore 5, 2, (5, 0, 0), 0, []),
  (114, 8, .iload 5, 2, (5, 0, 0), 0, []),
  (114, 10, .bipush 64, 2, (0, 0, 0), 64, []),
  (114, 12, .if_icmp .ge 27, 3, (39, 0, 0), 0, []),
  (114, 15, .iload 4, 2, (4, 0, 0), 0, []),
  (114, 17, .ifCond .eq 22, 3, (39, 0, 0), 0, []),
  (114, 20, .iload_n 3, 1, (3, 0, 0), 0, []),
  (114, 21, .iload 4, 2, (4, 0, 0), 0, []),
  (114, 23, .irem, 1, (0, 0, 0), 0, []),
  (114, 24, .istore 6, 2, (6, 0, 0), 0, []),
  (114, 26, .iload 4, 2, (4, 0, 0), 0, []),
  (114, 28, .istore_n 3, 1, (3, 0, 0), 0, []),
  (114, 29, .iload 6, 2, (6, 0, 0), 0, []),
  (114, 31, .istore 4, 2, (4, 0, 0), 0, []),
  (114, 33, .iinc 5 1, 3, (5, 0, 0), 1, []),
  (114, 36, .goto (-28), 3, (8, 0, 0), 0, []),
  (114, 39, .iload_n 3, 1, (3, 0, 0), 0, []),
  (114, 40, .ifCond .ne 7, 3, (47, 0, 0), 0, []),
  (114, 43, .ldc2_w 249, 3, (0, 0, 0), (-9223372036854775808), [(0, 781)]),
  (114, 46, .lreturn, 1, (0, 0, 0), 0, []),
  (114, 47, .iload_n 2, 1, (2, 0, 0), 0, []),
  (114, 48, .ifCond .ne 10, 3, (58, 0, 0), 0, []),
  (114, 51, .iload_n 0, 1, (0, 0, 0), 0, []),
  (114, 52, .iload_n 3, 1, (3, 0, 0), 0, []),
  (114, 53, .idiv, 1, (0, 0, 0), 0, []),
  (114, 54, .i2l, 1, (0, 0, 0), 0, []),
  (114, 55, .goto 7, 3, (62, 0, 0), 0, []),
  (114, 58, .iload_n 1, 1, (1, 0, 0), 0, []),
  (114, 59, .iload_n 3, 1, (3, 0, 0), 0, []),
  (114, 60, .idiv, 1, (0, 0, 0), 0, []),
  (114, 61, .i2l, 1, (0, 0, 0), 0, []),
  (114, 62, .lreturn, 1, (0, 0, 0), 0, [])]
set_option maxRecDepth 100000 in
def rows_115 : List mRow := [
  (115, 0, .aload_n 0, 1, (0, 0, 0), 0, []),
  (115, 1, .invokespecial 1, 3, (0, 0, 0), 2, [(0, 912)]),
  (115, 4, .aload_n 0, 1, (0, 0, 0), 0, []),
  (115, 5, .iconst 0, 1, (0, 0, 0), 0, []),
  (115, 6, .putfield 7, 3, (9, 0, 0), 0, [(0, 913)]),
  (115, 9, .aload_n 0, 1, (0, 0, 0), 0, []),
  (115, 10, .iconst 0, 1, (0, 0, 0), 0, []),
  (115, 11, .putfield 13, 3, (9, 1, 0), 0, [(0, 914)]),
  (115, 14, .aload_n 0, 1, (0, 0, 0), 0, []),
  (115, 15, .bipush 12, 2, (0, 0, 0), 12, []),
  (115, 17, .putfield 16, 3, (9, 2, 0), 0, [(0, 915)]),
  (115, 20, .aload_n 0, 1, (0, 0, 0), 0, []),
  (115, 21, .iconst 0, 1, (0, 0, 0), 0, []),
  (115, 22, .putfield 19, 3, (9, 3, 0), 0, [(0, 916)]),
  (115, 25, .aload_n 0, 1, (0, 0, 0), 0, []),
  (115, 26, .bipush 6, 2, (0, 0, 0), 6, []),
  (115, 28, .newarray .int, 2, (100, 0, 0), 0, []),
  (115, 30, .putfield 22, 3, (9, 4, 1), 0, [(0, 917)]),
  (115, 33, .aload_n 0, 1, (0, 0, 0), 0, []),
  (115, 34, .bipush 6, 2, (0, 0, 0), 6, []),
  (115, 36, .newarray .int, 2, (100, 0, 0), 0, []),
  (115, 38, .putfield 26, 3, (9, 5, 1), 0, [(0, 918)]),
  (115, 41, .aload_n 0, 1, (0, 0, 0), 0, []),
  (115, 42, .bipush 6, 2, (0, 0, 0), 6, []),
  (115, 44, .newarray .int, 2, (100, 0, 0), 0, []),
  (115, 46, .putfield 29, 3, (9, 6, 1), 0, [(0, 919)]),
  (115, 49, .aload_n 0, 1, (0, 0, 0), 0, []),
  (115, 50, .bipush 36, 2, (0, 0, 0), 36, []),
  (115, 52, .newarray .int, 2, (100, 0, 0), 0, []),
  (115, 54, .putfield 32, 3, (9, 7, 1), 0, [(0, 920)]),
  (115, 57, .aload_n 0, 1, (0, 0, 0), 0, []),
  (115, 58, .bipush 24, 2, (0, 0, 0), 24, []),
  (115, 60, .newarray .int, 2, (100, 0, 0), 0, []),
  (115, 62, .putfield 35, 3, (9, 8, 1), 0, [(0, 921)]),
  (115, 65, .aload_n 0, 1, (0, 0, 0), 0, []),
  (115, 66, .iconst 0, 1, (0, 0, 0), 0, []),
  (115, 67, .putfield 38, 3, (9, 9, 0), 0, [(0, 922)]),
  (115, 70, .aload_n 0, 1, (0, 0, 0), 0, []),
  (115, 71, .iconst (-1), 1, (0, 0, 0), (-1), []),
  (115, 72, .putfield 41, 3, (9, 10, 0), 0, [(0, 923)]),
  (115, 75, .aload_n 0, 1, (0, 0, 0), 0, []),
  (115, 76, .iconst 0, 1, (0, 0, 0), 0, []),
  (115, 77, .putfield 44, 3, (9, 11, 0), 0, [(0, 924)]),
  (115, 80, .aload_n 0, 1, (0, 0, 0), 0, []),
  (115, 81, .iconst 0, 1, (0, 0, 0), 0, []),
  (115, 82, .putfield 47, 3, (9, 12, 0), 0, [(0, 925)]),
  (115, 85, .aload_n 0, 1, (0, 0, 0), 0, []),
  (115, 86, .iconst 0, 1, (0, 0, 0), 0, []),
  (115, 87, .putfield 50, 3, (9, 13, 0), 0, [(0, 926)]),
  (115, 90, .aload_n 0, 1, (0, 0, 0), 0, []),
  (115, 91, .bipush 100, 2, (0, 0, 0), 100, []),
  (115, 93, .newarray .int, 2, (100, 0, 0), 0, []),
  (115, 95, .putfield 53, 3, (9, 14, 1), 0, [(0, 927)]),
  (115, 98, .aload_n 0, 1, (0, 0, 0), 0, []),
  (115, 99, .bipush 6, 2, (0, 0, 0), 6, []),
  (115, 101, .newarray .int, 2, (100, 0, 0), 0, []),
  (115, 103, .putfield 56, 3, (9, 15, 1), 0, [(0, 928)]),
  (115, 106, .aload_n 0, 1, (0, 0, 0), 0, []),
  (115, 107, .bipush 60, 2, (0, 0, 0), 60, []),
  (115, 109, .newarray .int, 2, (100, 0, 0), 0, []),
  (115, 111, .putfield 59, 3, (9, 16, 1), 0, [(0, 929)]),
  (115, 114, .aload_n 0, 1, (0, 0, 0), 0, []),
  (115, 115, .bipush 60, 2, (0, 0, 0), 60, []),
  (115, 117, .newarray .int, 2, (100, 0, 0), 0, []),
  (115, 119, .putfield 62, 3, (9, 17, 1), 0, [(0, 930)]),
  (115, 122, .aload_n 0, 1, (0, 0, 0), 0, []),
  (115, 123, .bipush 60, 2, (0, 0, 0), 60, []),
  (115, 125, .newarray .int, 2, (100, 0, 0), 0, []),
  (115, 127, .putfield 65, 3, (9, 18, 1), 0, [(0, 931)]),
  (115, 130, .aload_n 0, 1, (0, 0, 0), 0, []),
  (115, 131, .bipush 60, 2, (0, 0, 0), 60, []),
  (115, 133, .newarray .int, 2, (100, 0, 0), 0, []),
  (115, 135, .putfield 68, 3, (9, 19, 1), 0, [(0, 932)]),
  (115, 138, .aload_n 0, 1, (0, 0, 0), 0, []),
  (115, 139, .sipush 600, 3, (0, 0, 0), 600, []),
  (115, 142, .newarray .int, 2, (100, 0, 0), 0, []),
  (115, 144, .putfield 71, 3, (9, 20, 1), 0, [(0, 933)]),
  (115, 147, .aload_n 0, 1, (0, 0, 0), 0, []),
  (115, 148, .bipush 101, 2, (0, 0, 0), 101, []),
  (115, 150, .newarray .int, 2, (100, 0, 0), 0, []),
  (115, 152, .putfield 74, 3, (9, 21, 1), 0, [(0, 934)]),
  (115, 155, .aload_n 0, 1, (0, 0, 0), 0, []),
  (115, 156, .iconst 0, 1, (0, 0, 0), 0, []),
  (115, 157, .putfield 77, 3, (9, 22, 0), 0, [(0, 935)]),
  (115, 160, .aload_n 0, 1, (0, 0, 0), 0, []),
  (115, 161, .iconst 0, 1, (0, 0, 0), 0, []),
  (115, 162, .putfield 80, 3, (9, 23, 0), 0, [(0, 936)]),
  (115, 165, .aload_n 0, 1, (0, 0, 0), 0, []),
  (115, 166, .iconst 0, 1, (0, 0, 0), 0, []),
  (115, 167, .putfield 83, 3, (9, 24, 0), 0, [(0, 937)]),
  (115, 170, .aload_n 0, 1, (0, 0, 0), 0, []),
  (115, 171, .bipush 22, 2, (0, 0, 0), 22, []),
  (115, 173, .newarray .int, 2, (100, 0, 0), 0, []),
  (115, 175, .dup, 1, (0, 0, 0), 0, []),
  (115, 176, .iconst 0, 1, (0, 0, 0), 0, []),
  (115, 177, .bipush 108, 2, (0, 0, 0), 108, []),
  (115, 179, .iastore, 1, (0, 0, 0), 0, []),
  (115, 180, .dup, 1, (0, 0, 0), 0, []),
  (115, 181, .iconst 1, 1, (0, 0, 0), 1, []),
  (115, 182, .bipush 105, 2, (0, 0, 0), 105, []),
  (115, 184, .iastore, 1, (0, 0, 0), 0, []),
  (115, 185, .dup, 1, (0, 0, 0), 0, []),
  (115, 186, .iconst 2, 1, (0, 0, 0), 2, []),
  (115, 187, .bipush 107, 2, (0, 0, 0), 107, []),
  (115, 189, .iastore, 1, (0, 0, 0), 0, []),
  (115, 190, .dup, 1, (0, 0, 0), 0, []),
  (115, 191, .iconst 3, 1, (0, 0, 0), 3, []),
  (115, 192, .bipush 101, 2, (0, 0, 0), 101, []),
  (115, 194, .iastore, 1, (0, 0, 0), 0, []),
  (115, 195, .dup, 1, (0, 0, 0), 0, []),
  (115, 196, .iconst 4, 1, (0, 0, 0), 4, []),
  (115, 197, .bipush 109, 2, (0, 0, 0), 109, []),
  (115, 199, .iastore, 1, (0, 0, 0), 0, []),
  (115, 200, .dup, 1, (0, 0, 0), 0, []),
  (115, 201, .iconst 5, 1, (0, 0, 0), 5, []),
  (115, 202, .bipush 105, 2, (0, 0, 0), 105, []),
  (115, 204, .iastore, 1, (0, 0, 0), 0, []),
  (115, 205, .dup, 1, (0, 0, 0), 0, []),
  (115, 206, .bipush 6, 2, (0, 0, 0), 6, []),
  (115, 208, .bipush 110, 2, (0, 0, 0), 110, []),
  (115, 210, .iastore, 1, (0, 0, 0), 0, []),
  (115, 211, .dup, 1, (0, 0, 0), 0, []),
  (115, 212, .bipush 7, 2, (0, 0, 0), 7, []),
  (115, 214, .bipush 100, 2, (0, 0, 0), 100, []),
  (115, 216, .iastore, 1, (0, 0, 0), 0, []),
  (115, 217, .dup, 1, (0, 0, 0), 0, []),
  (115, 218, .bipush 8, 2, (0, 0, 0), 8, []),
  (115, 220, .bipush 116, 2, (0, 0, 0), 116, []),
  (115, 222, .iastore, 1, (0, 0, 0), 0, []),
  (115, 223, .dup, 1, (0, 0, 0), 0, []),
  (115, 224, .bipush 9, 2, (0, 0, 0), 9, []),
  (115, 226, .bipush 97, 2, (0, 0, 0), 97, []),
  (115, 228, .iastore, 1, (0, 0, 0), 0, []),
  (115, 229, .dup, 1, (0, 0, 0), 0, []),
  (115, 230, .bipush 10, 2, (0, 0, 0), 10, []),
  (115, 232, .bipush 115, 2, (0, 0, 0), 115, []),
  (115, 234, .iastore, 1, (0, 0, 0), 0, []),
  (115, 235, .dup, 1, (0, 0, 0), 0, []),
  (115, 236, .bipush 11, 2, (0, 0, 0), 11, []),
  (115, 238, .bipush 116, 2, (0, 0, 0), 116, []),
  (115, 240, .iastore, 1, (0, 0, 0), 0, []),
  (115, 241, .dup, 1, (0, 0, 0), 0, []),
  (115, 242, .bipush 12, 2, (0, 0, 0), 12, []),
  (115, 244, .bipush 101, 2, (0, 0, 0), 101, []),
  (115, 246, .iastore, 1, (0, 0, 0), 0, []),
  (115, 247, .dup, 1, (0, 0, 0), 0, []),
  (115, 248, .bipush 13, 2, (0, 0, 0), 13, []),
  (115, 250, .bipush 108, 2, (0, 0, 0), 108, []),
  (115, 252, .iastore, 1, (0, 0, 0), 0, []),
  (115, 253, .dup, 1, (0, 0, 0), 0, []),
  (115, 254, .bipush 14, 2, (0, 0, 0), 14, []),
  (115, 256, .bipush 105, 2, (0, 0, 0), 105, []),
  (115, 258, .iastore, 1, (0, 0, 0), 0, []),
  (115, 259, .dup, 1, (0, 0, 0), 0, []),
  (115, 260, .bipush 15, 2, (0, 0, 0), 15, []),
  (115, 262, .bipush 103, 2, (0, 0, 0), 103, []),
  (115, 264, .iastore, 1, (0, 0, 0), 0, []),
  (115, 265, .dup, 1, (0, 0, 0), 0, []),
  (115, 266, .bipush 16, 2, (0, 0, 0), 16, []),
  (115, 268, .bipush 104, 2, (0, 0, 0), 104, []),
  (115, 270, .iastore, 1, (0, 0, 0), 0, []),
  (115, 271, .dup, 1, (0, 0, 0), 0, []),
  (115, 272, .bipush 17, 2, (0, 0, 0), 17, []),
  (115, 274, .bipush 116, 2, (0, 0, 0), 116, []),
  (115, 276, .iastore, 1, (0, 0, 0), 0, []),
  (115, 277, .dup, 1, (0, 0, 0), 0, []),
  (115, 278, .bipush 18, 2, (0, 0, 0), 18, []),
  (115, 280, .bipush 114, 2, (0, 0, 0), 114, []),
  (115, 282, .iastore, 1, (0, 0, 0), 0, []),
  (115, 283, .dup, 1, (0, 0, 0), 0, []),
  (115, 284, .bipush 19, 2, (0, 0, 0), 19, []),
  (115, 286, .bipush 97, 2, (0, 0, 0), 97, []),
  (115, 288, .iastore, 1, (0, 0, 0), 0, []),
  (115, 289, .dup, 1, (0, 0, 0), 0, []),
  (115, 290, .bipush 20, 2, (0, 0, 0), 20, []),
  (115, 292, .bipush 116, 2, (0, 0, 0), 116, []),
  (115, 294, .iastore, 1, (0, 0, 0), 0, []),
  (115, 295, .dup, 1, (0, 0, 0), 0, []),
  (115, 296, .bipush 21, 2, (0, 0, 0), 21, []),
  (115, 298, .bipush 101, 2, (0, 0, 0), 101, []),
  (115, 300, .iastore, 1, (0, 0, 0), 0, []),
  (115, 301, .putfield 86, 3, (9, 25, 1), 0, [(0, 938)]),
  (115, 304, .aload_n 0, 1, (0, 0, 0), 0, []),
  (115, 305, .iconst (-1), 1, (0, 0, 0), (-1), []),
  (115, 306, .putfield 89, 3, (9, 26, 0), 0, [(0, 939)]),
  (115, 309, .aload_n 0, 1, (0, 0, 0), 0, []),
  (115, 310, .bipush 100, 2, (0, 0, 0), 100, []),
  (115, 312, .newarray .boolean, 2, (102, 0, 0), 0, []),
  (115, 314, .putfield 92, 3, (9, 27, 1), 0, [(0, 940)]),
  (115, 317, .aload_n 0, 1, (0, 0, 0), 0, []),
  (115, 318, .iconst 0, 1, (0, 0, 0), 0, []),
  (115, 319, .putfield 96, 3, (9, 28, 0), 0, [(0, 941)]),
  (115, 322, .aload_n 0, 1, (0, 0, 0), 0, []),
  (115, 323, .iconst 0, 1, (0, 0, 0), 0, []),
  (115, 324, .putfield 99, 3, (9, 29, 0), 0, [(0, 942)]),
  (115, 327, .aload_n 0, 1, (0, 0, 0), 0, []),
  (115, 328, .iconst 0, 1, (0, 0, 0), 0, []),
  (115, 329, .putfield 102, 3, (9, 30, 0), 0, [(0, 943)]),
  (115, 332, .aload_n 0, 1, (0, 0, 0), 0, []),
  (115, 333, .bipush 6, 2, (0, 0, 0), 6, []),
  (115, 335, .newarray .int, 2, (100, 0, 0), 0, []),
  (115, 337, .putfield 105, 3, (9, 31, 1), 0, [(0, 944)]),
  (115, 340, .aload_n 0, 1, (0, 0, 0), 0, []),
  (115, 341, .bipush 36, 2, (0, 0, 0), 36, []),
  (115, 343, .newarray .int, 2, (100, 0, 0), 0, []),
  (115, 345, .putfield 108, 3, (9, 32, 1), 0, [(0, 945)]),
  (115, 348, .aload_n 0, 1, (0, 0, 0), 0, []),
  (115, 349, .bipush 36, 2, (0, 0, 0), 36, []),
  (115, 351, .newarray .int, 2, (100, 0, 0), 0, []),
  (115, 353, .putfield 111, 3, (9, 33, 1), 0, [(0, 946)]),
  (115, 356, .aload_n 0, 1, (0, 0, 0), 0, []),
  (115, 357, .bipush 6, 2, (0, 0, 0), 6, []),
  (115, 359, .newarray .int, 2, (100, 0, 0), 0, []),
  (115, 361, .putfield 114, 3, (9, 34, 1), 0, [(0, 947)]),
  (115, 364, .aload_n 0, 1, (0, 0, 0), 0, []),
  (115, 365, .bipush 6, 2, (0, 0, 0), 6, []),
  (115, 367, .newarray .int, 2, (100, 0, 0), 0, []),
  (115, 369, .putfield 117, 3, (9, 35, 1), 0, [(0, 948)]),
  (115, 372, .aload_n 0, 1, (0, 0, 0), 0, []),
  (115, 373, .iconst 0, 1, (0, 0, 0), 0, []),
  (115, 374, .putfield 120, 3, (9, 36, 0), 0, [(0, 949)]),
  (115, 377, .aload_n 0, 1, (0, 0, 0), 0, []),
  (115, 378, .bipush 36, 2, (0, 0, 0), 36, []),
  (115, 380, .newarray .int, 2, (100, 0, 0), 0, []),
  (115, 382, .putfield 123, 3, (9, 37, 1), 0, [(0, 950)]),
  (115, 385, .aload_n 0, 1, (0, 0, 0), 0, []),
  (115, 386, .bipush 6, 2, (0, 0, 0), 6, []),
  (115, 388, .newarray .int, 2, (100, 0, 0), 0, []),
  (115, 390, .putfield 126, 3, (9, 38, 1), 0, [(0, 951)]),
  (115, 393, .aload_n 0, 1, (0, 0, 0), 0, []),
  (115, 394, .bipush 6, 2, (0, 0, 0), 6, []),
  (115, 396, .newarray .int, 2, (100, 0, 0), 0, []),
  (115, 398, .putfield 129, 3, (9, 39, 1), 0, [(0, 952)]),
  (115, 401, .aload_n 0, 1, (0, 0, 0), 0, []),
  (115, 402, .bipush 6, 2, (0, 0, 0), 6, []),
  (115, 404, .newarray .int, 2, (100, 0, 0), 0, []),
  (115, 406, .putfield 132, 3, (9, 40, 1), 0, [(0, 953)]),
  (115, 409, .aload_n 0, 1, (0, 0, 0), 0, []),
  (115, 410, .iconst 0, 1, (0, 0, 0), 0, []),
  (115, 411, .putfield 135, 3, (9, 41, 0), 0, [(0, 954)]),
  (115, 414, .aload_n 0, 1, (0, 0, 0), 0, []),
  (115, 415, .bipush 6, 2, (0, 0, 0), 6, []),
  (115, 417, .newarray .int, 2, (100, 0, 0), 0, []),
  (115, 419, .putfield 138, 3, (9, 42, 1), 0, [(0, 955)]),
  (115, 422, .aload_n 0, 1, (0, 0, 0), 0, []),
  (115, 423, .bipush 6, 2, (0, 0, 0), 6, []),
  (115, 425, .newarray .int, 2, (100, 0, 0), 0, []),
  (115, 427, .putfield 141, 3, (9, 43, 1), 0, [(0, 956)]),
  (115, 430, .aload_n 0, 1, (0, 0, 0), 0, []),
  (115, 431, .bipush 6, 2, (0, 0, 0), 6, []),
  (115, 433, .newarray .int, 2, (100, 0, 0), 0, []),
  (115, 435, .putfield 144, 3, (9, 44, 1), 0, [(0, 957)]),
  (115, 438, .aload_n 0, 1, (0, 0, 0), 0, []),
  (115, 439, .bipush 6, 2, (0, 0, 0), 6, []),
  (115, 441, .newarray .boolean, 2, (102, 0, 0), 0, []),
  (115, 443, .putfield 147, 3, (9, 45, 1), 0, [(0, 958)]),
  (115, 446, .aload_n 0, 1, (0, 0, 0), 0, []),
  (115, 447, .iconst 0, 1, (0, 0, 0), 0, []),
  (115, 448, .putfield 150, 3, (9, 46, 0), 0, [(0, 959)]),
  (115, 451, .aload_n 0, 1, (0, 0, 0), 0, []),
  (115, 452, .iconst 0, 1, (0, 0, 0), 0, []),
  (115, 453, .putfield 153, 3, (9, 47, 0), 0, [(0, 960)]),
  (115, 456, .aload_n 0, 1, (0, 0, 0), 0, []),
  (115, 457, .bipush 10, 2, (0, 0, 0), 10, []),
  (115, 459, .newarray .int, 2, (100, 0, 0), 0, []),
  (115, 461, .putfield 156, 3, (9, 48, 1), 0, [(0, 961)]),
  (115, 464, .aload_n 0, 1, (0, 0, 0), 0, []),
  (115, 465, .bipush 10, 2, (0, 0, 0), 10, []),
  (115, 467, .newarray .int, 2, (100, 0, 0), 0, []),
  (115, 469, .putfield 159, 3, (9, 49, 1), 0, [(0, 962)]),
  (115, 472, .aload_n 0, 1, (0, 0, 0), 0, []),
  (115, 473, .bipush 8, 2, (0, 0, 0), 8, []),
  (115, 475, .newarray .int, 2, (100, 0, 0), 0, []),
  (115, 477, .putfield 162, 3, (9, 50, 1), 0, [(0, 963)]),
  (115, 480, .aload_n 0, 1, (0, 0, 0), 0, []),
  (115, 481, .bipush 8, 2, (0, 0, 0), 8, []),
  (115, 483, .newarray .int, 2, (100, 0, 0), 0, []),
  (115, 485, .putfield 165, 3, (9, 51, 1), 0, [(0, 964)]),
  (115, 488, .aload_n 0, 1, (0, 0, 0), 0, []),
  (115, 489, .iconst 0, 1, (0, 0, 0), 0, []),
  (115, 490, .putfield 168, 3, (9, 52, 2), 0, [(0, 965)]),
  (115, 493, .aload_n 0, 1, (0, 0, 0), 0, []),
  (115, 494, .iconst (-1), 1, (0, 0, 0), (-1), []),
  (115, 495, .putfield 172, 3, (9, 53, 0), 0, [(0, 966)]),
  (115, 498, .aload_n 0, 1, (0, 0, 0), 0, []),
  (115, 499, .iconst 0, 1, (0, 0, 0), 0, []),
  (115, 500, .putfield 175, 3, (9, 54, 0), 0, [(0, 967)]),
  (115, 503, .aload_n 0, 1, (0, 0, 0), 0, []),
  (115, 504, .iconst 0, 1, (0, 0, 0), 0, []),
  (115, 505, .putfield 178, 3, (9, 55, 0), 0, [(0, 968)]),
  (115, 508, .aload_n 0, 1, (0, 0, 0), 0, []),
  (115, 509, .iconst 0, 1, (0, 0, 0), 0, []),
  (115, 510, .putfield 181, 3, (9, 56, 0), 0, [(0, 969)]),
  (115, 513, .aload_n 0, 1, (0, 0, 0), 0, []),
  (115, 514, .iconst 0, 1, (0, 0, 0), 0, []),
  (115, 515, .putfield 184, 3, (9, 57, 0), 0, [(0, 970)]),
  (115, 518, .aload_n 0, 1, (0, 0, 0), 0, []),
  (115, 519, .iconst 0, 1, (0, 0, 0), 0, []),
  (115, 520, .putfield 187, 3, (9, 58, 0), 0, [(0, 971)]),
  (115, 523, .aload_n 0, 1, (0, 0, 0), 0, []),
  (115, 524, .iconst 0, 1, (0, 0, 0), 0, []),
  (115, 525, .putfield 190, 3, (9, 59, 0), 0, [(0, 972)]),
  (115, 528, .aload_n 0, 1, (0, 0, 0), 0, []),
  (115, 529, .iconst 0, 1, (0, 0, 0), 0, []),
  (115, 530, .putfield 193, 3, (9, 60, 0), 0, [(0, 973)]),
  (115, 533, .aload_n 0, 1, (0, 0, 0), 0, []),
  (115, 534, .bipush 6, 2, (0, 0, 0), 6, []),
  (115, 536, .newarray .int, 2, (100, 0, 0), 0, []),
  (115, 538, .putfield 196, 3, (9, 61, 1), 0, [(0, 974)]),
  (115, 541, .aload_n 0, 1, (0, 0, 0), 0, []),
  (115, 542, .bipush 6, 2, (0, 0, 0), 6, []),
  (115, 544, .newarray .int, 2, (100, 0, 0), 0, []),
  (115, 546, .putfield 199, 3, (9, 62, 1), 0, [(0, 975)]),
  (115, 549, .aload_n 0, 1, (0, 0, 0), 0, []),
  (115, 550, .bipush 6, 2, (0, 0, 0), 6, []),
  (115, 552, .newarray .int, 2, (100, 0, 0), 0, []),
  (115, 554, .putfield 202, 3, (9, 63, 1), 0, [(0, 976)]),
  (115, 557, .aload_n 0, 1, (0, 0, 0), 0, []),
  (115, 558, .bipush 36, 2, (0, 0, 0), 36, []),
  (115, 560, .newarray .int, 2, (100, 0, 0), 0, []),
  (115, 562, .putfield 205, 3, (9, 64, 1), 0, [(0, 977)]),
  (115, 565, .aload_n 0, 1, (0, 0, 0), 0, []),
  (115, 566, .bipush 24, 2, (0, 0, 0), 24, []),
  (115, 568, .newarray .int, 2, (100, 0, 0), 0, []),
  (115, 570, .putfield 208, 3, (9, 65, 1), 0, [(0, 978)]),
  (115, 573, .aload_n 0, 1, (0, 0, 0), 0, []),
  (115, 574, .bipush 6, 2, (0, 0, 0), 6, []),
  (115, 576, .newarray .int, 2, (100, 0, 0), 0, []),
  (115, 578, .putfield 211, 3, (9, 66, 1), 0, [(0, 979)]),
  (115, 581, .aload_n 0, 1, (0, 0, 0), 0, []),
  (115, 582, .bipush 6, 2, (0, 0, 0), 6, []),
  (115, 584, .newarray .int, 2, (100, 0, 0), 0, []),
  (115, 586, .putfield 214, 3, (9, 67, 1), 0, [(0, 980)]),
  (115, 589, .aload_n 0, 1, (0, 0, 0), 0, []),
  (115, 590, .bipush 6, 2, (0, 0, 0), 6, []),
  (115, 592, .newarray .int, 2, (100, 0, 0), 0, []),
  (115, 594, .putfield 217, 3, (9, 68, 1), 0, [(0, 981)]),
  (115, 597, .aload_n 0, 1, (0, 0, 0), 0, []),
  (115, 598, .bipush 10, 2, (0, 0, 0), 10, []),
  (115, 600, .newarray .int, 2, (100, 0, 0), 0, []),
  (115, 602, .putfield 220, 3, (9, 69, 1), 0, [(0, 982)]),
  (115, 605, .aload_n 0, 1, (0, 0, 0), 0, []),
  (115, 606, .bipush 10, 2, (0, 0, 0), 10, []),
  (115, 608, .newarray .int, 2, (100, 0, 0), 0, []),
  (115, 610, .putfield 223, 3, (9, 70, 1), 0, [(0, 983)]),
  (115, 613, .aload_n 0, 1, (0, 0, 0), 0, []),
  (115, 614, .bipush 8, 2, (0, 0, 0), 8, []),
  (115, 616, .newarray .int, 2, (100, 0, 0), 0, []),
  (115, 618, .putfield 226, 3, (9, 71, 1), 0, [(0, 984)]),
  (115, 621, .aload_n 0, 1, (0, 0, 0), 0, []),
  (115, 622, .bipush 8, 2, (0, 0, 0), 8, []),
  (115, 624, .newarray .int, 2, (100, 0, 0), 0, []),
  (115, 626, .putfield 229, 3, (9, 72, 1), 0, [(0, 985)]),
  (115, 629, .aload_n 0, 1, (0, 0, 0), 0, []),
  (115, 630, .bipush 6, 2, (0, 0, 0), 6, []),
  (115, 632, .newarray .boolean, 2, (102, 0, 0), 0, []),
  (115, 634, .putfield 232, 3, (9, 73, 1), 0, [(0, 986)]),
  (115, 637, .aload_n 0, 1, (0, 0, 0), 0, []),
  (115, 638, .iconst 0, 1, (0, 0, 0), 0, []),
  (115, 639, .putfield 235, 3, (9, 74, 0), 0, [(0, 987)]),
  (115, 642, .aload_n 0, 1, (0, 0, 0), 0, []),
  (115, 643, .bipush 20, 2, (0, 0, 0), 20, []),
  (115, 645, .newarray .int, 2, (100, 0, 0), 0, []),
  (115, 647, .putfield 238, 3, (9, 75, 1), 0, [(0, 988)]),
  (115, 650, .aload_n 0, 1, (0, 0, 0), 0, []),
  (115, 651, .bipush 6, 2, (0, 0, 0), 6, []),
  (115, 653, .newarray .int, 2, (100, 0, 0), 0, []),
  (115, 655, .dup, 1, (0, 0, 0), 0, []),
  (115, 656, .iconst 0, 1, (0, 0, 0), 0, []),
  (115, 657, .iconst (-1), 1, (0, 0, 0), (-1), []),
  (115, 658, .iastore, 1, (0, 0, 0), 0, []),
  (115, 659, .dup, 1, (0, 0, 0), 0, []),
  (115, 660, .iconst 1, 1, (0, 0, 0), 1, []),
  (115, 661, .iconst (-1), 1, (0, 0, 0), (-1), []),
  (115, 662, .iastore, 1, (0, 0, 0), 0, []),
  (115, 663, .dup, 1, (0, 0, 0), 0, []),
  (115, 664, .iconst 2, 1, (0, 0, 0), 2, []),
  (115, 665, .iconst (-1), 1, (0, 0, 0), (-1), []),
  (115, 666, .iastore, 1, (0, 0, 0), 0, []),
  (115, 667, .dup, 1, (0, 0, 0), 0, []),
  (115, 668, .iconst 3, 1, (0, 0, 0), 3, []),
  (115, 669, .iconst (-1), 1, (0, 0, 0), (-1), []),
  (115, 670, .iastore, 1, (0, 0, 0), 0, []),
  (115, 671, .dup, 1, (0, 0, 0), 0, []),
  (115, 672, .iconst 4, 1, (0, 0, 0), 4, []),
  (115, 673, .iconst (-1), 1, (0, 0, 0), (-1), []),
  (115, 674, .iastore, 1, (0, 0, 0), 0, []),
  (115, 675, .dup, 1, (0, 0, 0), 0, []),
  (115, 676, .iconst 5, 1, (0, 0, 0), 5, []),
  (115, 677, .iconst (-1), 1, (0, 0, 0), (-1), []),
  (115, 678, .iastore, 1, (0, 0, 0), 0, []),
  (115, 679, .putfield 241, 3, (9, 76, 1), 0, [(0, 989)]),
  (115, 682, .aload_n 0, 1, (0, 0, 0), 0, []),
  (115, 683, .bipush 6, 2, (0, 0, 0), 6, []),
  (115, 685, .newarray .int, 2, (100, 0, 0), 0, []),
  (115, 687, .putfield 244, 3, (9, 77, 1), 0, [(0, 990)]),
  (115, 690, .aload_n 0, 1, (0, 0, 0), 0, []),
  (115, 691, .sipush 360, 3, (0, 0, 0), 360, []),
  (115, 694, .newarray .long, 2, (101, 0, 0), 0, []),
  (115, 696, .putfield 247, 3, (9, 78, 1), 0, [(0, 991)]),
  (115, 699, .aload_n 0, 1, (0, 0, 0), 0, []),
  (115, 700, .bipush 60, 2, (0, 0, 0), 60, []),
  (115, 702, .newarray .long, 2, (101, 0, 0), 0, []),
  (115, 704, .putfield 251, 3, (9, 79, 1), 0, [(0, 992)]),
  (115, 707, .return_, 1, (0, 0, 0), 0, [])]
def rows_116 : List mRow := [
  (116, 0, .iload_n 1, 1, (1, 0, 0), 0, []),
  (116, 1, .iload_n 2, 1, (2, 0, 0), 0, []),
  (116, 2, .if_icmp .lt 12, 3, (14, 0, 0), 0, []),
  (116, 5, .iload_n 1, 1, (1, 0, 0), 0, []),
  (116, 6, .iload_n 3, 1, (3, 0, 0), 0, []),
  (116, 7, .if_icmp .gt 7, 3, (14, 0, 0), 0, []),
  (116, 10, .iconst 1, 1, (0, 0, 0), 1, []),
  (116, 11, .goto 4, 3, (15, 0, 0), 0, []),
  (116, 14, .iconst 0, 1, (0, 0, 0), 0, []),
  (116, 15, .ireturn, 1, (1, 0, 0), 0, [])]
def rows_117 : List mRow := [
  (117, 0, .iload_n 1, 1, (1, 0, 0), 0, []),
  (117, 1, .iload_n 2, 1, (2, 0, 0), 0, []),
  (117, 2, .ishr, 1, (0, 0, 0), 0, []),
  (117, 3, .iconst 1, 1, (0, 0, 0), 1, []),
  (117, 4, .iand, 1, (0, 0, 0), 0, []),
  (117, 5, .iconst 1, 1, (0, 0, 0), 1, []),
  (117, 6, .if_icmp .ne 7, 3, (13, 0, 0), 0, []),
  (117, 9, .iconst 1, 1, (0, 0, 0), 1, []),
  (117, 10, .goto 4, 3, (14, 0, 0), 0, []),
  (117, 13, .iconst 0, 1, (0, 0, 0), 0, []),
  (117, 14, .ireturn, 1, (1, 0, 0), 0, [])]
def rows_118 : List mRow := [
  (118, 0, .iload_n 1, 1, (1, 0, 0), 0, []),
  (118, 1, .iload_n 2, 1, (2, 0, 0), 0, []),
  (118, 2, .if_icmp .ge 7, 3, (9, 0, 0), 0, []),
  (118, 5, .iload_n 1, 1, (1, 0, 0), 0, []),
  (118, 6, .goto 4, 3, (10, 0, 0), 0, []),
  (118, 9, .iload_n 2, 1, (2, 0, 0), 0, []),
  (118, 10, .ireturn, 1, (0, 0, 0), 0, [])]
def rows_119 : List mRow := [
  (119, 0, .aload_n 0, 1, (0, 0, 0), 0, []),
  (119, 1, .iload_n 1, 1, (1, 0, 0), 0, []),
  (119, 2, .iconst 0, 1, (0, 0, 0), 0, []),
  (119, 3, .aload_n 0, 1, (0, 0, 0), 0, []),
  (119, 4, .getfield 7, 3, (9, 0, 0), 0, [(0, 913)]),
  (119, 7, .iconst 1, 1, (0, 0, 0), 1, []),
  (119, 8, .isub, 1, (0, 0, 0), 0, []),
  (119, 9, .invokevirtual 254, 3, (116, 4, 1), 0, [(0, 1159)]),
  (119, 12, .ireturn, 1, (1, 0, 0), 0, [])]
def rows_120 : List mRow := [
  (120, 0, .aload_n 0, 1, (0, 0, 0), 0, []),
  (120, 1, .iload_n 1, 1, (1, 0, 0), 0, []),
  (120, 2, .iconst 0, 1, (0, 0, 0), 0, []),
  (120, 3, .iconst 5, 1, (0, 0, 0), 5, []),
  (120, 4, .invokevirtual 254, 3, (116, 4, 1), 0, [(0, 1159)]),
  (120, 7, .ireturn, 1, (1, 0, 0), 0, [])]
def rows_121 : List mRow := [
  (121, 0, .aload_n 0, 1, (0, 0, 0), 0, []),
  (121, 1, .iload_n 1, 1, (1, 0, 0), 0, []),
  (121, 2, .iconst 0, 1, (0, 0, 0), 0, []),
  (121, 3, .bipush 23, 2, (0, 0, 0), 23, []),
  (121, 5, .invokevirtual 254, 3, (116, 4, 1), 0, [(0, 1159)]),
  (121, 8, .ireturn, 1, (1, 0, 0), 0, [])]
def rows_122 : List mRow := [
  (122, 0, .aload_n 0, 1, (0, 0, 0), 0, []),
  (122, 1, .iload_n 1, 1, (1, 0, 0), 0, []),
  (122, 2, .iconst 0, 1, (0, 0, 0), 0, []),
  (122, 3, .bipush 60, 2, (0, 0, 0), 60, []),
  (122, 5, .invokevirtual 254, 3, (116, 4, 1), 0, [(0, 1159)]),
  (122, 8, .ireturn, 1, (1, 0, 0), 0, [])]
def rows_123 : List mRow := [
  (123, 0, .aload_n 0, 1, (0, 0, 0), 0, []),
  (123, 1, .iload_n 1, 1, (1, 0, 0), 0, []),
  (123, 2, .iconst 0, 1, (0, 0, 0), 0, []),
  (123, 3, .bipush 6, 2, (0, 0, 0), 6, []),
  (123, 5, .invokevirtual 254, 3, (116, 4, 1), 0, [(0, 1159)]),
  (123, 8, .ifCond .ne 5, 3, (13, 0, 0), 0, []),
  (123, 11, .iconst (-1), 1, (0, 0, 0), (-1), []),
  (123, 12, .ireturn, 1, (0, 0, 0), 0, []),
  (123, 13, .aload_n 0, 1, (0, 0, 0), 0, []),
  (123, 14, .iload_n 2, 1, (2, 0, 0), 0, []),
  (123, 15, .iconst 0, 1, (0, 0, 0), 0, []),
  (123, 16, .bipush 9, 2, (0, 0, 0), 9, []),
  (123, 18, .invokevirtual 254, 3, (116, 4, 1), 0, [(0, 1159)]),
  (123, 21, .ifCond .eq 14, 3, (35, 0, 0), 0, []),
  (123, 24, .aload_n 0, 1, (0, 0, 0), 0, []),
  (123, 25, .iload_n 3, 1, (3, 0, 0), 0, []),
  (123, 26, .iconst 0, 1, (0, 0, 0), 0, []),
  (123, 27, .bipush 99, 2, (0, 0, 0), 99, []),
  (123, 29, .invokevirtual 254, 3, (116, 4, 1), 0, [(0, 1159)]),
  (123, 32, .ifCond .ne 6, 3, (38, 0, 0), 0, []),
  (123, 35, .bipush (-2), 2, (0, 0, 0), (-2), []),
  (123, 37, .ireturn, 1, (0, 0, 0), 0, []),
  (123, 38, .aload_n 0, 1, (0, 0, 0), 0, []),
  (123, 39, .getfield 7, 3, (9, 0, 0), 0, [(0, 913)]),
  (123, 42, .bipush 6, 2, (0, 0, 0), 6, []),
  (123, 44, .if_icmp .ne 6, 3, (50, 0, 0), 0, []),
  (123, 47, .bipush (-4), 2, (0, 0, 0), (-4), []),
  (123, 49, .ireturn, 1, (0, 0, 0), 0, []),
  (123, 50, .aload_n 0, 1, (0, 0, 0), 0, []),
  (123, 51, .getfield 22, 3, (9, 4, 1), 0, [(0, 917)]),
  (123, 54, .aload_n 0, 1, (0, 0, 0), 0, []),
  (123, 55, .getfield 7, 3, (9, 0, 0), 0, [(0, 913)]),
  (123, 58, .iload_n 1, 1, (1, 0, 0), 0, []),
  (123, 59, .iastore, 1, (0, 0, 0), 0, []),
  (123, 60, .aload_n 0, 1, (0, 0, 0), 0, []),
  (123, 61, .getfield 26, 3, (9, 5, 1), 0, [(0, 918)]),
  (123, 64, .aload_n 0, 1, (0, 0, 0), 0, []),
  (123, 65, .getfield 7, 3, (9, 0, 0), 0, [(0, 913)]),
  (123, 68, .iload_n 2, 1, (2, 0, 0), 0, []),
  (123, 69, .iastore, 1, (0, 0, 0), 0, []),
  (123, 70, .aload_n 0, 1, (0, 0, 0), 0, []),
  (123, 71, .getfield 29, 3, (9, 6, 1), 0, [(0, 919)]),
  (123, 74, .aload_n 0, 1, (0, 0, 0), 0, []),
  (123, 75, .getfield 7, 3, (9, 0, 0), 0, [(0, 913)]),
  (123, 78, .iload_n 3, 1, (3, 0, 0), 0, []),
  (123, 79, .iastore, 1, (0, 0, 0), 0, []),
  (123, 80, .aload_n 0, 1, (0, 0, 0), 0, []),
  (123, 81, .dup, 1, (0, 0, 0), 0, []),
  (123, 82, .getfield 13, 3, (9, 1, 0), 0, [(0, 914)]),
  (123, 85, .iconst 1, 1, (0, 0, 0), 1, []),
  (123, 86, .aload_n 0, 1, (0, 0, 0), 0, []),
  (123, 87, .getfield 7, 3, (9, 0, 0), 0, [(0, 913)]),
  (123, 90, .ishl, 1, (0, 0, 0), 0, []),
  (123, 91, .iconst (-1), 1, (0, 0, 0), (-1), []),
  (123, 92, .ixor, 1, (0, 0, 0), 0, []),
  (123, 93, .iand, 1, (0, 0, 0), 0, []),
  (123, 94, .putfield 13, 3, (9, 1, 0), 0, [(0, 914)]),
  (123, 97, .iconst 0, 1, (0, 0, 0), 0, []),
  (123, 98, .istore 4, 2, (4, 0, 0), 0, []),
  (123, 100, .iload 4, 2, (4, 0, 0), 0, []),
  (123, 102, .bipush 6, 2, (0, 0, 0), 6, []),
  (123, 104, .if_icmp .ge 25, 3, (129, 0, 0), 0, []),
  (123, 107, .aload_n 0, 1, (0, 0, 0), 0, []),
  (123, 108, .getfield 32, 3, (9, 7, 1), 0, [(0, 920)]),
  (123, 111, .bipush 6, 2, (0, 0, 0), 6, []),
  (123, 113, .aload_n 0, 1, (0, 0, 0), 0, []),
  (123, 114, .getfield 7, 3, (9, 0, 0), 0, [(0, 913)]),
  (123, 117, .imul, 1, (0, 0, 0), 0, []),
  (123, 118, .iload 4, 2, (4, 0, 0), 0, []),
  (123, 120, .iadd, 1, (0, 0, 0), 0, []),
  (123, 121, .iload_n 2, 1, (2, 0, 0), 0, []),
  (123, 122, .iastore, 1, (0, 0, 0), 0, []),
  (123, 123, .iinc 4 1, 3, (4, 0, 0), 1, []),
  (123, 126, .goto (-26), 3, (100, 0, 0), 0, []),
  (123, 129, .iconst 0, 1, (0, 0, 0), 0, []),
  (123, 130, .istore 4, 2, (4, 0, 0), 0, []),
  (123, 132, .iload 4, 2, (4, 0, 0), 0, []),
  (123, 134, .iconst 4, 1, (0, 0, 0), 4, []),
  (123, 135, .if_icmp .ge 24, 3, (159, 0, 0), 0, []),
  (123, 138, .aload_n 0, 1, (0, 0, 0), 0, []),
  (123, 139, .getfield 35, 3, (9, 8, 1), 0, [(0, 921)]),
  (123, 142, .iconst 4, 1, (0, 0, 0), 4, []),
  (123, 143, .aload_n 0, 1, (0, 0, 0), 0, []),
  (123, 144, .getfield 7, 3, (9, 0, 0), 0, [(0, 913)]),
  (123, 147, .imul, 1, (0, 0, 0), 0, []),
  (123, 148, .iload 4, 2, (4, 0, 0), 0, []),
  (123, 150, .iadd, 1, (0, 0, 0), 0, []),
  (123, 151, .iconst 0, 1, (0, 0, 0), 0, []),
  (123, 152, .iastore, 1, (0, 0, 0), 0, []),
  (123, 153, .iinc 4 1, 3, (4, 0, 0), 1, []),
  (123, 156, .goto (-24), 3, (132, 0, 0), 0, []),
  (123, 159, .aload_n 0, 1, (0, 0, 0), 0, []),
  (123, 160, .dup, 1, (0, 0, 0), 0, []),
  (123, 161, .getfield 7, 3, (9, 0, 0), 0, [(0, 913)]),
  (123, 164, .iconst 1, 1, (0, 0, 0), 1, []),
  (123, 165, .iadd, 1, (0, 0, 0), 0, []),
  (123, 166, .putfield 7, 3, (9, 0, 0), 0, [(0, 913)]),
  (123, 169, .aload_n 0, 1, (0, 0, 0), 0, []),
  (123, 170, .getfield 7, 3, (9, 0, 0), 0, [(0, 913)]),
  (123, 173, .iconst 1, 1, (0, 0, 0), 1, []),
  (123, 174, .isub, 1, (0, 0, 0), 0, []),
  (123, 175, .ireturn, 1, (0, 0, 0), 0, [])]
def rows_124 : List mRow := [
  (124, 0, .aload_n 0, 1, (0, 0, 0), 0, []),
  (124, 1, .iload_n 1, 1, (1, 0, 0), 0, []),
  (124, 2, .invokevirtual 258, 3, (119, 2, 1), 0, [(0, 1167)]),
  (124, 5, .ifCond .eq 11, 3, (16, 0, 0), 0, []),
  (124, 8, .aload_n 0, 1, (0, 0, 0), 0, []),
  (124, 9, .iload_n 2, 1, (2, 0, 0), 0, []),
  (124, 10, .invokevirtual 262, 3, (120, 2, 1), 0, [(0, 1171)]),
  (124, 13, .ifCond .ne 5, 3, (18, 0, 0), 0, []),
  (124, 16, .iconst (-1), 1, (0, 0, 0), (-1), []),
  (124, 17, .ireturn, 1, (0, 0, 0), 0, []),
  (124, 18, .aload_n 0, 1, (0, 0, 0), 0, []),
  (124, 19, .iload_n 3, 1, (3, 0, 0), 0, []),
  (124, 20, .iconst 0, 1, (0, 0, 0), 0, []),
  (124, 21, .bipush 9, 2, (0, 0, 0), 9, []),
  (124, 23, .invokevirtual 254, 3, (116, 4, 1), 0, [(0, 1159)]),
  (124, 26, .ifCond .ne 6, 3, (32, 0, 0), 0, []),
  (124, 29, .bipush (-2), 2, (0, 0, 0), (-2), []),
  (124, 31, .ireturn, 1, (0, 0, 0), 0, []),
  (124, 32, .aload_n 0, 1, (0, 0, 0), 0, []),
  (124, 33, .getfield 32, 3, (9, 7, 1), 0, [(0, 920)]),
  (124, 36, .bipush 6, 2, (0, 0, 0), 6, []),
  (124, 38, .iload_n 1, 1, (1, 0, 0), 0, []),
  (124, 39, .imul, 1, (0, 0, 0), 0, []),
  (124, 40, .iload_n 2, 1, (2, 0, 0), 0, []),
  (124, 41, .iadd, 1, (0, 0, 0), 0, []),
  (124, 42, .iaload, 1, (0, 0, 0), 0, []),
  (124, 43, .istore 4, 2, (4, 0, 0), 0, []),
  (124, 45, .aload_n 0, 1, (0, 0, 0), 0, []),
  (124, 46, .getfield 32, 3, (9, 7, 1), 0, [(0, 920)]),
  (124, 49, .bipush 6, 2, (0, 0, 0), 6, []),
  (124, 51, .iload_n 1, 1, (1, 0, 0), 0, []),
  (124, 52, .imul, 1, (0, 0, 0), 0, []),
  (124, 53, .iload_n 2, 1, (2, 0, 0), 0, []),
  (124, 54, .iadd, 1, (0, 0, 0), 0, []),
  (124, 55, .iload_n 3, 1, (3, 0, 0), 0, []),
  (124, 56, .iastore, 1, (0, 0, 0), 0, []),
  (124, 57, .iload 4, 2, (4, 0, 0), 0, []),
  (124, 59, .ireturn, 1, (0, 0, 0), 0, [])]
def rows_125 : List mRow := [
  (125, 0, .aload_n 0, 1, (0, 0, 0), 0, []),
  (125, 1, .iload_n 2, 1, (2, 0, 0), 0, []),
  (125, 2, .ifCond .eq 14, 3, (16, 0, 0), 0, []),
  (125, 5, .aload_n 0, 1, (0, 0, 0), 0, []),
  (125, 6, .getfield 13, 3, (9, 1, 0), 0, [(0, 914)]),
  (125, 9, .iconst 1, 1, (0, 0, 0), 1, []),
  (125, 10, .iload_n 1, 1, (1, 0, 0), 0, []),
  (125, 11, .ishl, 1, (0, 0, 0), 0, []),
  (125, 12, .ior, 1, (0, 0, 0), 0, []),
  (125, 13, .goto 13, 3, (26, 0, 0), 0, []),
  (125, 16, .aload_n 0, 1, (0, 0, 0), 0, []),
  (125, 17, .getfield 13, 3, (9, 1, 0), 0, [(0, 914)]),
  (125, 20, .iconst 1, 1, (0, 0, 0), 1, []),
  (125, 21, .iload_n 1, 1, (1, 0, 0), 0, []),
  (125, 22, .ishl, 1, (0, 0, 0), 0, []),
  (125, 23, .iconst (-1), 1, (0, 0, 0), (-1), []),
  (125, 24, .ixor, 1, (0, 0, 0), 0, []),
  (125, 25, .iand, 1, (0, 0, 0), 0, []),
  (125, 26, .putfield 13, 3, (9, 1, 0), 0, [(0, 914)]),
  (125, 29, .return_, 1, (0, 0, 0), 0, [])]
def rows_126 : List mRow := [
  (126, 0, .aload_n 0, 1, (0, 0, 0), 0, []),
  (126, 1, .iload_n 1, 1, (1, 0, 0), 0, []),
  (126, 2, .invokevirtual 258, 3, (119, 2, 1), 0, [(0, 1167)]),
  (126, 5, .ifCond .ne 5, 3, (10, 0, 0), 0, []),
  (126, 8, .iconst (-1), 1, (0, 0, 0), (-1), []),
  (126, 9, .ireturn, 1, (0, 0, 0), 0, []),
  (126, 10, .aload_n 0, 1, (0, 0, 0), 0, []),
  (126, 11, .aload_n 0, 1, (0, 0, 0), 0, []),
  (126, 12, .getfield 13, 3, (9, 1, 0), 0, [(0, 914)]),
  (126, 15, .iload_n 1, 1, (1, 0, 0), 0, []),
  (126, 16, .invokevirtual 265, 3, (117, 3, 1), 0, [(0, 1179)]),
  (126, 19, .ifCond .eq 7, 3, (26, 0, 0), 0, []),
  (126, 22, .iconst 1, 1, (0, 0, 0), 1, []),
  (126, 23, .goto 4, 3, (27, 0, 0), 0, []),
  (126, 26, .iconst 0, 1, (0, 0, 0), 0, []),
  (126, 27, .istore_n 3, 1, (3, 0, 0), 0, []),
  (126, 28, .aload_n 0, 1, (0, 0, 0), 0, []),
  (126, 29, .iload_n 1, 1, (1, 0, 0), 0, []),
  (126, 30, .iload_n 2, 1, (2, 0, 0), 0, []),
  (126, 31, .invokevirtual 269, 3, (125, 3, 0), 0, [(0, 1183)]),
  (126, 34, .iload_n 3, 1, (3, 0, 0), 0, []),
  (126, 35, .ireturn, 1, (0, 0, 0), 0, [])]
def rows_127 : List mRow := [
  (127, 0, .aload_n 0, 1, (0, 0, 0), 0, []),
  (127, 1, .iload_n 1, 1, (1, 0, 0), 0, []),
  (127, 2, .invokevirtual 258, 3, (119, 2, 1), 0, [(0, 1167)]),
  (127, 5, .ifCond .eq 13, 3, (18, 0, 0), 0, []),
  (127, 8, .aload_n 0, 1, (0, 0, 0), 0, []),
  (127, 9, .iload_n 2, 1, (2, 0, 0), 0, []),
  (127, 10, .iconst 0, 1, (0, 0, 0), 0, []),
  (127, 11, .iconst 3, 1, (0, 0, 0), 3, []),
  (127, 12, .invokevirtual 254, 3, (116, 4, 1), 0, [(0, 1159)]),
  (127, 15, .ifCond .ne 5, 3, (20, 0, 0), 0, []),
  (127, 18, .iconst (-1), 1, (0, 0, 0), (-1), []),
  (127, 19, .ireturn, 1, (0, 0, 0), 0, []),
  (127, 20, .aload_n 0, 1, (0, 0, 0), 0, []),
  (127, 21, .iload_n 3, 1, (3, 0, 0), 0, []),
  (127, 22, .iconst 0, 1, (0, 0, 0), 0, []),
  (127, 23, .bipush 9, 2, (0, 0, 0), 9, []),
  (127, 25, .invokevirtual 254, 3, (116, 4, 1), 0, [(0, 1159)]),
  (127, 28, .ifCond .ne 6, 3, (34, 0, 0), 0, []),
  (127, 31, .bipush (-2), 2, (0, 0, 0), (-2), []),
  (127, 33, .ireturn, 1, (0, 0, 0), 0, []),
  (127, 34, .aload_n 0, 1, (0, 0, 0), 0, []),
  (127, 35, .getfield 22, 3, (9, 4, 1), 0, [(0, 917)]),
  (127, 38, .iload_n 1, 1, (1, 0, 0), 0, []),
  (127, 39, .iaload, 1, (0, 0, 0), 0, []),
  (127, 40, .bipush 6, 2, (0, 0, 0), 6, []),
  (127, 42, .if_icmp .eq 6, 3, (48, 0, 0), 0, []),
  (127, 45, .bipush (-3), 2, (0, 0, 0), (-3), []),
  (127, 47, .ireturn, 1, (0, 0, 0), 0, []),
  (127, 48, .aload_n 0, 1, (0, 0, 0), 0, []),
  (127, 49, .getfield 35, 3, (9, 8, 1), 0, [(0, 921)]),
  (127, 52, .iconst 4, 1, (0, 0, 0), 4, []),
  (127, 53, .iload_n 1, 1, (1, 0, 0), 0, []),
  (127, 54, .imul, 1, (0, 0, 0), 0, []),
  (127, 55, .iload_n 2, 1, (2, 0, 0), 0, []),
  (127, 56, .iadd, 1, (0, 0, 0), 0, []),
  (127, 57, .iaload, 1, (0, 0, 0), 0, []),
  (127, 58, .istore 4, 2, (4, 0, 0), 0, []),
  (127, 60, .aload_n 0, 1, (0, 0, 0), 0, []),
  (127, 61, .getfield 35, 3, (9, 8, 1), 0, [(0, 921)]),
  (127, 64, .iconst 4, 1, (0, 0, 0), 4, []),
  (127, 65, .iload_n 1, 1, (1, 0, 0), 0, []),
  (127, 66, .imul, 1, (0, 0, 0), 0, []),
  (127, 67, .iload_n 2, 1, (2, 0, 0), 0, []),
  (127, 68, .iadd, 1, (0, 0, 0), 0, []),
  (127, 69, .iload_n 3, 1, (3, 0, 0), 0, []),
  (127, 70, .iastore, 1, (0, 0, 0), 0, []),
  (127, 71, .iload 4, 2, (4, 0, 0), 0, []),
  (127, 73, .ireturn, 1, (0, 0, 0), 0, [])]
def rows_128 : List mRow := [
  (128, 0, .aload_n 0, 1, (0, 0, 0), 0, []),
  (128, 1, .iload_n 1, 1, (1, 0, 0), 0, []),
  (128, 2, .invokevirtual 273, 3, (121, 2, 1), 0, [(0, 1195)]),
  (128, 5, .ifCond .ne 6, 3, (11, 0, 0), 0, []),
  (128, 8, .bipush (-2), 2, (0, 0, 0), (-2), []),
  (128, 10, .ireturn, 1, (0, 0, 0), 0, []),
  (128, 11, .aload_n 0, 1, (0, 0, 0), 0, []),
  (128, 12, .getfield 16, 3, (9, 2, 0), 0, [(0, 915)]),
  (128, 15, .istore_n 2, 1, (2, 0, 0), 0, []),
  (128, 16, .aload_n 0, 1, (0, 0, 0), 0, []),
  (128, 17, .iload_n 1, 1, (1, 0, 0), 0, []),
  (128, 18, .putfield 16, 3, (9, 2, 0), 0, [(0, 915)]),
  (128, 21, .iload_n 2, 1, (2, 0, 0), 0, []),
  (128, 22, .ireturn, 1, (0, 0, 0), 0, [])]
def rows_129 : List mRow := [
  (129, 0, .aload_n 0, 1, (0, 0, 0), 0, []),
  (129, 1, .iload_n 1, 1, (1, 0, 0), 0, []),
  (129, 2, .iconst 0, 1, (0, 0, 0), 0, []),
  (129, 3, .bipush 127, 2, (0, 0, 0), 127, []),
  (129, 5, .invokevirtual 254, 3, (116, 4, 1), 0, [(0, 1159)]),
  (129, 8, .ifCond .ne 6, 3, (14, 0, 0), 0, []),
  (129, 11, .bipush (-2), 2, (0, 0, 0), (-2), []),
  (129, 13, .ireturn, 1, (0, 0, 0), 0, []),
  (129, 14, .aload_n 0, 1, (0, 0, 0), 0, []),
  (129, 15, .getfield 44, 3, (9, 11, 0), 0, [(0, 924)]),
  (129, 18, .bipush 100, 2, (0, 0, 0), 100, []),
  (129, 20, .if_icmp .ne 6, 3, (26, 0, 0), 0, []),
  (129, 23, .bipush (-4), 2, (0, 0, 0), (-4), []),
  (129, 25, .ireturn, 1, (0, 0, 0), 0, []),
  (129, 26, .aload_n 0, 1, (0, 0, 0), 0, []),
  (129, 27, .getfield 53, 3, (9, 14, 1), 0, [(0, 927)]),
  (129, 30, .aload_n 0, 1, (0, 0, 0), 0, []),
  (129, 31, .getfield 44, 3, (9, 11, 0), 0, [(0, 924)]),
  (129, 34, .iload_n 1, 1, (1, 0, 0), 0, []),
  (129, 35, .iastore, 1, (0, 0, 0), 0, []),
  (129, 36, .aload_n 0, 1, (0, 0, 0), 0, []),
  (129, 37, .dup, 1, (0, 0, 0), 0, []),
  (129, 38, .getfield 44, 3, (9, 11, 0), 0, [(0, 924)]),
  (129, 41, .iconst 1, 1, (0, 0, 0), 1, []),
  (129, 42, .iadd, 1, (0, 0, 0), 0, []),
  (129, 43, .putfield 44, 3, (9, 11, 0), 0, [(0, 924)]),
  (129, 46, .aload_n 0, 1, (0, 0, 0), 0, []),
  (129, 47, .getfield 44, 3, (9, 11, 0), 0, [(0, 924)]),
  (129, 50, .ireturn, 1, (0, 0, 0), 0, [])]
def rows_130 : List mRow := [
  (130, 0, .aload_n 0, 1, (0, 0, 0), 0, []),
  (130, 1, .getfield 47, 3, (9, 12, 0), 0, [(0, 925)]),
  (130, 4, .aload_n 0, 1, (0, 0, 0), 0, []),
  (130, 5, .getfield 44, 3, (9, 11, 0), 0, [(0, 924)]),
  (130, 8, .if_icmp .ge 15, 3, (23, 0, 0), 0, []),
  (130, 11, .aload_n 0, 1, (0, 0, 0), 0, []),
  (130, 12, .getfield 53, 3, (9, 14, 1), 0, [(0, 927)]),
  (130, 15, .aload_n 0, 1, (0, 0, 0), 0, []),
  (130, 16, .getfield 47, 3, (9, 12, 0), 0, [(0, 925)]),
  (130, 19, .iaload, 1, (0, 0, 0), 0, []),
  (130, 20, .goto 4, 3, (24, 0, 0), 0, []),
  (130, 23, .iconst (-1), 1, (0, 0, 0), (-1), []),
  (130, 24, .ireturn, 1, (0, 0, 0), 0, [])]
def rows_131 : List mRow := [
  (131, 0, .aload_n 0, 1, (0, 0, 0), 0, []),
  (131, 1, .invokevirtual 276, 3, (130, 1, 1), 0, [(0, 1219)]),
  (131, 4, .iload_n 1, 1, (1, 0, 0), 0, []),
  (131, 5, .if_icmp .eq 5, 3, (10, 0, 0), 0, []),
  (131, 8, .iconst 0, 1, (0, 0, 0), 0, []),
  (131, 9, .ireturn, 1, (1, 0, 0), 0, []),
  (131, 10, .aload_n 0, 1, (0, 0, 0), 0, []),
  (131, 11, .dup, 1, (0, 0, 0), 0, []),
  (131, 12, .getfield 47, 3, (9, 12, 0), 0, [(0, 925)]),
  (131, 15, .iconst 1, 1, (0, 0, 0), 1, []),
  (131, 16, .iadd, 1, (0, 0, 0), 0, []),
  (131, 17, .putfield 47, 3, (9, 12, 0), 0, [(0, 925)]),
  (131, 20, .iconst 1, 1, (0, 0, 0), 1, []),
  (131, 21, .ireturn, 1, (1, 0, 0), 0, [])]
def rows_132 : List mRow := [
  (132, 0, .iconst 0, 1, (0, 0, 0), 0, []),
  (132, 1, .istore_n 3, 1, (3, 0, 0), 0, []),
  (132, 2, .iload_n 3, 1, (3, 0, 0), 0, []),
  (132, 3, .iload_n 2, 1, (2, 0, 0), 0, []),
  (132, 4, .if_icmp .ge 26, 3, (30, 0, 0), 0, []),
  (132, 7, .aload_n 0, 1, (0, 0, 0), 0, []),
  (132, 8, .aload_n 0, 1, (0, 0, 0), 0, []),
  (132, 9, .getfield 86, 3, (9, 25, 1), 0, [(0, 938)]),
  (132, 12, .iload_n 1, 1, (1, 0, 0), 0, []),
  (132, 13, .iload_n 3, 1, (3, 0, 0), 0, []),
  (132, 14, .iadd, 1, (0, 0, 0), 0, []),
  (132, 15, .iaload, 1, (0, 0, 0), 0, []),
  (132, 16, .invokevirtual 280, 3, (131, 2, 1), 0, [(0, 1227)]),
  (132, 19, .ifCond .ne 5, 3, (24, 0, 0), 0, []),
  (132, 22, .iconst 0, 1, (0, 0, 0), 0, []),
  (132, 23, .ireturn, 1, (1, 0, 0), 0, []),
  (132, 24, .iinc 3 1, 3, (3, 0, 0), 1, []),
  (132, 27, .goto (-25), 3, (2, 0, 0), 0, []),
  (132, 30, .aload_n 0, 1, (0, 0, 0), 0, []),
  (132, 31, .bipush 32, 2, (0, 0, 0), 32, []),
  (132, 33, .invokevirtual 280, 3, (131, 2, 1), 0, [(0, 1227)]),
  (132, 36, .ireturn, 1, (1, 0, 0), 0, [])]
def rows_133 : List mRow := [
  (133, 0, .aload_n 0, 1, (0, 0, 0), 0, []),
  (133, 1, .aload_n 0, 1, (0, 0, 0), 0, []),
  (133, 2, .invokevirtual 276, 3, (130, 1, 1), 0, [(0, 1219)]),
  (133, 5, .bipush 48, 2, (0, 0, 0), 48, []),
  (133, 7, .bipush 57, 2, (0, 0, 0), 57, []),
  (133, 9, .invokevirtual 254, 3, (116, 4, 1), 0, [(0, 1159)]),
  (133, 12, .ireturn, 1, (1, 0, 0), 0, [])]
def rows_134 : List mRow := [
  (134, 0, .aload_n 0, 1, (0, 0, 0), 0, []),
  (134, 1, .invokevirtual 283, 3, (133, 1, 1), 0, [(0, 1235)]),
  (134, 4, .ifCond .ne 5, 3, (9, 0, 0), 0, []),
  (134, 7, .iconst 0, 1, (0, 0, 0), 0, []),
  (134, 8, .ireturn, 1, (1, 0, 0), 0, []),
  (134, 9, .aload_n 0, 1, (0, 0, 0), 0, []),
  (134, 10, .iconst 0, 1, (0, 0, 0), 0, []),
  (134, 11, .putfield 50, 3, (9, 13, 0), 0, [(0, 926)]),
  (134, 14, .iconst 0, 1, (0, 0, 0), 0, []),
  (134, 15, .istore_n 1, 1, (1, 0, 0), 0, []),
  (134, 16, .iload_n 1, 1, (1, 0, 0), 0, []),
  (134, 17, .iconst 2, 1, (0, 0, 0), 2, []),
  (134, 18, .if_icmp .ge 45, 3, (63, 0, 0), 0, []),
  (134, 21, .aload_n 0, 1, (0, 0, 0), 0, []),
  (134, 22, .invokevirtual 283, 3, (133, 1, 1), 0, [(0, 1235)]),
  (134, 25, .ifCond .eq 38, 3, (63, 0, 0), 0, []),
  (134, 28, .aload_n 0, 1, (0, 0, 0), 0, []),
  (134, 29, .bipush 10, 2, (0, 0, 0), 10, []),
  (134, 31, .aload_n 0, 1, (0, 0, 0), 0, []),
  (134, 32, .getfield 50, 3, (9, 13, 0), 0, [(0, 926)]),
  (134, 35, .imul, 1, (0, 0, 0), 0, []),
  (134, 36, .aload_n 0, 1, (0, 0, 0), 0, []),
  (134, 37, .invokevirtual 276, 3, (130, 1, 1), 0, [(0, 1219)]),
  (134, 40, .iadd, 1, (0, 0, 0), 0, []),
  (134, 41, .bipush 48, 2, (0, 0, 0), 48, []),
  (134, 43, .isub, 1, (0, 0, 0), 0, []),
  (134, 44, .putfield 50, 3, (9, 13, 0), 0, [(0, 926)]),
  (134, 47, .aload_n 0, 1, (0, 0, 0), 0, []),
  (134, 48, .dup, 1, (0, 0, 0), 0, []),
  (134, 49, .getfield 47, 3, (9, 12, 0), 0, [(0, 925)]),
  (134, 52, .iconst 1, 1, (0, 0, 0), 1, []),
  (134, 53, .iadd, 1, (0, 0, 0), 0, []),
  (134, 54, .putfield 47, 3, (9, 12, 0), 0, [(0, 925)]),
  (134, 57, .iinc 1 1, 3, (1, 0, 0), 1, []),
  (134, 60, .goto (-44), 3, (16, 0, 0), 0, []),
  (134, 63, .iconst 1, 1, (0, 0, 0), 1, []),
  (134, 64, .ireturn, 1, (1, 0, 0), 0, [])]
def rows_135 : List mRow := [
  (135, 0, .aload_n 0, 1, (0, 0, 0), 0, []),
  (135, 1, .getfield 71, 3, (9, 20, 1), 0, [(0, 933)]),
  (135, 4, .aload_n 0, 1, (0, 0, 0), 0, []),
  (135, 5, .getfield 77, 3, (9, 22, 0), 0, [(0, 935)]),
  (135, 8, .iload_n 1, 1, (1, 0, 0), 0, []),
  (135, 9, .iastore, 1, (0, 0, 0), 0, []),
  (135, 10, .aload_n 0, 1, (0, 0, 0), 0, []),
  (135, 11, .dup, 1, (0, 0, 0), 0, []),
  (135, 12, .getfield 77, 3, (9, 22, 0), 0, [(0, 935)]),
  (135, 15, .iconst 1, 1, (0, 0, 0), 1, []),
  (135, 16, .iadd, 1, (0, 0, 0), 0, []),
  (135, 17, .putfield 77, 3, (9, 22, 0), 0, [(0, 935)]),
  (135, 20, .return_, 1, (0, 0, 0), 0, [])]
def rows_136 : List mRow := [
  (136, 0, .aload_n 0, 1, (0, 0, 0), 0, []),
  (136, 1, .getfield 80, 3, (9, 23, 0), 0, [(0, 936)]),
  (136, 4, .ifCond .le 48, 3, (52, 0, 0), 0, []),
  (136, 7, .aload_n 0, 1, (0, 0, 0), 0, []),
  (136, 8, .getfield 74, 3, (9, 21, 1), 0, [(0, 934)]),
  (136, 11, .aload_n 0, 1, (0, 0, 0), 0, []),
  (136, 12, .getfield 80, 3, (9, 23, 0), 0, [(0, 936)]),
  (136, 15, .iconst 1, 1, (0, 0, 0), 1, []),
  (136, 16, .isub, 1, (0, 0, 0), 0, []),
  (136, 17, .iaload, 1, (0, 0, 0), 0, []),
  (136, 18, .bipush 33, 2, (0, 0, 0), 33, []),
  (136, 20, .if_icmp .ne 32, 3, (52, 0, 0), 0, []),
  (136, 23, .aload_n 0, 1, (0, 0, 0), 0, []),
  (136, 24, .bipush (-33), 2, (0, 0, 0), (-33), []),
  (136, 26, .invokevirtual 287, 3, (135, 2, 0), 0, [(0, 1251)]),
  (136, 29, .aload_n 0, 1, (0, 0, 0), 0, []),
  (136, 30, .dup, 1, (0, 0, 0), 0, []),
  (136, 31, .getfield 80, 3, (9, 23, 0), 0, [(0, 936)]),
  (136, 34, .iconst 1, 1, (0, 0, 0), 1, []),
  (136, 35, .isub, 1, (0, 0, 0), 0, []),
  (136, 36, .putfield 80, 3, (9, 23, 0), 0, [(0, 936)]),
  (136, 39, .aload_n 0, 1, (0, 0, 0), 0, []),
  (136, 40, .dup, 1, (0, 0, 0), 0, []),
  (136, 41, .getfield 83, 3, (9, 24, 0), 0, [(0, 937)]),
  (136, 44, .iconst 1, 1, (0, 0, 0), 1, []),
  (136, 45, .isub, 1, (0, 0, 0), 0, []),
  (136, 46, .putfield 83, 3, (9, 24, 0), 0, [(0, 937)]),
  (136, 49, .goto (-49), 3, (0, 0, 0), 0, []),
  (136, 52, .return_, 1, (0, 0, 0), 0, [])]
def rows_137 : List mRow := [
  (137, 0, .aload_n 0, 1, (0, 0, 0), 0, []),
  (137, 1, .getfield 80, 3, (9, 23, 0), 0, [(0, 936)]),
  (137, 4, .ifCond .le 68, 3, (72, 0, 0), 0, []),
  (137, 7, .aload_n 0, 1, (0, 0, 0), 0, []),
  (137, 8, .getfield 74, 3, (9, 21, 1), 0, [(0, 934)]),
  (137, 11, .aload_n 0, 1, (0, 0, 0), 0, []),
  (137, 12, .getfield 80, 3, (9, 23, 0), 0, [(0, 936)]),
  (137, 15, .iconst 1, 1, (0, 0, 0), 1, []),
  (137, 16, .isub, 1, (0, 0, 0), 0, []),
  (137, 17, .iaload, 1, (0, 0, 0), 0, []),
  (137, 18, .bipush 38, 2, (0, 0, 0), 38, []),
  (137, 20, .if_icmp .eq 25, 3, (45, 0, 0), 0, []),
  (137, 23, .aload_n 0, 1, (0, 0, 0), 0, []),
  (137, 24, .getfield 74, 3, (9, 21, 1), 0, [(0, 934)]),
  (137, 27, .aload_n 0, 1, (0, 0, 0), 0, []),
  (137, 28, .getfield 80, 3, (9, 23, 0), 0, [(0, 936)]),
  (137, 31, .iconst 1, 1, (0, 0, 0), 1, []),
  (137, 32, .isub, 1, (0, 0, 0), 0, []),
  (137, 33, .iaload, 1, (0, 0, 0), 0, []),
  (137, 34, .bipush 124, 2, (0, 0, 0), 124, []),
  (137, 36, .if_icmp .ne 36, 3, (72, 0, 0), 0, []),
  (137, 39, .iload_n 1, 1, (1, 0, 0), 0, []),
  (137, 40, .bipush 38, 2, (0, 0, 0), 38, []),
  (137, 42, .if_icmp .eq 30, 3, (72, 0, 0), 0, []),
  (137, 45, .aload_n 0, 1, (0, 0, 0), 0, []),
  (137, 46, .dup, 1, (0, 0, 0), 0, []),
  (137, 47, .getfield 80, 3, (9, 23, 0), 0, [(0, 936)]),
  (137, 50, .iconst 1, 1, (0, 0, 0), 1, []),
  (137, 51, .isub, 1, (0, 0, 0), 0, []),
  (137, 52, .putfield 80, 3, (9, 23, 0), 0, [(0, 936)]),
  (137, 55, .aload_n 0, 1, (0, 0, 0), 0, []),
  (137, 56, .aload_n 0, 1, (0, 0, 0), 0, []),
  (137, 57, .getfield 74, 3, (9, 21, 1), 0, [(0, 934)]),
  (137, 60, .aload_n 0, 1, (0, 0, 0), 0, []),
  (137, 61, .getfield 80, 3, (9, 23, 0), 0, [(0, 936)]),
  (137, 64, .iaload, 1, (0, 0, 0), 0, []),
  (137, 65, .ineg, 1, (0, 0, 0), 0, []),
  (137, 66, .invokevirtual 287, 3, (135, 2, 0), 0, [(0, 1251)]),
  (137, 69, .goto (-69), 3, (0, 0, 0), 0, []),
  (137, 72, .return_, 1, (0, 0, 0), 0, [])]
def rows_138 : List mRow := [
  (138, 0, .iload_n 1, 1, (1, 0, 0), 0, []),
  (138, 1, .lookupswitch 71 #[(97, 67), (104, 69), (107, 63), (112, 59), (116, 61), (118, 65)], 59, (72, 0, 0), 0, [(97, 68), (104, 70), (107, 64), (112, 60), (116, 62), (118, 66)]),
  (138, 60, .iconst 0, 1, (0, 0, 0), 0, []),
  (138, 61, .ireturn, 1, (0, 0, 0), 0, []),
  (138, 62, .iconst 1, 1, (0, 0, 0), 1, []),
  (138, 63, .ireturn, 1, (0, 0, 0), 0, []),
  (138, 64, .iconst 2, 1, (0, 0, 0), 2, []),
  (138, 65, .ireturn, 1, (0, 0, 0), 0, []),
  (138, 66, .iconst 3, 1, (0, 0, 0), 3, []),
  (138, 67, .ireturn, 1, (0, 0, 0), 0, []),
  (138, 68, .iconst 4, 1, (0, 0, 0), 4, []),
  (138, 69, .ireturn, 1, (0, 0, 0), 0, []),
  (138, 70, .iconst 5, 1, (0, 0, 0), 5, []),
  (138, 71, .ireturn, 1, (0, 0, 0), 0, []),
  (138, 72, .iconst (-1), 1, (0, 0, 0), (-1), []),
  (138, 73, .ireturn, 1, (0, 0, 0), 0, [])]
def rows_139 : List mRow := [
  (139, 0, .aload_n 0, 1, (0, 0, 0), 0, []),
  (139, 1, .aload_n 0, 1, (0, 0, 0), 0, []),
  (139, 2, .invokevirtual 276, 3, (130, 1, 1), 0, [(0, 1219)]),
  (139, 5, .invokevirtual 291, 3, (138, 2, 1), 0, [(0, 1247)]),
  (139, 8, .istore_n 1, 1, (1, 0, 0), 0, []),
  (139, 9, .iload_n 1, 1, (1, 0, 0), 0, []),
  (139, 10, .ifCond .ge 5, 3, (15, 0, 0), 0, []),
  (139, 13, .iconst 0, 1, (0, 0, 0), 0, []),
  (139, 14, .ireturn, 1, (1, 0, 0), 0, []),
  (139, 15, .aload_n 0, 1, (0, 0, 0), 0, []),
  (139, 16, .dup, 1, (0, 0, 0), 0, []),
  (139, 17, .getfield 47, 3, (9, 12, 0), 0, [(0, 925)]),
  (139, 20, .iconst 1, 1, (0, 0, 0), 1, []),
  (139, 21, .iadd, 1, (0, 0, 0), 0, []),
  (139, 22, .putfield 47, 3, (9, 12, 0), 0, [(0, 925)]),
  (139, 25, .aload_n 0, 1, (0, 0, 0), 0, []),
  (139, 26, .invokevirtual 276, 3, (130, 1, 1), 0, [(0, 1219)]),
  (139, 29, .istore_n 2, 1, (2, 0, 0), 0, []),
  (139, 30, .aload_n 0, 1, (0, 0, 0), 0, []),
  (139, 31, .iload_n 2, 1, (2, 0, 0), 0, []),
  (139, 32, .bipush 60, 2, (0, 0, 0), 60, []),
  (139, 34, .bipush 62, 2, (0, 0, 0), 62, []),
  (139, 36, .invokevirtual 254, 3, (116, 4, 1), 0, [(0, 1159)]),
  (139, 39, .ifCond .ne 5, 3, (44, 0, 0), 0, []),
  (139, 42, .iconst 0, 1, (0, 0, 0), 0, []),
  (139, 43, .ireturn, 1, (1, 0, 0), 0, []),
  (139, 44, .aload_n 0, 1, (0, 0, 0), 0, []),
  (139, 45, .dup, 1, (0, 0, 0), 0, []),
  (139, 46, .getfield 47, 3, (9, 12, 0), 0, [(0, 925)]),
  (139, 49, .iconst 1, 1, (0, 0, 0), 1, []),
  (139, 50, .iadd, 1, (0, 0, 0), 0, []),
  (139, 51, .putfield 47, 3, (9, 12, 0), 0, [(0, 925)]),
  (139, 54, .aload_n 0, 1, (0, 0, 0), 0, []),
  (139, 55, .invokevirtual 295, 3, (134, 1, 1), 0, [(0, 1231)]),
  (139, 58, .ifCond .ne 5, 3, (63, 0, 0), 0, []),
  (139, 61, .iconst 0, 1, (0, 0, 0), 0, []),
  (139, 62, .ireturn, 1, (1, 0, 0), 0, []),
  (139, 63, .aload_n 0, 1, (0, 0, 0), 0, []),
  (139, 64, .sipush 1000, 3, (0, 0, 0), 1000, []),
  (139, 67, .iload_n 1, 1, (1, 0, 0), 0, []),
  (139, 68, .imul, 1, (0, 0, 0), 0, []),
  (139, 69, .bipush 100, 2, (0, 0, 0), 100, []),
  (139, 71, .iload_n 2, 1, (2, 0, 0), 0, []),
  (139, 72, .bipush 60, 2, (0, 0, 0), 60, []),
  (139, 74, .isub, 1, (0, 0, 0), 0, []),
  (139, 75, .imul, 1, (0, 0, 0), 0, []),
  (139, 76, .iadd, 1, (0, 0, 0), 0, []),
  (139, 77, .aload_n 0, 1, (0, 0, 0), 0, []),
  (139, 78, .getfield 50, 3, (9, 13, 0), 0, [(0, 926)]),
  (139, 81, .iadd, 1, (0, 0, 0), 0, []),
  (139, 82, .invokevirtual 287, 3, (135, 2, 0), 0, [(0, 1251)]),
  (139, 85, .aload_n 0, 1, (0, 0, 0), 0, []),
  (139, 86, .invokevirtual 298, 3, (136, 1, 0), 0, [(0, 1255)]),
  (139, 89, .iconst 1, 1, (0, 0, 0), 1, []),
  (139, 90, .ireturn, 1, (1, 0, 0), 0, [])]
def rows_140 : List mRow := [
  (140, 0, .aload_n 0, 1, (0, 0, 0), 0, []),
  (140, 1, .iconst 0, 1, (0, 0, 0), 0, []),
  (140, 2, .putfield 80, 3, (9, 23, 0), 0, [(0, 936)]),
  (140, 5, .aload_n 0, 1, (0, 0, 0), 0, []),
  (140, 6, .iconst 0, 1, (0, 0, 0), 0, []),
  (140, 7, .putfield 83, 3, (9, 24, 0), 0, [(0, 937)]),
  (140, 10, .aload_n 0, 1, (0, 0, 0), 0, []),
  (140, 11, .getfield 65, 3, (9, 18, 1), 0, [(0, 931)]),
  (140, 14, .iload_n 1, 1, (1, 0, 0), 0, []),
  (140, 15, .aload_n 0, 1, (0, 0, 0), 0, []),
  (140, 16, .getfield 77, 3, (9, 22, 0), 0, [(0, 935)]),
  (140, 19, .iastore, 1, (0, 0, 0), 0, []),
  (140, 20, .iconst 1, 1, (0, 0, 0), 1, []),
  (140, 21, .istore_n 2, 1, (2, 0, 0), 0, []),
  (140, 22, .aload_n 0, 1, (0, 0, 0), 0, []),
  (140, 23, .invokevirtual 276, 3, (130, 1, 1), 0, [(0, 1219)]),
  (140, 26, .istore_n 3, 1, (3, 0, 0), 0, []),
  (140, 27, .iload_n 2, 1, (2, 0, 0), 0, []),
  (140, 28, .ifCond .eq 82, 3, (110, 0, 0), 0, []),
  (140, 31, .iload_n 3, 1, (3, 0, 0), 0, []),
  (140, 32, .bipush 33, 2, (0, 0, 0), 33, []),
  (140, 34, .if_icmp .eq 9, 3, (43, 0, 0), 0, []),
  (140, 37, .iload_n 3, 1, (3, 0, 0), 0, []),
  (140, 38, .bipush 40, 2, (0, 0, 0), 40, []),
  (140, 40, .if_icmp .ne 56, 3, (96, 0, 0), 0, []),
  (140, 43, .aload_n 0, 1, (0, 0, 0), 0, []),
  (140, 44, .getfield 83, 3, (9, 24, 0), 0, [(0, 937)]),
  (140, 47, .iconst 4, 1, (0, 0, 0), 4, []),
  (140, 48, .if_icmp .ne 5, 3, (53, 0, 0), 0, []),
  (140, 51, .iconst 0, 1, (0, 0, 0), 0, []),
  (140, 52, .ireturn, 1, (1, 0, 0), 0, []),
  (140, 53, .aload_n 0, 1, (0, 0, 0), 0, []),
  (140, 54, .dup, 1, (0, 0, 0), 0, []),
  (140, 55, .getfield 83, 3, (9, 24, 0), 0, [(0, 937)]),
  (140, 58, .iconst 1, 1, (0, 0, 0), 1, []),
  (140, 59, .iadd, 1, (0, 0, 0), 0, []),
  (140, 60, .putfield 83, 3, (9, 24, 0), 0, [(0, 937)]),
  (140, 63, .aload_n 0, 1, (0, 0, 0), 0, []),
  (140, 64, .getfield 74, 3, (9, 21, 1), 0, [(0, 934)]),
  (140, 67, .aload_n 0, 1, (0, 0, 0), 0, []),
  (140, 68, .getfield 80, 3, (9, 23, 0), 0, [(0, 936)]),
  (140, 71, .iload_n 3, 1, (3, 0, 0), 0, []),
  (140, 72, .iastore, 1, (0, 0, 0), 0, []),
  (140, 73, .aload_n 0, 1, (0, 0, 0), 0, []),
  (140, 74, .dup, 1, (0, 0, 0), 0, []),
  (140, 75, .getfield 80, 3, (9, 23, 0), 0, [(0, 936)]),
  (140, 78, .iconst 1, 1, (0, 0, 0), 1, []),
  (140, 79, .iadd, 1, (0, 0, 0), 0, []),
  (140, 80, .putfield 80, 3, (9, 23, 0), 0, [(0, 936)]),
  (140, 83, .aload_n 0, 1, (0, 0, 0), 0, []),
  (140, 84, .dup, 1, (0, 0, 0), 0, []),
  (140, 85, .getfield 47, 3, (9, 12, 0), 0, [(0, 925)]),
  (140, 88, .iconst 1, 1, (0, 0, 0), 1, []),
  (140, 89, .iadd, 1, (0, 0, 0), 0, []),
  (140, 90, .putfield 47, 3, (9, 12, 0), 0, [(0, 925)]),
  (140, 93, .goto (-71), 3, (22, 0, 0), 0, []),
  (140, 96, .aload_n 0, 1, (0, 0, 0), 0, []),
  (140, 97, .invokevirtual 301, 3, (139, 1, 1), 0, [(0, 1243)]),
  (140, 100, .ifCond .eq 8, 3, (108, 0, 0), 0, []),
  (140, 103, .iconst 0, 1, (0, 0, 0), 0, []),
  (140, 104, .istore_n 2, 1, (2, 0, 0), 0, []),
  (140, 105, .goto (-83), 3, (22, 0, 0), 0, []),
  (140, 108, .iconst 0, 1, (0, 0, 0), 0, []),
  (140, 109, .ireturn, 1, (1, 0, 0), 0, []),
  (140, 110, .iload_n 3, 1, (3, 0, 0), 0, []),
  (140, 111, .bipush 38, 2, (0, 0, 0), 38, []),
  (140, 113, .if_icmp .eq 9, 3, (122, 0, 0), 0, []),
  (140, 116, .iload_n 3, 1, (3, 0, 0), 0, []),
  (140, 117, .bipush 124, 2, (0, 0, 0), 124, []),
  (140, 119, .if_icmp .ne 43, 3, (162, 0, 0), 0, []),
  (140, 122, .aload_n 0, 1, (0, 0, 0), 0, []),
  (140, 123, .iload_n 3, 1, (3, 0, 0), 0, []),
  (140, 124, .invokevirtual 304, 3, (137, 2, 0), 0, [(0, 1259)]),
  (140, 127, .aload_n 0, 1, (0, 0, 0), 0, []),
  (140, 128, .getfield 74, 3, (9, 21, 1), 0, [(0, 934)]),
  (140, 131, .aload_n 0, 1, (0, 0, 0), 0, []),
  (140, 132, .getfield 80, 3, (9, 23, 0), 0, [(0, 936)]),
  (140, 135, .iload_n 3, 1, (3, 0, 0), 0, []),
  (140, 136, .iastore, 1, (0, 0, 0), 0, []),
  (140, 137, .aload_n 0, 1, (0, 0, 0), 0, []),
  (140, 138, .dup, 1, (0, 0, 0), 0, []),
  (140, 139, .getfield 80, 3, (9, 23, 0), 0, [(0, 936)]),
  (140, 142, .iconst 1, 1, (0, 0, 0), 1, []),
  (140, 143, .iadd, 1, (0, 0, 0), 0, []),
  (140, 144, .putfield 80, 3, (9, 23, 0), 0, [(0, 936)]),
  (140, 147, .iconst 1, 1, (0, 0, 0), 1, []),
  (140, 148, .istore_n 2, 1, (2, 0, 0), 0, []),
  (140, 149, .aload_n 0, 1, (0, 0, 0), 0, []),
  (140, 150, .dup, 1, (0, 0, 0), 0, []),
  (140, 151, .getfield 47, 3, (9, 12, 0), 0, [(0, 925)]),
  (140, 154, .iconst 1, 1, (0, 0, 0), 1, []),
  (140, 155, .iadd, 1, (0, 0, 0), 0, []),
  (140, 156, .putfield 47, 3, (9, 12, 0), 0, [(0, 925)]),
  (140, 159, .goto (-137), 3, (22, 0, 0), 0, []),
  (140, 162, .aload_n 0, 1, (0, 0, 0), 0, []),
  (140, 163, .bipush 124, 2, (0, 0, 0), 124, []),
  (140, 165, .invokevirtual 304, 3, (137, 2, 0), 0, [(0, 1259)]),
  (140, 168, .aload_n 0, 1, (0, 0, 0), 0, []),
  (140, 169, .getfield 68, 3, (9, 19, 1), 0, [(0, 932)]),
  (140, 172, .iload_n 1, 1, (1, 0, 0), 0, []),
  (140, 173, .aload_n 0, 1, (0, 0, 0), 0, []),
  (140, 174, .getfield 77, 3, (9, 22, 0), 0, [(0, 935)]),
  (140, 177, .iastore, 1, (0, 0, 0), 0, []),
  (140, 178, .aload_n 0, 1, (0, 0, 0), 0, []),
  (140, 179, .getfield 80, 3, (9, 23, 0), 0, [(0, 936)]),
  (140, 182, .ifCond .ne 5, 3, (187, 0, 0), 0, []),
  (140, 185, .iconst 1, 1, (0, 0, 0), 1, []),
  (140, 186, .ireturn, 1, (1, 0, 0), 0, []),
  (140, 187, .iload_n 3, 1, (3, 0, 0), 0, []),
  (140, 188, .bipush 41, 2, (0, 0, 0), 41, []),
  (140, 190, .if_icmp .eq 5, 3, (195, 0, 0), 0, []),
  (140, 193, .iconst 0, 1, (0, 0, 0), 0, []),
  (140, 194, .ireturn, 1, (1, 0, 0), 0, []),
  (140, 195, .aload_n 0, 1, (0, 0, 0), 0, []),
  (140, 196, .dup, 1, (0, 0, 0), 0, []),
  (140, 197, .getfield 80, 3, (9, 23, 0), 0, [(0, 936)]),
  (140, 200, .iconst 1, 1, (0, 0, 0), 1, []),
  (140, 201, .isub, 1, (0, 0, 0), 0, []),
  (140, 202, .putfield 80, 3, (9, 23, 0), 0, [(0, 936)]),
  (140, 205, .aload_n 0, 1, (0, 0, 0), 0, []),
  (140, 206, .dup, 1, (0, 0, 0), 0, []),
  (140, 207, .getfield 83, 3, (9, 24, 0), 0, [(0, 937)]),
  (140, 210, .iconst 1, 1, (0, 0, 0), 1, []),
  (140, 211, .isub, 1, (0, 0, 0), 0, []),
  (140, 212, .putfield 83, 3, (9, 24, 0), 0, [(0, 937)]),
  (140, 215, .aload_n 0, 1, (0, 0, 0), 0, []),
  (140, 216, .dup, 1, (0, 0, 0), 0, []),
  (140, 217, .getfield 47, 3, (9, 12, 0), 0, [(0, 925)]),
  (140, 220, .iconst 1, 1, (0, 0, 0), 1, []),
  (140, 221, .iadd, 1, (0, 0, 0), 0, []),
  (140, 222, .putfield 47, 3, (9, 12, 0), 0, [(0, 925)]),
  (140, 225, .aload_n 0, 1, (0, 0, 0), 0, []),
  (140, 226, .invokevirtual 298, 3, (136, 1, 0), 0, [(0, 1255)]),
  (140, 229, .goto (-207), 3, (22, 0, 0), 0, [])]
def rows_141 : List mRow := [
  (141, 0, .aload_n 0, 1, (0, 0, 0), 0, []),
  (141, 1, .invokevirtual 276, 3, (130, 1, 1), 0, [(0, 1219)]),
  (141, 4, .lookupswitch 132 #[(108, 36), (109, 103), (116, 117)], 36, (136, 0, 0), 0, [(108, 40), (109, 107), (116, 121)]),
  (141, 40, .aload_n 0, 1, (0, 0, 0), 0, []),
  (141, 41, .getfield 59, 3, (9, 16, 1), 0, [(0, 929)]),
  (141, 44, .iload_n 1, 1, (1, 0, 0), 0, []),
  (141, 45, .aload_n 0, 1, (0, 0, 0), 0, []),
  (141, 46, .getfield 47, 3, (9, 12, 0), 0, [(0, 925)]),
  (141, 49, .iconst 2, 1, (0, 0, 0), 2, []),
  (141, 50, .iadd, 1, (0, 0, 0), 0, []),
  (141, 51, .aload_n 0, 1, (0, 0, 0), 0, []),
  (141, 52, .getfield 44, 3, (9, 11, 0), 0, [(0, 924)]),
  (141, 55, .if_icmp .ge 23, 3, (78, 0, 0), 0, []),
  (141, 58, .aload_n 0, 1, (0, 0, 0), 0, []),
  (141, 59, .getfield 53, 3, (9, 14, 1), 0, [(0, 927)]),
  (141, 62, .aload_n 0, 1, (0, 0, 0), 0, []),
  (141, 63, .getfield 47, 3, (9, 12, 0), 0, [(0, 925)]),
  (141, 66, .iconst 2, 1, (0, 0, 0), 2, []),
  (141, 67, .iadd, 1, (0, 0, 0), 0, []),
  (141, 68, .iaload, 1, (0, 0, 0), 0, []),
  (141, 69, .bipush 103, 2, (0, 0, 0), 103, []),
  (141, 71, .if_icmp .ne 7, 3, (78, 0, 0), 0, []),
  (141, 74, .iconst 3, 1, (0, 0, 0), 3, []),
  (141, 75, .goto 4, 3, (79, 0, 0), 0, []),
  (141, 78, .iconst 0, 1, (0, 0, 0), 0, []),
  (141, 79, .iastore, 1, (0, 0, 0), 0, []),
  (141, 80, .aload_n 0, 1, (0, 0, 0), 0, []),
  (141, 81, .getfield 59, 3, (9, 16, 1), 0, [(0, 929)]),
  (141, 84, .iload_n 1, 1, (1, 0, 0), 0, []),
  (141, 85, .iaload, 1, (0, 0, 0), 0, []),
  (141, 86, .iconst 3, 1, (0, 0, 0), 3, []),
  (141, 87, .if_icmp .ne 13, 3, (100, 0, 0), 0, []),
  (141, 90, .aload_n 0, 1, (0, 0, 0), 0, []),
  (141, 91, .bipush 13, 2, (0, 0, 0), 13, []),
  (141, 93, .iconst 5, 1, (0, 0, 0), 5, []),
  (141, 94, .invokevirtual 307, 3, (132, 3, 1), 0, [(0, 1223)]),
  (141, 97, .goto 9, 3, (106, 0, 0), 0, []),
  (141, 100, .aload_n 0, 1, (0, 0, 0), 0, []),
  (141, 101, .iconst 0, 1, (0, 0, 0), 0, []),
  (141, 102, .iconst 4, 1, (0, 0, 0), 4, []),
  (141, 103, .invokevirtual 307, 3, (132, 3, 1), 0, [(0, 1223)]),
  (141, 106, .ireturn, 1, (1, 0, 0), 0, []),
  (141, 107, .aload_n 0, 1, (0, 0, 0), 0, []),
  (141, 108, .getfield 59, 3, (9, 16, 1), 0, [(0, 929)]),
  (141, 111, .iload_n 1, 1, (1, 0, 0), 0, []),
  (141, 112, .iconst 1, 1, (0, 0, 0), 1, []),
  (141, 113, .iastore, 1, (0, 0, 0), 0, []),
  (141, 114, .aload_n 0, 1, (0, 0, 0), 0, []),
  (141, 115, .iconst 4, 1, (0, 0, 0), 4, []),
  (141, 116, .iconst 4, 1, (0, 0, 0), 4, []),
  (141, 117, .invokevirtual 307, 3, (132, 3, 1), 0, [(0, 1223)]),
  (141, 120, .ireturn, 1, (1, 0, 0), 0, []),
  (141, 121, .aload_n 0, 1, (0, 0, 0), 0, []),
  (141, 122, .getfield 59, 3, (9, 16, 1), 0, [(0, 929)]),
  (141, 125, .iload_n 1, 1, (1, 0, 0), 0, []),
  (141, 126, .iconst 2, 1, (0, 0, 0), 2, []),
  (141, 127, .iastore, 1, (0, 0, 0), 0, []),
  (141, 128, .aload_n 0, 1, (0, 0, 0), 0, []),
  (141, 129, .bipush 8, 2, (0, 0, 0), 8, []),
  (141, 131, .iconst 5, 1, (0, 0, 0), 5, []),
  (141, 132, .invokevirtual 307, 3, (132, 3, 1), 0, [(0, 1223)]),
  (141, 135, .ireturn, 1, (1, 0, 0), 0, []),
  (141, 136, .aload_n 0, 1, (0, 0, 0), 0, []),
  (141, 137, .getfield 59, 3, (9, 16, 1), 0, [(0, 929)]),
  (141, 140, .iload_n 1, 1, (1, 0, 0), 0, []),
  (141, 141, .iconst 4, 1, (0, 0, 0), 4, []),
  (141, 142, .iastore, 1, (0, 0, 0), 0, []),
  (141, 143, .aload_n 0, 1, (0, 0, 0), 0, []),
  (141, 144, .bipush 18, 2, (0, 0, 0), 18, []),
  (141, 146, .iconst 4, 1, (0, 0, 0), 4, []),
  (141, 147, .invokevirtual 307, 3, (132, 3, 1), 0, [(0, 1223)]),
  (141, 150, .ireturn, 1, (1, 0, 0), 0, [])]
def rows_142 : List mRow := [
  (142, 0, .aload_n 0, 1, (0, 0, 0), 0, []),
  (142, 1, .iload_n 1, 1, (1, 0, 0), 0, []),
  (142, 2, .invokevirtual 310, 3, (141, 2, 1), 0, [(0, 1215)]),
  (142, 5, .ifCond .eq 10, 3, (15, 0, 0), 0, []),
  (142, 8, .aload_n 0, 1, (0, 0, 0), 0, []),
  (142, 9, .invokevirtual 295, 3, (134, 1, 1), 0, [(0, 1231)]),
  (142, 12, .ifCond .ne 5, 3, (17, 0, 0), 0, []),
  (142, 15, .iconst 0, 1, (0, 0, 0), 0, []),
  (142, 16, .ireturn, 1, (1, 0, 0), 0, []),
  (142, 17, .aload_n 0, 1, (0, 0, 0), 0, []),
  (142, 18, .getfield 62, 3, (9, 17, 1), 0, [(0, 930)]),
  (142, 21, .iload_n 1, 1, (1, 0, 0), 0, []),
  (142, 22, .aload_n 0, 1, (0, 0, 0), 0, []),
  (142, 23, .getfield 50, 3, (9, 13, 0), 0, [(0, 926)]),
  (142, 26, .iastore, 1, (0, 0, 0), 0, []),
  (142, 27, .aload_n 0, 1, (0, 0, 0), 0, []),
  (142, 28, .getfield 59, 3, (9, 16, 1), 0, [(0, 929)]),
  (142, 31, .iload_n 1, 1, (1, 0, 0), 0, []),
  (142, 32, .iaload, 1, (0, 0, 0), 0, []),
  (142, 33, .iconst 2, 1, (0, 0, 0), 2, []),
  (142, 34, .if_icmp .ge 20, 3, (54, 0, 0), 0, []),
  (142, 37, .aload_n 0, 1, (0, 0, 0), 0, []),
  (142, 38, .bipush 32, 2, (0, 0, 0), 32, []),
  (142, 40, .invokevirtual 280, 3, (131, 2, 1), 0, [(0, 1227)]),
  (142, 43, .ifCond .eq 15, 3, (58, 0, 0), 0, []),
  (142, 46, .aload_n 0, 1, (0, 0, 0), 0, []),
  (142, 47, .iload_n 1, 1, (1, 0, 0), 0, []),
  (142, 48, .invokevirtual 313, 3, (140, 2, 1), 0, [(0, 1239)]),
  (142, 51, .ifCond .eq 7, 3, (58, 0, 0), 0, []),
  (142, 54, .iconst 1, 1, (0, 0, 0), 1, []),
  (142, 55, .goto 4, 3, (59, 0, 0), 0, []),
  (142, 58, .iconst 0, 1, (0, 0, 0), 0, []),
  (142, 59, .ireturn, 1, (1, 0, 0), 0, [])]
def rows_143 : List mRow := [
  (143, 0, .aload_n 0, 1, (0, 0, 0), 0, []),
  (143, 1, .iconst 0, 1, (0, 0, 0), 0, []),
  (143, 2, .putfield 47, 3, (9, 12, 0), 0, [(0, 925)]),
  (143, 5, .aload_n 0, 1, (0, 0, 0), 0, []),
  (143, 6, .bipush 100, 2, (0, 0, 0), 100, []),
  (143, 8, .iload_n 1, 1, (1, 0, 0), 0, []),
  (143, 9, .imul, 1, (0, 0, 0), 0, []),
  (143, 10, .putfield 77, 3, (9, 22, 0), 0, [(0, 935)]),
  (143, 13, .iconst 0, 1, (0, 0, 0), 0, []),
  (143, 14, .istore_n 2, 1, (2, 0, 0), 0, []),
  (143, 15, .aload_n 0, 1, (0, 0, 0), 0, []),
  (143, 16, .bipush 10, 2, (0, 0, 0), 10, []),
  (143, 18, .iload_n 1, 1, (1, 0, 0), 0, []),
  (143, 19, .imul, 1, (0, 0, 0), 0, []),
  (143, 20, .iload_n 2, 1, (2, 0, 0), 0, []),
  (143, 21, .iadd, 1, (0, 0, 0), 0, []),
  (143, 22, .invokevirtual 316, 3, (142, 2, 1), 0, [(0, 1211)]),
  (143, 25, .ifCond .ne 5, 3, (30, 0, 0), 0, []),
  (143, 28, .iconst 0, 1, (0, 0, 0), 0, []),
  (143, 29, .ireturn, 1, (1, 0, 0), 0, []),
  (143, 30, .iinc 2 1, 3, (2, 0, 0), 1, []),
  (143, 33, .aload_n 0, 1, (0, 0, 0), 0, []),
  (143, 34, .getfield 56, 3, (9, 15, 1), 0, [(0, 928)]),
  (143, 37, .iload_n 1, 1, (1, 0, 0), 0, []),
  (143, 38, .iload_n 2, 1, (2, 0, 0), 0, []),
  (143, 39, .iastore, 1, (0, 0, 0), 0, []),
  (143, 40, .aload_n 0, 1, (0, 0, 0), 0, []),
  (143, 41, .getfield 47, 3, (9, 12, 0), 0, [(0, 925)]),
  (143, 44, .aload_n 0, 1, (0, 0, 0), 0, []),
  (143, 45, .getfield 44, 3, (9, 11, 0), 0, [(0, 924)]),
  (143, 48, .if_icmp .ne 5, 3, (53, 0, 0), 0, []),
  (143, 51, .iconst 1, 1, (0, 0, 0), 1, []),
  (143, 52, .ireturn, 1, (1, 0, 0), 0, []),
  (143, 53, .iload_n 2, 1, (2, 0, 0), 0, []),
  (143, 54, .bipush 10, 2, (0, 0, 0), 10, []),
  (143, 56, .if_icmp .eq 12, 3, (68, 0, 0), 0, []),
  (143, 59, .aload_n 0, 1, (0, 0, 0), 0, []),
  (143, 60, .bipush 59, 2, (0, 0, 0), 59, []),
  (143, 62, .invokevirtual 280, 3, (131, 2, 1), 0, [(0, 1227)]),
  (143, 65, .ifCond .ne (-50), 3, (15, 0, 0), 0, []),
  (143, 68, .iconst 0, 1, (0, 0, 0), 0, []),
  (143, 69, .ireturn, 1, (1, 0, 0), 0, [])]
def rows_144 : List mRow := [
  (144, 0, .aload_n 0, 1, (0, 0, 0), 0, []),
  (144, 1, .getfield 38, 3, (9, 9, 0), 0, [(0, 922)]),
  (144, 4, .bipush 6, 2, (0, 0, 0), 6, []),
  (144, 6, .if_icmp .ne 6, 3, (12, 0, 0), 0, []),
  (144, 9, .bipush (-4), 2, (0, 0, 0), (-4), []),
  (144, 11, .ireturn, 1, (0, 0, 0), 0, []),
  (144, 12, .aload_n 0, 1, (0, 0, 0), 0, []),
  (144, 13, .aload_n 0, 1, (0, 0, 0), 0, []),
  (144, 14, .getfield 38, 3, (9, 9, 0), 0, [(0, 922)]),
  (144, 17, .invokevirtual 319, 3, (143, 2, 1), 0, [(0, 1207)]),
  (144, 20, .istore_n 1, 1, (1, 0, 0), 0, []),
  (144, 21, .aload_n 0, 1, (0, 0, 0), 0, []),
  (144, 22, .iconst 0, 1, (0, 0, 0), 0, []),
  (144, 23, .putfield 44, 3, (9, 11, 0), 0, [(0, 924)]),
  (144, 26, .iload_n 1, 1, (1, 0, 0), 0, []),
  (144, 27, .ifCond .ne 11, 3, (38, 0, 0), 0, []),
  (144, 30, .bipush (-10), 2, (0, 0, 0), (-10), []),
  (144, 32, .aload_n 0, 1, (0, 0, 0), 0, []),
  (144, 33, .getfield 47, 3, (9, 12, 0), 0, [(0, 925)]),
  (144, 36, .isub, 1, (0, 0, 0), 0, []),
  (144, 37, .ireturn, 1, (0, 0, 0), 0, []),
  (144, 38, .aload_n 0, 1, (0, 0, 0), 0, []),
  (144, 39, .aload_n 0, 1, (0, 0, 0), 0, []),
  (144, 40, .getfield 38, 3, (9, 9, 0), 0, [(0, 922)]),
  (144, 43, .putfield 41, 3, (9, 10, 0), 0, [(0, 923)]),
  (144, 46, .aload_n 0, 1, (0, 0, 0), 0, []),
  (144, 47, .dup, 1, (0, 0, 0), 0, []),
  (144, 48, .getfield 38, 3, (9, 9, 0), 0, [(0, 922)]),
  (144, 51, .iconst 1, 1, (0, 0, 0), 1, []),
  (144, 52, .iadd, 1, (0, 0, 0), 0, []),
  (144, 53, .putfield 38, 3, (9, 9, 0), 0, [(0, 922)]),
  (144, 56, .aload_n 0, 1, (0, 0, 0), 0, []),
  (144, 57, .getfield 41, 3, (9, 10, 0), 0, [(0, 923)]),
  (144, 60, .ireturn, 1, (0, 0, 0), 0, [])]
def rows_145 : List mRow := [
  (145, 0, .aload_n 0, 1, (0, 0, 0), 0, []),
  (145, 1, .getfield 41, 3, (9, 10, 0), 0, [(0, 923)]),
  (145, 4, .ifCond .ge 7, 3, (11, 0, 0), 0, []),
  (145, 7, .iconst 0, 1, (0, 0, 0), 0, []),
  (145, 8, .goto 10, 3, (18, 0, 0), 0, []),
  (145, 11, .bipush 10, 2, (0, 0, 0), 10, []),
  (145, 13, .aload_n 0, 1, (0, 0, 0), 0, []),
  (145, 14, .getfield 41, 3, (9, 10, 0), 0, [(0, 923)]),
  (145, 17, .imul, 1, (0, 0, 0), 0, []),
  (145, 18, .ireturn, 1, (0, 0, 0), 0, [])]
def rows_146 : List mRow := [
  (146, 0, .aload_n 0, 1, (0, 0, 0), 0, []),
  (146, 1, .getfield 41, 3, (9, 10, 0), 0, [(0, 923)]),
  (146, 4, .ifCond .ge 7, 3, (11, 0, 0), 0, []),
  (146, 7, .iconst 0, 1, (0, 0, 0), 0, []),
  (146, 8, .goto 20, 3, (28, 0, 0), 0, []),
  (146, 11, .bipush 10, 2, (0, 0, 0), 10, []),
  (146, 13, .aload_n 0, 1, (0, 0, 0), 0, []),
  (146, 14, .getfield 41, 3, (9, 10, 0), 0, [(0, 923)]),
  (146, 17, .imul, 1, (0, 0, 0), 0, []),
  (146, 18, .aload_n 0, 1, (0, 0, 0), 0, []),
  (146, 19, .getfield 56, 3, (9, 15, 1), 0, [(0, 928)]),
  (146, 22, .aload_n 0, 1, (0, 0, 0), 0, []),
  (146, 23, .getfield 41, 3, (9, 10, 0), 0, [(0, 923)]),
  (146, 26, .iaload, 1, (0, 0, 0), 0, []),
  (146, 27, .iadd, 1, (0, 0, 0), 0, []),
  (146, 28, .ireturn, 1, (0, 0, 0), 0, [])]
def rows_147 : List mRow := [
  (147, 0, .iload_n 2, 1, (2, 0, 0), 0, []),
  (147, 1, .istore_n 3, 1, (3, 0, 0), 0, []),
  (147, 2, .aload_n 0, 1, (0, 0, 0), 0, []),
  (147, 3, .invokevirtual 322, 3, (145, 1, 1), 0, [(0, 1275)]),
  (147, 6, .istore 4, 2, (4, 0, 0), 0, []),
  (147, 8, .iload 4, 2, (4, 0, 0), 0, []),
  (147, 10, .aload_n 0, 1, (0, 0, 0), 0, []),
  (147, 11, .invokevirtual 325, 3, (146, 1, 1), 0, [(0, 1279)]),
  (147, 14, .if_icmp .ge 32, 3, (46, 0, 0), 0, []),
  (147, 17, .aload_n 0, 1, (0, 0, 0), 0, []),
  (147, 18, .getfield 59, 3, (9, 16, 1), 0, [(0, 929)]),
  (147, 21, .iload 4, 2, (4, 0, 0), 0, []),
  (147, 23, .iaload, 1, (0, 0, 0), 0, []),
  (147, 24, .iload_n 1, 1, (1, 0, 0), 0, []),
  (147, 25, .if_icmp .ne 13, 3, (38, 0, 0), 0, []),
  (147, 28, .aload_n 0, 1, (0, 0, 0), 0, []),
  (147, 29, .getfield 62, 3, (9, 17, 1), 0, [(0, 930)]),
  (147, 32, .iload 4, 2, (4, 0, 0), 0, []),
  (147, 34, .iaload, 1, (0, 0, 0), 0, []),
  (147, 35, .goto 4, 3, (39, 0, 0), 0, []),
  (147, 38, .iload_n 3, 1, (3, 0, 0), 0, []),
  (147, 39, .istore_n 3, 1, (3, 0, 0), 0, []),
  (147, 40, .iinc 4 1, 3, (4, 0, 0), 1, []),
  (147, 43, .goto (-35), 3, (8, 0, 0), 0, []),
  (147, 46, .iload_n 3, 1, (3, 0, 0), 0, []),
  (147, 47, .ireturn, 1, (0, 0, 0), 0, [])]
def rows_148 : List mRow := [
  (148, 0, .aload_n 0, 1, (0, 0, 0), 0, []),
  (148, 1, .getfield 89, 3, (9, 26, 0), 0, [(0, 939)]),
  (148, 4, .ifCond .lt 10, 3, (14, 0, 0), 0, []),
  (148, 7, .aload_n 0, 1, (0, 0, 0), 0, []),
  (148, 8, .getfield 89, 3, (9, 26, 0), 0, [(0, 939)]),
  (148, 11, .goto 10, 3, (21, 0, 0), 0, []),
  (148, 14, .aload_n 0, 1, (0, 0, 0), 0, []),
  (148, 15, .iconst 2, 1, (0, 0, 0), 2, []),
  (148, 16, .bipush 8, 2, (0, 0, 0), 8, []),
  (148, 18, .invokevirtual 328, 3, (147, 3, 1), 0, [(0, 1299)]),
  (148, 21, .ireturn, 1, (0, 0, 0), 0, [])]
def rows_149 : List mRow := [
  (149, 0, .aload_n 0, 1, (0, 0, 0), 0, []),
  (149, 1, .aload_n 0, 1, (0, 0, 0), 0, []),
  (149, 2, .iconst 3, 1, (0, 0, 0), 3, []),
  (149, 3, .bipush 18, 2, (0, 0, 0), 18, []),
  (149, 5, .invokevirtual 328, 3, (147, 3, 1), 0, [(0, 1299)]),
  (149, 8, .bipush 23, 2, (0, 0, 0), 23, []),
  (149, 10, .invokevirtual 332, 3, (118, 3, 1), 0, [(0, 1303)]),
  (149, 13, .ireturn, 1, (0, 0, 0), 0, [])]
def rows_150 : List mRow := [
  (150, 0, .aload_n 0, 1, (0, 0, 0), 0, []),
  (150, 1, .iconst 4, 1, (0, 0, 0), 4, []),
  (150, 2, .bipush 10, 2, (0, 0, 0), 10, []),
  (150, 4, .invokevirtual 328, 3, (147, 3, 1), 0, [(0, 1299)]),
  (150, 7, .ireturn, 1, (0, 0, 0), 0, [])]
def rows_151 : List mRow := [
  (151, 0, .iload_n 1, 1, (1, 0, 0), 0, []),
  (151, 1, .tableswitch 63 0 4 #[35, 37, 39, 46, 53], 35, (64, 0, 0), 0, [(0, 36), (1, 38), (2, 40), (3, 47), (4, 54)]),
  (151, 36, .iload_n 2, 1, (2, 0, 0), 0, []),
  (151, 37, .ireturn, 1, (0, 0, 0), 0, []),
  (151, 38, .iload_n 3, 1, (3, 0, 0), 0, []),
  (151, 39, .ireturn, 1, (0, 0, 0), 0, []),
  (151, 40, .aload_n 0, 1, (0, 0, 0), 0, []),
  (151, 41, .getfield 22, 3, (9, 4, 1), 0, [(0, 917)]),
  (151, 44, .iload_n 2, 1, (2, 0, 0), 0, []),
  (151, 45, .iaload, 1, (0, 0, 0), 0, []),
  (151, 46, .ireturn, 1, (0, 0, 0), 0, []),
  (151, 47, .aload_n 0, 1, (0, 0, 0), 0, []),
  (151, 48, .getfield 26, 3, (9, 5, 1), 0, [(0, 918)]),
  (151, 51, .iload_n 2, 1, (2, 0, 0), 0, []),
  (151, 52, .iaload, 1, (0, 0, 0), 0, []),
  (151, 53, .ireturn, 1, (0, 0, 0), 0, []),
  (151, 54, .aload_n 0, 1, (0, 0, 0), 0, []),
  (151, 55, .getfield 29, 3, (9, 6, 1), 0, [(0, 919)]),
  (151, 58, .iload_n 2, 1, (2, 0, 0), 0, []),
  (151, 59, .iaload, 1, (0, 0, 0), 0, []),
  (151, 60, .bipush 10, 2, (0, 0, 0), 10, []),
  (151, 62, .idiv, 1, (0, 0, 0), 0, []),
  (151, 63, .ireturn, 1, (0, 0, 0), 0, []),
  (151, 64, .aload_n 0, 1, (0, 0, 0), 0, []),
  (151, 65, .getfield 16, 3, (9, 2, 0), 0, [(0, 915)]),
  (151, 68, .ireturn, 1, (0, 0, 0), 0, [])]
def rows_152 : List mRow := [
  (152, 0, .iconst 0, 1, (0, 0, 0), 0, []),
  (152, 1, .istore 4, 2, (4, 0, 0), 0, []),
  (152, 3, .aload_n 0, 1, (0, 0, 0), 0, []),
  (152, 4, .getfield 65, 3, (9, 18, 1), 0, [(0, 931)]),
  (152, 7, .iload_n 1, 1, (1, 0, 0), 0, []),
  (152, 8, .iaload, 1, (0, 0, 0), 0, []),
  (152, 9, .istore 5, 2, (5, 0, 0), 0, []),
  (152, 11, .iload 5, 2, (5, 0, 0), 0, []),
  (152, 13, .aload_n 0, 1, (0, 0, 0), 0, []),
  (152, 14, .getfield 68, 3, (9, 19, 1), 0, [(0, 932)]),
  (152, 17, .iload_n 1, 1, (1, 0, 0), 0, []),
  (152, 18, .iaload, 1, (0, 0, 0), 0, []),
  (152, 19, .if_icmp .ge 234, 3, (253, 0, 0), 0, []),
  (152, 22, .aload_n 0, 1, (0, 0, 0), 0, []),
  (152, 23, .getfield 71, 3, (9, 20, 1), 0, [(0, 933)]),
  (152, 26, .iload 5, 2, (5, 0, 0), 0, []),
  (152, 28, .iaload, 1, (0, 0, 0), 0, []),
  (152, 29, .istore 6, 2, (6, 0, 0), 0, []),
  (152, 31, .iload 6, 2, (6, 0, 0), 0, []),
  (152, 33, .bipush (-33), 2, (0, 0, 0), (-33), []),
  (152, 35, .if_icmp .ne 32, 3, (67, 0, 0), 0, []),
  (152, 38, .aload_n 0, 1, (0, 0, 0), 0, []),
  (152, 39, .getfield 92, 3, (9, 27, 1), 0, [(0, 940)]),
  (152, 42, .iload 4, 2, (4, 0, 0), 0, []),
  (152, 44, .iconst 1, 1, (0, 0, 0), 1, []),
  (152, 45, .isub, 1, (0, 0, 0), 0, []),
  (152, 46, .aload_n 0, 1, (0, 0, 0), 0, []),
  (152, 47, .getfield 92, 3, (9, 27, 1), 0, [(0, 940)]),
  (152, 50, .iload 4, 2, (4, 0, 0), 0, []),
  (152, 52, .iconst 1, 1, (0, 0, 0), 1, []),
  (152, 53, .isub, 1, (0, 0, 0), 0, []),
  (152, 54, .baload, 1, (0, 0, 0), 0, []),
  (152, 55, .ifCond .ne 7, 3, (62, 0, 0), 0, []),
  (152, 58, .iconst 1, 1, (0, 0, 0), 1, []),
  (152, 59, .goto 4, 3, (63, 0, 0), 0, []),
  (152, 62, .iconst 0, 1, (0, 0, 0), 0, []),
  (152, 63, .bastore, 1, (0, 0, 0), 0, []),
  (152, 64, .goto 183, 3, (247, 0, 0), 0, []),
  (152, 67, .iload 6, 2, (6, 0, 0), 0, []),
  (152, 69, .ifCond .ge 82, 3, (151, 0, 0), 0, []),
  (152, 72, .iinc 4 (-1), 3, (4, 0, 0), (-1), []),
  (152, 75, .aload_n 0, 1, (0, 0, 0), 0, []),
  (152, 76, .getfield 92, 3, (9, 27, 1), 0, [(0, 940)]),
  (152, 79, .iload 4, 2, (4, 0, 0), 0, []),
  (152, 81, .iconst 1, 1, (0, 0, 0), 1, []),
  (152, 82, .isub, 1, (0, 0, 0), 0, []),
  (152, 83, .iload 6, 2, (6, 0, 0), 0, []),
  (152, 85, .bipush (-38), 2, (0, 0, 0), (-38), []),
  (152, 87, .if_icmp .ne 33, 3, (120, 0, 0), 0, []),
  (152, 90, .aload_n 0, 1, (0, 0, 0), 0, []),
  (152, 91, .getfield 92, 3, (9, 27, 1), 0, [(0, 940)]),
  (152, 94, .iload 4, 2, (4, 0, 0), 0, []),
  (152, 96, .iconst 1, 1, (0, 0, 0), 1, []),
  (152, 97, .isub, 1, (0, 0, 0), 0, []),
  (152, 98, .baload, 1, (0, 0, 0), 0, []),
  (152, 99, .ifCond .eq 17, 3, (116, 0, 0), 0, []),
  (152, 102, .aload_n 0, 1, (0, 0, 0), 0, []),
  (152, 103, .getfield 92, 3, (9, 27, 1), 0, [(0, 940)]),
  (152, 106, .iload 4, 2, (4, 0, 0), 0, []),
  (152, 108, .baload, 1, (0, 0, 0), 0, []),
  (152, 109, .ifCond .eq 7, 3, (116, 0, 0), 0, []),
  (152, 112, .iconst 1, 1, (0, 0, 0), 1, []),
  (152, 113, .goto 34, 3, (147, 0, 0), 0, []),
  (152, 116, .iconst 0, 1, (0, 0, 0), 0, []),
  (152, 117, .goto 30, 3, (147, 0, 0), 0, []),
  (152, 120, .aload_n 0, 1, (0, 0, 0), 0, []),
  (152, 121, .getfield 92, 3, (9, 27, 1), 0, [(0, 940)]),
  (152, 124, .iload 4, 2, (4, 0, 0), 0, []),
  (152, 126, .iconst 1, 1, (0, 0, 0), 1, []),
  (152, 127, .isub, 1, (0, 0, 0), 0, []),
  (152, 128, .baload, 1, (0, 0, 0), 0, []),
  (152, 129, .ifCond .ne 13, 3, (142, 0, 0), 0, []),
  (152, 132, .aload_n 0, 1, (0, 0, 0), 0, []),
  (152, 133, .getfield 92, 3, (9, 27, 1), 0, [(0, 940)]),
  (152, 136, .iload 4, 2, (4, 0, 0), 0, []),
  (152, 138, .baload, 1, (0, 0, 0), 0, []),
  (152, 139, .ifCond .eq 7, 3, (146, 0, 0), 0, []),
  (152, 142, .iconst 1, 1, (0, 0, 0), 1, []),
  (152, 143, .goto 4, 3, (147, 0, 0), 0, []),
  (152, 146, .iconst 0, 1, (0, 0, 0), 0, []),
  (152, 147, .bastore, 1, (0, 0, 0), 0, []),
  (152, 148, .goto 99, 3, (247, 0, 0), 0, []),
  (152, 151, .aload_n 0, 1, (0, 0, 0), 0, []),
  (152, 152, .iload 6, 2, (6, 0, 0), 0, []),
  (152, 154, .sipush 1000, 3, (0, 0, 0), 1000, []),
  (152, 157, .idiv, 1, (0, 0, 0), 0, []),
  (152, 158, .iload_n 2, 1, (2, 0, 0), 0, []),
  (152, 159, .iload_n 3, 1, (3, 0, 0), 0, []),
  (152, 160, .invokevirtual 335, 3, (151, 4, 1), 0, [(0, 1287)]),
  (152, 163, .istore 7, 2, (7, 0, 0), 0, []),
  (152, 165, .iload 6, 2, (6, 0, 0), 0, []),
  (152, 167, .bipush 100, 2, (0, 0, 0), 100, []),
  (152, 169, .idiv, 1, (0, 0, 0), 0, []),
  (152, 170, .bipush 10, 2, (0, 0, 0), 10, []),
  (152, 172, .irem, 1, (0, 0, 0), 0, []),
  (152, 173, .istore 8, 2, (8, 0, 0), 0, []),
  (152, 175, .aload_n 0, 1, (0, 0, 0), 0, []),
  (152, 176, .getfield 92, 3, (9, 27, 1), 0, [(0, 940)]),
  (152, 179, .iload 4, 2, (4, 0, 0), 0, []),
  (152, 181, .iload 8, 2, (8, 0, 0), 0, []),
  (152, 183, .ifCond .ne 21, 3, (204, 0, 0), 0, []),
  (152, 186, .iload 7, 2, (7, 0, 0), 0, []),
  (152, 188, .iload 6, 2, (6, 0, 0), 0, []),
  (152, 190, .bipush 100, 2, (0, 0, 0), 100, []),
  (152, 192, .irem, 1, (0, 0, 0), 0, []),
  (152, 193, .if_icmp .ge 7, 3, (200, 0, 0), 0, []),
  (152, 196, .iconst 1, 1, (0, 0, 0), 1, []),
  (152, 197, .goto 46, 3, (243, 0, 0), 0, []),
  (152, 200, .iconst 0, 1, (0, 0, 0), 0, []),
  (152, 201, .goto 42, 3, (243, 0, 0), 0, []),
  (152, 204, .iload 8, 2, (8, 0, 0), 0, []),
  (152, 206, .iconst 1, 1, (0, 0, 0), 1, []),
  (152, 207, .if_icmp .ne 21, 3, (228, 0, 0), 0, []),
  (152, 210, .iload 7, 2, (7, 0, 0), 0, []),
  (152, 212, .iload 6, 2, (6, 0, 0), 0, []),
  (152, 214, .bipush 100, 2, (0, 0, 0), 100, []),
  (152, 216, .irem, 1, (0, 0, 0), 0, []),
  (152, 217, .if_icmp .ne 7, 3, (224, 0, 0), 0, []),
  (152, 220, .iconst 1, 1, (0, 0, 0), 1, []),
  (152, 221, .goto 22, 3, (243, 0, 0), 0, []),
  (152, 224, .iconst 0, 1, (0, 0, 0), 0, []),
  (152, 225, .goto 18, 3, (243, 0, 0), 0, []),
  (152, 228, .iload 7, 2, (7, 0, 0), 0, []),
  (152, 230, .iload 6, 2, (6, 0, 0), 0, []),
  (152, 232, .bipush 100, 2, (0, 0, 0), 100, []),
  (152, 234, .irem, 1, (0, 0, 0), 0, []),
  (152, 235, .if_icmp .le 7, 3, (242, 0, 0), 0, []),
  (152, 238, .iconst 1, 1, (0, 0, 0), 1, []),
  (152, 239, .goto 4, 3, (243, 0, 0), 0, []),
  (152, 242, .iconst 0, 1, (0, 0, 0), 0, []),
  (152, 243, .bastore, 1, (0, 0, 0), 0, []),
  (152, 244, .iinc 4 1, 3, (4, 0, 0), 1, []),
  (152, 247, .iinc 5 1, 3, (5, 0, 0), 1, []),
  (152, 250, .goto (-239), 3, (11, 0, 0), 0, []),
  (152, 253, .aload_n 0, 1, (0, 0, 0), 0, []),
  (152, 254, .getfield 92, 3, (9, 27, 1), 0, [(0, 940)]),
  (152, 257, .iconst 0, 1, (0, 0, 0), 0, []),
  (152, 258, .baload, 1, (0, 0, 0), 0, []),
  (152, 259, .ireturn, 1, (1, 0, 0), 0, [])]
def rows_153 : List mRow := [
  (153, 0, .iconst 0, 1, (0, 0, 0), 0, []),
  (153, 1, .istore_n 3, 1, (3, 0, 0), 0, []),
  (153, 2, .aload_n 0, 1, (0, 0, 0), 0, []),
  (153, 3, .invokevirtual 322, 3, (145, 1, 1), 0, [(0, 1275)]),
  (153, 6, .istore 4, 2, (4, 0, 0), 0, []),
  (153, 8, .iload 4, 2, (4, 0, 0), 0, []),
  (153, 10, .aload_n 0, 1, (0, 0, 0), 0, []),
  (153, 11, .invokevirtual 325, 3, (146, 1, 1), 0, [(0, 1279)]),
  (153, 14, .if_icmp .ge 65, 3, (79, 0, 0), 0, []),
  (153, 17, .aload_n 0, 1, (0, 0, 0), 0, []),
  (153, 18, .getfield 59, 3, (9, 16, 1), 0, [(0, 929)]),
  (153, 21, .iload 4, 2, (4, 0, 0), 0, []),
  (153, 23, .iaload, 1, (0, 0, 0), 0, []),
  (153, 24, .iconst 1, 1, (0, 0, 0), 1, []),
  (153, 25, .if_icmp .gt 48, 3, (73, 0, 0), 0, []),
  (153, 28, .aload_n 0, 1, (0, 0, 0), 0, []),
  (153, 29, .iload 4, 2, (4, 0, 0), 0, []),
  (153, 31, .iload_n 1, 1, (1, 0, 0), 0, []),
  (153, 32, .iload_n 2, 1, (2, 0, 0), 0, []),
  (153, 33, .invokevirtual 339, 3, (152, 4, 1), 0, [(0, 1283)]),
  (153, 36, .ifCond .ne 6, 3, (42, 0, 0), 0, []),
  (153, 39, .goto 34, 3, (73, 0, 0), 0, []),
  (153, 42, .iload_n 3, 1, (3, 0, 0), 0, []),
  (153, 43, .aload_n 0, 1, (0, 0, 0), 0, []),
  (153, 44, .getfield 59, 3, (9, 16, 1), 0, [(0, 929)]),
  (153, 47, .iload 4, 2, (4, 0, 0), 0, []),
  (153, 49, .iaload, 1, (0, 0, 0), 0, []),
  (153, 50, .ifCond .ne 13, 3, (63, 0, 0), 0, []),
  (153, 53, .aload_n 0, 1, (0, 0, 0), 0, []),
  (153, 54, .getfield 62, 3, (9, 17, 1), 0, [(0, 930)]),
  (153, 57, .iload 4, 2, (4, 0, 0), 0, []),
  (153, 59, .iaload, 1, (0, 0, 0), 0, []),
  (153, 60, .goto 11, 3, (71, 0, 0), 0, []),
  (153, 63, .aload_n 0, 1, (0, 0, 0), 0, []),
  (153, 64, .getfield 62, 3, (9, 17, 1), 0, [(0, 930)]),
  (153, 67, .iload 4, 2, (4, 0, 0), 0, []),
  (153, 69, .iaload, 1, (0, 0, 0), 0, []),
  (153, 70, .ineg, 1, (0, 0, 0), 0, []),
  (153, 71, .iadd, 1, (0, 0, 0), 0, []),
  (153, 72, .istore_n 3, 1, (3, 0, 0), 0, []),
  (153, 73, .iinc 4 1, 3, (4, 0, 0), 1, []),
  (153, 76, .goto (-68), 3, (8, 0, 0), 0, []),
  (153, 79, .iload_n 3, 1, (3, 0, 0), 0, []),
  (153, 80, .ireturn, 1, (0, 0, 0), 0, [])]
def rows_154 : List mRow := [
  (154, 0, .aload_n 0, 1, (0, 0, 0), 0, []),
  (154, 1, .getfield 16, 3, (9, 2, 0), 0, [(0, 915)]),
  (154, 4, .aload_n 0, 1, (0, 0, 0), 0, []),
  (154, 5, .invokevirtual 342, 3, (149, 1, 1), 0, [(0, 1295)]),
  (154, 8, .if_icmp .le 15, 3, (23, 0, 0), 0, []),
  (154, 11, .aload_n 0, 1, (0, 0, 0), 0, []),
  (154, 12, .getfield 16, 3, (9, 2, 0), 0, [(0, 915)]),
  (154, 15, .aload_n 0, 1, (0, 0, 0), 0, []),
  (154, 16, .invokevirtual 342, 3, (149, 1, 1), 0, [(0, 1295)]),
  (154, 19, .isub, 1, (0, 0, 0), 0, []),
  (154, 20, .goto 12, 3, (32, 0, 0), 0, []),
  (154, 23, .aload_n 0, 1, (0, 0, 0), 0, []),
  (154, 24, .invokevirtual 342, 3, (149, 1, 1), 0, [(0, 1295)]),
  (154, 27, .aload_n 0, 1, (0, 0, 0), 0, []),
  (154, 28, .getfield 16, 3, (9, 2, 0), 0, [(0, 915)]),
  (154, 31, .isub, 1, (0, 0, 0), 0, []),
  (154, 32, .istore_n 1, 1, (1, 0, 0), 0, []),
  (154, 33, .bipush 9, 2, (0, 0, 0), 9, []),
  (154, 35, .aload_n 0, 1, (0, 0, 0), 0, []),
  (154, 36, .iload_n 1, 1, (1, 0, 0), 0, []),
  (154, 37, .bipush 24, 2, (0, 0, 0), 24, []),
  (154, 39, .iload_n 1, 1, (1, 0, 0), 0, []),
  (154, 40, .isub, 1, (0, 0, 0), 0, []),
  (154, 41, .invokevirtual 332, 3, (118, 3, 1), 0, [(0, 1303)]),
  (154, 44, .isub, 1, (0, 0, 0), 0, []),
  (154, 45, .istore_n 2, 1, (2, 0, 0), 0, []),
  (154, 46, .iload_n 2, 1, (2, 0, 0), 0, []),
  (154, 47, .ifCond .ge 7, 3, (54, 0, 0), 0, []),
  (154, 50, .iconst 0, 1, (0, 0, 0), 0, []),
  (154, 51, .goto 4, 3, (55, 0, 0), 0, []),
  (154, 54, .iload_n 2, 1, (2, 0, 0), 0, []),
  (154, 55, .ireturn, 1, (0, 0, 0), 0, [])]
def rows_155 : List mRow := [
  (155, 0, .aload_n 0, 1, (0, 0, 0), 0, []),
  (155, 1, .getfield 32, 3, (9, 7, 1), 0, [(0, 920)]),
  (155, 4, .bipush 6, 2, (0, 0, 0), 6, []),
  (155, 6, .iload_n 1, 1, (1, 0, 0), 0, []),
  (155, 7, .imul, 1, (0, 0, 0), 0, []),
  (155, 8, .iload_n 2, 1, (2, 0, 0), 0, []),
  (155, 9, .iadd, 1, (0, 0, 0), 0, []),
  (155, 10, .iaload, 1, (0, 0, 0), 0, []),
  (155, 11, .aload_n 0, 1, (0, 0, 0), 0, []),
  (155, 12, .iload_n 1, 1, (1, 0, 0), 0, []),
  (155, 13, .iload_n 2, 1, (2, 0, 0), 0, []),
  (155, 14, .invokevirtual 345, 3, (153, 3, 1), 0, [(0, 1271)]),
  (155, 17, .iadd, 1, (0, 0, 0), 0, []),
  (155, 18, .istore_n 3, 1, (3, 0, 0), 0, []),
  (155, 19, .iload_n 3, 1, (3, 0, 0), 0, []),
  (155, 20, .aload_n 0, 1, (0, 0, 0), 0, []),
  (155, 21, .invokevirtual 348, 3, (154, 1, 1), 0, [(0, 1291)]),
  (155, 24, .iconst 3, 1, (0, 0, 0), 3, []),
  (155, 25, .idiv, 1, (0, 0, 0), 0, []),
  (155, 26, .iadd, 1, (0, 0, 0), 0, []),
  (155, 27, .istore 4, 2, (4, 0, 0), 0, []),
  (155, 29, .aload_n 0, 1, (0, 0, 0), 0, []),
  (155, 30, .getfield 16, 3, (9, 2, 0), 0, [(0, 915)]),
  (155, 33, .iconst 2, 1, (0, 0, 0), 2, []),
  (155, 34, .irem, 1, (0, 0, 0), 0, []),
  (155, 35, .ifCond .ne 15, 3, (50, 0, 0), 0, []),
  (155, 38, .iload_n 2, 1, (2, 0, 0), 0, []),
  (155, 39, .iconst 3, 1, (0, 0, 0), 3, []),
  (155, 40, .if_icmp .ge 10, 3, (50, 0, 0), 0, []),
  (155, 43, .iload 4, 2, (4, 0, 0), 0, []),
  (155, 45, .iconst 3, 1, (0, 0, 0), 3, []),
  (155, 46, .iadd, 1, (0, 0, 0), 0, []),
  (155, 47, .goto 5, 3, (52, 0, 0), 0, []),
  (155, 50, .iload 4, 2, (4, 0, 0), 0, []),
  (155, 52, .istore 5, 2, (5, 0, 0), 0, []),
  (155, 54, .iload_n 2, 1, (2, 0, 0), 0, []),
  (155, 55, .iconst 1, 1, (0, 0, 0), 1, []),
  (155, 56, .if_icmp .ne 10, 3, (66, 0, 0), 0, []),
  (155, 59, .iload 4, 2, (4, 0, 0), 0, []),
  (155, 61, .iconst 5, 1, (0, 0, 0), 5, []),
  (155, 62, .iadd, 1, (0, 0, 0), 0, []),
  (155, 63, .goto 5, 3, (68, 0, 0), 0, []),
  (155, 66, .iload 4, 2, (4, 0, 0), 0, []),
  (155, 68, .istore 6, 2, (6, 0, 0), 0, []),
  (155, 70, .aload_n 0, 1, (0, 0, 0), 0, []),
  (155, 71, .getfield 22, 3, (9, 4, 1), 0, [(0, 917)]),
  (155, 74, .iload_n 1, 1, (1, 0, 0), 0, []),
  (155, 75, .iaload, 1, (0, 0, 0), 0, []),
  (155, 76, .tableswitch 113 1 6 #[40, 53, 56, 59, 71, 97], 40, (189, 0, 0), 0, [(1, 116), (2, 129), (3, 132), (4, 135), (5, 147), (6, 173)]),
  (155, 116, .iload 4, 2, (4, 0, 0), 0, []),
  (155, 118, .aload_n 0, 1, (0, 0, 0), 0, []),
  (155, 119, .getfield 29, 3, (9, 6, 1), 0, [(0, 919)]),
  (155, 122, .iload_n 1, 1, (1, 0, 0), 0, []),
  (155, 123, .iaload, 1, (0, 0, 0), 0, []),
  (155, 124, .bipush 20, 2, (0, 0, 0), 20, []),
  (155, 126, .idiv, 1, (0, 0, 0), 0, []),
  (155, 127, .isub, 1, (0, 0, 0), 0, []),
  (155, 128, .ireturn, 1, (0, 0, 0), 0, []),
  (155, 129, .iload 5, 2, (5, 0, 0), 0, []),
  (155, 131, .ireturn, 1, (0, 0, 0), 0, []),
  (155, 132, .iload 6, 2, (6, 0, 0), 0, []),
  (155, 134, .ireturn, 1, (0, 0, 0), 0, []),
  (155, 135, .iload_n 3, 1, (3, 0, 0), 0, []),
  (155, 136, .aload_n 0, 1, (0, 0, 0), 0, []),
  (155, 137, .getfield 29, 3, (9, 6, 1), 0, [(0, 919)]),
  (155, 140, .iload_n 1, 1, (1, 0, 0), 0, []),
  (155, 141, .iaload, 1, (0, 0, 0), 0, []),
  (155, 142, .bipush 20, 2, (0, 0, 0), 20, []),
  (155, 144, .idiv, 1, (0, 0, 0), 0, []),
  (155, 145, .isub, 1, (0, 0, 0), 0, []),
  (155, 146, .ireturn, 1, (0, 0, 0), 0, []),
  (155, 147, .aload_n 0, 1, (0, 0, 0), 0, []),
  (155, 148, .getfield 29, 3, (9, 6, 1), 0, [(0, 919)]),
  (155, 151, .iload_n 1, 1, (1, 0, 0), 0, []),
  (155, 152, .iaload, 1, (0, 0, 0), 0, []),
  (155, 153, .bipush 20, 2, (0, 0, 0), 20, []),
  (155, 155, .if_icmp .ge 15, 3, (170, 0, 0), 0, []),
  (155, 158, .iload 5, 2, (5, 0, 0), 0, []),
  (155, 160, .aload_n 0, 1, (0, 0, 0), 0, []),
  (155, 161, .getfield 26, 3, (9, 5, 1), 0, [(0, 918)]),
  (155, 164, .iload_n 1, 1, (1, 0, 0), 0, []),
  (155, 165, .iaload, 1, (0, 0, 0), 0, []),
  (155, 166, .iadd, 1, (0, 0, 0), 0, []),
  (155, 167, .goto 5, 3, (172, 0, 0), 0, []),
  (155, 170, .iload 5, 2, (5, 0, 0), 0, []),
  (155, 172, .ireturn, 1, (0, 0, 0), 0, []),
  (155, 173, .iload 6, 2, (6, 0, 0), 0, []),
  (155, 175, .aload_n 0, 1, (0, 0, 0), 0, []),
  (155, 176, .getfield 35, 3, (9, 8, 1), 0, [(0, 921)]),
  (155, 179, .iconst 4, 1, (0, 0, 0), 4, []),
  (155, 180, .iload_n 1, 1, (1, 0, 0), 0, []),
  (155, 181, .imul, 1, (0, 0, 0), 0, []),
  (155, 182, .iload_n 2, 1, (2, 0, 0), 0, []),
  (155, 183, .iconst 4, 1, (0, 0, 0), 4, []),
  (155, 184, .irem, 1, (0, 0, 0), 0, []),
  (155, 185, .iadd, 1, (0, 0, 0), 0, []),
  (155, 186, .iaload, 1, (0, 0, 0), 0, []),
  (155, 187, .iadd, 1, (0, 0, 0), 0, []),
  (155, 188, .ireturn, 1, (0, 0, 0), 0, []),
  (155, 189, .iload 4, 2, (4, 0, 0), 0, []),
  (155, 191, .ireturn, 1, (0, 0, 0), 0, [])]
def rows_156 : List mRow := [
  (156, 0, .aload_n 0, 1, (0, 0, 0), 0, []),
  (156, 1, .iload_n 1, 1, (1, 0, 0), 0, []),
  (156, 2, .iload_n 2, 1, (2, 0, 0), 0, []),
  (156, 3, .invokevirtual 351, 3, (155, 3, 1), 0, [(0, 1267)]),
  (156, 6, .aload_n 0, 1, (0, 0, 0), 0, []),
  (156, 7, .invokevirtual 354, 3, (148, 1, 1), 0, [(0, 1323)]),
  (156, 10, .if_icmp .lt 7, 3, (17, 0, 0), 0, []),
  (156, 13, .iconst 1, 1, (0, 0, 0), 1, []),
  (156, 14, .goto 4, 3, (18, 0, 0), 0, []),
  (156, 17, .iconst 0, 1, (0, 0, 0), 0, []),
  (156, 18, .ireturn, 1, (1, 0, 0), 0, [])]
def rows_157 : List mRow := [
  (157, 0, .iconst 0, 1, (0, 0, 0), 0, []),
  (157, 1, .istore_n 2, 1, (2, 0, 0), 0, []),
  (157, 2, .iconst 0, 1, (0, 0, 0), 0, []),
  (157, 3, .istore_n 3, 1, (3, 0, 0), 0, []),
  (157, 4, .iload_n 3, 1, (3, 0, 0), 0, []),
  (157, 5, .bipush 6, 2, (0, 0, 0), 6, []),
  (157, 7, .if_icmp .ge 28, 3, (35, 0, 0), 0, []),
  (157, 10, .iload_n 2, 1, (2, 0, 0), 0, []),
  (157, 11, .aload_n 0, 1, (0, 0, 0), 0, []),
  (157, 12, .iload_n 1, 1, (1, 0, 0), 0, []),
  (157, 13, .iload_n 3, 1, (3, 0, 0), 0, []),
  (157, 14, .invokevirtual 357, 3, (156, 3, 1), 0, [(0, 1319)]),
  (157, 17, .ifCond .eq 9, 3, (26, 0, 0), 0, []),
  (157, 20, .iconst 1, 1, (0, 0, 0), 1, []),
  (157, 21, .iload_n 3, 1, (3, 0, 0), 0, []),
  (157, 22, .ishl, 1, (0, 0, 0), 0, []),
  (157, 23, .goto 4, 3, (27, 0, 0), 0, []),
  (157, 26, .iconst 0, 1, (0, 0, 0), 0, []),
  (157, 27, .ior, 1, (0, 0, 0), 0, []),
  (157, 28, .istore_n 2, 1, (2, 0, 0), 0, []),
  (157, 29, .iinc 3 1, 3, (3, 0, 0), 1, []),
  (157, 32, .goto (-28), 3, (4, 0, 0), 0, []),
  (157, 35, .iload_n 2, 1, (2, 0, 0), 0, []),
  (157, 36, .ireturn, 1, (0, 0, 0), 0, [])]
def rows_158 : List mRow := [
  (158, 0, .iconst 0, 1, (0, 0, 0), 0, []),
  (158, 1, .istore_n 2, 1, (2, 0, 0), 0, []),
  (158, 2, .iconst 0, 1, (0, 0, 0), 0, []),
  (158, 3, .istore_n 3, 1, (3, 0, 0), 0, []),
  (158, 4, .iload_n 3, 1, (3, 0, 0), 0, []),
  (158, 5, .bipush 6, 2, (0, 0, 0), 6, []),
  (158, 7, .if_icmp .ge 26, 3, (33, 0, 0), 0, []),
  (158, 10, .iload_n 2, 1, (2, 0, 0), 0, []),
  (158, 11, .aload_n 0, 1, (0, 0, 0), 0, []),
  (158, 12, .iload_n 1, 1, (1, 0, 0), 0, []),
  (158, 13, .iload_n 3, 1, (3, 0, 0), 0, []),
  (158, 14, .invokevirtual 357, 3, (156, 3, 1), 0, [(0, 1319)]),
  (158, 17, .ifCond .eq 7, 3, (24, 0, 0), 0, []),
  (158, 20, .iconst 1, 1, (0, 0, 0), 1, []),
  (158, 21, .goto 4, 3, (25, 0, 0), 0, []),
  (158, 24, .iconst 0, 1, (0, 0, 0), 0, []),
  (158, 25, .iadd, 1, (0, 0, 0), 0, []),
  (158, 26, .istore_n 2, 1, (2, 0, 0), 0, []),
  (158, 27, .iinc 3 1, 3, (3, 0, 0), 1, []),
  (158, 30, .goto (-26), 3, (4, 0, 0), 0, []),
  (158, 33, .iload_n 2, 1, (2, 0, 0), 0, []),
  (158, 34, .ireturn, 1, (0, 0, 0), 0, [])]
def rows_159 : List mRow := [
  (159, 0, .aload_n 0, 1, (0, 0, 0), 0, []),
  (159, 1, .aload_n 0, 1, (0, 0, 0), 0, []),
  (159, 2, .getfield 13, 3, (9, 1, 0), 0, [(0, 914)]),
  (159, 5, .iload_n 1, 1, (1, 0, 0), 0, []),
  (159, 6, .invokevirtual 265, 3, (117, 3, 1), 0, [(0, 1179)]),
  (159, 9, .ifCond .eq 7, 3, (16, 0, 0), 0, []),
  (159, 12, .iconst 0, 1, (0, 0, 0), 0, []),
  (159, 13, .goto 16, 3, (29, 0, 0), 0, []),
  (159, 16, .aload_n 0, 1, (0, 0, 0), 0, []),
  (159, 17, .invokevirtual 360, 3, (150, 1, 1), 0, [(0, 1311)]),
  (159, 20, .bipush 6, 2, (0, 0, 0), 6, []),
  (159, 22, .aload_n 0, 1, (0, 0, 0), 0, []),
  (159, 23, .iload_n 1, 1, (1, 0, 0), 0, []),
  (159, 24, .invokevirtual 363, 3, (158, 2, 1), 0, [(0, 1315)]),
  (159, 27, .isub, 1, (0, 0, 0), 0, []),
  (159, 28, .imul, 1, (0, 0, 0), 0, []),
  (159, 29, .ireturn, 1, (0, 0, 0), 0, [])]
def rows_160 : List mRow := [
  (160, 0, .iconst 0, 1, (0, 0, 0), 0, []),
  (160, 1, .istore_n 1, 1, (1, 0, 0), 0, []),
  (160, 2, .iconst 0, 1, (0, 0, 0), 0, []),
  (160, 3, .istore_n 2, 1, (2, 0, 0), 0, []),
  (160, 4, .iload_n 2, 1, (2, 0, 0), 0, []),
  (160, 5, .aload_n 0, 1, (0, 0, 0), 0, []),
  (160, 6, .getfield 7, 3, (9, 0, 0), 0, [(0, 913)]),
  (160, 9, .if_icmp .ge 17, 3, (26, 0, 0), 0, []),
  (160, 12, .iload_n 1, 1, (1, 0, 0), 0, []),
  (160, 13, .aload_n 0, 1, (0, 0, 0), 0, []),
  (160, 14, .iload_n 2, 1, (2, 0, 0), 0, []),
  (160, 15, .invokevirtual 366, 3, (159, 2, 1), 0, [(0, 1307)]),
  (160, 18, .iadd, 1, (0, 0, 0), 0, []),
  (160, 19, .istore_n 1, 1, (1, 0, 0), 0, []),
  (160, 20, .iinc 2 1, 3, (2, 0, 0), 1, []),
  (160, 23, .goto (-19), 3, (4, 0, 0), 0, []),
  (160, 26, .iload_n 1, 1, (1, 0, 0), 0, []),
  (160, 27, .ireturn, 1, (0, 0, 0), 0, [])]
def rows_161 : List mRow := [
  (161, 0, .bipush (-5), 2, (0, 0, 0), (-5), []),
  (161, 2, .istore_n 2, 1, (2, 0, 0), 0, []),
  (161, 3, .iconst 0, 1, (0, 0, 0), 0, []),
  (161, 4, .istore_n 3, 1, (3, 0, 0), 0, []),
  (161, 5, .iconst 0, 1, (0, 0, 0), 0, []),
  (161, 6, .istore 4, 2, (4, 0, 0), 0, []),
  (161, 8, .iload 4, 2, (4, 0, 0), 0, []),
  (161, 10, .bipush 6, 2, (0, 0, 0), 6, []),
  (161, 12, .if_icmp .ge 46, 3, (58, 0, 0), 0, []),
  (161, 15, .aload_n 0, 1, (0, 0, 0), 0, []),
  (161, 16, .iload_n 1, 1, (1, 0, 0), 0, []),
  (161, 17, .iload 4, 2, (4, 0, 0), 0, []),
  (161, 19, .invokevirtual 351, 3, (155, 3, 1), 0, [(0, 1267)]),
  (161, 22, .istore 5, 2, (5, 0, 0), 0, []),
  (161, 24, .iload 5, 2, (5, 0, 0), 0, []),
  (161, 26, .aload_n 0, 1, (0, 0, 0), 0, []),
  (161, 27, .invokevirtual 354, 3, (148, 1, 1), 0, [(0, 1323)]),
  (161, 30, .if_icmp .ge 22, 3, (52, 0, 0), 0, []),
  (161, 33, .iload_n 2, 1, (2, 0, 0), 0, []),
  (161, 34, .ifCond .lt 12, 3, (46, 0, 0), 0, []),
  (161, 37, .iload 5, 2, (5, 0, 0), 0, []),
  (161, 39, .iload_n 3, 1, (3, 0, 0), 0, []),
  (161, 40, .if_icmp .gt 6, 3, (46, 0, 0), 0, []),
  (161, 43, .goto 9, 3, (52, 0, 0), 0, []),
  (161, 46, .iload 4, 2, (4, 0, 0), 0, []),
  (161, 48, .istore_n 2, 1, (2, 0, 0), 0, []),
  (161, 49, .iload 5, 2, (5, 0, 0), 0, []),
  (161, 51, .istore_n 3, 1, (3, 0, 0), 0, []),
  (161, 52, .iinc 4 1, 3, (4, 0, 0), 1, []),
  (161, 55, .goto (-47), 3, (8, 0, 0), 0, []),
  (161, 58, .iload_n 2, 1, (2, 0, 0), 0, []),
  (161, 59, .ireturn, 1, (0, 0, 0), 0, [])]
def rows_162 : List mRow := [
  (162, 0, .aload_n 0, 1, (0, 0, 0), 0, []),
  (162, 1, .iload_n 1, 1, (1, 0, 0), 0, []),
  (162, 2, .invokevirtual 258, 3, (119, 2, 1), 0, [(0, 1167)]),
  (162, 5, .ifCond .ne 7, 3, (12, 0, 0), 0, []),
  (162, 8, .sipush (-1001), 3, (0, 0, 0), (-1001), []),
  (162, 11, .ireturn, 1, (0, 0, 0), 0, []),
  (162, 12, .aload_n 0, 1, (0, 0, 0), 0, []),
  (162, 13, .iload_n 2, 1, (2, 0, 0), 0, []),
  (162, 14, .bipush 10, 2, (0, 0, 0), 10, []),
  (162, 16, .bipush 15, 2, (0, 0, 0), 15, []),
  (162, 18, .invokevirtual 254, 3, (116, 4, 1), 0, [(0, 1159)]),
  (162, 21, .ifCond .eq 18, 3, (39, 0, 0), 0, []),
  (162, 24, .aload_n 0, 1, (0, 0, 0), 0, []),
  (162, 25, .getfield 32, 3, (9, 7, 1), 0, [(0, 920)]),
  (162, 28, .bipush 6, 2, (0, 0, 0), 6, []),
  (162, 30, .iload_n 1, 1, (1, 0, 0), 0, []),
  (162, 31, .imul, 1, (0, 0, 0), 0, []),
  (162, 32, .iload_n 2, 1, (2, 0, 0), 0, []),
  (162, 33, .iadd, 1, (0, 0, 0), 0, []),
  (162, 34, .bipush 10, 2, (0, 0, 0), 10, []),
  (162, 36, .isub, 1, (0, 0, 0), 0, []),
  (162, 37, .iaload, 1, (0, 0, 0), 0, []),
  (162, 38, .ireturn, 1, (0, 0, 0), 0, []),
  (162, 39, .aload_n 0, 1, (0, 0, 0), 0, []),
  (162, 40, .iload_n 2, 1, (2, 0, 0), 0, []),
  (162, 41, .bipush 20, 2, (0, 0, 0), 20, []),
  (162, 43, .bipush 25, 2, (0, 0, 0), 25, []),
  (162, 45, .invokevirtual 254, 3, (116, 4, 1), 0, [(0, 1159)]),
  (162, 48, .ifCond .eq 13, 3, (61, 0, 0), 0, []),
  (162, 51, .aload_n 0, 1, (0, 0, 0), 0, []),
  (162, 52, .iload_n 1, 1, (1, 0, 0), 0, []),
  (162, 53, .iload_n 2, 1, (2, 0, 0), 0, []),
  (162, 54, .bipush 20, 2, (0, 0, 0), 20, []),
  (162, 56, .isub, 1, (0, 0, 0), 0, []),
  (162, 57, .invokevirtual 351, 3, (155, 3, 1), 0, [(0, 1267)]),
  (162, 60, .ireturn, 1, (0, 0, 0), 0, []),
  (162, 61, .aload_n 0, 1, (0, 0, 0), 0, []),
  (162, 62, .iload_n 2, 1, (2, 0, 0), 0, []),
  (162, 63, .bipush 30, 2, (0, 0, 0), 30, []),
  (162, 65, .bipush 35, 2, (0, 0, 0), 35, []),
  (162, 67, .invokevirtual 254, 3, (116, 4, 1), 0, [(0, 1159)]),
  (162, 70, .ifCond .eq 13, 3, (83, 0, 0), 0, []),
  (162, 73, .aload_n 0, 1, (0, 0, 0), 0, []),
  (162, 74, .iload_n 1, 1, (1, 0, 0), 0, []),
  (162, 75, .iload_n 2, 1, (2, 0, 0), 0, []),
  (162, 76, .bipush 30, 2, (0, 0, 0), 30, []),
  (162, 78, .isub, 1, (0, 0, 0), 0, []),
  (162, 79, .invokevirtual 345, 3, (153, 3, 1), 0, [(0, 1271)]),
  (162, 82, .ireturn, 1, (0, 0, 0), 0, []),
  (162, 83, .iload_n 2, 1, (2, 0, 0), 0, []),
  (162, 84, .tableswitch 101 0 6 #[44, 51, 58, 65, 83, 89, 95], 44, (185, 0, 0), 0, [(0, 128), (1, 135), (2, 142), (3, 149), (4, 167), (5, 173), (6, 179)]),
  (162, 128, .aload_n 0, 1, (0, 0, 0), 0, []),
  (162, 129, .getfield 22, 3, (9, 4, 1), 0, [(0, 917)]),
  (162, 132, .iload_n 1, 1, (1, 0, 0), 0, []),
  (162, 133, .iaload, 1, (0, 0, 0), 0, []),
  (162, 134, .ireturn, 1, (0, 0, 0), 0, []),
  (162, 135, .aload_n 0, 1, (0, 0, 0), 0, []),
  (162, 136, .getfield 26, 3, (9, 5, 1), 0, [(0, 918)]),
  (162, 139, .iload_n 1, 1, (1, 0, 0), 0, []),
  (162, 140, .iaload, 1, (0, 0, 0), 0, []),
  (162, 141, .ireturn, 1, (0, 0, 0), 0, []),
  (162, 142, .aload_n 0, 1, (0, 0, 0), 0, []),
  (162, 143, .getfield 29, 3, (9, 6, 1), 0, [(0, 919)]),
  (162, 146, .iload_n 1, 1, (1, 0, 0), 0, []),
  (162, 147, .iaload, 1, (0, 0, 0), 0, []),
  (162, 148, .ireturn, 1, (0, 0, 0), 0, []),
  (162, 149, .aload_n 0, 1, (0, 0, 0), 0, []),
  (162, 150, .aload_n 0, 1, (0, 0, 0), 0, []),
  (162, 151, .getfield 13, 3, (9, 1, 0), 0, [(0, 914)]),
  (162, 154, .iload_n 1, 1, (1, 0, 0), 0, []),
  (162, 155, .invokevirtual 265, 3, (117, 3, 1), 0, [(0, 1179)]),
  (162, 158, .ifCond .eq 7, 3, (165, 0, 0), 0, []),
  (162, 161, .iconst 1, 1, (0, 0, 0), 1, []),
  (162, 162, .goto 4, 3, (166, 0, 0), 0, []),
  (162, 165, .iconst 0, 1, (0, 0, 0), 0, []),
  (162, 166, .ireturn, 1, (0, 0, 0), 0, []),
  (162, 167, .aload_n 0, 1, (0, 0, 0), 0, []),
  (162, 168, .iload_n 1, 1, (1, 0, 0), 0, []),
  (162, 169, .invokevirtual 366, 3, (159, 2, 1), 0, [(0, 1307)]),
  (162, 172, .ireturn, 1, (0, 0, 0), 0, []),
  (162, 173, .aload_n 0, 1, (0, 0, 0), 0, []),
  (162, 174, .iload_n 1, 1, (1, 0, 0), 0, []),
  (162, 175, .invokevirtual 369, 3, (157, 2, 1), 0, [(0, 1327)]),
  (162, 178, .ireturn, 1, (0, 0, 0), 0, []),
  (162, 179, .aload_n 0, 1, (0, 0, 0), 0, []),
  (162, 180, .iload_n 1, 1, (1, 0, 0), 0, []),
  (162, 181, .invokevirtual 372, 3, (161, 2, 1), 0, [(0, 1331)]),
  (162, 184, .ireturn, 1, (0, 0, 0), 0, []),
  (162, 185, .sipush (-1001), 3, (0, 0, 0), (-1001), []),
  (162, 188, .ireturn, 1, (0, 0, 0), 0, [])]
def rows_163 : List mRow := [
  (163, 0, .iload_n 1, 1, (1, 0, 0), 0, []),
  (163, 1, .tableswitch 78 0 6 #[43, 48, 53, 58, 63, 68, 73], 43, (79, 0, 0), 0, [(0, 44), (1, 49), (2, 54), (3, 59), (4, 64), (5, 69), (6, 74)]),
  (163, 44, .aload_n 0, 1, (0, 0, 0), 0, []),
  (163, 45, .getfield 19, 3, (9, 3, 0), 0, [(0, 916)]),
  (163, 48, .ireturn, 1, (0, 0, 0), 0, []),
  (163, 49, .aload_n 0, 1, (0, 0, 0), 0, []),
  (163, 50, .getfield 16, 3, (9, 2, 0), 0, [(0, 915)]),
  (163, 53, .ireturn, 1, (0, 0, 0), 0, []),
  (163, 54, .aload_n 0, 1, (0, 0, 0), 0, []),
  (163, 55, .invokevirtual 354, 3, (148, 1, 1), 0, [(0, 1323)]),
  (163, 58, .ireturn, 1, (0, 0, 0), 0, []),
  (163, 59, .aload_n 0, 1, (0, 0, 0), 0, []),
  (163, 60, .invokevirtual 342, 3, (149, 1, 1), 0, [(0, 1295)]),
  (163, 63, .ireturn, 1, (0, 0, 0), 0, []),
  (163, 64, .aload_n 0, 1, (0, 0, 0), 0, []),
  (163, 65, .invokevirtual 360, 3, (150, 1, 1), 0, [(0, 1311)]),
  (163, 68, .ireturn, 1, (0, 0, 0), 0, []),
  (163, 69, .aload_n 0, 1, (0, 0, 0), 0, []),
  (163, 70, .invokevirtual 348, 3, (154, 1, 1), 0, [(0, 1291)]),
  (163, 73, .ireturn, 1, (0, 0, 0), 0, []),
  (163, 74, .aload_n 0, 1, (0, 0, 0), 0, []),
  (163, 75, .invokevirtual 375, 3, (160, 1, 1), 0, [(0, 1339)]),
  (163, 78, .ireturn, 1, (0, 0, 0), 0, []),
  (163, 79, .iconst (-1), 1, (0, 0, 0), (-1), []),
  (163, 80, .ireturn, 1, (0, 0, 0), 0, [])]
def rows_164 : List mRow := [
  (164, 0, .iconst 0, 1, (0, 0, 0), 0, []),
  (164, 1, .istore_n 1, 1, (1, 0, 0), 0, []),
  (164, 2, .iload_n 1, 1, (1, 0, 0), 0, []),
  (164, 3, .aload_n 0, 1, (0, 0, 0), 0, []),
  (164, 4, .getfield 7, 3, (9, 0, 0), 0, [(0, 913)]),
  (164, 7, .if_icmp .ge 64, 3, (71, 0, 0), 0, []),
  (164, 10, .aload_n 0, 1, (0, 0, 0), 0, []),
  (164, 11, .getfield 29, 3, (9, 6, 1), 0, [(0, 919)]),
  (164, 14, .iload_n 1, 1, (1, 0, 0), 0, []),
  (164, 15, .iaload, 1, (0, 0, 0), 0, []),
  (164, 16, .bipush 99, 2, (0, 0, 0), 99, []),
  (164, 18, .if_icmp .ne 6, 3, (24, 0, 0), 0, []),
  (164, 21, .goto 44, 3, (65, 0, 0), 0, []),
  (164, 24, .aload_n 0, 1, (0, 0, 0), 0, []),
  (164, 25, .getfield 29, 3, (9, 6, 1), 0, [(0, 919)]),
  (164, 28, .iload_n 1, 1, (1, 0, 0), 0, []),
  (164, 29, .dup2, 1, (0, 0, 0), 0, []),
  (164, 30, .iaload, 1, (0, 0, 0), 0, []),
  (164, 31, .iconst 1, 1, (0, 0, 0), 1, []),
  (164, 32, .iadd, 1, (0, 0, 0), 0, []),
  (164, 33, .iastore, 1, (0, 0, 0), 0, []),
  (164, 34, .aload_n 0, 1, (0, 0, 0), 0, []),
  (164, 35, .getfield 29, 3, (9, 6, 1), 0, [(0, 919)]),
  (164, 38, .iload_n 1, 1, (1, 0, 0), 0, []),
  (164, 39, .iaload, 1, (0, 0, 0), 0, []),
  (164, 40, .bipush 40, 2, (0, 0, 0), 40, []),
  (164, 42, .if_icmp .ne 23, 3, (65, 0, 0), 0, []),
  (164, 45, .aload_n 0, 1, (0, 0, 0), 0, []),
  (164, 46, .getfield 32, 3, (9, 7, 1), 0, [(0, 920)]),
  (164, 49, .bipush 6, 2, (0, 0, 0), 6, []),
  (164, 51, .iload_n 1, 1, (1, 0, 0), 0, []),
  (164, 52, .imul, 1, (0, 0, 0), 0, []),
  (164, 53, .aload_n 0, 1, (0, 0, 0), 0, []),
  (164, 54, .getfield 26, 3, (9, 5, 1), 0, [(0, 918)]),
  (164, 57, .iload_n 1, 1, (1, 0, 0), 0, []),
  (164, 58, .iaload, 1, (0, 0, 0), 0, []),
  (164, 59, .bipush 6, 2, (0, 0, 0), 6, []),
  (164, 61, .irem, 1, (0, 0, 0), 0, []),
  (164, 62, .iadd, 1, (0, 0, 0), 0, []),
  (164, 63, .iconst 0, 1, (0, 0, 0), 0, []),
  (164, 64, .iastore, 1, (0, 0, 0), 0, []),
  (164, 65, .iinc 1 1, 3, (1, 0, 0), 1, []),
  (164, 68, .goto (-66), 3, (2, 0, 0), 0, []),
  (164, 71, .aload_n 0, 1, (0, 0, 0), 0, []),
  (164, 72, .dup, 1, (0, 0, 0), 0, []),
  (164, 73, .getfield 19, 3, (9, 3, 0), 0, [(0, 916)]),
  (164, 76, .iconst 1, 1, (0, 0, 0), 1, []),
  (164, 77, .iadd, 1, (0, 0, 0), 0, []),
  (164, 78, .putfield 19, 3, (9, 3, 0), 0, [(0, 916)]),
  (164, 81, .return_, 1, (0, 0, 0), 0, [])]
def rows_165 : List mRow := [
  (165, 0, .iconst 0, 1, (0, 0, 0), 0, []),
  (165, 1, .istore_n 2, 1, (2, 0, 0), 0, []),
  (165, 2, .iload_n 2, 1, (2, 0, 0), 0, []),
  (165, 3, .iload_n 1, 1, (1, 0, 0), 0, []),
  (165, 4, .if_icmp .ge 13, 3, (17, 0, 0), 0, []),
  (165, 7, .aload_n 0, 1, (0, 0, 0), 0, []),
  (165, 8, .invokevirtual 378, 3, (164, 1, 0), 0, [(0, 1355)]),
  (165, 11, .iinc 2 1, 3, (2, 0, 0), 1, []),
  (165, 14, .goto (-12), 3, (2, 0, 0), 0, []),
  (165, 17, .return_, 1, (0, 0, 0), 0, [])]
def rows_166 : List mRow := [
  (166, 0, .aload_n 0, 1, (0, 0, 0), 0, []),
  (166, 1, .iload_n 1, 1, (1, 0, 0), 0, []),
  (166, 2, .invokevirtual 381, 3, (122, 2, 1), 0, [(0, 1347)]),
  (166, 5, .ifCond .ne 6, 3, (11, 0, 0), 0, []),
  (166, 8, .bipush (-2), 2, (0, 0, 0), (-2), []),
  (166, 10, .ireturn, 1, (0, 0, 0), 0, []),
  (166, 11, .aload_n 0, 1, (0, 0, 0), 0, []),
  (166, 12, .getfield 19, 3, (9, 3, 0), 0, [(0, 916)]),
  (166, 15, .iload_n 1, 1, (1, 0, 0), 0, []),
  (166, 16, .iadd, 1, (0, 0, 0), 0, []),
  (166, 17, .sipush 9999, 3, (0, 0, 0), 9999, []),
  (166, 20, .if_icmp .le 6, 3, (26, 0, 0), 0, []),
  (166, 23, .bipush (-3), 2, (0, 0, 0), (-3), []),
  (166, 25, .ireturn, 1, (0, 0, 0), 0, []),
  (166, 26, .aload_n 0, 1, (0, 0, 0), 0, []),
  (166, 27, .iload_n 1, 1, (1, 0, 0), 0, []),
  (166, 28, .invokevirtual 384, 3, (165, 2, 0), 0, [(0, 1351)]),
  (166, 31, .aload_n 0, 1, (0, 0, 0), 0, []),
  (166, 32, .getfield 19, 3, (9, 3, 0), 0, [(0, 916)]),
  (166, 35, .ireturn, 1, (0, 0, 0), 0, [])]
def rows_167 : List mRow := [
  (167, 0, .aload_n 0, 1, (0, 0, 0), 0, []),
  (167, 1, .aload_n 0, 1, (0, 0, 0), 0, []),
  (167, 2, .getfield 13, 3, (9, 1, 0), 0, [(0, 914)]),
  (167, 5, .putfield 96, 3, (9, 28, 0), 0, [(0, 941)]),
  (167, 8, .aload_n 0, 1, (0, 0, 0), 0, []),
  (167, 9, .aload_n 0, 1, (0, 0, 0), 0, []),
  (167, 10, .getfield 16, 3, (9, 2, 0), 0, [(0, 915)]),
  (167, 13, .putfield 99, 3, (9, 29, 0), 0, [(0, 942)]),
  (167, 16, .aload_n 0, 1, (0, 0, 0), 0, []),
  (167, 17, .aload_n 0, 1, (0, 0, 0), 0, []),
  (167, 18, .getfield 19, 3, (9, 3, 0), 0, [(0, 916)]),
  (167, 21, .putfield 102, 3, (9, 30, 0), 0, [(0, 943)]),
  (167, 24, .iconst 0, 1, (0, 0, 0), 0, []),
  (167, 25, .istore_n 1, 1, (1, 0, 0), 0, []),
  (167, 26, .iload_n 1, 1, (1, 0, 0), 0, []),
  (167, 27, .bipush 6, 2, (0, 0, 0), 6, []),
  (167, 29, .if_icmp .ge 21, 3, (50, 0, 0), 0, []),
  (167, 32, .aload_n 0, 1, (0, 0, 0), 0, []),
  (167, 33, .getfield 105, 3, (9, 31, 1), 0, [(0, 944)]),
  (167, 36, .iload_n 1, 1, (1, 0, 0), 0, []),
  (167, 37, .aload_n 0, 1, (0, 0, 0), 0, []),
  (167, 38, .getfield 29, 3, (9, 6, 1), 0, [(0, 919)]),
  (167, 41, .iload_n 1, 1, (1, 0, 0), 0, []),
  (167, 42, .iaload, 1, (0, 0, 0), 0, []),
  (167, 43, .iastore, 1, (0, 0, 0), 0, []),
  (167, 44, .iinc 1 1, 3, (1, 0, 0), 1, []),
  (167, 47, .goto (-21), 3, (26, 0, 0), 0, []),
  (167, 50, .iconst 0, 1, (0, 0, 0), 0, []),
  (167, 51, .istore_n 1, 1, (1, 0, 0), 0, []),
  (167, 52, .iload_n 1, 1, (1, 0, 0), 0, []),
  (167, 53, .bipush 36, 2, (0, 0, 0), 36, []),
  (167, 55, .if_icmp .ge 21, 3, (76, 0, 0), 0, []),
  (167, 58, .aload_n 0, 1, (0, 0, 0), 0, []),
  (167, 59, .getfield 108, 3, (9, 32, 1), 0, [(0, 945)]),
  (167, 62, .iload_n 1, 1, (1, 0, 0), 0, []),
  (167, 63, .aload_n 0, 1, (0, 0, 0), 0, []),
  (167, 64, .getfield 32, 3, (9, 7, 1), 0, [(0, 920)]),
  (167, 67, .iload_n 1, 1, (1, 0, 0), 0, []),
  (167, 68, .iaload, 1, (0, 0, 0), 0, []),
  (167, 69, .iastore, 1, (0, 0, 0), 0, []),
  (167, 70, .iinc 1 1, 3, (1, 0, 0), 1, []),
  (167, 73, .goto (-21), 3, (52, 0, 0), 0, []),
  (167, 76, .return_, 1, (0, 0, 0), 0, [])]
def rows_168 : List mRow := [
  (168, 0, .aload_n 0, 1, (0, 0, 0), 0, []),
  (168, 1, .aload_n 0, 1, (0, 0, 0), 0, []),
  (168, 2, .getfield 96, 3, (9, 28, 0), 0, [(0, 941)]),
  (168, 5, .putfield 13, 3, (9, 1, 0), 0, [(0, 914)]),
  (168, 8, .aload_n 0, 1, (0, 0, 0), 0, []),
  (168, 9, .aload_n 0, 1, (0, 0, 0), 0, []),
  (168, 10, .getfield 99, 3, (9, 29, 0), 0, [(0, 942)]),
  (168, 13, .putfield 16, 3, (9, 2, 0), 0, [(0, 915)]),
  (168, 16, .aload_n 0, 1, (0, 0, 0), 0, []),
  (168, 17, .aload_n 0, 1, (0, 0, 0), 0, []),
  (168, 18, .getfield 102, 3, (9, 30, 0), 0, [(0, 943)]),
  (168, 21, .putfield 19, 3, (9, 3, 0), 0, [(0, 916)]),
  (168, 24, .iconst 0, 1, (0, 0, 0), 0, []),
  (168, 25, .istore_n 1, 1, (1, 0, 0), 0, []),
  (168, 26, .iload_n 1, 1, (1, 0, 0), 0, []),
  (168, 27, .bipush 6, 2, (0, 0, 0), 6, []),
  (168, 29, .if_icmp .ge 21, 3, (50, 0, 0), 0, []),
  (168, 32, .aload_n 0, 1, (0, 0, 0), 0, []),
  (168, 33, .getfield 29, 3, (9, 6, 1), 0, [(0, 919)]),
  (168, 36, .iload_n 1, 1, (1, 0, 0), 0, []),
  (168, 37, .aload_n 0, 1, (0, 0, 0), 0, []),
  (168, 38, .getfield 105, 3, (9, 31, 1), 0, [(0, 944)]),
  (168, 41, .iload_n 1, 1, (1, 0, 0), 0, []),
  (168, 42, .iaload, 1, (0, 0, 0), 0, []),
  (168, 43, .iastore, 1, (0, 0, 0), 0, []),
  (168, 44, .iinc 1 1, 3, (1, 0, 0), 1, []),
  (168, 47, .goto (-21), 3, (26, 0, 0), 0, []),
  (168, 50, .iconst 0, 1, (0, 0, 0), 0, []),
  (168, 51, .istore_n 1, 1, (1, 0, 0), 0, []),
  (168, 52, .iload_n 1, 1, (1, 0, 0), 0, []),
  (168, 53, .bipush 36, 2, (0, 0, 0), 36, []),
  (168, 55, .if_icmp .ge 21, 3, (76, 0, 0), 0, []),
  (168, 58, .aload_n 0, 1, (0, 0, 0), 0, []),
  (168, 59, .getfield 32, 3, (9, 7, 1), 0, [(0, 920)]),
  (168, 62, .iload_n 1, 1, (1, 0, 0), 0, []),
  (168, 63, .aload_n 0, 1, (0, 0, 0), 0, []),
  (168, 64, .getfield 108, 3, (9, 32, 1), 0, [(0, 945)]),
  (168, 67, .iload_n 1, 1, (1, 0, 0), 0, []),
  (168, 68, .iaload, 1, (0, 0, 0), 0, []),
  (168, 69, .iastore, 1, (0, 0, 0), 0, []),
  (168, 70, .iinc 1 1, 3, (1, 0, 0), 1, []),
  (168, 73, .goto (-21), 3, (52, 0, 0), 0, []),
  (168, 76, .return_, 1, (0, 0, 0), 0, [])]
def rows_169 : List mRow := [
  (169, 0, .iload_n 2, 1, (2, 0, 0), 0, []),
  (169, 1, .ifCond .eq 39, 3, (40, 0, 0), 0, []),
  (169, 4, .aload_n 0, 1, (0, 0, 0), 0, []),
  (169, 5, .iload_n 2, 1, (2, 0, 0), 0, []),
  (169, 6, .bipush 10, 2, (0, 0, 0), 10, []),
  (169, 8, .bipush 9, 2, (0, 0, 0), 9, []),
  (169, 10, .aload_n 0, 1, (0, 0, 0), 0, []),
  (169, 11, .getfield 7, 3, (9, 0, 0), 0, [(0, 913)]),
  (169, 14, .iadd, 1, (0, 0, 0), 0, []),
  (169, 15, .invokevirtual 254, 3, (116, 4, 1), 0, [(0, 1159)]),
  (169, 18, .ifCond .ne 22, 3, (40, 0, 0), 0, []),
  (169, 21, .aload_n 0, 1, (0, 0, 0), 0, []),
  (169, 22, .iload_n 2, 1, (2, 0, 0), 0, []),
  (169, 23, .bipush 20, 2, (0, 0, 0), 20, []),
  (169, 25, .bipush 19, 2, (0, 0, 0), 19, []),
  (169, 27, .aload_n 0, 1, (0, 0, 0), 0, []),
  (169, 28, .getfield 7, 3, (9, 0, 0), 0, [(0, 913)]),
  (169, 31, .iadd, 1, (0, 0, 0), 0, []),
  (169, 32, .invokevirtual 254, 3, (116, 4, 1), 0, [(0, 1159)]),
  (169, 35, .ifCond .ne 5, 3, (40, 0, 0), 0, []),
  (169, 38, .iconst (-1), 1, (0, 0, 0), (-1), []),
  (169, 39, .ireturn, 1, (0, 0, 0), 0, []),
  (169, 40, .aload_n 0, 1, (0, 0, 0), 0, []),
  (169, 41, .iload_n 1, 1, (1, 0, 0), 0, []),
  (169, 42, .invokevirtual 381, 3, (122, 2, 1), 0, [(0, 1347)]),
  (169, 45, .ifCond .ne 6, 3, (51, 0, 0), 0, []),
  (169, 48, .bipush (-2), 2, (0, 0, 0), (-2), []),
  (169, 50, .ireturn, 1, (0, 0, 0), 0, []),
  (169, 51, .aload_n 0, 1, (0, 0, 0), 0, []),
  (169, 52, .invokevirtual 387, 3, (167, 1, 0), 0, [(0, 1363)]),
  (169, 55, .aload_n 0, 1, (0, 0, 0), 0, []),
  (169, 56, .iload_n 1, 1, (1, 0, 0), 0, []),
  (169, 57, .invokevirtual 384, 3, (165, 2, 0), 0, [(0, 1351)]),
  (169, 60, .iload_n 2, 1, (2, 0, 0), 0, []),
  (169, 61, .ifCond .ne 10, 3, (71, 0, 0), 0, []),
  (169, 64, .aload_n 0, 1, (0, 0, 0), 0, []),
  (169, 65, .invokevirtual 375, 3, (160, 1, 1), 0, [(0, 1339)]),
  (169, 68, .goto 28, 3, (96, 0, 0), 0, []),
  (169, 71, .iload_n 2, 1, (2, 0, 0), 0, []),
  (169, 72, .bipush 20, 2, (0, 0, 0), 20, []),
  (169, 74, .if_icmp .ge 14, 3, (88, 0, 0), 0, []),
  (169, 77, .aload_n 0, 1, (0, 0, 0), 0, []),
  (169, 78, .iload_n 2, 1, (2, 0, 0), 0, []),
  (169, 79, .bipush 10, 2, (0, 0, 0), 10, []),
  (169, 81, .isub, 1, (0, 0, 0), 0, []),
  (169, 82, .invokevirtual 366, 3, (159, 2, 1), 0, [(0, 1307)]),
  (169, 85, .goto 11, 3, (96, 0, 0), 0, []),
  (169, 88, .aload_n 0, 1, (0, 0, 0), 0, []),
  (169, 89, .iload_n 2, 1, (2, 0, 0), 0, []),
  (169, 90, .bipush 20, 2, (0, 0, 0), 20, []),
  (169, 92, .isub, 1, (0, 0, 0), 0, []),
  (169, 93, .invokevirtual 369, 3, (157, 2, 1), 0, [(0, 1327)]),
  (169, 96, .istore_n 3, 1, (3, 0, 0), 0, []),
  (169, 97, .aload_n 0, 1, (0, 0, 0), 0, []),
  (169, 98, .invokevirtual 390, 3, (168, 1, 0), 0, [(0, 1367)]),
  (169, 101, .iload_n 3, 1, (3, 0, 0), 0, []),
  (169, 102, .ireturn, 1, (0, 0, 0), 0, [])]
def rows_170 : List mRow := [
  (170, 0, .aload_n 0, 1, (0, 0, 0), 0, []),
  (170, 1, .getfield 16, 3, (9, 2, 0), 0, [(0, 915)]),
  (170, 4, .istore_n 3, 1, (3, 0, 0), 0, []),
  (170, 5, .aload_n 0, 1, (0, 0, 0), 0, []),
  (170, 6, .iload_n 2, 1, (2, 0, 0), 0, []),
  (170, 7, .putfield 16, 3, (9, 2, 0), 0, [(0, 915)]),
  (170, 10, .aload_n 0, 1, (0, 0, 0), 0, []),
  (170, 11, .iload_n 1, 1, (1, 0, 0), 0, []),
  (170, 12, .invokevirtual 366, 3, (159, 2, 1), 0, [(0, 1307)]),
  (170, 15, .istore 4, 2, (4, 0, 0), 0, []),
  (170, 17, .aload_n 0, 1, (0, 0, 0), 0, []),
  (170, 18, .iload_n 3, 1, (3, 0, 0), 0, []),
  (170, 19, .putfield 16, 3, (9, 2, 0), 0, [(0, 915)]),
  (170, 22, .iload 4, 2, (4, 0, 0), 0, []),
  (170, 24, .ireturn, 1, (0, 0, 0), 0, [])]
def rows_171 : List mRow := [
  (171, 0, .aload_n 0, 1, (0, 0, 0), 0, []),
  (171, 1, .iload_n 1, 1, (1, 0, 0), 0, []),
  (171, 2, .invokevirtual 258, 3, (119, 2, 1), 0, [(0, 1167)]),
  (171, 5, .ifCond .ne 5, 3, (10, 0, 0), 0, []),
  (171, 8, .iconst (-1), 1, (0, 0, 0), (-1), []),
  (171, 9, .ireturn, 1, (0, 0, 0), 0, []),
  (171, 10, .aload_n 0, 1, (0, 0, 0), 0, []),
  (171, 11, .iload_n 2, 1, (2, 0, 0), 0, []),
  (171, 12, .invokevirtual 273, 3, (121, 2, 1), 0, [(0, 1195)]),
  (171, 15, .ifCond .eq 12, 3, (27, 0, 0), 0, []),
  (171, 18, .aload_n 0, 1, (0, 0, 0), 0, []),
  (171, 19, .iload_n 1, 1, (1, 0, 0), 0, []),
  (171, 20, .iload_n 2, 1, (2, 0, 0), 0, []),
  (171, 21, .invokevirtual 393, 3, (170, 3, 1), 0, [(0, 1375)]),
  (171, 24, .goto 5, 3, (29, 0, 0), 0, []),
  (171, 27, .bipush (-2), 2, (0, 0, 0), (-2), []),
  (171, 29, .ireturn, 1, (0, 0, 0), 0, [])]
def rows_172 : List mRow := [
  (172, 0, .iconst 0, 1, (0, 0, 0), 0, []),
  (172, 1, .istore_n 2, 1, (2, 0, 0), 0, []),
  (172, 2, .iconst 1, 1, (0, 0, 0), 1, []),
  (172, 3, .istore_n 3, 1, (3, 0, 0), 0, []),
  (172, 4, .iload_n 3, 1, (3, 0, 0), 0, []),
  (172, 5, .bipush 24, 2, (0, 0, 0), 24, []),
  (172, 7, .if_icmp .ge 26, 3, (33, 0, 0), 0, []),
  (172, 10, .aload_n 0, 1, (0, 0, 0), 0, []),
  (172, 11, .iload_n 1, 1, (1, 0, 0), 0, []),
  (172, 12, .iload_n 3, 1, (3, 0, 0), 0, []),
  (172, 13, .invokevirtual 393, 3, (170, 3, 1), 0, [(0, 1375)]),
  (172, 16, .aload_n 0, 1, (0, 0, 0), 0, []),
  (172, 17, .iload_n 1, 1, (1, 0, 0), 0, []),
  (172, 18, .iload_n 2, 1, (2, 0, 0), 0, []),
  (172, 19, .invokevirtual 393, 3, (170, 3, 1), 0, [(0, 1375)]),
  (172, 22, .if_icmp .ge 5, 3, (27, 0, 0), 0, []),
  (172, 25, .iload_n 3, 1, (3, 0, 0), 0, []),
  (172, 26, .istore_n 2, 1, (2, 0, 0), 0, []),
  (172, 27, .iinc 3 1, 3, (3, 0, 0), 1, []),
  (172, 30, .goto (-26), 3, (4, 0, 0), 0, []),
  (172, 33, .iload_n 2, 1, (2, 0, 0), 0, []),
  (172, 34, .ireturn, 1, (0, 0, 0), 0, [])]
def rows_173 : List mRow := [
  (173, 0, .aload_n 0, 1, (0, 0, 0), 0, []),
  (173, 1, .invokevirtual 387, 3, (167, 1, 0), 0, [(0, 1363)]),
  (173, 4, .bipush (-5), 2, (0, 0, 0), (-5), []),
  (173, 6, .istore_n 2, 1, (2, 0, 0), 0, []),
  (173, 7, .aload_n 0, 1, (0, 0, 0), 0, []),
  (173, 8, .iload_n 1, 1, (1, 0, 0), 0, []),
  (173, 9, .invokevirtual 366, 3, (159, 2, 1), 0, [(0, 1307)]),
  (173, 12, .istore_n 3, 1, (3, 0, 0), 0, []),
  (173, 13, .iconst 1, 1, (0, 0, 0), 1, []),
  (173, 14, .istore 4, 2, (4, 0, 0), 0, []),
  (173, 16, .iload 4, 2, (4, 0, 0), 0, []),
  (173, 18, .bipush 61, 2, (0, 0, 0), 61, []),
  (173, 20, .if_icmp .ge 41, 3, (61, 0, 0), 0, []),
  (173, 23, .iload_n 2, 1, (2, 0, 0), 0, []),
  (173, 24, .ifCond .ge 37, 3, (61, 0, 0), 0, []),
  (173, 27, .aload_n 0, 1, (0, 0, 0), 0, []),
  (173, 28, .invokevirtual 378, 3, (164, 1, 0), 0, [(0, 1355)]),
  (173, 31, .aload_n 0, 1, (0, 0, 0), 0, []),
  (173, 32, .iload_n 1, 1, (1, 0, 0), 0, []),
  (173, 33, .invokevirtual 366, 3, (159, 2, 1), 0, [(0, 1307)]),
  (173, 36, .istore 5, 2, (5, 0, 0), 0, []),
  (173, 38, .iload 5, 2, (5, 0, 0), 0, []),
  (173, 40, .iload_n 3, 1, (3, 0, 0), 0, []),
  (173, 41, .if_icmp .le 8, 3, (49, 0, 0), 0, []),
  (173, 44, .iload 4, 2, (4, 0, 0), 0, []),
  (173, 46, .goto 5, 3, (51, 0, 0), 0, []),
  (173, 49, .bipush (-5), 2, (0, 0, 0), (-5), []),
  (173, 51, .istore_n 2, 1, (2, 0, 0), 0, []),
  (173, 52, .iload 5, 2, (5, 0, 0), 0, []),
  (173, 54, .istore_n 3, 1, (3, 0, 0), 0, []),
  (173, 55, .iinc 4 1, 3, (4, 0, 0), 1, []),
  (173, 58, .goto (-42), 3, (16, 0, 0), 0, []),
  (173, 61, .aload_n 0, 1, (0, 0, 0), 0, []),
  (173, 62, .invokevirtual 390, 3, (168, 1, 0), 0, [(0, 1367)]),
  (173, 65, .iload_n 2, 1, (2, 0, 0), 0, []),
  (173, 66, .ireturn, 1, (0, 0, 0), 0, [])]
def rows_174 : List mRow := [
  (174, 0, .aload_n 0, 1, (0, 0, 0), 0, []),
  (174, 1, .iload_n 1, 1, (1, 0, 0), 0, []),
  (174, 2, .invokevirtual 258, 3, (119, 2, 1), 0, [(0, 1167)]),
  (174, 5, .ifCond .eq 13, 3, (18, 0, 0), 0, []),
  (174, 8, .aload_n 0, 1, (0, 0, 0), 0, []),
  (174, 9, .iload_n 2, 1, (2, 0, 0), 0, []),
  (174, 10, .iconst 0, 1, (0, 0, 0), 0, []),
  (174, 11, .iconst 1, 1, (0, 0, 0), 1, []),
  (174, 12, .invokevirtual 254, 3, (116, 4, 1), 0, [(0, 1159)]),
  (174, 15, .ifCond .ne 5, 3, (20, 0, 0), 0, []),
  (174, 18, .iconst (-1), 1, (0, 0, 0), (-1), []),
  (174, 19, .ireturn, 1, (0, 0, 0), 0, []),
  (174, 20, .iload_n 2, 1, (2, 0, 0), 0, []),
  (174, 21, .ifCond .ne 11, 3, (32, 0, 0), 0, []),
  (174, 24, .aload_n 0, 1, (0, 0, 0), 0, []),
  (174, 25, .iload_n 1, 1, (1, 0, 0), 0, []),
  (174, 26, .invokevirtual 396, 3, (172, 2, 1), 0, [(0, 1383)]),
  (174, 29, .goto 8, 3, (37, 0, 0), 0, []),
  (174, 32, .aload_n 0, 1, (0, 0, 0), 0, []),
  (174, 33, .iload_n 1, 1, (1, 0, 0), 0, []),
  (174, 34, .invokevirtual 399, 3, (173, 2, 1), 0, [(0, 1387)]),
  (174, 37, .ireturn, 1, (0, 0, 0), 0, [])]
def rows_175 : List mRow := [
  (175, 0, .aload_n 0, 1, (0, 0, 0), 0, []),
  (175, 1, .iconst 0, 1, (0, 0, 0), 0, []),
  (175, 2, .putfield 120, 3, (9, 36, 0), 0, [(0, 949)]),
  (175, 5, .iconst 0, 1, (0, 0, 0), 0, []),
  (175, 6, .istore_n 1, 1, (1, 0, 0), 0, []),
  (175, 7, .iload_n 1, 1, (1, 0, 0), 0, []),
  (175, 8, .aload_n 0, 1, (0, 0, 0), 0, []),
  (175, 9, .getfield 7, 3, (9, 0, 0), 0, [(0, 913)]),
  (175, 12, .if_icmp .ge 35, 3, (47, 0, 0), 0, []),
  (175, 15, .aload_n 0, 1, (0, 0, 0), 0, []),
  (175, 16, .dup, 1, (0, 0, 0), 0, []),
  (175, 17, .getfield 120, 3, (9, 36, 0), 0, [(0, 949)]),
  (175, 20, .aload_n 0, 1, (0, 0, 0), 0, []),
  (175, 21, .aload_n 0, 1, (0, 0, 0), 0, []),
  (175, 22, .getfield 13, 3, (9, 1, 0), 0, [(0, 914)]),
  (175, 25, .iload_n 1, 1, (1, 0, 0), 0, []),
  (175, 26, .invokevirtual 265, 3, (117, 3, 1), 0, [(0, 1179)]),
  (175, 29, .ifCond .eq 7, 3, (36, 0, 0), 0, []),
  (175, 32, .iconst 0, 1, (0, 0, 0), 0, []),
  (175, 33, .goto 4, 3, (37, 0, 0), 0, []),
  (175, 36, .iconst 1, 1, (0, 0, 0), 1, []),
  (175, 37, .iadd, 1, (0, 0, 0), 0, []),
  (175, 38, .putfield 120, 3, (9, 36, 0), 0, [(0, 949)]),
  (175, 41, .iinc 1 1, 3, (1, 0, 0), 1, []),
  (175, 44, .goto (-37), 3, (7, 0, 0), 0, []),
  (175, 47, .iconst 0, 1, (0, 0, 0), 0, []),
  (175, 48, .istore_n 1, 1, (1, 0, 0), 0, []),
  (175, 49, .iload_n 1, 1, (1, 0, 0), 0, []),
  (175, 50, .aload_n 0, 1, (0, 0, 0), 0, []),
  (175, 51, .getfield 120, 3, (9, 36, 0), 0, [(0, 949)]),
  (175, 54, .if_icmp .ge 50, 3, (104, 0, 0), 0, []),
  (175, 57, .iconst 0, 1, (0, 0, 0), 0, []),
  (175, 58, .istore_n 2, 1, (2, 0, 0), 0, []),
  (175, 59, .iload_n 2, 1, (2, 0, 0), 0, []),
  (175, 60, .aload_n 0, 1, (0, 0, 0), 0, []),
  (175, 61, .getfield 7, 3, (9, 0, 0), 0, [(0, 913)]),
  (175, 64, .if_icmp .ge 34, 3, (98, 0, 0), 0, []),
  (175, 67, .aload_n 0, 1, (0, 0, 0), 0, []),
  (175, 68, .getfield 111, 3, (9, 33, 1), 0, [(0, 946)]),
  (175, 71, .bipush 6, 2, (0, 0, 0), 6, []),
  (175, 73, .iload_n 1, 1, (1, 0, 0), 0, []),
  (175, 74, .imul, 1, (0, 0, 0), 0, []),
  (175, 75, .iload_n 2, 1, (2, 0, 0), 0, []),
  (175, 76, .iadd, 1, (0, 0, 0), 0, []),
  (175, 77, .aload_n 0, 1, (0, 0, 0), 0, []),
  (175, 78, .iload_n 2, 1, (2, 0, 0), 0, []),
  (175, 79, .aload_n 0, 1, (0, 0, 0), 0, []),
  (175, 80, .getfield 16, 3, (9, 2, 0), 0, [(0, 915)]),
  (175, 83, .iload_n 1, 1, (1, 0, 0), 0, []),
  (175, 84, .iadd, 1, (0, 0, 0), 0, []),
  (175, 85, .bipush 24, 2, (0, 0, 0), 24, []),
  (175, 87, .irem, 1, (0, 0, 0), 0, []),
  (175, 88, .invokevirtual 393, 3, (170, 3, 1), 0, [(0, 1375)]),
  (175, 91, .iastore, 1, (0, 0, 0), 0, []),
  (175, 92, .iinc 2 1, 3, (2, 0, 0), 1, []),
  (175, 95, .goto (-36), 3, (59, 0, 0), 0, []),
  (175, 98, .iinc 1 1, 3, (1, 0, 0), 1, []),
  (175, 101, .goto (-52), 3, (49, 0, 0), 0, []),
  (175, 104, .return_, 1, (0, 0, 0), 0, [])]
def rows_176 : List mRow := [
  (176, 0, .iload_n 1, 1, (1, 0, 0), 0, []),
  (176, 1, .istore_n 2, 1, (2, 0, 0), 0, []),
  (176, 2, .aload_n 0, 1, (0, 0, 0), 0, []),
  (176, 3, .getfield 13, 3, (9, 1, 0), 0, [(0, 914)]),
  (176, 6, .istore_n 3, 1, (3, 0, 0), 0, []),
  (176, 7, .aload_n 0, 1, (0, 0, 0), 0, []),
  (176, 8, .getfield 120, 3, (9, 36, 0), 0, [(0, 949)]),
  (176, 11, .iconst 1, 1, (0, 0, 0), 1, []),
  (176, 12, .isub, 1, (0, 0, 0), 0, []),
  (176, 13, .istore 4, 2, (4, 0, 0), 0, []),
  (176, 15, .iload 4, 2, (4, 0, 0), 0, []),
  (176, 17, .ifCond .lt 68, 3, (85, 0, 0), 0, []),
  (176, 20, .aload_n 0, 1, (0, 0, 0), 0, []),
  (176, 21, .getfield 114, 3, (9, 34, 1), 0, [(0, 947)]),
  (176, 24, .iload 4, 2, (4, 0, 0), 0, []),
  (176, 26, .iload_n 2, 1, (2, 0, 0), 0, []),
  (176, 27, .bipush 6, 2, (0, 0, 0), 6, []),
  (176, 29, .irem, 1, (0, 0, 0), 0, []),
  (176, 30, .iastore, 1, (0, 0, 0), 0, []),
  (176, 31, .iload_n 2, 1, (2, 0, 0), 0, []),
  (176, 32, .bipush 6, 2, (0, 0, 0), 6, []),
  (176, 34, .idiv, 1, (0, 0, 0), 0, []),
  (176, 35, .istore_n 2, 1, (2, 0, 0), 0, []),
  (176, 36, .aload_n 0, 1, (0, 0, 0), 0, []),
  (176, 37, .getfield 114, 3, (9, 34, 1), 0, [(0, 947)]),
  (176, 40, .iload 4, 2, (4, 0, 0), 0, []),
  (176, 42, .iaload, 1, (0, 0, 0), 0, []),
  (176, 43, .aload_n 0, 1, (0, 0, 0), 0, []),
  (176, 44, .getfield 7, 3, (9, 0, 0), 0, [(0, 913)]),
  (176, 47, .if_icmp .ge 18, 3, (65, 0, 0), 0, []),
  (176, 50, .aload_n 0, 1, (0, 0, 0), 0, []),
  (176, 51, .iload_n 3, 1, (3, 0, 0), 0, []),
  (176, 52, .aload_n 0, 1, (0, 0, 0), 0, []),
  (176, 53, .getfield 114, 3, (9, 34, 1), 0, [(0, 947)]),
  (176, 56, .iload 4, 2, (4, 0, 0), 0, []),
  (176, 58, .iaload, 1, (0, 0, 0), 0, []),
  (176, 59, .invokevirtual 265, 3, (117, 3, 1), 0, [(0, 1179)]),
  (176, 62, .ifCond .eq 5, 3, (67, 0, 0), 0, []),
  (176, 65, .iconst 0, 1, (0, 0, 0), 0, []),
  (176, 66, .ireturn, 1, (1, 0, 0), 0, []),
  (176, 67, .iload_n 3, 1, (3, 0, 0), 0, []),
  (176, 68, .iconst 1, 1, (0, 0, 0), 1, []),
  (176, 69, .aload_n 0, 1, (0, 0, 0), 0, []),
  (176, 70, .getfield 114, 3, (9, 34, 1), 0, [(0, 947)]),
  (176, 73, .iload 4, 2, (4, 0, 0), 0, []),
  (176, 75, .iaload, 1, (0, 0, 0), 0, []),
  (176, 76, .ishl, 1, (0, 0, 0), 0, []),
  (176, 77, .ior, 1, (0, 0, 0), 0, []),
  (176, 78, .istore_n 3, 1, (3, 0, 0), 0, []),
  (176, 79, .iinc 4 (-1), 3, (4, 0, 0), (-1), []),
  (176, 82, .goto (-67), 3, (15, 0, 0), 0, []),
  (176, 85, .iconst 1, 1, (0, 0, 0), 1, []),
  (176, 86, .ireturn, 1, (1, 0, 0), 0, [])]
def rows_177 : List mRow := [
  (177, 0, .aload_n 0, 1, (0, 0, 0), 0, []),
  (177, 1, .iload_n 1, 1, (1, 0, 0), 0, []),
  (177, 2, .iconst (-1), 1, (0, 0, 0), (-1), []),
  (177, 3, .iconst 5, 1, (0, 0, 0), 5, []),
  (177, 4, .invokevirtual 254, 3, (116, 4, 1), 0, [(0, 1159)]),
  (177, 7, .ifCond .ne 5, 3, (12, 0, 0), 0, []),
  (177, 10, .iconst (-1), 1, (0, 0, 0), (-1), []),
  (177, 11, .ireturn, 1, (0, 0, 0), 0, []),
  (177, 12, .aload_n 0, 1, (0, 0, 0), 0, []),
  (177, 13, .invokevirtual 402, 3, (175, 1, 0), 0, [(0, 1395)]),
  (177, 16, .iconst 1, 1, (0, 0, 0), 1, []),
  (177, 17, .istore_n 2, 1, (2, 0, 0), 0, []),
  (177, 18, .iconst 0, 1, (0, 0, 0), 0, []),
  (177, 19, .istore_n 3, 1, (3, 0, 0), 0, []),
  (177, 20, .iload_n 3, 1, (3, 0, 0), 0, []),
  (177, 21, .aload_n 0, 1, (0, 0, 0), 0, []),
  (177, 22, .getfield 120, 3, (9, 36, 0), 0, [(0, 949)]),
  (177, 25, .if_icmp .ge 14, 3, (39, 0, 0), 0, []),
  (177, 28, .iload_n 2, 1, (2, 0, 0), 0, []),
  (177, 29, .bipush 6, 2, (0, 0, 0), 6, []),
  (177, 31, .imul, 1, (0, 0, 0), 0, []),
  (177, 32, .istore_n 2, 1, (2, 0, 0), 0, []),
  (177, 33, .iinc 3 1, 3, (3, 0, 0), 1, []),
  (177, 36, .goto (-16), 3, (20, 0, 0), 0, []),
  (177, 39, .iconst (-1), 1, (0, 0, 0), (-1), []),
  (177, 40, .istore_n 3, 1, (3, 0, 0), 0, []),
  (177, 41, .iconst 0, 1, (0, 0, 0), 0, []),
  (177, 42, .istore 4, 2, (4, 0, 0), 0, []),
  (177, 44, .iload 4, 2, (4, 0, 0), 0, []),
  (177, 46, .iload_n 2, 1, (2, 0, 0), 0, []),
  (177, 47, .if_icmp .ge 111, 3, (158, 0, 0), 0, []),
  (177, 50, .aload_n 0, 1, (0, 0, 0), 0, []),
  (177, 51, .iload 4, 2, (4, 0, 0), 0, []),
  (177, 53, .invokevirtual 405, 3, (176, 2, 1), 0, [(0, 1399)]),
  (177, 56, .ifCond .ne 6, 3, (62, 0, 0), 0, []),
  (177, 59, .goto 93, 3, (152, 0, 0), 0, []),
  (177, 62, .iconst 0, 1, (0, 0, 0), 0, []),
  (177, 63, .istore 5, 2, (5, 0, 0), 0, []),
  (177, 65, .iconst 0, 1, (0, 0, 0), 0, []),
  (177, 66, .istore 6, 2, (6, 0, 0), 0, []),
  (177, 68, .iload 6, 2, (6, 0, 0), 0, []),
  (177, 70, .aload_n 0, 1, (0, 0, 0), 0, []),
  (177, 71, .getfield 120, 3, (9, 36, 0), 0, [(0, 949)]),
  (177, 74, .if_icmp .ge 32, 3, (106, 0, 0), 0, []),
  (177, 77, .iload 5, 2, (5, 0, 0), 0, []),
  (177, 79, .aload_n 0, 1, (0, 0, 0), 0, []),
  (177, 80, .getfield 111, 3, (9, 33, 1), 0, [(0, 946)]),
  (177, 83, .bipush 6, 2, (0, 0, 0), 6, []),
  (177, 85, .iload 6, 2, (6, 0, 0), 0, []),
  (177, 87, .imul, 1, (0, 0, 0), 0, []),
  (177, 88, .aload_n 0, 1, (0, 0, 0), 0, []),
  (177, 89, .getfield 114, 3, (9, 34, 1), 0, [(0, 947)]),
  (177, 92, .iload 6, 2, (6, 0, 0), 0, []),
  (177, 94, .iaload, 1, (0, 0, 0), 0, []),
  (177, 95, .iadd, 1, (0, 0, 0), 0, []),
  (177, 96, .iaload, 1, (0, 0, 0), 0, []),
  (177, 97, .iadd, 1, (0, 0, 0), 0, []),
  (177, 98, .istore 5, 2, (5, 0, 0), 0, []),
  (177, 100, .iinc 6 1, 3, (6, 0, 0), 1, []),
  (177, 103, .goto (-35), 3, (68, 0, 0), 0, []),
  (177, 106, .iload_n 3, 1, (3, 0, 0), 0, []),
  (177, 107, .ifCond .lt 12, 3, (119, 0, 0), 0, []),
  (177, 110, .iload 5, 2, (5, 0, 0), 0, []),
  (177, 112, .iload_n 3, 1, (3, 0, 0), 0, []),
  (177, 113, .if_icmp .lt 6, 3, (119, 0, 0), 0, []),
  (177, 116, .goto 36, 3, (152, 0, 0), 0, []),
  (177, 119, .iload 5, 2, (5, 0, 0), 0, []),
  (177, 121, .istore_n 3, 1, (3, 0, 0), 0, []),
  (177, 122, .iconst 0, 1, (0, 0, 0), 0, []),
  (177, 123, .istore 6, 2, (6, 0, 0), 0, []),
  (177, 125, .iload 6, 2, (6, 0, 0), 0, []),
  (177, 127, .bipush 6, 2, (0, 0, 0), 6, []),
  (177, 129, .if_icmp .ge 23, 3, (152, 0, 0), 0, []),
  (177, 132, .aload_n 0, 1, (0, 0, 0), 0, []),
  (177, 133, .getfield 117, 3, (9, 35, 1), 0, [(0, 948)]),
  (177, 136, .iload 6, 2, (6, 0, 0), 0, []),
  (177, 138, .aload_n 0, 1, (0, 0, 0), 0, []),
  (177, 139, .getfield 114, 3, (9, 34, 1), 0, [(0, 947)]),
  (177, 142, .iload 6, 2, (6, 0, 0), 0, []),
  (177, 144, .iaload, 1, (0, 0, 0), 0, []),
  (177, 145, .iastore, 1, (0, 0, 0), 0, []),
  (177, 146, .iinc 6 1, 3, (6, 0, 0), 1, []),
  (177, 149, .goto (-24), 3, (125, 0, 0), 0, []),
  (177, 152, .iinc 4 1, 3, (4, 0, 0), 1, []),
  (177, 155, .goto (-111), 3, (44, 0, 0), 0, []),
  (177, 158, .iload_n 1, 1, (1, 0, 0), 0, []),
  (177, 159, .ifCond .ge 5, 3, (164, 0, 0), 0, []),
  (177, 162, .iload_n 3, 1, (3, 0, 0), 0, []),
  (177, 163, .ireturn, 1, (0, 0, 0), 0, []),
  (177, 164, .iload_n 1, 1, (1, 0, 0), 0, []),
  (177, 165, .aload_n 0, 1, (0, 0, 0), 0, []),
  (177, 166, .getfield 120, 3, (9, 36, 0), 0, [(0, 949)]),
  (177, 169, .if_icmp .ge 12, 3, (181, 0, 0), 0, []),
  (177, 172, .aload_n 0, 1, (0, 0, 0), 0, []),
  (177, 173, .getfield 117, 3, (9, 35, 1), 0, [(0, 948)]),
  (177, 176, .iload_n 1, 1, (1, 0, 0), 0, []),
  (177, 177, .iaload, 1, (0, 0, 0), 0, []),
  (177, 178, .goto 5, 3, (183, 0, 0), 0, []),
  (177, 181, .bipush (-5), 2, (0, 0, 0), (-5), []),
  (177, 183, .ireturn, 1, (0, 0, 0), 0, [])]
def rows_178 : List mRow := [
  (178, 0, .iconst 0, 1, (0, 0, 0), 0, []),
  (178, 1, .istore_n 3, 1, (3, 0, 0), 0, []),
  (178, 2, .iconst 0, 1, (0, 0, 0), 0, []),
  (178, 3, .istore 4, 2, (4, 0, 0), 0, []),
  (178, 5, .iload 4, 2, (4, 0, 0), 0, []),
  (178, 7, .bipush 6, 2, (0, 0, 0), 6, []),
  (178, 9, .if_icmp .ge 37, 3, (46, 0, 0), 0, []),
  (178, 12, .iload_n 3, 1, (3, 0, 0), 0, []),
  (178, 13, .aload_n 0, 1, (0, 0, 0), 0, []),
  (178, 14, .iload_n 1, 1, (1, 0, 0), 0, []),
  (178, 15, .iload 4, 2, (4, 0, 0), 0, []),
  (178, 17, .invokevirtual 357, 3, (156, 3, 1), 0, [(0, 1319)]),
  (178, 20, .ifCond .ne 13, 3, (33, 0, 0), 0, []),
  (178, 23, .aload_n 0, 1, (0, 0, 0), 0, []),
  (178, 24, .iload_n 2, 1, (2, 0, 0), 0, []),
  (178, 25, .iload 4, 2, (4, 0, 0), 0, []),
  (178, 27, .invokevirtual 357, 3, (156, 3, 1), 0, [(0, 1319)]),
  (178, 30, .ifCond .eq 7, 3, (37, 0, 0), 0, []),
  (178, 33, .iconst 0, 1, (0, 0, 0), 0, []),
  (178, 34, .goto 4, 3, (38, 0, 0), 0, []),
  (178, 37, .iconst 1, 1, (0, 0, 0), 1, []),
  (178, 38, .iadd, 1, (0, 0, 0), 0, []),
  (178, 39, .istore_n 3, 1, (3, 0, 0), 0, []),
  (178, 40, .iinc 4 1, 3, (4, 0, 0), 1, []),
  (178, 43, .goto (-38), 3, (5, 0, 0), 0, []),
  (178, 46, .aload_n 0, 1, (0, 0, 0), 0, []),
  (178, 47, .invokevirtual 360, 3, (150, 1, 1), 0, [(0, 1311)]),
  (178, 50, .iload_n 3, 1, (3, 0, 0), 0, []),
  (178, 51, .imul, 1, (0, 0, 0), 0, []),
  (178, 52, .ireturn, 1, (0, 0, 0), 0, [])]
def rows_179 : List mRow := [
  (179, 0, .aload_n 0, 1, (0, 0, 0), 0, []),
  (179, 1, .iload_n 1, 1, (1, 0, 0), 0, []),
  (179, 2, .invokevirtual 258, 3, (119, 2, 1), 0, [(0, 1167)]),
  (179, 5, .ifCond .eq 11, 3, (16, 0, 0), 0, []),
  (179, 8, .aload_n 0, 1, (0, 0, 0), 0, []),
  (179, 9, .iload_n 2, 1, (2, 0, 0), 0, []),
  (179, 10, .invokevirtual 258, 3, (119, 2, 1), 0, [(0, 1167)]),
  (179, 13, .ifCond .ne 5, 3, (18, 0, 0), 0, []),
  (179, 16, .iconst (-1), 1, (0, 0, 0), (-1), []),
  (179, 17, .ireturn, 1, (0, 0, 0), 0, []),
  (179, 18, .iload_n 1, 1, (1, 0, 0), 0, []),
  (179, 19, .iload_n 2, 1, (2, 0, 0), 0, []),
  (179, 20, .if_icmp .ne 8, 3, (28, 0, 0), 0, []),
  (179, 23, .bipush (-2), 2, (0, 0, 0), (-2), []),
  (179, 25, .goto 9, 3, (34, 0, 0), 0, []),
  (179, 28, .aload_n 0, 1, (0, 0, 0), 0, []),
  (179, 29, .iload_n 1, 1, (1, 0, 0), 0, []),
  (179, 30, .iload_n 2, 1, (2, 0, 0), 0, []),
  (179, 31, .invokevirtual 408, 3, (178, 3, 1), 0, [(0, 1407)]),
  (179, 34, .ireturn, 1, (0, 0, 0), 0, [])]
def rows_180 : List mRow := [
  (180, 0, .iconst 0, 1, (0, 0, 0), 0, []),
  (180, 1, .istore_n 1, 1, (1, 0, 0), 0, []),
  (180, 2, .iload_n 1, 1, (1, 0, 0), 0, []),
  (180, 3, .aload_n 0, 1, (0, 0, 0), 0, []),
  (180, 4, .getfield 7, 3, (9, 0, 0), 0, [(0, 913)]),
  (180, 7, .if_icmp .ge 62, 3, (69, 0, 0), 0, []),
  (180, 10, .aload_n 0, 1, (0, 0, 0), 0, []),
  (180, 11, .getfield 126, 3, (9, 38, 1), 0, [(0, 951)]),
  (180, 14, .iload_n 1, 1, (1, 0, 0), 0, []),
  (180, 15, .aload_n 0, 1, (0, 0, 0), 0, []),
  (180, 16, .iload_n 1, 1, (1, 0, 0), 0, []),
  (180, 17, .invokevirtual 366, 3, (159, 2, 1), 0, [(0, 1307)]),
  (180, 20, .iastore, 1, (0, 0, 0), 0, []),
  (180, 21, .iconst 0, 1, (0, 0, 0), 0, []),
  (180, 22, .istore_n 2, 1, (2, 0, 0), 0, []),
  (180, 23, .iload_n 2, 1, (2, 0, 0), 0, []),
  (180, 24, .aload_n 0, 1, (0, 0, 0), 0, []),
  (180, 25, .getfield 7, 3, (9, 0, 0), 0, [(0, 913)]),
  (180, 28, .if_icmp .ge 35, 3, (63, 0, 0), 0, []),
  (180, 31, .aload_n 0, 1, (0, 0, 0), 0, []),
  (180, 32, .getfield 123, 3, (9, 37, 1), 0, [(0, 950)]),
  (180, 35, .bipush 6, 2, (0, 0, 0), 6, []),
  (180, 37, .iload_n 1, 1, (1, 0, 0), 0, []),
  (180, 38, .imul, 1, (0, 0, 0), 0, []),
  (180, 39, .iload_n 2, 1, (2, 0, 0), 0, []),
  (180, 40, .iadd, 1, (0, 0, 0), 0, []),
  (180, 41, .iload_n 1, 1, (1, 0, 0), 0, []),
  (180, 42, .iload_n 2, 1, (2, 0, 0), 0, []),
  (180, 43, .if_icmp .ne 7, 3, (50, 0, 0), 0, []),
  (180, 46, .iconst 0, 1, (0, 0, 0), 0, []),
  (180, 47, .goto 9, 3, (56, 0, 0), 0, []),
  (180, 50, .aload_n 0, 1, (0, 0, 0), 0, []),
  (180, 51, .iload_n 1, 1, (1, 0, 0), 0, []),
  (180, 52, .iload_n 2, 1, (2, 0, 0), 0, []),
  (180, 53, .invokevirtual 408, 3, (178, 3, 1), 0, [(0, 1407)]),
  (180, 56, .iastore, 1, (0, 0, 0), 0, []),
  (180, 57, .iinc 2 1, 3, (2, 0, 0), 1, []),
  (180, 60, .goto (-37), 3, (23, 0, 0), 0, []),
  (180, 63, .iinc 1 1, 3, (1, 0, 0), 1, []),
  (180, 66, .goto (-64), 3, (2, 0, 0), 0, []),
  (180, 69, .return_, 1, (0, 0, 0), 0, [])]
def rows_181 : List mRow := [
  (181, 0, .iconst 0, 1, (0, 0, 0), 0, []),
  (181, 1, .istore_n 1, 1, (1, 0, 0), 0, []),
  (181, 2, .iload_n 1, 1, (1, 0, 0), 0, []),
  (181, 3, .aload_n 0, 1, (0, 0, 0), 0, []),
  (181, 4, .getfield 7, 3, (9, 0, 0), 0, [(0, 913)]),
  (181, 7, .if_icmp .ge 146, 3, (153, 0, 0), 0, []),
  (181, 10, .aload_n 0, 1, (0, 0, 0), 0, []),
  (181, 11, .getfield 129, 3, (9, 39, 1), 0, [(0, 952)]),
  (181, 14, .iload_n 1, 1, (1, 0, 0), 0, []),
  (181, 15, .iaload, 1, (0, 0, 0), 0, []),
  (181, 16, .istore_n 2, 1, (2, 0, 0), 0, []),
  (181, 17, .bipush 6, 2, (0, 0, 0), 6, []),
  (181, 19, .istore_n 3, 1, (3, 0, 0), 0, []),
  (181, 20, .aload_n 0, 1, (0, 0, 0), 0, []),
  (181, 21, .aload_n 0, 1, (0, 0, 0), 0, []),
  (181, 22, .getfield 13, 3, (9, 1, 0), 0, [(0, 914)]),
  (181, 25, .iload_n 1, 1, (1, 0, 0), 0, []),
  (181, 26, .invokevirtual 265, 3, (117, 3, 1), 0, [(0, 1179)]),
  (181, 29, .ifCond .ne 28, 3, (57, 0, 0), 0, []),
  (181, 32, .iload_n 2, 1, (2, 0, 0), 0, []),
  (181, 33, .aload_n 0, 1, (0, 0, 0), 0, []),
  (181, 34, .getfield 7, 3, (9, 0, 0), 0, [(0, 913)]),
  (181, 37, .if_icmp .ge 20, 3, (57, 0, 0), 0, []),
  (181, 40, .iload_n 2, 1, (2, 0, 0), 0, []),
  (181, 41, .iload_n 1, 1, (1, 0, 0), 0, []),
  (181, 42, .if_icmp .le 15, 3, (57, 0, 0), 0, []),
  (181, 45, .aload_n 0, 1, (0, 0, 0), 0, []),
  (181, 46, .aload_n 0, 1, (0, 0, 0), 0, []),
  (181, 47, .getfield 13, 3, (9, 1, 0), 0, [(0, 914)]),
  (181, 50, .iload_n 2, 1, (2, 0, 0), 0, []),
  (181, 51, .invokevirtual 265, 3, (117, 3, 1), 0, [(0, 1179)]),
  (181, 54, .ifCond .eq 7, 3, (61, 0, 0), 0, []),
  (181, 57, .iconst 1, 1, (0, 0, 0), 1, []),
  (181, 58, .goto 4, 3, (62, 0, 0), 0, []),
  (181, 61, .iconst 0, 1, (0, 0, 0), 0, []),
  (181, 62, .istore 4, 2, (4, 0, 0), 0, []),
  (181, 64, .iconst 0, 1, (0, 0, 0), 0, []),
  (181, 65, .istore 5, 2, (5, 0, 0), 0, []),
  (181, 67, .iload 5, 2, (5, 0, 0), 0, []),
  (181, 69, .iload_n 1, 1, (1, 0, 0), 0, []),
  (181, 70, .if_icmp .ge 50, 3, (120, 0, 0), 0, []),
  (181, 73, .aload_n 0, 1, (0, 0, 0), 0, []),
  (181, 74, .getfield 129, 3, (9, 39, 1), 0, [(0, 952)]),
  (181, 77, .iload 5, 2, (5, 0, 0), 0, []),
  (181, 79, .iaload, 1, (0, 0, 0), 0, []),
  (181, 80, .iload_n 1, 1, (1, 0, 0), 0, []),
  (181, 81, .if_icmp .ne 8, 3, (89, 0, 0), 0, []),
  (181, 84, .iload 5, 2, (5, 0, 0), 0, []),
  (181, 86, .goto 4, 3, (90, 0, 0), 0, []),
  (181, 89, .iload_n 3, 1, (3, 0, 0), 0, []),
  (181, 90, .istore_n 3, 1, (3, 0, 0), 0, []),
  (181, 91, .iload 4, 2, (4, 0, 0), 0, []),
  (181, 93, .ifCond .ne 14, 3, (107, 0, 0), 0, []),
  (181, 96, .aload_n 0, 1, (0, 0, 0), 0, []),
  (181, 97, .getfield 129, 3, (9, 39, 1), 0, [(0, 952)]),
  (181, 100, .iload 5, 2, (5, 0, 0), 0, []),
  (181, 102, .iaload, 1, (0, 0, 0), 0, []),
  (181, 103, .iload_n 2, 1, (2, 0, 0), 0, []),
  (181, 104, .if_icmp .ne 7, 3, (111, 0, 0), 0, []),
  (181, 107, .iconst 1, 1, (0, 0, 0), 1, []),
  (181, 108, .goto 4, 3, (112, 0, 0), 0, []),
  (181, 111, .iconst 0, 1, (0, 0, 0), 0, []),
  (181, 112, .istore 4, 2, (4, 0, 0), 0, []),
  (181, 114, .iinc 5 1, 3, (5, 0, 0), 1, []),
  (181, 117, .goto (-50), 3, (67, 0, 0), 0, []),
  (181, 120, .iload_n 3, 1, (3, 0, 0), 0, []),
  (181, 121, .bipush 6, 2, (0, 0, 0), 6, []),
  (181, 123, .if_icmp .ge 11, 3, (134, 0, 0), 0, []),
  (181, 126, .iload_n 2, 1, (2, 0, 0), 0, []),
  (181, 127, .iload_n 3, 1, (3, 0, 0), 0, []),
  (181, 128, .if_icmp .eq 19, 3, (147, 0, 0), 0, []),
  (181, 131, .goto 14, 3, (145, 0, 0), 0, []),
  (181, 134, .iload_n 2, 1, (2, 0, 0), 0, []),
  (181, 135, .bipush 6, 2, (0, 0, 0), 6, []),
  (181, 137, .if_icmp .ge 10, 3, (147, 0, 0), 0, []),
  (181, 140, .iload 4, 2, (4, 0, 0), 0, []),
  (181, 142, .ifCond .eq 5, 3, (147, 0, 0), 0, []),
  (181, 145, .iload_n 1, 1, (1, 0, 0), 0, []),
  (181, 146, .ireturn, 1, (0, 0, 0), 0, []),
  (181, 147, .iinc 1 1, 3, (1, 0, 0), 1, []),
  (181, 150, .goto (-148), 3, (2, 0, 0), 0, []),
  (181, 153, .aload_n 0, 1, (0, 0, 0), 0, []),
  (181, 154, .getfield 7, 3, (9, 0, 0), 0, [(0, 913)]),
  (181, 157, .ireturn, 1, (0, 0, 0), 0, [])]
def rows_182 : List mRow := [
  (182, 0, .iload_n 1, 1, (1, 0, 0), 0, []),
  (182, 1, .istore_n 2, 1, (2, 0, 0), 0, []),
  (182, 2, .iload_n 2, 1, (2, 0, 0), 0, []),
  (182, 3, .ifCond .lt 20, 3, (23, 0, 0), 0, []),
  (182, 6, .aload_n 0, 1, (0, 0, 0), 0, []),
  (182, 7, .getfield 129, 3, (9, 39, 1), 0, [(0, 952)]),
  (182, 10, .iload_n 2, 1, (2, 0, 0), 0, []),
  (182, 11, .iaload, 1, (0, 0, 0), 0, []),
  (182, 12, .bipush 6, 2, (0, 0, 0), 6, []),
  (182, 14, .if_icmp .ne 9, 3, (23, 0, 0), 0, []),
  (182, 17, .iinc 2 (-1), 3, (2, 0, 0), (-1), []),
  (182, 20, .goto (-18), 3, (2, 0, 0), 0, []),
  (182, 23, .iload_n 2, 1, (2, 0, 0), 0, []),
  (182, 24, .ifCond .ge 5, 3, (29, 0, 0), 0, []),
  (182, 27, .iconst 0, 1, (0, 0, 0), 0, []),
  (182, 28, .ireturn, 1, (1, 0, 0), 0, []),
  (182, 29, .aload_n 0, 1, (0, 0, 0), 0, []),
  (182, 30, .getfield 129, 3, (9, 39, 1), 0, [(0, 952)]),
  (182, 33, .iload_n 2, 1, (2, 0, 0), 0, []),
  (182, 34, .dup2, 1, (0, 0, 0), 0, []),
  (182, 35, .iaload, 1, (0, 0, 0), 0, []),
  (182, 36, .iconst 1, 1, (0, 0, 0), 1, []),
  (182, 37, .iadd, 1, (0, 0, 0), 0, []),
  (182, 38, .iastore, 1, (0, 0, 0), 0, []),
  (182, 39, .iload_n 2, 1, (2, 0, 0), 0, []),
  (182, 40, .iconst 1, 1, (0, 0, 0), 1, []),
  (182, 41, .iadd, 1, (0, 0, 0), 0, []),
  (182, 42, .istore_n 3, 1, (3, 0, 0), 0, []),
  (182, 43, .iload_n 3, 1, (3, 0, 0), 0, []),
  (182, 44, .aload_n 0, 1, (0, 0, 0), 0, []),
  (182, 45, .getfield 7, 3, (9, 0, 0), 0, [(0, 913)]),
  (182, 48, .if_icmp .ge 16, 3, (64, 0, 0), 0, []),
  (182, 51, .aload_n 0, 1, (0, 0, 0), 0, []),
  (182, 52, .getfield 129, 3, (9, 39, 1), 0, [(0, 952)]),
  (182, 55, .iload_n 3, 1, (3, 0, 0), 0, []),
  (182, 56, .iconst 0, 1, (0, 0, 0), 0, []),
  (182, 57, .iastore, 1, (0, 0, 0), 0, []),
  (182, 58, .iinc 3 1, 3, (3, 0, 0), 1, []),
  (182, 61, .goto (-18), 3, (43, 0, 0), 0, []),
  (182, 64, .iconst 1, 1, (0, 0, 0), 1, []),
  (182, 65, .ireturn, 1, (1, 0, 0), 0, [])]
def rows_183 : List mRow := [
  (183, 0, .iconst 0, 1, (0, 0, 0), 0, []),
  (183, 1, .istore_n 1, 1, (1, 0, 0), 0, []),
  (183, 2, .iconst 0, 1, (0, 0, 0), 0, []),
  (183, 3, .istore_n 2, 1, (2, 0, 0), 0, []),
  (183, 4, .iload_n 2, 1, (2, 0, 0), 0, []),
  (183, 5, .aload_n 0, 1, (0, 0, 0), 0, []),
  (183, 6, .getfield 7, 3, (9, 0, 0), 0, [(0, 913)]),
  (183, 9, .if_icmp .ge 58, 3, (67, 0, 0), 0, []),
  (183, 12, .aload_n 0, 1, (0, 0, 0), 0, []),
  (183, 13, .getfield 129, 3, (9, 39, 1), 0, [(0, 952)]),
  (183, 16, .iload_n 2, 1, (2, 0, 0), 0, []),
  (183, 17, .iaload, 1, (0, 0, 0), 0, []),
  (183, 18, .bipush 6, 2, (0, 0, 0), 6, []),
  (183, 20, .if_icmp .ne 12, 3, (32, 0, 0), 0, []),
  (183, 23, .iload_n 1, 1, (1, 0, 0), 0, []),
  (183, 24, .aload_n 0, 1, (0, 0, 0), 0, []),
  (183, 25, .getfield 126, 3, (9, 38, 1), 0, [(0, 951)]),
  (183, 28, .iload_n 2, 1, (2, 0, 0), 0, []),
  (183, 29, .iaload, 1, (0, 0, 0), 0, []),
  (183, 30, .iadd, 1, (0, 0, 0), 0, []),
  (183, 31, .istore_n 1, 1, (1, 0, 0), 0, []),
  (183, 32, .aload_n 0, 1, (0, 0, 0), 0, []),
  (183, 33, .getfield 129, 3, (9, 39, 1), 0, [(0, 952)]),
  (183, 36, .iload_n 2, 1, (2, 0, 0), 0, []),
  (183, 37, .iaload, 1, (0, 0, 0), 0, []),
  (183, 38, .iload_n 2, 1, (2, 0, 0), 0, []),
  (183, 39, .if_icmp .ge 22, 3, (61, 0, 0), 0, []),
  (183, 42, .iload_n 1, 1, (1, 0, 0), 0, []),
  (183, 43, .aload_n 0, 1, (0, 0, 0), 0, []),
  (183, 44, .getfield 123, 3, (9, 37, 1), 0, [(0, 950)]),
  (183, 47, .bipush 6, 2, (0, 0, 0), 6, []),
  (183, 49, .iload_n 2, 1, (2, 0, 0), 0, []),
  (183, 50, .imul, 1, (0, 0, 0), 0, []),
  (183, 51, .aload_n 0, 1, (0, 0, 0), 0, []),
  (183, 52, .getfield 129, 3, (9, 39, 1), 0, [(0, 952)]),
  (183, 55, .iload_n 2, 1, (2, 0, 0), 0, []),
  (183, 56, .iaload, 1, (0, 0, 0), 0, []),
  (183, 57, .iadd, 1, (0, 0, 0), 0, []),
  (183, 58, .iaload, 1, (0, 0, 0), 0, []),
  (183, 59, .iadd, 1, (0, 0, 0), 0, []),
  (183, 60, .istore_n 1, 1, (1, 0, 0), 0, []),
  (183, 61, .iinc 2 1, 3, (2, 0, 0), 1, []),
  (183, 64, .goto (-60), 3, (4, 0, 0), 0, []),
  (183, 67, .iload_n 1, 1, (1, 0, 0), 0, []),
  (183, 68, .ireturn, 1, (0, 0, 0), 0, [])]
def rows_184 : List mRow := [
  (184, 0, .iload_n 1, 1, (1, 0, 0), 0, []),
  (184, 1, .ifCond .eq 22, 3, (23, 0, 0), 0, []),
  (184, 4, .aload_n 0, 1, (0, 0, 0), 0, []),
  (184, 5, .iload_n 1, 1, (1, 0, 0), 0, []),
  (184, 6, .bipush 10, 2, (0, 0, 0), 10, []),
  (184, 8, .bipush 9, 2, (0, 0, 0), 9, []),
  (184, 10, .aload_n 0, 1, (0, 0, 0), 0, []),
  (184, 11, .getfield 7, 3, (9, 0, 0), 0, [(0, 913)]),
  (184, 14, .iadd, 1, (0, 0, 0), 0, []),
  (184, 15, .invokevirtual 254, 3, (116, 4, 1), 0, [(0, 1159)]),
  (184, 18, .ifCond .ne 5, 3, (23, 0, 0), 0, []),
  (184, 21, .iconst (-1), 1, (0, 0, 0), (-1), []),
  (184, 22, .ireturn, 1, (0, 0, 0), 0, []),
  (184, 23, .aload_n 0, 1, (0, 0, 0), 0, []),
  (184, 24, .invokevirtual 411, 3, (180, 1, 0), 0, [(0, 1415)]),
  (184, 27, .iconst 0, 1, (0, 0, 0), 0, []),
  (184, 28, .istore_n 2, 1, (2, 0, 0), 0, []),
  (184, 29, .iload_n 2, 1, (2, 0, 0), 0, []),
  (184, 30, .bipush 6, 2, (0, 0, 0), 6, []),
  (184, 32, .if_icmp .ge 16, 3, (48, 0, 0), 0, []),
  (184, 35, .aload_n 0, 1, (0, 0, 0), 0, []),
  (184, 36, .getfield 129, 3, (9, 39, 1), 0, [(0, 952)]),
  (184, 39, .iload_n 2, 1, (2, 0, 0), 0, []),
  (184, 40, .iconst 0, 1, (0, 0, 0), 0, []),
  (184, 41, .iastore, 1, (0, 0, 0), 0, []),
  (184, 42, .iinc 2 1, 3, (2, 0, 0), 1, []),
  (184, 45, .goto (-16), 3, (29, 0, 0), 0, []),
  (184, 48, .iconst (-1), 1, (0, 0, 0), (-1), []),
  (184, 49, .istore_n 2, 1, (2, 0, 0), 0, []),
  (184, 50, .iconst 1, 1, (0, 0, 0), 1, []),
  (184, 51, .istore_n 3, 1, (3, 0, 0), 0, []),
  (184, 52, .iload_n 3, 1, (3, 0, 0), 0, []),
  (184, 53, .ifCond .eq 91, 3, (144, 0, 0), 0, []),
  (184, 56, .aload_n 0, 1, (0, 0, 0), 0, []),
  (184, 57, .invokevirtual 414, 3, (181, 1, 1), 0, [(0, 1419)]),
  (184, 60, .istore 4, 2, (4, 0, 0), 0, []),
  (184, 62, .iload 4, 2, (4, 0, 0), 0, []),
  (184, 64, .aload_n 0, 1, (0, 0, 0), 0, []),
  (184, 65, .getfield 7, 3, (9, 0, 0), 0, [(0, 913)]),
  (184, 68, .if_icmp .ge 13, 3, (81, 0, 0), 0, []),
  (184, 71, .aload_n 0, 1, (0, 0, 0), 0, []),
  (184, 72, .iload 4, 2, (4, 0, 0), 0, []),
  (184, 74, .invokevirtual 417, 3, (182, 2, 1), 0, [(0, 1423)]),
  (184, 77, .istore_n 3, 1, (3, 0, 0), 0, []),
  (184, 78, .goto (-26), 3, (52, 0, 0), 0, []),
  (184, 81, .aload_n 0, 1, (0, 0, 0), 0, []),
  (184, 82, .invokevirtual 420, 3, (183, 1, 1), 0, [(0, 1427)]),
  (184, 85, .istore 5, 2, (5, 0, 0), 0, []),
  (184, 87, .iload_n 2, 1, (2, 0, 0), 0, []),
  (184, 88, .ifCond .lt 9, 3, (97, 0, 0), 0, []),
  (184, 91, .iload 5, 2, (5, 0, 0), 0, []),
  (184, 93, .iload_n 2, 1, (2, 0, 0), 0, []),
  (184, 94, .if_icmp .ge 36, 3, (130, 0, 0), 0, []),
  (184, 97, .iload 5, 2, (5, 0, 0), 0, []),
  (184, 99, .istore_n 2, 1, (2, 0, 0), 0, []),
  (184, 100, .iconst 0, 1, (0, 0, 0), 0, []),
  (184, 101, .istore 6, 2, (6, 0, 0), 0, []),
  (184, 103, .iload 6, 2, (6, 0, 0), 0, []),
  (184, 105, .bipush 6, 2, (0, 0, 0), 6, []),
  (184, 107, .if_icmp .ge 23, 3, (130, 0, 0), 0, []),
  (184, 110, .aload_n 0, 1, (0, 0, 0), 0, []),
  (184, 111, .getfield 132, 3, (9, 40, 1), 0, [(0, 953)]),
  (184, 114, .iload 6, 2, (6, 0, 0), 0, []),
  (184, 116, .aload_n 0, 1, (0, 0, 0), 0, []),
  (184, 117, .getfield 129, 3, (9, 39, 1), 0, [(0, 952)]),
  (184, 120, .iload 6, 2, (6, 0, 0), 0, []),
  (184, 122, .iaload, 1, (0, 0, 0), 0, []),
  (184, 123, .iastore, 1, (0, 0, 0), 0, []),
  (184, 124, .iinc 6 1, 3, (6, 0, 0), 1, []),
  (184, 127, .goto (-24), 3, (103, 0, 0), 0, []),
  (184, 130, .aload_n 0, 1, (0, 0, 0), 0, []),
  (184, 131, .aload_n 0, 1, (0, 0, 0), 0, []),
  (184, 132, .getfield 7, 3, (9, 0, 0), 0, [(0, 913)]),
  (184, 135, .iconst 1, 1, (0, 0, 0), 1, []),
  (184, 136, .isub, 1, (0, 0, 0), 0, []),
  (184, 137, .invokevirtual 417, 3, (182, 2, 1), 0, [(0, 1423)]),
  (184, 140, .istore_n 3, 1, (3, 0, 0), 0, []),
  (184, 141, .goto (-89), 3, (52, 0, 0), 0, []),
  (184, 144, .iload_n 1, 1, (1, 0, 0), 0, []),
  (184, 145, .ifCond .ne 5, 3, (150, 0, 0), 0, []),
  (184, 148, .iload_n 2, 1, (2, 0, 0), 0, []),
  (184, 149, .ireturn, 1, (0, 0, 0), 0, []),
  (184, 150, .aload_n 0, 1, (0, 0, 0), 0, []),
  (184, 151, .getfield 132, 3, (9, 40, 1), 0, [(0, 953)]),
  (184, 154, .iload_n 1, 1, (1, 0, 0), 0, []),
  (184, 155, .bipush 10, 2, (0, 0, 0), 10, []),
  (184, 157, .isub, 1, (0, 0, 0), 0, []),
  (184, 158, .iaload, 1, (0, 0, 0), 0, []),
  (184, 159, .bipush 6, 2, (0, 0, 0), 6, []),
  (184, 161, .if_icmp .ne 8, 3, (169, 0, 0), 0, []),
  (184, 164, .bipush (-5), 2, (0, 0, 0), (-5), []),
  (184, 166, .goto 12, 3, (178, 0, 0), 0, []),
  (184, 169, .aload_n 0, 1, (0, 0, 0), 0, []),
  (184, 170, .getfield 132, 3, (9, 40, 1), 0, [(0, 953)]),
  (184, 173, .iload_n 1, 1, (1, 0, 0), 0, []),
  (184, 174, .bipush 10, 2, (0, 0, 0), 10, []),
  (184, 176, .isub, 1, (0, 0, 0), 0, []),
  (184, 177, .iaload, 1, (0, 0, 0), 0, []),
  (184, 178, .ireturn, 1, (0, 0, 0), 0, [])]
def rows_185 : List mRow := [
  (185, 0, .aload_n 0, 1, (0, 0, 0), 0, []),
  (185, 1, .iload_n 1, 1, (1, 0, 0), 0, []),
  (185, 2, .iconst 0, 1, (0, 0, 0), 0, []),
  (185, 3, .sipush 9999, 3, (0, 0, 0), 9999, []),
  (185, 6, .invokevirtual 254, 3, (116, 4, 1), 0, [(0, 1159)]),
  (185, 9, .ifCond .ne 6, 3, (15, 0, 0), 0, []),
  (185, 12, .bipush (-2), 2, (0, 0, 0), (-2), []),
  (185, 14, .ireturn, 1, (0, 0, 0), 0, []),
  (185, 15, .bipush (-5), 2, (0, 0, 0), (-5), []),
  (185, 17, .istore_n 2, 1, (2, 0, 0), 0, []),
  (185, 18, .iconst 0, 1, (0, 0, 0), 0, []),
  (185, 19, .istore_n 3, 1, (3, 0, 0), 0, []),
  (185, 20, .iload_n 3, 1, (3, 0, 0), 0, []),
  (185, 21, .bipush 61, 2, (0, 0, 0), 61, []),
  (185, 23, .if_icmp .ge 33, 3, (56, 0, 0), 0, []),
  (185, 26, .iload_n 2, 1, (2, 0, 0), 0, []),
  (185, 27, .ifCond .ge 29, 3, (56, 0, 0), 0, []),
  (185, 30, .aload_n 0, 1, (0, 0, 0), 0, []),
  (185, 31, .iload_n 3, 1, (3, 0, 0), 0, []),
  (185, 32, .putfield 89, 3, (9, 26, 0), 0, [(0, 939)]),
  (185, 35, .aload_n 0, 1, (0, 0, 0), 0, []),
  (185, 36, .invokevirtual 375, 3, (160, 1, 1), 0, [(0, 1339)]),
  (185, 39, .iload_n 1, 1, (1, 0, 0), 0, []),
  (185, 40, .if_icmp .lt 7, 3, (47, 0, 0), 0, []),
  (185, 43, .iload_n 3, 1, (3, 0, 0), 0, []),
  (185, 44, .goto 5, 3, (49, 0, 0), 0, []),
  (185, 47, .bipush (-5), 2, (0, 0, 0), (-5), []),
  (185, 49, .istore_n 2, 1, (2, 0, 0), 0, []),
  (185, 50, .iinc 3 1, 3, (3, 0, 0), 1, []),
  (185, 53, .goto (-33), 3, (20, 0, 0), 0, []),
  (185, 56, .aload_n 0, 1, (0, 0, 0), 0, []),
  (185, 57, .iconst (-1), 1, (0, 0, 0), (-1), []),
  (185, 58, .putfield 89, 3, (9, 26, 0), 0, [(0, 939)]),
  (185, 61, .iload_n 2, 1, (2, 0, 0), 0, []),
  (185, 62, .ireturn, 1, (0, 0, 0), 0, [])]
def rows_186 : List mRow := [
  (186, 0, .iload_n 1, 1, (1, 0, 0), 0, []),
  (186, 1, .iconst (-1), 1, (0, 0, 0), (-1), []),
  (186, 2, .if_icmp .ne 10, 3, (12, 0, 0), 0, []),
  (186, 5, .aload_n 0, 1, (0, 0, 0), 0, []),
  (186, 6, .iconst 0, 1, (0, 0, 0), 0, []),
  (186, 7, .putfield 135, 3, (9, 41, 0), 0, [(0, 954)]),
  (186, 10, .iconst 0, 1, (0, 0, 0), 0, []),
  (186, 11, .ireturn, 1, (0, 0, 0), 0, []),
  (186, 12, .aload_n 0, 1, (0, 0, 0), 0, []),
  (186, 13, .iload_n 1, 1, (1, 0, 0), 0, []),
  (186, 14, .invokevirtual 258, 3, (119, 2, 1), 0, [(0, 1167)]),
  (186, 17, .ifCond .eq 11, 3, (28, 0, 0), 0, []),
  (186, 20, .aload_n 0, 1, (0, 0, 0), 0, []),
  (186, 21, .iload_n 2, 1, (2, 0, 0), 0, []),
  (186, 22, .invokevirtual 262, 3, (120, 2, 1), 0, [(0, 1171)]),
  (186, 25, .ifCond .ne 5, 3, (30, 0, 0), 0, []),
  (186, 28, .iconst (-1), 1, (0, 0, 0), (-1), []),
  (186, 29, .ireturn, 1, (0, 0, 0), 0, []),
  (186, 30, .aload_n 0, 1, (0, 0, 0), 0, []),
  (186, 31, .iload 4, 2, (4, 0, 0), 0, []),
  (186, 33, .iconst 0, 1, (0, 0, 0), 0, []),
  (186, 34, .bipush 20, 2, (0, 0, 0), 20, []),
  (186, 36, .invokevirtual 254, 3, (116, 4, 1), 0, [(0, 1159)]),
  (186, 39, .ifCond .ne 6, 3, (45, 0, 0), 0, []),
  (186, 42, .bipush (-2), 2, (0, 0, 0), (-2), []),
  (186, 44, .ireturn, 1, (0, 0, 0), 0, []),
  (186, 45, .aload_n 0, 1, (0, 0, 0), 0, []),
  (186, 46, .getfield 135, 3, (9, 41, 0), 0, [(0, 954)]),
  (186, 49, .bipush 6, 2, (0, 0, 0), 6, []),
  (186, 51, .if_icmp .ne 6, 3, (57, 0, 0), 0, []),
  (186, 54, .bipush (-4), 2, (0, 0, 0), (-4), []),
  (186, 56, .ireturn, 1, (0, 0, 0), 0, []),
  (186, 57, .aload_n 0, 1, (0, 0, 0), 0, []),
  (186, 58, .getfield 138, 3, (9, 42, 1), 0, [(0, 955)]),
  (186, 61, .aload_n 0, 1, (0, 0, 0), 0, []),
  (186, 62, .getfield 135, 3, (9, 41, 0), 0, [(0, 954)]),
  (186, 65, .iload_n 1, 1, (1, 0, 0), 0, []),
  (186, 66, .iastore, 1, (0, 0, 0), 0, []),
  (186, 67, .aload_n 0, 1, (0, 0, 0), 0, []),
  (186, 68, .getfield 141, 3, (9, 43, 1), 0, [(0, 956)]),
  (186, 71, .aload_n 0, 1, (0, 0, 0), 0, []),
  (186, 72, .getfield 135, 3, (9, 41, 0), 0, [(0, 954)]),
  (186, 75, .iload_n 2, 1, (2, 0, 0), 0, []),
  (186, 76, .iastore, 1, (0, 0, 0), 0, []),
  (186, 77, .aload_n 0, 1, (0, 0, 0), 0, []),
  (186, 78, .getfield 147, 3, (9, 45, 1), 0, [(0, 958)]),
  (186, 81, .aload_n 0, 1, (0, 0, 0), 0, []),
  (186, 82, .getfield 135, 3, (9, 41, 0), 0, [(0, 954)]),
  (186, 85, .iload_n 3, 1, (3, 0, 0), 0, []),
  (186, 86, .bastore, 1, (0, 0, 0), 0, []),
  (186, 87, .aload_n 0, 1, (0, 0, 0), 0, []),
  (186, 88, .getfield 144, 3, (9, 44, 1), 0, [(0, 957)]),
  (186, 91, .aload_n 0, 1, (0, 0, 0), 0, []),
  (186, 92, .getfield 135, 3, (9, 41, 0), 0, [(0, 954)]),
  (186, 95, .iload 4, 2, (4, 0, 0), 0, []),
  (186, 97, .iastore, 1, (0, 0, 0), 0, []),
  (186, 98, .aload_n 0, 1, (0, 0, 0), 0, []),
  (186, 99, .dup, 1, (0, 0, 0), 0, []),
  (186, 100, .getfield 135, 3, (9, 41, 0), 0, [(0, 954)]),
  (186, 103, .iconst 1, 1, (0, 0, 0), 1, []),
  (186, 104, .iadd, 1, (0, 0, 0), 0, []),
  (186, 105, .putfield 135, 3, (9, 41, 0), 0, [(0, 954)]),
  (186, 108, .aload_n 0, 1, (0, 0, 0), 0, []),
  (186, 109, .getfield 135, 3, (9, 41, 0), 0, [(0, 954)]),
  (186, 112, .ireturn, 1, (0, 0, 0), 0, [])]
def rows_187 : List mRow := [
  (187, 0, .iconst 1, 1, (0, 0, 0), 1, []),
  (187, 1, .istore_n 1, 1, (1, 0, 0), 0, []),
  (187, 2, .iconst 0, 1, (0, 0, 0), 0, []),
  (187, 3, .istore_n 2, 1, (2, 0, 0), 0, []),
  (187, 4, .iload_n 2, 1, (2, 0, 0), 0, []),
  (187, 5, .aload_n 0, 1, (0, 0, 0), 0, []),
  (187, 6, .getfield 135, 3, (9, 41, 0), 0, [(0, 954)]),
  (187, 9, .if_icmp .ge 62, 3, (71, 0, 0), 0, []),
  (187, 12, .iload_n 1, 1, (1, 0, 0), 0, []),
  (187, 13, .ifCond .eq 58, 3, (71, 0, 0), 0, []),
  (187, 16, .aload_n 0, 1, (0, 0, 0), 0, []),
  (187, 17, .invokevirtual 387, 3, (167, 1, 0), 0, [(0, 1363)]),
  (187, 20, .aload_n 0, 1, (0, 0, 0), 0, []),
  (187, 21, .aload_n 0, 1, (0, 0, 0), 0, []),
  (187, 22, .getfield 144, 3, (9, 44, 1), 0, [(0, 957)]),
  (187, 25, .iload_n 2, 1, (2, 0, 0), 0, []),
  (187, 26, .iaload, 1, (0, 0, 0), 0, []),
  (187, 27, .invokevirtual 384, 3, (165, 2, 0), 0, [(0, 1351)]),
  (187, 30, .aload_n 0, 1, (0, 0, 0), 0, []),
  (187, 31, .aload_n 0, 1, (0, 0, 0), 0, []),
  (187, 32, .getfield 138, 3, (9, 42, 1), 0, [(0, 955)]),
  (187, 35, .iload_n 2, 1, (2, 0, 0), 0, []),
  (187, 36, .iaload, 1, (0, 0, 0), 0, []),
  (187, 37, .aload_n 0, 1, (0, 0, 0), 0, []),
  (187, 38, .getfield 141, 3, (9, 43, 1), 0, [(0, 956)]),
  (187, 41, .iload_n 2, 1, (2, 0, 0), 0, []),
  (187, 42, .iaload, 1, (0, 0, 0), 0, []),
  (187, 43, .invokevirtual 357, 3, (156, 3, 1), 0, [(0, 1319)]),
  (187, 46, .aload_n 0, 1, (0, 0, 0), 0, []),
  (187, 47, .getfield 147, 3, (9, 45, 1), 0, [(0, 958)]),
  (187, 50, .iload_n 2, 1, (2, 0, 0), 0, []),
  (187, 51, .baload, 1, (0, 0, 0), 0, []),
  (187, 52, .if_icmp .ne 7, 3, (59, 0, 0), 0, []),
  (187, 55, .iconst 1, 1, (0, 0, 0), 1, []),
  (187, 56, .goto 4, 3, (60, 0, 0), 0, []),
  (187, 59, .iconst 0, 1, (0, 0, 0), 0, []),
  (187, 60, .istore_n 1, 1, (1, 0, 0), 0, []),
  (187, 61, .aload_n 0, 1, (0, 0, 0), 0, []),
  (187, 62, .invokevirtual 390, 3, (168, 1, 0), 0, [(0, 1367)]),
  (187, 65, .iinc 2 1, 3, (2, 0, 0), 1, []),
  (187, 68, .goto (-64), 3, (4, 0, 0), 0, []),
  (187, 71, .iload_n 1, 1, (1, 0, 0), 0, []),
  (187, 72, .ireturn, 1, (1, 0, 0), 0, [])]
def rows_188 : List mRow := [
  (188, 0, .aload_n 0, 1, (0, 0, 0), 0, []),
  (188, 1, .iload_n 1, 1, (1, 0, 0), 0, []),
  (188, 2, .iconst 0, 1, (0, 0, 0), 0, []),
  (188, 3, .iconst 1, 1, (0, 0, 0), 1, []),
  (188, 4, .invokevirtual 254, 3, (116, 4, 1), 0, [(0, 1159)]),
  (188, 7, .ifCond .ne 5, 3, (12, 0, 0), 0, []),
  (188, 10, .iconst (-1), 1, (0, 0, 0), (-1), []),
  (188, 11, .ireturn, 1, (0, 0, 0), 0, []),
  (188, 12, .iconst 0, 1, (0, 0, 0), 0, []),
  (188, 13, .istore_n 2, 1, (2, 0, 0), 0, []),
  (188, 14, .bipush (-5), 2, (0, 0, 0), (-5), []),
  (188, 16, .istore_n 3, 1, (3, 0, 0), 0, []),
  (188, 17, .bipush 60, 2, (0, 0, 0), 60, []),
  (188, 19, .istore 4, 2, (4, 0, 0), 0, []),
  (188, 21, .iload 4, 2, (4, 0, 0), 0, []),
  (188, 23, .ifCond .lt 31, 3, (54, 0, 0), 0, []),
  (188, 26, .aload_n 0, 1, (0, 0, 0), 0, []),
  (188, 27, .iload 4, 2, (4, 0, 0), 0, []),
  (188, 29, .putfield 89, 3, (9, 26, 0), 0, [(0, 939)]),
  (188, 32, .aload_n 0, 1, (0, 0, 0), 0, []),
  (188, 33, .invokevirtual 423, 3, (187, 1, 1), 0, [(0, 1443)]),
  (188, 36, .ifCond .ne 6, 3, (42, 0, 0), 0, []),
  (188, 39, .goto 9, 3, (48, 0, 0), 0, []),
  (188, 42, .iinc 2 1, 3, (2, 0, 0), 1, []),
  (188, 45, .iload 4, 2, (4, 0, 0), 0, []),
  (188, 47, .istore_n 3, 1, (3, 0, 0), 0, []),
  (188, 48, .iinc 4 (-1), 3, (4, 0, 0), (-1), []),
  (188, 51, .goto (-30), 3, (21, 0, 0), 0, []),
  (188, 54, .aload_n 0, 1, (0, 0, 0), 0, []),
  (188, 55, .iconst (-1), 1, (0, 0, 0), (-1), []),
  (188, 56, .putfield 89, 3, (9, 26, 0), 0, [(0, 939)]),
  (188, 59, .iload_n 1, 1, (1, 0, 0), 0, []),
  (188, 60, .ifCond .ne 7, 3, (67, 0, 0), 0, []),
  (188, 63, .iload_n 2, 1, (2, 0, 0), 0, []),
  (188, 64, .goto 4, 3, (68, 0, 0), 0, []),
  (188, 67, .iload_n 3, 1, (3, 0, 0), 0, []),
  (188, 68, .ireturn, 1, (0, 0, 0), 0, [])]
def rows_189 : List mRow := [
  (189, 0, .aload_n 0, 1, (0, 0, 0), 0, []),
  (189, 1, .iload_n 1, 1, (1, 0, 0), 0, []),
  (189, 2, .invokevirtual 258, 3, (119, 2, 1), 0, [(0, 1167)]),
  (189, 5, .ifCond .eq 21, 3, (26, 0, 0), 0, []),
  (189, 8, .aload_n 0, 1, (0, 0, 0), 0, []),
  (189, 9, .iload_n 2, 1, (2, 0, 0), 0, []),
  (189, 10, .invokevirtual 262, 3, (120, 2, 1), 0, [(0, 1171)]),
  (189, 13, .ifCond .eq 13, 3, (26, 0, 0), 0, []),
  (189, 16, .aload_n 0, 1, (0, 0, 0), 0, []),
  (189, 17, .iload_n 3, 1, (3, 0, 0), 0, []),
  (189, 18, .iconst 0, 1, (0, 0, 0), 0, []),
  (189, 19, .iconst 1, 1, (0, 0, 0), 1, []),
  (189, 20, .invokevirtual 254, 3, (116, 4, 1), 0, [(0, 1159)]),
  (189, 23, .ifCond .ne 5, 3, (28, 0, 0), 0, []),
  (189, 26, .iconst (-1), 1, (0, 0, 0), (-1), []),
  (189, 27, .ireturn, 1, (0, 0, 0), 0, []),
  (189, 28, .aload_n 0, 1, (0, 0, 0), 0, []),
  (189, 29, .getfield 32, 3, (9, 7, 1), 0, [(0, 920)]),
  (189, 32, .bipush 6, 2, (0, 0, 0), 6, []),
  (189, 34, .iload_n 1, 1, (1, 0, 0), 0, []),
  (189, 35, .imul, 1, (0, 0, 0), 0, []),
  (189, 36, .iload_n 2, 1, (2, 0, 0), 0, []),
  (189, 37, .iadd, 1, (0, 0, 0), 0, []),
  (189, 38, .iaload, 1, (0, 0, 0), 0, []),
  (189, 39, .istore 4, 2, (4, 0, 0), 0, []),
  (189, 41, .iconst 0, 1, (0, 0, 0), 0, []),
  (189, 42, .istore 5, 2, (5, 0, 0), 0, []),
  (189, 44, .bipush (-5), 2, (0, 0, 0), (-5), []),
  (189, 46, .istore 6, 2, (6, 0, 0), 0, []),
  (189, 48, .bipush 9, 2, (0, 0, 0), 9, []),
  (189, 50, .istore 7, 2, (7, 0, 0), 0, []),
  (189, 52, .iload 7, 2, (7, 0, 0), 0, []),
  (189, 54, .ifCond .lt 39, 3, (93, 0, 0), 0, []),
  (189, 57, .aload_n 0, 1, (0, 0, 0), 0, []),
  (189, 58, .getfield 32, 3, (9, 7, 1), 0, [(0, 920)]),
  (189, 61, .bipush 6, 2, (0, 0, 0), 6, []),
  (189, 63, .iload_n 1, 1, (1, 0, 0), 0, []),
  (189, 64, .imul, 1, (0, 0, 0), 0, []),
  (189, 65, .iload_n 2, 1, (2, 0, 0), 0, []),
  (189, 66, .iadd, 1, (0, 0, 0), 0, []),
  (189, 67, .iload 7, 2, (7, 0, 0), 0, []),
  (189, 69, .iastore, 1, (0, 0, 0), 0, []),
  (189, 70, .aload_n 0, 1, (0, 0, 0), 0, []),
  (189, 71, .invokevirtual 423, 3, (187, 1, 1), 0, [(0, 1443)]),
  (189, 74, .ifCond .ne 6, 3, (80, 0, 0), 0, []),
  (189, 77, .goto 10, 3, (87, 0, 0), 0, []),
  (189, 80, .iinc 5 1, 3, (5, 0, 0), 1, []),
  (189, 83, .iload 7, 2, (7, 0, 0), 0, []),
  (189, 85, .istore 6, 2, (6, 0, 0), 0, []),
  (189, 87, .iinc 7 (-1), 3, (7, 0, 0), (-1), []),
  (189, 90, .goto (-38), 3, (52, 0, 0), 0, []),
  (189, 93, .aload_n 0, 1, (0, 0, 0), 0, []),
  (189, 94, .getfield 32, 3, (9, 7, 1), 0, [(0, 920)]),
  (189, 97, .bipush 6, 2, (0, 0, 0), 6, []),
  (189, 99, .iload_n 1, 1, (1, 0, 0), 0, []),
  (189, 100, .imul, 1, (0, 0, 0), 0, []),
  (189, 101, .iload_n 2, 1, (2, 0, 0), 0, []),
  (189, 102, .iadd, 1, (0, 0, 0), 0, []),
  (189, 103, .iload 4, 2, (4, 0, 0), 0, []),
  (189, 105, .iastore, 1, (0, 0, 0), 0, []),
  (189, 106, .iload_n 3, 1, (3, 0, 0), 0, []),
  (189, 107, .ifCond .ne 8, 3, (115, 0, 0), 0, []),
  (189, 110, .iload 5, 2, (5, 0, 0), 0, []),
  (189, 112, .goto 5, 3, (117, 0, 0), 0, []),
  (189, 115, .iload 6, 2, (6, 0, 0), 0, []),
  (189, 117, .ireturn, 1, (0, 0, 0), 0, [])]
def rows_190 : List mRow := [
  (190, 0, .aload_n 0, 1, (0, 0, 0), 0, []),
  (190, 1, .iload_n 1, 1, (1, 0, 0), 0, []),
  (190, 2, .invokevirtual 258, 3, (119, 2, 1), 0, [(0, 1167)]),
  (190, 5, .ifCond .eq 13, 3, (18, 0, 0), 0, []),
  (190, 8, .aload_n 0, 1, (0, 0, 0), 0, []),
  (190, 9, .iload_n 2, 1, (2, 0, 0), 0, []),
  (190, 10, .iconst 0, 1, (0, 0, 0), 0, []),
  (190, 11, .iconst 1, 1, (0, 0, 0), 1, []),
  (190, 12, .invokevirtual 254, 3, (116, 4, 1), 0, [(0, 1159)]),
  (190, 15, .ifCond .ne 5, 3, (20, 0, 0), 0, []),
  (190, 18, .iconst (-1), 1, (0, 0, 0), (-1), []),
  (190, 19, .ireturn, 1, (0, 0, 0), 0, []),
  (190, 20, .aload_n 0, 1, (0, 0, 0), 0, []),
  (190, 21, .getfield 26, 3, (9, 5, 1), 0, [(0, 918)]),
  (190, 24, .iload_n 1, 1, (1, 0, 0), 0, []),
  (190, 25, .iaload, 1, (0, 0, 0), 0, []),
  (190, 26, .istore_n 3, 1, (3, 0, 0), 0, []),
  (190, 27, .iconst 0, 1, (0, 0, 0), 0, []),
  (190, 28, .istore 4, 2, (4, 0, 0), 0, []),
  (190, 30, .bipush (-5), 2, (0, 0, 0), (-5), []),
  (190, 32, .istore 5, 2, (5, 0, 0), 0, []),
  (190, 34, .bipush 9, 2, (0, 0, 0), 9, []),
  (190, 36, .istore 6, 2, (6, 0, 0), 0, []),
  (190, 38, .iload 6, 2, (6, 0, 0), 0, []),
  (190, 40, .ifCond .lt 34, 3, (74, 0, 0), 0, []),
  (190, 43, .aload_n 0, 1, (0, 0, 0), 0, []),
  (190, 44, .getfield 26, 3, (9, 5, 1), 0, [(0, 918)]),
  (190, 47, .iload_n 1, 1, (1, 0, 0), 0, []),
  (190, 48, .iload 6, 2, (6, 0, 0), 0, []),
  (190, 50, .iastore, 1, (0, 0, 0), 0, []),
  (190, 51, .aload_n 0, 1, (0, 0, 0), 0, []),
  (190, 52, .invokevirtual 423, 3, (187, 1, 1), 0, [(0, 1443)]),
  (190, 55, .ifCond .ne 6, 3, (61, 0, 0), 0, []),
  (190, 58, .goto 10, 3, (68, 0, 0), 0, []),
  (190, 61, .iinc 4 1, 3, (4, 0, 0), 1, []),
  (190, 64, .iload 6, 2, (6, 0, 0), 0, []),
  (190, 66, .istore 5, 2, (5, 0, 0), 0, []),
  (190, 68, .iinc 6 (-1), 3, (6, 0, 0), (-1), []),
  (190, 71, .goto (-33), 3, (38, 0, 0), 0, []),
  (190, 74, .aload_n 0, 1, (0, 0, 0), 0, []),
  (190, 75, .getfield 26, 3, (9, 5, 1), 0, [(0, 918)]),
  (190, 78, .iload_n 1, 1, (1, 0, 0), 0, []),
  (190, 79, .iload_n 3, 1, (3, 0, 0), 0, []),
  (190, 80, .iastore, 1, (0, 0, 0), 0, []),
  (190, 81, .iload_n 2, 1, (2, 0, 0), 0, []),
  (190, 82, .ifCond .ne 8, 3, (90, 0, 0), 0, []),
  (190, 85, .iload 4, 2, (4, 0, 0), 0, []),
  (190, 87, .goto 5, 3, (92, 0, 0), 0, []),
  (190, 90, .iload 5, 2, (5, 0, 0), 0, []),
  (190, 92, .ireturn, 1, (0, 0, 0), 0, [])]
def rows_191 : List mRow := [
  (191, 0, .iload_n 1, 1, (1, 0, 0), 0, []),
  (191, 1, .istore_n 3, 1, (3, 0, 0), 0, []),
  (191, 2, .iload_n 2, 1, (2, 0, 0), 0, []),
  (191, 3, .istore 4, 2, (4, 0, 0), 0, []),
  (191, 5, .iload 4, 2, (4, 0, 0), 0, []),
  (191, 7, .ifCond .eq 19, 3, (26, 0, 0), 0, []),
  (191, 10, .iload_n 3, 1, (3, 0, 0), 0, []),
  (191, 11, .iload 4, 2, (4, 0, 0), 0, []),
  (191, 13, .irem, 1, (0, 0, 0), 0, []),
  (191, 14, .istore 5, 2, (5, 0, 0), 0, []),
  (191, 16, .iload 4, 2, (4, 0, 0), 0, []),
  (191, 18, .istore_n 3, 1, (3, 0, 0), 0, []),
  (191, 19, .iload 5, 2, (5, 0, 0), 0, []),
  (191, 21, .istore 4, 2, (4, 0, 0), 0, []),
  (191, 23, .goto (-18), 3, (5, 0, 0), 0, []),
  (191, 26, .iload_n 3, 1, (3, 0, 0), 0, []),
  (191, 27, .ireturn, 1, (0, 0, 0), 0, [])]
def rows_192 : List mRow := [
  (192, 0, .aload_n 0, 1, (0, 0, 0), 0, []),
  (192, 1, .iload_n 1, 1, (1, 0, 0), 0, []),
  (192, 2, .iload_n 2, 1, (2, 0, 0), 0, []),
  (192, 3, .invokevirtual 426, 3, (191, 3, 1), 0, [(0, 1464)]),
  (192, 6, .istore 4, 2, (4, 0, 0), 0, []),
  (192, 8, .iload_n 3, 1, (3, 0, 0), 0, []),
  (192, 9, .ifCond .ne 11, 3, (20, 0, 0), 0, []),
  (192, 12, .iload_n 1, 1, (1, 0, 0), 0, []),
  (192, 13, .iload 4, 2, (4, 0, 0), 0, []),
  (192, 15, .idiv, 1, (0, 0, 0), 0, []),
  (192, 16, .i2l, 1, (0, 0, 0), 0, []),
  (192, 17, .goto 8, 3, (25, 0, 0), 0, []),
  (192, 20, .iload_n 2, 1, (2, 0, 0), 0, []),
  (192, 21, .iload 4, 2, (4, 0, 0), 0, []),
  (192, 23, .idiv, 1, (0, 0, 0), 0, []),
  (192, 24, .i2l, 1, (0, 0, 0), 0, []),
  (192, 25, .lreturn, 1, (0, 0, 0), 0, [])]
def rows_193 : List mRow := [
  (193, 0, .aload_n 0, 1, (0, 0, 0), 0, []),
  (193, 1, .iload_n 1, 1, (1, 0, 0), 0, []),
  (193, 2, .invokevirtual 258, 3, (119, 2, 1), 0, [(0, 1167)]),
  (193, 5, .ifCond .eq 21, 3, (26, 0, 0), 0, []),
  (193, 8, .aload_n 0, 1, (0, 0, 0), 0, []),
  (193, 9, .iload_n 2, 1, (2, 0, 0), 0, []),
  (193, 10, .invokevirtual 262, 3, (120, 2, 1), 0, [(0, 1171)]),
  (193, 13, .ifCond .eq 13, 3, (26, 0, 0), 0, []),
  (193, 16, .aload_n 0, 1, (0, 0, 0), 0, []),
  (193, 17, .iload_n 3, 1, (3, 0, 0), 0, []),
  (193, 18, .iconst 0, 1, (0, 0, 0), 0, []),
  (193, 19, .iconst 1, 1, (0, 0, 0), 1, []),
  (193, 20, .invokevirtual 254, 3, (116, 4, 1), 0, [(0, 1159)]),
  (193, 23, .ifCond .ne 7, 3, (30, 0, 0), 0, []),
  (193, 26, .ldc2_w 429, 3, (0, 0, 0), (-9223372036854775808), [(0, 1459)]),
  (193, 29, .lreturn, 1, (0, 0, 0), 0, []),
  (193, 30, .aload_n 0, 1, (0, 0, 0), 0, []),
  (193, 31, .getfield 16, 3, (9, 2, 0), 0, [(0, 915)]),
  (193, 34, .istore 4, 2, (4, 0, 0), 0, []),
  (193, 36, .iconst 0, 1, (0, 0, 0), 0, []),
  (193, 37, .istore 5, 2, (5, 0, 0), 0, []),
  (193, 39, .iconst 0, 1, (0, 0, 0), 0, []),
  (193, 40, .istore 6, 2, (6, 0, 0), 0, []),
  (193, 42, .iload 6, 2, (6, 0, 0), 0, []),
  (193, 44, .bipush 24, 2, (0, 0, 0), 24, []),
  (193, 46, .if_icmp .ge 34, 3, (80, 0, 0), 0, []),
  (193, 49, .aload_n 0, 1, (0, 0, 0), 0, []),
  (193, 50, .iload 6, 2, (6, 0, 0), 0, []),
  (193, 52, .putfield 16, 3, (9, 2, 0), 0, [(0, 915)]),
  (193, 55, .iload 5, 2, (5, 0, 0), 0, []),
  (193, 57, .aload_n 0, 1, (0, 0, 0), 0, []),
  (193, 58, .iload_n 1, 1, (1, 0, 0), 0, []),
  (193, 59, .iload_n 2, 1, (2, 0, 0), 0, []),
  (193, 60, .invokevirtual 357, 3, (156, 3, 1), 0, [(0, 1319)]),
  (193, 63, .ifCond .eq 7, 3, (70, 0, 0), 0, []),
  (193, 66, .iconst 1, 1, (0, 0, 0), 1, []),
  (193, 67, .goto 4, 3, (71, 0, 0), 0, []),
  (193, 70, .iconst 0, 1, (0, 0, 0), 0, []),
  (193, 71, .iadd, 1, (0, 0, 0), 0, []),
  (193, 72, .istore 5, 2, (5, 0, 0), 0, []),
  (193, 74, .iinc 6 1, 3, (6, 0, 0), 1, []),
  (193, 77, .goto (-35), 3, (42, 0, 0), 0, []),
  (193, 80, .aload_n 0, 1, (0, 0, 0), 0, []),
  (193, 81, .iload 4, 2, (4, 0, 0), 0, []),
  (193, 83, .putfield 16, 3, (9, 2, 0), 0, [(0, 915)]),
  (193, 86, .aload_n 0, 1, (0, 0, 0), 0, []),
  (193, 87, .iload 5, 2, (5, 0, 0), 0, []),
  (193, 89, .bipush 24, 2, (0, 0, 0), 24, []),
  (193, 91, .iload_n 3, 1, (3, 0, 0), 0, []),
  (193, 92, .invokevirtual 431, 3, (192, 4, 2), 0, [(0, 1460)]),
  (193, 95, .lreturn, 1, (0, 0, 0), 0, [])]
def rows_194 : List mRow := [
  (194, 0, .aload_n 0, 1, (0, 0, 0), 0, []),
  (194, 1, .iload_n 1, 1, (1, 0, 0), 0, []),
  (194, 2, .invokevirtual 273, 3, (121, 2, 1), 0, [(0, 1195)]),
  (194, 5, .ifCond .eq 20, 3, (25, 0, 0), 0, []),
  (194, 8, .aload_n 0, 1, (0, 0, 0), 0, []),
  (194, 9, .iload_n 2, 1, (2, 0, 0), 0, []),
  (194, 10, .iconst 0, 1, (0, 0, 0), 0, []),
  (194, 11, .iconst 1, 1, (0, 0, 0), 1, []),
  (194, 12, .invokevirtual 254, 3, (116, 4, 1), 0, [(0, 1159)]),
  (194, 15, .ifCond .eq 10, 3, (25, 0, 0), 0, []),
  (194, 18, .aload_n 0, 1, (0, 0, 0), 0, []),
  (194, 19, .getfield 7, 3, (9, 0, 0), 0, [(0, 913)]),
  (194, 22, .ifCond .ne 7, 3, (29, 0, 0), 0, []),
  (194, 25, .ldc2_w 429, 3, (0, 0, 0), (-9223372036854775808), [(0, 1459)]),
  (194, 28, .lreturn, 1, (0, 0, 0), 0, []),
  (194, 29, .iconst 0, 1, (0, 0, 0), 0, []),
  (194, 30, .istore_n 3, 1, (3, 0, 0), 0, []),
  (194, 31, .iconst 0, 1, (0, 0, 0), 0, []),
  (194, 32, .istore 4, 2, (4, 0, 0), 0, []),
  (194, 34, .iload 4, 2, (4, 0, 0), 0, []),
  (194, 36, .aload_n 0, 1, (0, 0, 0), 0, []),
  (194, 37, .getfield 7, 3, (9, 0, 0), 0, [(0, 913)]),
  (194, 40, .if_icmp .ge 19, 3, (59, 0, 0), 0, []),
  (194, 43, .iload_n 3, 1, (3, 0, 0), 0, []),
  (194, 44, .aload_n 0, 1, (0, 0, 0), 0, []),
  (194, 45, .iload 4, 2, (4, 0, 0), 0, []),
  (194, 47, .iload_n 1, 1, (1, 0, 0), 0, []),
  (194, 48, .invokevirtual 393, 3, (170, 3, 1), 0, [(0, 1375)]),
  (194, 51, .iadd, 1, (0, 0, 0), 0, []),
  (194, 52, .istore_n 3, 1, (3, 0, 0), 0, []),
  (194, 53, .iinc 4 1, 3, (4, 0, 0), 1, []),
  (194, 56, .goto (-22), 3, (34, 0, 0), 0, []),
  (194, 59, .aload_n 0, 1, (0, 0, 0), 0, []),
  (194, 60, .iload_n 3, 1, (3, 0, 0), 0, []),
  (194, 61, .aload_n 0, 1, (0, 0, 0), 0, []),
  (194, 62, .getfield 7, 3, (9, 0, 0), 0, [(0, 913)]),
  (194, 65, .iload_n 2, 1, (2, 0, 0), 0, []),
  (194, 66, .invokevirtual 431, 3, (192, 4, 2), 0, [(0, 1460)]),
  (194, 69, .lreturn, 1, (0, 0, 0), 0, [])]
def rows_195 : List mRow := [
  (195, 0, .iload_n 1, 1, (1, 0, 0), 0, []),
  (195, 1, .iconst (-1), 1, (0, 0, 0), (-1), []),
  (195, 2, .if_icmp .ne 10, 3, (12, 0, 0), 0, []),
  (195, 5, .aload_n 0, 1, (0, 0, 0), 0, []),
  (195, 6, .iconst 0, 1, (0, 0, 0), 0, []),
  (195, 7, .putfield 150, 3, (9, 46, 0), 0, [(0, 959)]),
  (195, 10, .iconst 0, 1, (0, 0, 0), 0, []),
  (195, 11, .ireturn, 1, (0, 0, 0), 0, []),
  (195, 12, .aload_n 0, 1, (0, 0, 0), 0, []),
  (195, 13, .iload_n 1, 1, (1, 0, 0), 0, []),
  (195, 14, .iconst 0, 1, (0, 0, 0), 0, []),
  (195, 15, .iconst 3, 1, (0, 0, 0), 3, []),
  (195, 16, .invokevirtual 254, 3, (116, 4, 1), 0, [(0, 1159)]),
  (195, 19, .ifCond .eq 16, 3, (35, 0, 0), 0, []),
  (195, 22, .iload_n 1, 1, (1, 0, 0), 0, []),
  (195, 23, .iconst 2, 1, (0, 0, 0), 2, []),
  (195, 24, .if_icmp .ne 13, 3, (37, 0, 0), 0, []),
  (195, 27, .aload_n 0, 1, (0, 0, 0), 0, []),
  (195, 28, .iload_n 2, 1, (2, 0, 0), 0, []),
  (195, 29, .invokevirtual 258, 3, (119, 2, 1), 0, [(0, 1167)]),
  (195, 32, .ifCond .ne 5, 3, (37, 0, 0), 0, []),
  (195, 35, .iconst (-1), 1, (0, 0, 0), (-1), []),
  (195, 36, .ireturn, 1, (0, 0, 0), 0, []),
  (195, 37, .iload_n 1, 1, (1, 0, 0), 0, []),
  (195, 38, .iconst 1, 1, (0, 0, 0), 1, []),
  (195, 39, .if_icmp .ne 14, 3, (53, 0, 0), 0, []),
  (195, 42, .aload_n 0, 1, (0, 0, 0), 0, []),
  (195, 43, .iload_n 2, 1, (2, 0, 0), 0, []),
  (195, 44, .invokevirtual 273, 3, (121, 2, 1), 0, [(0, 1195)]),
  (195, 47, .ifCond .ne 6, 3, (53, 0, 0), 0, []),
  (195, 50, .bipush (-2), 2, (0, 0, 0), (-2), []),
  (195, 52, .ireturn, 1, (0, 0, 0), 0, []),
  (195, 53, .aload_n 0, 1, (0, 0, 0), 0, []),
  (195, 54, .getfield 150, 3, (9, 46, 0), 0, [(0, 959)]),
  (195, 57, .bipush 10, 2, (0, 0, 0), 10, []),
  (195, 59, .if_icmp .ne 6, 3, (65, 0, 0), 0, []),
  (195, 62, .bipush (-4), 2, (0, 0, 0), (-4), []),
  (195, 64, .ireturn, 1, (0, 0, 0), 0, []),
  (195, 65, .aload_n 0, 1, (0, 0, 0), 0, []),
  (195, 66, .getfield 156, 3, (9, 48, 1), 0, [(0, 961)]),
  (195, 69, .aload_n 0, 1, (0, 0, 0), 0, []),
  (195, 70, .getfield 150, 3, (9, 46, 0), 0, [(0, 959)]),
  (195, 73, .iload_n 1, 1, (1, 0, 0), 0, []),
  (195, 74, .iastore, 1, (0, 0, 0), 0, []),
  (195, 75, .aload_n 0, 1, (0, 0, 0), 0, []),
  (195, 76, .getfield 159, 3, (9, 49, 1), 0, [(0, 962)]),
  (195, 79, .aload_n 0, 1, (0, 0, 0), 0, []),
  (195, 80, .getfield 150, 3, (9, 46, 0), 0, [(0, 959)]),
  (195, 83, .aload_n 0, 1, (0, 0, 0), 0, []),
  (195, 84, .iload_n 1, 1, (1, 0, 0), 0, []),
  (195, 85, .iconst 1, 1, (0, 0, 0), 1, []),
  (195, 86, .iconst 2, 1, (0, 0, 0), 2, []),
  (195, 87, .invokevirtual 254, 3, (116, 4, 1), 0, [(0, 1159)]),
  (195, 90, .ifCond .eq 7, 3, (97, 0, 0), 0, []),
  (195, 93, .iload_n 2, 1, (2, 0, 0), 0, []),
  (195, 94, .goto 4, 3, (98, 0, 0), 0, []),
  (195, 97, .iconst 0, 1, (0, 0, 0), 0, []),
  (195, 98, .iastore, 1, (0, 0, 0), 0, []),
  (195, 99, .aload_n 0, 1, (0, 0, 0), 0, []),
  (195, 100, .dup, 1, (0, 0, 0), 0, []),
  (195, 101, .getfield 150, 3, (9, 46, 0), 0, [(0, 959)]),
  (195, 104, .iconst 1, 1, (0, 0, 0), 1, []),
  (195, 105, .iadd, 1, (0, 0, 0), 0, []),
  (195, 106, .putfield 150, 3, (9, 46, 0), 0, [(0, 959)]),
  (195, 109, .aload_n 0, 1, (0, 0, 0), 0, []),
  (195, 110, .getfield 150, 3, (9, 46, 0), 0, [(0, 959)]),
  (195, 113, .ireturn, 1, (0, 0, 0), 0, [])]
def rows_196 : List mRow := [
  (196, 0, .aload_n 0, 1, (0, 0, 0), 0, []),
  (196, 1, .iload_n 1, 1, (1, 0, 0), 0, []),
  (196, 2, .iconst 0, 1, (0, 0, 0), 0, []),
  (196, 3, .iconst 1, 1, (0, 0, 0), 1, []),
  (196, 4, .invokevirtual 254, 3, (116, 4, 1), 0, [(0, 1159)]),
  (196, 7, .ifCond .ne 5, 3, (12, 0, 0), 0, []),
  (196, 10, .iconst (-1), 1, (0, 0, 0), (-1), []),
  (196, 11, .ireturn, 1, (0, 0, 0), 0, []),
  (196, 12, .aload_n 0, 1, (0, 0, 0), 0, []),
  (196, 13, .invokevirtual 387, 3, (167, 1, 0), 0, [(0, 1363)]),
  (196, 16, .iconst 0, 1, (0, 0, 0), 0, []),
  (196, 17, .istore_n 2, 1, (2, 0, 0), 0, []),
  (196, 18, .iload_n 2, 1, (2, 0, 0), 0, []),
  (196, 19, .aload_n 0, 1, (0, 0, 0), 0, []),
  (196, 20, .getfield 150, 3, (9, 46, 0), 0, [(0, 959)]),
  (196, 23, .if_icmp .ge 86, 3, (109, 0, 0), 0, []),
  (196, 26, .aload_n 0, 1, (0, 0, 0), 0, []),
  (196, 27, .getfield 156, 3, (9, 48, 1), 0, [(0, 961)]),
  (196, 30, .iload_n 2, 1, (2, 0, 0), 0, []),
  (196, 31, .iaload, 1, (0, 0, 0), 0, []),
  (196, 32, .ifCond .ne 7, 3, (39, 0, 0), 0, []),
  (196, 35, .aload_n 0, 1, (0, 0, 0), 0, []),
  (196, 36, .invokevirtual 378, 3, (164, 1, 0), 0, [(0, 1355)]),
  (196, 39, .aload_n 0, 1, (0, 0, 0), 0, []),
  (196, 40, .getfield 156, 3, (9, 48, 1), 0, [(0, 961)]),
  (196, 43, .iload_n 2, 1, (2, 0, 0), 0, []),
  (196, 44, .iaload, 1, (0, 0, 0), 0, []),
  (196, 45, .iconst 1, 1, (0, 0, 0), 1, []),
  (196, 46, .if_icmp .ne 13, 3, (59, 0, 0), 0, []),
  (196, 49, .aload_n 0, 1, (0, 0, 0), 0, []),
  (196, 50, .aload_n 0, 1, (0, 0, 0), 0, []),
  (196, 51, .getfield 159, 3, (9, 49, 1), 0, [(0, 962)]),
  (196, 54, .iload_n 2, 1, (2, 0, 0), 0, []),
  (196, 55, .iaload, 1, (0, 0, 0), 0, []),
  (196, 56, .putfield 16, 3, (9, 2, 0), 0, [(0, 915)]),
  (196, 59, .aload_n 0, 1, (0, 0, 0), 0, []),
  (196, 60, .getfield 156, 3, (9, 48, 1), 0, [(0, 961)]),
  (196, 63, .iload_n 2, 1, (2, 0, 0), 0, []),
  (196, 64, .iaload, 1, (0, 0, 0), 0, []),
  (196, 65, .iconst 2, 1, (0, 0, 0), 2, []),
  (196, 66, .if_icmp .ne 14, 3, (80, 0, 0), 0, []),
  (196, 69, .aload_n 0, 1, (0, 0, 0), 0, []),
  (196, 70, .aload_n 0, 1, (0, 0, 0), 0, []),
  (196, 71, .getfield 159, 3, (9, 49, 1), 0, [(0, 962)]),
  (196, 74, .iload_n 2, 1, (2, 0, 0), 0, []),
  (196, 75, .iaload, 1, (0, 0, 0), 0, []),
  (196, 76, .iconst 1, 1, (0, 0, 0), 1, []),
  (196, 77, .invokevirtual 269, 3, (125, 3, 0), 0, [(0, 1183)]),
  (196, 80, .aload_n 0, 1, (0, 0, 0), 0, []),
  (196, 81, .getfield 156, 3, (9, 48, 1), 0, [(0, 961)]),
  (196, 84, .iload_n 2, 1, (2, 0, 0), 0, []),
  (196, 85, .iaload, 1, (0, 0, 0), 0, []),
  (196, 86, .iconst 3, 1, (0, 0, 0), 3, []),
  (196, 87, .if_icmp .ne 16, 3, (103, 0, 0), 0, []),
  (196, 90, .aload_n 0, 1, (0, 0, 0), 0, []),
  (196, 91, .aload_n 0, 1, (0, 0, 0), 0, []),
  (196, 92, .getfield 16, 3, (9, 2, 0), 0, [(0, 915)]),
  (196, 95, .iconst 1, 1, (0, 0, 0), 1, []),
  (196, 96, .iadd, 1, (0, 0, 0), 0, []),
  (196, 97, .bipush 24, 2, (0, 0, 0), 24, []),
  (196, 99, .irem, 1, (0, 0, 0), 0, []),
  (196, 100, .putfield 16, 3, (9, 2, 0), 0, [(0, 915)]),
  (196, 103, .iinc 2 1, 3, (2, 0, 0), 1, []),
  (196, 106, .goto (-88), 3, (18, 0, 0), 0, []),
  (196, 109, .iconst 0, 1, (0, 0, 0), 0, []),
  (196, 110, .istore_n 2, 1, (2, 0, 0), 0, []),
  (196, 111, .iconst 0, 1, (0, 0, 0), 0, []),
  (196, 112, .istore_n 3, 1, (3, 0, 0), 0, []),
  (196, 113, .iload_n 3, 1, (3, 0, 0), 0, []),
  (196, 114, .aload_n 0, 1, (0, 0, 0), 0, []),
  (196, 115, .getfield 7, 3, (9, 0, 0), 0, [(0, 913)]),
  (196, 118, .if_icmp .ge 33, 3, (151, 0, 0), 0, []),
  (196, 121, .iload_n 2, 1, (2, 0, 0), 0, []),
  (196, 122, .aload_n 0, 1, (0, 0, 0), 0, []),
  (196, 123, .aload_n 0, 1, (0, 0, 0), 0, []),
  (196, 124, .getfield 13, 3, (9, 1, 0), 0, [(0, 914)]),
  (196, 127, .iload_n 3, 1, (3, 0, 0), 0, []),
  (196, 128, .invokevirtual 265, 3, (117, 3, 1), 0, [(0, 1179)]),
  (196, 131, .ifCond .eq 7, 3, (138, 0, 0), 0, []),
  (196, 134, .iconst 0, 1, (0, 0, 0), 0, []),
  (196, 135, .goto 8, 3, (143, 0, 0), 0, []),
  (196, 138, .aload_n 0, 1, (0, 0, 0), 0, []),
  (196, 139, .iload_n 3, 1, (3, 0, 0), 0, []),
  (196, 140, .invokevirtual 363, 3, (158, 2, 1), 0, [(0, 1315)]),
  (196, 143, .iadd, 1, (0, 0, 0), 0, []),
  (196, 144, .istore_n 2, 1, (2, 0, 0), 0, []),
  (196, 145, .iinc 3 1, 3, (3, 0, 0), 1, []),
  (196, 148, .goto (-35), 3, (113, 0, 0), 0, []),
  (196, 151, .iload_n 1, 1, (1, 0, 0), 0, []),
  (196, 152, .ifCond .ne 10, 3, (162, 0, 0), 0, []),
  (196, 155, .aload_n 0, 1, (0, 0, 0), 0, []),
  (196, 156, .invokevirtual 375, 3, (160, 1, 1), 0, [(0, 1339)]),
  (196, 159, .goto 4, 3, (163, 0, 0), 0, []),
  (196, 162, .iload_n 2, 1, (2, 0, 0), 0, []),
  (196, 163, .istore_n 3, 1, (3, 0, 0), 0, []),
  (196, 164, .aload_n 0, 1, (0, 0, 0), 0, []),
  (196, 165, .invokevirtual 390, 3, (168, 1, 0), 0, [(0, 1367)]),
  (196, 168, .iload_n 3, 1, (3, 0, 0), 0, []),
  (196, 169, .ireturn, 1, (0, 0, 0), 0, [])]
def rows_197 : List mRow := [
  (197, 0, .iload_n 1, 1, (1, 0, 0), 0, []),
  (197, 1, .iconst (-1), 1, (0, 0, 0), (-1), []),
  (197, 2, .if_icmp .ne 10, 3, (12, 0, 0), 0, []),
  (197, 5, .aload_n 0, 1, (0, 0, 0), 0, []),
  (197, 6, .iconst 0, 1, (0, 0, 0), 0, []),
  (197, 7, .putfield 153, 3, (9, 47, 0), 0, [(0, 960)]),
  (197, 10, .iconst 0, 1, (0, 0, 0), 0, []),
  (197, 11, .ireturn, 1, (0, 0, 0), 0, []),
  (197, 12, .aload_n 0, 1, (0, 0, 0), 0, []),
  (197, 13, .iload_n 1, 1, (1, 0, 0), 0, []),
  (197, 14, .invokevirtual 258, 3, (119, 2, 1), 0, [(0, 1167)]),
  (197, 17, .ifCond .ne 5, 3, (22, 0, 0), 0, []),
  (197, 20, .iconst (-1), 1, (0, 0, 0), (-1), []),
  (197, 21, .ireturn, 1, (0, 0, 0), 0, []),
  (197, 22, .aload_n 0, 1, (0, 0, 0), 0, []),
  (197, 23, .iload_n 2, 1, (2, 0, 0), 0, []),
  (197, 24, .iconst 0, 1, (0, 0, 0), 0, []),
  (197, 25, .sipush 999, 3, (0, 0, 0), 999, []),
  (197, 28, .invokevirtual 254, 3, (116, 4, 1), 0, [(0, 1159)]),
  (197, 31, .ifCond .ne 6, 3, (37, 0, 0), 0, []),
  (197, 34, .bipush (-2), 2, (0, 0, 0), (-2), []),
  (197, 36, .ireturn, 1, (0, 0, 0), 0, []),
  (197, 37, .aload_n 0, 1, (0, 0, 0), 0, []),
  (197, 38, .getfield 153, 3, (9, 47, 0), 0, [(0, 960)]),
  (197, 41, .bipush 8, 2, (0, 0, 0), 8, []),
  (197, 43, .if_icmp .ne 6, 3, (49, 0, 0), 0, []),
  (197, 46, .bipush (-4), 2, (0, 0, 0), (-4), []),
  (197, 48, .ireturn, 1, (0, 0, 0), 0, []),
  (197, 49, .aload_n 0, 1, (0, 0, 0), 0, []),
  (197, 50, .getfield 162, 3, (9, 50, 1), 0, [(0, 963)]),
  (197, 53, .aload_n 0, 1, (0, 0, 0), 0, []),
  (197, 54, .getfield 153, 3, (9, 47, 0), 0, [(0, 960)]),
  (197, 57, .iload_n 1, 1, (1, 0, 0), 0, []),
  (197, 58, .iastore, 1, (0, 0, 0), 0, []),
  (197, 59, .aload_n 0, 1, (0, 0, 0), 0, []),
  (197, 60, .getfield 165, 3, (9, 51, 1), 0, [(0, 964)]),
  (197, 63, .aload_n 0, 1, (0, 0, 0), 0, []),
  (197, 64, .getfield 153, 3, (9, 47, 0), 0, [(0, 960)]),
  (197, 67, .iload_n 2, 1, (2, 0, 0), 0, []),
  (197, 68, .iastore, 1, (0, 0, 0), 0, []),
  (197, 69, .aload_n 0, 1, (0, 0, 0), 0, []),
  (197, 70, .dup, 1, (0, 0, 0), 0, []),
  (197, 71, .getfield 153, 3, (9, 47, 0), 0, [(0, 960)]),
  (197, 74, .iconst 1, 1, (0, 0, 0), 1, []),
  (197, 75, .iadd, 1, (0, 0, 0), 0, []),
  (197, 76, .putfield 153, 3, (9, 47, 0), 0, [(0, 960)]),
  (197, 79, .aload_n 0, 1, (0, 0, 0), 0, []),
  (197, 80, .getfield 153, 3, (9, 47, 0), 0, [(0, 960)]),
  (197, 83, .ireturn, 1, (0, 0, 0), 0, [])]
def rows_198 : List mRow := [
  (198, 0, .iconst 0, 1, (0, 0, 0), 0, []),
  (198, 1, .istore_n 1, 1, (1, 0, 0), 0, []),
  (198, 2, .iload_n 1, 1, (1, 0, 0), 0, []),
  (198, 3, .aload_n 0, 1, (0, 0, 0), 0, []),
  (198, 4, .getfield 153, 3, (9, 47, 0), 0, [(0, 960)]),
  (198, 7, .if_icmp .ge 30, 3, (37, 0, 0), 0, []),
  (198, 10, .aload_n 0, 1, (0, 0, 0), 0, []),
  (198, 11, .aload_n 0, 1, (0, 0, 0), 0, []),
  (198, 12, .getfield 162, 3, (9, 50, 1), 0, [(0, 963)]),
  (198, 15, .iload_n 1, 1, (1, 0, 0), 0, []),
  (198, 16, .iaload, 1, (0, 0, 0), 0, []),
  (198, 17, .invokevirtual 366, 3, (159, 2, 1), 0, [(0, 1307)]),
  (198, 20, .aload_n 0, 1, (0, 0, 0), 0, []),
  (198, 21, .getfield 165, 3, (9, 51, 1), 0, [(0, 964)]),
  (198, 24, .iload_n 1, 1, (1, 0, 0), 0, []),
  (198, 25, .iaload, 1, (0, 0, 0), 0, []),
  (198, 26, .if_icmp .eq 5, 3, (31, 0, 0), 0, []),
  (198, 29, .iload_n 1, 1, (1, 0, 0), 0, []),
  (198, 30, .ireturn, 1, (0, 0, 0), 0, []),
  (198, 31, .iinc 1 1, 3, (1, 0, 0), 1, []),
  (198, 34, .goto (-32), 3, (2, 0, 0), 0, []),
  (198, 37, .bipush (-5), 2, (0, 0, 0), (-5), []),
  (198, 39, .ireturn, 1, (0, 0, 0), 0, [])]
def rows_199 : List mRow := [
  (199, 0, .aload_n 0, 1, (0, 0, 0), 0, []),
  (199, 1, .iload_n 1, 1, (1, 0, 0), 0, []),
  (199, 2, .invokevirtual 435, 3, (214, 2, 1), 0, [(0, 1492)]),
  (199, 5, .ifCond .ne 5, 3, (10, 0, 0), 0, []),
  (199, 8, .iconst (-1), 1, (0, 0, 0), (-1), []),
  (199, 9, .ireturn, 1, (0, 0, 0), 0, []),
  (199, 10, .aload_n 0, 1, (0, 0, 0), 0, []),
  (199, 11, .getfield 241, 3, (9, 76, 1), 0, [(0, 989)]),
  (199, 14, .iload_n 1, 1, (1, 0, 0), 0, []),
  (199, 15, .iaload, 1, (0, 0, 0), 0, []),
  (199, 16, .ifCond .lt 16, 3, (32, 0, 0), 0, []),
  (199, 19, .aload_n 0, 1, (0, 0, 0), 0, []),
  (199, 20, .getfield 241, 3, (9, 76, 1), 0, [(0, 989)]),
  (199, 23, .iload_n 1, 1, (1, 0, 0), 0, []),
  (199, 24, .iaload, 1, (0, 0, 0), 0, []),
  (199, 25, .iconst 2, 1, (0, 0, 0), 2, []),
  (199, 26, .if_icmp .eq 6, 3, (32, 0, 0), 0, []),
  (199, 29, .bipush (-12), 2, (0, 0, 0), (-12), []),
  (199, 31, .ireturn, 1, (0, 0, 0), 0, []),
  (199, 32, .iconst 0, 1, (0, 0, 0), 0, []),
  (199, 33, .istore_n 3, 1, (3, 0, 0), 0, []),
  (199, 34, .iload_n 3, 1, (3, 0, 0), 0, []),
  (199, 35, .aload_n 0, 1, (0, 0, 0), 0, []),
  (199, 36, .getfield 7, 3, (9, 0, 0), 0, [(0, 913)]),
  (199, 39, .if_icmp .ge 66, 3, (105, 0, 0), 0, []),
  (199, 42, .aload_n 0, 1, (0, 0, 0), 0, []),
  (199, 43, .getfield 241, 3, (9, 76, 1), 0, [(0, 989)]),
  (199, 46, .iload_n 1, 1, (1, 0, 0), 0, []),
  (199, 47, .iaload, 1, (0, 0, 0), 0, []),
  (199, 48, .ifCond .lt 21, 3, (69, 0, 0), 0, []),
  (199, 51, .iload_n 2, 1, (2, 0, 0), 0, []),
  (199, 52, .ifCond .lt 17, 3, (69, 0, 0), 0, []),
  (199, 55, .iload_n 2, 1, (2, 0, 0), 0, []),
  (199, 56, .aload_n 0, 1, (0, 0, 0), 0, []),
  (199, 57, .getfield 244, 3, (9, 77, 1), 0, [(0, 990)]),
  (199, 60, .iload_n 1, 1, (1, 0, 0), 0, []),
  (199, 61, .iaload, 1, (0, 0, 0), 0, []),
  (199, 62, .iload_n 3, 1, (3, 0, 0), 0, []),
  (199, 63, .isub, 1, (0, 0, 0), 0, []),
  (199, 64, .iconst 1, 1, (0, 0, 0), 1, []),
  (199, 65, .isub, 1, (0, 0, 0), 0, []),
  (199, 66, .if_icmp .le 8, 3, (74, 0, 0), 0, []),
  (199, 69, .bipush 100, 2, (0, 0, 0), 100, []),
  (199, 71, .iload_n 3, 1, (3, 0, 0), 0, []),
  (199, 72, .iadd, 1, (0, 0, 0), 0, []),
  (199, 73, .ireturn, 1, (0, 0, 0), 0, []),
  (199, 74, .aload_n 0, 1, (0, 0, 0), 0, []),
  (199, 75, .getfield 247, 3, (9, 78, 1), 0, [(0, 991)]),
  (199, 78, .bipush 60, 2, (0, 0, 0), 60, []),
  (199, 80, .iload_n 1, 1, (1, 0, 0), 0, []),
  (199, 81, .imul, 1, (0, 0, 0), 0, []),
  (199, 82, .iload_n 2, 1, (2, 0, 0), 0, []),
  (199, 83, .iadd, 1, (0, 0, 0), 0, []),
  (199, 84, .iload_n 3, 1, (3, 0, 0), 0, []),
  (199, 85, .iadd, 1, (0, 0, 0), 0, []),
  (199, 86, .laload, 1, (0, 0, 0), 0, []),
  (199, 87, .aload_n 0, 1, (0, 0, 0), 0, []),
  (199, 88, .iload_n 3, 1, (3, 0, 0), 0, []),
  (199, 89, .invokevirtual 366, 3, (159, 2, 1), 0, [(0, 1307)]),
  (199, 92, .i2l, 1, (0, 0, 0), 0, []),
  (199, 93, .lcmp, 1, (0, 0, 0), 0, []),
  (199, 94, .ifCond .eq 5, 3, (99, 0, 0), 0, []),
  (199, 97, .iload_n 3, 1, (3, 0, 0), 0, []),
  (199, 98, .ireturn, 1, (0, 0, 0), 0, []),
  (199, 99, .iinc 3 1, 3, (3, 0, 0), 1, []),
  (199, 102, .goto (-68), 3, (34, 0, 0), 0, []),
  (199, 105, .bipush (-5), 2, (0, 0, 0), (-5), []),
  (199, 107, .ireturn, 1, (0, 0, 0), 0, [])]
def rows_200 : List mRow := [
  (200, 0, .aload_n 0, 1, (0, 0, 0), 0, []),
  (200, 1, .iconst 1, 1, (0, 0, 0), 1, []),
  (200, 2, .putfield 168, 3, (9, 52, 2), 0, [(0, 965)]),
  (200, 5, .aload_n 0, 1, (0, 0, 0), 0, []),
  (200, 6, .aload_n 0, 1, (0, 0, 0), 0, []),
  (200, 7, .getfield 41, 3, (9, 10, 0), 0, [(0, 923)]),
  (200, 10, .putfield 172, 3, (9, 53, 0), 0, [(0, 966)]),
  (200, 13, .aload_n 0, 1, (0, 0, 0), 0, []),
  (200, 14, .aload_n 0, 1, (0, 0, 0), 0, []),
  (200, 15, .getfield 7, 3, (9, 0, 0), 0, [(0, 913)]),
  (200, 18, .putfield 175, 3, (9, 54, 0), 0, [(0, 967)]),
  (200, 21, .aload_n 0, 1, (0, 0, 0), 0, []),
  (200, 22, .aload_n 0, 1, (0, 0, 0), 0, []),
  (200, 23, .getfield 13, 3, (9, 1, 0), 0, [(0, 914)]),
  (200, 26, .putfield 178, 3, (9, 55, 0), 0, [(0, 968)]),
  (200, 29, .aload_n 0, 1, (0, 0, 0), 0, []),
  (200, 30, .aload_n 0, 1, (0, 0, 0), 0, []),
  (200, 31, .getfield 16, 3, (9, 2, 0), 0, [(0, 915)]),
  (200, 34, .putfield 181, 3, (9, 56, 0), 0, [(0, 969)]),
  (200, 37, .aload_n 0, 1, (0, 0, 0), 0, []),
  (200, 38, .aload_n 0, 1, (0, 0, 0), 0, []),
  (200, 39, .getfield 19, 3, (9, 3, 0), 0, [(0, 916)]),
  (200, 42, .putfield 184, 3, (9, 57, 0), 0, [(0, 970)]),
  (200, 45, .aload_n 0, 1, (0, 0, 0), 0, []),
  (200, 46, .aload_n 0, 1, (0, 0, 0), 0, []),
  (200, 47, .getfield 135, 3, (9, 41, 0), 0, [(0, 954)]),
  (200, 50, .putfield 187, 3, (9, 58, 0), 0, [(0, 971)]),
  (200, 53, .aload_n 0, 1, (0, 0, 0), 0, []),
  (200, 54, .aload_n 0, 1, (0, 0, 0), 0, []),
  (200, 55, .getfield 150, 3, (9, 46, 0), 0, [(0, 959)]),
  (200, 58, .putfield 190, 3, (9, 59, 0), 0, [(0, 972)]),
  (200, 61, .aload_n 0, 1, (0, 0, 0), 0, []),
  (200, 62, .aload_n 0, 1, (0, 0, 0), 0, []),
  (200, 63, .getfield 153, 3, (9, 47, 0), 0, [(0, 960)]),
  (200, 66, .putfield 193, 3, (9, 60, 0), 0, [(0, 973)]),
  (200, 69, .iconst 0, 1, (0, 0, 0), 0, []),
  (200, 70, .istore_n 1, 1, (1, 0, 0), 0, []),
  (200, 71, .iload_n 1, 1, (1, 0, 0), 0, []),
  (200, 72, .bipush 6, 2, (0, 0, 0), 6, []),
  (200, 74, .if_icmp .ge 93, 3, (167, 0, 0), 0, []),
  (200, 77, .aload_n 0, 1, (0, 0, 0), 0, []),
  (200, 78, .getfield 196, 3, (9, 61, 1), 0, [(0, 974)]),
  (200, 81, .iload_n 1, 1, (1, 0, 0), 0, []),
  (200, 82, .aload_n 0, 1, (0, 0, 0), 0, []),
  (200, 83, .getfield 22, 3, (9, 4, 1), 0, [(0, 917)]),
  (200, 86, .iload_n 1, 1, (1, 0, 0), 0, []),
  (200, 87, .iaload, 1, (0, 0, 0), 0, []),
  (200, 88, .iastore, 1, (0, 0, 0), 0, []),
  (200, 89, .aload_n 0, 1, (0, 0, 0), 0, []),
  (200, 90, .getfield 199, 3, (9, 62, 1), 0, [(0, 975)]),
  (200, 93, .iload_n 1, 1, (1, 0, 0), 0, []),
  (200, 94, .aload_n 0, 1, (0, 0, 0), 0, []),
  (200, 95, .getfield 26, 3, (9, 5, 1), 0, [(0, 918)]),
  (200, 98, .iload_n 1, 1, (1, 0, 0), 0, []),
  (200, 99, .iaload, 1, (0, 0, 0), 0, []),
  (200, 100, .iastore, 1, (0, 0, 0), 0, []),
  (200, 101, .aload_n 0, 1, (0, 0, 0), 0, []),
  (200, 102, .getfield 202, 3, (9, 63, 1), 0, [(0, 976)]),
  (200, 105, .iload_n 1, 1, (1, 0, 0), 0, []),
  (200, 106, .aload_n 0, 1, (0, 0, 0), 0, []),
  (200, 107, .getfield 29, 3, (9, 6, 1), 0, [(0, 919)]),
  (200, 110, .iload_n 1, 1, (1, 0, 0), 0, []),
  (200, 111, .iaload, 1, (0, 0, 0), 0, []),
  (200, 112, .iastore, 1, (0, 0, 0), 0, []),
  (200, 113, .aload_n 0, 1, (0, 0, 0), 0, []),
  (200, 114, .getfield 211, 3, (9, 66, 1), 0, [(0, 979)]),
  (200, 117, .iload_n 1, 1, (1, 0, 0), 0, []),
  (200, 118, .aload_n 0, 1, (0, 0, 0), 0, []),
  (200, 119, .getfield 138, 3, (9, 42, 1), 0, [(0, 955)]),
  (200, 122, .iload_n 1, 1, (1, 0, 0), 0, []),
  (200, 123, .iaload, 1, (0, 0, 0), 0, []),
  (200, 124, .iastore, 1, (0, 0, 0), 0, []),
  (200, 125, .aload_n 0, 1, (0, 0, 0), 0, []),
  (200, 126, .getfield 214, 3, (9, 67, 1), 0, [(0, 980)]),
  (200, 129, .iload_n 1, 1, (1, 0, 0), 0, []),
  (200, 130, .aload_n 0, 1, (0, 0, 0), 0, []),
  (200, 131, .getfield 141, 3, (9, 43, 1), 0, [(0, 956)]),
  (200, 134, .iload_n 1, 1, (1, 0, 0), 0, []),
  (200, 135, .iaload, 1, (0, 0, 0), 0, []),
  (200, 136, .iastore, 1, (0, 0, 0), 0, []),
  (200, 137, .aload_n 0, 1, (0, 0, 0), 0, []),
  (200, 138, .getfield 217, 3, (9, 68, 1), 0, [(0, 981)]),
  (200, 141, .iload_n 1, 1, (1, 0, 0), 0, []),
  (200, 142, .aload_n 0, 1, (0, 0, 0), 0, []),
  (200, 143, .getfield 144, 3, (9, 44, 1), 0, [(0, 957)]),
  (200, 146, .iload_n 1, 1, (1, 0, 0), 0, []),
  (200, 147, .iaload, 1, (0, 0, 0), 0, []),
  (200, 148, .iastore, 1, (0, 0, 0), 0, []),
  (200, 149, .aload_n 0, 1, (0, 0, 0), 0, []),
  (200, 150, .getfield 232, 3, (9, 73, 1), 0, [(0, 986)]),
  (200, 153, .iload_n 1, 1, (1, 0, 0), 0, []),
  (200, 154, .aload_n 0, 1, (0, 0, 0), 0, []),
  (200, 155, .getfield 147, 3, (9, 45, 1), 0, [(0, 958)]),
  (200, 158, .iload_n 1, 1, (1, 0, 0), 0, []),
  (200, 159, .baload, 1, (0, 0, 0), 0, []),
  (200, 160, .bastore, 1, (0, 0, 0), 0, []),
  (200, 161, .iinc 1 1, 3, (1, 0, 0), 1, []),
  (200, 164, .goto (-93), 3, (71, 0, 0), 0, []),
  (200, 167, .iconst 0, 1, (0, 0, 0), 0, []),
  (200, 168, .istore_n 1, 1, (1, 0, 0), 0, []),
  (200, 169, .iload_n 1, 1, (1, 0, 0), 0, []),
  (200, 170, .bipush 36, 2, (0, 0, 0), 36, []),
  (200, 172, .if_icmp .ge 21, 3, (193, 0, 0), 0, []),
  (200, 175, .aload_n 0, 1, (0, 0, 0), 0, []),
  (200, 176, .getfield 205, 3, (9, 64, 1), 0, [(0, 977)]),
  (200, 179, .iload_n 1, 1, (1, 0, 0), 0, []),
  (200, 180, .aload_n 0, 1, (0, 0, 0), 0, []),
  (200, 181, .getfield 32, 3, (9, 7, 1), 0, [(0, 920)]),
  (200, 184, .iload_n 1, 1, (1, 0, 0), 0, []),
  (200, 185, .iaload, 1, (0, 0, 0), 0, []),
  (200, 186, .iastore, 1, (0, 0, 0), 0, []),
  (200, 187, .iinc 1 1, 3, (1, 0, 0), 1, []),
  (200, 190, .goto (-21), 3, (169, 0, 0), 0, []),
  (200, 193, .iconst 0, 1, (0, 0, 0), 0, []),
  (200, 194, .istore_n 1, 1, (1, 0, 0), 0, []),
  (200, 195, .iload_n 1, 1, (1, 0, 0), 0, []),
  (200, 196, .bipush 24, 2, (0, 0, 0), 24, []),
  (200, 198, .if_icmp .ge 21, 3, (219, 0, 0), 0, []),
  (200, 201, .aload_n 0, 1, (0, 0, 0), 0, []),
  (200, 202, .getfield 208, 3, (9, 65, 1), 0, [(0, 978)]),
  (200, 205, .iload_n 1, 1, (1, 0, 0), 0, []),
  (200, 206, .aload_n 0, 1, (0, 0, 0), 0, []),
  (200, 207, .getfield 35, 3, (9, 8, 1), 0, [(0, 921)]),
  (200, 210, .iload_n 1, 1, (1, 0, 0), 0, []),
  (200, 211, .iaload, 1, (0, 0, 0), 0, []),
  (200, 212, .iastore, 1, (0, 0, 0), 0, []),
  (200, 213, .iinc 1 1, 3, (1, 0, 0), 1, []),
  (200, 216, .goto (-21), 3, (195, 0, 0), 0, []),
  (200, 219, .iconst 0, 1, (0, 0, 0), 0, []),
  (200, 220, .istore_n 1, 1, (1, 0, 0), 0, []),
  (200, 221, .iload_n 1, 1, (1, 0, 0), 0, []),
  (200, 222, .bipush 10, 2, (0, 0, 0), 10, []),
  (200, 224, .if_icmp .ge 33, 3, (257, 0, 0), 0, []),
  (200, 227, .aload_n 0, 1, (0, 0, 0), 0, []),
  (200, 228, .getfield 220, 3, (9, 69, 1), 0, [(0, 982)]),
  (200, 231, .iload_n 1, 1, (1, 0, 0), 0, []),
  (200, 232, .aload_n 0, 1, (0, 0, 0), 0, []),
  (200, 233, .getfield 156, 3, (9, 48, 1), 0, [(0, 961)]),
  (200, 236, .iload_n 1, 1, (1, 0, 0), 0, []),
  (200, 237, .iaload, 1, (0, 0, 0), 0, []),
  (200, 238, .iastore, 1, (0, 0, 0), 0, []),
  (200, 239, .aload_n 0, 1, (0, 0, 0), 0, []),
  (200, 240, .getfield 223, 3, (9, 70, 1), 0, [(0, 983)]),
  (200, 243, .iload_n 1, 1, (1, 0, 0), 0, []),
  (200, 244, .aload_n 0, 1, (0, 0, 0), 0, []),
  (200, 245, .getfield 159, 3, (9, 49, 1), 0, [(0, 962)]),
  (200, 248, .iload_n 1, 1, (1, 0, 0), 0, []),
  (200, 249, .iaload, 1, (0, 0, 0), 0, []),
  (200, 250, .iastore, 1, (0, 0, 0), 0, []),
  (200, 251, .iinc 1 1, 3, (1, 0, 0), 1, []),
  (200, 254, .goto (-33), 3, (221, 0, 0), 0, []),
  (200, 257, .iconst 0, 1, (0, 0, 0), 0, []),
  (200, 258, .istore_n 1, 1, (1, 0, 0), 0, []),
  (200, 259, .iload_n 1, 1, (1, 0, 0), 0, []),
  (200, 260, .bipush 8, 2, (0, 0, 0), 8, []),
  (200, 262, .if_icmp .ge 33, 3, (295, 0, 0), 0, []),
  (200, 265, .aload_n 0, 1, (0, 0, 0), 0, []),
  (200, 266, .getfield 226, 3, (9, 71, 1), 0, [(0, 984)]),
  (200, 269, .iload_n 1, 1, (1, 0, 0), 0, []),
  (200, 270, .aload_n 0, 1, (0, 0, 0), 0, []),
  (200, 271, .getfield 162, 3, (9, 50, 1), 0, [(0, 963)]),
  (200, 274, .iload_n 1, 1, (1, 0, 0), 0, []),
  (200, 275, .iaload, 1, (0, 0, 0), 0, []),
  (200, 276, .iastore, 1, (0, 0, 0), 0, []),
  (200, 277, .aload_n 0, 1, (0, 0, 0), 0, []),
  (200, 278, .getfield 229, 3, (9, 72, 1), 0, [(0, 985)]),
  (200, 281, .iload_n 1, 1, (1, 0, 0), 0, []),
  (200, 282, .aload_n 0, 1, (0, 0, 0), 0, []),
  (200, 283, .getfield 165, 3, (9, 51, 1), 0, [(0, 964)]),
  (200, 286, .iload_n 1, 1, (1, 0, 0), 0, []),
  (200, 287, .iaload, 1, (0, 0, 0), 0, []),
  (200, 288, .iastore, 1, (0, 0, 0), 0, []),
  (200, 289, .iinc 1 1, 3, (1, 0, 0), 1, []),
  (200, 292, .goto (-33), 3, (259, 0, 0), 0, []),
  (200, 295, .aload_n 0, 1, (0, 0, 0), 0, []),
  (200, 296, .getfield 7, 3, (9, 0, 0), 0, [(0, 913)]),
  (200, 299, .ireturn, 1, (0, 0, 0), 0, [])]
def rows_201 : List mRow := [
  (201, 0, .aload_n 0, 1, (0, 0, 0), 0, []),
  (201, 1, .getfield 168, 3, (9, 52, 0), 0, [(0, 965)]),
  (201, 4, .ifCond .ne 6, 3, (10, 0, 0), 0, []),
  (201, 7, .bipush (-3), 2, (0, 0, 0), (-3), []),
  (201, 9, .ireturn, 1, (0, 0, 0), 0, []),
  (201, 10, .aload_n 0, 1, (0, 0, 0), 0, []),
  (201, 11, .aload_n 0, 1, (0, 0, 0), 0, []),
  (201, 12, .getfield 172, 3, (9, 53, 0), 0, [(0, 966)]),
  (201, 15, .putfield 41, 3, (9, 10, 0), 0, [(0, 923)]),
  (201, 18, .aload_n 0, 1, (0, 0, 0), 0, []),
  (201, 19, .aload_n 0, 1, (0, 0, 0), 0, []),
  (201, 20, .getfield 175, 3, (9, 54, 0), 0, [(0, 967)]),
  (201, 23, .putfield 7, 3, (9, 0, 0), 0, [(0, 913)]),
  (201, 26, .aload_n 0, 1, (0, 0, 0), 0, []),
  (201, 27, .aload_n 0, 1, (0, 0, 0), 0, []),
  (201, 28, .getfield 178, 3, (9, 55, 0), 0, [(0, 968)]),
  (201, 31, .putfield 13, 3, (9, 1, 0), 0, [(0, 914)]),
  (201, 34, .aload_n 0, 1, (0, 0, 0), 0, []),
  (201, 35, .aload_n 0, 1, (0, 0, 0), 0, []),
  (201, 36, .getfield 181, 3, (9, 56, 0), 0, [(0, 969)]),
  (201, 39, .putfield 16, 3, (9, 2, 0), 0, [(0, 915)]),
  (201, 42, .aload_n 0, 1, (0, 0, 0), 0, []),
  (201, 43, .aload_n 0, 1, (0, 0, 0), 0, []),
  (201, 44, .getfield 184, 3, (9, 57, 0), 0, [(0, 970)]),
  (201, 47, .putfield 19, 3, (9, 3, 0), 0, [(0, 916)]),
  (201, 50, .aload_n 0, 1, (0, 0, 0), 0, []),
  (201, 51, .aload_n 0, 1, (0, 0, 0), 0, []),
  (201, 52, .getfield 187, 3, (9, 58, 0), 0, [(0, 971)]),
  (201, 55, .putfield 135, 3, (9, 41, 0), 0, [(0, 954)]),
  (201, 58, .aload_n 0, 1, (0, 0, 0), 0, []),
  (201, 59, .aload_n 0, 1, (0, 0, 0), 0, []),
  (201, 60, .getfield 190, 3, (9, 59, 0), 0, [(0, 972)]),
  (201, 63, .putfield 150, 3, (9, 46, 0), 0, [(0, 959)]),
  (201, 66, .aload_n 0, 1, (0, 0, 0), 0, []),
  (201, 67, .aload_n 0, 1, (0, 0, 0), 0, []),
  (201, 68, .getfield 193, 3, (9, 60, 0), 0, [(0, 973)]),
  (201, 71, .putfield 153, 3, (9, 47, 0), 0, [(0, 960)]),
  (201, 74, .iconst 0, 1, (0, 0, 0), 0, []),
  (201, 75, .istore_n 1, 1, (1, 0, 0), 0, []),
  (201, 76, .iload_n 1, 1, (1, 0, 0), 0, []),
  (201, 77, .bipush 6, 2, (0, 0, 0), 6, []),
  (201, 79, .if_icmp .ge 93, 3, (172, 0, 0), 0, []),
  (201, 82, .aload_n 0, 1, (0, 0, 0), 0, []),
  (201, 83, .getfield 22, 3, (9, 4, 1), 0, [(0, 917)]),
  (201, 86, .iload_n 1, 1, (1, 0, 0), 0, []),
  (201, 87, .aload_n 0, 1, (0, 0, 0), 0, []),
  (201, 88, .getfield 196, 3, (9, 61, 1), 0, [(0, 974)]),
  (201, 91, .iload_n 1, 1, (1, 0, 0), 0, []),
  (201, 92, .iaload, 1, (0, 0, 0), 0, []),
  (201, 93, .iastore, 1, (0, 0, 0), 0, []),
  (201, 94, .aload_n 0, 1, (0, 0, 0), 0, []),
  (201, 95, .getfield 26, 3, (9, 5, 1), 0, [(0, 918)]),
  (201, 98, .iload_n 1, 1, (1, 0, 0), 0, []),
  (201, 99, .aload_n 0, 1, (0, 0, 0), 0, []),
  (201, 100, .getfield 199, 3, (9, 62, 1), 0, [(0, 975)]),
  (201, 103, .iload_n 1, 1, (1, 0, 0), 0, []),
  (201, 104, .iaload, 1, (0, 0, 0), 0, []),
  (201, 105, .iastore, 1, (0, 0, 0), 0, []),
  (201, 106, .aload_n 0, 1, (0, 0, 0), 0, []),
  (201, 107, .getfield 29, 3, (9, 6, 1), 0, [(0, 919)]),
  (201, 110, .iload_n 1, 1, (1, 0, 0), 0, []),
  (201, 111, .aload_n 0, 1, (0, 0, 0), 0, []),
  (201, 112, .getfield 202, 3, (9, 63, 1), 0, [(0, 976)]),
  (201, 115, .iload_n 1, 1, (1, 0, 0), 0, []),
  (201, 116, .iaload, 1, (0, 0, 0), 0, []),
  (201, 117, .iastore, 1, (0, 0, 0), 0, []),
  (201, 118, .aload_n 0, 1, (0, 0, 0), 0, []),
  (201, 119, .getfield 138, 3, (9, 42, 1), 0, [(0, 955)]),
  (201, 122, .iload_n 1, 1, (1, 0, 0), 0, []),
  (201, 123, .aload_n 0, 1, (0, 0, 0), 0, []),
  (201, 124, .getfield 211, 3, (9, 66, 1), 0, [(0, 979)]),
  (201, 127, .iload_n 1, 1, (1, 0, 0), 0, []),
  (201, 128, .iaload, 1, (0, 0, 0), 0, []),
  (201, 129, .iastore, 1, (0, 0, 0), 0, []),
  (201, 130, .aload_n 0, 1, (0, 0, 0), 0, []),
  (201, 131, .getfield 141, 3, (9, 43, 1), 0, [(0, 956)]),
  (201, 134, .iload_n 1, 1, (1, 0, 0), 0, []),
  (201, 135, .aload_n 0, 1, (0, 0, 0), 0, []),
  (201, 136, .getfield 214, 3, (9, 67, 1), 0, [(0, 980)]),
  (201, 139, .iload_n 1, 1, (1, 0, 0), 0, []),
  (201, 140, .iaload, 1, (0, 0, 0), 0, []),
  (201, 141, .iastore, 1, (0, 0, 0), 0, []),
  (201, 142, .aload_n 0, 1, (0, 0, 0), 0, []),
  (201, 143, .getfield 144, 3, (9, 44, 1), 0, [(0, 957)]),
  (201, 146, .iload_n 1, 1, (1, 0, 0), 0, []),
  (201, 147, .aload_n 0, 1, (0, 0, 0), 0, []),
  (201, 148, .getfield 217, 3, (9, 68, 1), 0, [(0, 981)]),
  (201, 151, .iload_n 1, 1, (1, 0, 0), 0, []),
  (201, 152, .iaload, 1, (0, 0, 0), 0, []),
  (201, 153, .iastore, 1, (0, 0, 0), 0, []),
  (201, 154, .aload_n 0, 1, (0, 0, 0), 0, []),
  (201, 155, .getfield 147, 3, (9, 45, 1), 0, [(0, 958)]),
  (201, 158, .iload_n 1, 1, (1, 0, 0), 0, []),
  (201, 159, .aload_n 0, 1, (0, 0, 0), 0, []),
  (201, 160, .getfield 232, 3, (9, 73, 1), 0, [(0, 986)]),
  (201, 163, .iload_n 1, 1, (1, 0, 0), 0, []),
  (201, 164, .baload, 1, (0, 0, 0), 0, []),
  (201, 165, .bastore, 1, (0, 0, 0), 0, []),
  (201, 166, .iinc 1 1, 3, (1, 0, 0), 1, []),
  (201, 169, .goto (-93), 3, (76, 0, 0), 0, []),
  (201, 172, .iconst 0, 1, (0, 0, 0), 0, []),
  (201, 173, .istore_n 1, 1, (1, 0, 0), 0, []),
  (201, 174, .iload_n 1, 1, (1, 0, 0), 0, []),
  (201, 175, .bipush 36, 2, (0, 0, 0), 36, []),
  (201, 177, .if_icmp .ge 21, 3, (198, 0, 0), 0, []),
  (201, 180, .aload_n 0, 1, (0, 0, 0), 0, []),
  (201, 181, .getfield 32, 3, (9, 7, 1), 0, [(0, 920)]),
  (201, 184, .iload_n 1, 1, (1, 0, 0), 0, []),
  (201, 185, .aload_n 0, 1, (0, 0, 0), 0, []),
  (201, 186, .getfield 205, 3, (9, 64, 1), 0, [(0, 977)]),
  (201, 189, .iload_n 1, 1, (1, 0, 0), 0, []),
  (201, 190, .iaload, 1, (0, 0, 0), 0, []),
  (201, 191, .iastore, 1, (0, 0, 0), 0, []),
  (201, 192, .iinc 1 1, 3, (1, 0, 0), 1, []),
  (201, 195, .goto (-21), 3, (174, 0, 0), 0, []),
  (201, 198, .iconst 0, 1, (0, 0, 0), 0, []),
  (201, 199, .istore_n 1, 1, (1, 0, 0), 0, []),
  (201, 200, .iload_n 1, 1, (1, 0, 0), 0, []),
  (201, 201, .bipush 24, 2, (0, 0, 0), 24, []),
  (201, 203, .if_icmp .ge 21, 3, (224, 0, 0), 0, []),
  (201, 206, .aload_n 0, 1, (0, 0, 0), 0, []),
  (201, 207, .getfield 35, 3, (9, 8, 1), 0, [(0, 921)]),
  (201, 210, .iload_n 1, 1, (1, 0, 0), 0, []),
  (201, 211, .aload_n 0, 1, (0, 0, 0), 0, []),
  (201, 212, .getfield 208, 3, (9, 65, 1), 0, [(0, 978)]),
  (201, 215, .iload_n 1, 1, (1, 0, 0), 0, []),
  (201, 216, .iaload, 1, (0, 0, 0), 0, []),
  (201, 217, .iastore, 1, (0, 0, 0), 0, []),
  (201, 218, .iinc 1 1, 3, (1, 0, 0), 1, []),
  (201, 221, .goto (-21), 3, (200, 0, 0), 0, []),
  (201, 224, .iconst 0, 1, (0, 0, 0), 0, []),
  (201, 225, .istore_n 1, 1, (1, 0, 0), 0, []),
  (201, 226, .iload_n 1, 1, (1, 0, 0), 0, []),
  (201, 227, .bipush 10, 2, (0, 0, 0), 10, []),
  (201, 229, .if_icmp .ge 33, 3, (262, 0, 0), 0, []),
  (201, 232, .aload_n 0, 1, (0, 0, 0), 0, []),
  (201, 233, .getfield 156, 3, (9, 48, 1), 0, [(0, 961)]),
  (201, 236, .iload_n 1, 1, (1, 0, 0), 0, []),
  (201, 237, .aload_n 0, 1, (0, 0, 0), 0, []),
  (201, 238, .getfield 220, 3, (9, 69, 1), 0, [(0, 982)]),
  (201, 241, .iload_n 1, 1, (1, 0, 0), 0, []),
  (201, 242, .iaload, 1, (0, 0, 0), 0, []),
  (201, 243, .iastore, 1, (0, 0, 0), 0, []),
  (201, 244, .aload_n 0, 1, (0, 0, 0), 0, []),
  (201, 245, .getfield 159, 3, (9, 49, 1), 0, [(0, 962)]),
  (201, 248, .iload_n 1, 1, (1, 0, 0), 0, []),
  (201, 249, .aload_n 0, 1, (0, 0, 0), 0, []),
  (201, 250, .getfield 223, 3, (9, 70, 1), 0, [(0, 983)]),
  (201, 253, .iload_n 1, 1, (1, 0, 0), 0, []),
  (201, 254, .iaload, 1, (0, 0, 0), 0, []),
  (201, 255, .iastore, 1, (0, 0, 0), 0, []),
  (201, 256, .iinc 1 1, 3, (1, 0, 0), 1, []),
  (201, 259, .goto (-33), 3, (226, 0, 0), 0, []),
  (201, 262, .iconst 0, 1, (0, 0, 0), 0, []),
  (201, 263, .istore_n 1, 1, (1, 0, 0), 0, []),
  (201, 264, .iload_n 1, 1, (1, 0, 0), 0, []),
  (201, 265, .bipush 8, 2, (0, 0, 0), 8, []),
  (201, 267, .if_icmp .ge 33, 3, (300, 0, 0), 0, []),
  (201, 270, .aload_n 0, 1, (0, 0, 0), 0, []),
  (201, 271, .getfield 162, 3, (9, 50, 1), 0, [(0, 963)]),
  (201, 274, .iload_n 1, 1, (1, 0, 0), 0, []),
  (201, 275, .aload_n 0, 1, (0, 0, 0), 0, []),
  (201, 276, .getfield 226, 3, (9, 71, 1), 0, [(0, 984)]),
  (201, 279, .iload_n 1, 1, (1, 0, 0), 0, []),
  (201, 280, .iaload, 1, (0, 0, 0), 0, []),
  (201, 281, .iastore, 1, (0, 0, 0), 0, []),
  (201, 282, .aload_n 0, 1, (0, 0, 0), 0, []),
  (201, 283, .getfield 165, 3, (9, 51, 1), 0, [(0, 964)]),
  (201, 286, .iload_n 1, 1, (1, 0, 0), 0, []),
  (201, 287, .aload_n 0, 1, (0, 0, 0), 0, []),
  (201, 288, .getfield 229, 3, (9, 72, 1), 0, [(0, 985)]),
  (201, 291, .iload_n 1, 1, (1, 0, 0), 0, []),
  (201, 292, .iaload, 1, (0, 0, 0), 0, []),
  (201, 293, .iastore, 1, (0, 0, 0), 0, []),
  (201, 294, .iinc 1 1, 3, (1, 0, 0), 1, []),
  (201, 297, .goto (-33), 3, (264, 0, 0), 0, []),
  (201, 300, .aload_n 0, 1, (0, 0, 0), 0, []),
  (201, 301, .getfield 7, 3, (9, 0, 0), 0, [(0, 913)]),
  (201, 304, .ireturn, 1, (0, 0, 0), 0, [])]
def rows_202 : List mRow := [
  (202, 0, .aload_n 0, 1, (0, 0, 0), 0, []),
  (202, 1, .getfield 235, 3, (9, 74, 0), 0, [(0, 987)]),
  (202, 4, .bipush 20, 2, (0, 0, 0), 20, []),
  (202, 6, .if_icmp .ge 13, 3, (19, 0, 0), 0, []),
  (202, 9, .aload_n 0, 1, (0, 0, 0), 0, []),
  (202, 10, .getfield 238, 3, (9, 75, 1), 0, [(0, 988)]),
  (202, 13, .aload_n 0, 1, (0, 0, 0), 0, []),
  (202, 14, .getfield 235, 3, (9, 74, 0), 0, [(0, 987)]),
  (202, 17, .iload_n 1, 1, (1, 0, 0), 0, []),
  (202, 18, .iastore, 1, (0, 0, 0), 0, []),
  (202, 19, .aload_n 0, 1, (0, 0, 0), 0, []),
  (202, 20, .dup, 1, (0, 0, 0), 0, []),
  (202, 21, .getfield 235, 3, (9, 74, 0), 0, [(0, 987)]),
  (202, 24, .iconst 1, 1, (0, 0, 0), 1, []),
  (202, 25, .iadd, 1, (0, 0, 0), 0, []),
  (202, 26, .putfield 235, 3, (9, 74, 0), 0, [(0, 987)]),
  (202, 29, .return_, 1, (0, 0, 0), 0, [])]
def rows_203 : List mRow := [
  (203, 0, .aload_n 0, 1, (0, 0, 0), 0, []),
  (203, 1, .bipush 10, 2, (0, 0, 0), 10, []),
  (203, 3, .invokevirtual 438, 3, (202, 2, 0), 0, [(0, 1512)]),
  (203, 6, .iload_n 2, 1, (2, 0, 0), 0, []),
  (203, 7, .iload_n 1, 1, (1, 0, 0), 0, []),
  (203, 8, .iadd, 1, (0, 0, 0), 0, []),
  (203, 9, .ireturn, 1, (0, 0, 0), 0, [])]
def rows_204 : List mRow := [
  (204, 0, .aload_n 0, 1, (0, 0, 0), 0, []),
  (204, 1, .getfield 22, 3, (9, 4, 1), 0, [(0, 917)]),
  (204, 4, .iload_n 1, 1, (1, 0, 0), 0, []),
  (204, 5, .iaload, 1, (0, 0, 0), 0, []),
  (204, 6, .tableswitch 83 2 6 #[34, 83, 49, 34, 63], 34, (89, 0, 0), 0, [(2, 40), (3, 89), (4, 55), (5, 40), (6, 69)]),
  (204, 40, .aload_n 0, 1, (0, 0, 0), 0, []),
  (204, 41, .bipush 30, 2, (0, 0, 0), 30, []),
  (204, 43, .invokevirtual 438, 3, (202, 2, 0), 0, [(0, 1512)]),
  (204, 46, .aload_n 0, 1, (0, 0, 0), 0, []),
  (204, 47, .iload_n 1, 1, (1, 0, 0), 0, []),
  (204, 48, .iload_n 2, 1, (2, 0, 0), 0, []),
  (204, 49, .iconst 3, 1, (0, 0, 0), 3, []),
  (204, 50, .imul, 1, (0, 0, 0), 0, []),
  (204, 51, .invokevirtual 441, 3, (203, 3, 1), 0, [(0, 1516)]),
  (204, 54, .ireturn, 1, (0, 0, 0), 0, []),
  (204, 55, .aload_n 0, 1, (0, 0, 0), 0, []),
  (204, 56, .bipush 50, 2, (0, 0, 0), 50, []),
  (204, 58, .invokevirtual 438, 3, (202, 2, 0), 0, [(0, 1512)]),
  (204, 61, .aload_n 0, 1, (0, 0, 0), 0, []),
  (204, 62, .iload_n 1, 1, (1, 0, 0), 0, []),
  (204, 63, .iload_n 2, 1, (2, 0, 0), 0, []),
  (204, 64, .invokevirtual 441, 3, (203, 3, 1), 0, [(0, 1516)]),
  (204, 67, .ineg, 1, (0, 0, 0), 0, []),
  (204, 68, .ireturn, 1, (0, 0, 0), 0, []),
  (204, 69, .aload_n 0, 1, (0, 0, 0), 0, []),
  (204, 70, .bipush 71, 2, (0, 0, 0), 71, []),
  (204, 72, .invokevirtual 438, 3, (202, 2, 0), 0, [(0, 1512)]),
  (204, 75, .aload_n 0, 1, (0, 0, 0), 0, []),
  (204, 76, .iload_n 1, 1, (1, 0, 0), 0, []),
  (204, 77, .iload_n 2, 1, (2, 0, 0), 0, []),
  (204, 78, .invokevirtual 441, 3, (203, 3, 1), 0, [(0, 1516)]),
  (204, 81, .aload_n 0, 1, (0, 0, 0), 0, []),
  (204, 82, .getfield 26, 3, (9, 5, 1), 0, [(0, 918)]),
  (204, 85, .iload_n 1, 1, (1, 0, 0), 0, []),
  (204, 86, .iaload, 1, (0, 0, 0), 0, []),
  (204, 87, .ixor, 1, (0, 0, 0), 0, []),
  (204, 88, .ireturn, 1, (0, 0, 0), 0, []),
  (204, 89, .aload_n 0, 1, (0, 0, 0), 0, []),
  (204, 90, .iload_n 1, 1, (1, 0, 0), 0, []),
  (204, 91, .iload_n 2, 1, (2, 0, 0), 0, []),
  (204, 92, .invokevirtual 441, 3, (203, 3, 1), 0, [(0, 1516)]),
  (204, 95, .ireturn, 1, (0, 0, 0), 0, [])]
def rows_205 : List mRow := [
  (205, 0, .aload_n 0, 1, (0, 0, 0), 0, []),
  (205, 1, .bipush 11, 2, (0, 0, 0), 11, []),
  (205, 3, .invokevirtual 438, 3, (202, 2, 0), 0, [(0, 1512)]),
  (205, 6, .aload_n 0, 1, (0, 0, 0), 0, []),
  (205, 7, .iload_n 1, 1, (1, 0, 0), 0, []),
  (205, 8, .iload_n 2, 1, (2, 0, 0), 0, []),
  (205, 9, .invokevirtual 444, 3, (204, 3, 1), 0, [(0, 1508)]),
  (205, 12, .aload_n 0, 1, (0, 0, 0), 0, []),
  (205, 13, .getfield 26, 3, (9, 5, 1), 0, [(0, 918)]),
  (205, 16, .iload_n 1, 1, (1, 0, 0), 0, []),
  (205, 17, .iaload, 1, (0, 0, 0), 0, []),
  (205, 18, .isub, 1, (0, 0, 0), 0, []),
  (205, 19, .ireturn, 1, (0, 0, 0), 0, [])]
def rows_206 : List mRow := [
  (206, 0, .aload_n 0, 1, (0, 0, 0), 0, []),
  (206, 1, .bipush 20, 2, (0, 0, 0), 20, []),
  (206, 3, .invokevirtual 438, 3, (202, 2, 0), 0, [(0, 1512)]),
  (206, 6, .aload_n 0, 1, (0, 0, 0), 0, []),
  (206, 7, .iload_n 1, 1, (1, 0, 0), 0, []),
  (206, 8, .iload_n 2, 1, (2, 0, 0), 0, []),
  (206, 9, .invokevirtual 447, 3, (205, 3, 1), 0, [(0, 1528)]),
  (206, 12, .bipush 6, 2, (0, 0, 0), 6, []),
  (206, 14, .ixor, 1, (0, 0, 0), 0, []),
  (206, 15, .ireturn, 1, (0, 0, 0), 0, [])]
def rows_207 : List mRow := [
  (207, 0, .aload_n 0, 1, (0, 0, 0), 0, []),
  (207, 1, .getfield 22, 3, (9, 4, 1), 0, [(0, 917)]),
  (207, 4, .iload_n 1, 1, (1, 0, 0), 0, []),
  (207, 5, .iaload, 1, (0, 0, 0), 0, []),
  (207, 6, .lookupswitch 78 #[(1, 34), (4, 41), (6, 56)], 34, (84, 0, 0), 0, [(1, 40), (4, 47), (6, 62)]),
  (207, 40, .aload_n 0, 1, (0, 0, 0), 0, []),
  (207, 41, .iload_n 1, 1, (1, 0, 0), 0, []),
  (207, 42, .iload_n 2, 1, (2, 0, 0), 0, []),
  (207, 43, .invokevirtual 450, 3, (206, 3, 1), 0, [(0, 1524)]),
  (207, 46, .ireturn, 1, (0, 0, 0), 0, []),
  (207, 47, .aload_n 0, 1, (0, 0, 0), 0, []),
  (207, 48, .bipush 51, 2, (0, 0, 0), 51, []),
  (207, 50, .invokevirtual 438, 3, (202, 2, 0), 0, [(0, 1512)]),
  (207, 53, .aload_n 0, 1, (0, 0, 0), 0, []),
  (207, 54, .iload_n 1, 1, (1, 0, 0), 0, []),
  (207, 55, .iload_n 2, 1, (2, 0, 0), 0, []),
  (207, 56, .iconst 1, 1, (0, 0, 0), 1, []),
  (207, 57, .iadd, 1, (0, 0, 0), 0, []),
  (207, 58, .invokevirtual 450, 3, (206, 3, 1), 0, [(0, 1524)]),
  (207, 61, .ireturn, 1, (0, 0, 0), 0, []),
  (207, 62, .aload_n 0, 1, (0, 0, 0), 0, []),
  (207, 63, .bipush 70, 2, (0, 0, 0), 70, []),
  (207, 65, .invokevirtual 438, 3, (202, 2, 0), 0, [(0, 1512)]),
  (207, 68, .aload_n 0, 1, (0, 0, 0), 0, []),
  (207, 69, .iload_n 1, 1, (1, 0, 0), 0, []),
  (207, 70, .iload_n 2, 1, (2, 0, 0), 0, []),
  (207, 71, .invokevirtual 447, 3, (205, 3, 1), 0, [(0, 1528)]),
  (207, 74, .istore_n 3, 1, (3, 0, 0), 0, []),
  (207, 75, .iload_n 3, 1, (3, 0, 0), 0, []),
  (207, 76, .aload_n 0, 1, (0, 0, 0), 0, []),
  (207, 77, .iload_n 1, 1, (1, 0, 0), 0, []),
  (207, 78, .iconst 2, 1, (0, 0, 0), 2, []),
  (207, 79, .invokevirtual 441, 3, (203, 3, 1), 0, [(0, 1516)]),
  (207, 82, .iadd, 1, (0, 0, 0), 0, []),
  (207, 83, .ireturn, 1, (0, 0, 0), 0, []),
  (207, 84, .aload_n 0, 1, (0, 0, 0), 0, []),
  (207, 85, .iload_n 1, 1, (1, 0, 0), 0, []),
  (207, 86, .iload_n 2, 1, (2, 0, 0), 0, []),
  (207, 87, .invokevirtual 447, 3, (205, 3, 1), 0, [(0, 1528)]),
  (207, 90, .ireturn, 1, (0, 0, 0), 0, [])]
def rows_208 : List mRow := [
  (208, 0, .aload_n 0, 1, (0, 0, 0), 0, []),
  (208, 1, .bipush 12, 2, (0, 0, 0), 12, []),
  (208, 3, .invokevirtual 438, 3, (202, 2, 0), 0, [(0, 1512)]),
  (208, 6, .aload_n 0, 1, (0, 0, 0), 0, []),
  (208, 7, .iload_n 1, 1, (1, 0, 0), 0, []),
  (208, 8, .iload_n 2, 1, (2, 0, 0), 0, []),
  (208, 9, .invokevirtual 453, 3, (207, 3, 1), 0, [(0, 1520)]),
  (208, 12, .iconst 2, 1, (0, 0, 0), 2, []),
  (208, 13, .imul, 1, (0, 0, 0), 0, []),
  (208, 14, .ireturn, 1, (0, 0, 0), 0, [])]
def rows_209 : List mRow := [
  (209, 0, .aload_n 0, 1, (0, 0, 0), 0, []),
  (209, 1, .getfield 22, 3, (9, 4, 1), 0, [(0, 917)]),
  (209, 4, .iload_n 1, 1, (1, 0, 0), 0, []),
  (209, 5, .iaload, 1, (0, 0, 0), 0, []),
  (209, 6, .tableswitch 67 3 6 #[30, 67, 52, 30], 30, (73, 0, 0), 0, [(3, 36), (4, 73), (5, 58), (6, 36)]),
  (209, 36, .aload_n 0, 1, (0, 0, 0), 0, []),
  (209, 37, .bipush 40, 2, (0, 0, 0), 40, []),
  (209, 39, .invokevirtual 438, 3, (202, 2, 0), 0, [(0, 1512)]),
  (209, 42, .aload_n 0, 1, (0, 0, 0), 0, []),
  (209, 43, .iload_n 1, 1, (1, 0, 0), 0, []),
  (209, 44, .iload_n 2, 1, (2, 0, 0), 0, []),
  (209, 45, .invokevirtual 456, 3, (208, 3, 1), 0, [(0, 1536)]),
  (209, 48, .istore_n 3, 1, (3, 0, 0), 0, []),
  (209, 49, .iload_n 3, 1, (3, 0, 0), 0, []),
  (209, 50, .aload_n 0, 1, (0, 0, 0), 0, []),
  (209, 51, .iload_n 1, 1, (1, 0, 0), 0, []),
  (209, 52, .iconst 1, 1, (0, 0, 0), 1, []),
  (209, 53, .invokevirtual 453, 3, (207, 3, 1), 0, [(0, 1520)]),
  (209, 56, .iadd, 1, (0, 0, 0), 0, []),
  (209, 57, .ireturn, 1, (0, 0, 0), 0, []),
  (209, 58, .aload_n 0, 1, (0, 0, 0), 0, []),
  (209, 59, .bipush 60, 2, (0, 0, 0), 60, []),
  (209, 61, .invokevirtual 438, 3, (202, 2, 0), 0, [(0, 1512)]),
  (209, 64, .aload_n 0, 1, (0, 0, 0), 0, []),
  (209, 65, .iload_n 1, 1, (1, 0, 0), 0, []),
  (209, 66, .iload_n 2, 1, (2, 0, 0), 0, []),
  (209, 67, .iload_n 1, 1, (1, 0, 0), 0, []),
  (209, 68, .isub, 1, (0, 0, 0), 0, []),
  (209, 69, .invokevirtual 456, 3, (208, 3, 1), 0, [(0, 1536)]),
  (209, 72, .ireturn, 1, (0, 0, 0), 0, []),
  (209, 73, .aload_n 0, 1, (0, 0, 0), 0, []),
  (209, 74, .iload_n 1, 1, (1, 0, 0), 0, []),
  (209, 75, .iload_n 2, 1, (2, 0, 0), 0, []),
  (209, 76, .invokevirtual 456, 3, (208, 3, 1), 0, [(0, 1536)]),
  (209, 79, .ireturn, 1, (0, 0, 0), 0, [])]
def rows_210 : List mRow := [
  (210, 0, .aload_n 0, 1, (0, 0, 0), 0, []),
  (210, 1, .iconst 0, 1, (0, 0, 0), 0, []),
  (210, 2, .putfield 235, 3, (9, 74, 0), 0, [(0, 987)]),
  (210, 5, .aload_n 0, 1, (0, 0, 0), 0, []),
  (210, 6, .iload_n 1, 1, (1, 0, 0), 0, []),
  (210, 7, .invokevirtual 258, 3, (119, 2, 1), 0, [(0, 1167)]),
  (210, 10, .ifCond .eq 13, 3, (23, 0, 0), 0, []),
  (210, 13, .aload_n 0, 1, (0, 0, 0), 0, []),
  (210, 14, .iload_n 2, 1, (2, 0, 0), 0, []),
  (210, 15, .iconst 0, 1, (0, 0, 0), 0, []),
  (210, 16, .iconst 2, 1, (0, 0, 0), 2, []),
  (210, 17, .invokevirtual 254, 3, (116, 4, 1), 0, [(0, 1159)]),
  (210, 20, .ifCond .ne 5, 3, (25, 0, 0), 0, []),
  (210, 23, .iconst 0, 1, (0, 0, 0), 0, []),
  (210, 24, .ireturn, 1, (0, 0, 0), 0, []),
  (210, 25, .iload_n 2, 1, (2, 0, 0), 0, []),
  (210, 26, .ifCond .ne 12, 3, (38, 0, 0), 0, []),
  (210, 29, .aload_n 0, 1, (0, 0, 0), 0, []),
  (210, 30, .iload_n 1, 1, (1, 0, 0), 0, []),
  (210, 31, .iload_n 3, 1, (3, 0, 0), 0, []),
  (210, 32, .invokevirtual 444, 3, (204, 3, 1), 0, [(0, 1508)]),
  (210, 35, .goto 23, 3, (58, 0, 0), 0, []),
  (210, 38, .iload_n 2, 1, (2, 0, 0), 0, []),
  (210, 39, .iconst 1, 1, (0, 0, 0), 1, []),
  (210, 40, .if_icmp .ne 12, 3, (52, 0, 0), 0, []),
  (210, 43, .aload_n 0, 1, (0, 0, 0), 0, []),
  (210, 44, .iload_n 1, 1, (1, 0, 0), 0, []),
  (210, 45, .iload_n 3, 1, (3, 0, 0), 0, []),
  (210, 46, .invokevirtual 453, 3, (207, 3, 1), 0, [(0, 1520)]),
  (210, 49, .goto 9, 3, (58, 0, 0), 0, []),
  (210, 52, .aload_n 0, 1, (0, 0, 0), 0, []),
  (210, 53, .iload_n 1, 1, (1, 0, 0), 0, []),
  (210, 54, .iload_n 3, 1, (3, 0, 0), 0, []),
  (210, 55, .invokevirtual 459, 3, (209, 3, 1), 0, [(0, 1532)]),
  (210, 58, .ireturn, 1, (0, 0, 0), 0, [])]
def rows_211 : List mRow := [
  (211, 0, .aload_n 0, 1, (0, 0, 0), 0, []),
  (211, 1, .iload_n 1, 1, (1, 0, 0), 0, []),
  (211, 2, .iconst 0, 1, (0, 0, 0), 0, []),
  (211, 3, .bipush 19, 2, (0, 0, 0), 19, []),
  (211, 5, .invokevirtual 254, 3, (116, 4, 1), 0, [(0, 1159)]),
  (211, 8, .ifCond .eq 20, 3, (28, 0, 0), 0, []),
  (211, 11, .iload_n 1, 1, (1, 0, 0), 0, []),
  (211, 12, .aload_n 0, 1, (0, 0, 0), 0, []),
  (211, 13, .getfield 235, 3, (9, 74, 0), 0, [(0, 987)]),
  (211, 16, .if_icmp .ge 12, 3, (28, 0, 0), 0, []),
  (211, 19, .aload_n 0, 1, (0, 0, 0), 0, []),
  (211, 20, .getfield 238, 3, (9, 75, 1), 0, [(0, 988)]),
  (211, 23, .iload_n 1, 1, (1, 0, 0), 0, []),
  (211, 24, .iaload, 1, (0, 0, 0), 0, []),
  (211, 25, .goto 4, 3, (29, 0, 0), 0, []),
  (211, 28, .iconst (-1), 1, (0, 0, 0), (-1), []),
  (211, 29, .ireturn, 1, (0, 0, 0), 0, [])]
def rows_212 : List mRow := [
  (212, 0, .aload_n 0, 1, (0, 0, 0), 0, []),
  (212, 1, .iload_n 2, 1, (2, 0, 0), 0, []),
  (212, 2, .iconst 0, 1, (0, 0, 0), 0, []),
  (212, 3, .bipush 6, 2, (0, 0, 0), 6, []),
  (212, 5, .invokevirtual 254, 3, (116, 4, 1), 0, [(0, 1159)]),
  (212, 8, .ifCond .ne 6, 3, (14, 0, 0), 0, []),
  (212, 11, .bipush (-2), 2, (0, 0, 0), (-2), []),
  (212, 13, .ireturn, 1, (0, 0, 0), 0, []),
  (212, 14, .aload_n 0, 1, (0, 0, 0), 0, []),
  (212, 15, .iload_n 1, 1, (1, 0, 0), 0, []),
  (212, 16, .invokevirtual 258, 3, (119, 2, 1), 0, [(0, 1167)]),
  (212, 19, .ifCond .ne 6, 3, (25, 0, 0), 0, []),
  (212, 22, .bipush (-11), 2, (0, 0, 0), (-11), []),
  (212, 24, .ireturn, 1, (0, 0, 0), 0, []),
  (212, 25, .aload_n 0, 1, (0, 0, 0), 0, []),
  (212, 26, .getfield 22, 3, (9, 4, 1), 0, [(0, 917)]),
  (212, 29, .iload_n 1, 1, (1, 0, 0), 0, []),
  (212, 30, .iaload, 1, (0, 0, 0), 0, []),
  (212, 31, .istore_n 3, 1, (3, 0, 0), 0, []),
  (212, 32, .iload_n 2, 1, (2, 0, 0), 0, []),
  (212, 33, .ifCond .eq 39, 3, (72, 0, 0), 0, []),
  (212, 36, .iload_n 3, 1, (3, 0, 0), 0, []),
  (212, 37, .iload_n 2, 1, (2, 0, 0), 0, []),
  (212, 38, .if_icmp .eq 34, 3, (72, 0, 0), 0, []),
  (212, 41, .iload_n 2, 1, (2, 0, 0), 0, []),
  (212, 42, .iconst 1, 1, (0, 0, 0), 1, []),
  (212, 43, .if_icmp .ne 8, 3, (51, 0, 0), 0, []),
  (212, 46, .iload_n 3, 1, (3, 0, 0), 0, []),
  (212, 47, .iconst 4, 1, (0, 0, 0), 4, []),
  (212, 48, .if_icmp .eq 24, 3, (72, 0, 0), 0, []),
  (212, 51, .iload_n 2, 1, (2, 0, 0), 0, []),
  (212, 52, .iconst 2, 1, (0, 0, 0), 2, []),
  (212, 53, .if_icmp .ne 8, 3, (61, 0, 0), 0, []),
  (212, 56, .iload_n 3, 1, (3, 0, 0), 0, []),
  (212, 57, .iconst 5, 1, (0, 0, 0), 5, []),
  (212, 58, .if_icmp .eq 14, 3, (72, 0, 0), 0, []),
  (212, 61, .iload_n 2, 1, (2, 0, 0), 0, []),
  (212, 62, .iconst 3, 1, (0, 0, 0), 3, []),
  (212, 63, .if_icmp .ne 13, 3, (76, 0, 0), 0, []),
  (212, 66, .iload_n 3, 1, (3, 0, 0), 0, []),
  (212, 67, .bipush 6, 2, (0, 0, 0), 6, []),
  (212, 69, .if_icmp .ne 7, 3, (76, 0, 0), 0, []),
  (212, 72, .iload_n 3, 1, (3, 0, 0), 0, []),
  (212, 73, .goto 5, 3, (78, 0, 0), 0, []),
  (212, 76, .bipush (-12), 2, (0, 0, 0), (-12), []),
  (212, 78, .ireturn, 1, (0, 0, 0), 0, [])]
def rows_213 : List mRow := [
  (213, 0, .iload_n 1, 1, (1, 0, 0), 0, []),
  (213, 1, .tableswitch 78 0 6 #[43, 48, 53, 58, 63, 68, 73], 43, (79, 0, 0), 0, [(0, 44), (1, 49), (2, 54), (3, 59), (4, 64), (5, 69), (6, 74)]),
  (213, 44, .aload_n 0, 1, (0, 0, 0), 0, []),
  (213, 45, .getfield 7, 3, (9, 0, 0), 0, [(0, 913)]),
  (213, 48, .ireturn, 1, (0, 0, 0), 0, []),
  (213, 49, .aload_n 0, 1, (0, 0, 0), 0, []),
  (213, 50, .getfield 38, 3, (9, 9, 0), 0, [(0, 922)]),
  (213, 53, .ireturn, 1, (0, 0, 0), 0, []),
  (213, 54, .aload_n 0, 1, (0, 0, 0), 0, []),
  (213, 55, .getfield 135, 3, (9, 41, 0), 0, [(0, 954)]),
  (213, 58, .ireturn, 1, (0, 0, 0), 0, []),
  (213, 59, .aload_n 0, 1, (0, 0, 0), 0, []),
  (213, 60, .getfield 150, 3, (9, 46, 0), 0, [(0, 959)]),
  (213, 63, .ireturn, 1, (0, 0, 0), 0, []),
  (213, 64, .aload_n 0, 1, (0, 0, 0), 0, []),
  (213, 65, .getfield 153, 3, (9, 47, 0), 0, [(0, 960)]),
  (213, 68, .ireturn, 1, (0, 0, 0), 0, []),
  (213, 69, .aload_n 0, 1, (0, 0, 0), 0, []),
  (213, 70, .getfield 44, 3, (9, 11, 0), 0, [(0, 924)]),
  (213, 73, .ireturn, 1, (0, 0, 0), 0, []),
  (213, 74, .aload_n 0, 1, (0, 0, 0), 0, []),
  (213, 75, .getfield 235, 3, (9, 74, 0), 0, [(0, 987)]),
  (213, 78, .ireturn, 1, (0, 0, 0), 0, []),
  (213, 79, .bipush (-2), 2, (0, 0, 0), (-2), []),
  (213, 81, .ireturn, 1, (0, 0, 0), 0, [])]
def rows_214 : List mRow := [
  (214, 0, .aload_n 0, 1, (0, 0, 0), 0, []),
  (214, 1, .iload_n 1, 1, (1, 0, 0), 0, []),
  (214, 2, .iconst 0, 1, (0, 0, 0), 0, []),
  (214, 3, .iconst 5, 1, (0, 0, 0), 5, []),
  (214, 4, .invokevirtual 254, 3, (116, 4, 1), 0, [(0, 1159)]),
  (214, 7, .ireturn, 1, (1, 0, 0), 0, [])]
def rows_215 : List mRow := [
  (215, 0, .aload_n 0, 1, (0, 0, 0), 0, []),
  (215, 1, .iload_n 1, 1, (1, 0, 0), 0, []),
  (215, 2, .invokevirtual 435, 3, (214, 2, 1), 0, [(0, 1492)]),
  (215, 5, .ifCond .ne 5, 3, (10, 0, 0), 0, []),
  (215, 8, .iconst (-1), 1, (0, 0, 0), (-1), []),
  (215, 9, .ireturn, 1, (0, 0, 0), 0, []),
  (215, 10, .aload_n 0, 1, (0, 0, 0), 0, []),
  (215, 11, .iload_n 2, 1, (2, 0, 0), 0, []),
  (215, 12, .iconst (-1), 1, (0, 0, 0), (-1), []),
  (215, 13, .iconst 4, 1, (0, 0, 0), 4, []),
  (215, 14, .invokevirtual 254, 3, (116, 4, 1), 0, [(0, 1159)]),
  (215, 17, .ifCond .eq 13, 3, (30, 0, 0), 0, []),
  (215, 20, .iload_n 2, 1, (2, 0, 0), 0, []),
  (215, 21, .ifCond .lt 12, 3, (33, 0, 0), 0, []),
  (215, 24, .iload_n 3, 1, (3, 0, 0), 0, []),
  (215, 25, .bipush 60, 2, (0, 0, 0), 60, []),
  (215, 27, .if_icmp .le 6, 3, (33, 0, 0), 0, []),
  (215, 30, .bipush (-2), 2, (0, 0, 0), (-2), []),
  (215, 32, .ireturn, 1, (0, 0, 0), 0, []),
  (215, 33, .iload_n 2, 1, (2, 0, 0), 0, []),
  (215, 34, .ifCond .lt 10, 3, (44, 0, 0), 0, []),
  (215, 37, .iload_n 3, 1, (3, 0, 0), 0, []),
  (215, 38, .ifCond .ge 6, 3, (44, 0, 0), 0, []),
  (215, 41, .bipush (-14), 2, (0, 0, 0), (-14), []),
  (215, 43, .ireturn, 1, (0, 0, 0), 0, []),
  (215, 44, .aload_n 0, 1, (0, 0, 0), 0, []),
  (215, 45, .getfield 241, 3, (9, 76, 1), 0, [(0, 989)]),
  (215, 48, .iload_n 1, 1, (1, 0, 0), 0, []),
  (215, 49, .iload_n 2, 1, (2, 0, 0), 0, []),
  (215, 50, .iastore, 1, (0, 0, 0), 0, []),
  (215, 51, .aload_n 0, 1, (0, 0, 0), 0, []),
  (215, 52, .getfield 244, 3, (9, 77, 1), 0, [(0, 990)]),
  (215, 55, .iload_n 1, 1, (1, 0, 0), 0, []),
  (215, 56, .iload_n 2, 1, (2, 0, 0), 0, []),
  (215, 57, .ifCond .ge 7, 3, (64, 0, 0), 0, []),
  (215, 60, .iconst 0, 1, (0, 0, 0), 0, []),
  (215, 61, .goto 4, 3, (65, 0, 0), 0, []),
  (215, 64, .iload_n 3, 1, (3, 0, 0), 0, []),
  (215, 65, .iastore, 1, (0, 0, 0), 0, []),
  (215, 66, .iconst 0, 1, (0, 0, 0), 0, []),
  (215, 67, .istore 4, 2, (4, 0, 0), 0, []),
  (215, 69, .iload 4, 2, (4, 0, 0), 0, []),
  (215, 71, .bipush 60, 2, (0, 0, 0), 60, []),
  (215, 73, .if_icmp .ge 22, 3, (95, 0, 0), 0, []),
  (215, 76, .aload_n 0, 1, (0, 0, 0), 0, []),
  (215, 77, .getfield 247, 3, (9, 78, 1), 0, [(0, 991)]),
  (215, 80, .bipush 60, 2, (0, 0, 0), 60, []),
  (215, 82, .iload_n 1, 1, (1, 0, 0), 0, []),
  (215, 83, .imul, 1, (0, 0, 0), 0, []),
  (215, 84, .iload 4, 2, (4, 0, 0), 0, []),
  (215, 86, .iadd, 1, (0, 0, 0), 0, []),
  (215, 87, .lconst 0, 1, (0, 0, 0), 0, []),
  (215, 88, .lastore, 1, (0, 0, 0), 0, []),
  (215, 89, .iinc 4 1, 3, (4, 0, 0), 1, []),
  (215, 92, .goto (-23), 3, (69, 0, 0), 0, []),
  (215, 95, .iconst 1, 1, (0, 0, 0), 1, []),
  (215, 96, .ireturn, 1, (0, 0, 0), 0, [])]
def rows_216 : List mRow := [
  (216, 0, .iload_n 1, 1, (1, 0, 0), 0, []),
  (216, 1, .ifCond .ne 10, 3, (11, 0, 0), 0, []),
  (216, 4, .lload_n 2, 1, (2, 0, 0), 0, []),
  (216, 5, .l2i, 1, (0, 0, 0), 0, []),
  (216, 6, .i2b, 1, (0, 0, 0), 0, []),
  (216, 7, .i2l, 1, (0, 0, 0), 0, []),
  (216, 8, .goto 46, 3, (54, 0, 0), 0, []),
  (216, 11, .iload_n 1, 1, (1, 0, 0), 0, []),
  (216, 12, .iconst 1, 1, (0, 0, 0), 1, []),
  (216, 13, .if_icmp .ne 10, 3, (23, 0, 0), 0, []),
  (216, 16, .lload_n 2, 1, (2, 0, 0), 0, []),
  (216, 17, .l2i, 1, (0, 0, 0), 0, []),
  (216, 18, .i2s, 1, (0, 0, 0), 0, []),
  (216, 19, .i2l, 1, (0, 0, 0), 0, []),
  (216, 20, .goto 34, 3, (54, 0, 0), 0, []),
  (216, 23, .iload_n 1, 1, (1, 0, 0), 0, []),
  (216, 24, .iconst 2, 1, (0, 0, 0), 2, []),
  (216, 25, .if_icmp .ne 9, 3, (34, 0, 0), 0, []),
  (216, 28, .lload_n 2, 1, (2, 0, 0), 0, []),
  (216, 29, .l2i, 1, (0, 0, 0), 0, []),
  (216, 30, .i2l, 1, (0, 0, 0), 0, []),
  (216, 31, .goto 23, 3, (54, 0, 0), 0, []),
  (216, 34, .iload_n 1, 1, (1, 0, 0), 0, []),
  (216, 35, .iconst 4, 1, (0, 0, 0), 4, []),
  (216, 36, .if_icmp .ne 17, 3, (53, 0, 0), 0, []),
  (216, 39, .lload_n 2, 1, (2, 0, 0), 0, []),
  (216, 40, .lconst 0, 1, (0, 0, 0), 0, []),
  (216, 41, .lcmp, 1, (0, 0, 0), 0, []),
  (216, 42, .ifCond .eq 7, 3, (49, 0, 0), 0, []),
  (216, 45, .lconst 1, 1, (0, 0, 0), 1, []),
  (216, 46, .goto 8, 3, (54, 0, 0), 0, []),
  (216, 49, .lconst 0, 1, (0, 0, 0), 0, []),
  (216, 50, .goto 4, 3, (54, 0, 0), 0, []),
  (216, 53, .lload_n 2, 1, (2, 0, 0), 0, []),
  (216, 54, .lreturn, 1, (0, 0, 0), 0, [])]
def rows_217 : List mRow := [
  (217, 0, .aload_n 0, 1, (0, 0, 0), 0, []),
  (217, 1, .iload_n 1, 1, (1, 0, 0), 0, []),
  (217, 2, .invokevirtual 435, 3, (214, 2, 1), 0, [(0, 1492)]),
  (217, 5, .ifCond .ne 5, 3, (10, 0, 0), 0, []),
  (217, 8, .iconst (-1), 1, (0, 0, 0), (-1), []),
  (217, 9, .ireturn, 1, (0, 0, 0), 0, []),
  (217, 10, .aload_n 0, 1, (0, 0, 0), 0, []),
  (217, 11, .getfield 241, 3, (9, 76, 1), 0, [(0, 989)]),
  (217, 14, .iload_n 1, 1, (1, 0, 0), 0, []),
  (217, 15, .iaload, 1, (0, 0, 0), 0, []),
  (217, 16, .ifCond .ge 6, 3, (22, 0, 0), 0, []),
  (217, 19, .bipush (-11), 2, (0, 0, 0), (-11), []),
  (217, 21, .ireturn, 1, (0, 0, 0), 0, []),
  (217, 22, .aload_n 0, 1, (0, 0, 0), 0, []),
  (217, 23, .iload_n 2, 1, (2, 0, 0), 0, []),
  (217, 24, .iconst 0, 1, (0, 0, 0), 0, []),
  (217, 25, .aload_n 0, 1, (0, 0, 0), 0, []),
  (217, 26, .getfield 244, 3, (9, 77, 1), 0, [(0, 990)]),
  (217, 29, .iload_n 1, 1, (1, 0, 0), 0, []),
  (217, 30, .iaload, 1, (0, 0, 0), 0, []),
  (217, 31, .iconst 1, 1, (0, 0, 0), 1, []),
  (217, 32, .isub, 1, (0, 0, 0), 0, []),
  (217, 33, .invokevirtual 254, 3, (116, 4, 1), 0, [(0, 1159)]),
  (217, 36, .ifCond .ne 6, 3, (42, 0, 0), 0, []),
  (217, 39, .bipush (-13), 2, (0, 0, 0), (-13), []),
  (217, 41, .ireturn, 1, (0, 0, 0), 0, []),
  (217, 42, .aload_n 0, 1, (0, 0, 0), 0, []),
  (217, 43, .getfield 247, 3, (9, 78, 1), 0, [(0, 991)]),
  (217, 46, .bipush 60, 2, (0, 0, 0), 60, []),
  (217, 48, .iload_n 1, 1, (1, 0, 0), 0, []),
  (217, 49, .imul, 1, (0, 0, 0), 0, []),
  (217, 50, .iload_n 2, 1, (2, 0, 0), 0, []),
  (217, 51, .iadd, 1, (0, 0, 0), 0, []),
  (217, 52, .aload_n 0, 1, (0, 0, 0), 0, []),
  (217, 53, .aload_n 0, 1, (0, 0, 0), 0, []),
  (217, 54, .getfield 241, 3, (9, 76, 1), 0, [(0, 989)]),
  (217, 57, .iload_n 1, 1, (1, 0, 0), 0, []),
  (217, 58, .iaload, 1, (0, 0, 0), 0, []),
  (217, 59, .lload_n 3, 1, (3, 0, 0), 0, []),
  (217, 60, .invokevirtual 462, 3, (216, 3, 2), 0, [(0, 1560)]),
  (217, 63, .lastore, 1, (0, 0, 0), 0, []),
  (217, 64, .iconst 1, 1, (0, 0, 0), 1, []),
  (217, 65, .ireturn, 1, (0, 0, 0), 0, [])]
def rows_218 : List mRow := [
  (218, 0, .aload_n 0, 1, (0, 0, 0), 0, []),
  (218, 1, .iload_n 1, 1, (1, 0, 0), 0, []),
  (218, 2, .invokevirtual 435, 3, (214, 2, 1), 0, [(0, 1492)]),
  (218, 5, .ifCond .eq 29, 3, (34, 0, 0), 0, []),
  (218, 8, .aload_n 0, 1, (0, 0, 0), 0, []),
  (218, 9, .getfield 241, 3, (9, 76, 1), 0, [(0, 989)]),
  (218, 12, .iload_n 1, 1, (1, 0, 0), 0, []),
  (218, 13, .iaload, 1, (0, 0, 0), 0, []),
  (218, 14, .ifCond .lt 20, 3, (34, 0, 0), 0, []),
  (218, 17, .aload_n 0, 1, (0, 0, 0), 0, []),
  (218, 18, .iload_n 2, 1, (2, 0, 0), 0, []),
  (218, 19, .iconst 0, 1, (0, 0, 0), 0, []),
  (218, 20, .aload_n 0, 1, (0, 0, 0), 0, []),
  (218, 21, .getfield 244, 3, (9, 77, 1), 0, [(0, 990)]),
  (218, 24, .iload_n 1, 1, (1, 0, 0), 0, []),
  (218, 25, .iaload, 1, (0, 0, 0), 0, []),
  (218, 26, .iconst 1, 1, (0, 0, 0), 1, []),
  (218, 27, .isub, 1, (0, 0, 0), 0, []),
  (218, 28, .invokevirtual 254, 3, (116, 4, 1), 0, [(0, 1159)]),
  (218, 31, .ifCond .ne 9, 3, (40, 0, 0), 0, []),
  (218, 34, .ldc2_w 429, 3, (0, 0, 0), (-9223372036854775808), [(0, 1459)]),
  (218, 37, .goto 14, 3, (51, 0, 0), 0, []),
  (218, 40, .aload_n 0, 1, (0, 0, 0), 0, []),
  (218, 41, .getfield 247, 3, (9, 78, 1), 0, [(0, 991)]),
  (218, 44, .bipush 60, 2, (0, 0, 0), 60, []),
  (218, 46, .iload_n 1, 1, (1, 0, 0), 0, []),
  (218, 47, .imul, 1, (0, 0, 0), 0, []),
  (218, 48, .iload_n 2, 1, (2, 0, 0), 0, []),
  (218, 49, .iadd, 1, (0, 0, 0), 0, []),
  (218, 50, .laload, 1, (0, 0, 0), 0, []),
  (218, 51, .lreturn, 1, (0, 0, 0), 0, [])]
def rows_219 : List mRow := [
  (219, 0, .aload_n 0, 1, (0, 0, 0), 0, []),
  (219, 1, .iload_n 1, 1, (1, 0, 0), 0, []),
  (219, 2, .invokevirtual 435, 3, (214, 2, 1), 0, [(0, 1492)]),
  (219, 5, .ifCond .eq 11, 3, (16, 0, 0), 0, []),
  (219, 8, .aload_n 0, 1, (0, 0, 0), 0, []),
  (219, 9, .iload_n 3, 1, (3, 0, 0), 0, []),
  (219, 10, .invokevirtual 435, 3, (214, 2, 1), 0, [(0, 1492)]),
  (219, 13, .ifCond .ne 5, 3, (18, 0, 0), 0, []),
  (219, 16, .iconst (-1), 1, (0, 0, 0), (-1), []),
  (219, 17, .ireturn, 1, (0, 0, 0), 0, []),
  (219, 18, .aload_n 0, 1, (0, 0, 0), 0, []),
  (219, 19, .getfield 241, 3, (9, 76, 1), 0, [(0, 989)]),
  (219, 22, .iload_n 1, 1, (1, 0, 0), 0, []),
  (219, 23, .iaload, 1, (0, 0, 0), 0, []),
  (219, 24, .ifCond .lt 12, 3, (36, 0, 0), 0, []),
  (219, 27, .aload_n 0, 1, (0, 0, 0), 0, []),
  (219, 28, .getfield 241, 3, (9, 76, 1), 0, [(0, 989)]),
  (219, 31, .iload_n 3, 1, (3, 0, 0), 0, []),
  (219, 32, .iaload, 1, (0, 0, 0), 0, []),
  (219, 33, .ifCond .ge 6, 3, (39, 0, 0), 0, []),
  (219, 36, .bipush (-11), 2, (0, 0, 0), (-11), []),
  (219, 38, .ireturn, 1, (0, 0, 0), 0, []),
  (219, 39, .aload_n 0, 1, (0, 0, 0), 0, []),
  (219, 40, .getfield 241, 3, (9, 76, 1), 0, [(0, 989)]),
  (219, 43, .iload_n 1, 1, (1, 0, 0), 0, []),
  (219, 44, .iaload, 1, (0, 0, 0), 0, []),
  (219, 45, .aload_n 0, 1, (0, 0, 0), 0, []),
  (219, 46, .getfield 241, 3, (9, 76, 1), 0, [(0, 989)]),
  (219, 49, .iload_n 3, 1, (3, 0, 0), 0, []),
  (219, 50, .iaload, 1, (0, 0, 0), 0, []),
  (219, 51, .if_icmp .eq 6, 3, (57, 0, 0), 0, []),
  (219, 54, .bipush (-12), 2, (0, 0, 0), (-12), []),
  (219, 56, .ireturn, 1, (0, 0, 0), 0, []),
  (219, 57, .iload 5, 2, (5, 0, 0), 0, []),
  (219, 59, .ifCond .lt 39, 3, (98, 0, 0), 0, []),
  (219, 62, .iload_n 2, 1, (2, 0, 0), 0, []),
  (219, 63, .ifCond .lt 35, 3, (98, 0, 0), 0, []),
  (219, 66, .iload 4, 2, (4, 0, 0), 0, []),
  (219, 68, .ifCond .lt 30, 3, (98, 0, 0), 0, []),
  (219, 71, .iload_n 2, 1, (2, 0, 0), 0, []),
  (219, 72, .aload_n 0, 1, (0, 0, 0), 0, []),
  (219, 73, .getfield 244, 3, (9, 77, 1), 0, [(0, 990)]),
  (219, 76, .iload_n 1, 1, (1, 0, 0), 0, []),
  (219, 77, .iaload, 1, (0, 0, 0), 0, []),
  (219, 78, .iload 5, 2, (5, 0, 0), 0, []),
  (219, 80, .isub, 1, (0, 0, 0), 0, []),
  (219, 81, .if_icmp .gt 17, 3, (98, 0, 0), 0, []),
  (219, 84, .iload 4, 2, (4, 0, 0), 0, []),
  (219, 86, .aload_n 0, 1, (0, 0, 0), 0, []),
  (219, 87, .getfield 244, 3, (9, 77, 1), 0, [(0, 990)]),
  (219, 90, .iload_n 3, 1, (3, 0, 0), 0, []),
  (219, 91, .iaload, 1, (0, 0, 0), 0, []),
  (219, 92, .iload 5, 2, (5, 0, 0), 0, []),
  (219, 94, .isub, 1, (0, 0, 0), 0, []),
  (219, 95, .if_icmp .le 6, 3, (101, 0, 0), 0, []),
  (219, 98, .bipush (-13), 2, (0, 0, 0), (-13), []),
  (219, 100, .ireturn, 1, (0, 0, 0), 0, []),
  (219, 101, .iconst 0, 1, (0, 0, 0), 0, []),
  (219, 102, .istore 6, 2, (6, 0, 0), 0, []),
  (219, 104, .iload 6, 2, (6, 0, 0), 0, []),
  (219, 106, .iload 5, 2, (5, 0, 0), 0, []),
  (219, 108, .if_icmp .ge 30, 3, (138, 0, 0), 0, []),
  (219, 111, .aload_n 0, 1, (0, 0, 0), 0, []),
  (219, 112, .getfield 251, 3, (9, 79, 1), 0, [(0, 992)]),
  (219, 115, .iload 6, 2, (6, 0, 0), 0, []),
  (219, 117, .aload_n 0, 1, (0, 0, 0), 0, []),
  (219, 118, .getfield 247, 3, (9, 78, 1), 0, [(0, 991)]),
  (219, 121, .bipush 60, 2, (0, 0, 0), 60, []),
  (219, 123, .iload_n 1, 1, (1, 0, 0), 0, []),
  (219, 124, .imul, 1, (0, 0, 0), 0, []),
  (219, 125, .iload_n 2, 1, (2, 0, 0), 0, []),
  (219, 126, .iadd, 1, (0, 0, 0), 0, []),
  (219, 127, .iload 6, 2, (6, 0, 0), 0, []),
  (219, 129, .iadd, 1, (0, 0, 0), 0, []),
  (219, 130, .laload, 1, (0, 0, 0), 0, []),
  (219, 131, .lastore, 1, (0, 0, 0), 0, []),
  (219, 132, .iinc 6 1, 3, (6, 0, 0), 1, []),
  (219, 135, .goto (-31), 3, (104, 0, 0), 0, []),
  (219, 138, .iconst 0, 1, (0, 0, 0), 0, []),
  (219, 139, .istore 6, 2, (6, 0, 0), 0, []),
  (219, 141, .iload 6, 2, (6, 0, 0), 0, []),
  (219, 143, .iload 5, 2, (5, 0, 0), 0, []),
  (219, 145, .if_icmp .ge 31, 3, (176, 0, 0), 0, []),
  (219, 148, .aload_n 0, 1, (0, 0, 0), 0, []),
  (219, 149, .getfield 247, 3, (9, 78, 1), 0, [(0, 991)]),
  (219, 152, .bipush 60, 2, (0, 0, 0), 60, []),
  (219, 154, .iload_n 3, 1, (3, 0, 0), 0, []),
  (219, 155, .imul, 1, (0, 0, 0), 0, []),
  (219, 156, .iload 4, 2, (4, 0, 0), 0, []),
  (219, 158, .iadd, 1, (0, 0, 0), 0, []),
  (219, 159, .iload 6, 2, (6, 0, 0), 0, []),
  (219, 161, .iadd, 1, (0, 0, 0), 0, []),
  (219, 162, .aload_n 0, 1, (0, 0, 0), 0, []),
  (219, 163, .getfield 251, 3, (9, 79, 1), 0, [(0, 992)]),
  (219, 166, .iload 6, 2, (6, 0, 0), 0, []),
  (219, 168, .laload, 1, (0, 0, 0), 0, []),
  (219, 169, .lastore, 1, (0, 0, 0), 0, []),
  (219, 170, .iinc 6 1, 3, (6, 0, 0), 1, []),
  (219, 173, .goto (-32), 3, (141, 0, 0), 0, []),
  (219, 176, .iload 5, 2, (5, 0, 0), 0, []),
  (219, 178, .ireturn, 1, (0, 0, 0), 0, [])]
def rows_220 : List mRow := [
  (220, 0, .iload_n 0, 1, (0, 0, 0), 0, []),
  (220, 1, .iload_n 0, 1, (0, 0, 0), 0, []),
  (220, 2, .iconst 1, 1, (0, 0, 0), 1, []),
  (220, 3, .iushr, 1, (0, 0, 0), 0, []),
  (220, 4, .ldc_w 265, 3, (0, 0, 0), 1431655765, [(0, 456)]),
  (220, 7, .iand, 1, (0, 0, 0), 0, []),
  (220, 8, .isub, 1, (0, 0, 0), 0, []),
  (220, 9, .istore_n 0, 1, (0, 0, 0), 0, []),
  (220, 10, .iload_n 0, 1, (0, 0, 0), 0, []),
  (220, 11, .ldc_w 266, 3, (0, 0, 0), 858993459, [(0, 457)]),
  (220, 14, .iand, 1, (0, 0, 0), 0, []),
  (220, 15, .iload_n 0, 1, (0, 0, 0), 0, []),
  (220, 16, .iconst 2, 1, (0, 0, 0), 2, []),
  (220, 17, .iushr, 1, (0, 0, 0), 0, []),
  (220, 18, .ldc_w 266, 3, (0, 0, 0), 858993459, [(0, 457)]),
  (220, 21, .iand, 1, (0, 0, 0), 0, []),
  (220, 22, .iadd, 1, (0, 0, 0), 0, []),
  (220, 23, .istore_n 0, 1, (0, 0, 0), 0, []),
  (220, 24, .iload_n 0, 1, (0, 0, 0), 0, []),
  (220, 25, .iload_n 0, 1, (0, 0, 0), 0, []),
  (220, 26, .iconst 4, 1, (0, 0, 0), 4, []),
  (220, 27, .iushr, 1, (0, 0, 0), 0, []),
  (220, 28, .iadd, 1, (0, 0, 0), 0, []),
  (220, 29, .ldc_w 267, 3, (0, 0, 0), 252645135, [(0, 458)]),
  (220, 32, .iand, 1, (0, 0, 0), 0, []),
  (220, 33, .istore_n 0, 1, (0, 0, 0), 0, []),
  (220, 34, .iload_n 0, 1, (0, 0, 0), 0, []),
  (220, 35, .iload_n 0, 1, (0, 0, 0), 0, []),
  (220, 36, .bipush 8, 2, (0, 0, 0), 8, []),
  (220, 38, .iushr, 1, (0, 0, 0), 0, []),
  (220, 39, .iadd, 1, (0, 0, 0), 0, []),
  (220, 40, .istore_n 0, 1, (0, 0, 0), 0, []),
  (220, 41, .iload_n 0, 1, (0, 0, 0), 0, []),
  (220, 42, .iload_n 0, 1, (0, 0, 0), 0, []),
  (220, 43, .bipush 16, 2, (0, 0, 0), 16, []),
  (220, 45, .iushr, 1, (0, 0, 0), 0, []),
  (220, 46, .iadd, 1, (0, 0, 0), 0, []),
  (220, 47, .istore_n 0, 1, (0, 0, 0), 0, []),
  (220, 48, .iload_n 0, 1, (0, 0, 0), 0, []),
  (220, 49, .bipush 63, 2, (0, 0, 0), 63, []),
  (220, 51, .iand, 1, (0, 0, 0), 0, []),
  (220, 52, .ireturn, 1, (0, 0, 0), 0, [])]
def rows_221 : List mRow := [
  (221, 0, .aload_n 0, 1, (0, 0, 0), 0, []),
  (221, 1, .getfield 9, 3, (60, 1, 1), 0, [(0, 1573)]),
  (221, 4, .arraylength, 1, (0, 0, 0), 0, []),
  (221, 5, .aload_n 0, 1, (0, 0, 0), 0, []),
  (221, 6, .invokevirtual 335, 3, (223, 1, 1), 0, [(0, 527)]),
  (221, 9, .ishr, 1, (0, 0, 0), 0, []),
  (221, 10, .ireturn, 1, (0, 0, 0), 0, [])]
def rows_222 : List mRow := [
  (222, 0, .aload_n 0, 1, (0, 0, 0), 0, []),
  (222, 1, .invokevirtual 492, 3, (224, 1, 1), 0, [(0, 537)]),
  (222, 4, .ifCond .eq 12, 3, (16, 0, 0), 0, []),
  (222, 7, .aload_n 0, 1, (0, 0, 0), 0, []),
  (222, 8, .getfield 9, 3, (60, 1, 1), 0, [(0, 1573)]),
  (222, 11, .iload_n 1, 1, (1, 0, 0), 0, []),
  (222, 12, .invokestatic 495, 3, (225, 2, 1), 0, [(0, 541)]),
  (222, 15, .ireturn, 1, (2, 0, 0), 0, []),
  (222, 16, .aload_n 0, 1, (0, 0, 0), 0, []),
  (222, 17, .getfield 9, 3, (60, 1, 1), 0, [(0, 1573)]),
  (222, 20, .iload_n 1, 1, (1, 0, 0), 0, []),
  (222, 24, .ireturn, 1, (2, 0, 0), 0, [])]
def rows_223 : List mRow := [
  (223, 0, .getstatic 38, 3, (0, 0, 0), 1, [(0, 531)]),
  (223, 3, .ifCond .eq 10, 3, (13, 0, 0), 0, []),
  (223, 6, .aload_n 0, 1, (0, 0, 0), 0, []),
  (223, 7, .getfield 15, 3, (60, 0, 0), 0, [(0, 1574)]),
  (223, 10, .goto 4, 3, (14, 0, 0), 0, []),
  (223, 13, .iconst 1, 1, (0, 0, 0), 1, []),
  (223, 14, .ireturn, 1, (3, 0, 0), 0, [])]
def rows_224 : List mRow := [
  (224, 0, .getstatic 38, 3, (0, 0, 0), 1, [(0, 531)]),
  (224, 3, .ifCond .eq 14, 3, (17, 0, 0), 0, []),
  (224, 6, .aload_n 0, 1, (0, 0, 0), 0, []),
  (224, 7, .getfield 15, 3, (60, 0, 0), 0, [(0, 1574)]),
  (224, 10, .ifCond .ne 7, 3, (17, 0, 0), 0, []),
  (224, 13, .iconst 1, 1, (0, 0, 0), 1, []),
  (224, 14, .goto 4, 3, (18, 0, 0), 0, []),
  (224, 17, .iconst 0, 1, (0, 0, 0), 0, []),
  (224, 18, .ireturn, 1, (1, 0, 0), 0, [])]
def rows_225 : List mRow := [
  (225, 0, .iload_n 1, 1, (1, 0, 0), 0, []),
  (225, 1, .aload_n 0, 1, (0, 0, 0), 0, []),
  (225, 2, .arraylength, 1, (0, 0, 0), 0, []),
  (225, 3, .invokestatic 9, 3, (0, 0, 0), 4, [(0, 544)]),
  (225, 6, .aload_n 0, 1, (0, 0, 0), 0, []),
  (225, 7, .iload_n 1, 1, (1, 0, 0), 0, []),
  (225, 8, .baload, 1, (0, 0, 0), 0, []),
  (225, 9, .sipush 255, 3, (0, 0, 0), 255, []),
  (225, 12, .iand, 1, (0, 0, 0), 0, []),
  (225, 13, .i2c, 1, (0, 0, 0), 0, []),
  (225, 14, .ireturn, 1, (2, 0, 0), 0, [])]
def rows_226 : List mRow := [
  (226, 0, .iconst 0, 1, (0, 0, 0), 0, []),
  (226, 1, .istore_n 3, 1, (3, 0, 0), 0, []),
  (226, 2, .aload_n 0, 1, (0, 0, 0), 0, []),
  (226, 3, .arraylength, 1, (0, 0, 0), 0, []),
  (226, 4, .istore 4, 2, (4, 0, 0), 0, []),
  (226, 6, .iload_n 3, 1, (3, 0, 0), 0, []),
  (226, 7, .iload 4, 2, (4, 0, 0), 0, []),
  (226, 9, .if_icmp .ge 13, 3, (22, 0, 0), 0, []),
  (226, 12, .aload_n 0, 1, (0, 0, 0), 0, []),
  (226, 13, .iload_n 3, 1, (3, 0, 0), 0, []),
  (226, 14, .lload_n 1, 1, (1, 0, 0), 0, []),
  (226, 15, .lastore, 1, (0, 0, 0), 0, []),
  (226, 16, .iinc 3 1, 3, (3, 0, 0), 1, []),
  (226, 19, .goto (-13), 3, (6, 0, 0), 0, []),
  (226, 22, .return_, 1, (0, 0, 0), 0, [])]
def rows_227 : List mRow := [
  (227, 0, .iconst 0, 1, (0, 0, 0), 0, []),
  (227, 1, .istore_n 2, 1, (2, 0, 0), 0, []),
  (227, 2, .aload_n 0, 1, (0, 0, 0), 0, []),
  (227, 3, .arraylength, 1, (0, 0, 0), 0, []),
  (227, 4, .istore_n 3, 1, (3, 0, 0), 0, []),
  (227, 5, .iload_n 2, 1, (2, 0, 0), 0, []),
  (227, 6, .iload_n 3, 1, (3, 0, 0), 0, []),
  (227, 7, .if_icmp .ge 13, 3, (20, 0, 0), 0, []),
  (227, 10, .aload_n 0, 1, (0, 0, 0), 0, []),
  (227, 11, .iload_n 2, 1, (2, 0, 0), 0, []),
  (227, 12, .iload_n 1, 1, (1, 0, 0), 0, []),
  (227, 13, .iastore, 1, (0, 0, 0), 0, []),
  (227, 14, .iinc 2 1, 3, (2, 0, 0), 1, []),
  (227, 17, .goto (-12), 3, (5, 0, 0), 0, []),
  (227, 20, .return_, 1, (0, 0, 0), 0, [])]
set_option maxRecDepth 100000 in
def rows_228 : List mRow := [
  (228, 0, .new 7, 3, (8, 10, 0), 0, [(0, 105)]),
  (228, 3, .dup, 1, (0, 0, 0), 0, []),
  (228, 4, .invokespecial 9, 3, (66, 1, 0), 0, [(0, 107)]),
  (228, 7, .astore_n 1, 1, (1, 0, 0), 0, []),
  (228, 8, .new 10, 3, (9, 80, 0), 0, [(0, 907)]),
  (228, 11, .dup, 1, (0, 0, 0), 0, []),
  (228, 12, .invokespecial 12, 3, (115, 1, 0), 0, [(0, 909)]),
  (228, 15, .astore_n 2, 1, (2, 0, 0), 0, []),
  (228, 16, .iconst 0, 1, (0, 0, 0), 0, []),
  (228, 17, .istore_n 3, 1, (3, 0, 0), 0, []),
  (228, 18, .iload_n 3, 1, (3, 0, 0), 0, []),
  (228, 19, .aload_n 0, 1, (0, 0, 0), 0, []),
  (228, 20, .arraylength, 1, (0, 0, 0), 0, []),
  (228, 21, .bipush 6, 2, (0, 0, 0), 6, []),
  (228, 23, .isub, 1, (0, 0, 0), 0, []),
  (228, 24, .if_icmp .gt 1441, 3, (1465, 0, 0), 0, []),
  (228, 27, .aload_n 0, 1, (0, 0, 0), 0, []),
  (228, 28, .iload_n 3, 1, (3, 0, 0), 0, []),
  (228, 29, .iaload, 1, (0, 0, 0), 0, []),
  (228, 30, .bipush 63, 2, (0, 0, 0), 63, []),
  (228, 32, .iand, 1, (0, 0, 0), 0, []),
  (228, 33, .tableswitch 1426 0 37 #[167, 210, 243, 286, 335, 378, 401, 424, 437, 460, 483, 516, 549, 582, 605, 638, 661, 684, 753, 776, 819, 852, 896, 930, 963, 986, 1019, 1032, 1065, 1078, 1091, 1134, 1157, 1190, 1213, 1256, 1329, 1363], 167, (1459, 0, 0), 0, [(0, 200), (1, 243), (2, 276), (3, 319), (4, 368), (5, 411), (6, 434), (7, 457), (8, 470), (9, 493), (10, 516), (11, 549), (12, 582), (13, 615), (14, 638), (15, 671), (16, 694), (17, 717), (18, 786), (19, 809), (20, 852), (21, 885), (22, 929), (23, 963), (24, 996), (25, 1019), (26, 1052), (27, 1065), (28, 1098), (29, 1111), (30, 1124), (31, 1167), (32, 1190), (33, 1223), (34, 1246), (35, 1289), (36, 1362), (37, 1396)]),
  (228, 200, .aload_n 1, 1, (1, 0, 0), 0, []),
  (228, 201, .aload_n 0, 1, (0, 0, 0), 0, []),
  (228, 202, .iload_n 3, 1, (3, 0, 0), 0, []),
  (228, 203, .iconst 1, 1, (0, 0, 0), 1, []),
  (228, 204, .iadd, 1, (0, 0, 0), 0, []),
  (228, 205, .iaload, 1, (0, 0, 0), 0, []),
  (228, 206, .aload_n 0, 1, (0, 0, 0), 0, []),
  (228, 207, .iload_n 3, 1, (3, 0, 0), 0, []),
  (228, 208, .iconst 2, 1, (0, 0, 0), 2, []),
  (228, 209, .iadd, 1, (0, 0, 0), 0, []),
  (228, 210, .iaload, 1, (0, 0, 0), 0, []),
  (228, 211, .aload_n 0, 1, (0, 0, 0), 0, []),
  (228, 212, .iload_n 3, 1, (3, 0, 0), 0, []),
  (228, 213, .iconst 3, 1, (0, 0, 0), 3, []),
  (228, 214, .iadd, 1, (0, 0, 0), 0, []),
  (228, 215, .iaload, 1, (0, 0, 0), 0, []),
  (228, 216, .invokevirtual 13, 3, (67, 4, 1), 0, [(0, 386)]),
  (228, 219, .aload_n 2, 1, (2, 0, 0), 0, []),
  (228, 220, .aload_n 0, 1, (0, 0, 0), 0, []),
  (228, 221, .iload_n 3, 1, (3, 0, 0), 0, []),
  (228, 222, .iconst 1, 1, (0, 0, 0), 1, []),
  (228, 223, .iadd, 1, (0, 0, 0), 0, []),
  (228, 224, .iaload, 1, (0, 0, 0), 0, []),
  (228, 225, .aload_n 0, 1, (0, 0, 0), 0, []),
  (228, 226, .iload_n 3, 1, (3, 0, 0), 0, []),
  (228, 227, .iconst 2, 1, (0, 0, 0), 2, []),
  (228, 228, .iadd, 1, (0, 0, 0), 0, []),
  (228, 229, .iaload, 1, (0, 0, 0), 0, []),
  (228, 230, .aload_n 0, 1, (0, 0, 0), 0, []),
  (228, 231, .iload_n 3, 1, (3, 0, 0), 0, []),
  (228, 232, .iconst 3, 1, (0, 0, 0), 3, []),
  (228, 233, .iadd, 1, (0, 0, 0), 0, []),
  (228, 234, .iaload, 1, (0, 0, 0), 0, []),
  (228, 235, .invokevirtual 17, 3, (123, 4, 1), 0, [(0, 1155)]),
  (228, 238, .if_icmp .eq 1221, 3, (1459, 0, 0), 0, []),
  (228, 241, .iconst 0, 1, (0, 0, 0), 0, []),
  (228, 242, .ireturn, 1, (1, 0, 0), 0, []),
  (228, 243, .aload_n 1, 1, (1, 0, 0), 0, []),
  (228, 244, .aload_n 0, 1, (0, 0, 0), 0, []),
  (228, 245, .iload_n 3, 1, (3, 0, 0), 0, []),
  (228, 246, .iconst 1, 1, (0, 0, 0), 1, []),
  (228, 247, .iadd, 1, (0, 0, 0), 0, []),
  (228, 248, .iaload, 1, (0, 0, 0), 0, []),
  (228, 249, .aload_n 0, 1, (0, 0, 0), 0, []),
  (228, 250, .iload_n 3, 1, (3, 0, 0), 0, []),
  (228, 251, .iconst 2, 1, (0, 0, 0), 2, []),
  (228, 252, .iadd, 1, (0, 0, 0), 0, []),
  (228, 253, .iaload, 1, (0, 0, 0), 0, []),
  (228, 254, .invokevirtual 18, 3, (68, 3, 1), 0, [(0, 397)]),
  (228, 257, .aload_n 2, 1, (2, 0, 0), 0, []),
  (228, 258, .aload_n 0, 1, (0, 0, 0), 0, []),
  (228, 259, .iload_n 3, 1, (3, 0, 0), 0, []),
  (228, 260, .iconst 1, 1, (0, 0, 0), 1, []),
  (228, 261, .iadd, 1, (0, 0, 0), 0, []),
  (228, 262, .iaload, 1, (0, 0, 0), 0, []),
  (228, 263, .aload_n 0, 1, (0, 0, 0), 0, []),
  (228, 264, .iload_n 3, 1, (3, 0, 0), 0, []),
  (228, 265, .iconst 2, 1, (0, 0, 0), 2, []),
  (228, 266, .iadd, 1, (0, 0, 0), 0, []),
  (228, 267, .iaload, 1, (0, 0, 0), 0, []),
  (228, 268, .invokevirtual 22, 3, (162, 3, 1), 0, [(0, 1263)]),
  (228, 271, .if_icmp .eq 1188, 3, (1459, 0, 0), 0, []),
  (228, 274, .iconst 0, 1, (0, 0, 0), 0, []),
  (228, 275, .ireturn, 1, (1, 0, 0), 0, []),
  (228, 276, .aload_n 1, 1, (1, 0, 0), 0, []),
  (228, 277, .aload_n 0, 1, (0, 0, 0), 0, []),
  (228, 278, .iload_n 3, 1, (3, 0, 0), 0, []),
  (228, 279, .iconst 1, 1, (0, 0, 0), 1, []),
  (228, 280, .iadd, 1, (0, 0, 0), 0, []),
  (228, 281, .iaload, 1, (0, 0, 0), 0, []),
  (228, 282, .aload_n 0, 1, (0, 0, 0), 0, []),
  (228, 283, .iload_n 3, 1, (3, 0, 0), 0, []),
  (228, 284, .iconst 2, 1, (0, 0, 0), 2, []),
  (228, 285, .iadd, 1, (0, 0, 0), 0, []),
  (228, 286, .iaload, 1, (0, 0, 0), 0, []),
  (228, 287, .aload_n 0, 1, (0, 0, 0), 0, []),
  (228, 288, .iload_n 3, 1, (3, 0, 0), 0, []),
  (228, 289, .iconst 3, 1, (0, 0, 0), 3, []),
  (228, 290, .iadd, 1, (0, 0, 0), 0, []),
  (228, 291, .iaload, 1, (0, 0, 0), 0, []),
  (228, 292, .invokevirtual 23, 3, (69, 4, 1), 0, [(0, 464)]),
  (228, 295, .aload_n 2, 1, (2, 0, 0), 0, []),
  (228, 296, .aload_n 0, 1, (0, 0, 0), 0, []),
  (228, 297, .iload_n 3, 1, (3, 0, 0), 0, []),
  (228, 298, .iconst 1, 1, (0, 0, 0), 1, []),
  (228, 299, .iadd, 1, (0, 0, 0), 0, []),
  (228, 300, .iaload, 1, (0, 0, 0), 0, []),
  (228, 301, .aload_n 0, 1, (0, 0, 0), 0, []),
  (228, 302, .iload_n 3, 1, (3, 0, 0), 0, []),
  (228, 303, .iconst 2, 1, (0, 0, 0), 2, []),
  (228, 304, .iadd, 1, (0, 0, 0), 0, []),
  (228, 305, .iaload, 1, (0, 0, 0), 0, []),
  (228, 306, .aload_n 0, 1, (0, 0, 0), 0, []),
  (228, 307, .iload_n 3, 1, (3, 0, 0), 0, []),
  (228, 308, .iconst 3, 1, (0, 0, 0), 3, []),
  (228, 309, .iadd, 1, (0, 0, 0), 0, []),
  (228, 310, .iaload, 1, (0, 0, 0), 0, []),
  (228, 311, .invokevirtual 26, 3, (124, 4, 1), 0, [(0, 1163)]),
  (228, 314, .if_icmp .eq 1145, 3, (1459, 0, 0), 0, []),
  (228, 317, .iconst 0, 1, (0, 0, 0), 0, []),
  (228, 318, .ireturn, 1, (1, 0, 0), 0, []),
  (228, 319, .aload_n 1, 1, (1, 0, 0), 0, []),
  (228, 320, .aload_n 0, 1, (0, 0, 0), 0, []),
  (228, 321, .iload_n 3, 1, (3, 0, 0), 0, []),
  (228, 322, .iconst 1, 1, (0, 0, 0), 1, []),
  (228, 323, .iadd, 1, (0, 0, 0), 0, []),
  (228, 324, .iaload, 1, (0, 0, 0), 0, []),
  (228, 325, .aload_n 0, 1, (0, 0, 0), 0, []),
  (228, 326, .iload_n 3, 1, (3, 0, 0), 0, []),
  (228, 327, .iconst 2, 1, (0, 0, 0), 2, []),
  (228, 328, .iadd, 1, (0, 0, 0), 0, []),
  (228, 329, .iaload, 1, (0, 0, 0), 0, []),
  (228, 330, .ifCond .eq 7, 3, (337, 0, 0), 0, []),
  (228, 333, .iconst 1, 1, (0, 0, 0), 1, []),
  (228, 334, .goto 4, 3, (338, 0, 0), 0, []),
  (228, 337, .iconst 0, 1, (0, 0, 0), 0, []),
  (228, 338, .invokevirtual 27, 3, (70, 3, 1), 0, [(0, 471)]),
  (228, 341, .aload_n 2, 1, (2, 0, 0), 0, []),
  (228, 342, .aload_n 0, 1, (0, 0, 0), 0, []),
  (228, 343, .iload_n 3, 1, (3, 0, 0), 0, []),
  (228, 344, .iconst 1, 1, (0, 0, 0), 1, []),
  (228, 345, .iadd, 1, (0, 0, 0), 0, []),
  (228, 346, .iaload, 1, (0, 0, 0), 0, []),
  (228, 347, .aload_n 0, 1, (0, 0, 0), 0, []),
  (228, 348, .iload_n 3, 1, (3, 0, 0), 0, []),
  (228, 349, .iconst 2, 1, (0, 0, 0), 2, []),
  (228, 350, .iadd, 1, (0, 0, 0), 0, []),
  (228, 351, .iaload, 1, (0, 0, 0), 0, []),
  (228, 352, .ifCond .eq 7, 3, (359, 0, 0), 0, []),
  (228, 355, .iconst 1, 1, (0, 0, 0), 1, []),
  (228, 356, .goto 4, 3, (360, 0, 0), 0, []),
  (228, 359, .iconst 0, 1, (0, 0, 0), 0, []),
  (228, 360, .invokevirtual 31, 3, (126, 3, 1), 0, [(0, 1175)]),
  (228, 363, .if_icmp .eq 1096, 3, (1459, 0, 0), 0, []),
  (228, 366, .iconst 0, 1, (0, 0, 0), 0, []),
  (228, 367, .ireturn, 1, (1, 0, 0), 0, []),
  (228, 368, .aload_n 1, 1, (1, 0, 0), 0, []),
  (228, 369, .aload_n 0, 1, (0, 0, 0), 0, []),
  (228, 370, .iload_n 3, 1, (3, 0, 0), 0, []),
  (228, 371, .iconst 1, 1, (0, 0, 0), 1, []),
  (228, 372, .iadd, 1, (0, 0, 0), 0, []),
  (228, 373, .iaload, 1, (0, 0, 0), 0, []),
  (228, 374, .aload_n 0, 1, (0, 0, 0), 0, []),
  (228, 375, .iload_n 3, 1, (3, 0, 0), 0, []),
  (228, 376, .iconst 2, 1, (0, 0, 0), 2, []),
  (228, 377, .iadd, 1, (0, 0, 0), 0, []),
  (228, 378, .iaload, 1, (0, 0, 0), 0, []),
  (228, 379, .aload_n 0, 1, (0, 0, 0), 0, []),
  (228, 380, .iload_n 3, 1, (3, 0, 0), 0, []),
  (228, 381, .iconst 3, 1, (0, 0, 0), 3, []),
  (228, 382, .iadd, 1, (0, 0, 0), 0, []),
  (228, 383, .iaload, 1, (0, 0, 0), 0, []),
  (228, 384, .invokevirtual 32, 3, (71, 4, 1), 0, [(0, 475)]),
  (228, 387, .aload_n 2, 1, (2, 0, 0), 0, []),
  (228, 388, .aload_n 0, 1, (0, 0, 0), 0, []),
  (228, 389, .iload_n 3, 1, (3, 0, 0), 0, []),
  (228, 390, .iconst 1, 1, (0, 0, 0), 1, []),
  (228, 391, .iadd, 1, (0, 0, 0), 0, []),
  (228, 392, .iaload, 1, (0, 0, 0), 0, []),
  (228, 393, .aload_n 0, 1, (0, 0, 0), 0, []),
  (228, 394, .iload_n 3, 1, (3, 0, 0), 0, []),
  (228, 395, .iconst 2, 1, (0, 0, 0), 2, []),
  (228, 396, .iadd, 1, (0, 0, 0), 0, []),
  (228, 397, .iaload, 1, (0, 0, 0), 0, []),
  (228, 398, .aload_n 0, 1, (0, 0, 0), 0, []),
  (228, 399, .iload_n 3, 1, (3, 0, 0), 0, []),
  (228, 400, .iconst 3, 1, (0, 0, 0), 3, []),
  (228, 401, .iadd, 1, (0, 0, 0), 0, []),
  (228, 402, .iaload, 1, (0, 0, 0), 0, []),
  (228, 403, .invokevirtual 35, 3, (127, 4, 1), 0, [(0, 1187)]),
  (228, 406, .if_icmp .eq 1053, 3, (1459, 0, 0), 0, []),
  (228, 409, .iconst 0, 1, (0, 0, 0), 0, []),
  (228, 410, .ireturn, 1, (1, 0, 0), 0, []),
  (228, 411, .aload_n 1, 1, (1, 0, 0), 0, []),
  (228, 412, .aload_n 0, 1, (0, 0, 0), 0, []),
  (228, 413, .iload_n 3, 1, (3, 0, 0), 0, []),
  (228, 414, .iconst 1, 1, (0, 0, 0), 1, []),
  (228, 415, .iadd, 1, (0, 0, 0), 0, []),
  (228, 416, .iaload, 1, (0, 0, 0), 0, []),
  (228, 417, .invokevirtual 36, 3, (72, 2, 1), 0, [(0, 479)]),
  (228, 420, .aload_n 2, 1, (2, 0, 0), 0, []),
  (228, 421, .aload_n 0, 1, (0, 0, 0), 0, []),
  (228, 422, .iload_n 3, 1, (3, 0, 0), 0, []),
  (228, 423, .iconst 1, 1, (0, 0, 0), 1, []),
  (228, 424, .iadd, 1, (0, 0, 0), 0, []),
  (228, 425, .iaload, 1, (0, 0, 0), 0, []),
  (228, 426, .invokevirtual 40, 3, (128, 2, 1), 0, [(0, 1191)]),
  (228, 429, .if_icmp .eq 1030, 3, (1459, 0, 0), 0, []),
  (228, 432, .iconst 0, 1, (0, 0, 0), 0, []),
  (228, 433, .ireturn, 1, (1, 0, 0), 0, []),
  (228, 434, .aload_n 1, 1, (1, 0, 0), 0, []),
  (228, 435, .aload_n 0, 1, (0, 0, 0), 0, []),
  (228, 436, .iload_n 3, 1, (3, 0, 0), 0, []),
  (228, 437, .iconst 1, 1, (0, 0, 0), 1, []),
  (228, 438, .iadd, 1, (0, 0, 0), 0, []),
  (228, 439, .iaload, 1, (0, 0, 0), 0, []),
  (228, 440, .invokevirtual 41, 3, (73, 2, 1), 0, [(0, 486)]),
  (228, 443, .aload_n 2, 1, (2, 0, 0), 0, []),
  (228, 444, .aload_n 0, 1, (0, 0, 0), 0, []),
  (228, 445, .iload_n 3, 1, (3, 0, 0), 0, []),
  (228, 446, .iconst 1, 1, (0, 0, 0), 1, []),
  (228, 447, .iadd, 1, (0, 0, 0), 0, []),
  (228, 448, .iaload, 1, (0, 0, 0), 0, []),
  (228, 449, .invokevirtual 44, 3, (129, 2, 1), 0, [(0, 1199)]),
  (228, 452, .if_icmp .eq 1007, 3, (1459, 0, 0), 0, []),
  (228, 455, .iconst 0, 1, (0, 0, 0), 0, []),
  (228, 456, .ireturn, 1, (1, 0, 0), 0, []),
  (228, 457, .aload_n 1, 1, (1, 0, 0), 0, []),
  (228, 458, .invokevirtual 45, 3, (74, 1, 1), 0, [(0, 490)]),
  (228, 461, .aload_n 2, 1, (2, 0, 0), 0, []),
  (228, 462, .invokevirtual 49, 3, (144, 1, 1), 0, [(0, 1203)]),
  (228, 465, .if_icmp .eq 994, 3, (1459, 0, 0), 0, []),
  (228, 468, .iconst 0, 1, (0, 0, 0), 0, []),
  (228, 469, .ireturn, 1, (1, 0, 0), 0, []),
  (228, 470, .aload_n 1, 1, (1, 0, 0), 0, []),
  (228, 471, .aload_n 0, 1, (0, 0, 0), 0, []),
  (228, 472, .iload_n 3, 1, (3, 0, 0), 0, []),
  (228, 473, .iconst 1, 1, (0, 0, 0), 1, []),
  (228, 474, .iadd, 1, (0, 0, 0), 0, []),
  (228, 475, .iaload, 1, (0, 0, 0), 0, []),
  (228, 476, .invokevirtual 50, 3, (75, 2, 1), 0, [(0, 610)]),
  (228, 479, .aload_n 2, 1, (2, 0, 0), 0, []),
  (228, 480, .aload_n 0, 1, (0, 0, 0), 0, []),
  (228, 481, .iload_n 3, 1, (3, 0, 0), 0, []),
  (228, 482, .iconst 1, 1, (0, 0, 0), 1, []),
  (228, 483, .iadd, 1, (0, 0, 0), 0, []),
  (228, 484, .iaload, 1, (0, 0, 0), 0, []),
  (228, 485, .invokevirtual 53, 3, (163, 2, 1), 0, [(0, 1335)]),
  (228, 488, .if_icmp .eq 971, 3, (1459, 0, 0), 0, []),
  (228, 491, .iconst 0, 1, (0, 0, 0), 0, []),
  (228, 492, .ireturn, 1, (1, 0, 0), 0, []),
  (228, 493, .aload_n 1, 1, (1, 0, 0), 0, []),
  (228, 494, .aload_n 0, 1, (0, 0, 0), 0, []),
  (228, 495, .iload_n 3, 1, (3, 0, 0), 0, []),
  (228, 496, .iconst 1, 1, (0, 0, 0), 1, []),
  (228, 497, .iadd, 1, (0, 0, 0), 0, []),
  (228, 498, .iaload, 1, (0, 0, 0), 0, []),
  (228, 499, .invokevirtual 54, 3, (76, 2, 1), 0, [(0, 619)]),
  (228, 502, .aload_n 2, 1, (2, 0, 0), 0, []),
  (228, 503, .aload_n 0, 1, (0, 0, 0), 0, []),
  (228, 504, .iload_n 3, 1, (3, 0, 0), 0, []),
  (228, 505, .iconst 1, 1, (0, 0, 0), 1, []),
  (228, 506, .iadd, 1, (0, 0, 0), 0, []),
  (228, 507, .iaload, 1, (0, 0, 0), 0, []),
  (228, 508, .invokevirtual 57, 3, (166, 2, 1), 0, [(0, 1343)]),
  (228, 511, .if_icmp .eq 948, 3, (1459, 0, 0), 0, []),
  (228, 514, .iconst 0, 1, (0, 0, 0), 0, []),
  (228, 515, .ireturn, 1, (1, 0, 0), 0, []),
  (228, 516, .aload_n 1, 1, (1, 0, 0), 0, []),
  (228, 517, .aload_n 0, 1, (0, 0, 0), 0, []),
  (228, 518, .iload_n 3, 1, (3, 0, 0), 0, []),
  (228, 519, .iconst 1, 1, (0, 0, 0), 1, []),
  (228, 520, .iadd, 1, (0, 0, 0), 0, []),
  (228, 521, .iaload, 1, (0, 0, 0), 0, []),
  (228, 522, .aload_n 0, 1, (0, 0, 0), 0, []),
  (228, 523, .iload_n 3, 1, (3, 0, 0), 0, []),
  (228, 524, .iconst 2, 1, (0, 0, 0), 2, []),
  (228, 525, .iadd, 1, (0, 0, 0), 0, []),
  (228, 526, .iaload, 1, (0, 0, 0), 0, []),
  (228, 527, .invokevirtual 58, 3, (77, 3, 1), 0, [(0, 630)]),
  (228, 530, .aload_n 2, 1, (2, 0, 0), 0, []),
  (228, 531, .aload_n 0, 1, (0, 0, 0), 0, []),
  (228, 532, .iload_n 3, 1, (3, 0, 0), 0, []),
  (228, 533, .iconst 1, 1, (0, 0, 0), 1, []),
  (228, 534, .iadd, 1, (0, 0, 0), 0, []),
  (228, 535, .iaload, 1, (0, 0, 0), 0, []),
  (228, 536, .aload_n 0, 1, (0, 0, 0), 0, []),
  (228, 537, .iload_n 3, 1, (3, 0, 0), 0, []),
  (228, 538, .iconst 2, 1, (0, 0, 0), 2, []),
  (228, 539, .iadd, 1, (0, 0, 0), 0, []),
  (228, 540, .iaload, 1, (0, 0, 0), 0, []),
  (228, 541, .invokevirtual 61, 3, (169, 3, 1), 0, [(0, 1359)]),
  (228, 544, .if_icmp .eq 915, 3, (1459, 0, 0), 0, []),
  (228, 547, .iconst 0, 1, (0, 0, 0), 0, []),
  (228, 548, .ireturn, 1, (1, 0, 0), 0, []),
  (228, 549, .aload_n 1, 1, (1, 0, 0), 0, []),
  (228, 550, .aload_n 0, 1, (0, 0, 0), 0, []),
  (228, 551, .iload_n 3, 1, (3, 0, 0), 0, []),
  (228, 552, .iconst 1, 1, (0, 0, 0), 1, []),
  (228, 553, .iadd, 1, (0, 0, 0), 0, []),
  (228, 554, .iaload, 1, (0, 0, 0), 0, []),
  (228, 555, .aload_n 0, 1, (0, 0, 0), 0, []),
  (228, 556, .iload_n 3, 1, (3, 0, 0), 0, []),
  (228, 557, .iconst 2, 1, (0, 0, 0), 2, []),
  (228, 558, .iadd, 1, (0, 0, 0), 0, []),
  (228, 559, .iaload, 1, (0, 0, 0), 0, []),
  (228, 560, .invokevirtual 62, 3, (78, 3, 1), 0, [(0, 646)]),
  (228, 563, .aload_n 2, 1, (2, 0, 0), 0, []),
  (228, 564, .aload_n 0, 1, (0, 0, 0), 0, []),
  (228, 565, .iload_n 3, 1, (3, 0, 0), 0, []),
  (228, 566, .iconst 1, 1, (0, 0, 0), 1, []),
  (228, 567, .iadd, 1, (0, 0, 0), 0, []),
  (228, 568, .iaload, 1, (0, 0, 0), 0, []),
  (228, 569, .aload_n 0, 1, (0, 0, 0), 0, []),
  (228, 570, .iload_n 3, 1, (3, 0, 0), 0, []),
  (228, 571, .iconst 2, 1, (0, 0, 0), 2, []),
  (228, 572, .iadd, 1, (0, 0, 0), 0, []),
  (228, 573, .iaload, 1, (0, 0, 0), 0, []),
  (228, 574, .invokevirtual 65, 3, (171, 3, 1), 0, [(0, 1371)]),
  (228, 577, .if_icmp .eq 882, 3, (1459, 0, 0), 0, []),
  (228, 580, .iconst 0, 1, (0, 0, 0), 0, []),
  (228, 581, .ireturn, 1, (1, 0, 0), 0, []),
  (228, 582, .aload_n 1, 1, (1, 0, 0), 0, []),
  (228, 583, .aload_n 0, 1, (0, 0, 0), 0, []),
  (228, 584, .iload_n 3, 1, (3, 0, 0), 0, []),
  (228, 585, .iconst 1, 1, (0, 0, 0), 1, []),
  (228, 586, .iadd, 1, (0, 0, 0), 0, []),
  (228, 587, .iaload, 1, (0, 0, 0), 0, []),
  (228, 588, .aload_n 0, 1, (0, 0, 0), 0, []),
  (228, 589, .iload_n 3, 1, (3, 0, 0), 0, []),
  (228, 590, .iconst 2, 1, (0, 0, 0), 2, []),
  (228, 591, .iadd, 1, (0, 0, 0), 0, []),
  (228, 592, .iaload, 1, (0, 0, 0), 0, []),
  (228, 593, .invokevirtual 66, 3, (79, 3, 1), 0, [(0, 650)]),
  (228, 596, .aload_n 2, 1, (2, 0, 0), 0, []),
  (228, 597, .aload_n 0, 1, (0, 0, 0), 0, []),
  (228, 598, .iload_n 3, 1, (3, 0, 0), 0, []),
  (228, 599, .iconst 1, 1, (0, 0, 0), 1, []),
  (228, 600, .iadd, 1, (0, 0, 0), 0, []),
  (228, 601, .iaload, 1, (0, 0, 0), 0, []),
  (228, 602, .aload_n 0, 1, (0, 0, 0), 0, []),
  (228, 603, .iload_n 3, 1, (3, 0, 0), 0, []),
  (228, 604, .iconst 2, 1, (0, 0, 0), 2, []),
  (228, 605, .iadd, 1, (0, 0, 0), 0, []),
  (228, 606, .iaload, 1, (0, 0, 0), 0, []),
  (228, 607, .invokevirtual 69, 3, (174, 3, 1), 0, [(0, 1379)]),
  (228, 610, .if_icmp .eq 849, 3, (1459, 0, 0), 0, []),
  (228, 613, .iconst 0, 1, (0, 0, 0), 0, []),
  (228, 614, .ireturn, 1, (1, 0, 0), 0, []),
  (228, 615, .aload_n 1, 1, (1, 0, 0), 0, []),
  (228, 616, .aload_n 0, 1, (0, 0, 0), 0, []),
  (228, 617, .iload_n 3, 1, (3, 0, 0), 0, []),
  (228, 618, .iconst 1, 1, (0, 0, 0), 1, []),
  (228, 619, .iadd, 1, (0, 0, 0), 0, []),
  (228, 620, .iaload, 1, (0, 0, 0), 0, []),
  (228, 621, .invokevirtual 70, 3, (80, 2, 1), 0, [(0, 666)]),
  (228, 624, .aload_n 2, 1, (2, 0, 0), 0, []),
  (228, 625, .aload_n 0, 1, (0, 0, 0), 0, []),
  (228, 626, .iload_n 3, 1, (3, 0, 0), 0, []),
  (228, 627, .iconst 1, 1, (0, 0, 0), 1, []),
  (228, 628, .iadd, 1, (0, 0, 0), 0, []),
  (228, 629, .iaload, 1, (0, 0, 0), 0, []),
  (228, 630, .invokevirtual 73, 3, (177, 2, 1), 0, [(0, 1391)]),
  (228, 633, .if_icmp .eq 826, 3, (1459, 0, 0), 0, []),
  (228, 636, .iconst 0, 1, (0, 0, 0), 0, []),
  (228, 637, .ireturn, 1, (1, 0, 0), 0, []),
  (228, 638, .aload_n 1, 1, (1, 0, 0), 0, []),
  (228, 639, .aload_n 0, 1, (0, 0, 0), 0, []),
  (228, 640, .iload_n 3, 1, (3, 0, 0), 0, []),
  (228, 641, .iconst 1, 1, (0, 0, 0), 1, []),
  (228, 642, .iadd, 1, (0, 0, 0), 0, []),
  (228, 643, .iaload, 1, (0, 0, 0), 0, []),
  (228, 644, .aload_n 0, 1, (0, 0, 0), 0, []),
  (228, 645, .iload_n 3, 1, (3, 0, 0), 0, []),
  (228, 646, .iconst 2, 1, (0, 0, 0), 2, []),
  (228, 647, .iadd, 1, (0, 0, 0), 0, []),
  (228, 648, .iaload, 1, (0, 0, 0), 0, []),
  (228, 649, .invokevirtual 74, 3, (81, 3, 1), 0, [(0, 688)]),
  (228, 652, .aload_n 2, 1, (2, 0, 0), 0, []),
  (228, 653, .aload_n 0, 1, (0, 0, 0), 0, []),
  (228, 654, .iload_n 3, 1, (3, 0, 0), 0, []),
  (228, 655, .iconst 1, 1, (0, 0, 0), 1, []),
  (228, 656, .iadd, 1, (0, 0, 0), 0, []),
  (228, 657, .iaload, 1, (0, 0, 0), 0, []),
  (228, 658, .aload_n 0, 1, (0, 0, 0), 0, []),
  (228, 659, .iload_n 3, 1, (3, 0, 0), 0, []),
  (228, 660, .iconst 2, 1, (0, 0, 0), 2, []),
  (228, 661, .iadd, 1, (0, 0, 0), 0, []),
  (228, 662, .iaload, 1, (0, 0, 0), 0, []),
  (228, 663, .invokevirtual 77, 3, (179, 3, 1), 0, [(0, 1403)]),
  (228, 666, .if_icmp .eq 793, 3, (1459, 0, 0), 0, []),
  (228, 669, .iconst 0, 1, (0, 0, 0), 0, []),
  (228, 670, .ireturn, 1, (1, 0, 0), 0, []),
  (228, 671, .aload_n 1, 1, (1, 0, 0), 0, []),
  (228, 672, .aload_n 0, 1, (0, 0, 0), 0, []),
  (228, 673, .iload_n 3, 1, (3, 0, 0), 0, []),
  (228, 674, .iconst 1, 1, (0, 0, 0), 1, []),
  (228, 675, .iadd, 1, (0, 0, 0), 0, []),
  (228, 676, .iaload, 1, (0, 0, 0), 0, []),
  (228, 677, .invokevirtual 78, 3, (82, 2, 1), 0, [(0, 701)]),
  (228, 680, .aload_n 2, 1, (2, 0, 0), 0, []),
  (228, 681, .aload_n 0, 1, (0, 0, 0), 0, []),
  (228, 682, .iload_n 3, 1, (3, 0, 0), 0, []),
  (228, 683, .iconst 1, 1, (0, 0, 0), 1, []),
  (228, 684, .iadd, 1, (0, 0, 0), 0, []),
  (228, 685, .iaload, 1, (0, 0, 0), 0, []),
  (228, 686, .invokevirtual 81, 3, (184, 2, 1), 0, [(0, 1411)]),
  (228, 689, .if_icmp .eq 770, 3, (1459, 0, 0), 0, []),
  (228, 692, .iconst 0, 1, (0, 0, 0), 0, []),
  (228, 693, .ireturn, 1, (1, 0, 0), 0, []),
  (228, 694, .aload_n 1, 1, (1, 0, 0), 0, []),
  (228, 695, .aload_n 0, 1, (0, 0, 0), 0, []),
  (228, 696, .iload_n 3, 1, (3, 0, 0), 0, []),
  (228, 697, .iconst 1, 1, (0, 0, 0), 1, []),
  (228, 698, .iadd, 1, (0, 0, 0), 0, []),
  (228, 699, .iaload, 1, (0, 0, 0), 0, []),
  (228, 700, .invokevirtual 82, 3, (83, 2, 1), 0, [(0, 726)]),
  (228, 703, .aload_n 2, 1, (2, 0, 0), 0, []),
  (228, 704, .aload_n 0, 1, (0, 0, 0), 0, []),
  (228, 705, .iload_n 3, 1, (3, 0, 0), 0, []),
  (228, 706, .iconst 1, 1, (0, 0, 0), 1, []),
  (228, 707, .iadd, 1, (0, 0, 0), 0, []),
  (228, 708, .iaload, 1, (0, 0, 0), 0, []),
  (228, 709, .invokevirtual 85, 3, (185, 2, 1), 0, [(0, 1431)]),
  (228, 712, .if_icmp .eq 747, 3, (1459, 0, 0), 0, []),
  (228, 715, .iconst 0, 1, (0, 0, 0), 0, []),
  (228, 716, .ireturn, 1, (1, 0, 0), 0, []),
  (228, 717, .aload_n 1, 1, (1, 0, 0), 0, []),
  (228, 718, .aload_n 0, 1, (0, 0, 0), 0, []),
  (228, 719, .iload_n 3, 1, (3, 0, 0), 0, []),
  (228, 720, .iconst 1, 1, (0, 0, 0), 1, []),
  (228, 721, .iadd, 1, (0, 0, 0), 0, []),
  (228, 722, .iaload, 1, (0, 0, 0), 0, []),
  (228, 723, .aload_n 0, 1, (0, 0, 0), 0, []),
  (228, 724, .iload_n 3, 1, (3, 0, 0), 0, []),
  (228, 725, .iconst 2, 1, (0, 0, 0), 2, []),
  (228, 726, .iadd, 1, (0, 0, 0), 0, []),
  (228, 727, .iaload, 1, (0, 0, 0), 0, []),
  (228, 728, .aload_n 0, 1, (0, 0, 0), 0, []),
  (228, 729, .iload_n 3, 1, (3, 0, 0), 0, []),
  (228, 730, .iconst 3, 1, (0, 0, 0), 3, []),
  (228, 731, .iadd, 1, (0, 0, 0), 0, []),
  (228, 732, .iaload, 1, (0, 0, 0), 0, []),
  (228, 733, .ifCond .eq 7, 3, (740, 0, 0), 0, []),
  (228, 736, .iconst 1, 1, (0, 0, 0), 1, []),
  (228, 737, .goto 4, 3, (741, 0, 0), 0, []),
  (228, 740, .iconst 0, 1, (0, 0, 0), 0, []),
  (228, 741, .aload_n 0, 1, (0, 0, 0), 0, []),
  (228, 742, .iload_n 3, 1, (3, 0, 0), 0, []),
  (228, 743, .iconst 4, 1, (0, 0, 0), 4, []),
  (228, 744, .iadd, 1, (0, 0, 0), 0, []),
  (228, 745, .iaload, 1, (0, 0, 0), 0, []),
  (228, 746, .invokevirtual 86, 3, (84, 5, 1), 0, [(0, 734)]),
  (228, 749, .aload_n 2, 1, (2, 0, 0), 0, []),
  (228, 750, .aload_n 0, 1, (0, 0, 0), 0, []),
  (228, 751, .iload_n 3, 1, (3, 0, 0), 0, []),
  (228, 752, .iconst 1, 1, (0, 0, 0), 1, []),
  (228, 753, .iadd, 1, (0, 0, 0), 0, []),
  (228, 754, .iaload, 1, (0, 0, 0), 0, []),
  (228, 755, .aload_n 0, 1, (0, 0, 0), 0, []),
  (228, 756, .iload_n 3, 1, (3, 0, 0), 0, []),
  (228, 757, .iconst 2, 1, (0, 0, 0), 2, []),
  (228, 758, .iadd, 1, (0, 0, 0), 0, []),
  (228, 759, .iaload, 1, (0, 0, 0), 0, []),
  (228, 760, .aload_n 0, 1, (0, 0, 0), 0, []),
  (228, 761, .iload_n 3, 1, (3, 0, 0), 0, []),
  (228, 762, .iconst 3, 1, (0, 0, 0), 3, []),
  (228, 763, .iadd, 1, (0, 0, 0), 0, []),
  (228, 764, .iaload, 1, (0, 0, 0), 0, []),
  (228, 765, .ifCond .eq 7, 3, (772, 0, 0), 0, []),
  (228, 768, .iconst 1, 1, (0, 0, 0), 1, []),
  (228, 769, .goto 4, 3, (773, 0, 0), 0, []),
  (228, 772, .iconst 0, 1, (0, 0, 0), 0, []),
  (228, 773, .aload_n 0, 1, (0, 0, 0), 0, []),
  (228, 774, .iload_n 3, 1, (3, 0, 0), 0, []),
  (228, 775, .iconst 4, 1, (0, 0, 0), 4, []),
  (228, 776, .iadd, 1, (0, 0, 0), 0, []),
  (228, 777, .iaload, 1, (0, 0, 0), 0, []),
  (228, 778, .invokevirtual 90, 3, (186, 5, 1), 0, [(0, 1435)]),
  (228, 781, .if_icmp .eq 678, 3, (1459, 0, 0), 0, []),
  (228, 784, .iconst 0, 1, (0, 0, 0), 0, []),
  (228, 785, .ireturn, 1, (1, 0, 0), 0, []),
  (228, 786, .aload_n 1, 1, (1, 0, 0), 0, []),
  (228, 787, .aload_n 0, 1, (0, 0, 0), 0, []),
  (228, 788, .iload_n 3, 1, (3, 0, 0), 0, []),
  (228, 789, .iconst 1, 1, (0, 0, 0), 1, []),
  (228, 790, .iadd, 1, (0, 0, 0), 0, []),
  (228, 791, .iaload, 1, (0, 0, 0), 0, []),
  (228, 792, .invokevirtual 91, 3, (85, 2, 1), 0, [(0, 746)]),
  (228, 795, .aload_n 2, 1, (2, 0, 0), 0, []),
  (228, 796, .aload_n 0, 1, (0, 0, 0), 0, []),
  (228, 797, .iload_n 3, 1, (3, 0, 0), 0, []),
  (228, 798, .iconst 1, 1, (0, 0, 0), 1, []),
  (228, 799, .iadd, 1, (0, 0, 0), 0, []),
  (228, 800, .iaload, 1, (0, 0, 0), 0, []),
  (228, 801, .invokevirtual 94, 3, (188, 2, 1), 0, [(0, 1439)]),
  (228, 804, .if_icmp .eq 655, 3, (1459, 0, 0), 0, []),
  (228, 807, .iconst 0, 1, (0, 0, 0), 0, []),
  (228, 808, .ireturn, 1, (1, 0, 0), 0, []),
  (228, 809, .aload_n 1, 1, (1, 0, 0), 0, []),
  (228, 810, .aload_n 0, 1, (0, 0, 0), 0, []),
  (228, 811, .iload_n 3, 1, (3, 0, 0), 0, []),
  (228, 812, .iconst 1, 1, (0, 0, 0), 1, []),
  (228, 813, .iadd, 1, (0, 0, 0), 0, []),
  (228, 814, .iaload, 1, (0, 0, 0), 0, []),
  (228, 815, .aload_n 0, 1, (0, 0, 0), 0, []),
  (228, 816, .iload_n 3, 1, (3, 0, 0), 0, []),
  (228, 817, .iconst 2, 1, (0, 0, 0), 2, []),
  (228, 818, .iadd, 1, (0, 0, 0), 0, []),
  (228, 819, .iaload, 1, (0, 0, 0), 0, []),
  (228, 820, .aload_n 0, 1, (0, 0, 0), 0, []),
  (228, 821, .iload_n 3, 1, (3, 0, 0), 0, []),
  (228, 822, .iconst 3, 1, (0, 0, 0), 3, []),
  (228, 823, .iadd, 1, (0, 0, 0), 0, []),
  (228, 824, .iaload, 1, (0, 0, 0), 0, []),
  (228, 825, .invokevirtual 95, 3, (86, 4, 1), 0, [(0, 763)]),
  (228, 828, .aload_n 2, 1, (2, 0, 0), 0, []),
  (228, 829, .aload_n 0, 1, (0, 0, 0), 0, []),
  (228, 830, .iload_n 3, 1, (3, 0, 0), 0, []),
  (228, 831, .iconst 1, 1, (0, 0, 0), 1, []),
  (228, 832, .iadd, 1, (0, 0, 0), 0, []),
  (228, 833, .iaload, 1, (0, 0, 0), 0, []),
  (228, 834, .aload_n 0, 1, (0, 0, 0), 0, []),
  (228, 835, .iload_n 3, 1, (3, 0, 0), 0, []),
  (228, 836, .iconst 2, 1, (0, 0, 0), 2, []),
  (228, 837, .iadd, 1, (0, 0, 0), 0, []),
  (228, 838, .iaload, 1, (0, 0, 0), 0, []),
  (228, 839, .aload_n 0, 1, (0, 0, 0), 0, []),
  (228, 840, .iload_n 3, 1, (3, 0, 0), 0, []),
  (228, 841, .iconst 3, 1, (0, 0, 0), 3, []),
  (228, 842, .iadd, 1, (0, 0, 0), 0, []),
  (228, 843, .iaload, 1, (0, 0, 0), 0, []),
  (228, 844, .invokevirtual 98, 3, (189, 4, 1), 0, [(0, 1447)]),
  (228, 847, .if_icmp .eq 612, 3, (1459, 0, 0), 0, []),
  (228, 850, .iconst 0, 1, (0, 0, 0), 0, []),
  (228, 851, .ireturn, 1, (1, 0, 0), 0, []),
  (228, 852, .aload_n 1, 1, (1, 0, 0), 0, []),
  (228, 853, .aload_n 0, 1, (0, 0, 0), 0, []),
  (228, 854, .iload_n 3, 1, (3, 0, 0), 0, []),
  (228, 855, .iconst 1, 1, (0, 0, 0), 1, []),
  (228, 856, .iadd, 1, (0, 0, 0), 0, []),
  (228, 857, .iaload, 1, (0, 0, 0), 0, []),
  (228, 858, .aload_n 0, 1, (0, 0, 0), 0, []),
  (228, 859, .iload_n 3, 1, (3, 0, 0), 0, []),
  (228, 860, .iconst 2, 1, (0, 0, 0), 2, []),
  (228, 861, .iadd, 1, (0, 0, 0), 0, []),
  (228, 862, .iaload, 1, (0, 0, 0), 0, []),
  (228, 863, .invokevirtual 99, 3, (87, 3, 1), 0, [(0, 773)]),
  (228, 866, .aload_n 2, 1, (2, 0, 0), 0, []),
  (228, 867, .aload_n 0, 1, (0, 0, 0), 0, []),
  (228, 868, .iload_n 3, 1, (3, 0, 0), 0, []),
  (228, 869, .iconst 1, 1, (0, 0, 0), 1, []),
  (228, 870, .iadd, 1, (0, 0, 0), 0, []),
  (228, 871, .iaload, 1, (0, 0, 0), 0, []),
  (228, 872, .aload_n 0, 1, (0, 0, 0), 0, []),
  (228, 873, .iload_n 3, 1, (3, 0, 0), 0, []),
  (228, 874, .iconst 2, 1, (0, 0, 0), 2, []),
  (228, 875, .iadd, 1, (0, 0, 0), 0, []),
  (228, 876, .iaload, 1, (0, 0, 0), 0, []),
  (228, 877, .invokevirtual 102, 3, (190, 3, 1), 0, [(0, 1451)]),
  (228, 880, .if_icmp .eq 579, 3, (1459, 0, 0), 0, []),
  (228, 883, .iconst 0, 1, (0, 0, 0), 0, []),
  (228, 884, .ireturn, 1, (1, 0, 0), 0, []),
  (228, 885, .aload_n 1, 1, (1, 0, 0), 0, []),
  (228, 886, .aload_n 0, 1, (0, 0, 0), 0, []),
  (228, 887, .iload_n 3, 1, (3, 0, 0), 0, []),
  (228, 888, .iconst 1, 1, (0, 0, 0), 1, []),
  (228, 889, .iadd, 1, (0, 0, 0), 0, []),
  (228, 890, .iaload, 1, (0, 0, 0), 0, []),
  (228, 891, .aload_n 0, 1, (0, 0, 0), 0, []),
  (228, 892, .iload_n 3, 1, (3, 0, 0), 0, []),
  (228, 893, .iconst 2, 1, (0, 0, 0), 2, []),
  (228, 894, .iadd, 1, (0, 0, 0), 0, []),
  (228, 895, .iaload, 1, (0, 0, 0), 0, []),
  (228, 896, .aload_n 0, 1, (0, 0, 0), 0, []),
  (228, 897, .iload_n 3, 1, (3, 0, 0), 0, []),
  (228, 898, .iconst 3, 1, (0, 0, 0), 3, []),
  (228, 899, .iadd, 1, (0, 0, 0), 0, []),
  (228, 900, .iaload, 1, (0, 0, 0), 0, []),
  (228, 901, .invokevirtual 103, 3, (88, 4, 2), 0, [(0, 777)]),
  (228, 904, .aload_n 2, 1, (2, 0, 0), 0, []),
  (228, 905, .aload_n 0, 1, (0, 0, 0), 0, []),
  (228, 906, .iload_n 3, 1, (3, 0, 0), 0, []),
  (228, 907, .iconst 1, 1, (0, 0, 0), 1, []),
  (228, 908, .iadd, 1, (0, 0, 0), 0, []),
  (228, 909, .iaload, 1, (0, 0, 0), 0, []),
  (228, 910, .aload_n 0, 1, (0, 0, 0), 0, []),
  (228, 911, .iload_n 3, 1, (3, 0, 0), 0, []),
  (228, 912, .iconst 2, 1, (0, 0, 0), 2, []),
  (228, 913, .iadd, 1, (0, 0, 0), 0, []),
  (228, 914, .iaload, 1, (0, 0, 0), 0, []),
  (228, 915, .aload_n 0, 1, (0, 0, 0), 0, []),
  (228, 916, .iload_n 3, 1, (3, 0, 0), 0, []),
  (228, 917, .iconst 3, 1, (0, 0, 0), 3, []),
  (228, 918, .iadd, 1, (0, 0, 0), 0, []),
  (228, 919, .iaload, 1, (0, 0, 0), 0, []),
  (228, 920, .invokevirtual 107, 3, (193, 4, 2), 0, [(0, 1455)]),
  (228, 923, .lcmp, 1, (0, 0, 0), 0, []),
  (228, 924, .ifCond .eq 535, 3, (1459, 0, 0), 0, []),
  (228, 927, .iconst 0, 1, (0, 0, 0), 0, []),
  (228, 928, .ireturn, 1, (1, 0, 0), 0, []),
  (228, 929, .aload_n 1, 1, (1, 0, 0), 0, []),
  (228, 930, .aload_n 0, 1, (0, 0, 0), 0, []),
  (228, 931, .iload_n 3, 1, (3, 0, 0), 0, []),
  (228, 932, .iconst 1, 1, (0, 0, 0), 1, []),
  (228, 933, .iadd, 1, (0, 0, 0), 0, []),
  (228, 934, .iaload, 1, (0, 0, 0), 0, []),
  (228, 935, .aload_n 0, 1, (0, 0, 0), 0, []),
  (228, 936, .iload_n 3, 1, (3, 0, 0), 0, []),
  (228, 937, .iconst 2, 1, (0, 0, 0), 2, []),
  (228, 938, .iadd, 1, (0, 0, 0), 0, []),
  (228, 939, .iaload, 1, (0, 0, 0), 0, []),
  (228, 940, .invokevirtual 108, 3, (89, 3, 2), 0, [(0, 785)]),
  (228, 943, .aload_n 2, 1, (2, 0, 0), 0, []),
  (228, 944, .aload_n 0, 1, (0, 0, 0), 0, []),
  (228, 945, .iload_n 3, 1, (3, 0, 0), 0, []),
  (228, 946, .iconst 1, 1, (0, 0, 0), 1, []),
  (228, 947, .iadd, 1, (0, 0, 0), 0, []),
  (228, 948, .iaload, 1, (0, 0, 0), 0, []),
  (228, 949, .aload_n 0, 1, (0, 0, 0), 0, []),
  (228, 950, .iload_n 3, 1, (3, 0, 0), 0, []),
  (228, 951, .iconst 2, 1, (0, 0, 0), 2, []),
  (228, 952, .iadd, 1, (0, 0, 0), 0, []),
  (228, 953, .iaload, 1, (0, 0, 0), 0, []),
  (228, 954, .invokevirtual 112, 3, (194, 3, 2), 0, [(0, 1468)]),
  (228, 957, .lcmp, 1, (0, 0, 0), 0, []),
  (228, 958, .ifCond .eq 501, 3, (1459, 0, 0), 0, []),
  (228, 961, .iconst 0, 1, (0, 0, 0), 0, []),
  (228, 962, .ireturn, 1, (1, 0, 0), 0, []),
  (228, 963, .aload_n 1, 1, (1, 0, 0), 0, []),
  (228, 964, .aload_n 0, 1, (0, 0, 0), 0, []),
  (228, 965, .iload_n 3, 1, (3, 0, 0), 0, []),
  (228, 966, .iconst 1, 1, (0, 0, 0), 1, []),
  (228, 967, .iadd, 1, (0, 0, 0), 0, []),
  (228, 968, .iaload, 1, (0, 0, 0), 0, []),
  (228, 969, .aload_n 0, 1, (0, 0, 0), 0, []),
  (228, 970, .iload_n 3, 1, (3, 0, 0), 0, []),
  (228, 971, .iconst 2, 1, (0, 0, 0), 2, []),
  (228, 972, .iadd, 1, (0, 0, 0), 0, []),
  (228, 973, .iaload, 1, (0, 0, 0), 0, []),
  (228, 974, .invokevirtual 113, 3, (90, 3, 1), 0, [(0, 789)]),
  (228, 977, .aload_n 2, 1, (2, 0, 0), 0, []),
  (228, 978, .aload_n 0, 1, (0, 0, 0), 0, []),
  (228, 979, .iload_n 3, 1, (3, 0, 0), 0, []),
  (228, 980, .iconst 1, 1, (0, 0, 0), 1, []),
  (228, 981, .iadd, 1, (0, 0, 0), 0, []),
  (228, 982, .iaload, 1, (0, 0, 0), 0, []),
  (228, 983, .aload_n 0, 1, (0, 0, 0), 0, []),
  (228, 984, .iload_n 3, 1, (3, 0, 0), 0, []),
  (228, 985, .iconst 2, 1, (0, 0, 0), 2, []),
  (228, 986, .iadd, 1, (0, 0, 0), 0, []),
  (228, 987, .iaload, 1, (0, 0, 0), 0, []),
  (228, 988, .invokevirtual 116, 3, (195, 3, 1), 0, [(0, 1472)]),
  (228, 991, .if_icmp .eq 468, 3, (1459, 0, 0), 0, []),
  (228, 994, .iconst 0, 1, (0, 0, 0), 0, []),
  (228, 995, .ireturn, 1, (1, 0, 0), 0, []),
  (228, 996, .aload_n 1, 1, (1, 0, 0), 0, []),
  (228, 997, .aload_n 0, 1, (0, 0, 0), 0, []),
  (228, 998, .iload_n 3, 1, (3, 0, 0), 0, []),
  (228, 999, .iconst 1, 1, (0, 0, 0), 1, []),
  (228, 1000, .iadd, 1, (0, 0, 0), 0, []),
  (228, 1001, .iaload, 1, (0, 0, 0), 0, []),
  (228, 1002, .invokevirtual 117, 3, (91, 2, 1), 0, [(0, 793)]),
  (228, 1005, .aload_n 2, 1, (2, 0, 0), 0, []),
  (228, 1006, .aload_n 0, 1, (0, 0, 0), 0, []),
  (228, 1007, .iload_n 3, 1, (3, 0, 0), 0, []),
  (228, 1008, .iconst 1, 1, (0, 0, 0), 1, []),
  (228, 1009, .iadd, 1, (0, 0, 0), 0, []),
  (228, 1010, .iaload, 1, (0, 0, 0), 0, []),
  (228, 1011, .invokevirtual 120, 3, (196, 2, 1), 0, [(0, 1476)]),
  (228, 1014, .if_icmp .eq 445, 3, (1459, 0, 0), 0, []),
  (228, 1017, .iconst 0, 1, (0, 0, 0), 0, []),
  (228, 1018, .ireturn, 1, (1, 0, 0), 0, []),
  (228, 1019, .aload_n 1, 1, (1, 0, 0), 0, []),
  (228, 1020, .aload_n 0, 1, (0, 0, 0), 0, []),
  (228, 1021, .iload_n 3, 1, (3, 0, 0), 0, []),
  (228, 1022, .iconst 1, 1, (0, 0, 0), 1, []),
  (228, 1023, .iadd, 1, (0, 0, 0), 0, []),
  (228, 1024, .iaload, 1, (0, 0, 0), 0, []),
  (228, 1025, .aload_n 0, 1, (0, 0, 0), 0, []),
  (228, 1026, .iload_n 3, 1, (3, 0, 0), 0, []),
  (228, 1027, .iconst 2, 1, (0, 0, 0), 2, []),
  (228, 1028, .iadd, 1, (0, 0, 0), 0, []),
  (228, 1029, .iaload, 1, (0, 0, 0), 0, []),
  (228, 1030, .invokevirtual 121, 3, (92, 3, 1), 0, [(0, 802)]),
  (228, 1033, .aload_n 2, 1, (2, 0, 0), 0, []),
  (228, 1034, .aload_n 0, 1, (0, 0, 0), 0, []),
  (228, 1035, .iload_n 3, 1, (3, 0, 0), 0, []),
  (228, 1036, .iconst 1, 1, (0, 0, 0), 1, []),
  (228, 1037, .iadd, 1, (0, 0, 0), 0, []),
  (228, 1038, .iaload, 1, (0, 0, 0), 0, []),
  (228, 1039, .aload_n 0, 1, (0, 0, 0), 0, []),
  (228, 1040, .iload_n 3, 1, (3, 0, 0), 0, []),
  (228, 1041, .iconst 2, 1, (0, 0, 0), 2, []),
  (228, 1042, .iadd, 1, (0, 0, 0), 0, []),
  (228, 1043, .iaload, 1, (0, 0, 0), 0, []),
  (228, 1044, .invokevirtual 124, 3, (197, 3, 1), 0, [(0, 1480)]),
  (228, 1047, .if_icmp .eq 412, 3, (1459, 0, 0), 0, []),
  (228, 1050, .iconst 0, 1, (0, 0, 0), 0, []),
  (228, 1051, .ireturn, 1, (1, 0, 0), 0, []),
  (228, 1052, .aload_n 1, 1, (1, 0, 0), 0, []),
  (228, 1053, .invokevirtual 125, 3, (93, 1, 1), 0, [(0, 806)]),
  (228, 1056, .aload_n 2, 1, (2, 0, 0), 0, []),
  (228, 1057, .invokevirtual 128, 3, (198, 1, 1), 0, [(0, 1484)]),
  (228, 1060, .if_icmp .eq 399, 3, (1459, 0, 0), 0, []),
  (228, 1063, .iconst 0, 1, (0, 0, 0), 0, []),
  (228, 1064, .ireturn, 1, (1, 0, 0), 0, []),
  (228, 1065, .aload_n 1, 1, (1, 0, 0), 0, []),
  (228, 1066, .aload_n 0, 1, (0, 0, 0), 0, []),
  (228, 1067, .iload_n 3, 1, (3, 0, 0), 0, []),
  (228, 1068, .iconst 1, 1, (0, 0, 0), 1, []),
  (228, 1069, .iadd, 1, (0, 0, 0), 0, []),
  (228, 1070, .iaload, 1, (0, 0, 0), 0, []),
  (228, 1071, .aload_n 0, 1, (0, 0, 0), 0, []),
  (228, 1072, .iload_n 3, 1, (3, 0, 0), 0, []),
  (228, 1073, .iconst 2, 1, (0, 0, 0), 2, []),
  (228, 1074, .iadd, 1, (0, 0, 0), 0, []),
  (228, 1075, .iaload, 1, (0, 0, 0), 0, []),
  (228, 1076, .invokevirtual 129, 3, (94, 3, 1), 0, [(0, 811)]),
  (228, 1079, .aload_n 2, 1, (2, 0, 0), 0, []),
  (228, 1080, .aload_n 0, 1, (0, 0, 0), 0, []),
  (228, 1081, .iload_n 3, 1, (3, 0, 0), 0, []),
  (228, 1082, .iconst 1, 1, (0, 0, 0), 1, []),
  (228, 1083, .iadd, 1, (0, 0, 0), 0, []),
  (228, 1084, .iaload, 1, (0, 0, 0), 0, []),
  (228, 1085, .aload_n 0, 1, (0, 0, 0), 0, []),
  (228, 1086, .iload_n 3, 1, (3, 0, 0), 0, []),
  (228, 1087, .iconst 2, 1, (0, 0, 0), 2, []),
  (228, 1088, .iadd, 1, (0, 0, 0), 0, []),
  (228, 1089, .iaload, 1, (0, 0, 0), 0, []),
  (228, 1093, .if_icmp .eq 366, 3, (1459, 0, 0), 0, []),
  (228, 1096, .iconst 0, 1, (0, 0, 0), 0, []),
  (228, 1097, .ireturn, 1, (1, 0, 0), 0, []),
  (228, 1098, .aload_n 1, 1, (1, 0, 0), 0, []),
  (228, 1099, .invokevirtual 133, 3, (95, 1, 1), 0, [(0, 818)]),
  (228, 1102, .aload_n 2, 1, (2, 0, 0), 0, []),
  (228, 1103, .invokevirtual 136, 3, (200, 1, 1), 0, [(0, 1496)]),
  (228, 1106, .if_icmp .eq 353, 3, (1459, 0, 0), 0, []),
  (228, 1109, .iconst 0, 1, (0, 0, 0), 0, []),
  (228, 1110, .ireturn, 1, (1, 0, 0), 0, []),
  (228, 1111, .aload_n 1, 1, (1, 0, 0), 0, []),
  (228, 1112, .invokevirtual 137, 3, (96, 1, 1), 0, [(0, 833)]),
  (228, 1115, .aload_n 2, 1, (2, 0, 0), 0, []),
  (228, 1116, .invokevirtual 140, 3, (201, 1, 1), 0, [(0, 1500)]),
  (228, 1119, .if_icmp .eq 340, 3, (1459, 0, 0), 0, []),
  (228, 1122, .iconst 0, 1, (0, 0, 0), 0, []),
  (228, 1123, .ireturn, 1, (1, 0, 0), 0, []),
  (228, 1124, .aload_n 1, 1, (1, 0, 0), 0, []),
  (228, 1125, .aload_n 0, 1, (0, 0, 0), 0, []),
  (228, 1126, .iload_n 3, 1, (3, 0, 0), 0, []),
  (228, 1127, .iconst 1, 1, (0, 0, 0), 1, []),
  (228, 1128, .iadd, 1, (0, 0, 0), 0, []),
  (228, 1129, .iaload, 1, (0, 0, 0), 0, []),
  (228, 1130, .aload_n 0, 1, (0, 0, 0), 0, []),
  (228, 1131, .iload_n 3, 1, (3, 0, 0), 0, []),
  (228, 1132, .iconst 2, 1, (0, 0, 0), 2, []),
  (228, 1133, .iadd, 1, (0, 0, 0), 0, []),
  (228, 1134, .iaload, 1, (0, 0, 0), 0, []),
  (228, 1135, .aload_n 0, 1, (0, 0, 0), 0, []),
  (228, 1136, .iload_n 3, 1, (3, 0, 0), 0, []),
  (228, 1137, .iconst 3, 1, (0, 0, 0), 3, []),
  (228, 1138, .iadd, 1, (0, 0, 0), 0, []),
  (228, 1139, .iaload, 1, (0, 0, 0), 0, []),
  (228, 1140, .invokevirtual 141, 3, (97, 4, 1), 0, [(0, 837)]),
  (228, 1143, .aload_n 2, 1, (2, 0, 0), 0, []),
  (228, 1144, .aload_n 0, 1, (0, 0, 0), 0, []),
  (228, 1145, .iload_n 3, 1, (3, 0, 0), 0, []),
  (228, 1146, .iconst 1, 1, (0, 0, 0), 1, []),
  (228, 1147, .iadd, 1, (0, 0, 0), 0, []),
  (228, 1148, .iaload, 1, (0, 0, 0), 0, []),
  (228, 1149, .aload_n 0, 1, (0, 0, 0), 0, []),
  (228, 1150, .iload_n 3, 1, (3, 0, 0), 0, []),
  (228, 1151, .iconst 2, 1, (0, 0, 0), 2, []),
  (228, 1152, .iadd, 1, (0, 0, 0), 0, []),
  (228, 1153, .iaload, 1, (0, 0, 0), 0, []),
  (228, 1154, .aload_n 0, 1, (0, 0, 0), 0, []),
  (228, 1155, .iload_n 3, 1, (3, 0, 0), 0, []),
  (228, 1156, .iconst 3, 1, (0, 0, 0), 3, []),
  (228, 1157, .iadd, 1, (0, 0, 0), 0, []),
  (228, 1158, .iaload, 1, (0, 0, 0), 0, []),
  (228, 1159, .invokevirtual 144, 3, (210, 4, 1), 0, [(0, 1504)]),
  (228, 1162, .if_icmp .eq 297, 3, (1459, 0, 0), 0, []),
  (228, 1165, .iconst 0, 1, (0, 0, 0), 0, []),
  (228, 1166, .ireturn, 1, (1, 0, 0), 0, []),
  (228, 1167, .aload_n 1, 1, (1, 0, 0), 0, []),
  (228, 1168, .aload_n 0, 1, (0, 0, 0), 0, []),
  (228, 1169, .iload_n 3, 1, (3, 0, 0), 0, []),
  (228, 1170, .iconst 1, 1, (0, 0, 0), 1, []),
  (228, 1171, .iadd, 1, (0, 0, 0), 0, []),
  (228, 1172, .iaload, 1, (0, 0, 0), 0, []),
  (228, 1173, .invokevirtual 145, 3, (98, 2, 1), 0, [(0, 861)]),
  (228, 1176, .aload_n 2, 1, (2, 0, 0), 0, []),
  (228, 1177, .aload_n 0, 1, (0, 0, 0), 0, []),
  (228, 1178, .iload_n 3, 1, (3, 0, 0), 0, []),
  (228, 1179, .iconst 1, 1, (0, 0, 0), 1, []),
  (228, 1180, .iadd, 1, (0, 0, 0), 0, []),
  (228, 1181, .iaload, 1, (0, 0, 0), 0, []),
  (228, 1182, .invokevirtual 148, 3, (211, 2, 1), 0, [(0, 1540)]),
  (228, 1185, .if_icmp .eq 274, 3, (1459, 0, 0), 0, []),
  (228, 1188, .iconst 0, 1, (0, 0, 0), 0, []),
  (228, 1189, .ireturn, 1, (1, 0, 0), 0, []),
  (228, 1190, .aload_n 1, 1, (1, 0, 0), 0, []),
  (228, 1191, .aload_n 0, 1, (0, 0, 0), 0, []),
  (228, 1192, .iload_n 3, 1, (3, 0, 0), 0, []),
  (228, 1193, .iconst 1, 1, (0, 0, 0), 1, []),
  (228, 1194, .iadd, 1, (0, 0, 0), 0, []),
  (228, 1195, .iaload, 1, (0, 0, 0), 0, []),
  (228, 1196, .aload_n 0, 1, (0, 0, 0), 0, []),
  (228, 1197, .iload_n 3, 1, (3, 0, 0), 0, []),
  (228, 1198, .iconst 2, 1, (0, 0, 0), 2, []),
  (228, 1199, .iadd, 1, (0, 0, 0), 0, []),
  (228, 1200, .iaload, 1, (0, 0, 0), 0, []),
  (228, 1201, .invokevirtual 149, 3, (99, 3, 1), 0, [(0, 865)]),
  (228, 1204, .aload_n 2, 1, (2, 0, 0), 0, []),
  (228, 1205, .aload_n 0, 1, (0, 0, 0), 0, []),
  (228, 1206, .iload_n 3, 1, (3, 0, 0), 0, []),
  (228, 1207, .iconst 1, 1, (0, 0, 0), 1, []),
  (228, 1208, .iadd, 1, (0, 0, 0), 0, []),
  (228, 1209, .iaload, 1, (0, 0, 0), 0, []),
  (228, 1210, .aload_n 0, 1, (0, 0, 0), 0, []),
  (228, 1211, .iload_n 3, 1, (3, 0, 0), 0, []),
  (228, 1212, .iconst 2, 1, (0, 0, 0), 2, []),
  (228, 1213, .iadd, 1, (0, 0, 0), 0, []),
  (228, 1214, .iaload, 1, (0, 0, 0), 0, []),
  (228, 1215, .invokevirtual 152, 3, (212, 3, 1), 0, [(0, 1544)]),
  (228, 1218, .if_icmp .eq 241, 3, (1459, 0, 0), 0, []),
  (228, 1221, .iconst 0, 1, (0, 0, 0), 0, []),
  (228, 1222, .ireturn, 1, (1, 0, 0), 0, []),
  (228, 1223, .aload_n 1, 1, (1, 0, 0), 0, []),
  (228, 1224, .aload_n 0, 1, (0, 0, 0), 0, []),
  (228, 1225, .iload_n 3, 1, (3, 0, 0), 0, []),
  (228, 1226, .iconst 1, 1, (0, 0, 0), 1, []),
  (228, 1227, .iadd, 1, (0, 0, 0), 0, []),
  (228, 1228, .iaload, 1, (0, 0, 0), 0, []),
  (228, 1229, .invokevirtual 153, 3, (100, 2, 1), 0, [(0, 873)]),
  (228, 1232, .aload_n 2, 1, (2, 0, 0), 0, []),
  (228, 1233, .aload_n 0, 1, (0, 0, 0), 0, []),
  (228, 1234, .iload_n 3, 1, (3, 0, 0), 0, []),
  (228, 1235, .iconst 1, 1, (0, 0, 0), 1, []),
  (228, 1236, .iadd, 1, (0, 0, 0), 0, []),
  (228, 1237, .iaload, 1, (0, 0, 0), 0, []),
  (228, 1238, .invokevirtual 156, 3, (213, 2, 1), 0, [(0, 1548)]),
  (228, 1241, .if_icmp .eq 218, 3, (1459, 0, 0), 0, []),
  (228, 1244, .iconst 0, 1, (0, 0, 0), 0, []),
  (228, 1245, .ireturn, 1, (1, 0, 0), 0, []),
  (228, 1246, .aload_n 1, 1, (1, 0, 0), 0, []),
  (228, 1247, .aload_n 0, 1, (0, 0, 0), 0, []),
  (228, 1248, .iload_n 3, 1, (3, 0, 0), 0, []),
  (228, 1249, .iconst 1, 1, (0, 0, 0), 1, []),
  (228, 1250, .iadd, 1, (0, 0, 0), 0, []),
  (228, 1251, .iaload, 1, (0, 0, 0), 0, []),
  (228, 1252, .aload_n 0, 1, (0, 0, 0), 0, []),
  (228, 1253, .iload_n 3, 1, (3, 0, 0), 0, []),
  (228, 1254, .iconst 2, 1, (0, 0, 0), 2, []),
  (228, 1255, .iadd, 1, (0, 0, 0), 0, []),
  (228, 1256, .iaload, 1, (0, 0, 0), 0, []),
  (228, 1257, .aload_n 0, 1, (0, 0, 0), 0, []),
  (228, 1258, .iload_n 3, 1, (3, 0, 0), 0, []),
  (228, 1259, .iconst 3, 1, (0, 0, 0), 3, []),
  (228, 1260, .iadd, 1, (0, 0, 0), 0, []),
  (228, 1261, .iaload, 1, (0, 0, 0), 0, []),
  (228, 1262, .invokevirtual 157, 3, (101, 4, 1), 0, [(0, 877)]),
  (228, 1265, .aload_n 2, 1, (2, 0, 0), 0, []),
  (228, 1266, .aload_n 0, 1, (0, 0, 0), 0, []),
  (228, 1267, .iload_n 3, 1, (3, 0, 0), 0, []),
  (228, 1268, .iconst 1, 1, (0, 0, 0), 1, []),
  (228, 1269, .iadd, 1, (0, 0, 0), 0, []),
  (228, 1270, .iaload, 1, (0, 0, 0), 0, []),
  (228, 1271, .aload_n 0, 1, (0, 0, 0), 0, []),
  (228, 1272, .iload_n 3, 1, (3, 0, 0), 0, []),
  (228, 1273, .iconst 2, 1, (0, 0, 0), 2, []),
  (228, 1274, .iadd, 1, (0, 0, 0), 0, []),
  (228, 1275, .iaload, 1, (0, 0, 0), 0, []),
  (228, 1276, .aload_n 0, 1, (0, 0, 0), 0, []),
  (228, 1277, .iload_n 3, 1, (3, 0, 0), 0, []),
  (228, 1278, .iconst 3, 1, (0, 0, 0), 3, []),
  (228, 1279, .iadd, 1, (0, 0, 0), 0, []),
  (228, 1280, .iaload, 1, (0, 0, 0), 0, []),
  (228, 1281, .invokevirtual 160, 3, (215, 4, 1), 0, [(0, 1552)]),
  (228, 1284, .if_icmp .eq 175, 3, (1459, 0, 0), 0, []),
  (228, 1287, .iconst 0, 1, (0, 0, 0), 0, []),
  (228, 1288, .ireturn, 1, (1, 0, 0), 0, []),
  (228, 1289, .aload_n 1, 1, (1, 0, 0), 0, []),
  (228, 1290, .aload_n 0, 1, (0, 0, 0), 0, []),
  (228, 1291, .iload_n 3, 1, (3, 0, 0), 0, []),
  (228, 1292, .iconst 1, 1, (0, 0, 0), 1, []),
  (228, 1293, .iadd, 1, (0, 0, 0), 0, []),
  (228, 1294, .iaload, 1, (0, 0, 0), 0, []),
  (228, 1295, .aload_n 0, 1, (0, 0, 0), 0, []),
  (228, 1296, .iload_n 3, 1, (3, 0, 0), 0, []),
  (228, 1297, .iconst 2, 1, (0, 0, 0), 2, []),
  (228, 1298, .iadd, 1, (0, 0, 0), 0, []),
  (228, 1299, .iaload, 1, (0, 0, 0), 0, []),
  (228, 1300, .aload_n 0, 1, (0, 0, 0), 0, []),
  (228, 1301, .iload_n 3, 1, (3, 0, 0), 0, []),
  (228, 1302, .iconst 3, 1, (0, 0, 0), 3, []),
  (228, 1303, .iadd, 1, (0, 0, 0), 0, []),
  (228, 1304, .iaload, 1, (0, 0, 0), 0, []),
  (228, 1305, .i2l, 1, (0, 0, 0), 0, []),
  (228, 1306, .bipush 32, 2, (0, 0, 0), 32, []),
  (228, 1308, .lshl, 1, (0, 0, 0), 0, []),
  (228, 1309, .aload_n 0, 1, (0, 0, 0), 0, []),
  (228, 1310, .iload_n 3, 1, (3, 0, 0), 0, []),
  (228, 1311, .iconst 4, 1, (0, 0, 0), 4, []),
  (228, 1312, .iadd, 1, (0, 0, 0), 0, []),
  (228, 1313, .iaload, 1, (0, 0, 0), 0, []),
  (228, 1314, .i2l, 1, (0, 0, 0), 0, []),
  (228, 1315, .ldc2_w 161, 3, (0, 0, 0), 4294967295, [(0, 1572)]),
  (228, 1318, .land, 1, (0, 0, 0), 0, []),
  (228, 1319, .lor, 1, (0, 0, 0), 0, []),
  (228, 1320, .invokevirtual 163, 3, (102, 4, 1), 0, [(0, 890)]),
  (228, 1323, .aload_n 2, 1, (2, 0, 0), 0, []),
  (228, 1324, .aload_n 0, 1, (0, 0, 0), 0, []),
  (228, 1325, .iload_n 3, 1, (3, 0, 0), 0, []),
  (228, 1326, .iconst 1, 1, (0, 0, 0), 1, []),
  (228, 1327, .iadd, 1, (0, 0, 0), 0, []),
  (228, 1328, .iaload, 1, (0, 0, 0), 0, []),
  (228, 1329, .aload_n 0, 1, (0, 0, 0), 0, []),
  (228, 1330, .iload_n 3, 1, (3, 0, 0), 0, []),
  (228, 1331, .iconst 2, 1, (0, 0, 0), 2, []),
  (228, 1332, .iadd, 1, (0, 0, 0), 0, []),
  (228, 1333, .iaload, 1, (0, 0, 0), 0, []),
  (228, 1334, .aload_n 0, 1, (0, 0, 0), 0, []),
  (228, 1335, .iload_n 3, 1, (3, 0, 0), 0, []),
  (228, 1336, .iconst 3, 1, (0, 0, 0), 3, []),
  (228, 1337, .iadd, 1, (0, 0, 0), 0, []),
  (228, 1338, .iaload, 1, (0, 0, 0), 0, []),
  (228, 1339, .i2l, 1, (0, 0, 0), 0, []),
  (228, 1340, .bipush 32, 2, (0, 0, 0), 32, []),
  (228, 1342, .lshl, 1, (0, 0, 0), 0, []),
  (228, 1343, .aload_n 0, 1, (0, 0, 0), 0, []),
  (228, 1344, .iload_n 3, 1, (3, 0, 0), 0, []),
  (228, 1345, .iconst 4, 1, (0, 0, 0), 4, []),
  (228, 1346, .iadd, 1, (0, 0, 0), 0, []),
  (228, 1347, .iaload, 1, (0, 0, 0), 0, []),
  (228, 1348, .i2l, 1, (0, 0, 0), 0, []),
  (228, 1349, .ldc2_w 161, 3, (0, 0, 0), 4294967295, [(0, 1572)]),
  (228, 1352, .land, 1, (0, 0, 0), 0, []),
  (228, 1353, .lor, 1, (0, 0, 0), 0, []),
  (228, 1354, .invokevirtual 167, 3, (217, 4, 1), 0, [(0, 1556)]),
  (228, 1357, .if_icmp .eq 102, 3, (1459, 0, 0), 0, []),
  (228, 1360, .iconst 0, 1, (0, 0, 0), 0, []),
  (228, 1361, .ireturn, 1, (1, 0, 0), 0, []),
  (228, 1362, .aload_n 1, 1, (1, 0, 0), 0, []),
  (228, 1363, .aload_n 0, 1, (0, 0, 0), 0, []),
  (228, 1364, .iload_n 3, 1, (3, 0, 0), 0, []),
  (228, 1365, .iconst 1, 1, (0, 0, 0), 1, []),
  (228, 1366, .iadd, 1, (0, 0, 0), 0, []),
  (228, 1367, .iaload, 1, (0, 0, 0), 0, []),
  (228, 1368, .aload_n 0, 1, (0, 0, 0), 0, []),
  (228, 1369, .iload_n 3, 1, (3, 0, 0), 0, []),
  (228, 1370, .iconst 2, 1, (0, 0, 0), 2, []),
  (228, 1371, .iadd, 1, (0, 0, 0), 0, []),
  (228, 1372, .iaload, 1, (0, 0, 0), 0, []),
  (228, 1373, .invokevirtual 168, 3, (103, 3, 2), 0, [(0, 898)]),
  (228, 1376, .aload_n 2, 1, (2, 0, 0), 0, []),
  (228, 1377, .aload_n 0, 1, (0, 0, 0), 0, []),
  (228, 1378, .iload_n 3, 1, (3, 0, 0), 0, []),
  (228, 1379, .iconst 1, 1, (0, 0, 0), 1, []),
  (228, 1380, .iadd, 1, (0, 0, 0), 0, []),
  (228, 1381, .iaload, 1, (0, 0, 0), 0, []),
  (228, 1382, .aload_n 0, 1, (0, 0, 0), 0, []),
  (228, 1383, .iload_n 3, 1, (3, 0, 0), 0, []),
  (228, 1384, .iconst 2, 1, (0, 0, 0), 2, []),
  (228, 1385, .iadd, 1, (0, 0, 0), 0, []),
  (228, 1386, .iaload, 1, (0, 0, 0), 0, []),
  (228, 1387, .invokevirtual 171, 3, (218, 3, 2), 0, [(0, 1564)]),
  (228, 1390, .lcmp, 1, (0, 0, 0), 0, []),
  (228, 1391, .ifCond .eq 68, 3, (1459, 0, 0), 0, []),
  (228, 1394, .iconst 0, 1, (0, 0, 0), 0, []),
  (228, 1395, .ireturn, 1, (1, 0, 0), 0, []),
  (228, 1396, .aload_n 1, 1, (1, 0, 0), 0, []),
  (228, 1397, .aload_n 0, 1, (0, 0, 0), 0, []),
  (228, 1398, .iload_n 3, 1, (3, 0, 0), 0, []),
  (228, 1399, .iconst 1, 1, (0, 0, 0), 1, []),
  (228, 1400, .iadd, 1, (0, 0, 0), 0, []),
  (228, 1401, .iaload, 1, (0, 0, 0), 0, []),
  (228, 1402, .aload_n 0, 1, (0, 0, 0), 0, []),
  (228, 1403, .iload_n 3, 1, (3, 0, 0), 0, []),
  (228, 1404, .iconst 2, 1, (0, 0, 0), 2, []),
  (228, 1405, .iadd, 1, (0, 0, 0), 0, []),
  (228, 1406, .iaload, 1, (0, 0, 0), 0, []),
  (228, 1407, .aload_n 0, 1, (0, 0, 0), 0, []),
  (228, 1408, .iload_n 3, 1, (3, 0, 0), 0, []),
  (228, 1409, .iconst 3, 1, (0, 0, 0), 3, []),
  (228, 1410, .iadd, 1, (0, 0, 0), 0, []),
  (228, 1411, .iaload, 1, (0, 0, 0), 0, []),
  (228, 1412, .aload_n 0, 1, (0, 0, 0), 0, []),
  (228, 1413, .iload_n 3, 1, (3, 0, 0), 0, []),
  (228, 1414, .iconst 4, 1, (0, 0, 0), 4, []),
  (228, 1415, .iadd, 1, (0, 0, 0), 0, []),
  (228, 1416, .iaload, 1, (0, 0, 0), 0, []),
  (228, 1417, .aload_n 0, 1, (0, 0, 0), 0, []),
  (228, 1418, .iload_n 3, 1, (3, 0, 0), 0, []),
  (228, 1419, .iconst 5, 1, (0, 0, 0), 5, []),
  (228, 1420, .iadd, 1, (0, 0, 0), 0, []),
  (228, 1421, .iaload, 1, (0, 0, 0), 0, []),
  (228, 1422, .invokevirtual 172, 3, (104, 6, 1), 0, [(0, 902)]),
  (228, 1425, .aload_n 2, 1, (2, 0, 0), 0, []),
  (228, 1426, .aload_n 0, 1, (0, 0, 0), 0, []),
  (228, 1427, .iload_n 3, 1, (3, 0, 0), 0, []),
  (228, 1428, .iconst 1, 1, (0, 0, 0), 1, []),
  (228, 1429, .iadd, 1, (0, 0, 0), 0, []),
  (228, 1430, .iaload, 1, (0, 0, 0), 0, []),
  (228, 1431, .aload_n 0, 1, (0, 0, 0), 0, []),
  (228, 1432, .iload_n 3, 1, (3, 0, 0), 0, []),
  (228, 1433, .iconst 2, 1, (0, 0, 0), 2, []),
  (228, 1434, .iadd, 1, (0, 0, 0), 0, []),
  (228, 1435, .iaload, 1, (0, 0, 0), 0, []),
  (228, 1436, .aload_n 0, 1, (0, 0, 0), 0, []),
  (228, 1437, .iload_n 3, 1, (3, 0, 0), 0, []),
  (228, 1438, .iconst 3, 1, (0, 0, 0), 3, []),
  (228, 1439, .iadd, 1, (0, 0, 0), 0, []),
  (228, 1440, .iaload, 1, (0, 0, 0), 0, []),
  (228, 1441, .aload_n 0, 1, (0, 0, 0), 0, []),
  (228, 1442, .iload_n 3, 1, (3, 0, 0), 0, []),
  (228, 1443, .iconst 4, 1, (0, 0, 0), 4, []),
  (228, 1444, .iadd, 1, (0, 0, 0), 0, []),
  (228, 1445, .iaload, 1, (0, 0, 0), 0, []),
  (228, 1446, .aload_n 0, 1, (0, 0, 0), 0, []),
  (228, 1447, .iload_n 3, 1, (3, 0, 0), 0, []),
  (228, 1448, .iconst 5, 1, (0, 0, 0), 5, []),
  (228, 1449, .iadd, 1, (0, 0, 0), 0, []),
  (228, 1450, .iaload, 1, (0, 0, 0), 0, []),
  (228, 1451, .invokevirtual 176, 3, (219, 6, 1), 0, [(0, 1568)]),
  (228, 1454, .if_icmp .eq 5, 3, (1459, 0, 0), 0, []),
  (228, 1457, .iconst 0, 1, (0, 0, 0), 0, []),
  (228, 1458, .ireturn, 1, (1, 0, 0), 0, []),
  (228, 1459, .iinc 3 6, 3, (3, 0, 0), 6, []),
  (228, 1462, .goto (-1444), 3, (18, 0, 0), 0, []),
  (228, 1465, .iconst 1, 1, (0, 0, 0), 1, []),
  (228, 1466, .ireturn, 1, (1, 0, 0), 0, [])]
def mCode (y : Nat) : List mRow := (bif Nat.blt y 114 then (bif Nat.blt y 57 then (bif Nat.blt y 28 then (bif Nat.blt y 14 then (bif Nat.blt y 7 then (bif Nat.blt y 3 then (bif Nat.blt y 1 then rows_0 else (bif Nat.blt y 2 then rows_1 else rows_2)) else (bif Nat.blt y 5 then (bif Nat.blt y 4 then rows_3 else rows_4) else (bif Nat.blt y 6 then rows_5 else rows_6))) else (bif Nat.blt y 10 then (bif Nat.blt y 8 then rows_7 else (bif Nat.blt y 9 then rows_8 else rows_9)) else (bif Nat.blt y 12 then (bif Nat.blt y 11 then rows_10 else rows_11) else (bif Nat.blt y 13 then rows_12 else rows_13)))) else (bif Nat.blt y 21 then (bif Nat.blt y 17 then (bif Nat.blt y 15 then rows_14 else (bif Nat.blt y 16 then rows_15 else rows_16)) else (bif Nat.blt y 19 then (bif Nat.blt y 18 then rows_17 else rows_18) else (bif Nat.blt y 20 then rows_19 else rows_20))) else (bif Nat.blt y 24 then (bif Nat.blt y 22 then rows_21 else (bif Nat.blt y 23 then rows_22 else rows_23)) else (bif Nat.blt y 26 then (bif Nat.blt y 25 then rows_24 else rows_25) else (bif Nat.blt y 27 then rows_26 else rows_27))))) else (bif Nat.blt y 42 then (bif Nat.blt y 35 then (bif Nat.blt y 31 then (bif Nat.blt y 29 then rows_28 else (bif Nat.blt y 30 then rows_29 else rows_30)) else (bif Nat.blt y 33 then (bif Nat.blt y 32 then rows_31 else rows_32) else (bif Nat.blt y 34 then rows_33 else rows_34))) else (bif Nat.blt y 38 then (bif Nat.blt y 36 then rows_35 else (bif Nat.blt y 37 then rows_36 else rows_37)) else (bif Nat.blt y 40 then (bif Nat.blt y 39 then rows_38 else rows_39) else (bif Nat.blt y 41 then rows_40 else rows_41)))) else (bif Nat.blt y 49 then (bif Nat.blt y 45 then (bif Nat.blt y 43 then rows_42 else (bif Nat.blt y 44 then rows_43 else rows_44)) else (bif Nat.blt y 47 then (bif Nat.blt y 46 then rows_45 else rows_46) else (bif Nat.blt y 48 then rows_47 else rows_48))) else (bif Nat.blt y 53 then (bif Nat.blt y 51 then (bif Nat.blt y 50 then rows_49 else rows_50) else (bif Nat.blt y 52 then rows_51 else rows_52)) else (bif Nat.blt y 55 then (bif Nat.blt y 54 then rows_53 else rows_54) else (bif Nat.blt y 56 then rows_55 else rows_56)))))) else (bif Nat.blt y 85 then (bif Nat.blt y 71 then (bif Nat.blt y 64 then (bif Nat.blt y 60 then (bif Nat.blt y 58 then rows_57 else (bif Nat.blt y 59 then rows_58 else rows_59)) else (bif Nat.blt y 62 then (bif Nat.blt y 61 then rows_60 else rows_61) else (bif Nat.blt y 63 then rows_62 else rows_63))) else (bif Nat.blt y 67 then (bif Nat.blt y 65 then rows_64 else (bif Nat.blt y 66 then rows_65 else rows_66)) else (bif Nat.blt y 69 then (bif Nat.blt y 68 then rows_67 else rows_68) else (bif Nat.blt y 70 then rows_69 else rows_70)))) else (bif Nat.blt y 78 then (bif Nat.blt y 74 then (bif Nat.blt y 72 then rows_71 else (bif Nat.blt y 73 then rows_72 else rows_73)) else (bif Nat.blt y 76 then (bif Nat.blt y 75 then rows_74 else rows_75) else (bif Nat.blt y 77 then rows_76 else rows_77))) else (bif Nat.blt y 81 then (bif Nat.blt y 79 then rows_78 else (bif Nat.blt y 80 then rows_79 else rows_80)) else (bif Nat.blt y 83 then (bif Nat.blt y 82 then rows_81 else rows_82) else (bif Nat.blt y 84 then rows_83 else rows_84))))) else (bif Nat.blt y 99 then (bif Nat.blt y 92 then (bif Nat.blt y 88 then (bif Nat.blt y 86 then rows_85 else (bif Nat.blt y 87 then rows_86 else rows_87)) else (bif Nat.blt y 90 then (bif Nat.blt y 89 then rows_88 else rows_89) else (bif Nat.blt y 91 then rows_90 else rows_91))) else (bif Nat.blt y 95 then (bif Nat.blt y 93 then rows_92 else (bif Nat.blt y 94 then rows_93 else rows_94)) else (bif Nat.blt y 97 then (bif Nat.blt y 96 then rows_95 else rows_96) else (bif Nat.blt y 98 then rows_97 else rows_98)))) else (bif Nat.blt y 106 then (bif Nat.blt y 102 then (bif Nat.blt y 100 then rows_99 else (bif Nat.blt y 101 then rows_100 else rows_101)) else (bif Nat.blt y 104 then (bif Nat.blt y 103 then rows_102 else rows_103) else (bif Nat.blt y 105 then rows_104 else rows_105))) else (bif Nat.blt y 110 then (bif Nat.blt y 108 then (bif Nat.blt y 107 then rows_106 else rows_107) else (bif Nat.blt y 109 then rows_108 else rows_109)) else (bif Nat.blt y 112 then (bif Nat.blt y 111 then rows_110 else rows_111) else (bif Nat.blt y 113 then rows_112 else rows_113))))))) else (bif Nat.blt y 171 then (bif Nat.blt y 142 then (bif Nat.blt y 128 then (bif Nat.blt y 121 then (bif Nat.blt y 117 then (bif Nat.blt y 115 then rows_114 else (bif Nat.blt y 116 then rows_115 else rows_116)) else (bif Nat.blt y 119 then (bif Nat.blt y 118 then rows_117 else rows_118) else (bif Nat.blt y 120 then rows_119 else rows_120))) else (bif Nat.blt y 124 then (bif Nat.blt y 122 then rows_121 else (bif Nat.blt y 123 then rows_122 else rows_123)) else (bif Nat.blt y 126 then (bif Nat.blt y 125 then rows_124 else rows_125) else (bif Nat.blt y 127 then rows_126 else rows_127)))) else (bif Nat.blt y 135 then (bif Nat.blt y 131 then (bif Nat.blt y 129 then rows_128 else (bif Nat.blt y 130 then rows_129 else rows_130)) else (bif Nat.blt y 133 then (bif Nat.blt y 132 then rows_131 else rows_132) else (bif Nat.blt y 134 then rows_133 else rows_134))) else (bif Nat.blt y 138 then (bif Nat.blt y 136 then rows_135 else (bif Nat.blt y 137 then rows_136 else rows_137)) else (bif Nat.blt y 140 then (bif Nat.blt y 139 then rows_138 else rows_139) else (bif Nat.blt y 141 then rows_140 else rows_141))))) else (bif Nat.blt y 156 then (bif Nat.blt y 149 then (bif Nat.blt y 145 then (bif Nat.blt y 143 then rows_142 else (bif Nat.blt y 144 then rows_143 else rows_144)) else (bif Nat.blt y 147 then (bif Nat.blt y 146 then rows_145 else rows_146) else (bif Nat.blt y 148 then rows_147 else rows_148))) else (bif Nat.blt y 152 then (bif Nat.blt y 150 then rows_149 else (bif Nat.blt y 151 then rows_150 else rows_151)) else (bif Nat.blt y 154 then (bif Nat.blt y 153 then rows_152 else rows_153) else (bif Nat.blt y 155 then rows_154 else rows_155)))) else (bif Nat.blt y 163 then (bif Nat.blt y 159 then (bif Nat.blt y 157 then rows_156 else (bif Nat.blt y 158 then rows_157 else rows_158)) else (bif Nat.blt y 161 then (bif Nat.blt y 160 then rows_159 else rows_160) else (bif Nat.blt y 162 then rows_161 else rows_162))) else (bif Nat.blt y 167 then (bif Nat.blt y 165 then (bif Nat.blt y 164 then rows_163 else rows_164) else (bif Nat.blt y 166 then rows_165 else rows_166)) else (bif Nat.blt y 169 then (bif Nat.blt y 168 then rows_167 else rows_168) else (bif Nat.blt y 170 then rows_169 else rows_170)))))) else (bif Nat.blt y 200 then (bif Nat.blt y 185 then (bif Nat.blt y 178 then (bif Nat.blt y 174 then (bif Nat.blt y 172 then rows_171 else (bif Nat.blt y 173 then rows_172 else rows_173)) else (bif Nat.blt y 176 then (bif Nat.blt y 175 then rows_174 else rows_175) else (bif Nat.blt y 177 then rows_176 else rows_177))) else (bif Nat.blt y 181 then (bif Nat.blt y 179 then rows_178 else (bif Nat.blt y 180 then rows_179 else rows_180)) else (bif Nat.blt y 183 then (bif Nat.blt y 182 then rows_181 else rows_182) else (bif Nat.blt y 184 then rows_183 else rows_184)))) else (bif Nat.blt y 192 then (bif Nat.blt y 188 then (bif Nat.blt y 186 then rows_185 else (bif Nat.blt y 187 then rows_186 else rows_187)) else (bif Nat.blt y 190 then (bif Nat.blt y 189 then rows_188 else rows_189) else (bif Nat.blt y 191 then rows_190 else rows_191))) else (bif Nat.blt y 196 then (bif Nat.blt y 194 then (bif Nat.blt y 193 then rows_192 else rows_193) else (bif Nat.blt y 195 then rows_194 else rows_195)) else (bif Nat.blt y 198 then (bif Nat.blt y 197 then rows_196 else rows_197) else (bif Nat.blt y 199 then rows_198 else rows_199))))) else (bif Nat.blt y 214 then (bif Nat.blt y 207 then (bif Nat.blt y 203 then (bif Nat.blt y 201 then rows_200 else (bif Nat.blt y 202 then rows_201 else rows_202)) else (bif Nat.blt y 205 then (bif Nat.blt y 204 then rows_203 else rows_204) else (bif Nat.blt y 206 then rows_205 else rows_206))) else (bif Nat.blt y 210 then (bif Nat.blt y 208 then rows_207 else (bif Nat.blt y 209 then rows_208 else rows_209)) else (bif Nat.blt y 212 then (bif Nat.blt y 211 then rows_210 else rows_211) else (bif Nat.blt y 213 then rows_212 else rows_213)))) else (bif Nat.blt y 221 then (bif Nat.blt y 217 then (bif Nat.blt y 215 then rows_214 else (bif Nat.blt y 216 then rows_215 else rows_216)) else (bif Nat.blt y 219 then (bif Nat.blt y 218 then rows_217 else rows_218) else (bif Nat.blt y 220 then rows_219 else rows_220))) else (bif Nat.blt y 225 then (bif Nat.blt y 223 then (bif Nat.blt y 222 then rows_221 else rows_222) else (bif Nat.blt y 224 then rows_223 else rows_224)) else (bif Nat.blt y 227 then (bif Nat.blt y 226 then rows_225 else rows_226) else (bif Nat.blt y 228 then rows_227 else rows_228))))))))
end
section
theorem okMs : ∀ t, t < 228 → okM t := sorry
theorem mCode_ok (y : Nat) : ∀ w ∈ mCode y, okRow w = true := sorry
end
section
/-! ===== rules of the small machine: it is closed under its instructions; many steps at once ===== -/
section Mono
theorem eI_mono {st : List mV} {f g : Int → List mV → Prop} (h : ∀ x r, f x r → g x r) : eI st f → eI st g := by
  unfold eI; split <;> first | exact h _ _ | exact id
theorem eII_mono {st : List mV} {f g : Int → Int → List mV → Prop} (h : ∀ x y r, f x y r → g x y r) : eII st f → eII st g := by
  unfold eII; split <;> first | exact h _ _ _ | exact id
theorem eL_mono {st : List mV} {f g : Int64 → List mV → Prop} (h : ∀ x r, f x r → g x r) : eL st f → eL st g := by
  unfold eL; split <;> first | exact h _ _ | exact id
theorem eLL_mono {st : List mV} {f g : Int64 → Int64 → List mV → Prop} (h : ∀ x y r, f x y r → g x y r) : eLL st f → eLL st g := by
  unfold eLL; split <;> first | exact h _ _ _ | exact id
theorem eLI_mono {st : List mV} {f g : Int64 → Int → List mV → Prop} (h : ∀ x y r, f x y r → g x y r) : eLI st f → eLI st g := by
  unfold eLI; split <;> first | exact h _ _ _ | exact id
theorem eR_mono {st : List mV} {f g : Option Nat → List mV → Prop} (h : ∀ x r, f x r → g x r) : eR st f → eR st g := by
  unfold eR; split <;> first | exact h _ _ | exact id
theorem eRI_mono {st : List mV} {f g : Option Nat → Int → List mV → Prop} (h : ∀ x y r, f x y r → g x y r) : eRI st f → eRI st g := by
  unfold eRI; split <;> first | exact h _ _ _ | exact id
theorem eRR_mono {st : List mV} {f g : Option Nat → Option Nat → List mV → Prop} (h : ∀ x y r, f x y r → g x y r) : eRR st f → eRR st g := by
  unfold eRR; split <;> first | exact h _ _ _ | exact id
theorem eRII_mono {st : List mV} {f g : Option Nat → Int → Int → List mV → Prop} (h : ∀ x y z r, f x y z r → g x y z r) : eRII st f → eRII st g := by
  unfold eRII; split <;> first | exact h _ _ _ _ | exact id
theorem eRIL_mono {st : List mV} {f g : Option Nat → Int → Int64 → List mV → Prop} (h : ∀ x y z r, f x y z r → g x y z r) : eRIL st f → eRIL st g := by
  unfold eRIL; split <;> first | exact h _ _ _ _ | exact id
theorem eRIR_mono {st : List mV} {f g : Option Nat → Int → Option Nat → List mV → Prop} (h : ∀ x y z r, f x y z r → g x y z r) : eRIR st f → eRIR st g := by
  unfold eRIR; split <;> first | exact h _ _ _ _ | exact id
theorem eD_mono {st : List mV} {f g : mV → List mV → Prop} (h : ∀ x r, f x r → g x r) : eD st f → eD st g := by
  unfold eD; split
  · split <;> first | exact h _ _ | exact id
  · exact id
theorem eDD_mono {st : List mV} {f g : mV → mV → List mV → Prop} (h : ∀ x y r, f x y r → g x y r) : eDD st f → eDD st g := by
  unfold eDD; split
  · split <;> first | exact h _ _ _ | exact id
  · exact id
theorem gI_mono {ls : mLs} {i : Nat} {f g : Int → Prop} (h : ∀ x, f x → g x) : gI ls i f → gI ls i g := by
  unfold gI; split <;> first | exact h _ | exact id
theorem gL_mono {ls : mLs} {i : Nat} {f g : Int64 → Prop} (h : ∀ x, f x → g x) : gL ls i f → gL ls i g := by
  unfold gL; split <;> first | exact h _ | exact id
theorem gR_mono {ls : mLs} {i : Nat} {f g : Option Nat → Prop} (h : ∀ x, f x → g x) : gR ls i f → gR ls i g := by
  unfold gR; split <;> first | exact h _ | exact id
theorem putL_mono {ls : mLs} {i : Nat} {v : mV} {f g : mLs → Prop} (h : ∀ x, f x → g x) : putL ls i v f → putL ls i v g := by
  unfold putL; split
  · exact h _
  · split <;> first | exact h _ | exact id
theorem drf_mono {r : Option Nat} {f g : Nat → Prop} (h : ∀ x, f x → g x) : drf r f → drf r g := by
  unfold drf; split <;> first | exact h _ | exact id
theorem nbr_mono {r : Option Nat} {A B A' B' : Prop} (h : A → A') (h2 : B → B') : nbr r A B → nbr r A' B' := by
  unfold nbr; split <;> assumption
theorem chk_mono {b : Bool} {A B : Prop} (h : A → B) : chk b A → chk b B := by
  unfold chk; split <;> first | exact h | exact id
theorem and_mono {p A B : Prop} (h : A → B) : p ∧ A → p ∧ B := fun q => ⟨q.1, h q.2⟩
theorem b01W_mono {x : Int} {A B : Prop} (h : A → B) : b01W x A → b01W x B := by
  unfold b01W; split
  · exact h
  · split <;> first | exact h | exact id
theorem nzW_mono {x : Int} {A B : Prop} (h : A → B) : nzW x A → nzW x B := by
  unfold nzW; split <;> first | exact id | exact h
theorem b01W_inv {x : Int} {A : Prop} (h : b01W x A) : (x = 0 ∨ x = 1) ∧ A := by
  unfold b01W at h; split at h
  · rename_i q; exact ⟨Or.inl q, h⟩
  · split at h
    · rename_i q; exact ⟨Or.inr q, h⟩
    · exact h.elim
theorem nzW_inv {x : Int} {A : Prop} (h : nzW x A) : x ≠ 0 ∧ A := by
  unfold nzW at h; split at h
  · exact h.elim
  · rename_i q; exact ⟨q, h⟩
theorem b01W_i {x : Int} {A : Prop} (h : x = 0 ∨ x = 1) (a : A) : b01W x A := by
  unfold b01W; split
  · exact a
  · split
    · exact a
    · omega
theorem nzW_i {x : Int} {A : Prop} (h : x ≠ 0) (a : A) : nzW x A := by
  unfold nzW; rw [if_neg h]; exact a
theorem cbr_mono {c : ClassFile.Cond} {x y : Int} {A B A' B' : Prop} (h : A → A') (h2 : B → B') : cbr c x y A B → cbr c x y A' B' := by
  unfold cbr; cases c <;> (dsimp only; split <;> assumption)
theorem swW_mono {x : Int} {dflt : Nat} {f g : Nat → Prop} (h : ∀ t, f t → g t) : ∀ (sw : List (Int × Nat)), swW x sw dflt f → swW x sw dflt g
  | [] => h _
  | (k, t) :: r => by
    unfold swW; split
    · exact h _
    · exact swW_mono h r
theorem ri_mono {r : Option mV} {f g : Int → Prop} (h : ∀ x, f x → g x) : ri r f → ri r g := by
  unfold ri; split <;> first | exact h _ | exact id
theorem rl_mono {r : Option mV} {f g : Int64 → Prop} (h : ∀ x, f x → g x) : rl r f → rl r g := by
  unfold rl; split <;> first | exact h _ | exact id
theorem rr_mono {r : Option mV} {f g : Option Nat → Prop} (h : ∀ x, f x → g x) : rr r f → rr r g := by
  unfold rr; split <;> first | exact h _ | exact id
theorem rv_mono {r : Option mV} {f g : Prop} (h : f → g) : rv r f → rv r g := by
  unfold rv; split <;> first | exact h | exact id
theorem headR_mono {vs : List mV} {f g : Nat → Prop} (h : ∀ x, f x → g x) : headR vs f → headR vs g := by
  unfold headR; split <;> first | exact h _ | exact id
theorem retW_mono {ic : Nat} {st : List mV} {f g : List mV → mH → Prop} (h : ∀ st H, f st H → g st H) (r : Option mV) (H : mH) : retW ic st f r H → retW ic st g r H := by
  unfold retW; split
  · exact rv_mono (h _ _)
  · exact ri_mono fun _ => h _ _
  · exact rl_mono fun _ => h _ _
  · exact rr_mono fun _ => h _ _
theorem callW_mono {C C' : mC} {d y kc ks ic ib : Nat} {args st : List mV} {H : mH} {f g : Nat → Nat → List mV → mH → Prop} (hC : ∀ d y args H (Q Q' : mK), (∀ r H, Q r H → Q' r H) → C d y args H Q → C' d y args H Q') (h : ∀ a b st H, f a b st H → g a b st H) : callW C d y kc ks ic ib args st H f → callW C' d y kc ks ic ib args st H g := by
  unfold callW; split
  · exact id
  · exact chk_mono (hC _ _ _ _ _ _ fun r H => retW_mono (fun _ _ => h _ _ _ _) r H)
theorem copyW_mono {st : List mV} {H : mH} {n : Nat} {f g : List mV → mH → Prop} (h : ∀ r H, f r H → g r H) : copyW st H n f → copyW st H n g := by
  unfold copyW; split
  · refine drf_mono fun _ => drf_mono fun _ => and_mono (chk_mono ?_)
    split
    · exact h _ _
    · exact chk_mono (h _ _)
  · exact id
theorem chkIdxW_mono {st : List mV} {f g : List mV → Prop} (h : ∀ r, f r → g r) : chkIdxW st f → chkIdxW st g := eII_mono fun _ _ _ => and_mono (chk_mono (h _))
end Mono
set_option maxHeartbeats 4000000 in
theorem step_mono {n : Nat} {P P' : mJ} {C C' : mC} {K K' : mK} (hK : ∀ r H, K r H → K' r H) (hP : ∀ d y pc kc ks ls st H, P d y pc kc ks ls st H K → P' d y pc kc ks ls st H K') (hC : ∀ d y args H (Q Q' : mK), (∀ r H, Q r H → Q' r H) → C d y args H Q → C' d y args H Q') (d : Nat) (w : mRow) (kc ks : Nat) (ls : mLs) (st : List mV) (H : mH) : stepW n P C d w kc ks ls st H K → stepW n P' C' d w kc ks ls st H K' := by
  obtain ⟨y, pc, ins, len, ⟨ia, ib, ic⟩, z, sw⟩ := w
  have hp : ∀ {d y pc kc ks ls st H}, P d y pc kc ks ls st H K → P' d y pc kc ks ls st H K' := fun {d y pc kc ks ls st H} => hP d y pc kc ks ls st H
  cases ins <;> dsimp only [stepW] <;> first
    | exact id
    | exact hp
    | exact gI_mono fun _ => hp
    | exact gL_mono fun _ => hp
    | exact gR_mono fun _ => hp
    | exact eI_mono fun _ _ => hp
    | exact eII_mono fun _ _ _ => hp
    | exact eL_mono fun _ _ => hp
    | exact eLL_mono fun _ _ _ => hp
    | exact eLI_mono fun _ _ _ => hp
    | exact eD_mono fun _ _ => hp
    | exact eDD_mono fun _ _ _ => hp
    | exact eI_mono fun _ _ => putL_mono fun _ => hp
    | exact eR_mono fun _ _ => drf_mono fun _ => putL_mono fun _ => hp
    | exact gI_mono fun _ => putL_mono fun _ => hp
    | exact eII_mono fun _ _ _ => and_mono hp
    | exact eII_mono fun _ _ _ => nzW_mono hp
    | exact eI_mono fun _ _ => cbr_mono hp hp
    | exact eII_mono fun _ _ _ => cbr_mono hp hp
    | exact eR_mono fun _ _ => nbr_mono hp hp
    | exact eI_mono fun _ _ => swW_mono (fun _ => hp) _
    | exact eR_mono fun _ _ => drf_mono fun _ => chk_mono hp
    | exact eRI_mono fun _ _ _ => drf_mono fun _ => chk_mono (and_mono hp)
    | exact eRII_mono fun _ _ _ _ => drf_mono fun _ => chk_mono (and_mono hp)
    | exact eRII_mono fun _ _ _ _ => drf_mono fun _ => chk_mono (and_mono (b01W_mono hp))
    | exact eRIL_mono fun _ _ _ _ => drf_mono fun _ => chk_mono (and_mono hp)
    | exact eRIR_mono fun _ _ _ _ => drf_mono fun _ => drf_mono fun _ => chk_mono (and_mono hp)
    | exact headR_mono fun _ => chk_mono (callW_mono hC fun _ _ _ _ => hp)
    | (split <;> first
        | exact id
        | exact hp
        | exact hK _ _
        | exact chk_mono hp
        | exact and_mono (hK _ _)
        | exact drf_mono fun _ => hK _ _
        | exact eRR_mono fun _ _ _ => drf_mono fun _ => chk_mono hp
        | exact eRI_mono fun _ _ _ => drf_mono fun _ => chk_mono (b01W_mono hp)
        | exact eRI_mono fun _ _ _ => drf_mono fun _ => chk_mono hp
        | exact eI_mono fun _ _ => chk_mono (and_mono hp)
        | exact copyW_mono fun _ _ => hp
        | exact eII_mono fun _ _ _ => chk_mono hp
        | exact eI_mono fun _ _ => chk_mono hp
        | exact chkIdxW_mono fun _ => hp
        | exact callW_mono hC fun _ _ _ _ => hp
        | exact eR_mono fun _ _ => drf_mono fun _ => chk_mono hp
        | exact headR_mono fun _ => chk_mono (callW_mono hC fun _ _ _ _ => hp)
        | (split <;> first | exact hK _ _ | exact and_mono (hK _ _) | exact b01W_mono (hK _ _) | exact id))
    | (refine eR_mono fun _ _ => drf_mono fun _ => chk_mono ?_; split <;> exact hp)
theorem ent_mono {P P' : mJ} (h : ∀ d y pc kc ks ls st H (K K' : mK), (∀ r H, K r H → K' r H) → P d y pc kc ks ls st H K → P' d y pc kc ks ls st H K') : ∀ d y args H (Q Q' : mK), (∀ r H, Q r H → Q' r H) → ent P d y args H Q → ent P' d y args H Q' := fun _ _ _ _ _ _ hq => h _ _ _ _ _ _ _ _ _ _ hq
theorem Wm_mono (n : Nat) : mMono (Wm n) := fun _ _ _ _ _ _ _ _ _ _ hk h P hm hc => hm _ _ _ _ _ _ _ _ _ _ hk (h P hm hc)
theorem Cm_mono {n d y : Nat} {args : List mV} {H : mH} {K K' : mK} (hk : ∀ r H, K r H → K' r H) (h : Cm n d y args H K) : Cm n d y args H K' := Wm_mono n _ _ _ _ _ _ _ _ _ _ hk h
theorem Wm_closed (n : Nat) : mClosed n (Wm n) := by
  intro d w kc ks ls st H K hw h P hm hc
  refine hc d w kc ks ls st H K hw (step_mono (fun _ _ => id) (fun _ _ _ _ _ _ _ _ q => q P hm hc) (ent_mono fun _ _ _ _ _ _ _ _ _ _ hk q => hm _ _ _ _ _ _ _ _ _ _ hk (q P hm hc)) d w kc ks ls st H h)
/-- the rows from a place on -/
def findR (rs : List mRow) (pc : Nat) : List mRow := match rs with
  | [] => []
  | w :: r => match Nat.beq w.2.1 pc with
    | true => w :: r
    | false => findR r pc
def look (hint : List mRow) (y pc : Nat) : List mRow := match hint with
  | [] => findR (mCode y) pc
  | w :: r => match Nat.beq w.1 y && Nat.beq w.2.1 pc with
    | true => w :: r
    | false => findR (mCode y) pc
def cutB (cut : List (Nat × Nat)) (y pc : Nat) : Bool := match cut with
  | [] => false
  | q :: r => (Nat.beq q.1 y && Nat.beq q.2 pc) || cutB r y pc
def memB (l : List Nat) (y : Nat) : Bool := match l with
  | [] => false
  | q :: r => Nat.beq q y || memB r y
/-- many steps: up to the cuts; the methods of 'inl' are gone through, the others are called -/
def wpU (n : Nat) (inl : List Nat) (cut : List (Nat × Nat)) : Nat → List mRow → mJ
  | 0, _ => Wm n
  | f + 1, hint => fun d y pc kc ks ls st H K => match cutB cut y pc with
    | true => Wm n d y pc kc ks ls st H K
    | false => match look hint y pc with
      | [] => False
      | w :: rest => match Nat.beq w.1 y && Nat.beq w.2.1 pc with
        | true => stepW n (wpU n inl cut f rest) (fun d' y' args H K => match memB inl y' with
          | true => ent (wpU n inl cut f []) d' y' args H K
          | false => Cm n d' y' args H K) d w kc ks ls st H K
        | false => False
def okL (l : List mRow) : Prop := ∀ w ∈ l, okRow w = true
theorem findR_ok {rs : List mRow} (h : okL rs) (pc : Nat) : okL (findR rs pc) := by
  induction rs with
  | nil => exact h
  | cons w r ih =>
    unfold findR; split
    · exact h
    · exact ih fun q hq => h q (List.mem_cons_of_mem _ hq)
theorem look_ok (hC : ∀ y, okL (mCode y)) {hint : List mRow} (h : okL hint) (y pc : Nat) : okL (look hint y pc) := by
  unfold look; split
  · exact findR_ok (hC y) pc
  · split
    · exact h
    · exact findR_ok (hC y) pc
theorem wpU_sound (hC : ∀ y, okL (mCode y)) (n : Nat) (inl : List Nat) (cut : List (Nat × Nat)) : ∀ (f : Nat) (hint : List mRow), okL hint → ∀ d y pc kc ks ls st H (K K' : mK), (∀ r H, K r H → K' r H) → wpU n inl cut f hint d y pc kc ks ls st H K → Wm n d y pc kc ks ls st H K' := by
  intro f
  induction f with
  | zero => intro hint _ d y pc kc ks ls st H K K' hk h; exact Wm_mono n _ _ _ _ _ _ _ _ _ _ hk h
  | succ f ih =>
    intro hint hh d y pc kc ks ls st H K K' hk h
    unfold wpU at h
    split at h
    · exact Wm_mono n _ _ _ _ _ _ _ _ _ _ hk h
    · have hl := look_ok hC hh y pc
      split at h
      · exact h.elim
      · rename_i w rest heq
        rw [heq] at hl
        split at h
        · rename_i hb
          have e := Bool.and_eq_true_iff.mp hb
          have e1 := Nat.eq_of_beq_eq_true e.1
          have e2 := Nat.eq_of_beq_eq_true e.2
          rw [← e1, ← e2]
          refine Wm_closed n d w kc ks ls st H K' (hl w List.mem_cons_self) (step_mono hk (fun d y pc kc ks ls st H q => ih rest (fun v hv => hl v (List.mem_cons_of_mem _ hv)) d y pc kc ks ls st H K K' hk q) ?_ d w kc ks ls st H h)
          intro d y args H Q Q' hq g
          split at g
          · exact ih [] (fun v hv => by cases hv) _ _ _ _ _ _ _ _ Q Q' hq g
          · exact Cm_mono hq g
        · exact h.elim
end
section
/-! ===== the small machine's cells, held by the machine's heap ===== -/
section Num
theorem wr_range (x : Int) : -2147483648 ≤ wr x ∧ wr x < 2147483648 := by unfold wr; omega
theorem wr_id {x : Int} (h1 : -2147483648 ≤ x) (h2 : x < 2147483648) : wr x = x := by unfold wr; omega
theorem toInt_ofInt_wr (x : Int) : (Int32.ofInt x).toInt = wr x := by
  rw [Int32.toInt_ofInt]
  unfold wr
  rw [Int.bmod_def]
  simp only [show (Int32.size : Int) = 4294967296 from rfl]
  split <;> omega
theorem toInt_ofInt_id {x : Int} (h : -2147483648 ≤ x ∧ x < 2147483648) : (Int32.ofInt x).toInt = x := by rw [toInt_ofInt_wr, wr_id h.1 h.2]
theorem ofInt_toInt32 (x : Int32) : Int32.ofInt x.toInt = x := by
  apply Int32.toInt_inj.mp
  rw [toInt_ofInt_wr]
  have h1 := Int32.le_toInt x
  have h2 := Int32.toInt_lt x
  exact wr_id (by omega) (by omega)
theorem toInt_rng (x : Int32) : -2147483648 ≤ x.toInt ∧ x.toInt < 2147483648 := ⟨by have := Int32.le_toInt x; omega, by have := Int32.toInt_lt x; omega⟩
theorem ofInt_wr (x : Int) : Int32.ofInt (wr x) = Int32.ofInt x := by
  apply Int32.toInt_inj.mp
  rw [toInt_ofInt_wr, toInt_ofInt_wr]
  unfold wr; omega
theorem ofInt_add' (a b : Int) : Int32.ofInt a + Int32.ofInt b = Int32.ofInt (wr (a + b)) := by rw [ofInt_wr, Int32.ofInt_add]
theorem ofInt_sub' (a b : Int) : Int32.ofInt a - Int32.ofInt b = Int32.ofInt (wr (a - b)) := by rw [ofInt_wr, Int32.ofInt_sub]
theorem ofInt_mul' (a b : Int) : Int32.ofInt a * Int32.ofInt b = Int32.ofInt (wr (a * b)) := by rw [ofInt_wr, Int32.ofInt_mul]
theorem ofInt_neg' (a : Int) : -Int32.ofInt a = Int32.ofInt (wr (-a)) := by rw [ofInt_wr, Int32.ofInt_neg]
theorem ofInt_div' {a b : Int} (ha : -2147483648 ≤ a ∧ a < 2147483648) (hb : -2147483648 ≤ b ∧ b < 2147483648) : Int32.ofInt a / Int32.ofInt b = Int32.ofInt (wr (a.tdiv b)) := by
  apply Int32.toInt_inj.mp
  rw [ofInt_wr, toInt_ofInt_wr, Int32.toInt_div, toInt_ofInt_id ha, toInt_ofInt_id hb]
  unfold wr
  rw [Int.bmod_def]
  split <;> omega
theorem ofInt_rem' {a b : Int} (ha : -2147483648 ≤ a ∧ a < 2147483648) (hb : -2147483648 ≤ b ∧ b < 2147483648) : Int32.ofInt a - Int32.ofInt a / Int32.ofInt b * Int32.ofInt b = Int32.ofInt (a.tmod b) := by
  apply Int32.toInt_inj.mp
  rw [rem_toInt, toInt_ofInt_id ha, toInt_ofInt_id hb]
  have h := toInt_rng (Int32.ofInt a - Int32.ofInt a / Int32.ofInt b * Int32.ofInt b)
  rw [rem_toInt, toInt_ofInt_id ha, toInt_ofInt_id hb] at h
  rw [toInt_ofInt_id h]
theorem tmod_rng {a b : Int} (ha : -2147483648 ≤ a ∧ a < 2147483648) (hb : -2147483648 ≤ b ∧ b < 2147483648) : -2147483648 ≤ a.tmod b ∧ a.tmod b < 2147483648 := by
  have h := toInt_rng (Int32.ofInt a - Int32.ofInt a / Int32.ofInt b * Int32.ofInt b)
  rwa [rem_toInt, toInt_ofInt_id ha, toInt_ofInt_id hb] at h
theorem ofInt_eq {a b : Int} (ha : -2147483648 ≤ a ∧ a < 2147483648) (hb : -2147483648 ≤ b ∧ b < 2147483648) : Int32.ofInt a = Int32.ofInt b ↔ a = b := by
  rw [← Int32.toInt_inj, toInt_ofInt_id ha, toInt_ofInt_id hb]
theorem ofInt_lt {a b : Int} (ha : -2147483648 ≤ a ∧ a < 2147483648) (hb : -2147483648 ≤ b ∧ b < 2147483648) : Int32.ofInt a < Int32.ofInt b ↔ a < b := by
  rw [Int32.lt_iff_toInt_lt, toInt_ofInt_id ha, toInt_ofInt_id hb]
theorem ofInt_le {a b : Int} (ha : -2147483648 ≤ a ∧ a < 2147483648) (hb : -2147483648 ≤ b ∧ b < 2147483648) : Int32.ofInt a ≤ Int32.ofInt b ↔ a ≤ b := by
  rw [Int32.le_iff_toInt_le, toInt_ofInt_id ha, toInt_ofInt_id hb]
theorem clamp_ofInt {i : Int} {N : Nat} (h : 0 ≤ i ∧ i < N) (hN : N < 2147483648) : (Int32.ofInt i).toNatClampNeg = i.toNat := by
  show (Int32.ofInt i).toInt.toNat = i.toNat
  rw [toInt_ofInt_id ⟨by omega, by omega⟩]
theorem in_ofInt {i : Int} {N : Nat} (h : 0 ≤ i ∧ i < N) (hN : N < 2147483648) : vp_in (Int32.ofInt i) N := by
  rw [vp_in_iff, toInt_ofInt_id ⟨by omega, by omega⟩]
  exact h
theorem ofNat_ofInt (n : Nat) : Int32.ofNat n = Int32.ofInt (n : Int) := by
  first | rfl | exact (Int32.ofInt_eq_ofNat).symm | simp
end Num
section Cells
def mval (ad : Nat → Nat) (v : mV) : Value := match v with
  | .inl x => .int (Int32.ofInt x)
  | .inr (.inl x) => .long x
  | .inr (.inr none) => .null
  | .inr (.inr (some a)) => .ref (ad a)
def okV (nx : Nat) (v : mV) : Prop := match v with
  | .inl x => -2147483648 ≤ x ∧ x < 2147483648
  | .inr (.inl _) => True
  | .inr (.inr none) => True
  | .inr (.inr (some a)) => a < nx
def okS (nx : Nat) (st : List mV) : Prop := ∀ v ∈ st, okV nx v
def okLs (nx : Nat) (ls : mLs) : Prop := ∀ (i : Nat) (v : mV), ls[i]? = some (some v) → okV nx v
def okH (H : mH) : Prop := 16 ≤ H.2.2.2 ∧ (∀ h k, -2147483648 ≤ H.1 h k ∧ H.1 h k < 2147483648) ∧ (∀ h k b, H.2.2.1 h k = some b → b < H.2.2.2) ∧ ∀ h, H.2.2.2 ≤ h → ∀ k, H.1 h k = 0 ∧ H.2.1 h k = 0 ∧ H.2.2.1 h k = none
def agr (nx : Nat) (ad ad' : Nat → Nat) : Prop := ∀ h, h < nx → ad' h = ad h
/-- the cells that were there are where they were; what nobody writes is as it was -/
abbrev mA0 : Type := (Nat → Nat) × (Nat → Nat → Int) × (Nat → Nat → Option Nat)
def agH (nx : Nat) (a0 : mA0) (ad : Nat → Nat) (H : mH) : Prop := agr nx a0.1 ad ∧ ∀ h, h < 16 → H.1 h = a0.2.1 h ∧ H.2.2.1 h = a0.2.2 h
theorem agH_H {nx : Nat} {a0 : mA0} {ad : Nat → Nat} {H H' : mH} (e1 : ∀ h, h < 16 → H'.1 h = H.1 h) (e2 : ∀ h, h < 16 → H'.2.2.1 h = H.2.2.1 h) (h : agH nx a0 ad H) : agH nx a0 ad H' := ⟨h.1, fun x hx => ⟨(e1 x hx).trans (h.2 x hx).1, (e2 x hx).trans (h.2 x hx).2⟩⟩
theorem agH_G {nx : Nat} {a0 : mA0} {ad ad' : Nat → Nat} {H H' : mH} (ha : agr H.2.2.2 ad ad') (hnx : nx ≤ H.2.2.2) (e1 : ∀ h, h < 16 → H'.1 h = H.1 h) (e2 : ∀ h, h < 16 → H'.2.2.1 h = H.2.2.1 h) (h : agH nx a0 ad H) : agH nx a0 ad' H' := ⟨fun q hq => (ha q (Nat.lt_of_lt_of_le hq hnx)).trans (h.1 q hq), (agH_H e1 e2 h).2⟩
theorem mval_agr {nx : Nat} {ad ad' : Nat → Nat} (h : agr nx ad ad') {v : mV} (hv : okV nx v) : mval ad' v = mval ad v := by
  rcases v with x | x | (_ | a)
  · rfl
  · rfl
  · rfl
  · exact congrArg Value.ref (h a hv)
theorem okV_le {a b : Nat} (h : a ≤ b) {v : mV} (hv : okV a v) : okV b v := by
  rcases v with x | x | (_ | c)
  · exact hv
  · trivial
  · trivial
  · exact Nat.lt_of_lt_of_le hv h
theorem map_agr {nx : Nat} {ad ad' : Nat → Nat} (h : agr nx ad ad') {st : List mV} (hs : okS nx st) : st.map (mval ad') = st.map (mval ad) := List.map_congr_left fun v hv => mval_agr h (hs v hv)
def fldV (ad : Nat → Nat) (H : mH) (h k : Nat) : Value := match fkG ((clAt (TY h)).2.1 k).2.2.1 with
  | 1 => va_rf ((H.2.2.1 h k).map ad)
  | _ => .int (Int32.ofInt (H.1 h k))
def arrC (ad : Nat → Nat) (H : mH) (h : Nat) : vp_A := (0, match TY h with
  | 101 => .inr (.inl (H.2.1 h))
  | 100 => .inl fun j => Int32.ofInt (H.1 h j)
  | 102 => .inl fun j => Int32.ofInt (H.1 h j)
  | _ => .inr (.inr (.inr (.inr fun j => (H.2.2.1 h j).map ad))))
def mcell (n : Nat) (ad : Nat → Nat) (cA : Nat → ClassId) (H : mH) (h : Nat) : va_E := match Nat.blt (TY h) 20 with
  | true => .inr (TY h, (List.range (clAt (TY h)).2.2).map (fldV ad H h))
  | false => .inl (cA h, (LN n h, (arrC ad H h).2))
def mws (n : Nat) (ad : Nat → Nat) (cA : Nat → ClassId) (H : mH) : va_W := (List.range (H.2.2.2 - 16)).map fun i => (ad (16 + i), mcell n ad cA H (16 + i))
theorem mws_at {n : Nat} {ad : Nat → Nat} {cA : Nat → ClassId} {H : mH} {h : Nat} (h1 : 16 ≤ h) (h2 : h < H.2.2.2) : (mws n ad cA H)[h - 16]? = some (ad h, mcell n ad cA H h) := by
  have e : 16 + (h - 16) = h := by omega
  simp [mws, show h - 16 < H.2.2.2 - 16 by omega, e]
theorem mws_in {n : Nat} {ad : Nat → Nat} {cA : Nat → ClassId} {H : mH} {k : Nat} {q : Nat × va_E} (hq : (mws n ad cA H)[k]? = some q) : 16 + k < H.2.2.2 ∧ q = (ad (16 + k), mcell n ad cA H (16 + k)) := by
  simp only [mws, List.getElem?_map, Option.map_eq_some_iff] at hq
  obtain ⟨i, hi, rfl⟩ := hq
  have hlt := (List.getElem?_eq_some_iff.mp hi).1
  rw [List.length_range] at hlt
  rw [List.getElem?_range hlt] at hi
  cases hi
  exact ⟨by omega, rfl⟩
/-- the element type of an array cell -/
def ety (h : Nat) : FieldType := match TY h with
  | 100 => .int
  | 101 => .long
  | 102 => .boolean
  | t => .object (clAt (t - 110)).1
/-- what stays as it is: tables, literals, words that aren't of the common kind -/
def mRO (n : Nat) (ad : Nat → Nat) (H : mH) (A : Nat → Prop) (U : State) (HH : Heap) : Prop :=
  va_T .int (ad 0) n (fun j => .int (Int32.ofInt (H.1 0 j))) A U HH ∧ va_T .int (ad 1) 7 (fun j => .int (Int32.ofInt (H.1 1 j))) A U HH ∧ va_T .int (ad 2) 21 (fun j => .int (Int32.ofInt (H.1 2 j))) A U HH ∧
  (∀ i, i < 6 → va_O "java/lang/String" (ad (3 + i)) A U HH ∧ va_OF "java/lang/String" "coder" "B" (.int (Int32.ofInt (H.1 (3 + i) 0))) (ad (3 + i)) A U HH ∧ va_OF "java/lang/String" "value" "[B" (va_rf ((H.2.2.1 (3 + i) 1).map ad)) (ad (3 + i)) A U HH ∧ va_T .byte (ad (9 + i)) (LN n (9 + i)) (fun j => .int (Int32.ofInt (H.1 (9 + i) j))) A U HH) ∧
  va_Z "java/lang/String" "COMPACT_STRINGS" "Z" (.int 1) A U HH ∧ va_Z "ExemptBeauty" "ABOVE" "[I" (.ref (ad 1)) A U HH ∧ va_Z "ExemptBeauty" "BODIES" "[I" (.ref (ad 2)) A U HH ∧ va_Zq "jdk/internal/util/Preconditions" "SIOOBE_FORMATTER" "Ljava/util/function/BiFunction;" A U HH ∧ n < 2147483648
def mStr : List (Nat × Nat × String) := [(84, 3, "ind "), (90, 4, "aste "), (92, 5, "ate "), (94, 6, "li"), (96, 7, "e "), (98, 8, "ght ")]
def mNest (ad : Nat → Nat) (U : State) : Prop := (∀ q ∈ mStr, vk_R RX4 q.1 q.2.2 (ad q.2.1) U) ∧ (∀ w ∈ mNestL, va_Nw w U) ∧ va_Nw (.fieldLinkNest RX0 28 "ExemptBeauty" "BODIES" "[I" "ExemptBeauty") U ∧ va_Nw (.fieldLinkNest RX0 35 "ExemptBeauty" "ABOVE" "[I" "ExemptBeauty") U ∧ va_AO RX2 U ∧ va_AO RX3 U ∧ va_AO RX6 U
def mW (D : va_G) (n : Nat) (ad : Nat → Nat) (cA : Nat → ClassId) (H : mH) (A : Nat → Prop) (U : State) (HH : Heap) : Prop :=
  va_P D vwCl (mws n ad cA H) HH ∧ va_D A (mws n ad cA H) ∧ va_K D vwCl [] U ∧ (∀ h, 16 ≤ h → h < H.2.2.2 → 100 ≤ TY h → ArrOfT U (cA h) (ety h) ∧ va_RA U (cA h) (ety h)) ∧ okH H
end Cells
section Sound
def gTbl : List Cond := lw_tbl.filter goodWord
theorem gT {i : Nat} {w : Cond} (h : lw_tbl[i]? = some w) (hg : goodWord w = true) : w ∈ gTbl := List.mem_filter.mpr ⟨List.mem_of_getElem? h, hg⟩
theorem wAt_sp {sw : List (Int × Nat)} {w : Cond} (h : wAt sw w = true) (hg : goodWord w = true) : w ∈ gTbl := by
  unfold wAt at h
  split at h
  · exact gT (of_decide_eq_true h) hg
  · cases h
theorem gTbl_all : gTbl.all goodWord = true := List.all_eq_true.mpr fun w hw => (List.mem_filter.mp hw).2
/-- the machine at a method of ours -/
def mCtx (p : Program) (s : State) (m : MethodId) (args : Array Value) (meth : Method) (c : Code) (A : Nat → Prop) (y : Nat) : Prop :=
  p.tables.exec = Jvm.exec ∧ c.code = mBytes y ∧ meth.sig.returnType = mRet y ∧ c.maxLocals = mMax y ∧ s.vm.findClass (mOwn y) = some m.cls ∧ (∀ w ∈ gTbl, w.before args s = true) ∧ meth.locks = false ∧ ((mNm y).name = "<init>" → meth.name = "<init>") ∧ (∀ q, s.heap.size ≤ q → A q)
def mRm (d y : Nat) : Room := { frames := d + 2, cells := (mBud y).1, slots := (mBud y).2, locals := 40 * d + 200 }
def mRoom (R : Room) (d y : Nat) : Prop := d + 2 ≤ R.frames ∧ 40 * d + 200 ≤ R.locals ∧ (mBud y).1 ≤ R.cells ∧ (mBud y).2 ≤ R.slots
/-- what is given back, and by which instruction -/
def mRet1 (ins : Instr) (r : Option mV) (y : Nat) : Prop :=
  (ins = .ireturn ∧ ∃ x ty, r = some (vi x) ∧ mRet y = some ty ∧ narrow ty (.int (Int32.ofInt x)) = .int (Int32.ofInt x) ∧ rkOf (some ty) = 1) ∨
  (ins = .lreturn ∧ ∃ x, r = some (vl x) ∧ mRet y = some .long) ∨
  (ins = .areturn ∧ ∃ a ty, r = some (vr (some a)) ∧ mRet y = some ty ∧ rkOf (some ty) = 3) ∨
  (ins = .return_ ∧ r = none ∧ mRet y = none)
def mEnd (p : Program) (l : Launch) (e : Env) (R : Room) (s : State) (m : MethodId) (args : Array Value) (below : List Frame) (meth : Method) (c : Code) (A : Nat → Prop) (D : va_G) (n y : Nat) (ad0 : mA0) (nx0 : Nat) (QF : State → Prop) (K : mK) : Prop :=
  ∀ (ad : Nat → Nat) (cA : Nat → ClassId) (H : mH) (HH : Heap) (locs : List Loc) (cells slots : Nat) (ls : Array Slot) (pc : Nat) (ins : Instr) (r : Option mV), decode (mBytes y) pc = .ok (ins, 1) → mRet1 ins r y → (∀ v, r = some v → okV H.2.2.2 v) → K r H → agH nx0 ad0 ad H → nx0 ≤ H.2.2.2 → mW D n ad cA H A s HH → va_S A s.heap HH locs → cells ≤ (mBud y).1 → slots ≤ (mBud y).2 →
    W p l e R s m args below meth c HH locs cells slots QF (F0 m pc ls (r.toList.map (mval ad)))
def lvOf (ad : Nat → Nat) (ls : mLs) : List (Nat × Value) := (List.range ls.length).filterMap fun i => match ls[i]? with
  | some (some v) => some (i, mval ad v)
  | _ => none
theorem lvOf_mem {ad : Nat → Nat} {ls : mLs} {q : Nat × Value} : q ∈ lvOf ad ls ↔ ∃ v, ls[q.1]? = some (some v) ∧ q.2 = mval ad v := by
  unfold lvOf
  rw [List.mem_filterMap]
  constructor
  · rintro ⟨i, hi, h⟩
    split at h
    · rename_i v hv
      cases h
      exact ⟨v, hv, rfl⟩
    · cases h
  · rintro ⟨v, hv, hq⟩
    have hlt := (List.getElem?_eq_some_iff.mp hv).1
    refine ⟨q.1, List.mem_range.mpr hlt, ?_⟩
    rw [hv]
    simp [← hq]
theorem lv_of_sub {ls : Array Slot} {nL : Nat} {l l' : List (Nat × Value)} (h : lv_has ls nL l) (hs : ∀ q ∈ l', q ∈ l) : lv_has ls nL l' := ⟨h.1, h.2.1, fun q hq => h.2.2 q (hs q hq)⟩
theorem lv_get {ad : Nat → Nat} {lsR : Array Slot} {nL : Nat} {ls : mLs} (h : lv_has lsR nL (lvOf ad ls)) {i : Nat} {v : mV} (hv : ls[i]? = some (some v)) : lsR[i]? = some (.val (mval ad v)) := h.2.2 (i, mval ad v) (lvOf_mem.mpr ⟨v, hv, rfl⟩)
theorem mval_cat {ad : Nat → Nat} {v : mV} (h : (mval ad v).category = 2) : ∃ x, v = vl x := by
  rcases v with x | x | (_ | a)
  · cases h
  · exact ⟨x, rfl⟩
  · cases h
  · cases h
theorem putL_inv {ls : mLs} {i : Nat} {v : mV} {f : mLs → Prop} (h : putL ls i v f) : (∀ j x, i = j + 1 → ls[j]? ≠ some (some (vl x))) ∧ f (ls.set i (some v)) := by
  unfold putL at h
  split at h
  · exact ⟨fun j x hj => by omega, h⟩
  · rename_i j
    split at h
    · exact h.elim
    · rename_i hn
      refine ⟨fun k x hk hh => ?_, h⟩
      obtain rfl : k = j := by omega
      exact hn x hh
theorem lv_put {ad : Nat → Nat} {ls' : Array Slot} {nL : Nat} {ls : mLs} {i : Nat} {v : mV} (hn : ∀ j x, i = j + 1 → ls[j]? ≠ some (some (vl x))) (h : lv_has ls' nL ((i, mval ad v) :: (lvOf ad ls).filter (fun q => !(q.1 == i) && !(q.1 + 1 == i && q.2.category == 2)))) : lv_has ls' nL (lvOf ad (ls.set i (some v))) := by
  refine lv_of_sub h fun q hq => ?_
  obtain ⟨w, hw, e⟩ := lvOf_mem.mp hq
  by_cases hqi : q.1 = i
  · have hw2 := hw
    rw [hqi] at hw2
    have hlt := (List.getElem?_eq_some_iff.mp hw2).1
    rw [List.length_set] at hlt
    rw [List.getElem?_set_self hlt] at hw2
    cases hw2
    rw [List.mem_cons]
    exact Or.inl (Prod.ext hqi e)
  · rw [List.getElem?_set_ne (Ne.symm hqi)] at hw
    refine List.mem_cons_of_mem _ (List.mem_filter.mpr ⟨lvOf_mem.mpr ⟨w, hw, e⟩, ?_⟩)
    simp only [Bool.and_eq_true, Bool.not_eq_true', beq_eq_false_iff_ne, ne_eq, Bool.and_eq_false_iff]
    refine ⟨hqi, ?_⟩
    by_cases h2 : q.1 + 1 = i
    · refine Or.inr fun hc => ?_
      rw [e] at hc
      obtain ⟨x, rfl⟩ := mval_cat hc
      exact hn q.1 x h2.symm hw
    · exact Or.inl h2
theorem okLs_put {nx : Nat} {ls : mLs} (h : okLs nx ls) {i : Nat} {v : mV} (hv : okV nx v) : okLs nx (ls.set i (some v)) := by
  intro j w hw
  by_cases hj : j = i
  · subst hj
    have hlt := (List.getElem?_eq_some_iff.mp hw).1
    rw [List.length_set] at hlt
    rw [List.getElem?_set_self hlt] at hw
    cases hw
    exact hv
  · rw [List.getElem?_set_ne (Ne.symm hj)] at hw
    exact h j w hw
theorem gI_inv {ls : mLs} {i : Nat} {f : Int → Prop} (h : gI ls i f) : ∃ x, ls[i]? = some (some (vi x)) ∧ f x := by
  unfold gI at h; split at h
  · rename_i x hx; exact ⟨x, hx, h⟩
  · exact h.elim
theorem gL_inv {ls : mLs} {i : Nat} {f : Int64 → Prop} (h : gL ls i f) : ∃ x, ls[i]? = some (some (vl x)) ∧ f x := by
  unfold gL at h; split at h
  · rename_i x hx; exact ⟨x, hx, h⟩
  · exact h.elim
theorem gR_inv {ls : mLs} {i : Nat} {f : Option Nat → Prop} (h : gR ls i f) : ∃ x, ls[i]? = some (some (vr x)) ∧ f x := by
  unfold gR at h; split at h
  · rename_i x hx; exact ⟨x, hx, h⟩
  · exact h.elim
theorem eI_inv {st : List mV} {f : Int → List mV → Prop} (h : eI st f) : ∃ x r, st = vi x :: r ∧ f x r := by
  unfold eI at h; split at h
  · exact ⟨_, _, rfl, h⟩
  · exact h.elim
theorem eII_inv {st : List mV} {f : Int → Int → List mV → Prop} (h : eII st f) : ∃ a b r, st = vi b :: vi a :: r ∧ f a b r := by
  unfold eII at h; split at h
  · exact ⟨_, _, _, rfl, h⟩
  · exact h.elim
theorem eL_inv {st : List mV} {f : Int64 → List mV → Prop} (h : eL st f) : ∃ x r, st = vl x :: r ∧ f x r := by
  unfold eL at h; split at h
  · exact ⟨_, _, rfl, h⟩
  · exact h.elim
theorem eLL_inv {st : List mV} {f : Int64 → Int64 → List mV → Prop} (h : eLL st f) : ∃ a b r, st = vl b :: vl a :: r ∧ f a b r := by
  unfold eLL at h; split at h
  · exact ⟨_, _, _, rfl, h⟩
  · exact h.elim
theorem eLI_inv {st : List mV} {f : Int64 → Int → List mV → Prop} (h : eLI st f) : ∃ a b r, st = vi b :: vl a :: r ∧ f a b r := by
  unfold eLI at h; split at h
  · exact ⟨_, _, _, rfl, h⟩
  · exact h.elim
theorem eR_inv {st : List mV} {f : Option Nat → List mV → Prop} (h : eR st f) : ∃ x r, st = vr x :: r ∧ f x r := by
  unfold eR at h; split at h
  · exact ⟨_, _, rfl, h⟩
  · exact h.elim
theorem eRI_inv {st : List mV} {f : Option Nat → Int → List mV → Prop} (h : eRI st f) : ∃ a i r, st = vi i :: vr a :: r ∧ f a i r := by
  unfold eRI at h; split at h
  · exact ⟨_, _, _, rfl, h⟩
  · exact h.elim
theorem eRR_inv {st : List mV} {f : Option Nat → Option Nat → List mV → Prop} (h : eRR st f) : ∃ a v r, st = vr v :: vr a :: r ∧ f a v r := by
  unfold eRR at h; split at h
  · exact ⟨_, _, _, rfl, h⟩
  · exact h.elim
theorem eRII_inv {st : List mV} {f : Option Nat → Int → Int → List mV → Prop} (h : eRII st f) : ∃ a i x r, st = vi x :: vi i :: vr a :: r ∧ f a i x r := by
  unfold eRII at h; split at h
  · exact ⟨_, _, _, _, rfl, h⟩
  · exact h.elim
theorem eRIL_inv {st : List mV} {f : Option Nat → Int → Int64 → List mV → Prop} (h : eRIL st f) : ∃ a i x r, st = vl x :: vi i :: vr a :: r ∧ f a i x r := by
  unfold eRIL at h; split at h
  · exact ⟨_, _, _, _, rfl, h⟩
  · exact h.elim
theorem eRIR_inv {st : List mV} {f : Option Nat → Int → Option Nat → List mV → Prop} (h : eRIR st f) : ∃ a i x r, st = vr x :: vi i :: vr a :: r ∧ f a i x r := by
  unfold eRIR at h; split at h
  · exact ⟨_, _, _, _, rfl, h⟩
  · exact h.elim
theorem eD_inv {st : List mV} {f : mV → List mV → Prop} (h : eD st f) : ∃ v r, st = v :: r ∧ isC1 v = true ∧ f v r := by
  unfold eD at h; split at h
  · split at h
    · rename_i hc; exact ⟨_, _, rfl, hc, h⟩
    · exact h.elim
  · exact h.elim
theorem eDD_inv {st : List mV} {f : mV → mV → List mV → Prop} (h : eDD st f) : ∃ v w r, st = v :: w :: r ∧ isC1 v = true ∧ isC1 w = true ∧ f v w r := by
  unfold eDD at h; split at h
  · split at h
    · rename_i hc; exact ⟨_, _, _, rfl, (Bool.and_eq_true_iff.mp hc).1, (Bool.and_eq_true_iff.mp hc).2, h⟩
    · exact h.elim
  · exact h.elim
theorem drf_inv {r : Option Nat} {f : Nat → Prop} (h : drf r f) : ∃ a, r = some a ∧ f a := by
  unfold drf at h; split at h
  · exact ⟨_, rfl, h⟩
  · exact h.elim
theorem chk_inv {b : Bool} {A : Prop} (h : chk b A) : b = true ∧ A := by
  unfold chk at h; split at h
  · exact ⟨rfl, h⟩
  · exact h.elim
theorem headR_inv {vs : List mV} {f : Nat → Prop} (h : headR vs f) : ∃ a t, vs = vr (some a) :: t ∧ f a := by
  unfold headR at h; split at h
  · exact ⟨_, _, rfl, h⟩
  · exact h.elim
  · exact h.elim
theorem isC1_cat {ad : Nat → Nat} {v : mV} (h : isC1 v = true) : (mval ad v).category = 1 := by
  rcases v with x | x | (_ | a)
  · rfl
  · cases h
  · rfl
  · rfl
theorem okS_c {nx : Nat} {v : mV} {st : List mV} (hv : okV nx v) (h : okS nx st) : okS nx (v :: st) := fun w hw => by
  rcases List.mem_cons.mp hw with rfl | h2
  · exact hv
  · exact h w h2
theorem okS_t {nx : Nat} {v : mV} {st : List mV} (h : okS nx (v :: st)) : okS nx st := fun w hw => h w (List.mem_cons_of_mem _ hw)
theorem okS_h {nx : Nat} {v : mV} {st : List mV} (h : okS nx (v :: st)) : okV nx v := h v List.mem_cons_self
theorem okS_of {nx : Nat} {st : List mV} {v : mV} (h : okS nx st) (hv : v ∈ st) : okV nx v := h v hv
theorem okRow_sp {y pc : Nat} {ins : Instr} {len ia ib ic : Nat} {z : Int} {sw : List (Int × Nat)} (h : okRow (y, pc, ins, len, (ia, ib, ic), z, sw) = true) : decode (mBytes y) pc = .ok (ins, len) ∧ okIns y pc ins len ia ib ic z sw = true ∧ y < mNmL.length := by
  simp only [okRow, Bool.and_eq_true, decide_eq_true_eq] at h
  exact ⟨h.1.2, h.2, Nat.lt_of_succ_le (Nat.le_of_ble_eq_true h.1.1)⟩
theorem va_rf_map (ad : Nat → Nat) (r : Option Nat) : va_rf (r.map ad) = mval ad (vr r) := by cases r <;> rfl
theorem wrV (nx : Nat) (x : Int) : okV nx (vi (wr x)) := wr_range x
theorem i32V (nx : Nat) (x : Int32) : okV nx (vi x.toInt) := toInt_rng x
theorem ofInt_b (x : Int32) : x = Int32.ofInt x.toInt := (ofInt_toInt32 x).symm
def Pr (l : Launch) (n : Nat) : mJ := fun d y pc kc ks ls st H K => ∀ (p : Program) (e : Env) (R : Room) (s : State) (m : MethodId) (args : Array Value) (below : List Frame) (meth : Method) (c : Code) (A : Nat → Prop) (D : va_G) (ad : Nat → Nat) (cA : Nat → ClassId) (HH : Heap) (locs : List Loc) (cells slots : Nat) (lsR : Array Slot) (QF : State → Prop) (ad0 : mA0) (nx0 : Nat),
  mCtx p s m args meth c A y → mRoom R d y → mNest ad s → mRO n ad H A s s.heap → mEnd p l e R s m args below meth c A D n y ad0 nx0 QF K → okS H.2.2.2 st → okLs H.2.2.2 ls → lv_has lsR (mMax y) (lvOf ad ls) → mW D n ad cA H A s HH → va_S A s.heap HH locs → agH nx0 ad0 ad H → nx0 ≤ H.2.2.2 → cells + kc ≤ (mBud y).1 → slots + ks ≤ (mBud y).2 →
  W p l e R s m args below meth c HH locs cells slots QF (F0 m pc lsR (st.map (mval ad)))
theorem Pr_mono (l : Launch) (n : Nat) : mMono (Pr l n) := by
  intro d y pc kc ks ls st H K K' hk h p e R s m args below meth c A D ad cA HH locs cells slots lsR QF ad0 nx0 h1 h2 h3 h4 h5
  exact h p e R s m args below meth c A D ad cA HH locs cells slots lsR QF ad0 nx0 h1 h2 h3 h4 fun ad cA H HH locs cells slots ls pc ins r q1 q2 q3 q4 => h5 ad cA H HH locs cells slots ls pc ins r q1 q2 q3 (hk r H q4)
end Sound
end
section
/-! ===== the small machine's steps are the machine's: straight ones ===== -/
theorem ofInt_toInt64 {a : Int} (h : -2147483648 ≤ a ∧ a < 2147483648) : (Int32.ofInt a).toInt64 = Int64.ofInt a := by
  apply Int64.toInt_inj.mp
  rw [Int32.toInt_toInt64, toInt_ofInt_id h, Int64.toInt_ofInt, Int.bmod_def]
  simp only [show (Int64.size : Int) = 18446744073709551616 from rfl]
  split <;> omega
theorem swW_out {x lo : Int} {ia : Nat} {f : Nat → Prop} : ∀ (sw : List (Int × Nat)), (∀ (j : Nat) (q : Int × Nat), sw[j]? = some q → q.1 = lo + j) → (x < lo ∨ lo + sw.length ≤ x) → swW x sw ia f → f ia := by
  intro sw
  induction sw generalizing lo with
  | nil => intro _ _ h; exact h
  | cons q r ih =>
    intro hk hx h
    obtain ⟨k, t⟩ := q
    have h0 : k = lo := by have := hk 0 (k, t) rfl; simpa using this
    unfold swW at h
    simp only [List.length_cons] at hx
    rw [if_neg (by omega)] at h
    refine ih (lo := lo + 1) (fun j q hq => ?_) (by omega) h
    have := hk (j + 1) q (by simpa using hq)
    rw [this]; omega
theorem swW_in {x lo : Int} {ia t : Nat} {f : Nat → Prop} : ∀ (sw : List (Int × Nat)), (∀ (j : Nat) (q : Int × Nat), sw[j]? = some q → q.1 = lo + j) → ∀ (j : Nat), sw[j]? = some (lo + j, t) → x = lo + j → swW x sw ia f → f t := by
  intro sw
  induction sw generalizing lo with
  | nil => intro _ j hj; simp at hj
  | cons q r ih =>
    intro hk j hj hx h
    obtain ⟨k, t'⟩ := q
    have h0 : k = lo := by have := hk 0 (k, t') rfl; simpa using this
    unfold swW at h
    cases j with
    | zero =>
      simp at hj
      rw [if_pos (by omega)] at h
      rw [← hj.2]; exact h
    | succ j =>
      rw [if_neg (by omega)] at h
      have e : lo + ((j + 1 : Nat) : Int) = (lo + 1) + (j : Int) := by omega
      rw [e] at hj hx
      refine ih (lo := lo + 1) (fun j q hq => ?_) j (by simpa using hj) hx h
      have := hk (j + 1) q (by simpa using hq)
      rw [this]; omega
theorem swW_look {x dd : Int} {pc ia : Nat} {f : Nat → Prop} (ht : (pc : Int) + dd = (ia : Int)) : ∀ (ps : List (Int × Int)) (sw : List (Int × Nat)), sw.length = ps.length → (ps.zip sw).all (fun q => decide (q.1.1 = q.2.1) && decide ((pc : Int) + q.1.2 = (q.2.2 : Int))) = true → swW x sw ia f → ∃ (off : Int) (tgt : Nat), Op.lookupswitch.offset ps dd x = off ∧ (pc : Int) + off = (tgt : Int) ∧ f tgt := by
  intro ps
  induction ps with
  | nil =>
    intro sw hl _ h
    cases sw with
    | nil => exact ⟨dd, ia, by rw [Op.lookupswitch.offset_nil], ht, h⟩
    | cons q r => cases hl
  | cons a ps ih =>
    intro sw hl hall h
    cases sw with
    | nil => cases hl
    | cons q r =>
      obtain ⟨k, t⟩ := q
      obtain ⟨k', o⟩ := a
      simp only [List.zip_cons_cons, List.all_cons, Bool.and_eq_true, decide_eq_true_eq] at hall
      obtain ⟨⟨e1, e2⟩, hall⟩ := hall
      subst e1
      unfold swW at h
      rw [Op.lookupswitch.offset_cons]
      by_cases hx : x = k'
      · rw [if_pos hx] at h
        exact ⟨o, t, by first | rw [if_pos hx] | rw [if_pos hx.symm], e2, h⟩
      · rw [if_neg hx] at h
        obtain ⟨off, tgt, h1, h2, h3⟩ := ih r (by simpa using hl) hall h
        exact ⟨off, tgt, by first | (rw [if_neg hx]; exact h1) | (rw [if_neg (Ne.symm hx)]; exact h1), h2, h3⟩
set_option maxRecDepth 20000 in
set_option maxHeartbeats 2000000 in
theorem cl_iconst {l : Launch} {n d y pc : Nat} {k : Int} {len ia ib ic : Nat} {z : Int} {sw : List (Int × Nat)} {kc ks : Nat} {ls : mLs} {st : List mV} {H : mH} {K : mK} (hw : okRow (y, pc, .iconst k, len, (ia, ib, ic), z, sw) = true) (hstep : stepW n (Pr l n) (ent (Pr l n)) d (y, pc, .iconst k, len, (ia, ib, ic), z, sw) kc ks ls st H K) : Pr l n d y pc kc ks ls st H K := by
  obtain ⟨hdec, hins, hyl⟩ := okRow_sp hw
  simp only [okIns, Bool.and_eq_true, Bool.or_eq_true, decide_eq_true_eq, beq_iff_eq] at hins
  intro p e R s m args below meth c A D ad cA HH locs cells slots lsR QF ad0 nx0 hctx hroom hnest hro hend hst hls hlv hW hS hag hnx hkc hks
  obtain ⟨hx, hb, hr, hml, hown, hts, hlk, hini, hA⟩ := id hctx
  have nxt : ∀ {pc' : Nat} {st' : List mV}, Pr l n d y pc' kc ks ls st' H K → okS H.2.2.2 st' → W p l e R s m args below meth c HH locs cells slots QF (F0 m pc' lsR (st'.map (mval ad))) := fun h ok => h p e R s m args below meth c A D ad cA HH locs cells slots lsR QF ad0 nx0 hctx hroom hnest hro hend ok hls hlv hW hS hag hnx hkc hks
  have nxtL : ∀ {pc' : Nat} {st' : List mV} {ls' : mLs} {lsR' : Array Slot}, Pr l n d y pc' kc ks ls' st' H K → okS H.2.2.2 st' → okLs H.2.2.2 ls' → lv_has lsR' (mMax y) (lvOf ad ls') → W p l e R s m args below meth c HH locs cells slots QF (F0 m pc' lsR' (st'.map (mval ad))) := fun h ok okl hl => h p e R s m args below meth c A D ad cA HH locs cells slots _ QF ad0 nx0 hctx hroom hnest hro hend ok okl hl hW hS hag hnx hkc hks
  dsimp only [stepW] at hstep
  obtain ⟨⟨rfl, rfl⟩, hz⟩ := hins
  simp only [inR, Bool.and_eq_true, decide_eq_true_eq] at hz
  exact lv_iconst (v := Int32.ofInt k) hx hb hdec rfl (nxt hstep (okS_c hz hst))
set_option maxRecDepth 20000 in
set_option maxHeartbeats 2000000 in
theorem cl_bipush {l : Launch} {n d y pc : Nat} {k : Int} {len ia ib ic : Nat} {z : Int} {sw : List (Int × Nat)} {kc ks : Nat} {ls : mLs} {st : List mV} {H : mH} {K : mK} (hw : okRow (y, pc, .bipush k, len, (ia, ib, ic), z, sw) = true) (hstep : stepW n (Pr l n) (ent (Pr l n)) d (y, pc, .bipush k, len, (ia, ib, ic), z, sw) kc ks ls st H K) : Pr l n d y pc kc ks ls st H K := by
  obtain ⟨hdec, hins, hyl⟩ := okRow_sp hw
  simp only [okIns, Bool.and_eq_true, Bool.or_eq_true, decide_eq_true_eq, beq_iff_eq] at hins
  intro p e R s m args below meth c A D ad cA HH locs cells slots lsR QF ad0 nx0 hctx hroom hnest hro hend hst hls hlv hW hS hag hnx hkc hks
  obtain ⟨hx, hb, hr, hml, hown, hts, hlk, hini, hA⟩ := id hctx
  have nxt : ∀ {pc' : Nat} {st' : List mV}, Pr l n d y pc' kc ks ls st' H K → okS H.2.2.2 st' → W p l e R s m args below meth c HH locs cells slots QF (F0 m pc' lsR (st'.map (mval ad))) := fun h ok => h p e R s m args below meth c A D ad cA HH locs cells slots lsR QF ad0 nx0 hctx hroom hnest hro hend ok hls hlv hW hS hag hnx hkc hks
  have nxtL : ∀ {pc' : Nat} {st' : List mV} {ls' : mLs} {lsR' : Array Slot}, Pr l n d y pc' kc ks ls' st' H K → okS H.2.2.2 st' → okLs H.2.2.2 ls' → lv_has lsR' (mMax y) (lvOf ad ls') → W p l e R s m args below meth c HH locs cells slots QF (F0 m pc' lsR' (st'.map (mval ad))) := fun h ok okl hl => h p e R s m args below meth c A D ad cA HH locs cells slots _ QF ad0 nx0 hctx hroom hnest hro hend ok okl hl hW hS hag hnx hkc hks
  dsimp only [stepW] at hstep
  obtain ⟨⟨rfl, h2⟩, hz⟩ := hins
  simp only [inR, Bool.and_eq_true, decide_eq_true_eq] at hz
  exact lv_bipush (v := Int32.ofInt z) hx hb hdec h2 (nxt hstep (okS_c hz hst))
set_option maxRecDepth 20000 in
set_option maxHeartbeats 2000000 in
theorem cl_sipush {l : Launch} {n d y pc : Nat} {k : Int} {len ia ib ic : Nat} {z : Int} {sw : List (Int × Nat)} {kc ks : Nat} {ls : mLs} {st : List mV} {H : mH} {K : mK} (hw : okRow (y, pc, .sipush k, len, (ia, ib, ic), z, sw) = true) (hstep : stepW n (Pr l n) (ent (Pr l n)) d (y, pc, .sipush k, len, (ia, ib, ic), z, sw) kc ks ls st H K) : Pr l n d y pc kc ks ls st H K := by
  obtain ⟨hdec, hins, hyl⟩ := okRow_sp hw
  simp only [okIns, Bool.and_eq_true, Bool.or_eq_true, decide_eq_true_eq, beq_iff_eq] at hins
  intro p e R s m args below meth c A D ad cA HH locs cells slots lsR QF ad0 nx0 hctx hroom hnest hro hend hst hls hlv hW hS hag hnx hkc hks
  obtain ⟨hx, hb, hr, hml, hown, hts, hlk, hini, hA⟩ := id hctx
  have nxt : ∀ {pc' : Nat} {st' : List mV}, Pr l n d y pc' kc ks ls st' H K → okS H.2.2.2 st' → W p l e R s m args below meth c HH locs cells slots QF (F0 m pc' lsR (st'.map (mval ad))) := fun h ok => h p e R s m args below meth c A D ad cA HH locs cells slots lsR QF ad0 nx0 hctx hroom hnest hro hend ok hls hlv hW hS hag hnx hkc hks
  have nxtL : ∀ {pc' : Nat} {st' : List mV} {ls' : mLs} {lsR' : Array Slot}, Pr l n d y pc' kc ks ls' st' H K → okS H.2.2.2 st' → okLs H.2.2.2 ls' → lv_has lsR' (mMax y) (lvOf ad ls') → W p l e R s m args below meth c HH locs cells slots QF (F0 m pc' lsR' (st'.map (mval ad))) := fun h ok okl hl => h p e R s m args below meth c A D ad cA HH locs cells slots _ QF ad0 nx0 hctx hroom hnest hro hend ok okl hl hW hS hag hnx hkc hks
  dsimp only [stepW] at hstep
  obtain ⟨⟨rfl, h2⟩, hz⟩ := hins
  simp only [inR, Bool.and_eq_true, decide_eq_true_eq] at hz
  exact lv_sipush (v := Int32.ofInt z) hx hb hdec h2 (nxt hstep (okS_c hz hst))
set_option maxRecDepth 20000 in
set_option maxHeartbeats 2000000 in
theorem cl_lconst {l : Launch} {n d y pc : Nat} {k : Fin 2} {len ia ib ic : Nat} {z : Int} {sw : List (Int × Nat)} {kc ks : Nat} {ls : mLs} {st : List mV} {H : mH} {K : mK} (hw : okRow (y, pc, .lconst k, len, (ia, ib, ic), z, sw) = true) (hstep : stepW n (Pr l n) (ent (Pr l n)) d (y, pc, .lconst k, len, (ia, ib, ic), z, sw) kc ks ls st H K) : Pr l n d y pc kc ks ls st H K := by
  obtain ⟨hdec, hins, hyl⟩ := okRow_sp hw
  simp only [okIns, Bool.and_eq_true, Bool.or_eq_true, decide_eq_true_eq, beq_iff_eq] at hins
  intro p e R s m args below meth c A D ad cA HH locs cells slots lsR QF ad0 nx0 hctx hroom hnest hro hend hst hls hlv hW hS hag hnx hkc hks
  obtain ⟨hx, hb, hr, hml, hown, hts, hlk, hini, hA⟩ := id hctx
  have nxt : ∀ {pc' : Nat} {st' : List mV}, Pr l n d y pc' kc ks ls st' H K → okS H.2.2.2 st' → W p l e R s m args below meth c HH locs cells slots QF (F0 m pc' lsR (st'.map (mval ad))) := fun h ok => h p e R s m args below meth c A D ad cA HH locs cells slots lsR QF ad0 nx0 hctx hroom hnest hro hend ok hls hlv hW hS hag hnx hkc hks
  have nxtL : ∀ {pc' : Nat} {st' : List mV} {ls' : mLs} {lsR' : Array Slot}, Pr l n d y pc' kc ks ls' st' H K → okS H.2.2.2 st' → okLs H.2.2.2 ls' → lv_has lsR' (mMax y) (lvOf ad ls') → W p l e R s m args below meth c HH locs cells slots QF (F0 m pc' lsR' (st'.map (mval ad))) := fun h ok okl hl => h p e R s m args below meth c A D ad cA HH locs cells slots _ QF ad0 nx0 hctx hroom hnest hro hend ok okl hl hW hS hag hnx hkc hks
  dsimp only [stepW] at hstep
  obtain ⟨rfl, h2⟩ := hins
  exact lv_lconst (v := Int64.ofInt z) hx hb hdec h2 (nxt hstep (okS_c trivial hst))
set_option maxRecDepth 20000 in
set_option maxHeartbeats 2000000 in
theorem cl_ldc2_w {l : Launch} {n d y pc : Nat} {i : Nat} {len ia ib ic : Nat} {z : Int} {sw : List (Int × Nat)} {kc ks : Nat} {ls : mLs} {st : List mV} {H : mH} {K : mK} (hw : okRow (y, pc, .ldc2_w i, len, (ia, ib, ic), z, sw) = true) (hstep : stepW n (Pr l n) (ent (Pr l n)) d (y, pc, .ldc2_w i, len, (ia, ib, ic), z, sw) kc ks ls st H K) : Pr l n d y pc kc ks ls st H K := by
  obtain ⟨hdec, hins, hyl⟩ := okRow_sp hw
  simp only [okIns, Bool.and_eq_true, Bool.or_eq_true, decide_eq_true_eq, beq_iff_eq] at hins
  intro p e R s m args below meth c A D ad cA HH locs cells slots lsR QF ad0 nx0 hctx hroom hnest hro hend hst hls hlv hW hS hag hnx hkc hks
  obtain ⟨hx, hb, hr, hml, hown, hts, hlk, hini, hA⟩ := id hctx
  have nxt : ∀ {pc' : Nat} {st' : List mV}, Pr l n d y pc' kc ks ls st' H K → okS H.2.2.2 st' → W p l e R s m args below meth c HH locs cells slots QF (F0 m pc' lsR (st'.map (mval ad))) := fun h ok => h p e R s m args below meth c A D ad cA HH locs cells slots lsR QF ad0 nx0 hctx hroom hnest hro hend ok hls hlv hW hS hag hnx hkc hks
  have nxtL : ∀ {pc' : Nat} {st' : List mV} {ls' : mLs} {lsR' : Array Slot}, Pr l n d y pc' kc ks ls' st' H K → okS H.2.2.2 st' → okLs H.2.2.2 ls' → lv_has lsR' (mMax y) (lvOf ad ls') → W p l e R s m args below meth c HH locs cells slots QF (F0 m pc' lsR' (st'.map (mval ad))) := fun h ok okl hl => h p e R s m args below meth c A D ad cA HH locs cells slots _ QF ad0 nx0 hctx hroom hnest hro hend ok okl hl hW hS hag hnx hkc hks
  dsimp only [stepW] at hstep
  obtain ⟨rfl, h2⟩ := hins
  exact lv_ldc2 (v := Int64.ofInt z) hx hb hown (hts _ (wAt_sp h2 rfl)) hdec (nxt hstep (okS_c trivial hst))
set_option maxRecDepth 20000 in
set_option maxHeartbeats 2000000 in
theorem cl_ldc_w {l : Launch} {n d y pc : Nat} {i : Nat} {len ia ib ic : Nat} {z : Int} {sw : List (Int × Nat)} {kc ks : Nat} {ls : mLs} {st : List mV} {H : mH} {K : mK} (hw : okRow (y, pc, .ldc_w i, len, (ia, ib, ic), z, sw) = true) (hstep : stepW n (Pr l n) (ent (Pr l n)) d (y, pc, .ldc_w i, len, (ia, ib, ic), z, sw) kc ks ls st H K) : Pr l n d y pc kc ks ls st H K := by
  obtain ⟨hdec, hins, hyl⟩ := okRow_sp hw
  simp only [okIns, Bool.and_eq_true, Bool.or_eq_true, decide_eq_true_eq, beq_iff_eq] at hins
  intro p e R s m args below meth c A D ad cA HH locs cells slots lsR QF ad0 nx0 hctx hroom hnest hro hend hst hls hlv hW hS hag hnx hkc hks
  obtain ⟨hx, hb, hr, hml, hown, hts, hlk, hini, hA⟩ := id hctx
  have nxt : ∀ {pc' : Nat} {st' : List mV}, Pr l n d y pc' kc ks ls st' H K → okS H.2.2.2 st' → W p l e R s m args below meth c HH locs cells slots QF (F0 m pc' lsR (st'.map (mval ad))) := fun h ok => h p e R s m args below meth c A D ad cA HH locs cells slots lsR QF ad0 nx0 hctx hroom hnest hro hend ok hls hlv hW hS hag hnx hkc hks
  have nxtL : ∀ {pc' : Nat} {st' : List mV} {ls' : mLs} {lsR' : Array Slot}, Pr l n d y pc' kc ks ls' st' H K → okS H.2.2.2 st' → okLs H.2.2.2 ls' → lv_has lsR' (mMax y) (lvOf ad ls') → W p l e R s m args below meth c HH locs cells slots QF (F0 m pc' lsR' (st'.map (mval ad))) := fun h ok okl hl => h p e R s m args below meth c A D ad cA HH locs cells slots _ QF ad0 nx0 hctx hroom hnest hro hend ok okl hl hW hS hag hnx hkc hks
  dsimp only [stepW] at hstep
  obtain ⟨⟨rfl, h2⟩, hz⟩ := hins
  simp only [inR, Bool.and_eq_true, decide_eq_true_eq] at hz
  exact lv_ldcw (v := Int32.ofInt z) hx hb hown (hts _ (wAt_sp h2 rfl)) hdec (nxt hstep (okS_c hz hst))
set_option maxRecDepth 20000 in
set_option maxHeartbeats 2000000 in
theorem cl_ldc {l : Launch} {n d y pc : Nat} {i : Nat} {len ia ib ic : Nat} {z : Int} {sw : List (Int × Nat)} {kc ks : Nat} {ls : mLs} {st : List mV} {H : mH} {K : mK} (hw : okRow (y, pc, .ldc i, len, (ia, ib, ic), z, sw) = true) (hstep : stepW n (Pr l n) (ent (Pr l n)) d (y, pc, .ldc i, len, (ia, ib, ic), z, sw) kc ks ls st H K) : Pr l n d y pc kc ks ls st H K := by
  obtain ⟨hdec, hins, hyl⟩ := okRow_sp hw
  simp only [okIns, Bool.and_eq_true, Bool.or_eq_true, decide_eq_true_eq, beq_iff_eq] at hins
  intro p e R s m args below meth c A D ad cA HH locs cells slots lsR QF ad0 nx0 hctx hroom hnest hro hend hst hls hlv hW hS hag hnx hkc hks
  obtain ⟨hx, hb, hr, hml, hown, hts, hlk, hini, hA⟩ := id hctx
  have nxt : ∀ {pc' : Nat} {st' : List mV}, Pr l n d y pc' kc ks ls st' H K → okS H.2.2.2 st' → W p l e R s m args below meth c HH locs cells slots QF (F0 m pc' lsR (st'.map (mval ad))) := fun h ok => h p e R s m args below meth c A D ad cA HH locs cells slots lsR QF ad0 nx0 hctx hroom hnest hro hend ok hls hlv hW hS hag hnx hkc hks
  have nxtL : ∀ {pc' : Nat} {st' : List mV} {ls' : mLs} {lsR' : Array Slot}, Pr l n d y pc' kc ks ls' st' H K → okS H.2.2.2 st' → okLs H.2.2.2 ls' → lv_has lsR' (mMax y) (lvOf ad ls') → W p l e R s m args below meth c HH locs cells slots QF (F0 m pc' lsR' (st'.map (mval ad))) := fun h ok okl hl => h p e R s m args below meth c A D ad cA HH locs cells slots _ QF ad0 nx0 hctx hroom hnest hro hend ok okl hl hW hS hag hnx hkc hks
  dsimp only [stepW] at hstep
  obtain ⟨⟨rfl, h2⟩, h3⟩ := hins
  rw [h2] at hown
  have h16 := hW.2.2.2.2.1
  have key : ∃ tx, vk_R RX4 i tx (ad ia) s ∧ ia < 16 := by
    simp only [List.mem_cons, Prod.mk.injEq, List.not_mem_nil, or_false] at h3
    have hq := hnest.1
    rcases h3 with ⟨rfl, rfl⟩ | ⟨rfl, rfl⟩ | ⟨rfl, rfl⟩ | ⟨rfl, rfl⟩ | ⟨rfl, rfl⟩ | ⟨rfl, rfl⟩
    · exact ⟨_, hq (84, 3, "ind ") (by simp [mStr]), by omega⟩
    · exact ⟨_, hq (90, 4, "aste ") (by simp [mStr]), by omega⟩
    · exact ⟨_, hq (92, 5, "ate ") (by simp [mStr]), by omega⟩
    · exact ⟨_, hq (94, 6, "li") (by simp [mStr]), by omega⟩
    · exact ⟨_, hq (96, 7, "e ") (by simp [mStr]), by omega⟩
    · exact ⟨_, hq (98, 8, "ght ") (by simp [mStr]), by omega⟩
  obtain ⟨tx, hR, hlt⟩ := key
  exact va_ldcS hx hb hown hR hdec (nxt hstep (okS_c (v := vr (some ia)) (Nat.lt_of_lt_of_le hlt h16) hst))
set_option maxRecDepth 20000 in
set_option maxHeartbeats 2000000 in
theorem cl_iload {l : Launch} {n d y pc : Nat} {i : Nat} {len ia ib ic : Nat} {z : Int} {sw : List (Int × Nat)} {kc ks : Nat} {ls : mLs} {st : List mV} {H : mH} {K : mK} (hw : okRow (y, pc, .iload i, len, (ia, ib, ic), z, sw) = true) (hstep : stepW n (Pr l n) (ent (Pr l n)) d (y, pc, .iload i, len, (ia, ib, ic), z, sw) kc ks ls st H K) : Pr l n d y pc kc ks ls st H K := by
  obtain ⟨hdec, hins, hyl⟩ := okRow_sp hw
  simp only [okIns, Bool.and_eq_true, Bool.or_eq_true, decide_eq_true_eq, beq_iff_eq] at hins
  intro p e R s m args below meth c A D ad cA HH locs cells slots lsR QF ad0 nx0 hctx hroom hnest hro hend hst hls hlv hW hS hag hnx hkc hks
  obtain ⟨hx, hb, hr, hml, hown, hts, hlk, hini, hA⟩ := id hctx
  have nxt : ∀ {pc' : Nat} {st' : List mV}, Pr l n d y pc' kc ks ls st' H K → okS H.2.2.2 st' → W p l e R s m args below meth c HH locs cells slots QF (F0 m pc' lsR (st'.map (mval ad))) := fun h ok => h p e R s m args below meth c A D ad cA HH locs cells slots lsR QF ad0 nx0 hctx hroom hnest hro hend ok hls hlv hW hS hag hnx hkc hks
  have nxtL : ∀ {pc' : Nat} {st' : List mV} {ls' : mLs} {lsR' : Array Slot}, Pr l n d y pc' kc ks ls' st' H K → okS H.2.2.2 st' → okLs H.2.2.2 ls' → lv_has lsR' (mMax y) (lvOf ad ls') → W p l e R s m args below meth c HH locs cells slots QF (F0 m pc' lsR' (st'.map (mval ad))) := fun h ok okl hl => h p e R s m args below meth c A D ad cA HH locs cells slots _ QF ad0 nx0 hctx hroom hnest hro hend ok okl hl hW hS hag hnx hkc hks
  dsimp only [stepW] at hstep
  obtain ⟨rfl, h2⟩ := hins
  obtain ⟨x, hx1, hstep⟩ := gI_inv hstep
  exact lv_iload hx hb hdec (lv_get hlv (h2 ▸ hx1)) (nxt hstep (okS_c (hls _ _ hx1) hst))
set_option maxRecDepth 20000 in
set_option maxHeartbeats 2000000 in
theorem cl_iload_n {l : Launch} {n d y pc : Nat} {i : Fin 4} {len ia ib ic : Nat} {z : Int} {sw : List (Int × Nat)} {kc ks : Nat} {ls : mLs} {st : List mV} {H : mH} {K : mK} (hw : okRow (y, pc, .iload_n i, len, (ia, ib, ic), z, sw) = true) (hstep : stepW n (Pr l n) (ent (Pr l n)) d (y, pc, .iload_n i, len, (ia, ib, ic), z, sw) kc ks ls st H K) : Pr l n d y pc kc ks ls st H K := by
  obtain ⟨hdec, hins, hyl⟩ := okRow_sp hw
  simp only [okIns, Bool.and_eq_true, Bool.or_eq_true, decide_eq_true_eq, beq_iff_eq] at hins
  intro p e R s m args below meth c A D ad cA HH locs cells slots lsR QF ad0 nx0 hctx hroom hnest hro hend hst hls hlv hW hS hag hnx hkc hks
  obtain ⟨hx, hb, hr, hml, hown, hts, hlk, hini, hA⟩ := id hctx
  have nxt : ∀ {pc' : Nat} {st' : List mV}, Pr l n d y pc' kc ks ls st' H K → okS H.2.2.2 st' → W p l e R s m args below meth c HH locs cells slots QF (F0 m pc' lsR (st'.map (mval ad))) := fun h ok => h p e R s m args below meth c A D ad cA HH locs cells slots lsR QF ad0 nx0 hctx hroom hnest hro hend ok hls hlv hW hS hag hnx hkc hks
  have nxtL : ∀ {pc' : Nat} {st' : List mV} {ls' : mLs} {lsR' : Array Slot}, Pr l n d y pc' kc ks ls' st' H K → okS H.2.2.2 st' → okLs H.2.2.2 ls' → lv_has lsR' (mMax y) (lvOf ad ls') → W p l e R s m args below meth c HH locs cells slots QF (F0 m pc' lsR' (st'.map (mval ad))) := fun h ok okl hl => h p e R s m args below meth c A D ad cA HH locs cells slots _ QF ad0 nx0 hctx hroom hnest hro hend ok okl hl hW hS hag hnx hkc hks
  dsimp only [stepW] at hstep
  obtain ⟨rfl, h2⟩ := hins
  obtain ⟨x, hx1, hstep⟩ := gI_inv hstep
  exact lv_iload_n hx hb hdec h2 (lv_get hlv hx1) (nxt hstep (okS_c (hls _ _ hx1) hst))
set_option maxRecDepth 20000 in
set_option maxHeartbeats 2000000 in
theorem cl_lload {l : Launch} {n d y pc : Nat} {i : Nat} {len ia ib ic : Nat} {z : Int} {sw : List (Int × Nat)} {kc ks : Nat} {ls : mLs} {st : List mV} {H : mH} {K : mK} (hw : okRow (y, pc, .lload i, len, (ia, ib, ic), z, sw) = true) (hstep : stepW n (Pr l n) (ent (Pr l n)) d (y, pc, .lload i, len, (ia, ib, ic), z, sw) kc ks ls st H K) : Pr l n d y pc kc ks ls st H K := by
  obtain ⟨hdec, hins, hyl⟩ := okRow_sp hw
  simp only [okIns, Bool.and_eq_true, Bool.or_eq_true, decide_eq_true_eq, beq_iff_eq] at hins
  intro p e R s m args below meth c A D ad cA HH locs cells slots lsR QF ad0 nx0 hctx hroom hnest hro hend hst hls hlv hW hS hag hnx hkc hks
  obtain ⟨hx, hb, hr, hml, hown, hts, hlk, hini, hA⟩ := id hctx
  have nxt : ∀ {pc' : Nat} {st' : List mV}, Pr l n d y pc' kc ks ls st' H K → okS H.2.2.2 st' → W p l e R s m args below meth c HH locs cells slots QF (F0 m pc' lsR (st'.map (mval ad))) := fun h ok => h p e R s m args below meth c A D ad cA HH locs cells slots lsR QF ad0 nx0 hctx hroom hnest hro hend ok hls hlv hW hS hag hnx hkc hks
  have nxtL : ∀ {pc' : Nat} {st' : List mV} {ls' : mLs} {lsR' : Array Slot}, Pr l n d y pc' kc ks ls' st' H K → okS H.2.2.2 st' → okLs H.2.2.2 ls' → lv_has lsR' (mMax y) (lvOf ad ls') → W p l e R s m args below meth c HH locs cells slots QF (F0 m pc' lsR' (st'.map (mval ad))) := fun h ok okl hl => h p e R s m args below meth c A D ad cA HH locs cells slots _ QF ad0 nx0 hctx hroom hnest hro hend ok okl hl hW hS hag hnx hkc hks
  dsimp only [stepW] at hstep
  obtain ⟨rfl, h2⟩ := hins
  obtain ⟨x, hx1, hstep⟩ := gL_inv hstep
  exact lv_lload hx hb hdec (lv_get hlv (h2 ▸ hx1)) (nxt hstep (okS_c (hls _ _ hx1) hst))
set_option maxRecDepth 20000 in
set_option maxHeartbeats 2000000 in
theorem cl_lload_n {l : Launch} {n d y pc : Nat} {i : Fin 4} {len ia ib ic : Nat} {z : Int} {sw : List (Int × Nat)} {kc ks : Nat} {ls : mLs} {st : List mV} {H : mH} {K : mK} (hw : okRow (y, pc, .lload_n i, len, (ia, ib, ic), z, sw) = true) (hstep : stepW n (Pr l n) (ent (Pr l n)) d (y, pc, .lload_n i, len, (ia, ib, ic), z, sw) kc ks ls st H K) : Pr l n d y pc kc ks ls st H K := by
  obtain ⟨hdec, hins, hyl⟩ := okRow_sp hw
  simp only [okIns, Bool.and_eq_true, Bool.or_eq_true, decide_eq_true_eq, beq_iff_eq] at hins
  intro p e R s m args below meth c A D ad cA HH locs cells slots lsR QF ad0 nx0 hctx hroom hnest hro hend hst hls hlv hW hS hag hnx hkc hks
  obtain ⟨hx, hb, hr, hml, hown, hts, hlk, hini, hA⟩ := id hctx
  have nxt : ∀ {pc' : Nat} {st' : List mV}, Pr l n d y pc' kc ks ls st' H K → okS H.2.2.2 st' → W p l e R s m args below meth c HH locs cells slots QF (F0 m pc' lsR (st'.map (mval ad))) := fun h ok => h p e R s m args below meth c A D ad cA HH locs cells slots lsR QF ad0 nx0 hctx hroom hnest hro hend ok hls hlv hW hS hag hnx hkc hks
  have nxtL : ∀ {pc' : Nat} {st' : List mV} {ls' : mLs} {lsR' : Array Slot}, Pr l n d y pc' kc ks ls' st' H K → okS H.2.2.2 st' → okLs H.2.2.2 ls' → lv_has lsR' (mMax y) (lvOf ad ls') → W p l e R s m args below meth c HH locs cells slots QF (F0 m pc' lsR' (st'.map (mval ad))) := fun h ok okl hl => h p e R s m args below meth c A D ad cA HH locs cells slots _ QF ad0 nx0 hctx hroom hnest hro hend ok okl hl hW hS hag hnx hkc hks
  dsimp only [stepW] at hstep
  obtain ⟨rfl, h2⟩ := hins
  obtain ⟨x, hx1, hstep⟩ := gL_inv hstep
  exact lv_lload_n hx hb hdec h2 (lv_get hlv hx1) (nxt hstep (okS_c (hls _ _ hx1) hst))
set_option maxRecDepth 20000 in
set_option maxHeartbeats 2000000 in
theorem cl_aload {l : Launch} {n d y pc : Nat} {i : Nat} {len ia ib ic : Nat} {z : Int} {sw : List (Int × Nat)} {kc ks : Nat} {ls : mLs} {st : List mV} {H : mH} {K : mK} (hw : okRow (y, pc, .aload i, len, (ia, ib, ic), z, sw) = true) (hstep : stepW n (Pr l n) (ent (Pr l n)) d (y, pc, .aload i, len, (ia, ib, ic), z, sw) kc ks ls st H K) : Pr l n d y pc kc ks ls st H K := by
  obtain ⟨hdec, hins, hyl⟩ := okRow_sp hw
  simp only [okIns, Bool.and_eq_true, Bool.or_eq_true, decide_eq_true_eq, beq_iff_eq] at hins
  intro p e R s m args below meth c A D ad cA HH locs cells slots lsR QF ad0 nx0 hctx hroom hnest hro hend hst hls hlv hW hS hag hnx hkc hks
  obtain ⟨hx, hb, hr, hml, hown, hts, hlk, hini, hA⟩ := id hctx
  have nxt : ∀ {pc' : Nat} {st' : List mV}, Pr l n d y pc' kc ks ls st' H K → okS H.2.2.2 st' → W p l e R s m args below meth c HH locs cells slots QF (F0 m pc' lsR (st'.map (mval ad))) := fun h ok => h p e R s m args below meth c A D ad cA HH locs cells slots lsR QF ad0 nx0 hctx hroom hnest hro hend ok hls hlv hW hS hag hnx hkc hks
  have nxtL : ∀ {pc' : Nat} {st' : List mV} {ls' : mLs} {lsR' : Array Slot}, Pr l n d y pc' kc ks ls' st' H K → okS H.2.2.2 st' → okLs H.2.2.2 ls' → lv_has lsR' (mMax y) (lvOf ad ls') → W p l e R s m args below meth c HH locs cells slots QF (F0 m pc' lsR' (st'.map (mval ad))) := fun h ok okl hl => h p e R s m args below meth c A D ad cA HH locs cells slots _ QF ad0 nx0 hctx hroom hnest hro hend ok okl hl hW hS hag hnx hkc hks
  dsimp only [stepW] at hstep
  obtain ⟨rfl, h2⟩ := hins
  obtain ⟨x, hx1, hstep⟩ := gR_inv hstep
  cases x with
  | none => exact lv_aloadN hx hb hdec (lv_get hlv (h2 ▸ hx1)) (nxt hstep (okS_c (hls _ _ hx1) hst))
  | some a => exact lv_aload hx hb hdec (lv_get hlv (h2 ▸ hx1)) (nxt hstep (okS_c (hls _ _ hx1) hst))
set_option maxRecDepth 20000 in
set_option maxHeartbeats 2000000 in
theorem cl_aload_n {l : Launch} {n d y pc : Nat} {i : Fin 4} {len ia ib ic : Nat} {z : Int} {sw : List (Int × Nat)} {kc ks : Nat} {ls : mLs} {st : List mV} {H : mH} {K : mK} (hw : okRow (y, pc, .aload_n i, len, (ia, ib, ic), z, sw) = true) (hstep : stepW n (Pr l n) (ent (Pr l n)) d (y, pc, .aload_n i, len, (ia, ib, ic), z, sw) kc ks ls st H K) : Pr l n d y pc kc ks ls st H K := by
  obtain ⟨hdec, hins, hyl⟩ := okRow_sp hw
  simp only [okIns, Bool.and_eq_true, Bool.or_eq_true, decide_eq_true_eq, beq_iff_eq] at hins
  intro p e R s m args below meth c A D ad cA HH locs cells slots lsR QF ad0 nx0 hctx hroom hnest hro hend hst hls hlv hW hS hag hnx hkc hks
  obtain ⟨hx, hb, hr, hml, hown, hts, hlk, hini, hA⟩ := id hctx
  have nxt : ∀ {pc' : Nat} {st' : List mV}, Pr l n d y pc' kc ks ls st' H K → okS H.2.2.2 st' → W p l e R s m args below meth c HH locs cells slots QF (F0 m pc' lsR (st'.map (mval ad))) := fun h ok => h p e R s m args below meth c A D ad cA HH locs cells slots lsR QF ad0 nx0 hctx hroom hnest hro hend ok hls hlv hW hS hag hnx hkc hks
  have nxtL : ∀ {pc' : Nat} {st' : List mV} {ls' : mLs} {lsR' : Array Slot}, Pr l n d y pc' kc ks ls' st' H K → okS H.2.2.2 st' → okLs H.2.2.2 ls' → lv_has lsR' (mMax y) (lvOf ad ls') → W p l e R s m args below meth c HH locs cells slots QF (F0 m pc' lsR' (st'.map (mval ad))) := fun h ok okl hl => h p e R s m args below meth c A D ad cA HH locs cells slots _ QF ad0 nx0 hctx hroom hnest hro hend ok okl hl hW hS hag hnx hkc hks
  dsimp only [stepW] at hstep
  obtain ⟨rfl, h2⟩ := hins
  obtain ⟨x, hx1, hstep⟩ := gR_inv hstep
  cases x with
  | none => exact lv_aload_nN hx hb hdec h2 (lv_get hlv hx1) (nxt hstep (okS_c (hls _ _ hx1) hst))
  | some a => exact lv_aload_n hx hb hdec h2 (lv_get hlv hx1) (nxt hstep (okS_c (hls _ _ hx1) hst))
set_option maxRecDepth 20000 in
set_option maxHeartbeats 2000000 in
theorem cl_istore {l : Launch} {n d y pc : Nat} {i : Nat} {len ia ib ic : Nat} {z : Int} {sw : List (Int × Nat)} {kc ks : Nat} {ls : mLs} {st : List mV} {H : mH} {K : mK} (hw : okRow (y, pc, .istore i, len, (ia, ib, ic), z, sw) = true) (hstep : stepW n (Pr l n) (ent (Pr l n)) d (y, pc, .istore i, len, (ia, ib, ic), z, sw) kc ks ls st H K) : Pr l n d y pc kc ks ls st H K := by
  obtain ⟨hdec, hins, hyl⟩ := okRow_sp hw
  simp only [okIns, Bool.and_eq_true, Bool.or_eq_true, decide_eq_true_eq, beq_iff_eq] at hins
  intro p e R s m args below meth c A D ad cA HH locs cells slots lsR QF ad0 nx0 hctx hroom hnest hro hend hst hls hlv hW hS hag hnx hkc hks
  obtain ⟨hx, hb, hr, hml, hown, hts, hlk, hini, hA⟩ := id hctx
  have nxt : ∀ {pc' : Nat} {st' : List mV}, Pr l n d y pc' kc ks ls st' H K → okS H.2.2.2 st' → W p l e R s m args below meth c HH locs cells slots QF (F0 m pc' lsR (st'.map (mval ad))) := fun h ok => h p e R s m args below meth c A D ad cA HH locs cells slots lsR QF ad0 nx0 hctx hroom hnest hro hend ok hls hlv hW hS hag hnx hkc hks
  have nxtL : ∀ {pc' : Nat} {st' : List mV} {ls' : mLs} {lsR' : Array Slot}, Pr l n d y pc' kc ks ls' st' H K → okS H.2.2.2 st' → okLs H.2.2.2 ls' → lv_has lsR' (mMax y) (lvOf ad ls') → W p l e R s m args below meth c HH locs cells slots QF (F0 m pc' lsR' (st'.map (mval ad))) := fun h ok okl hl => h p e R s m args below meth c A D ad cA HH locs cells slots _ QF ad0 nx0 hctx hroom hnest hro hend ok okl hl hW hS hag hnx hkc hks
  dsimp only [stepW] at hstep
  obtain ⟨⟨rfl, h2⟩, h3⟩ := hins
  obtain ⟨x, r, rfl, hs⟩ := eI_inv hstep
  obtain ⟨hn, hs⟩ := putL_inv hs
  subst h2
  exact lv_istore hx hb hdec hlv (Nat.lt_of_succ_le (Nat.le_of_ble_eq_true h3)) rfl (fun ls' hl' => nxtL hs (okS_t hst) (okLs_put hls (okS_h hst)) (lv_put (v := vi x) hn hl'))
set_option maxRecDepth 20000 in
set_option maxHeartbeats 2000000 in
theorem cl_istore_n {l : Launch} {n d y pc : Nat} {i : Fin 4} {len ia ib ic : Nat} {z : Int} {sw : List (Int × Nat)} {kc ks : Nat} {ls : mLs} {st : List mV} {H : mH} {K : mK} (hw : okRow (y, pc, .istore_n i, len, (ia, ib, ic), z, sw) = true) (hstep : stepW n (Pr l n) (ent (Pr l n)) d (y, pc, .istore_n i, len, (ia, ib, ic), z, sw) kc ks ls st H K) : Pr l n d y pc kc ks ls st H K := by
  obtain ⟨hdec, hins, hyl⟩ := okRow_sp hw
  simp only [okIns, Bool.and_eq_true, Bool.or_eq_true, decide_eq_true_eq, beq_iff_eq] at hins
  intro p e R s m args below meth c A D ad cA HH locs cells slots lsR QF ad0 nx0 hctx hroom hnest hro hend hst hls hlv hW hS hag hnx hkc hks
  obtain ⟨hx, hb, hr, hml, hown, hts, hlk, hini, hA⟩ := id hctx
  have nxt : ∀ {pc' : Nat} {st' : List mV}, Pr l n d y pc' kc ks ls st' H K → okS H.2.2.2 st' → W p l e R s m args below meth c HH locs cells slots QF (F0 m pc' lsR (st'.map (mval ad))) := fun h ok => h p e R s m args below meth c A D ad cA HH locs cells slots lsR QF ad0 nx0 hctx hroom hnest hro hend ok hls hlv hW hS hag hnx hkc hks
  have nxtL : ∀ {pc' : Nat} {st' : List mV} {ls' : mLs} {lsR' : Array Slot}, Pr l n d y pc' kc ks ls' st' H K → okS H.2.2.2 st' → okLs H.2.2.2 ls' → lv_has lsR' (mMax y) (lvOf ad ls') → W p l e R s m args below meth c HH locs cells slots QF (F0 m pc' lsR' (st'.map (mval ad))) := fun h ok okl hl => h p e R s m args below meth c A D ad cA HH locs cells slots _ QF ad0 nx0 hctx hroom hnest hro hend ok okl hl hW hS hag hnx hkc hks
  dsimp only [stepW] at hstep
  obtain ⟨⟨rfl, h2⟩, h3⟩ := hins
  obtain ⟨x, r, rfl, hs⟩ := eI_inv hstep
  obtain ⟨hn, hs⟩ := putL_inv hs
  
  exact lv_istore_n hx hb hdec h2 hlv (Nat.lt_of_succ_le (Nat.le_of_ble_eq_true h3)) rfl (fun ls' hl' => nxtL hs (okS_t hst) (okLs_put hls (okS_h hst)) (lv_put (v := vi x) hn hl'))
set_option maxRecDepth 20000 in
set_option maxHeartbeats 2000000 in
theorem cl_astore {l : Launch} {n d y pc : Nat} {i : Nat} {len ia ib ic : Nat} {z : Int} {sw : List (Int × Nat)} {kc ks : Nat} {ls : mLs} {st : List mV} {H : mH} {K : mK} (hw : okRow (y, pc, .astore i, len, (ia, ib, ic), z, sw) = true) (hstep : stepW n (Pr l n) (ent (Pr l n)) d (y, pc, .astore i, len, (ia, ib, ic), z, sw) kc ks ls st H K) : Pr l n d y pc kc ks ls st H K := by
  obtain ⟨hdec, hins, hyl⟩ := okRow_sp hw
  simp only [okIns, Bool.and_eq_true, Bool.or_eq_true, decide_eq_true_eq, beq_iff_eq] at hins
  intro p e R s m args below meth c A D ad cA HH locs cells slots lsR QF ad0 nx0 hctx hroom hnest hro hend hst hls hlv hW hS hag hnx hkc hks
  obtain ⟨hx, hb, hr, hml, hown, hts, hlk, hini, hA⟩ := id hctx
  have nxt : ∀ {pc' : Nat} {st' : List mV}, Pr l n d y pc' kc ks ls st' H K → okS H.2.2.2 st' → W p l e R s m args below meth c HH locs cells slots QF (F0 m pc' lsR (st'.map (mval ad))) := fun h ok => h p e R s m args below meth c A D ad cA HH locs cells slots lsR QF ad0 nx0 hctx hroom hnest hro hend ok hls hlv hW hS hag hnx hkc hks
  have nxtL : ∀ {pc' : Nat} {st' : List mV} {ls' : mLs} {lsR' : Array Slot}, Pr l n d y pc' kc ks ls' st' H K → okS H.2.2.2 st' → okLs H.2.2.2 ls' → lv_has lsR' (mMax y) (lvOf ad ls') → W p l e R s m args below meth c HH locs cells slots QF (F0 m pc' lsR' (st'.map (mval ad))) := fun h ok okl hl => h p e R s m args below meth c A D ad cA HH locs cells slots _ QF ad0 nx0 hctx hroom hnest hro hend ok okl hl hW hS hag hnx hkc hks
  dsimp only [stepW] at hstep
  obtain ⟨⟨rfl, h2⟩, h3⟩ := hins
  obtain ⟨x, r, rfl, hs⟩ := eR_inv hstep
  obtain ⟨a, rfl, hs2⟩ := drf_inv hs
  obtain ⟨hn, hs3⟩ := putL_inv hs2
  subst h2
  exact lv_astore hx hb hdec hlv (Nat.lt_of_succ_le (Nat.le_of_ble_eq_true h3)) rfl (fun ls' hl' => nxtL hs3 (okS_t hst) (okLs_put hls (okS_h hst)) (lv_put (v := vr (some a)) hn hl'))
set_option maxRecDepth 20000 in
set_option maxHeartbeats 2000000 in
theorem cl_astore_n {l : Launch} {n d y pc : Nat} {i : Fin 4} {len ia ib ic : Nat} {z : Int} {sw : List (Int × Nat)} {kc ks : Nat} {ls : mLs} {st : List mV} {H : mH} {K : mK} (hw : okRow (y, pc, .astore_n i, len, (ia, ib, ic), z, sw) = true) (hstep : stepW n (Pr l n) (ent (Pr l n)) d (y, pc, .astore_n i, len, (ia, ib, ic), z, sw) kc ks ls st H K) : Pr l n d y pc kc ks ls st H K := by
  obtain ⟨hdec, hins, hyl⟩ := okRow_sp hw
  simp only [okIns, Bool.and_eq_true, Bool.or_eq_true, decide_eq_true_eq, beq_iff_eq] at hins
  intro p e R s m args below meth c A D ad cA HH locs cells slots lsR QF ad0 nx0 hctx hroom hnest hro hend hst hls hlv hW hS hag hnx hkc hks
  obtain ⟨hx, hb, hr, hml, hown, hts, hlk, hini, hA⟩ := id hctx
  have nxt : ∀ {pc' : Nat} {st' : List mV}, Pr l n d y pc' kc ks ls st' H K → okS H.2.2.2 st' → W p l e R s m args below meth c HH locs cells slots QF (F0 m pc' lsR (st'.map (mval ad))) := fun h ok => h p e R s m args below meth c A D ad cA HH locs cells slots lsR QF ad0 nx0 hctx hroom hnest hro hend ok hls hlv hW hS hag hnx hkc hks
  have nxtL : ∀ {pc' : Nat} {st' : List mV} {ls' : mLs} {lsR' : Array Slot}, Pr l n d y pc' kc ks ls' st' H K → okS H.2.2.2 st' → okLs H.2.2.2 ls' → lv_has lsR' (mMax y) (lvOf ad ls') → W p l e R s m args below meth c HH locs cells slots QF (F0 m pc' lsR' (st'.map (mval ad))) := fun h ok okl hl => h p e R s m args below meth c A D ad cA HH locs cells slots _ QF ad0 nx0 hctx hroom hnest hro hend ok okl hl hW hS hag hnx hkc hks
  dsimp only [stepW] at hstep
  obtain ⟨⟨rfl, h2⟩, h3⟩ := hins
  obtain ⟨x, r, rfl, hs⟩ := eR_inv hstep
  obtain ⟨a, rfl, hs2⟩ := drf_inv hs
  obtain ⟨hn, hs3⟩ := putL_inv hs2
  
  exact lv_astore_n hx hb hdec h2 hlv (Nat.lt_of_succ_le (Nat.le_of_ble_eq_true h3)) rfl (fun ls' hl' => nxtL hs3 (okS_t hst) (okLs_put hls (okS_h hst)) (lv_put (v := vr (some a)) hn hl'))
set_option maxRecDepth 20000 in
set_option maxHeartbeats 2000000 in
theorem cl_iinc {l : Launch} {n d y pc : Nat} {i : Nat} {k : Int} {len ia ib ic : Nat} {z : Int} {sw : List (Int × Nat)} {kc ks : Nat} {ls : mLs} {st : List mV} {H : mH} {K : mK} (hw : okRow (y, pc, .iinc i k, len, (ia, ib, ic), z, sw) = true) (hstep : stepW n (Pr l n) (ent (Pr l n)) d (y, pc, .iinc i k, len, (ia, ib, ic), z, sw) kc ks ls st H K) : Pr l n d y pc kc ks ls st H K := by
  obtain ⟨hdec, hins, hyl⟩ := okRow_sp hw
  simp only [okIns, Bool.and_eq_true, Bool.or_eq_true, decide_eq_true_eq, beq_iff_eq] at hins
  intro p e R s m args below meth c A D ad cA HH locs cells slots lsR QF ad0 nx0 hctx hroom hnest hro hend hst hls hlv hW hS hag hnx hkc hks
  obtain ⟨hx, hb, hr, hml, hown, hts, hlk, hini, hA⟩ := id hctx
  have nxt : ∀ {pc' : Nat} {st' : List mV}, Pr l n d y pc' kc ks ls st' H K → okS H.2.2.2 st' → W p l e R s m args below meth c HH locs cells slots QF (F0 m pc' lsR (st'.map (mval ad))) := fun h ok => h p e R s m args below meth c A D ad cA HH locs cells slots lsR QF ad0 nx0 hctx hroom hnest hro hend ok hls hlv hW hS hag hnx hkc hks
  have nxtL : ∀ {pc' : Nat} {st' : List mV} {ls' : mLs} {lsR' : Array Slot}, Pr l n d y pc' kc ks ls' st' H K → okS H.2.2.2 st' → okLs H.2.2.2 ls' → lv_has lsR' (mMax y) (lvOf ad ls') → W p l e R s m args below meth c HH locs cells slots QF (F0 m pc' lsR' (st'.map (mval ad))) := fun h ok okl hl => h p e R s m args below meth c A D ad cA HH locs cells slots _ QF ad0 nx0 hctx hroom hnest hro hend ok okl hl hW hS hag hnx hkc hks
  dsimp only [stepW] at hstep
  obtain ⟨⟨⟨rfl, rfl⟩, rfl⟩, h3⟩ := hins
  obtain ⟨x, hx1, hstep⟩ := gI_inv hstep
  obtain ⟨hn, hstep⟩ := putL_inv hstep
  obtain ⟨q, hq⟩ := List.getElem?_of_mem (lvOf_mem (ad := ad) (q := (i, mval ad (vi x))).mpr ⟨vi x, hx1, rfl⟩)
  exact lv_iinc (v := Int32.ofInt (wr (x + k))) hx hb hdec hlv (k := q) hq (ofInt_add' x k) (Nat.lt_of_succ_le (Nat.le_of_ble_eq_true h3)) rfl (fun ls' hl' => nxtL hstep hst (okLs_put hls (wrV _ _)) (lv_put (v := vi (wr (x + k))) hn hl'))
set_option maxRecDepth 20000 in
set_option maxHeartbeats 2000000 in
theorem cl_iadd {l : Launch} {n d y pc : Nat} {len ia ib ic : Nat} {z : Int} {sw : List (Int × Nat)} {kc ks : Nat} {ls : mLs} {st : List mV} {H : mH} {K : mK} (hw : okRow (y, pc, .iadd, len, (ia, ib, ic), z, sw) = true) (hstep : stepW n (Pr l n) (ent (Pr l n)) d (y, pc, .iadd, len, (ia, ib, ic), z, sw) kc ks ls st H K) : Pr l n d y pc kc ks ls st H K := by
  obtain ⟨hdec, hins, hyl⟩ := okRow_sp hw
  simp only [okIns, Bool.and_eq_true, Bool.or_eq_true, decide_eq_true_eq, beq_iff_eq] at hins
  intro p e R s m args below meth c A D ad cA HH locs cells slots lsR QF ad0 nx0 hctx hroom hnest hro hend hst hls hlv hW hS hag hnx hkc hks
  obtain ⟨hx, hb, hr, hml, hown, hts, hlk, hini, hA⟩ := id hctx
  have nxt : ∀ {pc' : Nat} {st' : List mV}, Pr l n d y pc' kc ks ls st' H K → okS H.2.2.2 st' → W p l e R s m args below meth c HH locs cells slots QF (F0 m pc' lsR (st'.map (mval ad))) := fun h ok => h p e R s m args below meth c A D ad cA HH locs cells slots lsR QF ad0 nx0 hctx hroom hnest hro hend ok hls hlv hW hS hag hnx hkc hks
  have nxtL : ∀ {pc' : Nat} {st' : List mV} {ls' : mLs} {lsR' : Array Slot}, Pr l n d y pc' kc ks ls' st' H K → okS H.2.2.2 st' → okLs H.2.2.2 ls' → lv_has lsR' (mMax y) (lvOf ad ls') → W p l e R s m args below meth c HH locs cells slots QF (F0 m pc' lsR' (st'.map (mval ad))) := fun h ok okl hl => h p e R s m args below meth c A D ad cA HH locs cells slots _ QF ad0 nx0 hctx hroom hnest hro hend ok okl hl hW hS hag hnx hkc hks
  dsimp only [stepW] at hstep
  obtain rfl := hins
  obtain ⟨a, b, r, rfl, hs⟩ := eII_inv hstep
  refine lv_iadd hx hb hdec ?_
  rw [ofInt_add' a b]
  exact nxt hs (okS_c (wrV _ _) (okS_t (okS_t hst)))
set_option maxRecDepth 20000 in
set_option maxHeartbeats 2000000 in
theorem cl_isub {l : Launch} {n d y pc : Nat} {len ia ib ic : Nat} {z : Int} {sw : List (Int × Nat)} {kc ks : Nat} {ls : mLs} {st : List mV} {H : mH} {K : mK} (hw : okRow (y, pc, .isub, len, (ia, ib, ic), z, sw) = true) (hstep : stepW n (Pr l n) (ent (Pr l n)) d (y, pc, .isub, len, (ia, ib, ic), z, sw) kc ks ls st H K) : Pr l n d y pc kc ks ls st H K := by
  obtain ⟨hdec, hins, hyl⟩ := okRow_sp hw
  simp only [okIns, Bool.and_eq_true, Bool.or_eq_true, decide_eq_true_eq, beq_iff_eq] at hins
  intro p e R s m args below meth c A D ad cA HH locs cells slots lsR QF ad0 nx0 hctx hroom hnest hro hend hst hls hlv hW hS hag hnx hkc hks
  obtain ⟨hx, hb, hr, hml, hown, hts, hlk, hini, hA⟩ := id hctx
  have nxt : ∀ {pc' : Nat} {st' : List mV}, Pr l n d y pc' kc ks ls st' H K → okS H.2.2.2 st' → W p l e R s m args below meth c HH locs cells slots QF (F0 m pc' lsR (st'.map (mval ad))) := fun h ok => h p e R s m args below meth c A D ad cA HH locs cells slots lsR QF ad0 nx0 hctx hroom hnest hro hend ok hls hlv hW hS hag hnx hkc hks
  have nxtL : ∀ {pc' : Nat} {st' : List mV} {ls' : mLs} {lsR' : Array Slot}, Pr l n d y pc' kc ks ls' st' H K → okS H.2.2.2 st' → okLs H.2.2.2 ls' → lv_has lsR' (mMax y) (lvOf ad ls') → W p l e R s m args below meth c HH locs cells slots QF (F0 m pc' lsR' (st'.map (mval ad))) := fun h ok okl hl => h p e R s m args below meth c A D ad cA HH locs cells slots _ QF ad0 nx0 hctx hroom hnest hro hend ok okl hl hW hS hag hnx hkc hks
  dsimp only [stepW] at hstep
  obtain rfl := hins
  obtain ⟨a, b, r, rfl, hs⟩ := eII_inv hstep
  refine lv_isub hx hb hdec ?_
  rw [ofInt_sub' a b]
  exact nxt hs (okS_c (wrV _ _) (okS_t (okS_t hst)))
set_option maxRecDepth 20000 in
set_option maxHeartbeats 2000000 in
theorem cl_imul {l : Launch} {n d y pc : Nat} {len ia ib ic : Nat} {z : Int} {sw : List (Int × Nat)} {kc ks : Nat} {ls : mLs} {st : List mV} {H : mH} {K : mK} (hw : okRow (y, pc, .imul, len, (ia, ib, ic), z, sw) = true) (hstep : stepW n (Pr l n) (ent (Pr l n)) d (y, pc, .imul, len, (ia, ib, ic), z, sw) kc ks ls st H K) : Pr l n d y pc kc ks ls st H K := by
  obtain ⟨hdec, hins, hyl⟩ := okRow_sp hw
  simp only [okIns, Bool.and_eq_true, Bool.or_eq_true, decide_eq_true_eq, beq_iff_eq] at hins
  intro p e R s m args below meth c A D ad cA HH locs cells slots lsR QF ad0 nx0 hctx hroom hnest hro hend hst hls hlv hW hS hag hnx hkc hks
  obtain ⟨hx, hb, hr, hml, hown, hts, hlk, hini, hA⟩ := id hctx
  have nxt : ∀ {pc' : Nat} {st' : List mV}, Pr l n d y pc' kc ks ls st' H K → okS H.2.2.2 st' → W p l e R s m args below meth c HH locs cells slots QF (F0 m pc' lsR (st'.map (mval ad))) := fun h ok => h p e R s m args below meth c A D ad cA HH locs cells slots lsR QF ad0 nx0 hctx hroom hnest hro hend ok hls hlv hW hS hag hnx hkc hks
  have nxtL : ∀ {pc' : Nat} {st' : List mV} {ls' : mLs} {lsR' : Array Slot}, Pr l n d y pc' kc ks ls' st' H K → okS H.2.2.2 st' → okLs H.2.2.2 ls' → lv_has lsR' (mMax y) (lvOf ad ls') → W p l e R s m args below meth c HH locs cells slots QF (F0 m pc' lsR' (st'.map (mval ad))) := fun h ok okl hl => h p e R s m args below meth c A D ad cA HH locs cells slots _ QF ad0 nx0 hctx hroom hnest hro hend ok okl hl hW hS hag hnx hkc hks
  dsimp only [stepW] at hstep
  obtain rfl := hins
  obtain ⟨a, b, r, rfl, hs⟩ := eII_inv hstep
  refine lv_imul hx hb hdec ?_
  rw [ofInt_mul' a b]
  exact nxt hs (okS_c (wrV _ _) (okS_t (okS_t hst)))
set_option maxRecDepth 20000 in
set_option maxHeartbeats 2000000 in
theorem cl_idiv {l : Launch} {n d y pc : Nat} {len ia ib ic : Nat} {z : Int} {sw : List (Int × Nat)} {kc ks : Nat} {ls : mLs} {st : List mV} {H : mH} {K : mK} (hw : okRow (y, pc, .idiv, len, (ia, ib, ic), z, sw) = true) (hstep : stepW n (Pr l n) (ent (Pr l n)) d (y, pc, .idiv, len, (ia, ib, ic), z, sw) kc ks ls st H K) : Pr l n d y pc kc ks ls st H K := by
  obtain ⟨hdec, hins, hyl⟩ := okRow_sp hw
  simp only [okIns, Bool.and_eq_true, Bool.or_eq_true, decide_eq_true_eq, beq_iff_eq] at hins
  intro p e R s m args below meth c A D ad cA HH locs cells slots lsR QF ad0 nx0 hctx hroom hnest hro hend hst hls hlv hW hS hag hnx hkc hks
  obtain ⟨hx, hb, hr, hml, hown, hts, hlk, hini, hA⟩ := id hctx
  have nxt : ∀ {pc' : Nat} {st' : List mV}, Pr l n d y pc' kc ks ls st' H K → okS H.2.2.2 st' → W p l e R s m args below meth c HH locs cells slots QF (F0 m pc' lsR (st'.map (mval ad))) := fun h ok => h p e R s m args below meth c A D ad cA HH locs cells slots lsR QF ad0 nx0 hctx hroom hnest hro hend ok hls hlv hW hS hag hnx hkc hks
  have nxtL : ∀ {pc' : Nat} {st' : List mV} {ls' : mLs} {lsR' : Array Slot}, Pr l n d y pc' kc ks ls' st' H K → okS H.2.2.2 st' → okLs H.2.2.2 ls' → lv_has lsR' (mMax y) (lvOf ad ls') → W p l e R s m args below meth c HH locs cells slots QF (F0 m pc' lsR' (st'.map (mval ad))) := fun h ok okl hl => h p e R s m args below meth c A D ad cA HH locs cells slots _ QF ad0 nx0 hctx hroom hnest hro hend ok okl hl hW hS hag hnx hkc hks
  dsimp only [stepW] at hstep
  obtain rfl := hins
  obtain ⟨a, b, r, rfl, hs0⟩ := eII_inv hstep
  obtain ⟨h0, hs⟩ := nzW_inv hs0
  have ha : okV H.2.2.2 (vi a) := okS_h (okS_t hst)
  have hb0 : okV H.2.2.2 (vi b) := okS_h hst
  refine lv_idiv hx hb hdec (fun q => h0 ((ofInt_eq hb0 (by omega)).mp (q.trans rfl))) ?_
  rw [ofInt_div' ha hb0]
  exact nxt hs (okS_c (wrV _ _) (okS_t (okS_t hst)))
set_option maxRecDepth 20000 in
set_option maxHeartbeats 2000000 in
theorem cl_irem {l : Launch} {n d y pc : Nat} {len ia ib ic : Nat} {z : Int} {sw : List (Int × Nat)} {kc ks : Nat} {ls : mLs} {st : List mV} {H : mH} {K : mK} (hw : okRow (y, pc, .irem, len, (ia, ib, ic), z, sw) = true) (hstep : stepW n (Pr l n) (ent (Pr l n)) d (y, pc, .irem, len, (ia, ib, ic), z, sw) kc ks ls st H K) : Pr l n d y pc kc ks ls st H K := by
  obtain ⟨hdec, hins, hyl⟩ := okRow_sp hw
  simp only [okIns, Bool.and_eq_true, Bool.or_eq_true, decide_eq_true_eq, beq_iff_eq] at hins
  intro p e R s m args below meth c A D ad cA HH locs cells slots lsR QF ad0 nx0 hctx hroom hnest hro hend hst hls hlv hW hS hag hnx hkc hks
  obtain ⟨hx, hb, hr, hml, hown, hts, hlk, hini, hA⟩ := id hctx
  have nxt : ∀ {pc' : Nat} {st' : List mV}, Pr l n d y pc' kc ks ls st' H K → okS H.2.2.2 st' → W p l e R s m args below meth c HH locs cells slots QF (F0 m pc' lsR (st'.map (mval ad))) := fun h ok => h p e R s m args below meth c A D ad cA HH locs cells slots lsR QF ad0 nx0 hctx hroom hnest hro hend ok hls hlv hW hS hag hnx hkc hks
  have nxtL : ∀ {pc' : Nat} {st' : List mV} {ls' : mLs} {lsR' : Array Slot}, Pr l n d y pc' kc ks ls' st' H K → okS H.2.2.2 st' → okLs H.2.2.2 ls' → lv_has lsR' (mMax y) (lvOf ad ls') → W p l e R s m args below meth c HH locs cells slots QF (F0 m pc' lsR' (st'.map (mval ad))) := fun h ok okl hl => h p e R s m args below meth c A D ad cA HH locs cells slots _ QF ad0 nx0 hctx hroom hnest hro hend ok okl hl hW hS hag hnx hkc hks
  dsimp only [stepW] at hstep
  obtain rfl := hins
  obtain ⟨a, b, r, rfl, hs0⟩ := eII_inv hstep
  obtain ⟨h0, hs⟩ := nzW_inv hs0
  have ha : okV H.2.2.2 (vi a) := okS_h (okS_t hst)
  have hb0 : okV H.2.2.2 (vi b) := okS_h hst
  refine lv_irem hx hb hdec (fun q => h0 ((ofInt_eq hb0 (by omega)).mp (q.trans rfl))) ?_
  rw [ofInt_rem' ha hb0]
  exact nxt hs (okS_c (tmod_rng ha hb0) (okS_t (okS_t hst)))
set_option maxRecDepth 20000 in
set_option maxHeartbeats 2000000 in
theorem cl_ineg {l : Launch} {n d y pc : Nat} {len ia ib ic : Nat} {z : Int} {sw : List (Int × Nat)} {kc ks : Nat} {ls : mLs} {st : List mV} {H : mH} {K : mK} (hw : okRow (y, pc, .ineg, len, (ia, ib, ic), z, sw) = true) (hstep : stepW n (Pr l n) (ent (Pr l n)) d (y, pc, .ineg, len, (ia, ib, ic), z, sw) kc ks ls st H K) : Pr l n d y pc kc ks ls st H K := by
  obtain ⟨hdec, hins, hyl⟩ := okRow_sp hw
  simp only [okIns, Bool.and_eq_true, Bool.or_eq_true, decide_eq_true_eq, beq_iff_eq] at hins
  intro p e R s m args below meth c A D ad cA HH locs cells slots lsR QF ad0 nx0 hctx hroom hnest hro hend hst hls hlv hW hS hag hnx hkc hks
  obtain ⟨hx, hb, hr, hml, hown, hts, hlk, hini, hA⟩ := id hctx
  have nxt : ∀ {pc' : Nat} {st' : List mV}, Pr l n d y pc' kc ks ls st' H K → okS H.2.2.2 st' → W p l e R s m args below meth c HH locs cells slots QF (F0 m pc' lsR (st'.map (mval ad))) := fun h ok => h p e R s m args below meth c A D ad cA HH locs cells slots lsR QF ad0 nx0 hctx hroom hnest hro hend ok hls hlv hW hS hag hnx hkc hks
  have nxtL : ∀ {pc' : Nat} {st' : List mV} {ls' : mLs} {lsR' : Array Slot}, Pr l n d y pc' kc ks ls' st' H K → okS H.2.2.2 st' → okLs H.2.2.2 ls' → lv_has lsR' (mMax y) (lvOf ad ls') → W p l e R s m args below meth c HH locs cells slots QF (F0 m pc' lsR' (st'.map (mval ad))) := fun h ok okl hl => h p e R s m args below meth c A D ad cA HH locs cells slots _ QF ad0 nx0 hctx hroom hnest hro hend ok okl hl hW hS hag hnx hkc hks
  dsimp only [stepW] at hstep
  obtain rfl := hins
  obtain ⟨a, r, rfl, hs⟩ := eI_inv hstep
  refine lv_ineg hx hb hdec ?_
  rw [ofInt_neg' a]
  exact nxt hs (okS_c (wrV _ _) (okS_t hst))
set_option maxRecDepth 20000 in
set_option maxHeartbeats 2000000 in
theorem cl_ishl {l : Launch} {n d y pc : Nat} {len ia ib ic : Nat} {z : Int} {sw : List (Int × Nat)} {kc ks : Nat} {ls : mLs} {st : List mV} {H : mH} {K : mK} (hw : okRow (y, pc, .ishl, len, (ia, ib, ic), z, sw) = true) (hstep : stepW n (Pr l n) (ent (Pr l n)) d (y, pc, .ishl, len, (ia, ib, ic), z, sw) kc ks ls st H K) : Pr l n d y pc kc ks ls st H K := by
  obtain ⟨hdec, hins, hyl⟩ := okRow_sp hw
  simp only [okIns, Bool.and_eq_true, Bool.or_eq_true, decide_eq_true_eq, beq_iff_eq] at hins
  intro p e R s m args below meth c A D ad cA HH locs cells slots lsR QF ad0 nx0 hctx hroom hnest hro hend hst hls hlv hW hS hag hnx hkc hks
  obtain ⟨hx, hb, hr, hml, hown, hts, hlk, hini, hA⟩ := id hctx
  have nxt : ∀ {pc' : Nat} {st' : List mV}, Pr l n d y pc' kc ks ls st' H K → okS H.2.2.2 st' → W p l e R s m args below meth c HH locs cells slots QF (F0 m pc' lsR (st'.map (mval ad))) := fun h ok => h p e R s m args below meth c A D ad cA HH locs cells slots lsR QF ad0 nx0 hctx hroom hnest hro hend ok hls hlv hW hS hag hnx hkc hks
  have nxtL : ∀ {pc' : Nat} {st' : List mV} {ls' : mLs} {lsR' : Array Slot}, Pr l n d y pc' kc ks ls' st' H K → okS H.2.2.2 st' → okLs H.2.2.2 ls' → lv_has lsR' (mMax y) (lvOf ad ls') → W p l e R s m args below meth c HH locs cells slots QF (F0 m pc' lsR' (st'.map (mval ad))) := fun h ok okl hl => h p e R s m args below meth c A D ad cA HH locs cells slots _ QF ad0 nx0 hctx hroom hnest hro hend ok okl hl hW hS hag hnx hkc hks
  dsimp only [stepW] at hstep
  obtain rfl := hins
  obtain ⟨a, b, r, rfl, hs⟩ := eII_inv hstep
  refine lv_ishl hx hb hdec ?_
  rw [ofInt_b (Int32.ofInt a <<< (Int32.ofInt b &&& 31))]
  exact nxt hs (okS_c (i32V _ _) (okS_t (okS_t hst)))
set_option maxRecDepth 20000 in
set_option maxHeartbeats 2000000 in
theorem cl_ishr {l : Launch} {n d y pc : Nat} {len ia ib ic : Nat} {z : Int} {sw : List (Int × Nat)} {kc ks : Nat} {ls : mLs} {st : List mV} {H : mH} {K : mK} (hw : okRow (y, pc, .ishr, len, (ia, ib, ic), z, sw) = true) (hstep : stepW n (Pr l n) (ent (Pr l n)) d (y, pc, .ishr, len, (ia, ib, ic), z, sw) kc ks ls st H K) : Pr l n d y pc kc ks ls st H K := by
  obtain ⟨hdec, hins, hyl⟩ := okRow_sp hw
  simp only [okIns, Bool.and_eq_true, Bool.or_eq_true, decide_eq_true_eq, beq_iff_eq] at hins
  intro p e R s m args below meth c A D ad cA HH locs cells slots lsR QF ad0 nx0 hctx hroom hnest hro hend hst hls hlv hW hS hag hnx hkc hks
  obtain ⟨hx, hb, hr, hml, hown, hts, hlk, hini, hA⟩ := id hctx
  have nxt : ∀ {pc' : Nat} {st' : List mV}, Pr l n d y pc' kc ks ls st' H K → okS H.2.2.2 st' → W p l e R s m args below meth c HH locs cells slots QF (F0 m pc' lsR (st'.map (mval ad))) := fun h ok => h p e R s m args below meth c A D ad cA HH locs cells slots lsR QF ad0 nx0 hctx hroom hnest hro hend ok hls hlv hW hS hag hnx hkc hks
  have nxtL : ∀ {pc' : Nat} {st' : List mV} {ls' : mLs} {lsR' : Array Slot}, Pr l n d y pc' kc ks ls' st' H K → okS H.2.2.2 st' → okLs H.2.2.2 ls' → lv_has lsR' (mMax y) (lvOf ad ls') → W p l e R s m args below meth c HH locs cells slots QF (F0 m pc' lsR' (st'.map (mval ad))) := fun h ok okl hl => h p e R s m args below meth c A D ad cA HH locs cells slots _ QF ad0 nx0 hctx hroom hnest hro hend ok okl hl hW hS hag hnx hkc hks
  dsimp only [stepW] at hstep
  obtain rfl := hins
  obtain ⟨a, b, r, rfl, hs⟩ := eII_inv hstep
  refine lv_ishr hx hb hdec ?_
  rw [ofInt_b (Int32.ofInt a >>> (Int32.ofInt b &&& 31))]
  exact nxt hs (okS_c (i32V _ _) (okS_t (okS_t hst)))
set_option maxRecDepth 20000 in
set_option maxHeartbeats 2000000 in
theorem cl_iand {l : Launch} {n d y pc : Nat} {len ia ib ic : Nat} {z : Int} {sw : List (Int × Nat)} {kc ks : Nat} {ls : mLs} {st : List mV} {H : mH} {K : mK} (hw : okRow (y, pc, .iand, len, (ia, ib, ic), z, sw) = true) (hstep : stepW n (Pr l n) (ent (Pr l n)) d (y, pc, .iand, len, (ia, ib, ic), z, sw) kc ks ls st H K) : Pr l n d y pc kc ks ls st H K := by
  obtain ⟨hdec, hins, hyl⟩ := okRow_sp hw
  simp only [okIns, Bool.and_eq_true, Bool.or_eq_true, decide_eq_true_eq, beq_iff_eq] at hins
  intro p e R s m args below meth c A D ad cA HH locs cells slots lsR QF ad0 nx0 hctx hroom hnest hro hend hst hls hlv hW hS hag hnx hkc hks
  obtain ⟨hx, hb, hr, hml, hown, hts, hlk, hini, hA⟩ := id hctx
  have nxt : ∀ {pc' : Nat} {st' : List mV}, Pr l n d y pc' kc ks ls st' H K → okS H.2.2.2 st' → W p l e R s m args below meth c HH locs cells slots QF (F0 m pc' lsR (st'.map (mval ad))) := fun h ok => h p e R s m args below meth c A D ad cA HH locs cells slots lsR QF ad0 nx0 hctx hroom hnest hro hend ok hls hlv hW hS hag hnx hkc hks
  have nxtL : ∀ {pc' : Nat} {st' : List mV} {ls' : mLs} {lsR' : Array Slot}, Pr l n d y pc' kc ks ls' st' H K → okS H.2.2.2 st' → okLs H.2.2.2 ls' → lv_has lsR' (mMax y) (lvOf ad ls') → W p l e R s m args below meth c HH locs cells slots QF (F0 m pc' lsR' (st'.map (mval ad))) := fun h ok okl hl => h p e R s m args below meth c A D ad cA HH locs cells slots _ QF ad0 nx0 hctx hroom hnest hro hend ok okl hl hW hS hag hnx hkc hks
  dsimp only [stepW] at hstep
  obtain rfl := hins
  obtain ⟨a, b, r, rfl, hs⟩ := eII_inv hstep
  refine lv_iand hx hb hdec ?_
  rw [ofInt_b (Int32.ofInt a &&& Int32.ofInt b)]
  exact nxt hs (okS_c (i32V _ _) (okS_t (okS_t hst)))
set_option maxRecDepth 20000 in
set_option maxHeartbeats 2000000 in
theorem cl_ior {l : Launch} {n d y pc : Nat} {len ia ib ic : Nat} {z : Int} {sw : List (Int × Nat)} {kc ks : Nat} {ls : mLs} {st : List mV} {H : mH} {K : mK} (hw : okRow (y, pc, .ior, len, (ia, ib, ic), z, sw) = true) (hstep : stepW n (Pr l n) (ent (Pr l n)) d (y, pc, .ior, len, (ia, ib, ic), z, sw) kc ks ls st H K) : Pr l n d y pc kc ks ls st H K := by
  obtain ⟨hdec, hins, hyl⟩ := okRow_sp hw
  simp only [okIns, Bool.and_eq_true, Bool.or_eq_true, decide_eq_true_eq, beq_iff_eq] at hins
  intro p e R s m args below meth c A D ad cA HH locs cells slots lsR QF ad0 nx0 hctx hroom hnest hro hend hst hls hlv hW hS hag hnx hkc hks
  obtain ⟨hx, hb, hr, hml, hown, hts, hlk, hini, hA⟩ := id hctx
  have nxt : ∀ {pc' : Nat} {st' : List mV}, Pr l n d y pc' kc ks ls st' H K → okS H.2.2.2 st' → W p l e R s m args below meth c HH locs cells slots QF (F0 m pc' lsR (st'.map (mval ad))) := fun h ok => h p e R s m args below meth c A D ad cA HH locs cells slots lsR QF ad0 nx0 hctx hroom hnest hro hend ok hls hlv hW hS hag hnx hkc hks
  have nxtL : ∀ {pc' : Nat} {st' : List mV} {ls' : mLs} {lsR' : Array Slot}, Pr l n d y pc' kc ks ls' st' H K → okS H.2.2.2 st' → okLs H.2.2.2 ls' → lv_has lsR' (mMax y) (lvOf ad ls') → W p l e R s m args below meth c HH locs cells slots QF (F0 m pc' lsR' (st'.map (mval ad))) := fun h ok okl hl => h p e R s m args below meth c A D ad cA HH locs cells slots _ QF ad0 nx0 hctx hroom hnest hro hend ok okl hl hW hS hag hnx hkc hks
  dsimp only [stepW] at hstep
  obtain rfl := hins
  obtain ⟨a, b, r, rfl, hs⟩ := eII_inv hstep
  refine lv_ior hx hb hdec ?_
  rw [ofInt_b (Int32.ofInt a ||| Int32.ofInt b)]
  exact nxt hs (okS_c (i32V _ _) (okS_t (okS_t hst)))
set_option maxRecDepth 20000 in
set_option maxHeartbeats 2000000 in
theorem cl_ixor {l : Launch} {n d y pc : Nat} {len ia ib ic : Nat} {z : Int} {sw : List (Int × Nat)} {kc ks : Nat} {ls : mLs} {st : List mV} {H : mH} {K : mK} (hw : okRow (y, pc, .ixor, len, (ia, ib, ic), z, sw) = true) (hstep : stepW n (Pr l n) (ent (Pr l n)) d (y, pc, .ixor, len, (ia, ib, ic), z, sw) kc ks ls st H K) : Pr l n d y pc kc ks ls st H K := by
  obtain ⟨hdec, hins, hyl⟩ := okRow_sp hw
  simp only [okIns, Bool.and_eq_true, Bool.or_eq_true, decide_eq_true_eq, beq_iff_eq] at hins
  intro p e R s m args below meth c A D ad cA HH locs cells slots lsR QF ad0 nx0 hctx hroom hnest hro hend hst hls hlv hW hS hag hnx hkc hks
  obtain ⟨hx, hb, hr, hml, hown, hts, hlk, hini, hA⟩ := id hctx
  have nxt : ∀ {pc' : Nat} {st' : List mV}, Pr l n d y pc' kc ks ls st' H K → okS H.2.2.2 st' → W p l e R s m args below meth c HH locs cells slots QF (F0 m pc' lsR (st'.map (mval ad))) := fun h ok => h p e R s m args below meth c A D ad cA HH locs cells slots lsR QF ad0 nx0 hctx hroom hnest hro hend ok hls hlv hW hS hag hnx hkc hks
  have nxtL : ∀ {pc' : Nat} {st' : List mV} {ls' : mLs} {lsR' : Array Slot}, Pr l n d y pc' kc ks ls' st' H K → okS H.2.2.2 st' → okLs H.2.2.2 ls' → lv_has lsR' (mMax y) (lvOf ad ls') → W p l e R s m args below meth c HH locs cells slots QF (F0 m pc' lsR' (st'.map (mval ad))) := fun h ok okl hl => h p e R s m args below meth c A D ad cA HH locs cells slots _ QF ad0 nx0 hctx hroom hnest hro hend ok okl hl hW hS hag hnx hkc hks
  dsimp only [stepW] at hstep
  obtain rfl := hins
  obtain ⟨a, b, r, rfl, hs⟩ := eII_inv hstep
  refine lv_ixor hx hb hdec ?_
  rw [ofInt_b (Int32.ofInt a ^^^ Int32.ofInt b)]
  exact nxt hs (okS_c (i32V _ _) (okS_t (okS_t hst)))
set_option maxRecDepth 20000 in
set_option maxHeartbeats 2000000 in
theorem cl_iushr {l : Launch} {n d y pc : Nat} {len ia ib ic : Nat} {z : Int} {sw : List (Int × Nat)} {kc ks : Nat} {ls : mLs} {st : List mV} {H : mH} {K : mK} (hw : okRow (y, pc, .iushr, len, (ia, ib, ic), z, sw) = true) (hstep : stepW n (Pr l n) (ent (Pr l n)) d (y, pc, .iushr, len, (ia, ib, ic), z, sw) kc ks ls st H K) : Pr l n d y pc kc ks ls st H K := by
  obtain ⟨hdec, hins, hyl⟩ := okRow_sp hw
  simp only [okIns, Bool.and_eq_true, Bool.or_eq_true, decide_eq_true_eq, beq_iff_eq] at hins
  intro p e R s m args below meth c A D ad cA HH locs cells slots lsR QF ad0 nx0 hctx hroom hnest hro hend hst hls hlv hW hS hag hnx hkc hks
  obtain ⟨hx, hb, hr, hml, hown, hts, hlk, hini, hA⟩ := id hctx
  have nxt : ∀ {pc' : Nat} {st' : List mV}, Pr l n d y pc' kc ks ls st' H K → okS H.2.2.2 st' → W p l e R s m args below meth c HH locs cells slots QF (F0 m pc' lsR (st'.map (mval ad))) := fun h ok => h p e R s m args below meth c A D ad cA HH locs cells slots lsR QF ad0 nx0 hctx hroom hnest hro hend ok hls hlv hW hS hag hnx hkc hks
  have nxtL : ∀ {pc' : Nat} {st' : List mV} {ls' : mLs} {lsR' : Array Slot}, Pr l n d y pc' kc ks ls' st' H K → okS H.2.2.2 st' → okLs H.2.2.2 ls' → lv_has lsR' (mMax y) (lvOf ad ls') → W p l e R s m args below meth c HH locs cells slots QF (F0 m pc' lsR' (st'.map (mval ad))) := fun h ok okl hl => h p e R s m args below meth c A D ad cA HH locs cells slots _ QF ad0 nx0 hctx hroom hnest hro hend ok okl hl hW hS hag hnx hkc hks
  dsimp only [stepW] at hstep
  obtain rfl := hins
  obtain ⟨a, b, r, rfl, hs⟩ := eII_inv hstep
  exact lv_iushr hx hb hdec (ofInt_b _) (nxt hs (okS_c (i32V _ _) (okS_t (okS_t hst))))
set_option maxRecDepth 20000 in
set_option maxHeartbeats 2000000 in
theorem cl_i2l {l : Launch} {n d y pc : Nat} {len ia ib ic : Nat} {z : Int} {sw : List (Int × Nat)} {kc ks : Nat} {ls : mLs} {st : List mV} {H : mH} {K : mK} (hw : okRow (y, pc, .i2l, len, (ia, ib, ic), z, sw) = true) (hstep : stepW n (Pr l n) (ent (Pr l n)) d (y, pc, .i2l, len, (ia, ib, ic), z, sw) kc ks ls st H K) : Pr l n d y pc kc ks ls st H K := by
  obtain ⟨hdec, hins, hyl⟩ := okRow_sp hw
  simp only [okIns, Bool.and_eq_true, Bool.or_eq_true, decide_eq_true_eq, beq_iff_eq] at hins
  intro p e R s m args below meth c A D ad cA HH locs cells slots lsR QF ad0 nx0 hctx hroom hnest hro hend hst hls hlv hW hS hag hnx hkc hks
  obtain ⟨hx, hb, hr, hml, hown, hts, hlk, hini, hA⟩ := id hctx
  have nxt : ∀ {pc' : Nat} {st' : List mV}, Pr l n d y pc' kc ks ls st' H K → okS H.2.2.2 st' → W p l e R s m args below meth c HH locs cells slots QF (F0 m pc' lsR (st'.map (mval ad))) := fun h ok => h p e R s m args below meth c A D ad cA HH locs cells slots lsR QF ad0 nx0 hctx hroom hnest hro hend ok hls hlv hW hS hag hnx hkc hks
  have nxtL : ∀ {pc' : Nat} {st' : List mV} {ls' : mLs} {lsR' : Array Slot}, Pr l n d y pc' kc ks ls' st' H K → okS H.2.2.2 st' → okLs H.2.2.2 ls' → lv_has lsR' (mMax y) (lvOf ad ls') → W p l e R s m args below meth c HH locs cells slots QF (F0 m pc' lsR' (st'.map (mval ad))) := fun h ok okl hl => h p e R s m args below meth c A D ad cA HH locs cells slots _ QF ad0 nx0 hctx hroom hnest hro hend ok okl hl hW hS hag hnx hkc hks
  dsimp only [stepW] at hstep
  obtain rfl := hins
  obtain ⟨a, r, rfl, hs⟩ := eI_inv hstep
  have ha : okV H.2.2.2 (vi a) := okS_h hst
  exact lv_i2l hx hb hdec (ofInt_toInt64 ha) (nxt hs (okS_c trivial (okS_t hst)))
set_option maxRecDepth 20000 in
set_option maxHeartbeats 2000000 in
theorem cl_l2i {l : Launch} {n d y pc : Nat} {len ia ib ic : Nat} {z : Int} {sw : List (Int × Nat)} {kc ks : Nat} {ls : mLs} {st : List mV} {H : mH} {K : mK} (hw : okRow (y, pc, .l2i, len, (ia, ib, ic), z, sw) = true) (hstep : stepW n (Pr l n) (ent (Pr l n)) d (y, pc, .l2i, len, (ia, ib, ic), z, sw) kc ks ls st H K) : Pr l n d y pc kc ks ls st H K := by
  obtain ⟨hdec, hins, hyl⟩ := okRow_sp hw
  simp only [okIns, Bool.and_eq_true, Bool.or_eq_true, decide_eq_true_eq, beq_iff_eq] at hins
  intro p e R s m args below meth c A D ad cA HH locs cells slots lsR QF ad0 nx0 hctx hroom hnest hro hend hst hls hlv hW hS hag hnx hkc hks
  obtain ⟨hx, hb, hr, hml, hown, hts, hlk, hini, hA⟩ := id hctx
  have nxt : ∀ {pc' : Nat} {st' : List mV}, Pr l n d y pc' kc ks ls st' H K → okS H.2.2.2 st' → W p l e R s m args below meth c HH locs cells slots QF (F0 m pc' lsR (st'.map (mval ad))) := fun h ok => h p e R s m args below meth c A D ad cA HH locs cells slots lsR QF ad0 nx0 hctx hroom hnest hro hend ok hls hlv hW hS hag hnx hkc hks
  have nxtL : ∀ {pc' : Nat} {st' : List mV} {ls' : mLs} {lsR' : Array Slot}, Pr l n d y pc' kc ks ls' st' H K → okS H.2.2.2 st' → okLs H.2.2.2 ls' → lv_has lsR' (mMax y) (lvOf ad ls') → W p l e R s m args below meth c HH locs cells slots QF (F0 m pc' lsR' (st'.map (mval ad))) := fun h ok okl hl => h p e R s m args below meth c A D ad cA HH locs cells slots _ QF ad0 nx0 hctx hroom hnest hro hend ok okl hl hW hS hag hnx hkc hks
  dsimp only [stepW] at hstep
  obtain rfl := hins
  obtain ⟨a, r, rfl, hs⟩ := eL_inv hstep
  exact lv_l2i hx hb hdec (ofInt_b _) (nxt hs (okS_c (i32V _ _) (okS_t hst)))
set_option maxRecDepth 20000 in
set_option maxHeartbeats 2000000 in
theorem cl_i2b {l : Launch} {n d y pc : Nat} {len ia ib ic : Nat} {z : Int} {sw : List (Int × Nat)} {kc ks : Nat} {ls : mLs} {st : List mV} {H : mH} {K : mK} (hw : okRow (y, pc, .i2b, len, (ia, ib, ic), z, sw) = true) (hstep : stepW n (Pr l n) (ent (Pr l n)) d (y, pc, .i2b, len, (ia, ib, ic), z, sw) kc ks ls st H K) : Pr l n d y pc kc ks ls st H K := by
  obtain ⟨hdec, hins, hyl⟩ := okRow_sp hw
  simp only [okIns, Bool.and_eq_true, Bool.or_eq_true, decide_eq_true_eq, beq_iff_eq] at hins
  intro p e R s m args below meth c A D ad cA HH locs cells slots lsR QF ad0 nx0 hctx hroom hnest hro hend hst hls hlv hW hS hag hnx hkc hks
  obtain ⟨hx, hb, hr, hml, hown, hts, hlk, hini, hA⟩ := id hctx
  have nxt : ∀ {pc' : Nat} {st' : List mV}, Pr l n d y pc' kc ks ls st' H K → okS H.2.2.2 st' → W p l e R s m args below meth c HH locs cells slots QF (F0 m pc' lsR (st'.map (mval ad))) := fun h ok => h p e R s m args below meth c A D ad cA HH locs cells slots lsR QF ad0 nx0 hctx hroom hnest hro hend ok hls hlv hW hS hag hnx hkc hks
  have nxtL : ∀ {pc' : Nat} {st' : List mV} {ls' : mLs} {lsR' : Array Slot}, Pr l n d y pc' kc ks ls' st' H K → okS H.2.2.2 st' → okLs H.2.2.2 ls' → lv_has lsR' (mMax y) (lvOf ad ls') → W p l e R s m args below meth c HH locs cells slots QF (F0 m pc' lsR' (st'.map (mval ad))) := fun h ok okl hl => h p e R s m args below meth c A D ad cA HH locs cells slots _ QF ad0 nx0 hctx hroom hnest hro hend ok okl hl hW hS hag hnx hkc hks
  dsimp only [stepW] at hstep
  obtain rfl := hins
  obtain ⟨a, r, rfl, hs⟩ := eI_inv hstep
  exact lv_i2b hx hb hdec (ofInt_b _) (nxt hs (okS_c (i32V _ _) (okS_t hst)))
set_option maxRecDepth 20000 in
set_option maxHeartbeats 2000000 in
theorem cl_i2s {l : Launch} {n d y pc : Nat} {len ia ib ic : Nat} {z : Int} {sw : List (Int × Nat)} {kc ks : Nat} {ls : mLs} {st : List mV} {H : mH} {K : mK} (hw : okRow (y, pc, .i2s, len, (ia, ib, ic), z, sw) = true) (hstep : stepW n (Pr l n) (ent (Pr l n)) d (y, pc, .i2s, len, (ia, ib, ic), z, sw) kc ks ls st H K) : Pr l n d y pc kc ks ls st H K := by
  obtain ⟨hdec, hins, hyl⟩ := okRow_sp hw
  simp only [okIns, Bool.and_eq_true, Bool.or_eq_true, decide_eq_true_eq, beq_iff_eq] at hins
  intro p e R s m args below meth c A D ad cA HH locs cells slots lsR QF ad0 nx0 hctx hroom hnest hro hend hst hls hlv hW hS hag hnx hkc hks
  obtain ⟨hx, hb, hr, hml, hown, hts, hlk, hini, hA⟩ := id hctx
  have nxt : ∀ {pc' : Nat} {st' : List mV}, Pr l n d y pc' kc ks ls st' H K → okS H.2.2.2 st' → W p l e R s m args below meth c HH locs cells slots QF (F0 m pc' lsR (st'.map (mval ad))) := fun h ok => h p e R s m args below meth c A D ad cA HH locs cells slots lsR QF ad0 nx0 hctx hroom hnest hro hend ok hls hlv hW hS hag hnx hkc hks
  have nxtL : ∀ {pc' : Nat} {st' : List mV} {ls' : mLs} {lsR' : Array Slot}, Pr l n d y pc' kc ks ls' st' H K → okS H.2.2.2 st' → okLs H.2.2.2 ls' → lv_has lsR' (mMax y) (lvOf ad ls') → W p l e R s m args below meth c HH locs cells slots QF (F0 m pc' lsR' (st'.map (mval ad))) := fun h ok okl hl => h p e R s m args below meth c A D ad cA HH locs cells slots _ QF ad0 nx0 hctx hroom hnest hro hend ok okl hl hW hS hag hnx hkc hks
  dsimp only [stepW] at hstep
  obtain rfl := hins
  obtain ⟨a, r, rfl, hs⟩ := eI_inv hstep
  exact lv_i2s hx hb hdec (ofInt_b _) (nxt hs (okS_c (i32V _ _) (okS_t hst)))
set_option maxRecDepth 20000 in
set_option maxHeartbeats 2000000 in
theorem cl_i2c {l : Launch} {n d y pc : Nat} {len ia ib ic : Nat} {z : Int} {sw : List (Int × Nat)} {kc ks : Nat} {ls : mLs} {st : List mV} {H : mH} {K : mK} (hw : okRow (y, pc, .i2c, len, (ia, ib, ic), z, sw) = true) (hstep : stepW n (Pr l n) (ent (Pr l n)) d (y, pc, .i2c, len, (ia, ib, ic), z, sw) kc ks ls st H K) : Pr l n d y pc kc ks ls st H K := by
  obtain ⟨hdec, hins, hyl⟩ := okRow_sp hw
  simp only [okIns, Bool.and_eq_true, Bool.or_eq_true, decide_eq_true_eq, beq_iff_eq] at hins
  intro p e R s m args below meth c A D ad cA HH locs cells slots lsR QF ad0 nx0 hctx hroom hnest hro hend hst hls hlv hW hS hag hnx hkc hks
  obtain ⟨hx, hb, hr, hml, hown, hts, hlk, hini, hA⟩ := id hctx
  have nxt : ∀ {pc' : Nat} {st' : List mV}, Pr l n d y pc' kc ks ls st' H K → okS H.2.2.2 st' → W p l e R s m args below meth c HH locs cells slots QF (F0 m pc' lsR (st'.map (mval ad))) := fun h ok => h p e R s m args below meth c A D ad cA HH locs cells slots lsR QF ad0 nx0 hctx hroom hnest hro hend ok hls hlv hW hS hag hnx hkc hks
  have nxtL : ∀ {pc' : Nat} {st' : List mV} {ls' : mLs} {lsR' : Array Slot}, Pr l n d y pc' kc ks ls' st' H K → okS H.2.2.2 st' → okLs H.2.2.2 ls' → lv_has lsR' (mMax y) (lvOf ad ls') → W p l e R s m args below meth c HH locs cells slots QF (F0 m pc' lsR' (st'.map (mval ad))) := fun h ok okl hl => h p e R s m args below meth c A D ad cA HH locs cells slots _ QF ad0 nx0 hctx hroom hnest hro hend ok okl hl hW hS hag hnx hkc hks
  dsimp only [stepW] at hstep
  obtain rfl := hins
  obtain ⟨a, r, rfl, hs⟩ := eI_inv hstep
  exact lv_i2c hx hb hdec (ofInt_b _) (nxt hs (okS_c (i32V _ _) (okS_t hst)))
set_option maxRecDepth 20000 in
set_option maxHeartbeats 2000000 in
theorem cl_lcmp {l : Launch} {n d y pc : Nat} {len ia ib ic : Nat} {z : Int} {sw : List (Int × Nat)} {kc ks : Nat} {ls : mLs} {st : List mV} {H : mH} {K : mK} (hw : okRow (y, pc, .lcmp, len, (ia, ib, ic), z, sw) = true) (hstep : stepW n (Pr l n) (ent (Pr l n)) d (y, pc, .lcmp, len, (ia, ib, ic), z, sw) kc ks ls st H K) : Pr l n d y pc kc ks ls st H K := by
  obtain ⟨hdec, hins, hyl⟩ := okRow_sp hw
  simp only [okIns, Bool.and_eq_true, Bool.or_eq_true, decide_eq_true_eq, beq_iff_eq] at hins
  intro p e R s m args below meth c A D ad cA HH locs cells slots lsR QF ad0 nx0 hctx hroom hnest hro hend hst hls hlv hW hS hag hnx hkc hks
  obtain ⟨hx, hb, hr, hml, hown, hts, hlk, hini, hA⟩ := id hctx
  have nxt : ∀ {pc' : Nat} {st' : List mV}, Pr l n d y pc' kc ks ls st' H K → okS H.2.2.2 st' → W p l e R s m args below meth c HH locs cells slots QF (F0 m pc' lsR (st'.map (mval ad))) := fun h ok => h p e R s m args below meth c A D ad cA HH locs cells slots lsR QF ad0 nx0 hctx hroom hnest hro hend ok hls hlv hW hS hag hnx hkc hks
  have nxtL : ∀ {pc' : Nat} {st' : List mV} {ls' : mLs} {lsR' : Array Slot}, Pr l n d y pc' kc ks ls' st' H K → okS H.2.2.2 st' → okLs H.2.2.2 ls' → lv_has lsR' (mMax y) (lvOf ad ls') → W p l e R s m args below meth c HH locs cells slots QF (F0 m pc' lsR' (st'.map (mval ad))) := fun h ok okl hl => h p e R s m args below meth c A D ad cA HH locs cells slots _ QF ad0 nx0 hctx hroom hnest hro hend ok okl hl hW hS hag hnx hkc hks
  dsimp only [stepW] at hstep
  obtain rfl := hins
  obtain ⟨a, b, r, rfl, hs⟩ := eLL_inv hstep
  refine W.lcmp hx hb hdec ?_
  rw [ofInt_b (lg_cmp a b)]
  exact nxt hs (okS_c (i32V _ _) (okS_t (okS_t hst)))
set_option maxRecDepth 20000 in
set_option maxHeartbeats 2000000 in
theorem cl_lshl {l : Launch} {n d y pc : Nat} {len ia ib ic : Nat} {z : Int} {sw : List (Int × Nat)} {kc ks : Nat} {ls : mLs} {st : List mV} {H : mH} {K : mK} (hw : okRow (y, pc, .lshl, len, (ia, ib, ic), z, sw) = true) (hstep : stepW n (Pr l n) (ent (Pr l n)) d (y, pc, .lshl, len, (ia, ib, ic), z, sw) kc ks ls st H K) : Pr l n d y pc kc ks ls st H K := by
  obtain ⟨hdec, hins, hyl⟩ := okRow_sp hw
  simp only [okIns, Bool.and_eq_true, Bool.or_eq_true, decide_eq_true_eq, beq_iff_eq] at hins
  intro p e R s m args below meth c A D ad cA HH locs cells slots lsR QF ad0 nx0 hctx hroom hnest hro hend hst hls hlv hW hS hag hnx hkc hks
  obtain ⟨hx, hb, hr, hml, hown, hts, hlk, hini, hA⟩ := id hctx
  have nxt : ∀ {pc' : Nat} {st' : List mV}, Pr l n d y pc' kc ks ls st' H K → okS H.2.2.2 st' → W p l e R s m args below meth c HH locs cells slots QF (F0 m pc' lsR (st'.map (mval ad))) := fun h ok => h p e R s m args below meth c A D ad cA HH locs cells slots lsR QF ad0 nx0 hctx hroom hnest hro hend ok hls hlv hW hS hag hnx hkc hks
  have nxtL : ∀ {pc' : Nat} {st' : List mV} {ls' : mLs} {lsR' : Array Slot}, Pr l n d y pc' kc ks ls' st' H K → okS H.2.2.2 st' → okLs H.2.2.2 ls' → lv_has lsR' (mMax y) (lvOf ad ls') → W p l e R s m args below meth c HH locs cells slots QF (F0 m pc' lsR' (st'.map (mval ad))) := fun h ok okl hl => h p e R s m args below meth c A D ad cA HH locs cells slots _ QF ad0 nx0 hctx hroom hnest hro hend ok okl hl hW hS hag hnx hkc hks
  dsimp only [stepW] at hstep
  obtain rfl := hins
  obtain ⟨a, b, r, rfl, hs⟩ := eLI_inv hstep
  have hb0 : okV H.2.2.2 (vi b) := okS_h hst
  exact lv_lshl hx hb hdec (by rw [ofInt_toInt64 hb0]) (nxt hs (okS_c trivial (okS_t (okS_t hst))))
set_option maxRecDepth 20000 in
set_option maxHeartbeats 2000000 in
theorem cl_lor {l : Launch} {n d y pc : Nat} {len ia ib ic : Nat} {z : Int} {sw : List (Int × Nat)} {kc ks : Nat} {ls : mLs} {st : List mV} {H : mH} {K : mK} (hw : okRow (y, pc, .lor, len, (ia, ib, ic), z, sw) = true) (hstep : stepW n (Pr l n) (ent (Pr l n)) d (y, pc, .lor, len, (ia, ib, ic), z, sw) kc ks ls st H K) : Pr l n d y pc kc ks ls st H K := by
  obtain ⟨hdec, hins, hyl⟩ := okRow_sp hw
  simp only [okIns, Bool.and_eq_true, Bool.or_eq_true, decide_eq_true_eq, beq_iff_eq] at hins
  intro p e R s m args below meth c A D ad cA HH locs cells slots lsR QF ad0 nx0 hctx hroom hnest hro hend hst hls hlv hW hS hag hnx hkc hks
  obtain ⟨hx, hb, hr, hml, hown, hts, hlk, hini, hA⟩ := id hctx
  have nxt : ∀ {pc' : Nat} {st' : List mV}, Pr l n d y pc' kc ks ls st' H K → okS H.2.2.2 st' → W p l e R s m args below meth c HH locs cells slots QF (F0 m pc' lsR (st'.map (mval ad))) := fun h ok => h p e R s m args below meth c A D ad cA HH locs cells slots lsR QF ad0 nx0 hctx hroom hnest hro hend ok hls hlv hW hS hag hnx hkc hks
  have nxtL : ∀ {pc' : Nat} {st' : List mV} {ls' : mLs} {lsR' : Array Slot}, Pr l n d y pc' kc ks ls' st' H K → okS H.2.2.2 st' → okLs H.2.2.2 ls' → lv_has lsR' (mMax y) (lvOf ad ls') → W p l e R s m args below meth c HH locs cells slots QF (F0 m pc' lsR' (st'.map (mval ad))) := fun h ok okl hl => h p e R s m args below meth c A D ad cA HH locs cells slots _ QF ad0 nx0 hctx hroom hnest hro hend ok okl hl hW hS hag hnx hkc hks
  dsimp only [stepW] at hstep
  obtain rfl := hins
  obtain ⟨a, b, r, rfl, hs⟩ := eLL_inv hstep
  exact lv_lor hx hb hdec (nxt hs (okS_c trivial (okS_t (okS_t hst))))
set_option maxRecDepth 20000 in
set_option maxHeartbeats 2000000 in
theorem cl_land {l : Launch} {n d y pc : Nat} {len ia ib ic : Nat} {z : Int} {sw : List (Int × Nat)} {kc ks : Nat} {ls : mLs} {st : List mV} {H : mH} {K : mK} (hw : okRow (y, pc, .land, len, (ia, ib, ic), z, sw) = true) (hstep : stepW n (Pr l n) (ent (Pr l n)) d (y, pc, .land, len, (ia, ib, ic), z, sw) kc ks ls st H K) : Pr l n d y pc kc ks ls st H K := by
  obtain ⟨hdec, hins, hyl⟩ := okRow_sp hw
  simp only [okIns, Bool.and_eq_true, Bool.or_eq_true, decide_eq_true_eq, beq_iff_eq] at hins
  intro p e R s m args below meth c A D ad cA HH locs cells slots lsR QF ad0 nx0 hctx hroom hnest hro hend hst hls hlv hW hS hag hnx hkc hks
  obtain ⟨hx, hb, hr, hml, hown, hts, hlk, hini, hA⟩ := id hctx
  have nxt : ∀ {pc' : Nat} {st' : List mV}, Pr l n d y pc' kc ks ls st' H K → okS H.2.2.2 st' → W p l e R s m args below meth c HH locs cells slots QF (F0 m pc' lsR (st'.map (mval ad))) := fun h ok => h p e R s m args below meth c A D ad cA HH locs cells slots lsR QF ad0 nx0 hctx hroom hnest hro hend ok hls hlv hW hS hag hnx hkc hks
  have nxtL : ∀ {pc' : Nat} {st' : List mV} {ls' : mLs} {lsR' : Array Slot}, Pr l n d y pc' kc ks ls' st' H K → okS H.2.2.2 st' → okLs H.2.2.2 ls' → lv_has lsR' (mMax y) (lvOf ad ls') → W p l e R s m args below meth c HH locs cells slots QF (F0 m pc' lsR' (st'.map (mval ad))) := fun h ok okl hl => h p e R s m args below meth c A D ad cA HH locs cells slots _ QF ad0 nx0 hctx hroom hnest hro hend ok okl hl hW hS hag hnx hkc hks
  dsimp only [stepW] at hstep
  obtain rfl := hins
  obtain ⟨a, b, r, rfl, hs⟩ := eLL_inv hstep
  exact lv_land hx hb hdec (nxt hs (okS_c trivial (okS_t (okS_t hst))))
set_option maxRecDepth 20000 in
set_option maxHeartbeats 2000000 in
theorem cl_dup {l : Launch} {n d y pc : Nat} {len ia ib ic : Nat} {z : Int} {sw : List (Int × Nat)} {kc ks : Nat} {ls : mLs} {st : List mV} {H : mH} {K : mK} (hw : okRow (y, pc, .dup, len, (ia, ib, ic), z, sw) = true) (hstep : stepW n (Pr l n) (ent (Pr l n)) d (y, pc, .dup, len, (ia, ib, ic), z, sw) kc ks ls st H K) : Pr l n d y pc kc ks ls st H K := by
  obtain ⟨hdec, hins, hyl⟩ := okRow_sp hw
  simp only [okIns, Bool.and_eq_true, Bool.or_eq_true, decide_eq_true_eq, beq_iff_eq] at hins
  intro p e R s m args below meth c A D ad cA HH locs cells slots lsR QF ad0 nx0 hctx hroom hnest hro hend hst hls hlv hW hS hag hnx hkc hks
  obtain ⟨hx, hb, hr, hml, hown, hts, hlk, hini, hA⟩ := id hctx
  have nxt : ∀ {pc' : Nat} {st' : List mV}, Pr l n d y pc' kc ks ls st' H K → okS H.2.2.2 st' → W p l e R s m args below meth c HH locs cells slots QF (F0 m pc' lsR (st'.map (mval ad))) := fun h ok => h p e R s m args below meth c A D ad cA HH locs cells slots lsR QF ad0 nx0 hctx hroom hnest hro hend ok hls hlv hW hS hag hnx hkc hks
  have nxtL : ∀ {pc' : Nat} {st' : List mV} {ls' : mLs} {lsR' : Array Slot}, Pr l n d y pc' kc ks ls' st' H K → okS H.2.2.2 st' → okLs H.2.2.2 ls' → lv_has lsR' (mMax y) (lvOf ad ls') → W p l e R s m args below meth c HH locs cells slots QF (F0 m pc' lsR' (st'.map (mval ad))) := fun h ok okl hl => h p e R s m args below meth c A D ad cA HH locs cells slots _ QF ad0 nx0 hctx hroom hnest hro hend ok okl hl hW hS hag hnx hkc hks
  dsimp only [stepW] at hstep
  obtain rfl := hins
  obtain ⟨v, r, rfl, hc, hs⟩ := eD_inv hstep
  exact lv_dup hx hb hdec (isC1_cat hc) (nxt hs (okS_c (okS_h hst) hst))
set_option maxRecDepth 20000 in
set_option maxHeartbeats 2000000 in
theorem cl_dup2 {l : Launch} {n d y pc : Nat} {len ia ib ic : Nat} {z : Int} {sw : List (Int × Nat)} {kc ks : Nat} {ls : mLs} {st : List mV} {H : mH} {K : mK} (hw : okRow (y, pc, .dup2, len, (ia, ib, ic), z, sw) = true) (hstep : stepW n (Pr l n) (ent (Pr l n)) d (y, pc, .dup2, len, (ia, ib, ic), z, sw) kc ks ls st H K) : Pr l n d y pc kc ks ls st H K := by
  obtain ⟨hdec, hins, hyl⟩ := okRow_sp hw
  simp only [okIns, Bool.and_eq_true, Bool.or_eq_true, decide_eq_true_eq, beq_iff_eq] at hins
  intro p e R s m args below meth c A D ad cA HH locs cells slots lsR QF ad0 nx0 hctx hroom hnest hro hend hst hls hlv hW hS hag hnx hkc hks
  obtain ⟨hx, hb, hr, hml, hown, hts, hlk, hini, hA⟩ := id hctx
  have nxt : ∀ {pc' : Nat} {st' : List mV}, Pr l n d y pc' kc ks ls st' H K → okS H.2.2.2 st' → W p l e R s m args below meth c HH locs cells slots QF (F0 m pc' lsR (st'.map (mval ad))) := fun h ok => h p e R s m args below meth c A D ad cA HH locs cells slots lsR QF ad0 nx0 hctx hroom hnest hro hend ok hls hlv hW hS hag hnx hkc hks
  have nxtL : ∀ {pc' : Nat} {st' : List mV} {ls' : mLs} {lsR' : Array Slot}, Pr l n d y pc' kc ks ls' st' H K → okS H.2.2.2 st' → okLs H.2.2.2 ls' → lv_has lsR' (mMax y) (lvOf ad ls') → W p l e R s m args below meth c HH locs cells slots QF (F0 m pc' lsR' (st'.map (mval ad))) := fun h ok okl hl => h p e R s m args below meth c A D ad cA HH locs cells slots _ QF ad0 nx0 hctx hroom hnest hro hend ok okl hl hW hS hag hnx hkc hks
  dsimp only [stepW] at hstep
  obtain rfl := hins
  obtain ⟨v, w, r, rfl, hc, hc2, hs⟩ := eDD_inv hstep
  exact lv_dup2_11 hx hb hdec (isC1_cat hc) (isC1_cat hc2) (nxt hs (okS_c (okS_h hst) (okS_c (okS_h (okS_t hst)) hst)))
set_option maxRecDepth 20000 in
set_option maxHeartbeats 2000000 in
theorem cl_pop {l : Launch} {n d y pc : Nat} {len ia ib ic : Nat} {z : Int} {sw : List (Int × Nat)} {kc ks : Nat} {ls : mLs} {st : List mV} {H : mH} {K : mK} (hw : okRow (y, pc, .pop, len, (ia, ib, ic), z, sw) = true) (hstep : stepW n (Pr l n) (ent (Pr l n)) d (y, pc, .pop, len, (ia, ib, ic), z, sw) kc ks ls st H K) : Pr l n d y pc kc ks ls st H K := by
  obtain ⟨hdec, hins, hyl⟩ := okRow_sp hw
  simp only [okIns, Bool.and_eq_true, Bool.or_eq_true, decide_eq_true_eq, beq_iff_eq] at hins
  intro p e R s m args below meth c A D ad cA HH locs cells slots lsR QF ad0 nx0 hctx hroom hnest hro hend hst hls hlv hW hS hag hnx hkc hks
  obtain ⟨hx, hb, hr, hml, hown, hts, hlk, hini, hA⟩ := id hctx
  have nxt : ∀ {pc' : Nat} {st' : List mV}, Pr l n d y pc' kc ks ls st' H K → okS H.2.2.2 st' → W p l e R s m args below meth c HH locs cells slots QF (F0 m pc' lsR (st'.map (mval ad))) := fun h ok => h p e R s m args below meth c A D ad cA HH locs cells slots lsR QF ad0 nx0 hctx hroom hnest hro hend ok hls hlv hW hS hag hnx hkc hks
  have nxtL : ∀ {pc' : Nat} {st' : List mV} {ls' : mLs} {lsR' : Array Slot}, Pr l n d y pc' kc ks ls' st' H K → okS H.2.2.2 st' → okLs H.2.2.2 ls' → lv_has lsR' (mMax y) (lvOf ad ls') → W p l e R s m args below meth c HH locs cells slots QF (F0 m pc' lsR' (st'.map (mval ad))) := fun h ok okl hl => h p e R s m args below meth c A D ad cA HH locs cells slots _ QF ad0 nx0 hctx hroom hnest hro hend ok okl hl hW hS hag hnx hkc hks
  dsimp only [stepW] at hstep
  obtain rfl := hins
  obtain ⟨v, r, rfl, hc, hs⟩ := eD_inv hstep
  exact lv_pop hx hb hdec (isC1_cat hc) (nxt hs (okS_t hst))
set_option maxRecDepth 20000 in
set_option maxHeartbeats 2000000 in
theorem cl_ifCond {l : Launch} {n d y pc : Nat} {k : ClassFile.Cond} {off : Int} {len ia ib ic : Nat} {z : Int} {sw : List (Int × Nat)} {kc ks : Nat} {ls : mLs} {st : List mV} {H : mH} {K : mK} (hw : okRow (y, pc, .ifCond k off, len, (ia, ib, ic), z, sw) = true) (hstep : stepW n (Pr l n) (ent (Pr l n)) d (y, pc, .ifCond k off, len, (ia, ib, ic), z, sw) kc ks ls st H K) : Pr l n d y pc kc ks ls st H K := by
  obtain ⟨hdec, hins, hyl⟩ := okRow_sp hw
  simp only [okIns, Bool.and_eq_true, Bool.or_eq_true, decide_eq_true_eq, beq_iff_eq] at hins
  intro p e R s m args below meth c A D ad cA HH locs cells slots lsR QF ad0 nx0 hctx hroom hnest hro hend hst hls hlv hW hS hag hnx hkc hks
  obtain ⟨hx, hb, hr, hml, hown, hts, hlk, hini, hA⟩ := id hctx
  have nxt : ∀ {pc' : Nat} {st' : List mV}, Pr l n d y pc' kc ks ls st' H K → okS H.2.2.2 st' → W p l e R s m args below meth c HH locs cells slots QF (F0 m pc' lsR (st'.map (mval ad))) := fun h ok => h p e R s m args below meth c A D ad cA HH locs cells slots lsR QF ad0 nx0 hctx hroom hnest hro hend ok hls hlv hW hS hag hnx hkc hks
  have nxtL : ∀ {pc' : Nat} {st' : List mV} {ls' : mLs} {lsR' : Array Slot}, Pr l n d y pc' kc ks ls' st' H K → okS H.2.2.2 st' → okLs H.2.2.2 ls' → lv_has lsR' (mMax y) (lvOf ad ls') → W p l e R s m args below meth c HH locs cells slots QF (F0 m pc' lsR' (st'.map (mval ad))) := fun h ok okl hl => h p e R s m args below meth c A D ad cA HH locs cells slots _ QF ad0 nx0 hctx hroom hnest hro hend ok okl hl hW hS hag hnx hkc hks
  dsimp only [stepW] at hstep
  obtain ⟨rfl, ht⟩ := hins
  obtain ⟨x, r, rfl, hs⟩ := eI_inv hstep
  have ha : okV H.2.2.2 (vi x) := okS_h hst
  have hr2 := okS_t hst
  have e0 : (0 : Int32) = Int32.ofInt 0 := rfl
  have z0 : -2147483648 ≤ (0 : Int) ∧ (0 : Int) < 2147483648 := by omega
  cases k <;> dsimp only [cbr] at hs
  · refine lv_if_eq hx hb hdec ht (fun q => ?_) (fun q => ?_)
    · rw [if_pos ((ofInt_eq ha z0).mp q)] at hs; exact nxt hs hr2
    · rw [if_neg (fun w => q ((ofInt_eq ha z0).mpr w))] at hs; exact nxt hs hr2
  · refine lv_if_ne hx hb hdec ht (fun q => ?_) (fun q => ?_)
    · rw [if_neg (fun w => q ((ofInt_eq ha z0).mpr w))] at hs; exact nxt hs hr2
    · rw [if_pos ((ofInt_eq ha z0).mp q)] at hs; exact nxt hs hr2
  · refine lv_if_lt hx hb hdec ht (fun q => ?_) (fun q => ?_)
    · rw [if_pos ((ofInt_lt ha z0).mp q)] at hs; exact nxt hs hr2
    · rw [if_neg (fun w => q ((ofInt_lt ha z0).mpr w))] at hs; exact nxt hs hr2
  · refine lv_if_ge hx hb hdec ht (fun q => ?_) (fun q => ?_)
    · rw [if_neg (Int.not_lt.mpr ((ofInt_le z0 ha).mp q))] at hs; exact nxt hs hr2
    · rw [if_pos (Int.not_le.mp (fun w => q ((ofInt_le z0 ha).mpr w)))] at hs; exact nxt hs hr2
  · refine lv_if_gt hx hb hdec ht (fun q => ?_) (fun q => ?_)
    · rw [if_pos ((ofInt_lt z0 ha).mp q)] at hs; exact nxt hs hr2
    · rw [if_neg (fun w => q ((ofInt_lt z0 ha).mpr w))] at hs; exact nxt hs hr2
  · refine lv_if_le hx hb hdec ht (fun q => ?_) (fun q => ?_)
    · rw [if_neg (Int.not_lt.mpr ((ofInt_le ha z0).mp q))] at hs; exact nxt hs hr2
    · rw [if_pos (Int.not_le.mp (fun w => q ((ofInt_le ha z0).mpr w)))] at hs; exact nxt hs hr2
set_option maxRecDepth 20000 in
set_option maxHeartbeats 2000000 in
theorem cl_if_icmp {l : Launch} {n d y pc : Nat} {k : ClassFile.Cond} {off : Int} {len ia ib ic : Nat} {z : Int} {sw : List (Int × Nat)} {kc ks : Nat} {ls : mLs} {st : List mV} {H : mH} {K : mK} (hw : okRow (y, pc, .if_icmp k off, len, (ia, ib, ic), z, sw) = true) (hstep : stepW n (Pr l n) (ent (Pr l n)) d (y, pc, .if_icmp k off, len, (ia, ib, ic), z, sw) kc ks ls st H K) : Pr l n d y pc kc ks ls st H K := by
  obtain ⟨hdec, hins, hyl⟩ := okRow_sp hw
  simp only [okIns, Bool.and_eq_true, Bool.or_eq_true, decide_eq_true_eq, beq_iff_eq] at hins
  intro p e R s m args below meth c A D ad cA HH locs cells slots lsR QF ad0 nx0 hctx hroom hnest hro hend hst hls hlv hW hS hag hnx hkc hks
  obtain ⟨hx, hb, hr, hml, hown, hts, hlk, hini, hA⟩ := id hctx
  have nxt : ∀ {pc' : Nat} {st' : List mV}, Pr l n d y pc' kc ks ls st' H K → okS H.2.2.2 st' → W p l e R s m args below meth c HH locs cells slots QF (F0 m pc' lsR (st'.map (mval ad))) := fun h ok => h p e R s m args below meth c A D ad cA HH locs cells slots lsR QF ad0 nx0 hctx hroom hnest hro hend ok hls hlv hW hS hag hnx hkc hks
  have nxtL : ∀ {pc' : Nat} {st' : List mV} {ls' : mLs} {lsR' : Array Slot}, Pr l n d y pc' kc ks ls' st' H K → okS H.2.2.2 st' → okLs H.2.2.2 ls' → lv_has lsR' (mMax y) (lvOf ad ls') → W p l e R s m args below meth c HH locs cells slots QF (F0 m pc' lsR' (st'.map (mval ad))) := fun h ok okl hl => h p e R s m args below meth c A D ad cA HH locs cells slots _ QF ad0 nx0 hctx hroom hnest hro hend ok okl hl hW hS hag hnx hkc hks
  dsimp only [stepW] at hstep
  obtain ⟨rfl, ht⟩ := hins
  obtain ⟨a, b, r, rfl, hs⟩ := eII_inv hstep
  have ha : okV H.2.2.2 (vi a) := okS_h (okS_t hst)
  have hb0 : okV H.2.2.2 (vi b) := okS_h hst
  have hr2 := okS_t (okS_t hst)
  cases k <;> dsimp only [cbr] at hs
  · refine lv_icmp_eq hx hb hdec ht (fun q => ?_) (fun q => ?_)
    · rw [if_pos ((ofInt_eq ha hb0).mp q)] at hs; exact nxt hs hr2
    · rw [if_neg (fun w => q ((ofInt_eq ha hb0).mpr w))] at hs; exact nxt hs hr2
  · refine lv_icmp_ne hx hb hdec ht (fun q => ?_) (fun q => ?_)
    · rw [if_neg (fun w => q ((ofInt_eq ha hb0).mpr w))] at hs; exact nxt hs hr2
    · rw [if_pos ((ofInt_eq ha hb0).mp q)] at hs; exact nxt hs hr2
  · refine lv_icmp_lt hx hb hdec ht (fun q => ?_) (fun q => ?_)
    · rw [if_pos ((ofInt_lt ha hb0).mp q)] at hs; exact nxt hs hr2
    · rw [if_neg (fun w => q ((ofInt_lt ha hb0).mpr w))] at hs; exact nxt hs hr2
  · refine lv_icmp_ge hx hb hdec ht (fun q => ?_) (fun q => ?_)
    · rw [if_neg (Int.not_lt.mpr ((ofInt_le hb0 ha).mp q))] at hs; exact nxt hs hr2
    · rw [if_pos (Int.not_le.mp (fun w => q ((ofInt_le hb0 ha).mpr w)))] at hs; exact nxt hs hr2
  · refine lv_icmp_gt hx hb hdec ht (fun q => ?_) (fun q => ?_)
    · rw [if_pos ((ofInt_lt hb0 ha).mp q)] at hs; exact nxt hs hr2
    · rw [if_neg (fun w => q ((ofInt_lt hb0 ha).mpr w))] at hs; exact nxt hs hr2
  · refine lv_icmp_le hx hb hdec ht (fun q => ?_) (fun q => ?_)
    · rw [if_neg (Int.not_lt.mpr ((ofInt_le ha hb0).mp q))] at hs; exact nxt hs hr2
    · rw [if_pos (Int.not_le.mp (fun w => q ((ofInt_le ha hb0).mpr w)))] at hs; exact nxt hs hr2
set_option maxRecDepth 20000 in
set_option maxHeartbeats 2000000 in
theorem cl_goto {l : Launch} {n d y pc : Nat} {off : Int} {len ia ib ic : Nat} {z : Int} {sw : List (Int × Nat)} {kc ks : Nat} {ls : mLs} {st : List mV} {H : mH} {K : mK} (hw : okRow (y, pc, .goto off, len, (ia, ib, ic), z, sw) = true) (hstep : stepW n (Pr l n) (ent (Pr l n)) d (y, pc, .goto off, len, (ia, ib, ic), z, sw) kc ks ls st H K) : Pr l n d y pc kc ks ls st H K := by
  obtain ⟨hdec, hins, hyl⟩ := okRow_sp hw
  simp only [okIns, Bool.and_eq_true, Bool.or_eq_true, decide_eq_true_eq, beq_iff_eq] at hins
  intro p e R s m args below meth c A D ad cA HH locs cells slots lsR QF ad0 nx0 hctx hroom hnest hro hend hst hls hlv hW hS hag hnx hkc hks
  obtain ⟨hx, hb, hr, hml, hown, hts, hlk, hini, hA⟩ := id hctx
  have nxt : ∀ {pc' : Nat} {st' : List mV}, Pr l n d y pc' kc ks ls st' H K → okS H.2.2.2 st' → W p l e R s m args below meth c HH locs cells slots QF (F0 m pc' lsR (st'.map (mval ad))) := fun h ok => h p e R s m args below meth c A D ad cA HH locs cells slots lsR QF ad0 nx0 hctx hroom hnest hro hend ok hls hlv hW hS hag hnx hkc hks
  have nxtL : ∀ {pc' : Nat} {st' : List mV} {ls' : mLs} {lsR' : Array Slot}, Pr l n d y pc' kc ks ls' st' H K → okS H.2.2.2 st' → okLs H.2.2.2 ls' → lv_has lsR' (mMax y) (lvOf ad ls') → W p l e R s m args below meth c HH locs cells slots QF (F0 m pc' lsR' (st'.map (mval ad))) := fun h ok okl hl => h p e R s m args below meth c A D ad cA HH locs cells slots _ QF ad0 nx0 hctx hroom hnest hro hend ok okl hl hW hS hag hnx hkc hks
  dsimp only [stepW] at hstep
  obtain ⟨rfl, ht⟩ := hins
  exact lv_goto hx hb hdec ht (nxt hstep hst)
set_option maxRecDepth 20000 in
set_option maxHeartbeats 2000000 in
theorem cl_ifnonnull {l : Launch} {n d y pc : Nat} {off : Int} {len ia ib ic : Nat} {z : Int} {sw : List (Int × Nat)} {kc ks : Nat} {ls : mLs} {st : List mV} {H : mH} {K : mK} (hw : okRow (y, pc, .ifnonnull off, len, (ia, ib, ic), z, sw) = true) (hstep : stepW n (Pr l n) (ent (Pr l n)) d (y, pc, .ifnonnull off, len, (ia, ib, ic), z, sw) kc ks ls st H K) : Pr l n d y pc kc ks ls st H K := by
  obtain ⟨hdec, hins, hyl⟩ := okRow_sp hw
  simp only [okIns, Bool.and_eq_true, Bool.or_eq_true, decide_eq_true_eq, beq_iff_eq] at hins
  intro p e R s m args below meth c A D ad cA HH locs cells slots lsR QF ad0 nx0 hctx hroom hnest hro hend hst hls hlv hW hS hag hnx hkc hks
  obtain ⟨hx, hb, hr, hml, hown, hts, hlk, hini, hA⟩ := id hctx
  have nxt : ∀ {pc' : Nat} {st' : List mV}, Pr l n d y pc' kc ks ls st' H K → okS H.2.2.2 st' → W p l e R s m args below meth c HH locs cells slots QF (F0 m pc' lsR (st'.map (mval ad))) := fun h ok => h p e R s m args below meth c A D ad cA HH locs cells slots lsR QF ad0 nx0 hctx hroom hnest hro hend ok hls hlv hW hS hag hnx hkc hks
  have nxtL : ∀ {pc' : Nat} {st' : List mV} {ls' : mLs} {lsR' : Array Slot}, Pr l n d y pc' kc ks ls' st' H K → okS H.2.2.2 st' → okLs H.2.2.2 ls' → lv_has lsR' (mMax y) (lvOf ad ls') → W p l e R s m args below meth c HH locs cells slots QF (F0 m pc' lsR' (st'.map (mval ad))) := fun h ok okl hl => h p e R s m args below meth c A D ad cA HH locs cells slots _ QF ad0 nx0 hctx hroom hnest hro hend ok okl hl hW hS hag hnx hkc hks
  dsimp only [stepW] at hstep
  obtain ⟨rfl, ht⟩ := hins
  obtain ⟨x, r, rfl, hs⟩ := eR_inv hstep
  cases x with
  | none => exact lv_ifnonnullN hx hb hdec (nxt hs (okS_t hst))
  | some a => exact lv_ifnonnull hx hb hdec ht (nxt hs (okS_t hst))
set_option maxRecDepth 20000 in
set_option maxHeartbeats 2000000 in
theorem cl_tableswitch {l : Launch} {n d y pc : Nat} {dd lo hi : Int} {offs : Array Int} {len ia ib ic : Nat} {z : Int} {sw : List (Int × Nat)} {kc ks : Nat} {ls : mLs} {st : List mV} {H : mH} {K : mK} (hw : okRow (y, pc, .tableswitch dd lo hi offs, len, (ia, ib, ic), z, sw) = true) (hstep : stepW n (Pr l n) (ent (Pr l n)) d (y, pc, .tableswitch dd lo hi offs, len, (ia, ib, ic), z, sw) kc ks ls st H K) : Pr l n d y pc kc ks ls st H K := by
  obtain ⟨hdec, hins, hyl⟩ := okRow_sp hw
  simp only [okIns, Bool.and_eq_true, Bool.or_eq_true, decide_eq_true_eq, beq_iff_eq] at hins
  intro p e R s m args below meth c A D ad cA HH locs cells slots lsR QF ad0 nx0 hctx hroom hnest hro hend hst hls hlv hW hS hag hnx hkc hks
  obtain ⟨hx, hb, hr, hml, hown, hts, hlk, hini, hA⟩ := id hctx
  have nxt : ∀ {pc' : Nat} {st' : List mV}, Pr l n d y pc' kc ks ls st' H K → okS H.2.2.2 st' → W p l e R s m args below meth c HH locs cells slots QF (F0 m pc' lsR (st'.map (mval ad))) := fun h ok => h p e R s m args below meth c A D ad cA HH locs cells slots lsR QF ad0 nx0 hctx hroom hnest hro hend ok hls hlv hW hS hag hnx hkc hks
  have nxtL : ∀ {pc' : Nat} {st' : List mV} {ls' : mLs} {lsR' : Array Slot}, Pr l n d y pc' kc ks ls' st' H K → okS H.2.2.2 st' → okLs H.2.2.2 ls' → lv_has lsR' (mMax y) (lvOf ad ls') → W p l e R s m args below meth c HH locs cells slots QF (F0 m pc' lsR' (st'.map (mval ad))) := fun h ok okl hl => h p e R s m args below meth c A D ad cA HH locs cells slots _ QF ad0 nx0 hctx hroom hnest hro hend ok okl hl hW hS hag hnx hkc hks
  dsimp only [stepW] at hstep
  obtain ⟨⟨⟨⟨⟨ht, hn⟩, hl⟩, hall⟩, hlo⟩, hhi⟩ := hins
  obtain ⟨x, r, rfl, hs⟩ := eI_inv hstep
  have ha : okV H.2.2.2 (vi x) := okS_h hst
  have e1 : (Int32.ofInt x).toInt = x := toInt_ofInt_id ha
  have hj : ∀ j : Nat, j < offs.size → sw[j]? = some (lo + j, ((pc : Int) + offs.getD j 0).toNat) ∧ 0 ≤ (pc : Int) + offs.getD j 0 := by
    intro j hj
    have := List.all_eq_true.mp hall j (List.mem_range.mpr hj)
    simpa using this
  by_cases hin : x < lo ∨ hi < x
  · refine lv_tableOut hx hb hdec (by rw [e1]; exact hin) ht (nxt (swW_out (f := fun t => Pr l n d y t kc ks ls r H K) (lo := lo) sw (fun j q hq => ?_) (by rcases hin with h | h <;> omega) hs) (okS_t hst))
    have hlt := (List.getElem?_eq_some_iff.mp hq).1
    rw [(hj j (by omega)).1] at hq
    cases hq
    rfl
  · have h1 : ¬ x < lo := fun h => hin (Or.inl h)
    have h2 : ¬ hi < x := fun h => hin (Or.inr h)
    have hlt : (x - lo).toNat < offs.size := by omega
    obtain ⟨g1, g2⟩ := hj _ hlt
    have hget : offs[(x - lo).toNat]? = some (offs.getD (x - lo).toNat 0) := by
      rw [Array.getElem?_eq_getElem hlt]
      simp [Array.getD, hlt]
    refine lv_tableIn (tgt := ((pc : Int) + offs.getD (x - lo).toNat 0).toNat) hx hb hdec (by rw [e1]; exact h1) (by rw [e1]; exact h2) (by rw [e1]; exact hget) (by omega) (nxt (swW_in (f := fun t => Pr l n d y t kc ks ls r H K) (lo := lo) sw (fun j q hq => ?_) (x - lo).toNat g1 (by omega) hs) (okS_t hst))
    have hlt := (List.getElem?_eq_some_iff.mp hq).1
    rw [(hj j (by omega)).1] at hq
    cases hq
    rfl
set_option maxRecDepth 20000 in
set_option maxHeartbeats 2000000 in
theorem cl_lookupswitch {l : Launch} {n d y pc : Nat} {dd : Int} {ps : Array (Int × Int)} {len ia ib ic : Nat} {z : Int} {sw : List (Int × Nat)} {kc ks : Nat} {ls : mLs} {st : List mV} {H : mH} {K : mK} (hw : okRow (y, pc, .lookupswitch dd ps, len, (ia, ib, ic), z, sw) = true) (hstep : stepW n (Pr l n) (ent (Pr l n)) d (y, pc, .lookupswitch dd ps, len, (ia, ib, ic), z, sw) kc ks ls st H K) : Pr l n d y pc kc ks ls st H K := by
  obtain ⟨hdec, hins, hyl⟩ := okRow_sp hw
  simp only [okIns, Bool.and_eq_true, Bool.or_eq_true, decide_eq_true_eq, beq_iff_eq] at hins
  intro p e R s m args below meth c A D ad cA HH locs cells slots lsR QF ad0 nx0 hctx hroom hnest hro hend hst hls hlv hW hS hag hnx hkc hks
  obtain ⟨hx, hb, hr, hml, hown, hts, hlk, hini, hA⟩ := id hctx
  have nxt : ∀ {pc' : Nat} {st' : List mV}, Pr l n d y pc' kc ks ls st' H K → okS H.2.2.2 st' → W p l e R s m args below meth c HH locs cells slots QF (F0 m pc' lsR (st'.map (mval ad))) := fun h ok => h p e R s m args below meth c A D ad cA HH locs cells slots lsR QF ad0 nx0 hctx hroom hnest hro hend ok hls hlv hW hS hag hnx hkc hks
  have nxtL : ∀ {pc' : Nat} {st' : List mV} {ls' : mLs} {lsR' : Array Slot}, Pr l n d y pc' kc ks ls' st' H K → okS H.2.2.2 st' → okLs H.2.2.2 ls' → lv_has lsR' (mMax y) (lvOf ad ls') → W p l e R s m args below meth c HH locs cells slots QF (F0 m pc' lsR' (st'.map (mval ad))) := fun h ok okl hl => h p e R s m args below meth c A D ad cA HH locs cells slots _ QF ad0 nx0 hctx hroom hnest hro hend ok okl hl hW hS hag hnx hkc hks
  dsimp only [stepW] at hstep
  obtain ⟨⟨⟨ht, hl⟩, hsort⟩, hall⟩ := hins
  obtain ⟨x, r, rfl, hs⟩ := eI_inv hstep
  have ha : okV H.2.2.2 (vi x) := okS_h hst
  have e1 : (Int32.ofInt x).toInt = x := toInt_ofInt_id ha
  obtain ⟨off, tgt, h1, h2, h3⟩ := swW_look (f := fun t => Pr l n d y t kc ks ls r H K) (dd := dd) ht ps.toList sw (by rw [Array.length_toList]; exact hl) hall hs
  exact lv_lookup hx hb hdec hsort (by rw [e1]; exact h1) h2 (nxt h3 (okS_t hst))
end
section
/-! ===== the small machine's steps are the machine's: cells ===== -/
theorem TY_lo : ∀ h, h < 16 → (TY h = 105 ∨ TY h = 60 ∨ TY h = 104 ∨ TY h = 99) := by decide
theorem hi_of {h : Nat} (hh : TY h < 20 ∨ TY h = 100 ∨ TY h = 101 ∨ TY h = 102 ∨ 110 ≤ TY h) : 16 ≤ h := by
  rcases Nat.lt_or_ge h 16 with q | q
  · have := TY_lo h q
    omega
  · exact q
theorem TY_hi {h : Nat} (hh : 155 ≤ h) : TY h = 2 ∨ TY h = 100 := by
  unfold TY
  rw [List.getD_eq_getElem?_getD, List.getElem?_eq_none (show TYl.length ≤ h from hh)]
  simp only [Option.getD_none]
  split
  · exact Or.inl rfl
  · exact Or.inr rfl
theorem TY60 {h : Nat} (hh : TY h = 60) : 3 ≤ h ∧ h < 9 := by
  rcases Nat.lt_or_ge h 155 with q | q
  · exact (show ∀ h, h < 155 → TY h = 60 → 3 ≤ h ∧ h < 9 by decide) h q hh
  · have := TY_hi q
    omega
theorem TY105 {h : Nat} (hh : TY h = 105) : h < 3 := by
  rcases Nat.lt_or_ge h 155 with q | q
  · exact (show ∀ h, h < 155 → TY h = 105 → h < 3 by decide) h q hh
  · have := TY_hi q
    omega
theorem TY104 {h : Nat} (hh : TY h = 104) : 9 ≤ h ∧ h < 15 := by
  rcases Nat.lt_or_ge h 155 with q | q
  · exact (show ∀ h, h < 155 → TY h = 104 → 9 ≤ h ∧ h < 15 by decide) h q hh
  · have := TY_hi q
    omega
theorem LN_le {n h : Nat} (hh : h ≠ 0) : LN n h ≤ 600 := by
  unfold LN
  split
  · exact absurd rfl hh
  · rename_i h2 hne
    rw [List.getD_eq_getElem?_getD]
    cases hq : LNl[h]? with
    | none =>
      simp only [Option.getD_none]
      split <;> decide
    | some v =>
      have h3 : ∀ v ∈ LNl, v ≤ 600 := by decide +kernel
      exact h3 v (List.mem_of_getElem? hq)
theorem mcell_obj {n : Nat} {ad : Nat → Nat} {cA : Nat → ClassId} {H : mH} {h : Nat} (ht : TY h < 20) : mcell n ad cA H h = .inr (TY h, (List.range (clAt (TY h)).2.2).map (fldV ad H h)) := by
  unfold mcell
  rw [show Nat.blt (TY h) 20 = true from Nat.ble_eq_true_of_le ht]
theorem mcell_arr {n : Nat} {ad : Nat → Nat} {cA : Nat → ClassId} {H : mH} {h : Nat} (ht : 100 ≤ TY h) : mcell n ad cA H h = .inl (cA h, (LN n h, (arrC ad H h).2)) := by
  unfold mcell
  rw [show Nat.blt (TY h) 20 = false from by
    rw [← Bool.not_eq_true]
    intro q
    have := Nat.le_of_ble_eq_true q
    omega]
theorem mcell_int {n : Nat} {ad : Nat → Nat} {cA : Nat → ClassId} {H : mH} {h : Nat} (ht : TY h = 100 ∨ TY h = 102) : mcell n ad cA H h = .inl (cA h, (LN n h, .inl fun j => Int32.ofInt (H.1 h j))) := by
  rw [mcell_arr (by omega)]
  rcases ht with q | q <;> simp only [arrC, q]
theorem mcell_long {n : Nat} {ad : Nat → Nat} {cA : Nat → ClassId} {H : mH} {h : Nat} (ht : TY h = 101) : mcell n ad cA H h = .inl (cA h, (LN n h, .inr (.inl (H.2.1 h)))) := by
  rw [mcell_arr (by omega)]
  simp only [arrC, ht]
theorem mcell_ref {n : Nat} {ad : Nat → Nat} {cA : Nat → ClassId} {H : mH} {h : Nat} (ht : 110 ≤ TY h) : mcell n ad cA H h = .inl (cA h, (LN n h, .inr (.inr (.inr (.inr fun j => (H.2.2.1 h j).map ad))))) := by
  rw [mcell_arr (by omega)]
  unfold arrC
  split
  · omega
  · omega
  · omega
  · rfl
theorem mcell_congr {n : Nat} {ad : Nat → Nat} {cA : Nat → ClassId} {H H' : mH} {h : Nat} (h1 : H'.1 h = H.1 h) (h2 : H'.2.1 h = H.2.1 h) (h3 : H'.2.2.1 h = H.2.2.1 h) : mcell n ad cA H' h = mcell n ad cA H h := by
  unfold mcell arrC
  have : fldV ad H' h = fldV ad H h := by
    funext k
    unfold fldV
    rw [h1, h3]
  rw [this, h1, h2, h3]
theorem mws_upd {n : Nat} {ad : Nat → Nat} {cA : Nat → ClassId} {H H' : mH} {a : Nat} (ha : 16 ≤ a) (hl : a < H.2.2.2) (hnx : H'.2.2.2 = H.2.2.2) (ho : ∀ h, h ≠ a → mcell n ad cA H' h = mcell n ad cA H h) : mws n ad cA H' = (mws n ad cA H).set (a - 16) (ad a, mcell n ad cA H' a) := by
  apply List.ext_getElem?
  intro k
  by_cases hk : k = a - 16
  · subst hk
    rw [mws_at ha (by rw [hnx]; exact hl), List.getElem?_set_self (by simp [mws]; omega)]
  · rw [List.getElem?_set_ne (Ne.symm hk)]
    by_cases hlt : 16 + k < H.2.2.2
    · have e : k = (16 + k) - 16 := by omega
      rw [e, mws_at (by omega) (by rw [hnx]; exact hlt), mws_at (by omega) hlt, ho _ (by omega)]
    · rw [List.getElem?_eq_none (by simp [mws]; omega), List.getElem?_eq_none (by simp [mws]; omega)]
theorem mW_set {D : va_G} {n : Nat} {ad : Nat → Nat} {cA : Nat → ClassId} {H H' : mH} {A : Nat → Prop} {s : State} {HH HH1 : Heap} {a : Nat} {cell : va_E} (hW : mW D n ad cA H A s HH) (ha : 16 ≤ a) (hl : a < H.2.2.2) (hnx : H'.2.2.2 = H.2.2.2) (ho : ∀ h, h ≠ a → H'.1 h = H.1 h ∧ H'.2.1 h = H.2.1 h ∧ H'.2.2.1 h = H.2.2.1 h) (hok : okH H') (hc : mcell n ad cA H' a = cell) (hP : va_P D vwCl ((mws n ad cA H).set (a - 16) (ad a, cell)) HH1) (hD : va_D A ((mws n ad cA H).set (a - 16) (ad a, cell))) : mW D n ad cA H' A s HH1 := by
  have e := mws_upd (n := n) (ad := ad) (cA := cA) ha hl hnx (fun h hh => mcell_congr (ho h hh).1 (ho h hh).2.1 (ho h hh).2.2)
  rw [hc] at e
  refine ⟨by rw [e]; exact hP, by rw [e]; exact hD, hW.2.2.1, fun h h1 h2 h3 => hW.2.2.2.1 h h1 (by rw [← hnx]; exact h2) h3, hok⟩
theorem mRO_congr {n : Nat} {ad : Nat → Nat} {H H' : mH} {A : Nat → Prop} {U : State} {HH : Heap} (h1 : ∀ h, h < 16 → H'.1 h = H.1 h) (h2 : ∀ h, h < 16 → H'.2.2.1 h = H.2.2.1 h) (h : mRO n ad H A U HH) : mRO n ad H' A U HH := by
  obtain ⟨a, b, c, dd, r⟩ := h
  refine ⟨by rw [h1 0 (by omega)]; exact a, by rw [h1 1 (by omega)]; exact b, by rw [h1 2 (by omega)]; exact c, fun i hi => ?_, r⟩
  rw [h1 (3 + i) (by omega), h1 (9 + i) (by omega), h2 (3 + i) (by omega)]
  exact dd i hi
theorem up2_ne {f : Nat → Nat → Int} {a k h : Nat} {v : Int} (hh : h ≠ a) : up2 f a k v h = f h := by funext j; simp [up2, hh]
theorem up2L_ne {f : Nat → Nat → Int64} {a k h : Nat} {v : Int64} (hh : h ≠ a) : up2L f a k v h = f h := by funext j; simp [up2L, hh]
theorem up2R_ne {f : Nat → Nat → Option Nat} {a k h : Nat} {v : Option Nat} (hh : h ≠ a) : up2R f a k v h = f h := by funext j; simp [up2R, hh]
theorem okH_I {H : mH} {a k : Nat} {v : Int} (h : okH H) (ha : a < H.2.2.2) (hv : -2147483648 ≤ v ∧ v < 2147483648) : okH (up2 H.1 a k v, H.2) := by
  refine ⟨h.1, fun x j => ?_, h.2.2.1, fun x hx j => ⟨?_, (h.2.2.2 x hx j).2⟩⟩
  · show -2147483648 ≤ up2 H.1 a k v x j ∧ up2 H.1 a k v x j < 2147483648
    unfold up2; split
    · exact hv
    · exact h.2.1 x j
  · show up2 H.1 a k v x j = 0
    have hx' : H.2.2.2 ≤ x := hx
    rw [up2_ne (by omega)]
    exact (h.2.2.2 x hx j).1
theorem okH_L {H : mH} {a k : Nat} {v : Int64} (h : okH H) (ha : a < H.2.2.2) : okH (H.1, up2L H.2.1 a k v, H.2.2) := by
  refine ⟨h.1, h.2.1, h.2.2.1, fun x hx j => ⟨(h.2.2.2 x hx j).1, ?_, (h.2.2.2 x hx j).2.2⟩⟩
  show up2L H.2.1 a k v x j = 0
  have hx' : H.2.2.2 ≤ x := hx
  rw [up2L_ne (by omega)]
  exact (h.2.2.2 x hx j).2.1
theorem okH_R {H : mH} {a k : Nat} {v : Option Nat} (h : okH H) (ha : a < H.2.2.2) (hv : ∀ b, v = some b → b < H.2.2.2) : okH (H.1, H.2.1, up2R H.2.2.1 a k v, H.2.2.2) := by
  refine ⟨h.1, h.2.1, fun x j b hb => ?_, fun x hx j => ⟨(h.2.2.2 x hx j).1, (h.2.2.2 x hx j).2.1, ?_⟩⟩
  · have hb' : up2R H.2.2.1 a k v x j = some b := hb
    unfold up2R at hb'
    split at hb'
    · exact hv b hb'
    · exact h.2.2.1 x j b hb'
  · show up2R H.2.2.1 a k v x j = none
    have hx' : H.2.2.2 ≤ x := hx
    rw [up2R_ne (by omega)]
    exact (h.2.2.2 x hx j).2.2
theorem clAt_in {ci : Nat} (h : ci < 10) : vwCl[ci]? = some (clAt ci) := by
  have : ∀ ci, ci < 10 → vwCl[ci]? = some (vwCl.getD ci (RX0, TX0, 0)) := fun ci h => by
    rw [List.getD_eq_getElem?_getD, List.getElem?_eq_getElem (show ci < vwCl.length from h)]
    rfl
  exact this ci h
set_option maxRecDepth 100000 in
theorem clWs : ∀ ci, ci < 10 → ∀ w ∈ u_ws (clAt ci).1 (clAt ci).2.1 (clAt ci).2.2, w ∈ gTbl := by decide +kernel
theorem clTy : ∀ ci, ci < 10 → ∀ k, k < (clAt ci).2.2 → parseFieldDescriptor ((clAt ci).2.1 k).2.2.1 = some (tyOf ci k) := by decide +kernel
theorem clNm : ∀ ci, ci < 10 → ∀ a, a < (clAt ci).2.2 → ∀ b, b < (clAt ci).2.2 → a ≠ b → ((clAt ci).2.1 a).2.1 ≠ ((clAt ci).2.1 b).2.1 := by decide +kernel
def fkT (t : FieldType) : Nat := match t with
  | .int => 0
  | .boolean => 2
  | .object _ => 1
  | .array _ => 1
  | _ => 9
theorem clKd : ∀ ci, ci < 10 → ∀ k, k < (clAt ci).2.2 → fkP ((clAt ci).2.1 k).2.2.1 = fkT (tyOf ci k) ∧ fkG ((clAt ci).2.1 k).2.2.1 = fkT (tyOf ci k) % 2 := by decide +kernel
theorem fkP_le (d : String) : fkP d ≤ 2 := by unfold fkP; split <;> omega
theorem fld_int {ad : Nat → Nat} {H : mH} {a k : Nat} (h : fkG ((clAt (TY a)).2.1 k).2.2.1 = 0) : fldV ad H a k = mval ad (vi (H.1 a k)) := by unfold fldV; rw [h]; rfl
theorem fld_ref {ad : Nat → Nat} {H : mH} {a k : Nat} (h : fkG ((clAt (TY a)).2.1 k).2.2.1 = 1) : fldV ad H a k = mval ad (vr (H.2.2.1 a k)) := by unfold fldV; rw [h]; exact va_rf_map ad _
theorem flds_set {ad : Nat → Nat} {H H' : mH} {a k N : Nat} {v : Value} (hk : fldV ad H' a k = v) (ho : ∀ j, j ≠ k → fldV ad H' a j = fldV ad H a j) : (List.range N).map (fldV ad H' a) = ((List.range N).map (fldV ad H a)).set k v := by
  apply List.ext_getElem?
  intro j
  by_cases hj : j = k
  · subst hj
    by_cases hl : j < N
    · rw [List.getElem?_set_self (by simpa using hl)]
      simp [hl, hk]
    · rw [List.getElem?_eq_none (by simpa using hl), List.getElem?_eq_none (by simpa using hl)]
  · rw [List.getElem?_set_ne (Ne.symm hj)]
    by_cases hl : j < N
    · simp [hl, ho j hj]
    · rw [List.getElem?_eq_none (by simpa using hl), List.getElem?_eq_none (by simpa using hl)]
theorem b01 {v : Int} (h : v = 0 ∨ v = 1) : narrow .boolean (.int (Int32.ofInt v)) = .int (Int32.ofInt v) ∧ fits .boolean (.int (Int32.ofInt v)) = true ∧ vp_nar .boolean (Int32.ofInt v) = Int32.ofInt v := by
  rcases h with rfl | rfl <;> exact ⟨by decide, by decide, by decide⟩
set_option maxRecDepth 20000 in
set_option maxHeartbeats 2000000 in
theorem cl_getfield {l : Launch} {n d y pc : Nat} {i : Nat} {len ia ib ic : Nat} {z : Int} {sw : List (Int × Nat)} {kc ks : Nat} {ls : mLs} {st : List mV} {H : mH} {K : mK} (hw : okRow (y, pc, .getfield i, len, (ia, ib, ic), z, sw) = true) (hstep : stepW n (Pr l n) (ent (Pr l n)) d (y, pc, .getfield i, len, (ia, ib, ic), z, sw) kc ks ls st H K) : Pr l n d y pc kc ks ls st H K := by
  obtain ⟨hdec, hins, hyl⟩ := okRow_sp hw
  simp only [okIns, Bool.and_eq_true, Bool.or_eq_true, decide_eq_true_eq, beq_iff_eq] at hins
  intro p e R s m args below meth c A D ad cA HH locs cells slots lsR QF ad0 nx0 hctx hroom hnest hro hend hst hls hlv hW hS hag hnx hkc hks
  obtain ⟨hx, hb, hr, hml, hown, hts, hlk, hini, hA⟩ := id hctx
  have nxt : ∀ {pc' : Nat} {st' : List mV}, Pr l n d y pc' kc ks ls st' H K → okS H.2.2.2 st' → W p l e R s m args below meth c HH locs cells slots QF (F0 m pc' lsR (st'.map (mval ad))) := fun h ok => h p e R s m args below meth c A D ad cA HH locs cells slots lsR QF ad0 nx0 hctx hroom hnest hro hend ok hls hlv hW hS hag hnx hkc hks
  have nxtL : ∀ {pc' : Nat} {st' : List mV} {ls' : mLs} {lsR' : Array Slot}, Pr l n d y pc' kc ks ls' st' H K → okS H.2.2.2 st' → okLs H.2.2.2 ls' → lv_has lsR' (mMax y) (lvOf ad ls') → W p l e R s m args below meth c HH locs cells slots QF (F0 m pc' lsR' (st'.map (mval ad))) := fun h ok okl hl => h p e R s m args below meth c A D ad cA HH locs cells slots _ QF ad0 nx0 hctx hroom hnest hro hend ok okl hl hW hS hag hnx hkc hks
  dsimp only [stepW] at hstep
  have nxtH : ∀ {pc' : Nat} {st' : List mV} {H' : mH} {HH1 : Heap} {locs1 : List Loc}, Pr l n d y pc' kc ks ls st' H' K → okS H.2.2.2 st' → H'.2.2.2 = H.2.2.2 → (∀ h, h < 16 → H'.1 h = H.1 h) → (∀ h, h < 16 → H'.2.2.1 h = H.2.2.1 h) → mW D n ad cA H' A s HH1 → va_S A s.heap HH1 locs1 → W p l e R s m args below meth c HH1 locs1 cells slots QF (F0 m pc' lsR (st'.map (mval ad))) := fun h ok e1 e2 e3 hW' hS' => h p e R s m args below meth c A D ad cA _ _ cells slots lsR QF ad0 nx0 hctx hroom hnest (mRO_congr e2 e3 hro) hend (by rw [e1]; exact ok) (by rw [e1]; exact hls) hlv hW' hS' (agH_H e2 e3 hag) (by rw [e1]; exact hnx) hkc hks
  obtain ⟨rfl, hins⟩ := hins
  obtain ⟨x, r, rfl, hs⟩ := eR_inv hstep
  obtain ⟨a, rfl, hs2⟩ := drf_inv hs
  obtain ⟨ht, hs3⟩ := chk_inv hs2
  have hta : TY a = ia := Nat.eq_of_beq_eq_true ht
  have hlt : a < H.2.2.2 := okS_h hst
  have hok := hW.2.2.2.2
  split at hins
  · obtain ⟨g1, g2⟩ := TY60 hta
    have e3 : 3 + (a - 3) = a := by omega
    have hq := hro.2.2.2.1 (a - 3) (by omega)
    rw [e3] at hq
    split at hins
    · simp only [Bool.and_eq_true, beq_iff_eq] at hins
      obtain ⟨rfl, hl⟩ := hins
      exact vk_getf hx hb hq.2.1 hS hown (hts _ (wAt_sp hl rfl)) (fun _ h => h) hdec (nxt hs3 (okS_c (v := vi (H.1 a 0)) (hok.2.1 a 0) (okS_t hst)))
    · simp only [Bool.and_eq_true, beq_iff_eq] at hins
      obtain ⟨⟨rfl, rfl⟩, hl⟩ := hins
      have hv := hq.2.2.1
      rw [va_rf_map] at hv
      refine vk_getf hx hb hv hS hown (hts _ (wAt_sp hl rfl)) (fun _ h => h) hdec (nxt hs3 (okS_c (v := vr (H.2.2.1 a 1)) ?_ (okS_t hst)))
      cases hz : H.2.2.1 a 1 with
      | none => trivial
      | some b => exact hok.2.2.1 a 1 b hz
  · simp only [Bool.and_eq_true, beq_iff_eq, decide_eq_true_eq] at hins
    obtain ⟨⟨⟨⟨h10, hk⟩, hown1⟩, hl⟩, hic⟩ := hins
    have h10 : ia < 10 := Nat.lt_of_succ_le (Nat.le_of_ble_eq_true h10)
    have hk : ib < (clAt ia).2.2 := Nat.lt_of_succ_le (Nat.le_of_ble_eq_true hk)
    subst hta
    have h16 := hi_of (h := a) (by omega)
    have hfs : ((List.range (clAt (TY a)).2.2).map (fldV ad H a))[ib]? = some (fldV ad H a ib) := by simp [hk]
    refine va_get (ci := TY a) (C := (clAt (TY a)).1) (T := (clAt (TY a)).2.1) (N := (clAt (TY a)).2.2) hx hb hts (clWs _ h10) hown hW.2.2.1 hW.1 (a - 16) (by rw [mws_at h16 hlt, mcell_obj (by omega)]) (clAt_in h10) ib hk (hts _ (wAt_sp hl rfl)) (by rw [hown1]; exact fun _ h => h) hfs hdec ?_
    have hkd := (clKd _ h10 ib hk).2
    split at hs3
    · rw [fld_ref (by omega)]
      refine nxt hs3 (okS_c (v := vr (H.2.2.1 a ib)) ?_ (okS_t hst))
      cases hz : H.2.2.1 a ib with
      | none => trivial
      | some b => exact hok.2.2.1 a ib b hz
    · rename_i hne
      have hne2 : ic ≠ 1 := hne
      rw [fld_int (by omega)]
      exact nxt hs3 (okS_c (v := vi (H.1 a ib)) (hok.2.1 a ib) (okS_t hst))
set_option maxRecDepth 20000 in
set_option maxHeartbeats 2000000 in
theorem cl_putfield {l : Launch} {n d y pc : Nat} {i : Nat} {len ia ib ic : Nat} {z : Int} {sw : List (Int × Nat)} {kc ks : Nat} {ls : mLs} {st : List mV} {H : mH} {K : mK} (hw : okRow (y, pc, .putfield i, len, (ia, ib, ic), z, sw) = true) (hstep : stepW n (Pr l n) (ent (Pr l n)) d (y, pc, .putfield i, len, (ia, ib, ic), z, sw) kc ks ls st H K) : Pr l n d y pc kc ks ls st H K := by
  obtain ⟨hdec, hins, hyl⟩ := okRow_sp hw
  simp only [okIns, Bool.and_eq_true, Bool.or_eq_true, decide_eq_true_eq, beq_iff_eq] at hins
  intro p e R s m args below meth c A D ad cA HH locs cells slots lsR QF ad0 nx0 hctx hroom hnest hro hend hst hls hlv hW hS hag hnx hkc hks
  obtain ⟨hx, hb, hr, hml, hown, hts, hlk, hini, hA⟩ := id hctx
  have nxt : ∀ {pc' : Nat} {st' : List mV}, Pr l n d y pc' kc ks ls st' H K → okS H.2.2.2 st' → W p l e R s m args below meth c HH locs cells slots QF (F0 m pc' lsR (st'.map (mval ad))) := fun h ok => h p e R s m args below meth c A D ad cA HH locs cells slots lsR QF ad0 nx0 hctx hroom hnest hro hend ok hls hlv hW hS hag hnx hkc hks
  have nxtL : ∀ {pc' : Nat} {st' : List mV} {ls' : mLs} {lsR' : Array Slot}, Pr l n d y pc' kc ks ls' st' H K → okS H.2.2.2 st' → okLs H.2.2.2 ls' → lv_has lsR' (mMax y) (lvOf ad ls') → W p l e R s m args below meth c HH locs cells slots QF (F0 m pc' lsR' (st'.map (mval ad))) := fun h ok okl hl => h p e R s m args below meth c A D ad cA HH locs cells slots _ QF ad0 nx0 hctx hroom hnest hro hend ok okl hl hW hS hag hnx hkc hks
  dsimp only [stepW] at hstep
  have nxtH : ∀ {pc' : Nat} {st' : List mV} {H' : mH} {HH1 : Heap} {locs1 : List Loc}, Pr l n d y pc' kc ks ls st' H' K → okS H.2.2.2 st' → H'.2.2.2 = H.2.2.2 → (∀ h, h < 16 → H'.1 h = H.1 h) → (∀ h, h < 16 → H'.2.2.1 h = H.2.2.1 h) → mW D n ad cA H' A s HH1 → va_S A s.heap HH1 locs1 → W p l e R s m args below meth c HH1 locs1 cells slots QF (F0 m pc' lsR (st'.map (mval ad))) := fun h ok e1 e2 e3 hW' hS' => h p e R s m args below meth c A D ad cA _ _ cells slots lsR QF ad0 nx0 hctx hroom hnest (mRO_congr e2 e3 hro) hend (by rw [e1]; exact ok) (by rw [e1]; exact hls) hlv hW' hS' (agH_H e2 e3 hag) (by rw [e1]; exact hnx) hkc hks
  obtain ⟨⟨⟨⟨⟨⟨rfl, h10⟩, hk⟩, hown1⟩, hl⟩, hic⟩, hfin⟩ := hins
  have h10 : ia < 10 := Nat.lt_of_succ_le (Nat.le_of_ble_eq_true h10)
  have hk : ib < (clAt ia).2.2 := Nat.lt_of_succ_le (Nat.le_of_ble_eq_true hk)
  simp only [Bool.not_eq_true', Bool.and_eq_true, decide_eq_true_eq] at hfin
  have hok := hW.2.2.2.2
  split at hstep
  · obtain ⟨x, v, r, rfl, hs⟩ := eRR_inv hstep
    obtain ⟨a, rfl, hs2⟩ := drf_inv hs
    obtain ⟨ht, hs9⟩ := chk_inv hs2
    have hta : TY a = ia := Nat.eq_of_beq_eq_true ht
    have hlt : a < H.2.2.2 := okS_h (okS_t hst)
    subst hta
    have h16 := hi_of (h := a) (by omega)
    have hkd := clKd _ h10 ib hk
    have hv : ∀ b, v = some b → b < H.2.2.2 := fun b hb => by subst hb; exact okS_h hst
    have hn1 : narrow (tyOf (TY a) ib) (mval ad (vr v)) = mval ad (vr v) ∧ fits (tyOf (TY a) ib) (mval ad (vr v)) = true := by
      have h1 : fkT (tyOf (TY a) ib) = 1 := by omega
      generalize tyOf (TY a) ib = ty at h1
      cases ty <;> first | (simp [fkT] at h1; done) | (cases v <;> exact ⟨rfl, rfl⟩)
    obtain ⟨hn1, hn2⟩ := hn1
    have e9 : mcell n ad cA (H.1, H.2.1, up2R H.2.2.1 a ib v, H.2.2.2) a = .inr (TY a, ((List.range (clAt (TY a)).2.2).map (fldV ad H a)).set ib (mval ad (vr v))) := by
      rw [mcell_obj (by omega), flds_set (k := ib) (H := H) (v := mval ad (vr v)) (by rw [fld_ref (by omega)]; simp [up2R]) (fun j hj => by unfold fldV; simp only [up2R, hj, and_false, if_false])]
    have fin : ∀ (HH1 : Heap) (locs1 : List Loc), va_P D vwCl ((mws n ad cA H).set (a - 16) (ad a, .inr (TY a, ((List.range (clAt (TY a)).2.2).map (fldV ad H a)).set ib (mval ad (vr v))))) HH1 → va_D A ((mws n ad cA H).set (a - 16) (ad a, .inr (TY a, ((List.range (clAt (TY a)).2.2).map (fldV ad H a)).set ib (mval ad (vr v))))) → va_S A s.heap HH1 locs1 → W p l e R s m args below meth c HH1 locs1 cells slots QF (F0 m (pc + 3) lsR (r.map (mval ad))) := fun HH1 locs1 hP1 hD1 hS1 => nxtH hs9 (okS_t (okS_t hst)) rfl (fun h hh => by rfl) (fun h hh => by exact up2R_ne (by omega)) (mW_set hW h16 hlt rfl (fun h hh => ⟨rfl, rfl, up2R_ne hh⟩) (okH_R hok hlt hv) e9 hP1 hD1) hS1
    by_cases hf : ((clAt (TY a)).2.1 ib).2.2.2 = true
    · have hf2 : (mNm y).name = "<init>" ∧ (clAt (TY a)).1 = mOwn y := by
        rcases hfin with q | q
        · rw [hf] at q; cases q
        · exact q
      exact va_putF (ci := TY a) (ty := tyOf (TY a) ib) (C := (clAt (TY a)).1) (T := (clAt (TY a)).2.1) (N := (clAt (TY a)).2.2) hx hb hts (clWs _ h10) (tyOf (TY a)) (clTy _ h10) (clNm _ h10) hown hW.2.2.1 hW.1 hW.2.1 hS (a - 16) (by rw [mws_at h16 hlt, mcell_obj (by omega)]) (clAt_in h10) ib hk (hts _ (wAt_sp hl rfl)) (by rw [hown1]; exact fun _ h => h) hf (hini hf2.1) (hown1.trans hf2.2) (clTy _ h10 ib hk) hn1 hn2 (by simp [hk]) hdec fin
    · exact va_put (ci := TY a) (ty := tyOf (TY a) ib) (C := (clAt (TY a)).1) (T := (clAt (TY a)).2.1) (N := (clAt (TY a)).2.2) hx hb hts (clWs _ h10) (tyOf (TY a)) (clTy _ h10) (clNm _ h10) hown hW.2.2.1 hW.1 hW.2.1 hS (a - 16) (by rw [mws_at h16 hlt, mcell_obj (by omega)]) (clAt_in h10) ib hk (hts _ (wAt_sp hl rfl)) (by rw [hown1]; exact fun _ h => h) (by simpa using hf) (clTy _ h10 ib hk) hn1 hn2 (by simp [hk]) hdec fin
  · obtain ⟨x, v, r, rfl, hs⟩ := eRI_inv hstep
    obtain ⟨a, rfl, hs2⟩ := drf_inv hs
    obtain ⟨ht, hs8⟩ := chk_inv hs2
    obtain ⟨hb01, hs9⟩ := b01W_inv hs8
    have hta : TY a = ia := Nat.eq_of_beq_eq_true ht
    have hlt : a < H.2.2.2 := okS_h (okS_t hst)
    subst hta
    have h16 := hi_of (h := a) (by omega)
    have hkd := clKd _ h10 ib hk
    have hv : -2147483648 ≤ v ∧ v < 2147483648 := okS_h hst
    have hn1 : narrow (tyOf (TY a) ib) (mval ad (vi v)) = mval ad (vi v) ∧ fits (tyOf (TY a) ib) (mval ad (vi v)) = true := by
      have h1 : fkT (tyOf (TY a) ib) = 2 := by omega
      generalize tyOf (TY a) ib = ty at h1
      cases ty <;> first | (simp [fkT] at h1; done) | exact ⟨(b01 hb01).1, (b01 hb01).2.1⟩
    obtain ⟨hn1, hn2⟩ := hn1
    have e9 : mcell n ad cA (up2 H.1 a ib v, H.2) a = .inr (TY a, ((List.range (clAt (TY a)).2.2).map (fldV ad H a)).set ib (mval ad (vi v))) := by
      rw [mcell_obj (by omega), flds_set (k := ib) (H := H) (v := mval ad (vi v)) (by rw [fld_int (by omega)]; simp [up2]) (fun j hj => by unfold fldV; simp only [up2, hj, and_false, if_false])]
    have fin : ∀ (HH1 : Heap) (locs1 : List Loc), va_P D vwCl ((mws n ad cA H).set (a - 16) (ad a, .inr (TY a, ((List.range (clAt (TY a)).2.2).map (fldV ad H a)).set ib (mval ad (vi v))))) HH1 → va_D A ((mws n ad cA H).set (a - 16) (ad a, .inr (TY a, ((List.range (clAt (TY a)).2.2).map (fldV ad H a)).set ib (mval ad (vi v))))) → va_S A s.heap HH1 locs1 → W p l e R s m args below meth c HH1 locs1 cells slots QF (F0 m (pc + 3) lsR (r.map (mval ad))) := fun HH1 locs1 hP1 hD1 hS1 => nxtH hs9 (okS_t (okS_t hst)) rfl (fun h hh => by exact up2_ne (by omega)) (fun h hh => by rfl) (mW_set hW h16 hlt rfl (fun h hh => ⟨up2_ne hh, rfl, rfl⟩) (okH_I hok hlt hv) e9 hP1 hD1) hS1
    by_cases hf : ((clAt (TY a)).2.1 ib).2.2.2 = true
    · have hf2 : (mNm y).name = "<init>" ∧ (clAt (TY a)).1 = mOwn y := by
        rcases hfin with q | q
        · rw [hf] at q; cases q
        · exact q
      exact va_putF (ci := TY a) (ty := tyOf (TY a) ib) (C := (clAt (TY a)).1) (T := (clAt (TY a)).2.1) (N := (clAt (TY a)).2.2) hx hb hts (clWs _ h10) (tyOf (TY a)) (clTy _ h10) (clNm _ h10) hown hW.2.2.1 hW.1 hW.2.1 hS (a - 16) (by rw [mws_at h16 hlt, mcell_obj (by omega)]) (clAt_in h10) ib hk (hts _ (wAt_sp hl rfl)) (by rw [hown1]; exact fun _ h => h) hf (hini hf2.1) (hown1.trans hf2.2) (clTy _ h10 ib hk) hn1 hn2 (by simp [hk]) hdec fin
    · exact va_put (ci := TY a) (ty := tyOf (TY a) ib) (C := (clAt (TY a)).1) (T := (clAt (TY a)).2.1) (N := (clAt (TY a)).2.2) hx hb hts (clWs _ h10) (tyOf (TY a)) (clTy _ h10) (clNm _ h10) hown hW.2.2.1 hW.1 hW.2.1 hS (a - 16) (by rw [mws_at h16 hlt, mcell_obj (by omega)]) (clAt_in h10) ib hk (hts _ (wAt_sp hl rfl)) (by rw [hown1]; exact fun _ h => h) (by simpa using hf) (clTy _ h10 ib hk) hn1 hn2 (by simp [hk]) hdec fin
  · rename_i hne1 hne2
    obtain ⟨x, v, r, rfl, hs⟩ := eRI_inv hstep
    obtain ⟨a, rfl, hs2⟩ := drf_inv hs
    obtain ⟨ht, hs9⟩ := chk_inv hs2
    have hta : TY a = ia := Nat.eq_of_beq_eq_true ht
    have hlt : a < H.2.2.2 := okS_h (okS_t hst)
    subst hta
    have h16 := hi_of (h := a) (by omega)
    have hkd := clKd _ h10 ib hk
    have hv : -2147483648 ≤ v ∧ v < 2147483648 := okS_h hst
    have hfk0 : fkT (tyOf (TY a) ib) = 0 := by
      have hn9 := fkP_le ((clAt (TY a)).2.1 ib).2.2.1
      have hne3 : ic ≠ 1 := hne1
      have hne4 : ic ≠ 2 := hne2
      omega
    have hn1 : narrow (tyOf (TY a) ib) (mval ad (vi v)) = mval ad (vi v) ∧ fits (tyOf (TY a) ib) (mval ad (vi v)) = true := by
      have h1 : fkT (tyOf (TY a) ib) ≠ 1 ∧ fkT (tyOf (TY a) ib) ≠ 2 ∧ fkT (tyOf (TY a) ib) ≠ 9 := ⟨by omega, by omega, by omega⟩
      generalize tyOf (TY a) ib = ty at h1
      cases ty <;> first | (simp [fkT] at h1; done) | exact ⟨rfl, rfl⟩
    obtain ⟨hn1, hn2⟩ := hn1
    have e9 : mcell n ad cA (up2 H.1 a ib v, H.2) a = .inr (TY a, ((List.range (clAt (TY a)).2.2).map (fldV ad H a)).set ib (mval ad (vi v))) := by
      rw [mcell_obj (by omega), flds_set (k := ib) (H := H) (v := mval ad (vi v)) (by rw [fld_int (by omega)]; simp [up2]) (fun j hj => by unfold fldV; simp only [up2, hj, and_false, if_false])]
    have fin : ∀ (HH1 : Heap) (locs1 : List Loc), va_P D vwCl ((mws n ad cA H).set (a - 16) (ad a, .inr (TY a, ((List.range (clAt (TY a)).2.2).map (fldV ad H a)).set ib (mval ad (vi v))))) HH1 → va_D A ((mws n ad cA H).set (a - 16) (ad a, .inr (TY a, ((List.range (clAt (TY a)).2.2).map (fldV ad H a)).set ib (mval ad (vi v))))) → va_S A s.heap HH1 locs1 → W p l e R s m args below meth c HH1 locs1 cells slots QF (F0 m (pc + 3) lsR (r.map (mval ad))) := fun HH1 locs1 hP1 hD1 hS1 => nxtH hs9 (okS_t (okS_t hst)) rfl (fun h hh => by exact up2_ne (by omega)) (fun h hh => by rfl) (mW_set hW h16 hlt rfl (fun h hh => ⟨up2_ne hh, rfl, rfl⟩) (okH_I hok hlt hv) e9 hP1 hD1) hS1
    by_cases hf : ((clAt (TY a)).2.1 ib).2.2.2 = true
    · have hf2 : (mNm y).name = "<init>" ∧ (clAt (TY a)).1 = mOwn y := by
        rcases hfin with q | q
        · rw [hf] at q; cases q
        · exact q
      exact va_putF (ci := TY a) (ty := tyOf (TY a) ib) (C := (clAt (TY a)).1) (T := (clAt (TY a)).2.1) (N := (clAt (TY a)).2.2) hx hb hts (clWs _ h10) (tyOf (TY a)) (clTy _ h10) (clNm _ h10) hown hW.2.2.1 hW.1 hW.2.1 hS (a - 16) (by rw [mws_at h16 hlt, mcell_obj (by omega)]) (clAt_in h10) ib hk (hts _ (wAt_sp hl rfl)) (by rw [hown1]; exact fun _ h => h) hf (hini hf2.1) (hown1.trans hf2.2) (clTy _ h10 ib hk) hn1 hn2 (by simp [hk]) hdec fin
    · exact va_put (ci := TY a) (ty := tyOf (TY a) ib) (C := (clAt (TY a)).1) (T := (clAt (TY a)).2.1) (N := (clAt (TY a)).2.2) hx hb hts (clWs _ h10) (tyOf (TY a)) (clTy _ h10) (clNm _ h10) hown hW.2.2.1 hW.1 hW.2.1 hS (a - 16) (by rw [mws_at h16 hlt, mcell_obj (by omega)]) (clAt_in h10) ib hk (hts _ (wAt_sp hl rfl)) (by rw [hown1]; exact fun _ h => h) (by simpa using hf) (clTy _ h10 ib hk) hn1 hn2 (by simp [hk]) hdec fin
set_option maxRecDepth 20000 in
set_option maxHeartbeats 2000000 in
theorem cl_arraylength {l : Launch} {n d y pc : Nat} {len ia ib ic : Nat} {z : Int} {sw : List (Int × Nat)} {kc ks : Nat} {ls : mLs} {st : List mV} {H : mH} {K : mK} (hw : okRow (y, pc, .arraylength, len, (ia, ib, ic), z, sw) = true) (hstep : stepW n (Pr l n) (ent (Pr l n)) d (y, pc, .arraylength, len, (ia, ib, ic), z, sw) kc ks ls st H K) : Pr l n d y pc kc ks ls st H K := by
  obtain ⟨hdec, hins, hyl⟩ := okRow_sp hw
  simp only [okIns, Bool.and_eq_true, Bool.or_eq_true, decide_eq_true_eq, beq_iff_eq] at hins
  intro p e R s m args below meth c A D ad cA HH locs cells slots lsR QF ad0 nx0 hctx hroom hnest hro hend hst hls hlv hW hS hag hnx hkc hks
  obtain ⟨hx, hb, hr, hml, hown, hts, hlk, hini, hA⟩ := id hctx
  have nxt : ∀ {pc' : Nat} {st' : List mV}, Pr l n d y pc' kc ks ls st' H K → okS H.2.2.2 st' → W p l e R s m args below meth c HH locs cells slots QF (F0 m pc' lsR (st'.map (mval ad))) := fun h ok => h p e R s m args below meth c A D ad cA HH locs cells slots lsR QF ad0 nx0 hctx hroom hnest hro hend ok hls hlv hW hS hag hnx hkc hks
  have nxtL : ∀ {pc' : Nat} {st' : List mV} {ls' : mLs} {lsR' : Array Slot}, Pr l n d y pc' kc ks ls' st' H K → okS H.2.2.2 st' → okLs H.2.2.2 ls' → lv_has lsR' (mMax y) (lvOf ad ls') → W p l e R s m args below meth c HH locs cells slots QF (F0 m pc' lsR' (st'.map (mval ad))) := fun h ok okl hl => h p e R s m args below meth c A D ad cA HH locs cells slots _ QF ad0 nx0 hctx hroom hnest hro hend ok okl hl hW hS hag hnx hkc hks
  dsimp only [stepW] at hstep
  have nxtH : ∀ {pc' : Nat} {st' : List mV} {H' : mH} {HH1 : Heap} {locs1 : List Loc}, Pr l n d y pc' kc ks ls st' H' K → okS H.2.2.2 st' → H'.2.2.2 = H.2.2.2 → (∀ h, h < 16 → H'.1 h = H.1 h) → (∀ h, h < 16 → H'.2.2.1 h = H.2.2.1 h) → mW D n ad cA H' A s HH1 → va_S A s.heap HH1 locs1 → W p l e R s m args below meth c HH1 locs1 cells slots QF (F0 m pc' lsR (st'.map (mval ad))) := fun h ok e1 e2 e3 hW' hS' => h p e R s m args below meth c A D ad cA _ _ cells slots lsR QF ad0 nx0 hctx hroom hnest (mRO_congr e2 e3 hro) hend (by rw [e1]; exact ok) (by rw [e1]; exact hls) hlv hW' hS' (agH_H e2 e3 hag) (by rw [e1]; exact hnx) hkc hks
  obtain rfl := hins
  obtain ⟨x, r, rfl, hs⟩ := eR_inv hstep
  obtain ⟨a, rfl, hs2⟩ := drf_inv hs
  obtain ⟨ht, hs3⟩ := chk_inv hs2
  have ht : 100 ≤ TY a := Nat.le_of_ble_eq_true ht
  have hlt : a < H.2.2.2 := okS_h hst
  have hn31 := hro.2.2.2.2.2.2.2.2
  rcases Nat.lt_or_ge a 16 with hlo | h16
  · have hL : LN n a < 2147483648 := by
      rcases Nat.eq_zero_or_pos a with q | q
      · subst q; exact hn31
      · have := LN_le (n := n) (h := a) (by omega)
        omega
    have key : ∃ ty f, va_T ty (ad a) (LN n a) f A s s.heap := by
      have h3 := TY_lo a hlo
      rcases h3 with h3 | h3 | h3 | h3
      · have h4 := TY105 h3
        rcases (show a = 0 ∨ a = 1 ∨ a = 2 by omega) with rfl | rfl | rfl
        · exact ⟨_, _, hro.1⟩
        · exact ⟨_, _, hro.2.1⟩
        · exact ⟨_, _, hro.2.2.1⟩
      · omega
      · obtain ⟨g1, g2⟩ := TY104 h3
        have hq := hro.2.2.2.1 (a - 9) (by omega)
        rw [show 9 + (a - 9) = a by omega] at hq
        exact ⟨_, _, hq.2.2.2⟩
      · omega
    obtain ⟨ty, f, hT⟩ := key
    exact va_tlen hx hb hT hS (ofNat_ofInt _) hdec (nxt hs3 (okS_c (v := vi (LN n a : Int)) ⟨by omega, by omega⟩ (okS_t hst)))
  · have hL := LN_le (n := n) (h := a) (by omega)
    have hAr := hW.2.2.2.1 a h16 hlt ht
    exact va_alen (tys := [(cA a, ety a)]) hx hb ⟨hW.2.2.1.1, fun k q hq => by
      cases k with
      | zero => simp at hq; subst hq; exact hAr
      | succ k => simp at hq⟩ hW.1 (a - 16) 0 (x := (LN n a, (arrC ad H a).2)) (by rw [mws_at h16 hlt, mcell_arr ht]) (ty := ety a) rfl (v := Int32.ofInt (LN n a : Int)) (ofNat_ofInt _) hdec (nxt hs3 (okS_c (v := vi (LN n a : Int)) ⟨by omega, by omega⟩ (okS_t hst)))
set_option maxRecDepth 20000 in
set_option maxHeartbeats 2000000 in
theorem cl_iaload {l : Launch} {n d y pc : Nat} {len ia ib ic : Nat} {z : Int} {sw : List (Int × Nat)} {kc ks : Nat} {ls : mLs} {st : List mV} {H : mH} {K : mK} (hw : okRow (y, pc, .iaload, len, (ia, ib, ic), z, sw) = true) (hstep : stepW n (Pr l n) (ent (Pr l n)) d (y, pc, .iaload, len, (ia, ib, ic), z, sw) kc ks ls st H K) : Pr l n d y pc kc ks ls st H K := by
  obtain ⟨hdec, hins, hyl⟩ := okRow_sp hw
  simp only [okIns, Bool.and_eq_true, Bool.or_eq_true, decide_eq_true_eq, beq_iff_eq] at hins
  intro p e R s m args below meth c A D ad cA HH locs cells slots lsR QF ad0 nx0 hctx hroom hnest hro hend hst hls hlv hW hS hag hnx hkc hks
  obtain ⟨hx, hb, hr, hml, hown, hts, hlk, hini, hA⟩ := id hctx
  have nxt : ∀ {pc' : Nat} {st' : List mV}, Pr l n d y pc' kc ks ls st' H K → okS H.2.2.2 st' → W p l e R s m args below meth c HH locs cells slots QF (F0 m pc' lsR (st'.map (mval ad))) := fun h ok => h p e R s m args below meth c A D ad cA HH locs cells slots lsR QF ad0 nx0 hctx hroom hnest hro hend ok hls hlv hW hS hag hnx hkc hks
  have nxtL : ∀ {pc' : Nat} {st' : List mV} {ls' : mLs} {lsR' : Array Slot}, Pr l n d y pc' kc ks ls' st' H K → okS H.2.2.2 st' → okLs H.2.2.2 ls' → lv_has lsR' (mMax y) (lvOf ad ls') → W p l e R s m args below meth c HH locs cells slots QF (F0 m pc' lsR' (st'.map (mval ad))) := fun h ok okl hl => h p e R s m args below meth c A D ad cA HH locs cells slots _ QF ad0 nx0 hctx hroom hnest hro hend ok okl hl hW hS hag hnx hkc hks
  dsimp only [stepW] at hstep
  have nxtH : ∀ {pc' : Nat} {st' : List mV} {H' : mH} {HH1 : Heap} {locs1 : List Loc}, Pr l n d y pc' kc ks ls st' H' K → okS H.2.2.2 st' → H'.2.2.2 = H.2.2.2 → (∀ h, h < 16 → H'.1 h = H.1 h) → (∀ h, h < 16 → H'.2.2.1 h = H.2.2.1 h) → mW D n ad cA H' A s HH1 → va_S A s.heap HH1 locs1 → W p l e R s m args below meth c HH1 locs1 cells slots QF (F0 m pc' lsR (st'.map (mval ad))) := fun h ok e1 e2 e3 hW' hS' => h p e R s m args below meth c A D ad cA _ _ cells slots lsR QF ad0 nx0 hctx hroom hnest (mRO_congr e2 e3 hro) hend (by rw [e1]; exact ok) (by rw [e1]; exact hls) hlv hW' hS' (agH_H e2 e3 hag) (by rw [e1]; exact hnx) hkc hks
  obtain rfl := hins
  obtain ⟨x, i, r, rfl, hs⟩ := eRI_inv hstep
  obtain ⟨a, rfl, hs2⟩ := drf_inv hs
  obtain ⟨ht, hin, hs3⟩ := chk_inv hs2
  have hlt : a < H.2.2.2 := okS_h (okS_t hst)
  have hi0 : okV H.2.2.2 (vi i) := okS_h hst
  have hok := hW.2.2.2.2
  
  have hn31 := hro.2.2.2.2.2.2.2.2
  simp only [Bool.or_eq_true] at ht
  rcases ht with ht | ht
  · have ht : TY a = 100 := Nat.eq_of_beq_eq_true ht
    have h16 := hi_of (h := a) (by omega)
    have hL := LN_le (n := n) (h := a) (by omega)
    have hAr := hW.2.2.2.1 a h16 hlt (by omega)
    rw [show ety a = .int by simp [ety, ht]] at hAr
    refine va_iald (tys := [(cA a, .int)]) hx hb ⟨hW.2.2.1.1, fun k q hq => by
      cases k with
      | zero => simp at hq; subst hq; exact hAr
      | succ k => simp at hq⟩ hW.1 (a - 16) 0 (by rw [mws_at h16 hlt, mcell_int (Or.inl ht)]) rfl (in_ofInt hin (by omega)) hdec ?_
    rw [clamp_ofInt hin (by omega)]
    exact nxt hs3 (okS_c (v := vi (H.1 a i.toNat)) (hok.2.1 _ _) (okS_t (okS_t hst)))
  · have ht : TY a = 105 := Nat.eq_of_beq_eq_true ht
    have h4 := TY105 ht
    have hL : LN n a < 2147483648 := by
      rcases Nat.eq_zero_or_pos a with q | q
      · subst q; exact hn31
      · have := LN_le (n := n) (h := a) (by omega)
        omega
    have key : va_T .int (ad a) (LN n a) (fun j => .int (Int32.ofInt (H.1 a j))) A s s.heap := by
      rcases (show a = 0 ∨ a = 1 ∨ a = 2 by omega) with rfl | rfl | rfl
      · exact hro.1
      · exact hro.2.1
      · exact hro.2.2.1
    exact va_ti hx hb key hS (in_ofInt hin hL) (v := mval ad (vi (H.1 a i.toNat))) (by rw [clamp_ofInt hin hL]; rfl) hdec (nxt hs3 (okS_c (v := vi (H.1 a i.toNat)) (hok.2.1 _ _) (okS_t (okS_t hst))))
set_option maxRecDepth 20000 in
set_option maxHeartbeats 2000000 in
theorem cl_baload {l : Launch} {n d y pc : Nat} {len ia ib ic : Nat} {z : Int} {sw : List (Int × Nat)} {kc ks : Nat} {ls : mLs} {st : List mV} {H : mH} {K : mK} (hw : okRow (y, pc, .baload, len, (ia, ib, ic), z, sw) = true) (hstep : stepW n (Pr l n) (ent (Pr l n)) d (y, pc, .baload, len, (ia, ib, ic), z, sw) kc ks ls st H K) : Pr l n d y pc kc ks ls st H K := by
  obtain ⟨hdec, hins, hyl⟩ := okRow_sp hw
  simp only [okIns, Bool.and_eq_true, Bool.or_eq_true, decide_eq_true_eq, beq_iff_eq] at hins
  intro p e R s m args below meth c A D ad cA HH locs cells slots lsR QF ad0 nx0 hctx hroom hnest hro hend hst hls hlv hW hS hag hnx hkc hks
  obtain ⟨hx, hb, hr, hml, hown, hts, hlk, hini, hA⟩ := id hctx
  have nxt : ∀ {pc' : Nat} {st' : List mV}, Pr l n d y pc' kc ks ls st' H K → okS H.2.2.2 st' → W p l e R s m args below meth c HH locs cells slots QF (F0 m pc' lsR (st'.map (mval ad))) := fun h ok => h p e R s m args below meth c A D ad cA HH locs cells slots lsR QF ad0 nx0 hctx hroom hnest hro hend ok hls hlv hW hS hag hnx hkc hks
  have nxtL : ∀ {pc' : Nat} {st' : List mV} {ls' : mLs} {lsR' : Array Slot}, Pr l n d y pc' kc ks ls' st' H K → okS H.2.2.2 st' → okLs H.2.2.2 ls' → lv_has lsR' (mMax y) (lvOf ad ls') → W p l e R s m args below meth c HH locs cells slots QF (F0 m pc' lsR' (st'.map (mval ad))) := fun h ok okl hl => h p e R s m args below meth c A D ad cA HH locs cells slots _ QF ad0 nx0 hctx hroom hnest hro hend ok okl hl hW hS hag hnx hkc hks
  dsimp only [stepW] at hstep
  have nxtH : ∀ {pc' : Nat} {st' : List mV} {H' : mH} {HH1 : Heap} {locs1 : List Loc}, Pr l n d y pc' kc ks ls st' H' K → okS H.2.2.2 st' → H'.2.2.2 = H.2.2.2 → (∀ h, h < 16 → H'.1 h = H.1 h) → (∀ h, h < 16 → H'.2.2.1 h = H.2.2.1 h) → mW D n ad cA H' A s HH1 → va_S A s.heap HH1 locs1 → W p l e R s m args below meth c HH1 locs1 cells slots QF (F0 m pc' lsR (st'.map (mval ad))) := fun h ok e1 e2 e3 hW' hS' => h p e R s m args below meth c A D ad cA _ _ cells slots lsR QF ad0 nx0 hctx hroom hnest (mRO_congr e2 e3 hro) hend (by rw [e1]; exact ok) (by rw [e1]; exact hls) hlv hW' hS' (agH_H e2 e3 hag) (by rw [e1]; exact hnx) hkc hks
  obtain rfl := hins
  obtain ⟨x, i, r, rfl, hs⟩ := eRI_inv hstep
  obtain ⟨a, rfl, hs2⟩ := drf_inv hs
  obtain ⟨ht, hin, hs3⟩ := chk_inv hs2
  have hlt : a < H.2.2.2 := okS_h (okS_t hst)
  have hi0 : okV H.2.2.2 (vi i) := okS_h hst
  have hok := hW.2.2.2.2
  
  simp only [Bool.or_eq_true] at ht
  rcases ht with ht | ht
  · have ht : TY a = 102 := Nat.eq_of_beq_eq_true ht
    have h16 := hi_of (h := a) (by omega)
    have hL := LN_le (n := n) (h := a) (by omega)
    have hAr := hW.2.2.2.1 a h16 hlt (by omega)
    rw [show ety a = .boolean by simp [ety, ht]] at hAr
    refine va_zald (tys := [(cA a, .boolean)]) hx hb ⟨hW.2.2.1.1, fun k q hq => by
      cases k with
      | zero => simp at hq; subst hq; exact hAr
      | succ k => simp at hq⟩ hW.1 (a - 16) 0 (by rw [mws_at h16 hlt, mcell_int (Or.inr ht)]) rfl (in_ofInt hin (by omega)) hdec ?_
    rw [clamp_ofInt hin (by omega)]
    exact nxt hs3 (okS_c (v := vi (H.1 a i.toNat)) (hok.2.1 _ _) (okS_t (okS_t hst)))
  · have ht : TY a = 104 := Nat.eq_of_beq_eq_true ht
    obtain ⟨g1, g2⟩ := TY104 ht
    have hL := LN_le (n := n) (h := a) (by omega)
    have hq := hro.2.2.2.1 (a - 9) (by omega)
    rw [show 9 + (a - 9) = a by omega] at hq
    exact va_tb hx hb hq.2.2.2 hS (in_ofInt hin (by omega)) (v := mval ad (vi (H.1 a i.toNat))) (by rw [clamp_ofInt hin (by omega)]; rfl) hdec (nxt hs3 (okS_c (v := vi (H.1 a i.toNat)) (hok.2.1 _ _) (okS_t (okS_t hst))))
set_option maxRecDepth 20000 in
set_option maxHeartbeats 2000000 in
theorem cl_laload {l : Launch} {n d y pc : Nat} {len ia ib ic : Nat} {z : Int} {sw : List (Int × Nat)} {kc ks : Nat} {ls : mLs} {st : List mV} {H : mH} {K : mK} (hw : okRow (y, pc, .laload, len, (ia, ib, ic), z, sw) = true) (hstep : stepW n (Pr l n) (ent (Pr l n)) d (y, pc, .laload, len, (ia, ib, ic), z, sw) kc ks ls st H K) : Pr l n d y pc kc ks ls st H K := by
  obtain ⟨hdec, hins, hyl⟩ := okRow_sp hw
  simp only [okIns, Bool.and_eq_true, Bool.or_eq_true, decide_eq_true_eq, beq_iff_eq] at hins
  intro p e R s m args below meth c A D ad cA HH locs cells slots lsR QF ad0 nx0 hctx hroom hnest hro hend hst hls hlv hW hS hag hnx hkc hks
  obtain ⟨hx, hb, hr, hml, hown, hts, hlk, hini, hA⟩ := id hctx
  have nxt : ∀ {pc' : Nat} {st' : List mV}, Pr l n d y pc' kc ks ls st' H K → okS H.2.2.2 st' → W p l e R s m args below meth c HH locs cells slots QF (F0 m pc' lsR (st'.map (mval ad))) := fun h ok => h p e R s m args below meth c A D ad cA HH locs cells slots lsR QF ad0 nx0 hctx hroom hnest hro hend ok hls hlv hW hS hag hnx hkc hks
  have nxtL : ∀ {pc' : Nat} {st' : List mV} {ls' : mLs} {lsR' : Array Slot}, Pr l n d y pc' kc ks ls' st' H K → okS H.2.2.2 st' → okLs H.2.2.2 ls' → lv_has lsR' (mMax y) (lvOf ad ls') → W p l e R s m args below meth c HH locs cells slots QF (F0 m pc' lsR' (st'.map (mval ad))) := fun h ok okl hl => h p e R s m args below meth c A D ad cA HH locs cells slots _ QF ad0 nx0 hctx hroom hnest hro hend ok okl hl hW hS hag hnx hkc hks
  dsimp only [stepW] at hstep
  have nxtH : ∀ {pc' : Nat} {st' : List mV} {H' : mH} {HH1 : Heap} {locs1 : List Loc}, Pr l n d y pc' kc ks ls st' H' K → okS H.2.2.2 st' → H'.2.2.2 = H.2.2.2 → (∀ h, h < 16 → H'.1 h = H.1 h) → (∀ h, h < 16 → H'.2.2.1 h = H.2.2.1 h) → mW D n ad cA H' A s HH1 → va_S A s.heap HH1 locs1 → W p l e R s m args below meth c HH1 locs1 cells slots QF (F0 m pc' lsR (st'.map (mval ad))) := fun h ok e1 e2 e3 hW' hS' => h p e R s m args below meth c A D ad cA _ _ cells slots lsR QF ad0 nx0 hctx hroom hnest (mRO_congr e2 e3 hro) hend (by rw [e1]; exact ok) (by rw [e1]; exact hls) hlv hW' hS' (agH_H e2 e3 hag) (by rw [e1]; exact hnx) hkc hks
  obtain rfl := hins
  obtain ⟨x, i, r, rfl, hs⟩ := eRI_inv hstep
  obtain ⟨a, rfl, hs2⟩ := drf_inv hs
  obtain ⟨ht, hin, hs3⟩ := chk_inv hs2
  have hlt : a < H.2.2.2 := okS_h (okS_t hst)
  have hi0 : okV H.2.2.2 (vi i) := okS_h hst
  have hok := hW.2.2.2.2
  
  have ht : TY a = 101 := Nat.eq_of_beq_eq_true ht
  have h16 := hi_of (h := a) (by omega)
  have hL := LN_le (n := n) (h := a) (by omega)
  have hAr := hW.2.2.2.1 a h16 hlt (by omega)
  rw [show ety a = .long by simp [ety, ht]] at hAr
  refine va_lald (tys := [(cA a, .long)]) hx hb ⟨hW.2.2.1.1, fun k q hq => by
      cases k with
      | zero => simp at hq; subst hq; exact hAr
      | succ k => simp at hq⟩ hW.1 (a - 16) 0 (by rw [mws_at h16 hlt, mcell_long ht]) rfl (in_ofInt hin (by omega)) hdec ?_
  rw [clamp_ofInt hin (by omega)]
  exact nxt hs3 (okS_c (v := vl (H.2.1 a i.toNat)) trivial (okS_t (okS_t hst)))
set_option maxRecDepth 20000 in
set_option maxHeartbeats 2000000 in
theorem cl_aaload {l : Launch} {n d y pc : Nat} {len ia ib ic : Nat} {z : Int} {sw : List (Int × Nat)} {kc ks : Nat} {ls : mLs} {st : List mV} {H : mH} {K : mK} (hw : okRow (y, pc, .aaload, len, (ia, ib, ic), z, sw) = true) (hstep : stepW n (Pr l n) (ent (Pr l n)) d (y, pc, .aaload, len, (ia, ib, ic), z, sw) kc ks ls st H K) : Pr l n d y pc kc ks ls st H K := by
  obtain ⟨hdec, hins, hyl⟩ := okRow_sp hw
  simp only [okIns, Bool.and_eq_true, Bool.or_eq_true, decide_eq_true_eq, beq_iff_eq] at hins
  intro p e R s m args below meth c A D ad cA HH locs cells slots lsR QF ad0 nx0 hctx hroom hnest hro hend hst hls hlv hW hS hag hnx hkc hks
  obtain ⟨hx, hb, hr, hml, hown, hts, hlk, hini, hA⟩ := id hctx
  have nxt : ∀ {pc' : Nat} {st' : List mV}, Pr l n d y pc' kc ks ls st' H K → okS H.2.2.2 st' → W p l e R s m args below meth c HH locs cells slots QF (F0 m pc' lsR (st'.map (mval ad))) := fun h ok => h p e R s m args below meth c A D ad cA HH locs cells slots lsR QF ad0 nx0 hctx hroom hnest hro hend ok hls hlv hW hS hag hnx hkc hks
  have nxtL : ∀ {pc' : Nat} {st' : List mV} {ls' : mLs} {lsR' : Array Slot}, Pr l n d y pc' kc ks ls' st' H K → okS H.2.2.2 st' → okLs H.2.2.2 ls' → lv_has lsR' (mMax y) (lvOf ad ls') → W p l e R s m args below meth c HH locs cells slots QF (F0 m pc' lsR' (st'.map (mval ad))) := fun h ok okl hl => h p e R s m args below meth c A D ad cA HH locs cells slots _ QF ad0 nx0 hctx hroom hnest hro hend ok okl hl hW hS hag hnx hkc hks
  dsimp only [stepW] at hstep
  have nxtH : ∀ {pc' : Nat} {st' : List mV} {H' : mH} {HH1 : Heap} {locs1 : List Loc}, Pr l n d y pc' kc ks ls st' H' K → okS H.2.2.2 st' → H'.2.2.2 = H.2.2.2 → (∀ h, h < 16 → H'.1 h = H.1 h) → (∀ h, h < 16 → H'.2.2.1 h = H.2.2.1 h) → mW D n ad cA H' A s HH1 → va_S A s.heap HH1 locs1 → W p l e R s m args below meth c HH1 locs1 cells slots QF (F0 m pc' lsR (st'.map (mval ad))) := fun h ok e1 e2 e3 hW' hS' => h p e R s m args below meth c A D ad cA _ _ cells slots lsR QF ad0 nx0 hctx hroom hnest (mRO_congr e2 e3 hro) hend (by rw [e1]; exact ok) (by rw [e1]; exact hls) hlv hW' hS' (agH_H e2 e3 hag) (by rw [e1]; exact hnx) hkc hks
  obtain rfl := hins
  obtain ⟨x, i, r, rfl, hs⟩ := eRI_inv hstep
  obtain ⟨a, rfl, hs2⟩ := drf_inv hs
  obtain ⟨ht, hin, hs3⟩ := chk_inv hs2
  have hlt : a < H.2.2.2 := okS_h (okS_t hst)
  have hi0 : okV H.2.2.2 (vi i) := okS_h hst
  have hok := hW.2.2.2.2
  
  have ht : 110 ≤ TY a := Nat.le_of_ble_eq_true ht
  have h16 := hi_of (h := a) (by omega)
  have hL := LN_le (n := n) (h := a) (by omega)
  have hAr := hW.2.2.2.1 a h16 hlt (by omega)
  have hety : ety a = .object (clAt (TY a - 110)).1 := by
    unfold ety; split
    · omega
    · omega
    · omega
    · rfl
  rw [hety] at hAr
  refine va_aldq (C := (clAt (TY a - 110)).1) (tys := [(cA a, .object (clAt (TY a - 110)).1)]) hx hb ⟨hW.2.2.1.1, fun k q hq => by
      cases k with
      | zero => simp at hq; subst hq; exact hAr
      | succ k => simp at hq⟩ hW.1 (a - 16) 0 (by rw [mws_at h16 hlt, mcell_ref ht]) rfl (in_ofInt hin (by omega)) hdec ?_
  rw [clamp_ofInt hin (by omega)]
  show W p l e R s m args below meth c HH locs cells slots QF (F0 m (pc + 1) lsR (va_rf ((H.2.2.1 a i.toNat).map ad) :: r.map (mval ad)))
  rw [va_rf_map]
  refine nxt hs3 (okS_c (v := vr (H.2.2.1 a i.toNat)) ?_ (okS_t (okS_t hst)))
  cases hz : H.2.2.1 a i.toNat with
  | none => trivial
  | some b => exact hok.2.2.1 a _ b hz
set_option maxRecDepth 20000 in
set_option maxHeartbeats 2000000 in
theorem cl_iastore {l : Launch} {n d y pc : Nat} {len ia ib ic : Nat} {z : Int} {sw : List (Int × Nat)} {kc ks : Nat} {ls : mLs} {st : List mV} {H : mH} {K : mK} (hw : okRow (y, pc, .iastore, len, (ia, ib, ic), z, sw) = true) (hstep : stepW n (Pr l n) (ent (Pr l n)) d (y, pc, .iastore, len, (ia, ib, ic), z, sw) kc ks ls st H K) : Pr l n d y pc kc ks ls st H K := by
  obtain ⟨hdec, hins, hyl⟩ := okRow_sp hw
  simp only [okIns, Bool.and_eq_true, Bool.or_eq_true, decide_eq_true_eq, beq_iff_eq] at hins
  intro p e R s m args below meth c A D ad cA HH locs cells slots lsR QF ad0 nx0 hctx hroom hnest hro hend hst hls hlv hW hS hag hnx hkc hks
  obtain ⟨hx, hb, hr, hml, hown, hts, hlk, hini, hA⟩ := id hctx
  have nxt : ∀ {pc' : Nat} {st' : List mV}, Pr l n d y pc' kc ks ls st' H K → okS H.2.2.2 st' → W p l e R s m args below meth c HH locs cells slots QF (F0 m pc' lsR (st'.map (mval ad))) := fun h ok => h p e R s m args below meth c A D ad cA HH locs cells slots lsR QF ad0 nx0 hctx hroom hnest hro hend ok hls hlv hW hS hag hnx hkc hks
  have nxtL : ∀ {pc' : Nat} {st' : List mV} {ls' : mLs} {lsR' : Array Slot}, Pr l n d y pc' kc ks ls' st' H K → okS H.2.2.2 st' → okLs H.2.2.2 ls' → lv_has lsR' (mMax y) (lvOf ad ls') → W p l e R s m args below meth c HH locs cells slots QF (F0 m pc' lsR' (st'.map (mval ad))) := fun h ok okl hl => h p e R s m args below meth c A D ad cA HH locs cells slots _ QF ad0 nx0 hctx hroom hnest hro hend ok okl hl hW hS hag hnx hkc hks
  dsimp only [stepW] at hstep
  have nxtH : ∀ {pc' : Nat} {st' : List mV} {H' : mH} {HH1 : Heap} {locs1 : List Loc}, Pr l n d y pc' kc ks ls st' H' K → okS H.2.2.2 st' → H'.2.2.2 = H.2.2.2 → (∀ h, h < 16 → H'.1 h = H.1 h) → (∀ h, h < 16 → H'.2.2.1 h = H.2.2.1 h) → mW D n ad cA H' A s HH1 → va_S A s.heap HH1 locs1 → W p l e R s m args below meth c HH1 locs1 cells slots QF (F0 m pc' lsR (st'.map (mval ad))) := fun h ok e1 e2 e3 hW' hS' => h p e R s m args below meth c A D ad cA _ _ cells slots lsR QF ad0 nx0 hctx hroom hnest (mRO_congr e2 e3 hro) hend (by rw [e1]; exact ok) (by rw [e1]; exact hls) hlv hW' hS' (agH_H e2 e3 hag) (by rw [e1]; exact hnx) hkc hks
  obtain rfl := hins
  obtain ⟨x, i, v, r, rfl, hs⟩ := eRII_inv hstep
  obtain ⟨a, rfl, hs2⟩ := drf_inv hs
  obtain ⟨ht, hin, hs3⟩ := chk_inv hs2
  have hlt : a < H.2.2.2 := okS_h (okS_t (okS_t hst))
  have hok := hW.2.2.2.2
  
  have ht : TY a = 100 := Nat.eq_of_beq_eq_true ht
  have h16 := hi_of (h := a) (by omega)
  have hL := LN_le (n := n) (h := a) (by omega)
  have hAr := hW.2.2.2.1 a h16 hlt (by omega)
  rw [show ety a = .int by simp [ety, ht]] at hAr
  have hv : -2147483648 ≤ v ∧ v < 2147483648 := okS_h hst
  refine va_iast (tys := [(cA a, .int)]) hx hb ⟨hW.2.2.1.1, fun k q hq => by
      cases k with
      | zero => simp at hq; subst hq; exact hAr
      | succ k => simp at hq⟩ hW.1 hW.2.1 hS (a - 16) 0 (by rw [mws_at h16 hlt, mcell_int (Or.inl ht)]) rfl (in_ofInt hin (by omega)) hdec (fun HH1 locs1 hP1 hD1 hS1 => ?_)
  rw [clamp_ofInt hin (by omega)] at hP1 hD1
  refine nxtH hs3 (okS_t (okS_t (okS_t hst))) rfl (fun h hh => up2_ne (by omega)) (fun h hh => rfl) (mW_set hW h16 hlt rfl (fun h hh => ⟨up2_ne hh, rfl, rfl⟩) (okH_I hok hlt hv) ?_ hP1 hD1) hS1
  rw [mcell_int (Or.inl ht)]
  refine congrArg (fun f => Sum.inl (cA a, (LN n a, Sum.inl f))) (funext fun j => ?_)
  show Int32.ofInt (up2 H.1 a i.toNat v a j) = upd (fun j => Int32.ofInt (H.1 a j)) i.toNat (Int32.ofInt v) j
  unfold up2 upd
  by_cases hj : j = i.toNat <;> simp [hj]
set_option maxRecDepth 20000 in
set_option maxHeartbeats 2000000 in
theorem cl_bastore {l : Launch} {n d y pc : Nat} {len ia ib ic : Nat} {z : Int} {sw : List (Int × Nat)} {kc ks : Nat} {ls : mLs} {st : List mV} {H : mH} {K : mK} (hw : okRow (y, pc, .bastore, len, (ia, ib, ic), z, sw) = true) (hstep : stepW n (Pr l n) (ent (Pr l n)) d (y, pc, .bastore, len, (ia, ib, ic), z, sw) kc ks ls st H K) : Pr l n d y pc kc ks ls st H K := by
  obtain ⟨hdec, hins, hyl⟩ := okRow_sp hw
  simp only [okIns, Bool.and_eq_true, Bool.or_eq_true, decide_eq_true_eq, beq_iff_eq] at hins
  intro p e R s m args below meth c A D ad cA HH locs cells slots lsR QF ad0 nx0 hctx hroom hnest hro hend hst hls hlv hW hS hag hnx hkc hks
  obtain ⟨hx, hb, hr, hml, hown, hts, hlk, hini, hA⟩ := id hctx
  have nxt : ∀ {pc' : Nat} {st' : List mV}, Pr l n d y pc' kc ks ls st' H K → okS H.2.2.2 st' → W p l e R s m args below meth c HH locs cells slots QF (F0 m pc' lsR (st'.map (mval ad))) := fun h ok => h p e R s m args below meth c A D ad cA HH locs cells slots lsR QF ad0 nx0 hctx hroom hnest hro hend ok hls hlv hW hS hag hnx hkc hks
  have nxtL : ∀ {pc' : Nat} {st' : List mV} {ls' : mLs} {lsR' : Array Slot}, Pr l n d y pc' kc ks ls' st' H K → okS H.2.2.2 st' → okLs H.2.2.2 ls' → lv_has lsR' (mMax y) (lvOf ad ls') → W p l e R s m args below meth c HH locs cells slots QF (F0 m pc' lsR' (st'.map (mval ad))) := fun h ok okl hl => h p e R s m args below meth c A D ad cA HH locs cells slots _ QF ad0 nx0 hctx hroom hnest hro hend ok okl hl hW hS hag hnx hkc hks
  dsimp only [stepW] at hstep
  have nxtH : ∀ {pc' : Nat} {st' : List mV} {H' : mH} {HH1 : Heap} {locs1 : List Loc}, Pr l n d y pc' kc ks ls st' H' K → okS H.2.2.2 st' → H'.2.2.2 = H.2.2.2 → (∀ h, h < 16 → H'.1 h = H.1 h) → (∀ h, h < 16 → H'.2.2.1 h = H.2.2.1 h) → mW D n ad cA H' A s HH1 → va_S A s.heap HH1 locs1 → W p l e R s m args below meth c HH1 locs1 cells slots QF (F0 m pc' lsR (st'.map (mval ad))) := fun h ok e1 e2 e3 hW' hS' => h p e R s m args below meth c A D ad cA _ _ cells slots lsR QF ad0 nx0 hctx hroom hnest (mRO_congr e2 e3 hro) hend (by rw [e1]; exact ok) (by rw [e1]; exact hls) hlv hW' hS' (agH_H e2 e3 hag) (by rw [e1]; exact hnx) hkc hks
  obtain rfl := hins
  obtain ⟨x, i, v, r, rfl, hs⟩ := eRII_inv hstep
  obtain ⟨a, rfl, hs2⟩ := drf_inv hs
  obtain ⟨ht, hin, hs4⟩ := chk_inv hs2
  obtain ⟨hb1, hs3⟩ := b01W_inv hs4
  have hlt : a < H.2.2.2 := okS_h (okS_t (okS_t hst))
  have hok := hW.2.2.2.2
  
  have ht : TY a = 102 := Nat.eq_of_beq_eq_true ht
  have h16 := hi_of (h := a) (by omega)
  have hL := LN_le (n := n) (h := a) (by omega)
  have hAr := hW.2.2.2.1 a h16 hlt (by omega)
  rw [show ety a = .boolean by simp [ety, ht]] at hAr
  have hv : -2147483648 ≤ v ∧ v < 2147483648 := okS_h hst
  refine va_zast (tys := [(cA a, .boolean)]) hx hb ⟨hW.2.2.1.1, fun k q hq => by
      cases k with
      | zero => simp at hq; subst hq; exact hAr
      | succ k => simp at hq⟩ hW.1 hW.2.1 hS (a - 16) 0 (by rw [mws_at h16 hlt, mcell_int (Or.inr ht)]) rfl (in_ofInt hin (by omega)) hdec (fun HH1 locs1 hP1 hD1 hS1 => ?_)
  rw [clamp_ofInt hin (by omega), (b01 hb1).2.2] at hP1 hD1
  refine nxtH hs3 (okS_t (okS_t (okS_t hst))) rfl (fun h hh => up2_ne (by omega)) (fun h hh => rfl) (mW_set hW h16 hlt rfl (fun h hh => ⟨up2_ne hh, rfl, rfl⟩) (okH_I hok hlt hv) ?_ hP1 hD1) hS1
  rw [mcell_int (Or.inr ht)]
  refine congrArg (fun f => Sum.inl (cA a, (LN n a, Sum.inl f))) (funext fun j => ?_)
  show Int32.ofInt (up2 H.1 a i.toNat v a j) = upd (fun j => Int32.ofInt (H.1 a j)) i.toNat (Int32.ofInt v) j
  unfold up2 upd
  by_cases hj : j = i.toNat <;> simp [hj]
set_option maxRecDepth 20000 in
set_option maxHeartbeats 2000000 in
theorem cl_lastore {l : Launch} {n d y pc : Nat} {len ia ib ic : Nat} {z : Int} {sw : List (Int × Nat)} {kc ks : Nat} {ls : mLs} {st : List mV} {H : mH} {K : mK} (hw : okRow (y, pc, .lastore, len, (ia, ib, ic), z, sw) = true) (hstep : stepW n (Pr l n) (ent (Pr l n)) d (y, pc, .lastore, len, (ia, ib, ic), z, sw) kc ks ls st H K) : Pr l n d y pc kc ks ls st H K := by
  obtain ⟨hdec, hins, hyl⟩ := okRow_sp hw
  simp only [okIns, Bool.and_eq_true, Bool.or_eq_true, decide_eq_true_eq, beq_iff_eq] at hins
  intro p e R s m args below meth c A D ad cA HH locs cells slots lsR QF ad0 nx0 hctx hroom hnest hro hend hst hls hlv hW hS hag hnx hkc hks
  obtain ⟨hx, hb, hr, hml, hown, hts, hlk, hini, hA⟩ := id hctx
  have nxt : ∀ {pc' : Nat} {st' : List mV}, Pr l n d y pc' kc ks ls st' H K → okS H.2.2.2 st' → W p l e R s m args below meth c HH locs cells slots QF (F0 m pc' lsR (st'.map (mval ad))) := fun h ok => h p e R s m args below meth c A D ad cA HH locs cells slots lsR QF ad0 nx0 hctx hroom hnest hro hend ok hls hlv hW hS hag hnx hkc hks
  have nxtL : ∀ {pc' : Nat} {st' : List mV} {ls' : mLs} {lsR' : Array Slot}, Pr l n d y pc' kc ks ls' st' H K → okS H.2.2.2 st' → okLs H.2.2.2 ls' → lv_has lsR' (mMax y) (lvOf ad ls') → W p l e R s m args below meth c HH locs cells slots QF (F0 m pc' lsR' (st'.map (mval ad))) := fun h ok okl hl => h p e R s m args below meth c A D ad cA HH locs cells slots _ QF ad0 nx0 hctx hroom hnest hro hend ok okl hl hW hS hag hnx hkc hks
  dsimp only [stepW] at hstep
  have nxtH : ∀ {pc' : Nat} {st' : List mV} {H' : mH} {HH1 : Heap} {locs1 : List Loc}, Pr l n d y pc' kc ks ls st' H' K → okS H.2.2.2 st' → H'.2.2.2 = H.2.2.2 → (∀ h, h < 16 → H'.1 h = H.1 h) → (∀ h, h < 16 → H'.2.2.1 h = H.2.2.1 h) → mW D n ad cA H' A s HH1 → va_S A s.heap HH1 locs1 → W p l e R s m args below meth c HH1 locs1 cells slots QF (F0 m pc' lsR (st'.map (mval ad))) := fun h ok e1 e2 e3 hW' hS' => h p e R s m args below meth c A D ad cA _ _ cells slots lsR QF ad0 nx0 hctx hroom hnest (mRO_congr e2 e3 hro) hend (by rw [e1]; exact ok) (by rw [e1]; exact hls) hlv hW' hS' (agH_H e2 e3 hag) (by rw [e1]; exact hnx) hkc hks
  obtain rfl := hins
  obtain ⟨x, i, v, r, rfl, hs⟩ := eRIL_inv hstep
  obtain ⟨a, rfl, hs2⟩ := drf_inv hs
  obtain ⟨ht, hin, hs3⟩ := chk_inv hs2
  have hlt : a < H.2.2.2 := okS_h (okS_t (okS_t hst))
  have hok := hW.2.2.2.2
  
  have ht : TY a = 101 := Nat.eq_of_beq_eq_true ht
  have h16 := hi_of (h := a) (by omega)
  have hL := LN_le (n := n) (h := a) (by omega)
  have hAr := hW.2.2.2.1 a h16 hlt (by omega)
  rw [show ety a = .long by simp [ety, ht]] at hAr
  refine va_last (tys := [(cA a, .long)]) hx hb ⟨hW.2.2.1.1, fun k q hq => by
      cases k with
      | zero => simp at hq; subst hq; exact hAr
      | succ k => simp at hq⟩ hW.1 hW.2.1 hS (a - 16) 0 (by rw [mws_at h16 hlt, mcell_long ht]) rfl (in_ofInt hin (by omega)) hdec (fun HH1 locs1 hP1 hD1 hS1 => ?_)
  rw [clamp_ofInt hin (by omega)] at hP1 hD1
  refine nxtH hs3 (okS_t (okS_t (okS_t hst))) rfl (fun h hh => rfl) (fun h hh => rfl) (mW_set hW h16 hlt rfl (fun h hh => ⟨rfl, up2L_ne hh, rfl⟩) (okH_L hok hlt) ?_ hP1 hD1) hS1
  rw [mcell_long ht]
  refine congrArg (fun f => Sum.inl (cA a, (LN n a, Sum.inr (Sum.inl f)))) (funext fun j => ?_)
  show up2L H.2.1 a i.toNat v a j = vp_updL (H.2.1 a) i.toNat v j
  unfold up2L vp_updL
  by_cases hj : j = i.toNat <;> simp [hj]
set_option maxRecDepth 20000 in
set_option maxHeartbeats 2000000 in
theorem cl_aastore {l : Launch} {n d y pc : Nat} {len ia ib ic : Nat} {z : Int} {sw : List (Int × Nat)} {kc ks : Nat} {ls : mLs} {st : List mV} {H : mH} {K : mK} (hw : okRow (y, pc, .aastore, len, (ia, ib, ic), z, sw) = true) (hstep : stepW n (Pr l n) (ent (Pr l n)) d (y, pc, .aastore, len, (ia, ib, ic), z, sw) kc ks ls st H K) : Pr l n d y pc kc ks ls st H K := by
  obtain ⟨hdec, hins, hyl⟩ := okRow_sp hw
  simp only [okIns, Bool.and_eq_true, Bool.or_eq_true, decide_eq_true_eq, beq_iff_eq] at hins
  intro p e R s m args below meth c A D ad cA HH locs cells slots lsR QF ad0 nx0 hctx hroom hnest hro hend hst hls hlv hW hS hag hnx hkc hks
  obtain ⟨hx, hb, hr, hml, hown, hts, hlk, hini, hA⟩ := id hctx
  have nxt : ∀ {pc' : Nat} {st' : List mV}, Pr l n d y pc' kc ks ls st' H K → okS H.2.2.2 st' → W p l e R s m args below meth c HH locs cells slots QF (F0 m pc' lsR (st'.map (mval ad))) := fun h ok => h p e R s m args below meth c A D ad cA HH locs cells slots lsR QF ad0 nx0 hctx hroom hnest hro hend ok hls hlv hW hS hag hnx hkc hks
  have nxtL : ∀ {pc' : Nat} {st' : List mV} {ls' : mLs} {lsR' : Array Slot}, Pr l n d y pc' kc ks ls' st' H K → okS H.2.2.2 st' → okLs H.2.2.2 ls' → lv_has lsR' (mMax y) (lvOf ad ls') → W p l e R s m args below meth c HH locs cells slots QF (F0 m pc' lsR' (st'.map (mval ad))) := fun h ok okl hl => h p e R s m args below meth c A D ad cA HH locs cells slots _ QF ad0 nx0 hctx hroom hnest hro hend ok okl hl hW hS hag hnx hkc hks
  dsimp only [stepW] at hstep
  have nxtH : ∀ {pc' : Nat} {st' : List mV} {H' : mH} {HH1 : Heap} {locs1 : List Loc}, Pr l n d y pc' kc ks ls st' H' K → okS H.2.2.2 st' → H'.2.2.2 = H.2.2.2 → (∀ h, h < 16 → H'.1 h = H.1 h) → (∀ h, h < 16 → H'.2.2.1 h = H.2.2.1 h) → mW D n ad cA H' A s HH1 → va_S A s.heap HH1 locs1 → W p l e R s m args below meth c HH1 locs1 cells slots QF (F0 m pc' lsR (st'.map (mval ad))) := fun h ok e1 e2 e3 hW' hS' => h p e R s m args below meth c A D ad cA _ _ cells slots lsR QF ad0 nx0 hctx hroom hnest (mRO_congr e2 e3 hro) hend (by rw [e1]; exact ok) (by rw [e1]; exact hls) hlv hW' hS' (agH_H e2 e3 hag) (by rw [e1]; exact hnx) hkc hks
  obtain rfl := hins
  obtain ⟨x, i, v, r, rfl, hs⟩ := eRIR_inv hstep
  obtain ⟨a, rfl, hs2⟩ := drf_inv hs
  obtain ⟨b, rfl, hs2⟩ := drf_inv hs2
  obtain ⟨ht, hin, hs3⟩ := chk_inv hs2
  have hlt : a < H.2.2.2 := okS_h (okS_t (okS_t hst))
  have hok := hW.2.2.2.2
  
  simp only [Bool.and_eq_true] at ht
  have hb20 : TY b < 20 := Nat.lt_of_succ_le (Nat.le_of_ble_eq_true ht.2)
  have hta : TY a = TY b + 110 := Nat.eq_of_beq_eq_true ht.1
  have h16 := hi_of (h := a) (by omega)
  have h16b := hi_of (h := b) (by omega)
  have hltb : b < H.2.2.2 := okS_h hst
  have hL := LN_le (n := n) (h := a) (by omega)
  have hAr := hW.2.2.2.1 a h16 hlt (by omega)
  have hety : ety a = .object (clAt (TY b)).1 := by
    unfold ety; split
    · omega
    · omega
    · omega
    · rw [show TY a - 110 = TY b by omega]
  rw [hety] at hAr
  have hb10 : TY b < 10 := by
    rcases Nat.lt_or_ge b 155 with q | q
    · exact (show ∀ h, h < 155 → TY h < 20 → TY h < 10 by decide) b q hb20
    · have := TY_hi q
      omega
  refine va_astq (r := clAt (TY b)) (tys := [(cA a, .object (clAt (TY b)).1)]) hx hb ⟨hW.2.2.1.1, fun k q hq => by
      cases k with
      | zero => simp at hq; subst hq; exact hAr
      | succ k => simp at hq⟩ hW.1 hW.2.1 hS (a - 16) 0 (b - 16) (TY b) (by rw [mws_at h16 hlt, mcell_ref (by omega)]) rfl (by rw [mws_at h16b hltb, mcell_obj hb20]) (clAt_in hb10) (in_ofInt hin (by omega)) hdec (fun HH1 locs1 hP1 hD1 hS1 => ?_)
  rw [clamp_ofInt hin (by omega)] at hP1 hD1
  refine nxtH hs3 (okS_t (okS_t (okS_t hst))) rfl (fun h hh => rfl) (fun h hh => up2R_ne (by omega)) (mW_set hW h16 hlt rfl (fun h hh => ⟨rfl, rfl, up2R_ne hh⟩) (okH_R hok hlt (fun q hq => by cases hq; exact hltb)) ?_ hP1 hD1) hS1
  rw [mcell_ref (by omega)]
  refine congrArg (fun f => Sum.inl (cA a, (LN n a, Sum.inr (Sum.inr (Sum.inr (Sum.inr f)))))) (funext fun j => ?_)
  show (up2R H.2.2.1 a i.toNat (some b) a j).map ad = va_up (fun j => (H.2.2.1 a j).map ad) i.toNat (some (ad b)) j
  unfold up2R va_up
  by_cases hj : j = i.toNat <;> simp [hj]
set_option maxRecDepth 20000 in
set_option maxHeartbeats 2000000 in
theorem cl_getstatic {l : Launch} {n d y pc : Nat} {i : Nat} {len ia ib ic : Nat} {z : Int} {sw : List (Int × Nat)} {kc ks : Nat} {ls : mLs} {st : List mV} {H : mH} {K : mK} (hw : okRow (y, pc, .getstatic i, len, (ia, ib, ic), z, sw) = true) (hstep : stepW n (Pr l n) (ent (Pr l n)) d (y, pc, .getstatic i, len, (ia, ib, ic), z, sw) kc ks ls st H K) : Pr l n d y pc kc ks ls st H K := by
  obtain ⟨hdec, hins, hyl⟩ := okRow_sp hw
  simp only [okIns, Bool.and_eq_true, Bool.or_eq_true, decide_eq_true_eq, beq_iff_eq] at hins
  intro p e R s m args below meth c A D ad cA HH locs cells slots lsR QF ad0 nx0 hctx hroom hnest hro hend hst hls hlv hW hS hag hnx hkc hks
  obtain ⟨hx, hb, hr, hml, hown, hts, hlk, hini, hA⟩ := id hctx
  have nxt : ∀ {pc' : Nat} {st' : List mV}, Pr l n d y pc' kc ks ls st' H K → okS H.2.2.2 st' → W p l e R s m args below meth c HH locs cells slots QF (F0 m pc' lsR (st'.map (mval ad))) := fun h ok => h p e R s m args below meth c A D ad cA HH locs cells slots lsR QF ad0 nx0 hctx hroom hnest hro hend ok hls hlv hW hS hag hnx hkc hks
  have nxtL : ∀ {pc' : Nat} {st' : List mV} {ls' : mLs} {lsR' : Array Slot}, Pr l n d y pc' kc ks ls' st' H K → okS H.2.2.2 st' → okLs H.2.2.2 ls' → lv_has lsR' (mMax y) (lvOf ad ls') → W p l e R s m args below meth c HH locs cells slots QF (F0 m pc' lsR' (st'.map (mval ad))) := fun h ok okl hl => h p e R s m args below meth c A D ad cA HH locs cells slots _ QF ad0 nx0 hctx hroom hnest hro hend ok okl hl hW hS hag hnx hkc hks
  dsimp only [stepW] at hstep
  have nxtH : ∀ {pc' : Nat} {st' : List mV} {H' : mH} {HH1 : Heap} {locs1 : List Loc}, Pr l n d y pc' kc ks ls st' H' K → okS H.2.2.2 st' → H'.2.2.2 = H.2.2.2 → (∀ h, h < 16 → H'.1 h = H.1 h) → (∀ h, h < 16 → H'.2.2.1 h = H.2.2.1 h) → mW D n ad cA H' A s HH1 → va_S A s.heap HH1 locs1 → W p l e R s m args below meth c HH1 locs1 cells slots QF (F0 m pc' lsR (st'.map (mval ad))) := fun h ok e1 e2 e3 hW' hS' => h p e R s m args below meth c A D ad cA _ _ cells slots lsR QF ad0 nx0 hctx hroom hnest (mRO_congr e2 e3 hro) hend (by rw [e1]; exact ok) (by rw [e1]; exact hls) hlv hW' hS' (agH_H e2 e3 hag) (by rw [e1]; exact hnx) hkc hks
  obtain ⟨rfl, hins⟩ := hins
  have h16 := hW.2.2.2.2.1
  split at hins
  · simp only [Bool.and_eq_true, decide_eq_true_eq] at hins
    obtain ⟨rfl, hl⟩ := hins
    exact va_gets hx hb hro.2.2.2.2.1 hS hown (hts _ (wAt_sp hl rfl)) (fun _ h => h) hdec (nxt hstep (okS_c (v := vi 1) ⟨by omega, by omega⟩ hst))
  · split at hstep
    · rename_i q; exact absurd rfl q
    · split at hins
      · simp only [Bool.or_eq_true, Bool.and_eq_true, decide_eq_true_eq, beq_iff_eq] at hins
        rcases hins with hl | ⟨hl, rfl⟩
        · exact va_gets hx hb hro.2.2.2.2.2.1 hS hown (hts _ (wAt_sp hl rfl)) (fun _ h => h) hdec (nxt hstep (okS_c (v := vr (some 1)) (Nat.lt_of_lt_of_le (by omega) h16) hst))
        · rw [hl] at hown
          exact va_getsN hx hb hro.2.2.2.2.2.1 hS hown (va_Nw.use rfl hnest.2.2.2.1) (fun _ h => h) hdec (nxt hstep (okS_c (v := vr (some 1)) (Nat.lt_of_lt_of_le (by omega) h16) hst))
      · simp only [Bool.and_eq_true, decide_eq_true_eq, beq_iff_eq] at hins
        obtain ⟨rfl, hl, rfl⟩ := hins
        rw [hl] at hown
        exact va_getsN hx hb hro.2.2.2.2.2.2.1 hS hown (va_Nw.use rfl hnest.2.2.1) (fun _ h => h) hdec (nxt hstep (okS_c (v := vr (some 2)) (Nat.lt_of_lt_of_le (by omega) h16) hst))
end
section
/-! ===== the small machine's steps are the machine's: what makes cells, what gives back ===== -/
theorem mNest_agr {ad ad' : Nat → Nat} {nx : Nat} {U : State} (h16 : 16 ≤ nx) (ha : agr nx ad ad') (h : mNest ad U) : mNest ad' U := by
  refine ⟨fun q hq => ?_, h.2⟩
  have e : ad' q.2.1 = ad q.2.1 := ha _ (by
    simp only [mStr, List.mem_cons, List.not_mem_nil, or_false] at hq
    rcases hq with rfl | rfl | rfl | rfl | rfl | rfl <;> exact Nat.lt_of_lt_of_le (by decide) h16)
  rw [e]
  exact h.1 q hq
theorem mRO_agr {n : Nat} {ad ad' : Nat → Nat} {H : mH} {A : Nat → Prop} {U : State} {HH : Heap} (hok : okH H) (ha : agr H.2.2.2 ad ad') (h : mRO n ad H A U HH) : mRO n ad' H A U HH := by
  have e : ∀ h, h < 16 → ad' h = ad h := fun h hh => ha h (Nat.lt_of_lt_of_le hh hok.1)
  obtain ⟨a, b, c, dd, q1, q2, q3, r⟩ := h
  refine ⟨by rw [e 0 (by omega)]; exact a, by rw [e 1 (by omega)]; exact b, by rw [e 2 (by omega)]; exact c, fun i hi => ?_, q1, by rw [e 1 (by omega)]; exact q2, by rw [e 2 (by omega)]; exact q3, r⟩
  have hm : (H.2.2.1 (3 + i) 1).map ad' = (H.2.2.1 (3 + i) 1).map ad := by
    cases hz : H.2.2.1 (3 + i) 1 with
    | none => rfl
    | some b => exact congrArg some (ha b (hok.2.2.1 _ _ b hz))
  rw [e (3 + i) (by omega), e (9 + i) (by omega), hm]
  exact dd i hi
theorem lv_agr {ad ad' : Nat → Nat} {nx : Nat} {ls : mLs} {lsR : Array Slot} {nL : Nat} (ha : agr nx ad ad') (hls : okLs nx ls) (h : lv_has lsR nL (lvOf ad ls)) : lv_has lsR nL (lvOf ad' ls) := by
  refine lv_of_sub h fun q hq => ?_
  obtain ⟨v, hv, e⟩ := lvOf_mem.mp hq
  exact lvOf_mem.mpr ⟨v, hv, e.trans (mval_agr ha (hls _ _ hv))⟩
theorem mcell_agr {n : Nat} {ad ad' : Nat → Nat} {cA cA' : Nat → ClassId} {H : mH} {h : Nat} (hok : okH H) (ha : agr H.2.2.2 ad ad') (hc : cA' h = cA h) : mcell n ad' cA' H h = mcell n ad cA H h := by
  have hm : ∀ x k, (H.2.2.1 x k).map ad' = (H.2.2.1 x k).map ad := fun x k => by
    cases hz : H.2.2.1 x k with
    | none => rfl
    | some b => exact congrArg some (ha b (hok.2.2.1 _ _ b hz))
  have e : fldV ad' H h = fldV ad H h := by
    funext k
    unfold fldV
    rw [hm]
  unfold mcell arrC
  rw [e, hc]
  simp only [hm]
def adP (ad : Nat → Nat) (nx q : Nat) : Nat → Nat := fun h => if h = nx then q else ad h
theorem adP_agr (ad : Nat → Nat) (nx q : Nat) : agr nx ad (adP ad nx q) := fun h hh => by unfold adP; rw [if_neg (by omega)]
theorem adP_at (ad : Nat → Nat) (nx q : Nat) : adP ad nx q nx = q := by unfold adP; rw [if_pos rfl]
theorem okH_nx {H : mH} (h : okH H) : okH (H.1, H.2.1, H.2.2.1, H.2.2.2 + 1) := ⟨Nat.le_succ_of_le h.1, h.2.1, fun x k b hb => Nat.lt_succ_of_lt (h.2.2.1 x k b hb), fun x hx k => h.2.2.2 x (Nat.le_of_succ_le hx) k⟩
theorem mws_push {n : Nat} {ad : Nat → Nat} {cA cA' : Nat → ClassId} {H : mH} (hok : okH H) (q : Nat) (hc : ∀ h, h < H.2.2.2 → cA' h = cA h) : mws n (adP ad H.2.2.2 q) cA' (H.1, H.2.1, H.2.2.1, H.2.2.2 + 1) = mws n ad cA H ++ [(q, mcell n (adP ad H.2.2.2 q) cA' H H.2.2.2)] := by
  have h16 := hok.1
  unfold mws
  show (List.range (H.2.2.2 + 1 - 16)).map _ = _
  rw [show H.2.2.2 + 1 - 16 = (H.2.2.2 - 16) + 1 by omega, List.range_succ, List.map_append]
  congr 1
  · refine List.map_congr_left fun i hi => ?_
    have hi := List.mem_range.mp hi
    have hlt : 16 + i < H.2.2.2 := by omega
    refine Prod.ext (adP_agr ad _ q _ hlt) ?_
    show mcell n (adP ad H.2.2.2 q) cA' (H.1, H.2.1, H.2.2.1, H.2.2.2 + 1) (16 + i) = mcell n ad cA H (16 + i)
    exact (mcell_congr (H := H) rfl rfl rfl).trans (mcell_agr hok (adP_agr ad _ q) (hc _ hlt))
  · simp only [List.map_cons, List.map_nil]
    rw [show 16 + (H.2.2.2 - 16) = H.2.2.2 by omega, adP_at]
    exact congrArg (fun z => [(q, z)]) (mcell_congr (H := H) rfl rfl rfl)
theorem mW_push {D : va_G} {n : Nat} {ad : Nat → Nat} {cA cA' : Nat → ClassId} {H : mH} {A : Nat → Prop} {s : State} {HH HH1 : Heap} {q : Nat} {cell : va_E} (hW : mW D n ad cA H A s HH) (hc : ∀ h, h < H.2.2.2 → cA' h = cA h) (hcell : mcell n (adP ad H.2.2.2 q) cA' H H.2.2.2 = cell) (hAr : 100 ≤ TY H.2.2.2 → ArrOfT s (cA' H.2.2.2) (ety H.2.2.2) ∧ va_RA s (cA' H.2.2.2) (ety H.2.2.2)) (hP : va_P D vwCl (mws n ad cA H ++ [(q, cell)]) HH1) (hD : va_D A (mws n ad cA H ++ [(q, cell)])) : mW D n (adP ad H.2.2.2 q) cA' (H.1, H.2.1, H.2.2.1, H.2.2.2 + 1) A s HH1 := by
  have hok := hW.2.2.2.2
  have e := mws_push (n := n) (ad := ad) (cA := cA) (cA' := cA') hok q hc
  rw [hcell] at e
  refine ⟨by rw [e]; exact hP, by rw [e]; exact hD, hW.2.2.1, fun h h1 h2 h3 => ?_, okH_nx hok⟩
  have h2 : h < H.2.2.2 + 1 := h2
  by_cases hh : h = H.2.2.2
  · subst hh; exact hAr h3
  · rw [hc h (by omega)]
    exact hW.2.2.2.1 h h1 (by omega) h3
theorem fresh_int {H : mH} (hok : okH H) : (fun j => Int32.ofInt (H.1 H.2.2.2 j)) = fun _ => 0 := by
  funext j
  rw [(hok.2.2.2 _ (Nat.le_refl _) j).1]
  rfl
theorem fresh_long {H : mH} (hok : okH H) : H.2.1 H.2.2.2 = fun _ => 0 := by
  funext j
  exact (hok.2.2.2 _ (Nat.le_refl _) j).2.1
theorem fresh_ref {H : mH} (hok : okH H) (ad : Nat → Nat) : (fun j => (H.2.2.1 H.2.2.2 j).map ad) = fun _ => none := by
  funext j
  rw [(hok.2.2.2 _ (Nat.le_refl _) j).2.2]
  rfl
set_option maxRecDepth 100000 in
theorem clInst : ∀ ci, ci < 10 → Cond.instantiable (clAt ci).1 (clAt ci).2.2 ∈ gTbl ∧ Cond.initialized (clAt ci).1 ∈ gTbl := by decide +kernel
set_option maxRecDepth 100000 in
theorem acIn : Cond.arrayClass .int ∈ gTbl ∧ Cond.arrayClass .long ∈ gTbl ∧ Cond.arrayClass .boolean ∈ gTbl := by decide +kernel
theorem rc0 {r : Option FieldType} (h : rcOf r = 0) : r = some .int := by
  unfold rcOf at h; split at h <;> first | rfl | omega
theorem rc1 {r : Option FieldType} (h : rcOf r = 1) : r = some .boolean := by
  unfold rcOf at h; split at h <;> first | rfl | omega
theorem rc2 {r : Option FieldType} (h : rcOf r = 2) : r = some .char := by
  unfold rcOf at h; split at h <;> first | rfl | omega
theorem rk3 {r : Option FieldType} (h : rkOf r = 3) : ∃ ty, r = some ty := by
  cases r with
  | none => cases h
  | some t => exact ⟨t, rfl⟩
theorem rcN {r : Option FieldType} (h : rcOf r ≠ 9) : ∃ ty, r = some ty ∧ rkOf (some ty) = 1 := by
  unfold rcOf at h; split at h <;> first | exact ⟨_, rfl, rfl⟩ | exact absurd rfl h
theorem nz {ty : FieldType} (h : rkOf (some ty) = 1) (hf : ty ≠ .float) (hd : ty ≠ .double) : narrow ty (.int (Int32.ofInt 0)) = .int (Int32.ofInt 0) := by
  cases ty <;> first | decide | (cases h; done) | exact absurd rfl hf | exact absurd rfl hd
set_option maxRecDepth 20000 in
set_option maxHeartbeats 2000000 in
theorem cl_new {l : Launch} {n d y pc : Nat} {i : Nat} {len ia ib ic : Nat} {z : Int} {sw : List (Int × Nat)} {kc ks : Nat} {ls : mLs} {st : List mV} {H : mH} {K : mK} (hw : okRow (y, pc, .new i, len, (ia, ib, ic), z, sw) = true) (hstep : stepW n (Pr l n) (ent (Pr l n)) d (y, pc, .new i, len, (ia, ib, ic), z, sw) kc ks ls st H K) : Pr l n d y pc kc ks ls st H K := by
  obtain ⟨hdec, hins, hyl⟩ := okRow_sp hw
  simp only [okIns, Bool.and_eq_true, Bool.or_eq_true, decide_eq_true_eq, beq_iff_eq] at hins
  intro p e R s m args below meth c A D ad cA HH locs cells slots lsR QF ad0 nx0 hctx hroom hnest hro hend hst hls hlv hW hS hag hnx hkc hks
  obtain ⟨hx, hb, hr, hml, hown, hts, hlk, hini, hA⟩ := id hctx
  have nxt : ∀ {pc' : Nat} {st' : List mV}, Pr l n d y pc' kc ks ls st' H K → okS H.2.2.2 st' → W p l e R s m args below meth c HH locs cells slots QF (F0 m pc' lsR (st'.map (mval ad))) := fun h ok => h p e R s m args below meth c A D ad cA HH locs cells slots lsR QF ad0 nx0 hctx hroom hnest hro hend ok hls hlv hW hS hag hnx hkc hks
  have nxtL : ∀ {pc' : Nat} {st' : List mV} {ls' : mLs} {lsR' : Array Slot}, Pr l n d y pc' kc ks ls' st' H K → okS H.2.2.2 st' → okLs H.2.2.2 ls' → lv_has lsR' (mMax y) (lvOf ad ls') → W p l e R s m args below meth c HH locs cells slots QF (F0 m pc' lsR' (st'.map (mval ad))) := fun h ok okl hl => h p e R s m args below meth c A D ad cA HH locs cells slots _ QF ad0 nx0 hctx hroom hnest hro hend ok okl hl hW hS hag hnx hkc hks
  dsimp only [stepW] at hstep
  have nxtG : ∀ {pc' kc' ks' : Nat} {st' : List mV} {H' : mH} {ad' : Nat → Nat} {cA' : Nat → ClassId} {HH1 : Heap} {locs1 : List Loc} {cells' slots' : Nat} {stR : List Value}, Pr l n d y pc' kc' ks' ls st' H' K → okS H'.2.2.2 st' → st'.map (mval ad') = stR → agr H.2.2.2 ad ad' → H.2.2.2 ≤ H'.2.2.2 → (∀ h, h < 16 → H'.1 h = H.1 h) → (∀ h, h < 16 → H'.2.2.1 h = H.2.2.1 h) → mW D n ad' cA' H' A s HH1 → va_S A s.heap HH1 locs1 → cells' + kc' ≤ (mBud y).1 → slots' + ks' ≤ (mBud y).2 → W p l e R s m args below meth c HH1 locs1 cells' slots' QF (F0 m pc' lsR stR) := fun h ok hst' ha hle e1 e2 hW' hS' g1 g2 => by
    rw [← hst']
    exact h p e R s m args below meth c A D _ _ _ _ _ _ lsR QF ad0 nx0 hctx hroom (mNest_agr hW.2.2.2.2.1 ha hnest) (mRO_congr e1 e2 (mRO_agr hW.2.2.2.2 ha hro)) hend ok (fun i v hv => okV_le hle (hls i v hv)) (lv_agr ha hls hlv) hW' hS' (agH_G ha hnx e1 e2 hag) (Nat.le_trans hnx hle) g1 g2
  obtain ⟨⟨⟨rfl, h10⟩, rfl⟩, hl⟩ := hins
  have h10 : ia < 10 := Nat.lt_of_succ_le (Nat.le_of_ble_eq_true h10)
  split at hstep
  · exact hstep.elim
  · rename_i kc'
    obtain ⟨ht, hs⟩ := chk_inv hstep
    simp only [Bool.and_eq_true] at ht
    have hta : TY H.2.2.2 = ia := Nat.eq_of_beq_eq_true ht.1
    have hks2 : (clAt ia).2.2 ≤ ks := Nat.le_of_ble_eq_true ht.2
    subst hta
    have hok := hW.2.2.2.2
    obtain ⟨r1, r2, r3, r4⟩ := hroom
    refine va_new (ci := TY H.2.2.2) (fs := (List.range (clAt (TY H.2.2.2)).2.2).map (fldV ad H H.2.2.2)) (C := (clAt (TY H.2.2.2)).1) (T := (clAt (TY H.2.2.2)).2.1) (N := (clAt (TY H.2.2.2)).2.2) hx hb hts (clWs _ h10) (tyOf (TY H.2.2.2)) (clTy _ h10) hown (hts _ (wAt_sp hl rfl)) (hts _ (clInst _ h10).1) (hts _ (clInst _ h10).2) hW.2.2.1 hW.1 hW.2.1 hS hA (clAt_in h10) (fun j hj => ?_) (by omega) (by omega) hdec (fun q HH1 hP1 hD1 hS1 => ?_)
    · have e1 : vp_V ((List.range (clAt (TY H.2.2.2)).2.2).map (fldV ad H H.2.2.2)) j = fldV ad H H.2.2.2 j := by simp [vp_V, hj]
      rw [e1]
      have hkd := clKd _ h10 j hj
      have hn9 := fkP_le ((clAt (TY H.2.2.2)).2.1 j).2.2.1
      obtain ⟨z1, z2, z3⟩ := hok.2.2.2 _ (Nat.le_refl H.2.2.2) j
      unfold fldV
      generalize hty : tyOf (TY H.2.2.2) j = ty at hkd
      rw [hkd.2, z1, z3]
      cases ty <;> first | rfl | (simp only [fkT] at hkd; omega)
    · refine nxtG (ad' := adP ad H.2.2.2 q) (cA' := cA) hs (okS_c (v := vr (some H.2.2.2)) (Nat.lt_succ_self _) (fun v hv => okV_le (Nat.le_succ _) (hst v hv))) ?_ (adP_agr ad _ q) (Nat.le_succ _) (fun _ _ => rfl) (fun _ _ => rfl) (mW_push hW (fun _ _ => rfl) ?_ (fun h => by omega) hP1 hD1) hS1 (by omega) (by omega)
      · rw [List.map_cons, map_agr (adP_agr ad _ q) hst]
        show Value.ref (adP ad H.2.2.2 q H.2.2.2) :: _ = _
        rw [adP_at]
      · rw [mcell_agr hok (adP_agr ad _ q) rfl, mcell_obj (by omega)]
set_option maxRecDepth 20000 in
set_option maxHeartbeats 2000000 in
theorem cl_newarray {l : Launch} {n d y pc : Nat} {tt : ArrayType} {len ia ib ic : Nat} {z : Int} {sw : List (Int × Nat)} {kc ks : Nat} {ls : mLs} {st : List mV} {H : mH} {K : mK} (hw : okRow (y, pc, .newarray tt, len, (ia, ib, ic), z, sw) = true) (hstep : stepW n (Pr l n) (ent (Pr l n)) d (y, pc, .newarray tt, len, (ia, ib, ic), z, sw) kc ks ls st H K) : Pr l n d y pc kc ks ls st H K := by
  obtain ⟨hdec, hins, hyl⟩ := okRow_sp hw
  simp only [okIns, Bool.and_eq_true, Bool.or_eq_true, decide_eq_true_eq, beq_iff_eq] at hins
  intro p e R s m args below meth c A D ad cA HH locs cells slots lsR QF ad0 nx0 hctx hroom hnest hro hend hst hls hlv hW hS hag hnx hkc hks
  obtain ⟨hx, hb, hr, hml, hown, hts, hlk, hini, hA⟩ := id hctx
  have nxt : ∀ {pc' : Nat} {st' : List mV}, Pr l n d y pc' kc ks ls st' H K → okS H.2.2.2 st' → W p l e R s m args below meth c HH locs cells slots QF (F0 m pc' lsR (st'.map (mval ad))) := fun h ok => h p e R s m args below meth c A D ad cA HH locs cells slots lsR QF ad0 nx0 hctx hroom hnest hro hend ok hls hlv hW hS hag hnx hkc hks
  have nxtL : ∀ {pc' : Nat} {st' : List mV} {ls' : mLs} {lsR' : Array Slot}, Pr l n d y pc' kc ks ls' st' H K → okS H.2.2.2 st' → okLs H.2.2.2 ls' → lv_has lsR' (mMax y) (lvOf ad ls') → W p l e R s m args below meth c HH locs cells slots QF (F0 m pc' lsR' (st'.map (mval ad))) := fun h ok okl hl => h p e R s m args below meth c A D ad cA HH locs cells slots _ QF ad0 nx0 hctx hroom hnest hro hend ok okl hl hW hS hag hnx hkc hks
  dsimp only [stepW] at hstep
  have nxtG : ∀ {pc' kc' ks' : Nat} {st' : List mV} {H' : mH} {ad' : Nat → Nat} {cA' : Nat → ClassId} {HH1 : Heap} {locs1 : List Loc} {cells' slots' : Nat} {stR : List Value}, Pr l n d y pc' kc' ks' ls st' H' K → okS H'.2.2.2 st' → st'.map (mval ad') = stR → agr H.2.2.2 ad ad' → H.2.2.2 ≤ H'.2.2.2 → (∀ h, h < 16 → H'.1 h = H.1 h) → (∀ h, h < 16 → H'.2.2.1 h = H.2.2.1 h) → mW D n ad' cA' H' A s HH1 → va_S A s.heap HH1 locs1 → cells' + kc' ≤ (mBud y).1 → slots' + ks' ≤ (mBud y).2 → W p l e R s m args below meth c HH1 locs1 cells' slots' QF (F0 m pc' lsR stR) := fun h ok hst' ha hle e1 e2 hW' hS' g1 g2 => by
    rw [← hst']
    exact h p e R s m args below meth c A D _ _ _ _ _ _ lsR QF ad0 nx0 hctx hroom (mNest_agr hW.2.2.2.2.1 ha hnest) (mRO_congr e1 e2 (mRO_agr hW.2.2.2.2 ha hro)) hend ok (fun i v hv => okV_le hle (hls i v hv)) (lv_agr ha hls hlv) hW' hS' (agH_G ha hnx e1 e2 hag) (Nat.le_trans hnx hle) g1 g2
  obtain ⟨rfl, hins⟩ := hins
  
  have hok := hW.2.2.2.2
  have hin := hS.1
  obtain ⟨r1, r2, r3, r4⟩ := hroom
  split at hstep
  · exact hstep.elim
  · rename_i kc'
    obtain ⟨x, r, rfl, hs0⟩ := eI_inv hstep
    obtain ⟨ht, hxe, hs⟩ := chk_inv hs0
    simp only [Bool.and_eq_true] at ht
    have hta : TY H.2.2.2 = ia := Nat.eq_of_beq_eq_true ht.1
    have hks2 : LN n H.2.2.2 ≤ ks := Nat.le_of_ble_eq_true ht.2.1
    have hbig : LN n H.2.2.2 ≤ 100000 := Nat.le_of_ble_eq_true ht.2.2
    subst hxe
    have hx0 : ¬ (Int32.ofInt (LN n H.2.2.2 : Int)) < 0 := by
      rw [show (0 : Int32) = Int32.ofInt 0 from rfl, ofInt_lt ⟨by omega, by omega⟩ ⟨by omega, by omega⟩]
      omega
    have hcl : (Int32.ofInt (LN n H.2.2.2 : Int)).toNatClampNeg = LN n H.2.2.2 := by
      show (Int32.ofInt (LN n H.2.2.2 : Int)).toInt.toNat = _
      rw [toInt_ofInt_id ⟨by omega, by omega⟩]
      omega
    cases tt <;> simp only [beq_iff_eq, Bool.false_eq_true] at hins
    · have hta2 : TY H.2.2.2 = 102 := by omega
      refine va_newa (atype := .boolean) (tys := []) (a0 := (LN n H.2.2.2, .inl fun _ => 0)) (N' := LN n H.2.2.2) hx hb (hts _ acIn.2.2) (ty := .boolean) rfl hW.2.2.1 hW.1 hW.2.1 hS hA (fun cA => by first | exact vp_cell_i _ _ _ | exact vp_cell_l _ _ _ | rfl) hx0 hcl (Nat.le_trans (Nat.mul_le_mul_right _ hbig) (by decide)) (by omega) (by omega) hdec (fun q cAq HH1 hK1 hP1 hD1 hS1 => ?_)
      refine nxtG (ad' := adP ad H.2.2.2 q) (cA' := fun h => if h = H.2.2.2 then cAq else cA h) hs (okS_c (v := vr (some H.2.2.2)) (Nat.lt_succ_self _) (fun v hv => okV_le (Nat.le_succ _) (okS_t hst v hv))) ?_ (adP_agr ad _ q) (Nat.le_succ _) (fun _ _ => rfl) (fun _ _ => rfl) (mW_push hW (fun h hh => if_neg (by omega)) ?_ (fun h => ?_) hP1 hD1) hS1 (by omega) (by omega)
      · rw [List.map_cons, map_agr (adP_agr ad _ q) (okS_t hst)]
        show Value.ref (adP ad H.2.2.2 q H.2.2.2) :: _ = _
        rw [adP_at]
      · rw [mcell_int (Or.inr hta2), fresh_int hok, if_pos rfl]
      · rw [if_pos rfl, show ety H.2.2.2 = .boolean by simp [ety, hta2]]
        exact hK1.2 0 _ rfl
    · have hta2 : TY H.2.2.2 = 100 := by omega
      refine va_newa (atype := .int) (tys := []) (a0 := (LN n H.2.2.2, .inl fun _ => 0)) (N' := LN n H.2.2.2) hx hb (hts _ acIn.1) (ty := .int) rfl hW.2.2.1 hW.1 hW.2.1 hS hA (fun cA => by first | exact vp_cell_i _ _ _ | exact vp_cell_l _ _ _ | rfl) hx0 hcl (Nat.le_trans (Nat.mul_le_mul_right _ hbig) (by decide)) (by omega) (by omega) hdec (fun q cAq HH1 hK1 hP1 hD1 hS1 => ?_)
      refine nxtG (ad' := adP ad H.2.2.2 q) (cA' := fun h => if h = H.2.2.2 then cAq else cA h) hs (okS_c (v := vr (some H.2.2.2)) (Nat.lt_succ_self _) (fun v hv => okV_le (Nat.le_succ _) (okS_t hst v hv))) ?_ (adP_agr ad _ q) (Nat.le_succ _) (fun _ _ => rfl) (fun _ _ => rfl) (mW_push hW (fun h hh => if_neg (by omega)) ?_ (fun h => ?_) hP1 hD1) hS1 (by omega) (by omega)
      · rw [List.map_cons, map_agr (adP_agr ad _ q) (okS_t hst)]
        show Value.ref (adP ad H.2.2.2 q H.2.2.2) :: _ = _
        rw [adP_at]
      · rw [mcell_int (Or.inl hta2), fresh_int hok, if_pos rfl]
      · rw [if_pos rfl, show ety H.2.2.2 = .int by simp [ety, hta2]]
        exact hK1.2 0 _ rfl
    · have hta2 : TY H.2.2.2 = 101 := by omega
      refine va_newa (atype := .long) (tys := []) (a0 := (LN n H.2.2.2, .inr (.inl fun _ => 0))) (N' := LN n H.2.2.2) hx hb (hts _ acIn.2.1) (ty := .long) rfl hW.2.2.1 hW.1 hW.2.1 hS hA (fun cA => by first | exact vp_cell_i _ _ _ | exact vp_cell_l _ _ _ | rfl) hx0 hcl (Nat.le_trans (Nat.mul_le_mul_right _ hbig) (by decide)) (by omega) (by omega) hdec (fun q cAq HH1 hK1 hP1 hD1 hS1 => ?_)
      refine nxtG (ad' := adP ad H.2.2.2 q) (cA' := fun h => if h = H.2.2.2 then cAq else cA h) hs (okS_c (v := vr (some H.2.2.2)) (Nat.lt_succ_self _) (fun v hv => okV_le (Nat.le_succ _) (okS_t hst v hv))) ?_ (adP_agr ad _ q) (Nat.le_succ _) (fun _ _ => rfl) (fun _ _ => rfl) (mW_push hW (fun h hh => if_neg (by omega)) ?_ (fun h => ?_) hP1 hD1) hS1 (by omega) (by omega)
      · rw [List.map_cons, map_agr (adP_agr ad _ q) (okS_t hst)]
        show Value.ref (adP ad H.2.2.2 q H.2.2.2) :: _ = _
        rw [adP_at]
      · rw [mcell_long hta2, fresh_long hok, if_pos rfl]
      · rw [if_pos rfl, show ety H.2.2.2 = .long by simp [ety, hta2]]
        exact hK1.2 0 _ rfl
set_option maxRecDepth 20000 in
set_option maxHeartbeats 2000000 in
theorem cl_anewarray {l : Launch} {n d y pc : Nat} {i : Nat} {len ia ib ic : Nat} {z : Int} {sw : List (Int × Nat)} {kc ks : Nat} {ls : mLs} {st : List mV} {H : mH} {K : mK} (hw : okRow (y, pc, .anewarray i, len, (ia, ib, ic), z, sw) = true) (hstep : stepW n (Pr l n) (ent (Pr l n)) d (y, pc, .anewarray i, len, (ia, ib, ic), z, sw) kc ks ls st H K) : Pr l n d y pc kc ks ls st H K := by
  obtain ⟨hdec, hins, hyl⟩ := okRow_sp hw
  simp only [okIns, Bool.and_eq_true, Bool.or_eq_true, decide_eq_true_eq, beq_iff_eq] at hins
  intro p e R s m args below meth c A D ad cA HH locs cells slots lsR QF ad0 nx0 hctx hroom hnest hro hend hst hls hlv hW hS hag hnx hkc hks
  obtain ⟨hx, hb, hr, hml, hown, hts, hlk, hini, hA⟩ := id hctx
  have nxt : ∀ {pc' : Nat} {st' : List mV}, Pr l n d y pc' kc ks ls st' H K → okS H.2.2.2 st' → W p l e R s m args below meth c HH locs cells slots QF (F0 m pc' lsR (st'.map (mval ad))) := fun h ok => h p e R s m args below meth c A D ad cA HH locs cells slots lsR QF ad0 nx0 hctx hroom hnest hro hend ok hls hlv hW hS hag hnx hkc hks
  have nxtL : ∀ {pc' : Nat} {st' : List mV} {ls' : mLs} {lsR' : Array Slot}, Pr l n d y pc' kc ks ls' st' H K → okS H.2.2.2 st' → okLs H.2.2.2 ls' → lv_has lsR' (mMax y) (lvOf ad ls') → W p l e R s m args below meth c HH locs cells slots QF (F0 m pc' lsR' (st'.map (mval ad))) := fun h ok okl hl => h p e R s m args below meth c A D ad cA HH locs cells slots _ QF ad0 nx0 hctx hroom hnest hro hend ok okl hl hW hS hag hnx hkc hks
  dsimp only [stepW] at hstep
  have nxtG : ∀ {pc' kc' ks' : Nat} {st' : List mV} {H' : mH} {ad' : Nat → Nat} {cA' : Nat → ClassId} {HH1 : Heap} {locs1 : List Loc} {cells' slots' : Nat} {stR : List Value}, Pr l n d y pc' kc' ks' ls st' H' K → okS H'.2.2.2 st' → st'.map (mval ad') = stR → agr H.2.2.2 ad ad' → H.2.2.2 ≤ H'.2.2.2 → (∀ h, h < 16 → H'.1 h = H.1 h) → (∀ h, h < 16 → H'.2.2.1 h = H.2.2.1 h) → mW D n ad' cA' H' A s HH1 → va_S A s.heap HH1 locs1 → cells' + kc' ≤ (mBud y).1 → slots' + ks' ≤ (mBud y).2 → W p l e R s m args below meth c HH1 locs1 cells' slots' QF (F0 m pc' lsR stR) := fun h ok hst' ha hle e1 e2 hW' hS' g1 g2 => by
    rw [← hst']
    exact h p e R s m args below meth c A D _ _ _ _ _ _ lsR QF ad0 nx0 hctx hroom (mNest_agr hW.2.2.2.2.1 ha hnest) (mRO_congr e1 e2 (mRO_agr hW.2.2.2.2 ha hro)) hend ok (fun i v hv => okV_le hle (hls i v hv)) (lv_agr ha hls hlv) hW' hS' (agH_G ha hnx e1 e2 hag) (Nat.le_trans hnx hle) g1 g2
  obtain ⟨⟨⟨rfl, h110⟩, hci⟩, hl⟩ := hins
  have h110 : 110 ≤ ia := Nat.le_of_ble_eq_true h110
  
  have hok := hW.2.2.2.2
  have hin := hS.1
  obtain ⟨r1, r2, r3, r4⟩ := hroom
  split at hstep
  · exact hstep.elim
  · rename_i kc'
    obtain ⟨x, r, rfl, hs0⟩ := eI_inv hstep
    obtain ⟨ht, hxe, hs⟩ := chk_inv hs0
    simp only [Bool.and_eq_true] at ht
    have hta : TY H.2.2.2 = ia := Nat.eq_of_beq_eq_true ht.1
    have hks2 : LN n H.2.2.2 ≤ ks := Nat.le_of_ble_eq_true ht.2.1
    have hbig : LN n H.2.2.2 ≤ 100000 := Nat.le_of_ble_eq_true ht.2.2
    subst hxe
    have hx0 : ¬ (Int32.ofInt (LN n H.2.2.2 : Int)) < 0 := by
      rw [show (0 : Int32) = Int32.ofInt 0 from rfl, ofInt_lt ⟨by omega, by omega⟩ ⟨by omega, by omega⟩]
      omega
    have hcl : (Int32.ofInt (LN n H.2.2.2 : Int)).toNatClampNeg = LN n H.2.2.2 := by
      show (Int32.ofInt (LN n H.2.2.2 : Int)).toInt.toNat = _
      rw [toInt_ofInt_id ⟨by omega, by omega⟩]
      omega
    have hover : va_AO (clAt (ia - 110)).1 s := by
      simp only [List.mem_cons, List.not_mem_nil, or_false] at hci
      obtain ⟨q1, q2, q3⟩ := hnest.2.2.2.2
      rcases hci with h | h | h <;> rw [h]
      · exact q1
      · exact q2
      · exact q3
    have hety : ety H.2.2.2 = .object (clAt (ia - 110)).1 := by
      unfold ety; split
      · omega
      · omega
      · omega
      · rw [hta]
    refine va_newq (C := (clAt (ia - 110)).1) (tys := []) (N' := LN n H.2.2.2) hx hb hown (hts _ (wAt_sp hl rfl)) hover hW.2.2.1 hW.1 hW.2.1 hS hA hx0 hcl (by omega) (by omega) (by omega) hdec (fun q cAq HH1 hK1 hP1 hD1 hS1 => ?_)
    refine nxtG (ad' := adP ad H.2.2.2 q) (cA' := fun h => if h = H.2.2.2 then cAq else cA h) hs (okS_c (v := vr (some H.2.2.2)) (Nat.lt_succ_self _) (fun v hv => okV_le (Nat.le_succ _) (okS_t hst v hv))) ?_ (adP_agr ad _ q) (Nat.le_succ _) (fun _ _ => rfl) (fun _ _ => rfl) (mW_push hW (fun h hh => if_neg (by omega)) ?_ (fun h => ?_) hP1 hD1) hS1 (by omega) (by omega)
    · rw [List.map_cons, map_agr (adP_agr ad _ q) (okS_t hst)]
      show Value.ref (adP ad H.2.2.2 q H.2.2.2) :: _ = _
      rw [adP_at]
    · rw [mcell_ref (by omega), fresh_ref hok, if_pos rfl]
    · rw [if_pos rfl, hety]
      exact hK1.2 0 _ rfl
set_option maxRecDepth 20000 in
set_option maxHeartbeats 2000000 in
theorem cl_ireturn {l : Launch} {n d y pc : Nat} {len ia ib ic : Nat} {z : Int} {sw : List (Int × Nat)} {kc ks : Nat} {ls : mLs} {st : List mV} {H : mH} {K : mK} (hw : okRow (y, pc, .ireturn, len, (ia, ib, ic), z, sw) = true) (hstep : stepW n (Pr l n) (ent (Pr l n)) d (y, pc, .ireturn, len, (ia, ib, ic), z, sw) kc ks ls st H K) : Pr l n d y pc kc ks ls st H K := by
  obtain ⟨hdec, hins, hyl⟩ := okRow_sp hw
  simp only [okIns, Bool.and_eq_true, Bool.or_eq_true, decide_eq_true_eq, beq_iff_eq] at hins
  intro p e R s m args below meth c A D ad cA HH locs cells slots lsR QF ad0 nx0 hctx hroom hnest hro hend hst hls hlv hW hS hag hnx hkc hks
  obtain ⟨hx, hb, hr, hml, hown, hts, hlk, hini, hA⟩ := id hctx
  have nxt : ∀ {pc' : Nat} {st' : List mV}, Pr l n d y pc' kc ks ls st' H K → okS H.2.2.2 st' → W p l e R s m args below meth c HH locs cells slots QF (F0 m pc' lsR (st'.map (mval ad))) := fun h ok => h p e R s m args below meth c A D ad cA HH locs cells slots lsR QF ad0 nx0 hctx hroom hnest hro hend ok hls hlv hW hS hag hnx hkc hks
  have nxtL : ∀ {pc' : Nat} {st' : List mV} {ls' : mLs} {lsR' : Array Slot}, Pr l n d y pc' kc ks ls' st' H K → okS H.2.2.2 st' → okLs H.2.2.2 ls' → lv_has lsR' (mMax y) (lvOf ad ls') → W p l e R s m args below meth c HH locs cells slots QF (F0 m pc' lsR' (st'.map (mval ad))) := fun h ok okl hl => h p e R s m args below meth c A D ad cA HH locs cells slots _ QF ad0 nx0 hctx hroom hnest hro hend ok okl hl hW hS hag hnx hkc hks
  dsimp only [stepW] at hstep
  have nxtG : ∀ {pc' kc' ks' : Nat} {st' : List mV} {H' : mH} {ad' : Nat → Nat} {cA' : Nat → ClassId} {HH1 : Heap} {locs1 : List Loc} {cells' slots' : Nat} {stR : List Value}, Pr l n d y pc' kc' ks' ls st' H' K → okS H'.2.2.2 st' → st'.map (mval ad') = stR → agr H.2.2.2 ad ad' → H.2.2.2 ≤ H'.2.2.2 → (∀ h, h < 16 → H'.1 h = H.1 h) → (∀ h, h < 16 → H'.2.2.1 h = H.2.2.1 h) → mW D n ad' cA' H' A s HH1 → va_S A s.heap HH1 locs1 → cells' + kc' ≤ (mBud y).1 → slots' + ks' ≤ (mBud y).2 → W p l e R s m args below meth c HH1 locs1 cells' slots' QF (F0 m pc' lsR stR) := fun h ok hst' ha hle e1 e2 hW' hS' g1 g2 => by
    rw [← hst']
    exact h p e R s m args below meth c A D _ _ _ _ _ _ lsR QF ad0 nx0 hctx hroom (mNest_agr hW.2.2.2.2.1 ha hnest) (mRO_congr e1 e2 (mRO_agr hW.2.2.2.2 ha hro)) hend ok (fun i v hv => okV_le hle (hls i v hv)) (lv_agr ha hls hlv) hW' hS' (agH_G ha hnx e1 e2 hag) (Nat.le_trans hnx hle) g1 g2
  obtain ⟨⟨rfl, hins⟩, hn9⟩ := hins
  obtain ⟨r1, r2, r3, r4⟩ := hroom
  split at hstep
  · rename_i x
    have hxr : -2147483648 ≤ x ∧ x < 2147483648 := okS_h hst
    have fin : ∀ ty, mRet y = some ty → rkOf (some ty) = 1 → narrow ty (.int (Int32.ofInt x)) = .int (Int32.ofInt x) → K (some (vi x)) H → W p l e R s m args below meth c HH locs cells slots QF (F0 m pc lsR ([vi x].map (mval ad))) := fun ty h1 h2 h3 h4 => hend ad cA H HH locs cells slots lsR pc .ireturn (some (vi x)) hdec (Or.inl ⟨rfl, x, ty, rfl, h1, h3, h2⟩) (fun v hv => by cases hv; exact hxr) h4 hag hnx hW hS (by omega) (by omega)
    split at hstep
    · exact fin _ (rc0 hins.symm) rfl rfl hstep
    · obtain ⟨g1, g2⟩ := b01W_inv hstep
      exact fin _ (rc1 hins.symm) rfl (b01 g1).1 g2
    · refine fin _ (rc2 hins.symm) rfl ?_ hstep.2
      obtain ⟨k, rfl⟩ : ∃ k : Nat, x = (k : Int) := ⟨x.toNat, by omega⟩
      have := (pk_charN (q := k) (by omega)).1
      rw [show nI k = Int32.ofInt (k : Int) from ofNat_ofInt k] at this
      exact this
    · obtain ⟨rfl, hK⟩ := hstep
      by_cases h9 : rcOf (mRet y) = 9
      · exact absurd h9 (by simpa using hn9)
      · obtain ⟨ty, h1, h2⟩ := rcN h9
        refine fin ty h1 h2 ?_ hK
        have hh : rcOf (some ty) ≠ 9 := by rw [← h1]; exact h9
        cases ty <;> first | decide | exact absurd rfl hh
  · exact hstep.elim
set_option maxRecDepth 20000 in
set_option maxHeartbeats 2000000 in
theorem cl_lreturn {l : Launch} {n d y pc : Nat} {len ia ib ic : Nat} {z : Int} {sw : List (Int × Nat)} {kc ks : Nat} {ls : mLs} {st : List mV} {H : mH} {K : mK} (hw : okRow (y, pc, .lreturn, len, (ia, ib, ic), z, sw) = true) (hstep : stepW n (Pr l n) (ent (Pr l n)) d (y, pc, .lreturn, len, (ia, ib, ic), z, sw) kc ks ls st H K) : Pr l n d y pc kc ks ls st H K := by
  obtain ⟨hdec, hins, hyl⟩ := okRow_sp hw
  simp only [okIns, Bool.and_eq_true, Bool.or_eq_true, decide_eq_true_eq, beq_iff_eq] at hins
  intro p e R s m args below meth c A D ad cA HH locs cells slots lsR QF ad0 nx0 hctx hroom hnest hro hend hst hls hlv hW hS hag hnx hkc hks
  obtain ⟨hx, hb, hr, hml, hown, hts, hlk, hini, hA⟩ := id hctx
  have nxt : ∀ {pc' : Nat} {st' : List mV}, Pr l n d y pc' kc ks ls st' H K → okS H.2.2.2 st' → W p l e R s m args below meth c HH locs cells slots QF (F0 m pc' lsR (st'.map (mval ad))) := fun h ok => h p e R s m args below meth c A D ad cA HH locs cells slots lsR QF ad0 nx0 hctx hroom hnest hro hend ok hls hlv hW hS hag hnx hkc hks
  have nxtL : ∀ {pc' : Nat} {st' : List mV} {ls' : mLs} {lsR' : Array Slot}, Pr l n d y pc' kc ks ls' st' H K → okS H.2.2.2 st' → okLs H.2.2.2 ls' → lv_has lsR' (mMax y) (lvOf ad ls') → W p l e R s m args below meth c HH locs cells slots QF (F0 m pc' lsR' (st'.map (mval ad))) := fun h ok okl hl => h p e R s m args below meth c A D ad cA HH locs cells slots _ QF ad0 nx0 hctx hroom hnest hro hend ok okl hl hW hS hag hnx hkc hks
  dsimp only [stepW] at hstep
  have nxtG : ∀ {pc' kc' ks' : Nat} {st' : List mV} {H' : mH} {ad' : Nat → Nat} {cA' : Nat → ClassId} {HH1 : Heap} {locs1 : List Loc} {cells' slots' : Nat} {stR : List Value}, Pr l n d y pc' kc' ks' ls st' H' K → okS H'.2.2.2 st' → st'.map (mval ad') = stR → agr H.2.2.2 ad ad' → H.2.2.2 ≤ H'.2.2.2 → (∀ h, h < 16 → H'.1 h = H.1 h) → (∀ h, h < 16 → H'.2.2.1 h = H.2.2.1 h) → mW D n ad' cA' H' A s HH1 → va_S A s.heap HH1 locs1 → cells' + kc' ≤ (mBud y).1 → slots' + ks' ≤ (mBud y).2 → W p l e R s m args below meth c HH1 locs1 cells' slots' QF (F0 m pc' lsR stR) := fun h ok hst' ha hle e1 e2 hW' hS' g1 g2 => by
    rw [← hst']
    exact h p e R s m args below meth c A D _ _ _ _ _ _ lsR QF ad0 nx0 hctx hroom (mNest_agr hW.2.2.2.2.1 ha hnest) (mRO_congr e1 e2 (mRO_agr hW.2.2.2.2 ha hro)) hend ok (fun i v hv => okV_le hle (hls i v hv)) (lv_agr ha hls hlv) hW' hS' (agH_G ha hnx e1 e2 hag) (Nat.le_trans hnx hle) g1 g2
  obtain ⟨rfl, hins⟩ := hins
  split at hstep
  · rename_i x
    exact hend ad cA H HH locs cells slots lsR pc .lreturn (some (vl x)) hdec (Or.inr (Or.inl ⟨rfl, x, rfl, hins⟩)) (fun v hv => by cases hv; trivial) hstep hag hnx hW hS (by omega) (by omega)
  · exact hstep.elim
set_option maxRecDepth 20000 in
set_option maxHeartbeats 2000000 in
theorem cl_areturn {l : Launch} {n d y pc : Nat} {len ia ib ic : Nat} {z : Int} {sw : List (Int × Nat)} {kc ks : Nat} {ls : mLs} {st : List mV} {H : mH} {K : mK} (hw : okRow (y, pc, .areturn, len, (ia, ib, ic), z, sw) = true) (hstep : stepW n (Pr l n) (ent (Pr l n)) d (y, pc, .areturn, len, (ia, ib, ic), z, sw) kc ks ls st H K) : Pr l n d y pc kc ks ls st H K := by
  obtain ⟨hdec, hins, hyl⟩ := okRow_sp hw
  simp only [okIns, Bool.and_eq_true, Bool.or_eq_true, decide_eq_true_eq, beq_iff_eq] at hins
  intro p e R s m args below meth c A D ad cA HH locs cells slots lsR QF ad0 nx0 hctx hroom hnest hro hend hst hls hlv hW hS hag hnx hkc hks
  obtain ⟨hx, hb, hr, hml, hown, hts, hlk, hini, hA⟩ := id hctx
  have nxt : ∀ {pc' : Nat} {st' : List mV}, Pr l n d y pc' kc ks ls st' H K → okS H.2.2.2 st' → W p l e R s m args below meth c HH locs cells slots QF (F0 m pc' lsR (st'.map (mval ad))) := fun h ok => h p e R s m args below meth c A D ad cA HH locs cells slots lsR QF ad0 nx0 hctx hroom hnest hro hend ok hls hlv hW hS hag hnx hkc hks
  have nxtL : ∀ {pc' : Nat} {st' : List mV} {ls' : mLs} {lsR' : Array Slot}, Pr l n d y pc' kc ks ls' st' H K → okS H.2.2.2 st' → okLs H.2.2.2 ls' → lv_has lsR' (mMax y) (lvOf ad ls') → W p l e R s m args below meth c HH locs cells slots QF (F0 m pc' lsR' (st'.map (mval ad))) := fun h ok okl hl => h p e R s m args below meth c A D ad cA HH locs cells slots _ QF ad0 nx0 hctx hroom hnest hro hend ok okl hl hW hS hag hnx hkc hks
  dsimp only [stepW] at hstep
  have nxtG : ∀ {pc' kc' ks' : Nat} {st' : List mV} {H' : mH} {ad' : Nat → Nat} {cA' : Nat → ClassId} {HH1 : Heap} {locs1 : List Loc} {cells' slots' : Nat} {stR : List Value}, Pr l n d y pc' kc' ks' ls st' H' K → okS H'.2.2.2 st' → st'.map (mval ad') = stR → agr H.2.2.2 ad ad' → H.2.2.2 ≤ H'.2.2.2 → (∀ h, h < 16 → H'.1 h = H.1 h) → (∀ h, h < 16 → H'.2.2.1 h = H.2.2.1 h) → mW D n ad' cA' H' A s HH1 → va_S A s.heap HH1 locs1 → cells' + kc' ≤ (mBud y).1 → slots' + ks' ≤ (mBud y).2 → W p l e R s m args below meth c HH1 locs1 cells' slots' QF (F0 m pc' lsR stR) := fun h ok hst' ha hle e1 e2 hW' hS' g1 g2 => by
    rw [← hst']
    exact h p e R s m args below meth c A D _ _ _ _ _ _ lsR QF ad0 nx0 hctx hroom (mNest_agr hW.2.2.2.2.1 ha hnest) (mRO_congr e1 e2 (mRO_agr hW.2.2.2.2 ha hro)) hend ok (fun i v hv => okV_le hle (hls i v hv)) (lv_agr ha hls hlv) hW' hS' (agH_G ha hnx e1 e2 hag) (Nat.le_trans hnx hle) g1 g2
  obtain ⟨rfl, hins⟩ := hins
  split at hstep
  · rename_i x
    obtain ⟨a, rfl, hK⟩ := drf_inv hstep
    obtain ⟨ty, h1⟩ := rk3 hins
    exact hend ad cA H HH locs cells slots lsR pc .areturn (some (vr (some a))) hdec (Or.inr (Or.inr (Or.inl ⟨rfl, a, ty, rfl, h1, by rw [← h1]; exact hins⟩))) (fun v hv => by cases hv; exact okS_h hst) hK hag hnx hW hS (by omega) (by omega)
  · exact hstep.elim
set_option maxRecDepth 20000 in
set_option maxHeartbeats 2000000 in
theorem cl_return_ {l : Launch} {n d y pc : Nat} {len ia ib ic : Nat} {z : Int} {sw : List (Int × Nat)} {kc ks : Nat} {ls : mLs} {st : List mV} {H : mH} {K : mK} (hw : okRow (y, pc, .return_, len, (ia, ib, ic), z, sw) = true) (hstep : stepW n (Pr l n) (ent (Pr l n)) d (y, pc, .return_, len, (ia, ib, ic), z, sw) kc ks ls st H K) : Pr l n d y pc kc ks ls st H K := by
  obtain ⟨hdec, hins, hyl⟩ := okRow_sp hw
  simp only [okIns, Bool.and_eq_true, Bool.or_eq_true, decide_eq_true_eq, beq_iff_eq] at hins
  intro p e R s m args below meth c A D ad cA HH locs cells slots lsR QF ad0 nx0 hctx hroom hnest hro hend hst hls hlv hW hS hag hnx hkc hks
  obtain ⟨hx, hb, hr, hml, hown, hts, hlk, hini, hA⟩ := id hctx
  have nxt : ∀ {pc' : Nat} {st' : List mV}, Pr l n d y pc' kc ks ls st' H K → okS H.2.2.2 st' → W p l e R s m args below meth c HH locs cells slots QF (F0 m pc' lsR (st'.map (mval ad))) := fun h ok => h p e R s m args below meth c A D ad cA HH locs cells slots lsR QF ad0 nx0 hctx hroom hnest hro hend ok hls hlv hW hS hag hnx hkc hks
  have nxtL : ∀ {pc' : Nat} {st' : List mV} {ls' : mLs} {lsR' : Array Slot}, Pr l n d y pc' kc ks ls' st' H K → okS H.2.2.2 st' → okLs H.2.2.2 ls' → lv_has lsR' (mMax y) (lvOf ad ls') → W p l e R s m args below meth c HH locs cells slots QF (F0 m pc' lsR' (st'.map (mval ad))) := fun h ok okl hl => h p e R s m args below meth c A D ad cA HH locs cells slots _ QF ad0 nx0 hctx hroom hnest hro hend ok okl hl hW hS hag hnx hkc hks
  dsimp only [stepW] at hstep
  have nxtG : ∀ {pc' kc' ks' : Nat} {st' : List mV} {H' : mH} {ad' : Nat → Nat} {cA' : Nat → ClassId} {HH1 : Heap} {locs1 : List Loc} {cells' slots' : Nat} {stR : List Value}, Pr l n d y pc' kc' ks' ls st' H' K → okS H'.2.2.2 st' → st'.map (mval ad') = stR → agr H.2.2.2 ad ad' → H.2.2.2 ≤ H'.2.2.2 → (∀ h, h < 16 → H'.1 h = H.1 h) → (∀ h, h < 16 → H'.2.2.1 h = H.2.2.1 h) → mW D n ad' cA' H' A s HH1 → va_S A s.heap HH1 locs1 → cells' + kc' ≤ (mBud y).1 → slots' + ks' ≤ (mBud y).2 → W p l e R s m args below meth c HH1 locs1 cells' slots' QF (F0 m pc' lsR stR) := fun h ok hst' ha hle e1 e2 hW' hS' g1 g2 => by
    rw [← hst']
    exact h p e R s m args below meth c A D _ _ _ _ _ _ lsR QF ad0 nx0 hctx hroom (mNest_agr hW.2.2.2.2.1 ha hnest) (mRO_congr e1 e2 (mRO_agr hW.2.2.2.2 ha hro)) hend ok (fun i v hv => okV_le hle (hls i v hv)) (lv_agr ha hls hlv) hW' hS' (agH_G ha hnx e1 e2 hag) (Nat.le_trans hnx hle) g1 g2
  obtain ⟨rfl, hins⟩ := hins
  split at hstep
  · exact hend ad cA H HH locs cells slots lsR pc .return_ none hdec (Or.inr (Or.inr (Or.inr ⟨rfl, rfl, hins⟩))) (fun v hv => by cases hv) hstep hag hnx hW hS (by omega) (by omega)
  · exact hstep.elim
end
section
/-! ===== the small machine's calls are the machine's ===== -/
theorem mW_moved {D : va_G} {n : Nat} {ad : Nat → Nat} {cA : Nat → ClassId} {H : mH} {A : Nat → Prop} {u U : State} {HH : Heap} (hvm : u.vm.Alike U.vm) (h : mW D n ad cA H A u HH) : mW D n ad cA H A U HH :=
  ⟨h.1, h.2.1, va_K.moved hvm h.2.2.1, fun x h1 h2 h3 => ⟨arrOfT_moved hvm (h.2.2.2.1 x h1 h2 h3).1, va_RA.moved hvm (h.2.2.2.1 x h1 h2 h3).2⟩, h.2.2.2.2⟩
theorem mRO_moved {n : Nat} {ad : Nat → Nat} {H : mH} {A : Nat → Prop} {u U : State} {HH : Heap} (hvm : u.vm.Alike U.vm) (h : mRO n ad H A u HH) : mRO n ad H A U HH := by
  obtain ⟨a, b, c, dd, q1, q2, q3, q4, r⟩ := h
  exact ⟨va_T.moved hvm a, va_T.moved hvm b, va_T.moved hvm c, fun i hi => ⟨va_O.moved hvm (dd i hi).1, va_OF.moved hvm (dd i hi).2.1, va_OF.moved hvm (dd i hi).2.2.1, va_T.moved hvm (dd i hi).2.2.2⟩, va_Z.moved hvm q1, va_Z.moved hvm q2, va_Z.moved hvm q3, va_Zq.moved hvm q4, r⟩
theorem mRO_kept {n : Nat} {ad : Nat → Nat} {H : mH} {A : Nat → Prop} {U : State} {HH HH1 : Heap} (hq : ∀ a : Nat, a < HH.size → ¬ A a → HH1[a]? = HH[a]?) (h : mRO n ad H A U HH) : mRO n ad H A U HH1 := by
  obtain ⟨a, b, c, dd, q1, q2, q3, q4, r⟩ := h
  exact ⟨a.kept hq, b.kept hq, c.kept hq, fun i hi => ⟨(dd i hi).1.kept hq, (dd i hi).2.1.kept hq, (dd i hi).2.2.1.kept hq, (dd i hi).2.2.2.kept hq⟩, q1.kept hq, q2.kept hq, q3.kept hq, q4.kept hq, r⟩
theorem mRO_narrow {n : Nat} {ad : Nat → Nat} {H : mH} {A B : Nat → Prop} {U : State} {HH : Heap} (hAB : ∀ q, B q → A q) (h : mRO n ad H A U HH) : mRO n ad H B U HH := by
  obtain ⟨a, b, c, dd, q1, q2, q3, q4, r⟩ := h
  exact ⟨a.narrow hAB, b.narrow hAB, c.narrow hAB, fun i hi => ⟨(dd i hi).1.narrow hAB, (dd i hi).2.1.narrow hAB, (dd i hi).2.2.1.narrow hAB, (dd i hi).2.2.2.narrow hAB⟩, q1.narrow hAB, q2.narrow hAB, q3.narrow hAB, q4.narrow hAB, r⟩
theorem nestL_warm {s U : State} (hW : s.WarmedH U.vm) : ∀ w ∈ mNestL, va_Nw w s → va_Nw w U := by
  intro w hw
  simp only [mNestL, List.mem_cons, List.not_mem_nil, or_false] at hw
  rcases hw with rfl | rfl | rfl | rfl | rfl | rfl | rfl | rfl <;> exact va_Nw.warmM hW
theorem mNest_warm {ad : Nat → Nat} {s U : State} (hW : s.WarmedH U.vm) (h : mNest ad s) : mNest ad U := by
  obtain ⟨a, b, c, dd, e1, e2, e3⟩ := h
  exact ⟨fun q hq => vk_R.warm hW (a q hq), fun w hw => nestL_warm hW w hw (b w hw), va_Nw.warmF hW c, va_Nw.warmF hW dd, va_AO.moved hW.alike e1, va_AO.moved hW.alike e2, va_AO.moved hW.alike e3⟩
theorem nestL_tab : ∀ w ∈ mNestL, w.onTables = true := by
  intro w hw
  simp only [mNestL, List.mem_cons, List.not_mem_nil, or_false] at hw
  rcases hw with rfl | rfl | rfl | rfl | rfl | rfl | rfl | rfl <;> rfl
theorem mNest_same {ad : Nat → Nat} {s U : State} (hv : U.vm = s.vm) (h : mNest ad s) : mNest ad U := by
  obtain ⟨a, b, c, dd, e1, e2, e3⟩ := h
  have al : s.vm.Alike U.vm := by rw [hv]; exact Vm.Alike.refl _
  exact ⟨fun q hq => vk_R.same hv (a q hq), fun w hw => va_Nw.same (nestL_tab w hw) hv.symm (b w hw), va_Nw.same rfl hv.symm c, va_Nw.same rfl hv.symm dd, va_AO.moved al e1, va_AO.moved al e2, va_AO.moved al e3⟩
abbrev mU : Type := Option mV × mH × (Nat → Nat) × (Nat → ClassId)
def mB (D : va_G) (n : Nat) (A : Nat → Prop) (a0 : mA0) (nx0 : Nat) (Q : mK) (u : mU) (t : State) : Prop :=
  Q u.1 u.2.1 ∧ (∀ v, u.1 = some v → okV u.2.1.2.2.2 v) ∧ agH nx0 a0 u.2.2.1 u.2.1 ∧ nx0 ≤ u.2.1.2.2.2 ∧ mW D n u.2.2.1 u.2.2.2 u.2.1 A t t.heap
def mQ (D : va_G) (n : Nat) (A : Nat → Prop) (a0 : mA0) (nx0 : Nat) (Q : mK) (k : Nat) : Array Value → State → Outcome → State → Prop := match k with
  | 0 => va_Qv (S := mU) (fun u => u.1 = none) (mB D n A a0 nx0 Q) A
  | 1 => va_Qi (S := mU) (fun r u => ∃ x, u.1 = some (vi x) ∧ r = Int32.ofInt x) (mB D n A a0 nx0 Q) A
  | 2 => va_Ql (S := mU) (fun r u => u.1 = some (vl r)) (mB D n A a0 nx0 Q) A
  | _ => va_Qr (S := mU) (fun _ => True) (fun u a t => (∃ h, u.1 = some (vr (some h)) ∧ a = u.2.2.1 h) ∧ mB D n A a0 nx0 Q u t) A
def mPc (D : va_G) (n : Nat) (ad : Nat → Nat) (cA : Nat → ClassId) (H : mH) (sz : Nat) (U : State) : Prop := U.heap.size = sz ∧ mW D n ad cA H (fun _ => True) U U.heap ∧ mRO n ad H (va_A (mws n ad cA H) sz) U U.heap ∧ mNest ad U
def mWs (y : Nat) : List Cond := .code (mNm y) (mBytes y) (mMax y) (mRet y) :: gTbl
theorem locs0_len (ad : Nat → Nat) : ∀ (vs : List mV), (lg_sl (vs.map (mval ad))).length = (locs0 vs).length := by
  intro vs
  induction vs with
  | nil => rfl
  | cons v r ih =>
    rcases v with x | x | (_ | a)
    · exact congrArg (· + 1) ih
    · exact congrArg (· + 2) ih
    · exact congrArg (· + 1) ih
    · exact congrArg (· + 1) ih
theorem locs0_mem (ad : Nat → Nat) (k : Nat) : ∀ (vs : List mV) (i j : Nat) (v : mV), (locs0 vs ++ List.replicate k none)[j]? = some (some v) → v ∈ vs ∧ (i + j, mval ad v) ∈ lv_args i (vs.map (mval ad)) := by
  intro vs
  induction vs with
  | nil =>
    intro i j v h
    simp only [locs0, List.nil_append] at h
    have := List.mem_of_getElem? h
    rw [List.mem_replicate] at this
    cases this.2
  | cons w r ih =>
    intro i j v h
    have one : ∀ w : mV, (mval ad w).category = 1 → locs0 (w :: r) = some w :: locs0 r → (locs0 (w :: r) ++ List.replicate k none)[j]? = some (some v) → v ∈ w :: r ∧ (i + j, mval ad v) ∈ lv_args i ((w :: r).map (mval ad)) := by
      intro w hc he h
      rw [he] at h
      simp only [List.map_cons, lv_args, hc]
      cases j with
      | zero => simp at h; subst h; exact ⟨List.mem_cons_self, List.mem_cons_self⟩
      | succ j =>
        simp only [List.cons_append, List.getElem?_cons_succ] at h
        obtain ⟨h1, h2⟩ := ih (i + 1) j v h
        refine ⟨List.mem_cons_of_mem _ h1, List.mem_cons_of_mem _ ?_⟩
        rw [show i + (j + 1) = i + 1 + j by omega]
        simpa using h2
    rcases w with x | x | (_ | a)
    · exact one _ rfl rfl h
    · have he : locs0 (.inr (.inl x) :: r) = some (.inr (.inl x)) :: none :: locs0 r := rfl
      rw [he] at h
      simp only [List.map_cons, lv_args]
      cases j with
      | zero => simp at h; subst h; exact ⟨List.mem_cons_self, List.mem_cons_self⟩
      | succ j =>
        cases j with
        | zero => simp at h
        | succ j =>
          simp only [List.cons_append, List.getElem?_cons_succ] at h
          obtain ⟨h1, h2⟩ := ih (i + 2) j v h
          refine ⟨List.mem_cons_of_mem _ h1, List.mem_cons_of_mem _ ?_⟩
          rw [show i + (j + 1 + 1) = i + 2 + j by omega]
          simpa [mval, Value.category] using h2
    · exact one _ rfl rfl h
    · exact one _ rfl rfl h
theorem okMeth_sp {y : Nat} (hm0 : okM y) : plainName (mNm y).cls = true ∧ (mNm y).cls ≠ "java/lang/invoke/MethodHandle" ∧ (mNm y).cls ≠ "java/lang/invoke/VarHandle" ∧ (parseMethodDescriptor (mNm y).desc).map (fun d => d.parameters.length) = some (nPar (mNm y)) ∧ Cond.code (mNm y) (mBytes y) (mMax y) (mRet y) ∈ gTbl ∧ Cond.initialized (mNm y).cls ∈ gTbl := by
  have h := hm0.1
  unfold okMeth at h
  simp only [Bool.and_eq_true] at h
  obtain ⟨⟨⟨h1, h2⟩, h3⟩, h4⟩ := h
  have hp : (parseMethodDescriptor (mNm y).desc).map (fun d => d.parameters.length) = some (nPar (mNm y)) := by
    unfold hasPar at h2
    unfold nPar
    cases hq : (parseMethodDescriptor (mNm y).desc).map (fun d => d.parameters.length) with
    | none => rw [hq] at h2; cases h2
    | some k => rfl
  have hm := of_decide_eq_true h1
  refine ⟨h3, hm.1, hm.2, hp, hm0.2, ?_⟩
  split at h4
  · simp only [Bool.and_eq_true, atT, decide_eq_true_eq] at h4
    exact gT h4.1.1.1 rfl
  · simp only [Bool.and_eq_true, atT, decide_eq_true_eq] at h4
    exact gT h4.1.1.1.1 rfl
  · simp only [Bool.and_eq_true, atT, decide_eq_true_eq] at h4
    exact gT h4.1.1.1.1.1 rfl
  · cases h4
set_option maxHeartbeats 4000000 in
theorem met_of {l : Launch} {n d y : Nat} {args : List mV} {H : mH} {Q : mK} (hE : ent (Pr l n) d y args H Q) (hok : okM y) (hargs : okS H.2.2.2 args) (hlen : (locs0 args).length ≤ mMax y) (D : va_G) (ad : Nat → Nat) (cA : Nat → ClassId) (sz : Nat) :
    Met l (mNm y) (mWs y) (mRm d y) (va_Pc (args.map (mval ad)) (mPc D n ad cA H sz)) (mQ D n (va_A (mws n ad cA H) sz) (ad, H.1, H.2.2.1) H.2.2.2 Q (rkOf (mRet y))) (mBud y).1 (mBud y).2 (va_A (mws n ad cA H) sz) := by
  refine Met.ofW (cc := mBytes y) (maxL := mMax y) (ret := mRet y) (okMeth_sp hok).1 rfl ?_
  intro p e s m args' below meth c s₁ B hml hv
  obtain ⟨rfl, hsz, hW, hRO, hN⟩ := hv
  subst hsz
  have hts : ∀ w ∈ gTbl, w.before (args.map (mval ad)).toArray s = true := fun w hw => atoms_spec (ws := mWs y) B.pre w (List.mem_cons_of_mem _ hw)
  generalize hAe : va_A (mws n ad cA H) s.heap.size = A at hRO ⊢
  have hA : ∀ q : Nat, s.heap.size ≤ q → A q := fun q h => by rw [← hAe]; exact Or.inr h
  have hW' : mW D n ad cA H A s s.heap := ⟨hW.1, by rw [← hAe]; exact hW.2.1.self, hW.2.2⟩
  have hl := lv_entry (args.map (mval ad)) (n := mMax y) (by rw [locs0_len]; exact hlen)
  rw [lg_entry_eq]
  generalize (lg_sl (args.map (mval ad)) ++ List.replicate (mMax y - (lg_sl (args.map (mval ad))).length) Slot.unset).toArray = lsR at hl ⊢
  refine hE p e (headSpec (mWs y) (mRm d y)).room s m (args.map (mval ad)).toArray below meth c A D ad cA s.heap [] 0 0 lsR _ (ad, H.1, H.2.2.1) H.2.2.2 ⟨B.exec, B.bytes, B.returns, hml, findClass_of_methodNamed B.named, hts, B.notSynchronized, fun h => (name_of_methodNamed B.named B.method).1.trans h, hA⟩ ⟨Nat.le_refl _, Nat.le_refl _, Nat.le_refl _, Nat.le_refl _⟩ hN hRO ?_ (fun v hv => by cases hv) (fun i v hv => okS_of hargs (locs0_mem ad _ args 0 i v hv).1) (lv_of_sub hl fun q hq => ?_) hW' va_S.rf ⟨fun _ _ => rfl, fun _ _ => ⟨rfl, rfl⟩⟩ (Nat.le_refl _) (by omega) (by omega)
  · intro ad' cA' H' HH locs cells slots ls pc ins r hdec hr1 hv hK hag hnx hW2 hS2 hc hs
    have hb := B.bytes
    have hx := B.exec
    have hlk := B.notSynchronized
    have fin : ∀ t : State, t.heap = HH → s.WarmedH t.vm → mB D n A (ad, H.1, H.2.2.1) H.2.2.2 Q (r, H', ad', cA') t := fun t ht hWt => ⟨hK, hv, hag, hnx, by rw [ht]; exact mW_moved hWt.alike hW2⟩
    refine W.widen hc hs ?_
    rcases hr1 with ⟨rfl, x, ty, rfl, h1, h2, h3⟩ | ⟨rfl, x, rfl, h1⟩ | ⟨rfl, a, ty, rfl, h1, h2⟩ | ⟨rfl, rfl, h1⟩
    · have hk : rkOf (mRet y) = 1 := by rw [h1]; exact h3
      rw [hk]
      exact W.zret (v := Int32.ofInt x) hx hb (B.returns.trans h1) h2 (fun t ht hWt => ⟨⟨Int32.ofInt x, (some (vi x), H', ad', cA'), rfl, ⟨x, rfl, rfl⟩, fin t ht hWt⟩, hS2.F ht⟩) hS2.2.2 hdec hlk
    · have hk : rkOf (mRet y) = 2 := by rw [h1]; rfl
      rw [hk]
      exact W.lret (v := x) hx hb (B.returns.trans h1) (fun t ht hWt => ⟨⟨x, (some (vl x), H', ad', cA'), rfl, rfl, fin t ht hWt⟩, hS2.F ht⟩) hS2.2.2 hdec hlk
    · have hk : rkOf (mRet y) = 3 := by rw [h1]; exact h2
      rw [hk]
      refine W.aret (v := .ref (ad' a)) (rt := ty) hx hb (B.returns.trans h1) ?_ (Or.inr ⟨_, rfl⟩) (fun t ht hWt => ⟨⟨(some (vr (some a)), H', ad', cA'), ad' a, rfl, trivial, ⟨a, rfl, rfl⟩, fin t ht hWt⟩, hS2.F ht⟩) hS2.2.2 hdec hlk
      cases ty <;> first | exact Or.inl ⟨_, rfl⟩ | exact Or.inr ⟨_, rfl⟩ | (cases h2; done)
    · have hk : rkOf (mRet y) = 0 := by rw [h1]; rfl
      rw [hk]
      exact W.vret hx hb (B.returns.trans h1) (fun t ht hWt => ⟨⟨(none, H', ad', cA'), rfl, rfl, fin t ht hWt⟩, hS2.F ht⟩) hS2.2.2 hdec hlk
  · obtain ⟨v, hv, e⟩ := lvOf_mem.mp hq
    have h2 := (locs0_mem ad _ args 0 q.1 v hv).2
    rw [Nat.zero_add, ← e] at h2
    exact h2
theorem catS_eq (ad : Nat → Nat) : ∀ (st : List mV), ((st.map (mval ad)).map fun v => v.category).sum = catS st := by
  intro st
  induction st with
  | nil => rfl
  | cons v r ih =>
    rcases v with x | x | (_ | b)
    · exact congrArg (1 + ·) ih
    · exact congrArg (2 + ·) ih
    · exact congrArg (1 + ·) ih
    · exact congrArg (1 + ·) ih
theorem mMax_le (y : Nat) : mMax y ≤ 12 := by
  unfold mMax
  rw [List.getD_eq_getElem?_getD]
  cases hq : mMaxL[y]? with
  | none => exact Nat.zero_le _
  | some v => exact (show ∀ v ∈ mMaxL, v ≤ 12 by decide +kernel) v (List.mem_of_getElem? hq)
theorem callW_inv {C : mC} {d y kc ks ic ib : Nat} {args st : List mV} {H : mH} {f : Nat → Nat → List mV → mH → Prop} (h : callW C d y kc ks ic ib args st H f) : ∃ d', d = d' + 1 ∧ catS st ≤ 8 ∧ (mBud y).1 ≤ kc ∧ (mBud y).2 ≤ ks ∧ (locs0 args).length ≤ mMax y ∧ args.length = ib ∧ C d' y args H (retW ic st (f (kc - (mBud y).1) (ks - (mBud y).2))) := by
  unfold callW at h
  split at h
  · exact h.elim
  · obtain ⟨hc, h2⟩ := chk_inv h
    simp only [Bool.and_eq_true] at hc
    exact ⟨_, rfl, Nat.le_of_ble_eq_true hc.1, Nat.le_of_ble_eq_true hc.2.1, Nat.le_of_ble_eq_true hc.2.2.1, Nat.le_of_ble_eq_true hc.2.2.2.1, Nat.eq_of_beq_eq_true hc.2.2.2.2, h2⟩
theorem mPc_blind {D : va_G} {n : Nat} {ad : Nat → Nat} {cA : Nat → ClassId} {H : mH} {sz : Nat} (av : List Value) : FrameBlind (va_Pc av (mPc D n ad cA H sz)) := by
  intro a U g mk q
  obtain ⟨q0, q1, q2, q3, q4⟩ := q
  exact ⟨q0, q1, mW_moved (u := U) (U := U.calling g mk a) (Vm.Alike.refl U.vm) q2, mRO_moved (u := U) (U := U.calling g mk a) (Vm.Alike.refl U.vm) q3, mNest_same (s := U) (U := U.calling g mk a) rfl q4⟩
theorem mPc_at {D : va_G} {n : Nat} {ad : Nat → Nat} {cA : Nat → ClassId} {H : mH} {A : Nat → Prop} {s U : State} {HH : Heap} {locs : List Loc} (hW : mW D n ad cA H A s HH) (hro : mRO n ad H A s s.heap) (hnest : mNest ad s) (hS : va_S A s.heap HH locs) (hA : ∀ q, s.heap.size ≤ q → A q) (hU : U.heap = HH) (hWm : s.WarmedH U.vm) : mPc D n ad cA H HH.size U := by
  refine ⟨by rw [hU], ?_, ?_, mNest_warm hWm hnest⟩
  · rw [hU]
    have := mW_moved hWm.alike hW
    exact ⟨this.1, this.2.1.weaken (fun _ _ _ _ => trivial), this.2.2⟩
  · rw [hU]
    refine mRO_narrow (A := A) (fun q hq => ?_) (mRO_moved hWm.alike (mRO_kept hS.2.1 hro))
    rcases hq with ⟨k, e, h⟩ | h
    · exact hW.2.1.2 k _ h
    · exact hA q (Nat.le_trans hS.1 h)
set_option maxHeartbeats 4000000 in
theorem call_fin {l : Launch} {n d y pc kc ks : Nat} {ls : mLs} {H : mH} {K : mK} {p : Program} {e : Env} {R : Room} {s : State} {m : MethodId} {args : Array Value} {below : List Frame} {meth : Method} {c : Code} {A : Nat → Prop} {D : va_G} {ad : Nat → Nat} {cA : Nat → ClassId} {HH : Heap} {locs : List Loc} {cells slots : Nat} {lsR : Array Slot} {QF : State → Prop} {ad0 : mA0} {nx0 : Nat}
    (hctx : mCtx p s m args meth c A y) (hroom : mRoom R d y) (hnest : mNest ad s) (hro : mRO n ad H A s s.heap) (hend : mEnd p l e R s m args below meth c A D n y ad0 nx0 QF K) (hls : okLs H.2.2.2 ls) (hlv : lv_has lsR (mMax y) (lvOf ad ls)) (hW : mW D n ad cA H A s HH) (hS : va_S A s.heap HH locs) (hag : agH nx0 ad0 ad H) (hnx : nx0 ≤ H.2.2.2) (hkc : cells + kc ≤ (mBud y).1) (hks : slots + ks ≤ (mBud y).2)
    {mc ms k : Nat} {st' : List mV} {st0 : List Value} {a : Array Value} (hst' : okS H.2.2.2 st') (hmc : mc ≤ kc) (hms : ms ≤ ks)
    (hr : va_Run p l e R s m args below meth c HH locs cells slots mc ms (F0 m pc lsR st0) (st'.map (mval ad)) (mQ D n (va_A (mws n ad cA H) HH.size) (ad, H.1, H.2.2.1) H.2.2.2 (retW k st' fun st H' => Pr l n d y (pc + 3) (kc - mc) (ks - ms) ls st H' K) k a) (va_A (mws n ad cA H) HH.size)) :
    W p l e R s m args below meth c HH locs cells slots QF (F0 m pc lsR st0) := by
  have hA := hctx.2.2.2.2.2.2.2.2
  have hF : ∀ q, va_A (mws n ad cA H) HH.size q → A q := fun q hq => by
    rcases hq with ⟨k, e, h⟩ | h
    · exact hW.2.1.2 k _ h
    · exact hA q (Nat.le_trans hS.1 h)
  have back : ∀ (u : mU) (t : State) (H1 : Heap) (locs1 : List Loc) (stn : List mV) (stR : List Value), t.heap = H1 → s.vm.Alike t.vm → (∀ v, u.1 = some v → okV u.2.1.2.2.2 v) → agH H.2.2.2 (ad, H.1, H.2.2.1) u.2.2.1 u.2.1 → H.2.2.2 ≤ u.2.1.2.2.2 → mW D n u.2.2.1 u.2.2.2 u.2.1 (va_A (mws n ad cA H) HH.size) t t.heap → va_S A s.heap H1 locs1 → Pr l n d y (pc + 3) (kc - mc) (ks - ms) ls stn u.2.1 K → okS u.2.1.2.2.2 stn → stn.map (mval u.2.2.1) = stR → W p l e R s m args below meth c H1 locs1 (cells + mc) (slots + ms) QF (F0 m (pc + 3) lsR stR) := by
    intro u t H1 locs1 stn stR ht hvm hv hag1 hle hW1 hS1 hP hok hstR
    subst hstR
    have hW2 := mW_moved hvm.symm hW1
    rw [ht] at hW2
    have hW3 : mW D n u.2.2.1 u.2.2.2 u.2.1 A s H1 := ⟨hW2.1, hW2.2.1.weaken (fun k q _ h => hF q.1 h), hW2.2.2⟩
    have e1 : ∀ h, h < 16 → u.2.1.1 h = H.1 h := fun h hh => (hag1.2 h hh).1
    have e2 : ∀ h, h < 16 → u.2.1.2.2.1 h = H.2.2.1 h := fun h hh => (hag1.2 h hh).2
    exact hP p e R s m args below meth c A D _ _ _ _ _ _ lsR QF ad0 nx0 hctx hroom (mNest_agr hW.2.2.2.2.1 hag1.1 hnest) (mRO_congr e1 e2 (mRO_agr hW.2.2.2.2 hag1.1 hro)) hend hok (fun i v hv => okV_le hle (hls i v hv)) (lv_agr hag1.1 hls hlv) hW3 hS1 (agH_G hag1.1 hnx e1 e2 hag) (Nat.le_trans hnx hle) (by omega) (by omega)
  have okR : ∀ u : mU, agH H.2.2.2 (ad, H.1, H.2.2.1) u.2.2.1 u.2.1 → H.2.2.2 ≤ u.2.1.2.2.2 → okS u.2.1.2.2.2 st' ∧ st'.map (mval u.2.2.1) = st'.map (mval ad) := fun u h1 h2 => ⟨fun v hv => okV_le h2 (hst' v hv), map_agr h1.1 hst'⟩
  match k, hr with
  | 0, hr =>
    refine va_callv (a := a) hr hS (fun q _ h => hF q h) hF (fun u t H1 locs1 ht hvm hw hB hz1 hk1 hS1 => ?_)
    obtain ⟨hQ, hv, hag1, hle, hW1⟩ := hB
    obtain ⟨o1, o2⟩ := okR u hag1 hle
    rw [hw] at hQ
    exact back u t H1 locs1 st' _ ht hvm hv hag1 hle hW1 hS1 hQ o1 o2
  | 1, hr =>
    refine va_calli (a := a) hr hS (fun q _ h => hF q h) hF (fun r u t H1 locs1 ht hvm hw hB hz1 hk1 hS1 => ?_)
    obtain ⟨hQ, hv, hag1, hle, hW1⟩ := hB
    obtain ⟨o1, o2⟩ := okR u hag1 hle
    obtain ⟨x, hx, rfl⟩ := hw
    have hvx := hv _ hx
    rw [hx] at hQ
    exact back u t H1 locs1 (vi x :: st') _ ht hvm hv hag1 hle hW1 hS1 hQ (okS_c hvx o1) (by rw [List.map_cons, o2]; rfl)
  | 2, hr =>
    refine va_calll (a := a) hr hS (fun q _ h => hF q h) hF (fun r u t H1 locs1 ht hvm hw hB hz1 hk1 hS1 => ?_)
    obtain ⟨hQ, hv, hag1, hle, hW1⟩ := hB
    obtain ⟨o1, o2⟩ := okR u hag1 hle
    have hvx := hv _ hw
    rw [hw] at hQ
    exact back u t H1 locs1 (vl r :: st') _ ht hvm hv hag1 hle hW1 hS1 hQ (okS_c hvx o1) (by rw [List.map_cons, o2]; rfl)
  | (k + 3), hr =>
    refine va_callr (a := a) hr hS (fun q _ h => hF q h) hF (fun u ra t H1 locs1 ht hvm hw hB hz1 hk1 hS1 => ?_)
    obtain ⟨⟨h0, hx, rfl⟩, hQ, hv, hag1, hle, hW1⟩ := hB
    obtain ⟨o1, o2⟩ := okR u hag1 hle
    have hvx := hv _ hx
    rw [hx] at hQ
    exact back u t H1 locs1 (vr (some h0) :: st') _ ht hvm hv hag1 hle hW1 hS1 hQ (okS_c hvx o1) (by rw [List.map_cons, o2]; rfl)
end
section
/-! ===== the small machine's calls, instruction by instruction ===== -/
theorem goodIn_g {ws : List Cond} (h : ∀ w ∈ ws, w ∈ gTbl) : GoodIn gTbl ws := fun w hw => ⟨h w hw, good_of_word ((List.mem_filter.mp (h w hw)).2)⟩
theorem mWs_in {y : Nat} (h : okM y) : ∀ w ∈ mWs y, w ∈ gTbl := fun w hw => by
  rcases List.mem_cons.mp hw with rfl | h2
  · exact (okMeth_sp h).2.2.2.2.1
  · exact h2
theorem okMeth_S {y : Nat} (h : okMeth y = true) (hk : mKind y = 0) : Cond.static (mNm y) ∈ gTbl := by
  unfold okMeth at h
  simp only [Bool.and_eq_true] at h
  obtain ⟨-, h4⟩ := h
  split at h4
  · simp only [Bool.and_eq_true, atT, decide_eq_true_eq] at h4
    exact gT h4.1.1.2 rfl
  · simp only [Bool.and_eq_true, beq_iff_eq] at h4
    have := h4.1.2
    omega
  · simp only [Bool.and_eq_true, beq_iff_eq] at h4
    have := h4.1.1.1.2
    omega
  · cases h4
theorem okMeth_V {y : Nat} (h : okMeth y = true) (hk : mKind y = 1) : Cond.instanceMethod (mNm y) ∈ gTbl ∧ Cond.selects (mNm y).cls (mNm y) (mNm y) ∈ gTbl ∧ (mClsOf y = 60 ∧ (mNm y).cls = "java/lang/String" ∨ mClsOf y < 10 ∧ (mNm y).cls = (clAt (mClsOf y)).1) := by
  unfold okMeth at h
  simp only [Bool.and_eq_true] at h
  obtain ⟨-, h4⟩ := h
  split at h4
  · simp only [Bool.and_eq_true, beq_iff_eq] at h4
    have := h4.2
    omega
  · simp only [Bool.and_eq_true, Bool.or_eq_true, atT, decide_eq_true_eq, beq_iff_eq] at h4
    refine ⟨gT h4.1.1.1.2 rfl, gT h4.1.1.2 rfl, ?_⟩
    rcases h4.2 with q | q
    · exact Or.inl q
    · exact Or.inr ⟨Nat.lt_of_succ_le (Nat.le_of_ble_eq_true q.1), q.2⟩
  · simp only [Bool.and_eq_true, beq_iff_eq] at h4
    have := h4.1.1.1.2
    omega
  · cases h4
theorem okMeth_I {y : Nat} (h : okMeth y = true) (hk : mKind y = 2) : Cond.instanceMethod (mNm y) ∈ gTbl ∧ (mNm y).name = "<init>" ∧ mRet y = none := by
  unfold okMeth at h
  simp only [Bool.and_eq_true] at h
  obtain ⟨-, h4⟩ := h
  split at h4
  · simp only [Bool.and_eq_true, beq_iff_eq] at h4
    have := h4.2
    omega
  · simp only [Bool.and_eq_true, beq_iff_eq] at h4
    have := h4.1.2
    omega
  · simp only [Bool.and_eq_true, atT, decide_eq_true_eq] at h4
    exact ⟨gT h4.1.1.1.1.2 rfl, h4.1.1.2, h4.1.2⟩
  · cases h4
theorem take_split {st tl : List mV} {ib : Nat} {v : mV} (h : (st.take ib).reverse = v :: tl) : st = tl.reverse ++ v :: st.drop ib := by
  have h1 : st.take ib = tl.reverse ++ [v] := by
    have := congrArg List.reverse h
    rw [List.reverse_reverse, List.reverse_cons] at this
    exact this
  conv => lhs; rw [← List.take_append_drop ib st, h1]
  simp
theorem take_split0 (st : List mV) (ib : Nat) : st = (st.take ib).reverse.reverse ++ st.drop ib := by rw [List.reverse_reverse, List.take_append_drop]
theorem okS_sub {nx : Nat} {st st' : List mV} (h : okS nx st) (hs : ∀ v ∈ st', v ∈ st) : okS nx st' := fun v hv => h v (hs v hv)
set_option maxRecDepth 100000 in
theorem objIn : Cond.instanceMethod Lib.objectInit ∈ gTbl ∧ Cond.code Lib.objectInit ⟨#[0xb1]⟩ 1 none ∈ gTbl := by decide +kernel
set_option maxRecDepth 100000 in
theorem acpIn : Cond.native arraycopyName ∈ gTbl ∧ Cond.static arraycopyName ∈ gTbl ∧ Cond.initialized "java/lang/System" ∈ gTbl := by decide +kernel
set_option maxRecDepth 100000 in
theorem mathIn : Cond.initialized "java/lang/Math" ∈ gTbl ∧ Cond.static Lib.Math.max.name ∈ gTbl ∧ Cond.code Lib.Math.max.name Lib.Math.max.code 2 (some .int) ∈ gTbl ∧ Cond.static Lib.Math.min.name ∈ gTbl ∧ Cond.code Lib.Math.min.name Lib.Math.min.code 2 (some .int) ∈ gTbl ∧ Cond.static Lib.Math.abs.name ∈ gTbl ∧ Cond.code Lib.Math.abs.name Lib.Math.abs.code 1 (some .int) ∈ gTbl := by decide +kernel
theorem cpy2_lo {α : Type} {f : Nat → Nat → α} {a i b j n h : Nat} (hh : h ≠ b) : cpy2 f a i b j n h = f h := by funext q; simp [cpy2, hh]
theorem cpy2_b {α β : Type} (g : α → β) (f : Nat → Nat → α) (a i b j n : Nat) : (fun q => g (cpy2 f a i b j n b q)) = va_cpy (fun q => g (f a q)) (fun q => g (f b q)) i j n := by
  funext q
  unfold cpy2 va_cpy
  by_cases h : j ≤ q ∧ q < j + n <;> simp [h]
/-! the check of an index -/
def yCI : MethodName := ⟨"java/lang/String", "checkIndex", "(II)V"⟩
def yPC : MethodName := ⟨"jdk/internal/util/Preconditions", "checkIndex", "(IILjava/util/function/BiFunction;)I"⟩
set_option maxRecDepth 100000 in
theorem ciIn : Cond.code yCI prog_14_method_155_code 2 none ∈ gTbl ∧ Cond.static yCI ∈ gTbl ∧ Cond.initialized yCI.cls ∈ gTbl ∧ Cond.fieldLink "java/lang/String" 1053 "jdk/internal/util/Preconditions" "SIOOBE_FORMATTER" "Ljava/util/function/BiFunction;" ∈ gTbl ∧ Cond.methodLink "java/lang/String" 1059 yPC ∈ gTbl ∧ Cond.static yPC ∈ gTbl ∧ Cond.initialized yPC.cls ∈ gTbl ∧ Cond.code yPC prog_19_method_11_code 3 (some .int) ∈ gTbl := by decide +kernel
theorem dPC0 : decode prog_19_method_11_code 0 = .ok (.iload_n 0, 1) := by decide +kernel
theorem dPC1 : decode prog_19_method_11_code 1 = .ok (.ifCond .lt 8, 3) := by decide +kernel
theorem dPC4 : decode prog_19_method_11_code 4 = .ok (.iload_n 0, 1) := by decide +kernel
theorem dPC5 : decode prog_19_method_11_code 5 = .ok (.iload_n 1, 1) := by decide +kernel
theorem dPC6 : decode prog_19_method_11_code 6 = .ok (.if_icmp .lt 10, 3) := by decide +kernel
theorem dPC16 : decode prog_19_method_11_code 16 = .ok (.iload_n 0, 1) := by decide +kernel
theorem dPC17 : decode prog_19_method_11_code 17 = .ok (.ireturn, 1) := by decide +kernel
theorem dCI0 : decode prog_14_method_155_code 0 = .ok (.iload_n 0, 1) := by decide +kernel
theorem dCI1 : decode prog_14_method_155_code 1 = .ok (.iload_n 1, 1) := by decide +kernel
theorem dCI2 : decode prog_14_method_155_code 2 = .ok (.getstatic 1053, 3) := by decide +kernel
theorem dCI5 : decode prog_14_method_155_code 5 = .ok (.invokestatic 1059, 3) := by decide +kernel
theorem dCI8 : decode prog_14_method_155_code 8 = .ok (.pop, 1) := by decide +kernel
theorem dCI9 : decode prog_14_method_155_code 9 = .ok (.return_, 1) := by decide +kernel
def fAl : Nat → Prop := fun _ => False
set_option maxHeartbeats 4000000 in
theorem c_PC (l : Launch) (i k : Int32) (o : Option Nat) (h0 : ¬ i < 0) (h1 : i < k) : Met l yPC (Cond.code yPC prog_19_method_11_code 3 (some .int) :: gTbl) (k2_rm 0 0) (va_Pc [.int i, .int k, va_rf o] (fun _ => True)) (va_Qi (S := Unit) (fun r _ => r = i) (fun _ _ => True) fAl) 0 0 fAl := by
  refine Met.ofW (cc := prog_19_method_11_code) (maxL := 3) (ret := some .int) (by decide) rfl ?_
  intro p e s m args below meth c s₁ B hml hv
  obtain ⟨rfl, -⟩ := hv
  have hx := B.exec
  have hb := B.bytes
  have hr := B.returns
  have hlk := B.notSynchronized
  have hS : va_S fAl s.heap s.heap [] := va_S.rf
  have hl : lv_has ((lg_sl [.int i, .int k, va_rf o] ++ List.replicate (3 - (lg_sl [.int i, .int k, va_rf o]).length) Slot.unset).toArray) 3 [(0, .int i), (1, .int k), (2, va_rf o)] := by
    cases o <;> exact lv_entry _ (n := 3) (Nat.le_of_ble_eq_true rfl)
  rw [lg_entry_eq]
  generalize (lg_sl [.int i, .int k, va_rf o] ++ List.replicate (3 - (lg_sl [.int i, .int k, va_rf o]).length) Slot.unset).toArray = ls at hl ⊢
  refine lv_iload_n hx hb dPC0 rfl (lv_at hl 0 rfl) ?_
  refine lv_if_lt (tgt := 9) hx hb dPC1 (by decide) (fun q => absurd q h0) (fun _ => ?_)
  refine lv_iload_n hx hb dPC4 rfl (lv_at hl 0 rfl) ?_
  refine lv_iload_n hx hb dPC5 rfl (lv_at hl 1 rfl) ?_
  refine lv_icmp_lt (tgt := 16) hx hb dPC6 (by decide) (fun _ => ?_) (fun q => absurd h1 q)
  refine lv_iload_n hx hb dPC16 rfl (lv_at hl 0 rfl) ?_
  exact W.iret (v := i) hx hb hr (fun t ht hW => ⟨⟨i, (), rfl, rfl, trivial⟩, hS.F ht⟩) hS.2.2 dPC17 hlk
set_option maxHeartbeats 4000000 in
theorem c_CI (l : Launch) (i k : Int32) (h0 : ¬ i < 0) (h1 : i < k) : Met l yCI (Cond.code yCI prog_14_method_155_code 2 none :: gTbl) (k2_rm 1 40) (va_Pc [.int i, .int k] (fun U => va_Zq "jdk/internal/util/Preconditions" "SIOOBE_FORMATTER" "Ljava/util/function/BiFunction;" fAl U U.heap)) (va_Qv (S := Unit) (fun _ => True) (fun _ _ => True) fAl) 0 0 fAl := by
  refine Met.ofW (cc := prog_14_method_155_code) (maxL := 2) (ret := none) (by decide) rfl ?_
  intro p e s m args below meth c s₁ B hml hv
  obtain ⟨rfl, hZ⟩ := hv
  have hx := B.exec
  have hb := B.bytes
  have hr := B.returns
  have hlk := B.notSynchronized
  have hown : s.vm.findClass "java/lang/String" = some m.cls := findClass_of_methodNamed B.named
  have hts : ∀ w ∈ gTbl, w.before ([Value.int i, .int k] : List Value).toArray s = true := fun w hw => atoms_spec (ws := Cond.code yCI prog_14_method_155_code 2 none :: gTbl) B.pre w (List.mem_cons_of_mem _ hw)
  have hS : va_S fAl s.heap s.heap [] := va_S.rf
  have hl := lv_entry ([.int i, .int k]) (n := 2) (Nat.le_of_ble_eq_true rfl)
  rw [lg_entry_eq]
  generalize (lg_sl [.int i, .int k] ++ List.replicate (2 - (lg_sl [.int i, .int k]).length) Slot.unset).toArray = ls at hl ⊢
  have hl : lv_has ls 2 [(0, .int i), (1, .int k)] := hl
  obtain ⟨o, hZ⟩ : ∃ o : Option Nat, va_Z "jdk/internal/util/Preconditions" "SIOOBE_FORMATTER" "Ljava/util/function/BiFunction;" (va_rf o) fAl s s.heap := by
    rcases hZ with h | ⟨t, h⟩
    · exact ⟨none, h⟩
    · exact ⟨some t, h⟩
  refine lv_iload_n hx hb dCI0 rfl (lv_at hl 0 rfl) ?_
  refine lv_iload_n hx hb dCI1 rfl (lv_at hl 1 rfl) ?_
  refine va_gets hx hb hZ hS hown (hts _ ciIn.2.2.2.1) (fun _ h => h) dCI2 ?_
  refine va_calli (a := ([.int i, .int k, va_rf o] : List Value).toArray) (va_runS (As := [.int i, .int k, va_rf o]) (rest := []) ⟨hx, hb, hml, hown, hts⟩ (c_PC l i k o h0 h1) (va_cwS 3 hts (goodIn_g (fun w hw => by
      simp only [va_wsS, List.mem_append, List.mem_cons, List.not_mem_nil, or_false] at hw
      rcases hw with (rfl | rfl | rfl) | rfl | h
      · exact ciIn.2.2.2.2.1
      · exact ciIn.2.2.2.2.2.1
      · exact ciIn.2.2.2.2.2.2.1
      · exact ciIn.2.2.2.2.2.2.2
      · exact h)) rfl rfl rfl (by decide +kernel) ⟨Nat.le_of_ble_eq_true rfl, Nat.le_of_ble_eq_true rfl⟩) ⟨fun a U g mk q => q, fun U hU hW => ⟨rfl, trivial⟩⟩ rfl rfl hl.1 rfl (lv_room (Nat.zero_le _)) dCI5 ⟨Nat.zero_le _, Nat.zero_le _⟩) hS (fun q _ h => h) (fun q h => h) (fun r u t H1 locs1 ht hvm hw hB hz1 hk1 hS1 => ?_)
  refine lv_pop hx hb dCI8 rfl ?_
  exact W.vret hx hb hr (fun t ht hW => ⟨⟨(), rfl, trivial, trivial⟩, hS1.F ht⟩) hS1.2.2 dCI9 hlk
set_option maxRecDepth 20000 in
set_option maxHeartbeats 2000000 in
theorem cl_invokevirtual {l : Launch} {n d y pc : Nat} {i : Nat} {len ia ib ic : Nat} {z : Int} {sw : List (Int × Nat)} {kc ks : Nat} {ls : mLs} {st : List mV} {H : mH} {K : mK} (hM : ∀ t, t < 228 → okM t) (hw : okRow (y, pc, .invokevirtual i, len, (ia, ib, ic), z, sw) = true) (hstep : stepW n (Pr l n) (ent (Pr l n)) d (y, pc, .invokevirtual i, len, (ia, ib, ic), z, sw) kc ks ls st H K) : Pr l n d y pc kc ks ls st H K := by
  obtain ⟨hdec, hins, hyl⟩ := okRow_sp hw
  simp only [okIns, Bool.and_eq_true, Bool.or_eq_true, decide_eq_true_eq, beq_iff_eq] at hins
  intro p e R s m args below meth c A D ad cA HH locs cells slots lsR QF ad0 nx0 hctx hroom hnest hro hend hst hls hlv hW hS hag hnx hkc hks
  obtain ⟨hx, hb, hr, hml, hown, hts, hlk, hini, hA⟩ := id hctx
  have nxt : ∀ {pc' : Nat} {st' : List mV}, Pr l n d y pc' kc ks ls st' H K → okS H.2.2.2 st' → W p l e R s m args below meth c HH locs cells slots QF (F0 m pc' lsR (st'.map (mval ad))) := fun h ok => h p e R s m args below meth c A D ad cA HH locs cells slots lsR QF ad0 nx0 hctx hroom hnest hro hend ok hls hlv hW hS hag hnx hkc hks
  have nxtL : ∀ {pc' : Nat} {st' : List mV} {ls' : mLs} {lsR' : Array Slot}, Pr l n d y pc' kc ks ls' st' H K → okS H.2.2.2 st' → okLs H.2.2.2 ls' → lv_has lsR' (mMax y) (lvOf ad ls') → W p l e R s m args below meth c HH locs cells slots QF (F0 m pc' lsR' (st'.map (mval ad))) := fun h ok okl hl => h p e R s m args below meth c A D ad cA HH locs cells slots _ QF ad0 nx0 hctx hroom hnest hro hend ok okl hl hW hS hag hnx hkc hks
  dsimp only [stepW] at hstep
  obtain ⟨⟨⟨⟨⟨rfl, h228⟩, hkd⟩, hl⟩, hnp⟩, hic⟩ := hins
  have hok := hM ia (Nat.lt_of_succ_le (Nat.le_of_ble_eq_true h228))
  obtain ⟨v1, v2, v3⟩ := okMeth_V hok.1 hkd
  obtain ⟨s1, s2, s3, s4, s5, s6⟩ := okMeth_sp hok
  obtain ⟨a, tl, hargs, hs⟩ := headR_inv hstep
  obtain ⟨hta, hs2⟩ := chk_inv hs
  have hta : TY a = mClsOf ia := Nat.eq_of_beq_eq_true hta
  obtain ⟨d', rfl, hcat, hmc, hms, hll, hlen, hE⟩ := callW_inv hs2
  subst hic
  have hargsok : okS H.2.2.2 ((st.take ib).reverse) := okS_sub hst fun v hv => List.mem_of_mem_take (List.mem_reverse.mp hv)
  have hrest : okS H.2.2.2 (st.drop ib) := okS_sub hst fun v hv => List.mem_of_mem_drop hv
  obtain ⟨r1, r2, r3, r4⟩ := id hroom
  have hmx := mMax_le ia
  rw [hargs] at hargsok hlen hll hE
  have hlt : a < H.2.2.2 := okS_h hargsok
  have M := met_of hE hok hargsok hll D ad cA HH.size
  have recv : ∃ cellB : Cell, HH[ad a]? = some cellB ∧ cellB.vm.isStatics = false ∧ s.vm.findClass (mNm ia).cls = some cellB.cls := by
    rcases v3 with ⟨q1, q2⟩ | ⟨q1, q2⟩
    · rw [q2]
      obtain ⟨g1, g2⟩ := TY60 (hta.trans q1)
      have hq := (hro.2.2.2.1 (a - 3) (by omega)).1
      rw [show 3 + (a - 3) = a by omega] at hq
      exact va_Orecv hq hS
    · rw [q2, ← hta]
      exact va_recv hW.2.2.1 hW.1 (clAt_in (by omega)) (by rw [mws_at (hi_of (by omega)) hlt, mcell_obj (by omega)])
  refine call_fin (a := (Value.ref (ad a) :: tl.map (mval ad)).toArray) hctx hroom hnest hro hend hls hlv hW hS hag hnx hkc hks hrest hmc hms (va_runV (As := tl.map (mval ad)) (C := (mNm ia).cls) ⟨hx, hb, hml, hown, hts⟩ M (cwV (nPar (mNm ia)) hts (goodIn_g (fun w hw => ?_)) rfl rfl rfl ⟨rfl, s2, s3, s4⟩ ⟨?_, ?_⟩) ⟨mPc_blind _, recv, fun U hU hWm => ⟨rfl, mPc_at hW hro hnest hS hA hU hWm⟩⟩ rfl ?_ hlv.1 ?_ (lv_room ?_) hdec ⟨?_, ?_⟩)
  · simp only [wsV, List.mem_append, List.mem_cons, List.not_mem_nil, or_false] at hw
    rcases hw with (rfl | rfl | rfl | rfl) | h
    · exact wAt_sp hl rfl
    · exact v1
    · exact v2
    · exact s6
    · exact mWs_in hok w h
  · show d' + 2 + 1 ≤ R.frames
    omega
  · show 8 + (mMax ia + 11) + (40 * d' + 200) ≤ R.locals
    omega
  · simp only [List.length_map, List.length_cons] at hlen ⊢
    omega
  · show st.map (mval ad) = _
    rw [take_split hargs]
    simp only [List.map_append, List.map_reverse, List.map_cons]
    rw [← take_split hargs]
    rfl
  · rw [catS_eq]; exact hcat
  · omega
  · omega
set_option maxRecDepth 20000 in
set_option maxHeartbeats 2000000 in
theorem cl_invokestatic {l : Launch} {n d y pc : Nat} {i : Nat} {len ia ib ic : Nat} {z : Int} {sw : List (Int × Nat)} {kc ks : Nat} {ls : mLs} {st : List mV} {H : mH} {K : mK} (hM : ∀ t, t < 228 → okM t) (hw : okRow (y, pc, .invokestatic i, len, (ia, ib, ic), z, sw) = true) (hstep : stepW n (Pr l n) (ent (Pr l n)) d (y, pc, .invokestatic i, len, (ia, ib, ic), z, sw) kc ks ls st H K) : Pr l n d y pc kc ks ls st H K := by
  obtain ⟨hdec, hins, hyl⟩ := okRow_sp hw
  simp only [okIns, Bool.and_eq_true, Bool.or_eq_true, decide_eq_true_eq, beq_iff_eq] at hins
  intro p e R s m args below meth c A D ad cA HH locs cells slots lsR QF ad0 nx0 hctx hroom hnest hro hend hst hls hlv hW hS hag hnx hkc hks
  obtain ⟨hx, hb, hr, hml, hown, hts, hlk, hini, hA⟩ := id hctx
  have nxt : ∀ {pc' : Nat} {st' : List mV}, Pr l n d y pc' kc ks ls st' H K → okS H.2.2.2 st' → W p l e R s m args below meth c HH locs cells slots QF (F0 m pc' lsR (st'.map (mval ad))) := fun h ok => h p e R s m args below meth c A D ad cA HH locs cells slots lsR QF ad0 nx0 hctx hroom hnest hro hend ok hls hlv hW hS hag hnx hkc hks
  have nxtL : ∀ {pc' : Nat} {st' : List mV} {ls' : mLs} {lsR' : Array Slot}, Pr l n d y pc' kc ks ls' st' H K → okS H.2.2.2 st' → okLs H.2.2.2 ls' → lv_has lsR' (mMax y) (lvOf ad ls') → W p l e R s m args below meth c HH locs cells slots QF (F0 m pc' lsR' (st'.map (mval ad))) := fun h ok okl hl => h p e R s m args below meth c A D ad cA HH locs cells slots _ QF ad0 nx0 hctx hroom hnest hro hend ok okl hl hW hS hag hnx hkc hks
  dsimp only [stepW] at hstep
  obtain ⟨rfl, hins⟩ := hins
  obtain ⟨r1, r2, r3, r4⟩ := id hroom
  split at hins
  · replace hstep : copyW st H n (fun r H => Pr l n d y (pc + 3) kc ks ls r H K) := hstep
    unfold copyW at hstep
    split at hstep
    · rename_i k j b i0 a0 r
      obtain ⟨a, rfl, h1⟩ := drf_inv hstep
      obtain ⟨b, rfl, h2⟩ := drf_inv h1
      obtain ⟨⟨g1, g2, g3, g4, g5⟩, h3⟩ := h2
      obtain ⟨hc, h4⟩ := chk_inv h3
      simp only [Bool.and_eq_true] at hc
      have hTT : TY a = TY b := Nat.eq_of_beq_eq_true hc.1
      have hcat : catS r ≤ 8 := Nat.le_of_ble_eq_true hc.2
      have hlta : a < H.2.2.2 := okS_h (okS_t (okS_t (okS_t (okS_t hst))))
      have hltb : b < H.2.2.2 := okS_h (okS_t (okS_t hst))
      have hrok : okS H.2.2.2 r := okS_t (okS_t (okS_t (okS_t (okS_t hst))))
      have hok := hW.2.2.2.2
      have nn : ∀ z : Int, 0 ≤ z → z ≤ 600 → ¬ Int32.ofInt z < 0 ∧ (Int32.ofInt z).toNatClampNeg = z.toNat := fun z h1 h2 => by
        constructor
        · rw [show (0 : Int32) = Int32.ofInt 0 from rfl, ofInt_lt ⟨by omega, by omega⟩ ⟨by omega, by omega⟩]; omega
        · show (Int32.ofInt z).toInt.toNat = _
          rw [toInt_ofInt_id ⟨by omega, by omega⟩]
      have hloc : ((r.map (mval ad)).map fun v => v.category).sum + (nativeFrameWords "java/lang/System" "arraycopy" 5 + 11) ≤ R.locals := by
        rw [catS_eq]
        have : nativeFrameWords "java/lang/System" "arraycopy" 5 = 7 := by decide
        omega
      split at h4
      · rename_i h100
        have ht : TY a = 100 := Nat.eq_of_beq_eq_true h100
        have h16a := hi_of (h := a) (by omega)
        have h16b := hi_of (h := b) (by omega)
        have hLa := LN_le (n := n) (h := a) (by omega)
        have hLb := LN_le (n := n) (h := b) (by omega)
        have hAa := hW.2.2.2.1 a h16a hlta (by omega)
        have hAb := hW.2.2.2.1 b h16b hltb (by omega)
        rw [show ety a = .int by simp [ety, ht]] at hAa
        rw [show ety b = .int by simp [ety, ← hTT, ht]] at hAb
        obtain ⟨ni, ci⟩ := nn i0 g1 (by omega)
        obtain ⟨nj, cj⟩ := nn j g2 (by omega)
        obtain ⟨nk, ck⟩ := nn k g3 (by omega)
        refine va_copyi (tys := [(cA a, .int), (cA b, .int)]) (f := fun q => Int32.ofInt (H.1 a q)) (g := fun q => Int32.ofInt (H.1 b q)) (n0 := LN n a) (n1 := LN n b) (ty := .int) hx hb (hml.trans hlv.1.symm) hown (hts _ (wAt_sp hins rfl)) (hts _ acpIn.1) (hts _ acpIn.2.1) (hts _ acpIn.2.2) ⟨hW.2.2.1.1, fun q w hq => ?_⟩ hW.1 hW.2.1 hS (a - 16) (b - 16) 0 1 (by rw [mws_at h16a hlta, mcell_int (Or.inl ht)]) (by rw [mws_at h16b hltb, mcell_int (Or.inl (by omega))]) rfl rfl rfl ni nj nk (by rw [ci, ck]; omega) (by rw [cj, ck]; omega) (fun _ _ => rfl) (by omega) hloc hdec (fun HH1 locs1 hP1 hD1 hS1 => ?_)
        · match q, hq with
          | 0, hq => simp at hq; subst hq; exact hAa
          | 1, hq => simp at hq; subst hq; exact hAb
          | q + 2, hq => simp at hq
        · rw [ci, cj, ck] at hP1 hD1
          refine h4 p e R s m args below meth c A D ad cA HH1 locs1 cells slots lsR QF ad0 nx0 hctx hroom hnest (mRO_congr (fun h hh => cpy2_lo (by omega)) (fun _ _ => rfl) hro) hend hrok hls hlv (mW_set hW h16b hltb rfl (fun h hh => ⟨cpy2_lo hh, rfl, rfl⟩) ⟨hok.1, fun x q => ?_, hok.2.2.1, fun x hx q => ⟨?_, (hok.2.2.2 x hx q).2⟩⟩ ?_ hP1 hD1) hS1 (agH_H (fun h hh => cpy2_lo (by omega)) (fun _ _ => rfl) hag) hnx hkc hks
          · show -2147483648 ≤ cpy2 H.1 a i0.toNat b j.toNat k.toNat x q ∧ cpy2 H.1 a i0.toNat b j.toNat k.toNat x q < 2147483648
            unfold cpy2; split <;> exact hok.2.1 _ _
          · show cpy2 H.1 a i0.toNat b j.toNat k.toNat x q = 0
            have hx' : H.2.2.2 ≤ x := hx
            rw [cpy2_lo (by omega)]
            exact (hok.2.2.2 x hx q).1
          · rw [mcell_int (Or.inl (by omega))]
            exact congrArg (fun f => Sum.inl (cA b, (LN n b, Sum.inl f))) (cpy2_b Int32.ofInt H.1 a i0.toNat b j.toNat k.toNat)
      · obtain ⟨h101, h4⟩ := chk_inv h4
        have ht : TY a = 101 := Nat.eq_of_beq_eq_true h101
        have h16a := hi_of (h := a) (by omega)
        have h16b := hi_of (h := b) (by omega)
        have hLa := LN_le (n := n) (h := a) (by omega)
        have hLb := LN_le (n := n) (h := b) (by omega)
        have hAa := hW.2.2.2.1 a h16a hlta (by omega)
        have hAb := hW.2.2.2.1 b h16b hltb (by omega)
        rw [show ety a = .long by simp [ety, ht]] at hAa
        rw [show ety b = .long by simp [ety, ← hTT, ht]] at hAb
        obtain ⟨ni, ci⟩ := nn i0 g1 (by omega)
        obtain ⟨nj, cj⟩ := nn j g2 (by omega)
        obtain ⟨nk, ck⟩ := nn k g3 (by omega)
        refine va_copyl (tys := [(cA a, .long), (cA b, .long)]) (f := H.2.1 a) (g := H.2.1 b) (n0 := LN n a) (n1 := LN n b) (ty := .long) hx hb (hml.trans hlv.1.symm) hown (hts _ (wAt_sp hins rfl)) (hts _ acpIn.1) (hts _ acpIn.2.1) (hts _ acpIn.2.2) ⟨hW.2.2.1.1, fun q w hq => ?_⟩ hW.1 hW.2.1 hS (a - 16) (b - 16) 0 1 (by rw [mws_at h16a hlta, mcell_long ht]) (by rw [mws_at h16b hltb, mcell_long (by omega)]) rfl rfl rfl ni nj nk (by rw [ci, ck]; omega) (by rw [cj, ck]; omega) (fun _ _ => rfl) (by omega) hloc hdec (fun HH1 locs1 hP1 hD1 hS1 => ?_)
        · match q, hq with
          | 0, hq => simp at hq; subst hq; exact hAa
          | 1, hq => simp at hq; subst hq; exact hAb
          | q + 2, hq => simp at hq
        · rw [ci, cj, ck] at hP1 hD1
          refine h4 p e R s m args below meth c A D ad cA HH1 locs1 cells slots lsR QF ad0 nx0 hctx hroom hnest (mRO_congr (fun h hh => rfl) (fun _ _ => rfl) hro) hend hrok hls hlv (mW_set hW h16b hltb rfl (fun h hh => ⟨rfl, cpy2_lo hh, rfl⟩) ⟨hok.1, hok.2.1, hok.2.2.1, fun x hx q => ⟨(hok.2.2.2 x hx q).1, ?_, (hok.2.2.2 x hx q).2.2⟩⟩ ?_ hP1 hD1) hS1 (agH_H (fun h hh => rfl) (fun _ _ => rfl) hag) hnx hkc hks
          · show cpy2 H.2.1 a i0.toNat b j.toNat k.toNat x q = 0
            have hx' : H.2.2.2 ≤ x := hx
            rw [cpy2_lo (by omega)]
            exact (hok.2.2.2 x hx q).2.1
          · rw [mcell_long (by omega)]
            exact congrArg (fun f => Sum.inl (cA b, (LN n b, Sum.inr (Sum.inl f)))) (cpy2_b id H.2.1 a i0.toNat b j.toNat k.toNat)
    · exact hstep.elim
  · replace hstep : chkIdxW st (fun r => Pr l n d y (pc + 3) kc ks ls r H K) := hstep
    obtain ⟨i0, k, r, rfl, ⟨g1, g2⟩, hs⟩ := eII_inv hstep
    obtain ⟨hc, hs2⟩ := chk_inv hs
    have hcat : catS r ≤ 8 := Nat.le_of_ble_eq_true hc
    have hi0 : -2147483648 ≤ i0 ∧ i0 < 2147483648 := okS_h (okS_t hst)
    have hk0 : -2147483648 ≤ k ∧ k < 2147483648 := okS_h hst
    have hrok : okS H.2.2.2 r := okS_t (okS_t hst)
    have ni : ¬ Int32.ofInt i0 < 0 := by
      rw [show (0 : Int32) = Int32.ofInt 0 from rfl, ofInt_lt hi0 ⟨by omega, by omega⟩]; omega
    refine va_callv (a := ([.int (Int32.ofInt i0), .int (Int32.ofInt k)] : List Value).toArray) (va_runS (As := [.int (Int32.ofInt i0), .int (Int32.ofInt k)]) (rest := r.map (mval ad)) ⟨hx, hb, hml, hown, hts⟩ (c_CI l _ _ ni ((ofInt_lt hi0 hk0).mpr g2)) (va_cwS 2 hts (goodIn_g (fun w hw => by
        simp only [va_wsS, List.mem_append, List.mem_cons, List.not_mem_nil, or_false] at hw
        rcases hw with (rfl | rfl | rfl) | rfl | h
        · exact wAt_sp hins rfl
        · exact ciIn.2.1
        · exact ciIn.2.2.1
        · exact ciIn.1
        · exact h)) rfl rfl rfl (by decide +kernel) ⟨by show 1 + 1 ≤ R.frames; omega, by show 8 + (2 + 11) + 40 ≤ R.locals; omega⟩) ⟨fun a U g mk q => ⟨q.1, va_Zq.moved (u := U) (U := U.calling g mk a) (Vm.Alike.refl U.vm) q.2⟩, fun U hU hWm => ⟨rfl, by
        dsimp only
        rw [hU]
        exact ((va_Zq.moved hWm.alike hro.2.2.2.2.2.2.2.1).kept hS.2.1).narrow (fun q hq => hq.elim)⟩⟩ rfl rfl hlv.1 rfl (lv_room (by rw [catS_eq]; exact hcat)) hdec ⟨by show cells + 0 ≤ R.cells; omega, by show slots + 0 ≤ R.slots; omega⟩) hS (fun q _ h => h.elim) (fun q h => h.elim) (fun u t H1 locs1 ht hvm hw hB hz1 hk1 hS1 => ?_)
    exact hs2 p e R s m args below meth c A D ad cA H1 locs1 cells slots lsR QF ad0 nx0 hctx hroom hnest hro hend hrok hls hlv ⟨hW.1.kept (fun q w hq => hk1 w.1 (hW.1 q w hq).lt (fun h => h)), hW.2⟩ hS1 hag hnx hkc hks
  · replace hstep : eII st (fun a b r => chk (Nat.ble (catS r) 8) (Pr l n d y (pc + 3) kc ks ls (vi (if a < b then b else a) :: r) H K)) := hstep
    obtain ⟨a, b, r, rfl, hs⟩ := eII_inv hstep
    obtain ⟨hc, hs2⟩ := chk_inv hs
    have hcat : catS r ≤ 8 := Nat.le_of_ble_eq_true hc
    have ha : -2147483648 ≤ a ∧ a < 2147483648 := okS_h (okS_t hst)
    have hb0 : -2147483648 ≤ b ∧ b < 2147483648 := okS_h hst
    refine va_mmax (rest := r.map (mval ad)) hx hb (hml.trans hlv.1.symm) hown (hts _ (wAt_sp hins rfl)) (hts _ mathIn.2.1) (hts _ mathIn.1) (hts _ mathIn.2.2.1) (by omega) (by rw [catS_eq]; omega) (by omega) (by omega) hdec ?_
    rw [show (if Int32.ofInt a < Int32.ofInt b then Int32.ofInt b else Int32.ofInt a) = Int32.ofInt (if a < b then b else a) by
      by_cases q : a < b
      · rw [if_pos q, if_pos ((ofInt_lt ha hb0).mpr q)]
      · rw [if_neg q, if_neg (fun w => q ((ofInt_lt ha hb0).mp w))]]
    exact nxt hs2 (okS_c (by show _ ∧ _; split <;> assumption) (okS_t (okS_t hst)))
  · replace hstep : eII st (fun a b r => chk (Nat.ble (catS r) 8) (Pr l n d y (pc + 3) kc ks ls (vi (if b < a then b else a) :: r) H K)) := hstep
    obtain ⟨a, b, r, rfl, hs⟩ := eII_inv hstep
    obtain ⟨hc, hs2⟩ := chk_inv hs
    have hcat : catS r ≤ 8 := Nat.le_of_ble_eq_true hc
    have ha : -2147483648 ≤ a ∧ a < 2147483648 := okS_h (okS_t hst)
    have hb0 : -2147483648 ≤ b ∧ b < 2147483648 := okS_h hst
    refine va_mmin (rest := r.map (mval ad)) hx hb (hml.trans hlv.1.symm) hown (hts _ (wAt_sp hins rfl)) (hts _ mathIn.2.2.2.1) (hts _ mathIn.1) (hts _ mathIn.2.2.2.2.1) (by omega) (by rw [catS_eq]; omega) (by omega) (by omega) hdec ?_
    rw [show (if Int32.ofInt b < Int32.ofInt a then Int32.ofInt b else Int32.ofInt a) = Int32.ofInt (if b < a then b else a) by
      by_cases q : b < a
      · rw [if_pos q, if_pos ((ofInt_lt hb0 ha).mpr q)]
      · rw [if_neg q, if_neg (fun w => q ((ofInt_lt hb0 ha).mp w))]]
    exact nxt hs2 (okS_c (by show _ ∧ _; split <;> assumption) (okS_t (okS_t hst)))
  · replace hstep : eI st (fun a r => chk (Nat.ble (catS r) 8) (Pr l n d y (pc + 3) kc ks ls (vi (wr (if 0 ≤ a then a else 0 - a)) :: r) H K)) := hstep
    obtain ⟨a, r, rfl, hs⟩ := eI_inv hstep
    obtain ⟨hc, hs2⟩ := chk_inv hs
    have hcat : catS r ≤ 8 := Nat.le_of_ble_eq_true hc
    have ha : -2147483648 ≤ a ∧ a < 2147483648 := okS_h hst
    refine va_mabs (rest := r.map (mval ad)) hx hb (hml.trans hlv.1.symm) hown (hts _ (wAt_sp hins rfl)) (hts _ mathIn.2.2.2.2.2.1) (hts _ mathIn.1) (hts _ mathIn.2.2.2.2.2.2) (by omega) (by rw [catS_eq]; omega) (by omega) (by omega) hdec ?_
    rw [show (if 0 ≤ Int32.ofInt a then Int32.ofInt a else 0 - Int32.ofInt a) = Int32.ofInt (wr (if 0 ≤ a then a else 0 - a)) by
      by_cases q : 0 ≤ a
      · have h1 : (0 : Int32) ≤ Int32.ofInt a := (ofInt_le (a := 0) ⟨by omega, by omega⟩ ha).mpr q
        rw [if_pos q, if_pos h1, wr_id ha.1 ha.2]
      · have h1 : ¬ (0 : Int32) ≤ Int32.ofInt a := fun w => q ((ofInt_le (a := 0) ⟨by omega, by omega⟩ ha).mp w)
        rw [if_neg q, if_neg h1]
        exact ofInt_sub' 0 a]
    exact nxt hs2 (okS_c (wrV _ _) (okS_t hst))
  · rename_i hz3 hz4 hz5 hz6 hz7
    split at hstep
    · exact absurd rfl hz3
    · exact absurd rfl hz4
    · exact absurd rfl hz5
    · exact absurd rfl hz6
    · exact absurd rfl hz7
    · simp only [Bool.and_eq_true, beq_iff_eq] at hins
      obtain ⟨⟨⟨⟨h228, hkd⟩, hl⟩, hnp⟩, hic⟩ := hins
      have hok := hM ia (Nat.lt_of_succ_le (Nat.le_of_ble_eq_true h228))
      have v1 := okMeth_S hok.1 hkd
      obtain ⟨s1, s2, s3, s4, s5, s6⟩ := okMeth_sp hok
      obtain ⟨d', rfl, hcat, hmc, hms, hll, hlen, hE⟩ := callW_inv hstep
      subst hic
      have hargsok : okS H.2.2.2 ((st.take ib).reverse) := okS_sub hst fun v hv => List.mem_of_mem_take (List.mem_reverse.mp hv)
      have hrest : okS H.2.2.2 (st.drop ib) := okS_sub hst fun v hv => List.mem_of_mem_drop hv
      have hmx := mMax_le ia
      have M := met_of hE hok hargsok hll D ad cA HH.size
      refine call_fin (a := ((st.take ib).reverse.map (mval ad)).toArray) hctx hroom hnest hro hend hls hlv hW hS hag hnx hkc hks hrest hmc hms (va_runS (As := (st.take ib).reverse.map (mval ad)) ⟨hx, hb, hml, hown, hts⟩ M (va_cwS (nPar (mNm ia)) hts (goodIn_g (fun w hw => ?_)) rfl rfl rfl ⟨s2, s3, s4⟩ ⟨?_, ?_⟩) ⟨mPc_blind _, fun U hU hWm => ⟨rfl, mPc_at hW hro hnest hS hA hU hWm⟩⟩ rfl ?_ hlv.1 ?_ (lv_room ?_) hdec ⟨?_, ?_⟩)
      · simp only [va_wsS, List.mem_append, List.mem_cons, List.not_mem_nil, or_false] at hw
        rcases hw with (rfl | rfl | rfl) | h
        · exact wAt_sp hl rfl
        · exact v1
        · exact s6
        · exact mWs_in hok w h
      · show d' + 2 + 1 ≤ R.frames
        omega
      · show 8 + (mMax ia + 11) + (40 * d' + 200) ≤ R.locals
        omega
      · simp only [List.length_map] at hlen ⊢
        omega
      · show st.map (mval ad) = _
        rw [← List.map_reverse, ← List.map_append, ← take_split0]
      · rw [catS_eq]; exact hcat
      · omega
      · omega
set_option maxRecDepth 20000 in
set_option maxHeartbeats 2000000 in
theorem cl_invokespecial {l : Launch} {n d y pc : Nat} {i : Nat} {len ia ib ic : Nat} {z : Int} {sw : List (Int × Nat)} {kc ks : Nat} {ls : mLs} {st : List mV} {H : mH} {K : mK} (hM : ∀ t, t < 228 → okM t) (hw : okRow (y, pc, .invokespecial i, len, (ia, ib, ic), z, sw) = true) (hstep : stepW n (Pr l n) (ent (Pr l n)) d (y, pc, .invokespecial i, len, (ia, ib, ic), z, sw) kc ks ls st H K) : Pr l n d y pc kc ks ls st H K := by
  obtain ⟨hdec, hins, hyl⟩ := okRow_sp hw
  simp only [okIns, Bool.and_eq_true, Bool.or_eq_true, decide_eq_true_eq, beq_iff_eq] at hins
  intro p e R s m args below meth c A D ad cA HH locs cells slots lsR QF ad0 nx0 hctx hroom hnest hro hend hst hls hlv hW hS hag hnx hkc hks
  obtain ⟨hx, hb, hr, hml, hown, hts, hlk, hini, hA⟩ := id hctx
  have nxt : ∀ {pc' : Nat} {st' : List mV}, Pr l n d y pc' kc ks ls st' H K → okS H.2.2.2 st' → W p l e R s m args below meth c HH locs cells slots QF (F0 m pc' lsR (st'.map (mval ad))) := fun h ok => h p e R s m args below meth c A D ad cA HH locs cells slots lsR QF ad0 nx0 hctx hroom hnest hro hend ok hls hlv hW hS hag hnx hkc hks
  have nxtL : ∀ {pc' : Nat} {st' : List mV} {ls' : mLs} {lsR' : Array Slot}, Pr l n d y pc' kc ks ls' st' H K → okS H.2.2.2 st' → okLs H.2.2.2 ls' → lv_has lsR' (mMax y) (lvOf ad ls') → W p l e R s m args below meth c HH locs cells slots QF (F0 m pc' lsR' (st'.map (mval ad))) := fun h ok okl hl => h p e R s m args below meth c A D ad cA HH locs cells slots _ QF ad0 nx0 hctx hroom hnest hro hend ok okl hl hW hS hag hnx hkc hks
  dsimp only [stepW] at hstep
  obtain ⟨rfl, hins⟩ := hins
  obtain ⟨r1, r2, r3, r4⟩ := id hroom
  split at hins
  · obtain ⟨x, r, rfl, hs⟩ := eR_inv hstep
    obtain ⟨a, rfl, hs2⟩ := drf_inv hs
    obtain ⟨hc, hs3⟩ := chk_inv hs2
    have hcat : catS r ≤ 8 := Nat.le_of_ble_eq_true hc
    refine W.objInit (g := F0 m pc lsR ((vr (some a) :: r).map (mval ad))) (rest := r.map (mval ad)) hx hb hown (hts _ (wAt_sp hins rfl)) (hts _ objIn.1) (hts _ objIn.2) rfl (hlv.1.trans hml.symm) rfl hdec (by omega) ?_ (nxt hs3 (okS_t hst))
    rw [catS_eq]
    show 2 * 0 + catS r + 12 ≤ R.locals
    omega
  · rename_i hz2
    split at hstep
    · exact absurd rfl hz2
    · simp only [Bool.and_eq_true, Bool.or_eq_true, beq_iff_eq, decide_eq_true_eq] at hins
      obtain ⟨⟨⟨⟨h228, hkd⟩, hl⟩, hnp⟩, hic⟩ := hins
      have hok := hM ia (Nat.lt_of_succ_le (Nat.le_of_ble_eq_true h228))
      obtain ⟨v1, v2, v3⟩ := okMeth_I hok.1 hkd
      obtain ⟨s1, s2, s3, s4, s5, s6⟩ := okMeth_sp hok
      obtain ⟨a, tl, hargs, hs⟩ := headR_inv hstep
      obtain ⟨hta, hs2⟩ := chk_inv hs
      obtain ⟨d', rfl, hcat, hmc, hms, hll, hlen, hE⟩ := callW_inv hs2
      have hargsok : okS H.2.2.2 ((st.take ib).reverse) := okS_sub hst fun v hv => List.mem_of_mem_take (List.mem_reverse.mp hv)
      have hrest : okS H.2.2.2 (st.drop ib) := okS_sub hst fun v hv => List.mem_of_mem_drop hv
      have hmx := mMax_le ia
      rw [hargs] at hargsok hlen hll hE
      have hk0 : rkOf (mRet ia) = 0 := by rw [v3]; rfl
      have M := met_of hE hok hargsok hll D ad cA HH.size
      rw [hk0] at M
      subst hic
      have hws : mWs ia = Cond.code (mNm ia) (mBytes ia) (mMax ia) none :: gTbl := by unfold mWs; rw [v3]
      have hlen2 : (tl.map (mval ad)).length = nPar (mNm ia) := by
        simp only [List.length_map, List.length_cons] at hlen ⊢
        omega
      have hst2 : st.map (mval ad) = (tl.map (mval ad)).reverse ++ Value.ref (ad a) :: (st.drop ib).map (mval ad) := by
        conv => lhs; rw [take_split hargs]
        simp only [List.map_append, List.map_reverse, List.map_cons]
        rfl
      have hfr : (mRm d' ia).frames + 1 ≤ R.frames := by
        show d' + 2 + 1 ≤ R.frames
        omega
      have hlo : 8 + (mMax ia + 11) + (mRm d' ia).locals ≤ R.locals := by
        show 8 + (mMax ia + 11) + (40 * d' + 200) ≤ R.locals
        omega
      have hpre : PreS s HH (va_Pc ((vr (some a) :: tl).map (mval ad)) (mPc D n ad cA H HH.size)) (Value.ref (ad a) :: tl.map (mval ad)) := ⟨mPc_blind _, fun U hU hWm => ⟨rfl, mPc_at hW hro hnest hS hA hU hWm⟩⟩
      have hrm : 2 * (F0 m pc lsR (st.map (mval ad))).monitorRoom + (((st.drop ib).map (mval ad)).map fun v => v.category).sum ≤ 8 := lv_room (by rw [catS_eq]; exact hcat)
      refine call_fin (k := 0) (a := (Value.ref (ad a) :: tl.map (mval ad)).toArray) hctx hroom hnest hro hend hls hlv hW hS hag hnx hkc hks hrest hmc hms ?_
      rcases hl with hl | hl
      · exact va_runI (As := tl.map (mval ad)) ⟨hx, hb, hml, hown, hts⟩ M (cwI (nPar (mNm ia)) hts (goodIn_g (mWs_in hok)) hws rfl rfl (hts _ s6) (hts _ (wAt_sp hl rfl)) (hts _ v1) v2 ⟨s2, s3, s4⟩ ⟨hfr, hlo⟩) hpre rfl hlen2 hlv.1 hst2 hrm hdec ⟨by omega, by omega⟩
      · exact va_runIN (As := tl.map (mval ad)) ⟨hx, hb, hml, hown, hts⟩ M ⟨va_cnB (nPar (mNm ia)) hts (goodIn_g (mWs_in hok)) hws rfl rfl (hnest.2.1 _ hl) (hts _ s6) ⟨s2, s3, s4⟩ ⟨hfr, hlo⟩, v2, hts _ v1⟩ hpre rfl hlen2 hlv.1 hst2 hrm hdec ⟨by omega, by omega⟩
end
section
/-! ===== the small machine is sound ===== -/
set_option maxHeartbeats 4000000 in
theorem Pr_closed (hM : ∀ t, t < 228 → okM t) (l : Launch) (n : Nat) : mClosed n (Pr l n) := by
  intro d w kc ks ls st H K hw h
  obtain ⟨y, pc, ins, len, ⟨ia, ib, ic⟩, z, sw⟩ := w
  have bad : okIns y pc ins len ia ib ic z sw = true := (okRow_sp hw).2.1
  cases ins
  case iconst => exact cl_iconst hw h
  case bipush => exact cl_bipush hw h
  case sipush => exact cl_sipush hw h
  case lconst => exact cl_lconst hw h
  case ldc2_w => exact cl_ldc2_w hw h
  case ldc_w => exact cl_ldc_w hw h
  case ldc => exact cl_ldc hw h
  case iload => exact cl_iload hw h
  case iload_n => exact cl_iload_n hw h
  case lload => exact cl_lload hw h
  case lload_n => exact cl_lload_n hw h
  case aload => exact cl_aload hw h
  case aload_n => exact cl_aload_n hw h
  case istore => exact cl_istore hw h
  case istore_n => exact cl_istore_n hw h
  case astore => exact cl_astore hw h
  case astore_n => exact cl_astore_n hw h
  case iinc => exact cl_iinc hw h
  case iadd => exact cl_iadd hw h
  case isub => exact cl_isub hw h
  case imul => exact cl_imul hw h
  case idiv => exact cl_idiv hw h
  case irem => exact cl_irem hw h
  case ineg => exact cl_ineg hw h
  case ishl => exact cl_ishl hw h
  case ishr => exact cl_ishr hw h
  case iushr => exact cl_iushr hw h
  case iand => exact cl_iand hw h
  case ior => exact cl_ior hw h
  case ixor => exact cl_ixor hw h
  case i2l => exact cl_i2l hw h
  case l2i => exact cl_l2i hw h
  case i2b => exact cl_i2b hw h
  case i2s => exact cl_i2s hw h
  case i2c => exact cl_i2c hw h
  case lcmp => exact cl_lcmp hw h
  case lshl => exact cl_lshl hw h
  case lor => exact cl_lor hw h
  case land => exact cl_land hw h
  case dup => exact cl_dup hw h
  case dup2 => exact cl_dup2 hw h
  case pop => exact cl_pop hw h
  case ifCond => exact cl_ifCond hw h
  case if_icmp => exact cl_if_icmp hw h
  case goto => exact cl_goto hw h
  case ifnonnull => exact cl_ifnonnull hw h
  case tableswitch => exact cl_tableswitch hw h
  case lookupswitch => exact cl_lookupswitch hw h
  case getfield => exact cl_getfield hw h
  case putfield => exact cl_putfield hw h
  case getstatic => exact cl_getstatic hw h
  case arraylength => exact cl_arraylength hw h
  case iaload => exact cl_iaload hw h
  case baload => exact cl_baload hw h
  case laload => exact cl_laload hw h
  case aaload => exact cl_aaload hw h
  case iastore => exact cl_iastore hw h
  case bastore => exact cl_bastore hw h
  case lastore => exact cl_lastore hw h
  case aastore => exact cl_aastore hw h
  case new => exact cl_new hw h
  case newarray => exact cl_newarray hw h
  case anewarray => exact cl_anewarray hw h
  case invokestatic => exact cl_invokestatic hM hw h
  case invokevirtual => exact cl_invokevirtual hM hw h
  case invokespecial => exact cl_invokespecial hM hw h
  case ireturn => exact cl_ireturn hw h
  case lreturn => exact cl_lreturn hw h
  case areturn => exact cl_areturn hw h
  case return_ => exact cl_return_ hw h
  all_goals cases bad
/-- what the small machine says of a run is so on the machine -/
theorem Wm_sound (hM : ∀ t, t < 228 → okM t) (l : Launch) {n d y pc kc ks : Nat} {ls : mLs} {st : List mV} {H : mH} {K : mK} (h : Wm n d y pc kc ks ls st H K) : Pr l n d y pc kc ks ls st H K := h (Pr l n) (Pr_mono l n) (Pr_closed hM l n)
end
section
/-! ===== more locals than are looked at do no harm ===== -/
def lsLe : mLs → mLs → Prop
  | [], [] => True
  | a :: r, b :: s => (b = a ∨ (a = none ∧ ∃ v, b = some v ∧ isC1 v = true)) ∧ lsLe r s
  | _, _ => False
theorem lsLe_rf : ∀ (ls : mLs), lsLe ls ls
  | [] => trivial
  | _ :: r => ⟨Or.inl rfl, lsLe_rf r⟩
theorem lsLe_at : ∀ {ls ls' : mLs}, lsLe ls ls' → ∀ {i : Nat} {v : mV}, ls[i]? = some (some v) → ls'[i]? = some (some v)
  | [], [], _, i, v, h => by simp at h
  | a :: r, b :: s, hl, i, v, h => by
    cases i with
    | zero =>
      simp at h
      rcases hl.1 with q | q
      · simp [q, h]
      · rw [q.1] at h; cases h
    | succ i => simp at h ⊢; exact lsLe_at hl.2 h
theorem lsLe_long : ∀ {ls ls' : mLs}, lsLe ls ls' → ∀ {i : Nat} {x : Int64}, ls'[i]? = some (some (vl x)) → ls[i]? = some (some (vl x))
  | [], [], _, i, v, h => by simp at h
  | a :: r, b :: s, hl, i, v, h => by
    cases i with
    | zero =>
      simp at h
      rcases hl.1 with q | ⟨q, w, q2, q3⟩
      · simp [← q, h]
      · rw [q2] at h; cases h; cases q3
    | succ i => simp at h ⊢; exact lsLe_long hl.2 h
theorem lsLe_set : ∀ {ls ls' : mLs}, lsLe ls ls' → ∀ (i : Nat) (v : Option mV), lsLe (ls.set i v) (ls'.set i v)
  | [], [], _, i, v => trivial
  | a :: r, b :: s, hl, i, v => by
    cases i with
    | zero => exact ⟨Or.inl rfl, hl.2⟩
    | succ i => exact ⟨hl.1, lsLe_set hl.2 i v⟩
theorem gI_le {ls ls' : mLs} (hl : lsLe ls ls') {i : Nat} {f g : Int → Prop} (h : ∀ x, f x → g x) : gI ls i f → gI ls' i g := by
  intro q
  obtain ⟨x, hx, hf⟩ := gI_inv q
  unfold gI
  rw [lsLe_at hl hx]
  exact h x hf
theorem gL_le {ls ls' : mLs} (hl : lsLe ls ls') {i : Nat} {f g : Int64 → Prop} (h : ∀ x, f x → g x) : gL ls i f → gL ls' i g := by
  intro q
  obtain ⟨x, hx, hf⟩ := gL_inv q
  unfold gL
  rw [lsLe_at hl hx]
  exact h x hf
theorem gR_le {ls ls' : mLs} (hl : lsLe ls ls') {i : Nat} {f g : Option Nat → Prop} (h : ∀ x, f x → g x) : gR ls i f → gR ls' i g := by
  intro q
  obtain ⟨x, hx, hf⟩ := gR_inv q
  unfold gR
  rw [lsLe_at hl hx]
  exact h x hf
theorem putL_le {ls ls' : mLs} (hl : lsLe ls ls') {i : Nat} {v : mV} {f g : mLs → Prop} (h : ∀ (_ : Unit) {a b : mLs}, lsLe a b → f a → g b) : putL ls i v f → putL ls' i v g := by
  intro q
  obtain ⟨hn, hf⟩ := putL_inv q
  unfold putL
  split
  · exact h () (lsLe_set hl 0 _) hf
  · rename_i j
    split
    · rename_i x hx
      exact hn j x rfl (lsLe_long hl hx)
    · exact h () (lsLe_set hl _ _) hf
set_option maxHeartbeats 8000000 in
theorem step_le {n : Nat} {P P' : mJ} {C C' : mC} {K K' : mK} (hK : ∀ r H, K r H → K' r H) (hP : ∀ d y pc kc ks ls ls' st H, lsLe ls ls' → P d y pc kc ks ls st H K → P' d y pc kc ks ls' st H K') (hC : ∀ d y args H (Q Q' : mK), (∀ r H, Q r H → Q' r H) → C d y args H Q → C' d y args H Q') (d : Nat) (w : mRow) (kc ks : Nat) (ls ls' : mLs) (hle : lsLe ls ls') (st : List mV) (H : mH) : stepW n P C d w kc ks ls st H K → stepW n P' C' d w kc ks ls' st H K' := by
  obtain ⟨y, pc, ins, len, ⟨ia, ib, ic⟩, z, sw⟩ := w
  have hp : ∀ {d y pc kc ks ls ls' st H}, lsLe ls ls' → P d y pc kc ks ls st H K → P' d y pc kc ks ls' st H K' := fun {d y pc kc ks ls ls' st H} => hP d y pc kc ks ls ls' st H
  cases ins <;> dsimp only [stepW] <;> first
    | exact False.elim
    | exact id
    | exact (hp hle)
    | exact gI_le hle fun _ => hp hle
    | exact gL_le hle fun _ => hp hle
    | exact gR_le hle fun _ => hp hle
    | exact eI_mono fun _ _ => (hp hle)
    | exact eII_mono fun _ _ _ => (hp hle)
    | exact eL_mono fun _ _ => (hp hle)
    | exact eLL_mono fun _ _ _ => (hp hle)
    | exact eLI_mono fun _ _ _ => (hp hle)
    | exact eD_mono fun _ _ => (hp hle)
    | exact eDD_mono fun _ _ _ => (hp hle)
    | exact eI_mono fun _ _ => putL_le hle fun _ {_ _} h => hp h
    | exact eR_mono fun _ _ => drf_mono fun _ => putL_le hle fun _ {_ _} h => hp h
    | exact gI_le hle fun _ => putL_le hle fun _ {_ _} h => hp h
    | exact eII_mono fun _ _ _ => and_mono (hp hle)
    | exact eII_mono fun _ _ _ => nzW_mono (hp hle)
    | exact eI_mono fun _ _ => cbr_mono (hp hle) (hp hle)
    | exact eII_mono fun _ _ _ => cbr_mono (hp hle) (hp hle)
    | exact eR_mono fun _ _ => nbr_mono (hp hle) (hp hle)
    | exact eI_mono fun _ _ => swW_mono (fun _ => (hp hle)) _
    | exact eR_mono fun _ _ => drf_mono fun _ => chk_mono (hp hle)
    | exact eRI_mono fun _ _ _ => drf_mono fun _ => chk_mono (and_mono (hp hle))
    | exact eRII_mono fun _ _ _ _ => drf_mono fun _ => chk_mono (and_mono (hp hle))
    | exact eRII_mono fun _ _ _ _ => drf_mono fun _ => chk_mono (and_mono (b01W_mono (hp hle)))
    | exact eRIL_mono fun _ _ _ _ => drf_mono fun _ => chk_mono (and_mono (hp hle))
    | exact eRIR_mono fun _ _ _ _ => drf_mono fun _ => drf_mono fun _ => chk_mono (and_mono (hp hle))
    | exact headR_mono fun _ => chk_mono (callW_mono hC fun _ _ _ _ => (hp hle))
    | exact hK _ _
    | exact chk_mono (hp hle)
    | exact and_mono (hK _ _)
    | exact drf_mono fun _ => hK _ _
    | exact eRR_mono fun _ _ _ => drf_mono fun _ => chk_mono (hp hle)
    | exact eRI_mono fun _ _ _ => drf_mono fun _ => chk_mono (b01W_mono (hp hle))
    | exact eRI_mono fun _ _ _ => drf_mono fun _ => chk_mono (hp hle)
    | exact eI_mono fun _ _ => chk_mono (and_mono (hp hle))
    | exact copyW_mono fun _ _ => (hp hle)
    | exact eII_mono fun _ _ _ => chk_mono (hp hle)
    | exact eI_mono fun _ _ => chk_mono (hp hle)
    | exact chkIdxW_mono fun _ => (hp hle)
    | exact callW_mono hC fun _ _ _ _ => (hp hle)
    | exact b01W_mono (hK _ _)
    | (split <;> (try dsimp only) <;> first | exact False.elim | exact id | exact (hp hle) | exact gI_le hle fun _ => hp hle | exact gL_le hle fun _ => hp hle | exact gR_le hle fun _ => hp hle | exact eI_mono fun _ _ => (hp hle) | exact eII_mono fun _ _ _ => (hp hle) | exact eL_mono fun _ _ => (hp hle) | exact eLL_mono fun _ _ _ => (hp hle) | exact eLI_mono fun _ _ _ => (hp hle) | exact eD_mono fun _ _ => (hp hle) | exact eDD_mono fun _ _ _ => (hp hle) | exact eI_mono fun _ _ => putL_le hle fun _ {_ _} h => hp h | exact eR_mono fun _ _ => drf_mono fun _ => putL_le hle fun _ {_ _} h => hp h | exact gI_le hle fun _ => putL_le hle fun _ {_ _} h => hp h | exact eII_mono fun _ _ _ => and_mono (hp hle) | exact eII_mono fun _ _ _ => nzW_mono (hp hle) | exact eI_mono fun _ _ => cbr_mono (hp hle) (hp hle) | exact eII_mono fun _ _ _ => cbr_mono (hp hle) (hp hle) | exact eR_mono fun _ _ => nbr_mono (hp hle) (hp hle) | exact eI_mono fun _ _ => swW_mono (fun _ => (hp hle)) _ | exact eR_mono fun _ _ => drf_mono fun _ => chk_mono (hp hle) | exact eRI_mono fun _ _ _ => drf_mono fun _ => chk_mono (and_mono (hp hle)) | exact eRII_mono fun _ _ _ _ => drf_mono fun _ => chk_mono (and_mono (hp hle)) | exact eRII_mono fun _ _ _ _ => drf_mono fun _ => chk_mono (and_mono (b01W_mono (hp hle))) | exact eRIL_mono fun _ _ _ _ => drf_mono fun _ => chk_mono (and_mono (hp hle)) | exact eRIR_mono fun _ _ _ _ => drf_mono fun _ => drf_mono fun _ => chk_mono (and_mono (hp hle)) | exact headR_mono fun _ => chk_mono (callW_mono hC fun _ _ _ _ => (hp hle)) | exact hK _ _ | exact chk_mono (hp hle) | exact and_mono (hK _ _) | exact drf_mono fun _ => hK _ _ | exact eRR_mono fun _ _ _ => drf_mono fun _ => chk_mono (hp hle) | exact eRI_mono fun _ _ _ => drf_mono fun _ => chk_mono (b01W_mono (hp hle)) | exact eRI_mono fun _ _ _ => drf_mono fun _ => chk_mono (hp hle) | exact eI_mono fun _ _ => chk_mono (and_mono (hp hle)) | exact copyW_mono fun _ _ => (hp hle) | exact eII_mono fun _ _ _ => chk_mono (hp hle) | exact eI_mono fun _ _ => chk_mono (hp hle) | exact chkIdxW_mono fun _ => (hp hle) | exact callW_mono hC fun _ _ _ _ => (hp hle) | exact b01W_mono (hK _ _) | (exfalso; simp_all; done) | (split <;> (try dsimp only) <;> first | exact False.elim | exact id | exact (hp hle) | exact gI_le hle fun _ => hp hle | exact gL_le hle fun _ => hp hle | exact gR_le hle fun _ => hp hle | exact eI_mono fun _ _ => (hp hle) | exact eII_mono fun _ _ _ => (hp hle) | exact eL_mono fun _ _ => (hp hle) | exact eLL_mono fun _ _ _ => (hp hle) | exact eLI_mono fun _ _ _ => (hp hle) | exact eD_mono fun _ _ => (hp hle) | exact eDD_mono fun _ _ _ => (hp hle) | exact eI_mono fun _ _ => putL_le hle fun _ {_ _} h => hp h | exact eR_mono fun _ _ => drf_mono fun _ => putL_le hle fun _ {_ _} h => hp h | exact gI_le hle fun _ => putL_le hle fun _ {_ _} h => hp h | exact eII_mono fun _ _ _ => and_mono (hp hle) | exact eII_mono fun _ _ _ => nzW_mono (hp hle) | exact eI_mono fun _ _ => cbr_mono (hp hle) (hp hle) | exact eII_mono fun _ _ _ => cbr_mono (hp hle) (hp hle) | exact eR_mono fun _ _ => nbr_mono (hp hle) (hp hle) | exact eI_mono fun _ _ => swW_mono (fun _ => (hp hle)) _ | exact eR_mono fun _ _ => drf_mono fun _ => chk_mono (hp hle) | exact eRI_mono fun _ _ _ => drf_mono fun _ => chk_mono (and_mono (hp hle)) | exact eRII_mono fun _ _ _ _ => drf_mono fun _ => chk_mono (and_mono (hp hle)) | exact eRII_mono fun _ _ _ _ => drf_mono fun _ => chk_mono (and_mono (b01W_mono (hp hle))) | exact eRIL_mono fun _ _ _ _ => drf_mono fun _ => chk_mono (and_mono (hp hle)) | exact eRIR_mono fun _ _ _ _ => drf_mono fun _ => drf_mono fun _ => chk_mono (and_mono (hp hle)) | exact headR_mono fun _ => chk_mono (callW_mono hC fun _ _ _ _ => (hp hle)) | exact hK _ _ | exact chk_mono (hp hle) | exact and_mono (hK _ _) | exact drf_mono fun _ => hK _ _ | exact eRR_mono fun _ _ _ => drf_mono fun _ => chk_mono (hp hle) | exact eRI_mono fun _ _ _ => drf_mono fun _ => chk_mono (b01W_mono (hp hle)) | exact eRI_mono fun _ _ _ => drf_mono fun _ => chk_mono (hp hle) | exact eI_mono fun _ _ => chk_mono (and_mono (hp hle)) | exact copyW_mono fun _ _ => (hp hle) | exact eII_mono fun _ _ _ => chk_mono (hp hle) | exact eI_mono fun _ _ => chk_mono (hp hle) | exact chkIdxW_mono fun _ => (hp hle) | exact callW_mono hC fun _ _ _ _ => (hp hle) | exact b01W_mono (hK _ _) | (exfalso; simp_all; done) | (split <;> (try dsimp only) <;> first | exact False.elim | exact id | exact (hp hle) | exact gI_le hle fun _ => hp hle | exact gL_le hle fun _ => hp hle | exact gR_le hle fun _ => hp hle | exact eI_mono fun _ _ => (hp hle) | exact eII_mono fun _ _ _ => (hp hle) | exact eL_mono fun _ _ => (hp hle) | exact eLL_mono fun _ _ _ => (hp hle) | exact eLI_mono fun _ _ _ => (hp hle) | exact eD_mono fun _ _ => (hp hle) | exact eDD_mono fun _ _ _ => (hp hle) | exact eI_mono fun _ _ => putL_le hle fun _ {_ _} h => hp h | exact eR_mono fun _ _ => drf_mono fun _ => putL_le hle fun _ {_ _} h => hp h | exact gI_le hle fun _ => putL_le hle fun _ {_ _} h => hp h | exact eII_mono fun _ _ _ => and_mono (hp hle) | exact eII_mono fun _ _ _ => nzW_mono (hp hle) | exact eI_mono fun _ _ => cbr_mono (hp hle) (hp hle) | exact eII_mono fun _ _ _ => cbr_mono (hp hle) (hp hle) | exact eR_mono fun _ _ => nbr_mono (hp hle) (hp hle) | exact eI_mono fun _ _ => swW_mono (fun _ => (hp hle)) _ | exact eR_mono fun _ _ => drf_mono fun _ => chk_mono (hp hle) | exact eRI_mono fun _ _ _ => drf_mono fun _ => chk_mono (and_mono (hp hle)) | exact eRII_mono fun _ _ _ _ => drf_mono fun _ => chk_mono (and_mono (hp hle)) | exact eRII_mono fun _ _ _ _ => drf_mono fun _ => chk_mono (and_mono (b01W_mono (hp hle))) | exact eRIL_mono fun _ _ _ _ => drf_mono fun _ => chk_mono (and_mono (hp hle)) | exact eRIR_mono fun _ _ _ _ => drf_mono fun _ => drf_mono fun _ => chk_mono (and_mono (hp hle)) | exact headR_mono fun _ => chk_mono (callW_mono hC fun _ _ _ _ => (hp hle)) | exact hK _ _ | exact chk_mono (hp hle) | exact and_mono (hK _ _) | exact drf_mono fun _ => hK _ _ | exact eRR_mono fun _ _ _ => drf_mono fun _ => chk_mono (hp hle) | exact eRI_mono fun _ _ _ => drf_mono fun _ => chk_mono (b01W_mono (hp hle)) | exact eRI_mono fun _ _ _ => drf_mono fun _ => chk_mono (hp hle) | exact eI_mono fun _ _ => chk_mono (and_mono (hp hle)) | exact copyW_mono fun _ _ => (hp hle) | exact eII_mono fun _ _ _ => chk_mono (hp hle) | exact eI_mono fun _ _ => chk_mono (hp hle) | exact chkIdxW_mono fun _ => (hp hle) | exact callW_mono hC fun _ _ _ _ => (hp hle) | exact b01W_mono (hK _ _) | (exfalso; simp_all; done) | (split <;> (try dsimp only) <;> first | exact False.elim | exact id | exact (hp hle) | exact gI_le hle fun _ => hp hle | exact gL_le hle fun _ => hp hle | exact gR_le hle fun _ => hp hle | exact eI_mono fun _ _ => (hp hle) | exact eII_mono fun _ _ _ => (hp hle) | exact eL_mono fun _ _ => (hp hle) | exact eLL_mono fun _ _ _ => (hp hle) | exact eLI_mono fun _ _ _ => (hp hle) | exact eD_mono fun _ _ => (hp hle) | exact eDD_mono fun _ _ _ => (hp hle) | exact eI_mono fun _ _ => putL_le hle fun _ {_ _} h => hp h | exact eR_mono fun _ _ => drf_mono fun _ => putL_le hle fun _ {_ _} h => hp h | exact gI_le hle fun _ => putL_le hle fun _ {_ _} h => hp h | exact eII_mono fun _ _ _ => and_mono (hp hle) | exact eII_mono fun _ _ _ => nzW_mono (hp hle) | exact eI_mono fun _ _ => cbr_mono (hp hle) (hp hle) | exact eII_mono fun _ _ _ => cbr_mono (hp hle) (hp hle) | exact eR_mono fun _ _ => nbr_mono (hp hle) (hp hle) | exact eI_mono fun _ _ => swW_mono (fun _ => (hp hle)) _ | exact eR_mono fun _ _ => drf_mono fun _ => chk_mono (hp hle) | exact eRI_mono fun _ _ _ => drf_mono fun _ => chk_mono (and_mono (hp hle)) | exact eRII_mono fun _ _ _ _ => drf_mono fun _ => chk_mono (and_mono (hp hle)) | exact eRII_mono fun _ _ _ _ => drf_mono fun _ => chk_mono (and_mono (b01W_mono (hp hle))) | exact eRIL_mono fun _ _ _ _ => drf_mono fun _ => chk_mono (and_mono (hp hle)) | exact eRIR_mono fun _ _ _ _ => drf_mono fun _ => drf_mono fun _ => chk_mono (and_mono (hp hle)) | exact headR_mono fun _ => chk_mono (callW_mono hC fun _ _ _ _ => (hp hle)) | exact hK _ _ | exact chk_mono (hp hle) | exact and_mono (hK _ _) | exact drf_mono fun _ => hK _ _ | exact eRR_mono fun _ _ _ => drf_mono fun _ => chk_mono (hp hle) | exact eRI_mono fun _ _ _ => drf_mono fun _ => chk_mono (b01W_mono (hp hle)) | exact eRI_mono fun _ _ _ => drf_mono fun _ => chk_mono (hp hle) | exact eI_mono fun _ _ => chk_mono (and_mono (hp hle)) | exact copyW_mono fun _ _ => (hp hle) | exact eII_mono fun _ _ _ => chk_mono (hp hle) | exact eI_mono fun _ _ => chk_mono (hp hle) | exact chkIdxW_mono fun _ => (hp hle) | exact callW_mono hC fun _ _ _ _ => (hp hle) | exact b01W_mono (hK _ _) | (exfalso; simp_all; done)))))
    | (refine eR_mono fun _ _ => drf_mono fun _ => chk_mono ?_; split <;> exact hp hle)
theorem Wm_le {n d y pc kc ks : Nat} {ls ls' : mLs} {st : List mV} {H : mH} {K : mK} (hle : lsLe ls ls') (h : Wm n d y pc kc ks ls st H K) : Wm n d y pc kc ks ls' st H K := by
  have hP := h (fun d y pc kc ks ls st H K => ∀ ls', lsLe ls ls' → Wm n d y pc kc ks ls' st H K) (fun d y pc kc ks ls st H K K' hk q ls' hl => Wm_mono n _ _ _ _ _ _ _ _ _ _ hk (q ls' hl)) (fun d w kc ks ls st H K hw q ls' hl => Wm_closed n d w kc ks ls' st H K hw (step_le (fun _ _ => id) (fun _ _ _ _ _ _ ls' _ _ hl q => q ls' hl) (fun d y args H Q Q' hq g => Wm_mono n _ _ _ _ _ _ _ _ _ _ hq (g _ (lsLe_rf _))) d w kc ks ls ls' hl st H q))
  exact hP ls' hle
end
section
/-! ===== level 2: the cells that the constructors made are where they are; only numbers change, and how many offices there are ===== -/
def RTl : List (List (Option Nat)) := [[], [], [], [none, some 9], [none, some 10], [none, some 11], [none, some 12], [none, some 13], [none, some 14], [], [], [], [], [], [], [], [some 17, some 43, none, some 69, some 73, none, some 74, some 80, some 89, some 91], [some 18, none, none, none, none, some 19, some 21, some 23], [some 25, some 28, some 31, some 34, some 37, some 40], [none, some 20], [], [none, some 22], [], [none, some 24], [], [none, none, none, none, none, some 26, some 27], [], [], [none, none, none, none, none, some 29, some 30], [], [], [none, none, none, none, none, some 32, some 33], [], [], [none, none, none, none, none, some 35, some 36], [], [], [none, none, none, none, none, some 38, some 39], [], [], [none, none, none, none, none, some 41, some 42], [], [], [some 44, none, none, none, none, some 45, some 47, some 49], [some 51, some 54, some 57, some 60, some 63, some 66], [none, some 46], [], [none, some 48], [], [none, some 50], [], [none, none, none, none, none, some 52, some 53], [], [], [none, none, none, none, none, some 55, some 56], [], [], [none, none, none, none, none, some 58, some 59], [], [], [none, none, none, none, none, some 61, some 62], [], [], [none, none, none, none, none, some 64, some 65], [], [], [none, none, none, none, none, some 67, some 68], [], [], [none, none, none, some 70, some 71, none, some 72], [], [], [], [], [some 75], [], [none, none, none, some 77, some 78, none, some 79], [], [], [], [some 81, some 84, some 85, some 86, some 87, some 88], [none, none, none, none, none, some 82, some 83], [], [], [], [], [], [], [], [some 90], [], [some 92, some 94, some 96, some 98, some 100, some 102], [none, none, some 93], [], [none, none, some 95], [], [none, none, some 97], [], [none, none, some 99], [], [none, none, some 101], [], [none, none, some 103], [], [none, none, none, none, some 105, some 106, some 107, some 108, some 109, none, none, none, none, none, some 110, some 111, some 112, some 113, some 114, some 115, some 116, some 117, none, none, none, some 118, none, some 119, none, none, none, some 120, some 121, some 122, some 123, some 124, none, some 125, some 126, some 127, some 128, none, some 129, some 130, some 131, some 132, none, none, some 133, some 134, some 135, some 136, none, none, none, none, none, none, none, none, none, some 137, some 138, some 139, some 140, some 141, some 142, some 143, some 144, some 145, some 146, some 147, some 148, some 149, none, some 150, some 151, some 152, some 153, some 154], [], [], [], [], [], [], [], [], [], [], [], [], [], [], [], [], [], [], [], [], [], [], [], [], [], [], [], [], [], [], [], [], [], [], [], [], [], [], [], [], [], [], [], [], [], [], [], [], [], []]
/-- the office of number j -/
def oH (j : Nat) : Nat := match j with
  | 0 => 76
  | j + 1 => 155 + 4 * j
def Rs (c h k : Nat) : Option Nat := match Nat.blt h 155 with
  | true => match Nat.beq h 73 with
    | true => match Nat.blt k c with
      | true => some (oH k)
      | false => none
    | false => match Nat.beq h 74 && Nat.beq k 4 with
      | true => some (oH c)
      | false => (RTl.getD h []).getD k none
  | false => match Nat.blt h (155 + 4 * c) && Nat.beq ((h - 155) % 4) 0 with
    | true => match k with
      | 3 => some (h + 1)
      | 4 => some (h + 2)
      | 6 => some (h + 3)
      | _ => none
    | false => none
def hs (I : Nat → Nat → Int) (L : Nat → Nat → Int64) (c : Nat) : mH := (I, L, Rs c, 155 + 4 * c)
abbrev mI : Type := Nat → Nat → Int
abbrev mL : Type := Nat → Nat → Int64
abbrev mK2 : Type := Option mV → mI → mL → Nat → Prop
abbrev mJ2 : Type := Nat → Nat → Nat → mLs → List mV → mI → mL → Nat → mK2 → Prop
abbrev mC2 : Type := Nat → Nat → List mV → mI → mL → Nat → mK2 → Prop
def retW2 (ic : Nat) (st : List mV) (f : List mV → mI → mL → Nat → Prop) : mK2 := fun r I L c => match ic with
  | 0 => rv r (f st I L c)
  | 1 => ri r (fun x => f (vi x :: st) I L c)
  | 2 => rl r (fun x => f (vl x :: st) I L c)
  | _ => rr r (fun x => f (vr x :: st) I L c)
def callW2 (C : mC2) (d y ic ib : Nat) (args st : List mV) (I : mI) (L : mL) (c : Nat) (f : List mV → mI → mL → Nat → Prop) : Prop := match d with
  | 0 => False
  | d' + 1 => chk (Nat.ble (catS st) 8 && (Nat.beq (mBud y).1 0 && (Nat.beq (mBud y).2 0 && (Nat.ble (locs0 args).length (mMax y) && Nat.beq args.length ib)))) (C d' y args I L c (retW2 ic st f))
def copyW2 (st : List mV) (I : mI) (L : mL) (n : Nat) (f : List mV → mI → mL → Prop) : Prop := match st with
  | .inl m :: .inl j :: .inr (.inr b) :: .inl i :: .inr (.inr a) :: r =>
    drf a fun a => drf b fun b => (0 ≤ i ∧ 0 ≤ j ∧ 0 ≤ m ∧ i + m ≤ LN n a ∧ j + m ≤ LN n b) ∧
      chk (Nat.beq (TY a) (TY b) && Nat.ble (catS r) 8) (match Nat.beq (TY a) 100 with
        | true => f r (cpy2 I a i.toNat b j.toNat m.toNat) L
        | false => chk (Nat.beq (TY a) 101) (f r I (cpy2 L a i.toNat b j.toNat m.toNat)))
  | _ => False
def stepW2 (n : Nat) (P : mJ2) (C : mC2) (d : Nat) (w : mRow) (ls : mLs) (st : List mV) (I : mI) (L : mL) (c : Nat) (K : mK2) : Prop :=
  match w with
  | (y, pc, ins, len, (ia, ib, ic), z, sw) => match ins with
    | .iconst _ => P d y (pc + len) ls (vi z :: st) I L c K
    | .bipush _ => P d y (pc + len) ls (vi z :: st) I L c K
    | .sipush _ => P d y (pc + len) ls (vi z :: st) I L c K
    | .lconst _ => P d y (pc + len) ls (vl (Int64.ofInt z) :: st) I L c K
    | .ldc2_w _ => P d y (pc + len) ls (vl (Int64.ofInt z) :: st) I L c K
    | .ldc _ => P d y (pc + len) ls (vr (some ia) :: st) I L c K
    | .ldc_w _ => P d y (pc + len) ls (vi z :: st) I L c K
    | .iload _ => gI ls ia fun x => P d y (pc + len) ls (vi x :: st) I L c K
    | .iload_n _ => gI ls ia fun x => P d y (pc + len) ls (vi x :: st) I L c K
    | .lload _ => gL ls ia fun x => P d y (pc + len) ls (vl x :: st) I L c K
    | .lload_n _ => gL ls ia fun x => P d y (pc + len) ls (vl x :: st) I L c K
    | .aload _ => gR ls ia fun x => P d y (pc + len) ls (vr x :: st) I L c K
    | .aload_n _ => gR ls ia fun x => P d y (pc + len) ls (vr x :: st) I L c K
    | .istore _ => eI st fun x r => putL ls ia (vi x) fun ls => P d y (pc + len) ls r I L c K
    | .istore_n _ => eI st fun x r => putL ls ia (vi x) fun ls => P d y (pc + len) ls r I L c K
    | .astore _ => eR st fun x r => drf x fun a => putL ls ia (vr (some a)) fun ls => P d y (pc + len) ls r I L c K
    | .astore_n _ => eR st fun x r => drf x fun a => putL ls ia (vr (some a)) fun ls => P d y (pc + len) ls r I L c K
    | .iinc _ _ => gI ls ia fun x => putL ls ia (vi (wr (x + z))) fun ls => P d y (pc + len) ls st I L c K
    | .iadd => eII st fun a b r => P d y (pc + len) ls (vi (wr (a + b)) :: r) I L c K
    | .isub => eII st fun a b r => P d y (pc + len) ls (vi (wr (a - b)) :: r) I L c K
    | .imul => eII st fun a b r => P d y (pc + len) ls (vi (wr (a * b)) :: r) I L c K
    | .idiv => eII st fun a b r => nzW b (P d y (pc + len) ls (vi (wr (a.tdiv b)) :: r) I L c K)
    | .irem => eII st fun a b r => nzW b (P d y (pc + len) ls (vi (a.tmod b) :: r) I L c K)
    | .ineg => eI st fun a r => P d y (pc + len) ls (vi (wr (-a)) :: r) I L c K
    | .ishl => eII st fun a b r => P d y (pc + len) ls (vi (bshl a b) :: r) I L c K
    | .ishr => eII st fun a b r => P d y (pc + len) ls (vi (bshr a b) :: r) I L c K
    | .iushr => eII st fun a b r => P d y (pc + len) ls (vi (bushr a b) :: r) I L c K
    | .iand => eII st fun a b r => P d y (pc + len) ls (vi (band a b) :: r) I L c K
    | .ior => eII st fun a b r => P d y (pc + len) ls (vi (bior a b) :: r) I L c K
    | .ixor => eII st fun a b r => P d y (pc + len) ls (vi (bxor a b) :: r) I L c K
    | .i2l => eI st fun a r => P d y (pc + len) ls (vl (Int64.ofInt a) :: r) I L c K
    | .l2i => eL st fun a r => P d y (pc + len) ls (vi a.toInt32.toInt :: r) I L c K
    | .i2b => eI st fun a r => P d y (pc + len) ls (vi (bi8 a) :: r) I L c K
    | .i2s => eI st fun a r => P d y (pc + len) ls (vi (bi16 a) :: r) I L c K
    | .i2c => eI st fun a r => P d y (pc + len) ls (vi (bch a) :: r) I L c K
    | .lcmp => eLL st fun a b r => P d y (pc + len) ls (vi (lcm3 a b) :: r) I L c K
    | .lshl => eLI st fun a b r => P d y (pc + len) ls (vl (a <<< ((Int64.ofInt b) &&& 63)) :: r) I L c K
    | .lor => eLL st fun a b r => P d y (pc + len) ls (vl (a ||| b) :: r) I L c K
    | .land => eLL st fun a b r => P d y (pc + len) ls (vl (a &&& b) :: r) I L c K
    | .dup => eD st fun v r => P d y (pc + len) ls (v :: v :: r) I L c K
    | .dup2 => eDD st fun v w r => P d y (pc + len) ls (v :: w :: v :: w :: r) I L c K
    | .pop => eD st fun _ r => P d y (pc + len) ls r I L c K
    | .ifCond q _ => eI st fun x r => cbr q x 0 (P d y ia ls r I L c K) (P d y (pc + len) ls r I L c K)
    | .if_icmp q _ => eII st fun a b r => cbr q a b (P d y ia ls r I L c K) (P d y (pc + len) ls r I L c K)
    | .goto _ => P d y ia ls st I L c K
    | .ifnonnull _ => eR st fun x r => nbr x (P d y (pc + len) ls r I L c K) (P d y ia ls r I L c K)
    | .tableswitch _ _ _ _ => eI st fun x r => swW x sw ia fun t => P d y t ls r I L c K
    | .lookupswitch _ _ => eI st fun x r => swW x sw ia fun t => P d y t ls r I L c K
    | .getfield _ => eR st fun x r => drf x fun a => chk (Nat.beq (TY a) ia) (match ic with
        | 1 => P d y (pc + len) ls (vr (Rs c a ib) :: r) I L c K
        | _ => P d y (pc + len) ls (vi (I a ib) :: r) I L c K)
    | .putfield _ => match ic with
        | 1 => False
        | 2 => eRI st fun x v r => drf x fun a => chk (Nat.beq (TY a) ia) (b01W v (P d y (pc + len) ls r (up2 I a ib v) L c K))
        | _ => eRI st fun x v r => drf x fun a => chk (Nat.beq (TY a) ia) (P d y (pc + len) ls r (up2 I a ib v) L c K)
    | .getstatic _ => match ia with
        | 0 => P d y (pc + len) ls (vi z :: st) I L c K
        | _ => P d y (pc + len) ls (vr (some ib) :: st) I L c K
    | .arraylength => eR st fun x r => drf x fun a => chk (Nat.ble 100 (TY a)) (P d y (pc + len) ls (vi (LN n a : Int) :: r) I L c K)
    | .iaload => eRI st fun x i r => drf x fun a => chk (Nat.beq (TY a) 100 || Nat.beq (TY a) 105) ((0 ≤ i ∧ i < LN n a) ∧ P d y (pc + len) ls (vi (I a i.toNat) :: r) I L c K)
    | .baload => eRI st fun x i r => drf x fun a => chk (Nat.beq (TY a) 102 || Nat.beq (TY a) 104) ((0 ≤ i ∧ i < LN n a) ∧ P d y (pc + len) ls (vi (I a i.toNat) :: r) I L c K)
    | .laload => eRI st fun x i r => drf x fun a => chk (Nat.beq (TY a) 101) ((0 ≤ i ∧ i < LN n a) ∧ P d y (pc + len) ls (vl (L a i.toNat) :: r) I L c K)
    | .aaload => eRI st fun x i r => drf x fun a => chk (Nat.ble 110 (TY a)) ((0 ≤ i ∧ i < LN n a) ∧ P d y (pc + len) ls (vr (Rs c a i.toNat) :: r) I L c K)
    | .iastore => eRII st fun x i v r => drf x fun a => chk (Nat.beq (TY a) 100) ((0 ≤ i ∧ i < LN n a) ∧ P d y (pc + len) ls r (up2 I a i.toNat v) L c K)
    | .bastore => eRII st fun x i v r => drf x fun a => chk (Nat.beq (TY a) 102) ((0 ≤ i ∧ i < LN n a) ∧ b01W v (P d y (pc + len) ls r (up2 I a i.toNat v) L c K))
    | .lastore => eRIL st fun x i v r => drf x fun a => chk (Nat.beq (TY a) 101) ((0 ≤ i ∧ i < LN n a) ∧ P d y (pc + len) ls r I (up2L L a i.toNat v) c K)
    | .invokestatic _ => match z with
        | 3 => copyW2 st I L n fun r I L => P d y (pc + len) ls r I L c K
        | 4 => chkIdxW st fun r => P d y (pc + len) ls r I L c K
        | 5 => eII st fun a b r => chk (Nat.ble (catS r) 8) (P d y (pc + len) ls (vi (if a < b then b else a) :: r) I L c K)
        | 6 => eII st fun a b r => chk (Nat.ble (catS r) 8) (P d y (pc + len) ls (vi (if b < a then b else a) :: r) I L c K)
        | 7 => eI st fun a r => chk (Nat.ble (catS r) 8) (P d y (pc + len) ls (vi (wr (if 0 ≤ a then a else 0 - a)) :: r) I L c K)
        | _ => callW2 C d ia ic ib (st.take ib).reverse (st.drop ib) I L c fun st I L c => P d y (pc + len) ls st I L c K
    | .invokevirtual _ => headR (st.take ib).reverse fun a => chk (Nat.beq (TY a) (mClsOf ia)) (callW2 C d ia ic ib (st.take ib).reverse (st.drop ib) I L c fun st I L c => P d y (pc + len) ls st I L c K)
    | .invokespecial _ => match z with
        | 2 => eR st fun x r => drf x fun _ => chk (Nat.ble (catS r) 8) (P d y (pc + len) ls r I L c K)
        | _ => headR (st.take ib).reverse fun a => chk (Nat.beq (TY a) (mClsOf ia)) (callW2 C d ia ic ib (st.take ib).reverse (st.drop ib) I L c fun st I L c => P d y (pc + len) ls st I L c K)
    | .ireturn => match st with
        | [.inl x] => match ia with
          | 0 => K (some (vi x)) I L c
          | 1 => b01W x (K (some (vi x)) I L c)
          | 2 => (0 ≤ x ∧ x < 65536) ∧ K (some (vi x)) I L c
          | _ => x = 0 ∧ K (some (vi x)) I L c
        | _ => False
    | .lreturn => match st with
        | [.inr (.inl x)] => K (some (vl x)) I L c
        | _ => False
    | .areturn => match st with
        | [.inr (.inr x)] => drf x fun a => K (some (vr (some a))) I L c
        | _ => False
    | .return_ => match st with
        | [] => K none I L c
        | _ => False
    | _ => False

/-- a judgement of level 1, at what level 2 speaks of -/
def W2 (n : Nat) : mJ2 := fun d y pc ls st I L c K => Wm n d y pc 0 0 ls st (hs I L c) (fun r H => ∃ I' L' c', H = hs I' L' c' ∧ K r I' L' c')
def ent2 (P : mJ2) : mC2 := fun d y args I L c K => P d y 0 (locs0 args ++ List.replicate (mMax y - (locs0 args).length) none) [] I L c K
def C2 (n : Nat) : mC2 := fun d y args I L c K => Cm n d y args (hs I L c) (fun r H => ∃ I' L' c', H = hs I' L' c' ∧ K r I' L' c')
theorem retW2_sim {ic : Nat} {st : List mV} {f : List mV → mI → mL → Nat → Prop} {g : List mV → mH → Prop} (h : ∀ st I L c, f st I L c → g st (hs I L c)) (r : Option mV) (I : mI) (L : mL) (c : Nat) : retW2 ic st f r I L c → retW ic st g r (hs I L c) := by
  unfold retW2 retW
  match ic with
  | 0 => exact rv_mono (h _ _ _ _)
  | 1 => exact ri_mono fun _ => h _ _ _ _
  | 2 => exact rl_mono fun _ => h _ _ _ _
  | k + 3 => exact rr_mono fun _ => h _ _ _ _
theorem callW2_sim {C : mC2} {C' : mC} {d y ic ib : Nat} {args st : List mV} {I : mI} {L : mL} {c : Nat} {f : List mV → mI → mL → Nat → Prop} {g : Nat → Nat → List mV → mH → Prop} (hC : ∀ d y args I L c (Q : mK2) (Q' : mK), (∀ r I L c, Q r I L c → Q' r (hs I L c)) → C d y args I L c Q → C' d y args (hs I L c) Q') (h : ∀ st I L c, f st I L c → g 0 0 st (hs I L c)) : callW2 C d y ic ib args st I L c f → callW C' d y 0 0 ic ib args st (hs I L c) g := by
  unfold callW2 callW
  cases d with
  | zero => exact id
  | succ d =>
    intro q
    obtain ⟨hc, q2⟩ := chk_inv q
    simp only [Bool.and_eq_true] at hc
    have e1 := Nat.eq_of_beq_eq_true hc.2.1
    have e2 := Nat.eq_of_beq_eq_true hc.2.2.1
    refine (show ∀ {b : Bool} {A : Prop}, b = true → A → chk b A from fun {b A} h a => by subst h; exact a) ?_ ?_
    · simp only [Bool.and_eq_true, e1, e2]
      exact ⟨hc.1, rfl, rfl, hc.2.2.2⟩
    · rw [e1, e2]
      exact hC _ _ _ _ _ _ _ _ (fun r I L c => retW2_sim h r I L c) q2
theorem copyW2_sim {st : List mV} {I : mI} {L : mL} {c n : Nat} {f : List mV → mI → mL → Prop} {g : List mV → mH → Prop} (h : ∀ r I L, f r I L → g r (hs I L c)) : copyW2 st I L n f → copyW st (hs I L c) n g := by
  unfold copyW2 copyW
  split
  · refine drf_mono fun a => drf_mono fun b => and_mono (chk_mono ?_)
    cases Nat.beq (TY a) 100
    · exact chk_mono (h _ _ _)
    · exact h _ _ _
  · exact False.elim
set_option maxHeartbeats 4000000 in
theorem step2 {n : Nat} {P : mJ2} {P' : mJ} {C : mC2} {C' : mC} {K : mK2} {K' : mK} (hK : ∀ r I L c, K r I L c → K' r (hs I L c)) (hP : ∀ d y pc ls st I L c, P d y pc ls st I L c K → P' d y pc 0 0 ls st (hs I L c) K') (hC : ∀ d y args I L c (Q : mK2) (Q' : mK), (∀ r I L c, Q r I L c → Q' r (hs I L c)) → C d y args I L c Q → C' d y args (hs I L c) Q') (d : Nat) (w : mRow) (ls : mLs) (st : List mV) (I : mI) (L : mL) (c : Nat) : stepW2 n P C d w ls st I L c K → stepW n P' C' d w 0 0 ls st (hs I L c) K' := by
  obtain ⟨y, pc, ins, len, ⟨ia, ib, ic⟩, z, sw⟩ := w
  have hp : ∀ {d y pc ls st I L c}, P d y pc ls st I L c K → P' d y pc 0 0 ls st (hs I L c) K' := fun {d y pc ls st I L c} => hP d y pc ls st I L c
  cases ins <;> dsimp only [stepW, stepW2] <;> first
    | exact False.elim
    | exact id
    | exact hp
    | exact gI_mono fun _ => hp
    | exact gL_mono fun _ => hp
    | exact gR_mono fun _ => hp
    | exact eI_mono fun _ _ => hp
    | exact eII_mono fun _ _ _ => hp
    | exact eL_mono fun _ _ => hp
    | exact eLL_mono fun _ _ _ => hp
    | exact eLI_mono fun _ _ _ => hp
    | exact eD_mono fun _ _ => hp
    | exact eDD_mono fun _ _ _ => hp
    | exact eI_mono fun _ _ => putL_mono fun _ => hp
    | exact eR_mono fun _ _ => drf_mono fun _ => putL_mono fun _ => hp
    | exact gI_mono fun _ => putL_mono fun _ => hp
    | exact eII_mono fun _ _ _ => and_mono hp
    | exact eII_mono fun _ _ _ => nzW_mono hp
    | exact eI_mono fun _ _ => cbr_mono hp hp
    | exact eII_mono fun _ _ _ => cbr_mono hp hp
    | exact eR_mono fun _ _ => nbr_mono hp hp
    | exact eI_mono fun _ _ => swW_mono (fun _ => hp) _
    | exact eR_mono fun _ _ => drf_mono fun _ => chk_mono hp
    | exact eRI_mono fun _ _ _ => drf_mono fun _ => chk_mono (and_mono hp)
    | exact eRII_mono fun _ _ _ _ => drf_mono fun _ => chk_mono (and_mono hp)
    | exact eRII_mono fun _ _ _ _ => drf_mono fun _ => chk_mono (and_mono (b01W_mono hp))
    | exact eRIL_mono fun _ _ _ _ => drf_mono fun _ => chk_mono (and_mono hp)
    | exact eRIR_mono fun _ _ _ _ => drf_mono fun _ => drf_mono fun _ => chk_mono (and_mono hp)
    | exact headR_mono fun _ => chk_mono (callW2_sim hC fun _ _ _ _ => hp)
    | exact hK _ _ _ _
    | exact chk_mono hp
    | exact and_mono (hK _ _ _ _)
    | exact drf_mono fun _ => hK _ _ _ _
    | exact eRR_mono fun _ _ _ => drf_mono fun _ => chk_mono hp
    | exact eRI_mono fun _ _ _ => drf_mono fun _ => chk_mono (b01W_mono hp)
    | exact eRI_mono fun _ _ _ => drf_mono fun _ => chk_mono hp
    | exact eI_mono fun _ _ => chk_mono (and_mono hp)
    | exact copyW2_sim fun _ _ _ => hp
    | exact eII_mono fun _ _ _ => chk_mono hp
    | exact eI_mono fun _ _ => chk_mono hp
    | exact chkIdxW_mono fun _ => hp
    | exact callW2_sim hC fun _ _ _ _ => hp
    | exact b01W_mono (hK _ _ _ _)
    | (split <;> (try dsimp only) <;> first | exact False.elim | exact id | exact hp | exact gI_mono fun _ => hp | exact gL_mono fun _ => hp | exact gR_mono fun _ => hp | exact eI_mono fun _ _ => hp | exact eII_mono fun _ _ _ => hp | exact eL_mono fun _ _ => hp | exact eLL_mono fun _ _ _ => hp | exact eLI_mono fun _ _ _ => hp | exact eD_mono fun _ _ => hp | exact eDD_mono fun _ _ _ => hp | exact eI_mono fun _ _ => putL_mono fun _ => hp | exact eR_mono fun _ _ => drf_mono fun _ => putL_mono fun _ => hp | exact gI_mono fun _ => putL_mono fun _ => hp | exact eII_mono fun _ _ _ => and_mono hp | exact eII_mono fun _ _ _ => nzW_mono hp | exact eI_mono fun _ _ => cbr_mono hp hp | exact eII_mono fun _ _ _ => cbr_mono hp hp | exact eR_mono fun _ _ => nbr_mono hp hp | exact eI_mono fun _ _ => swW_mono (fun _ => hp) _ | exact eR_mono fun _ _ => drf_mono fun _ => chk_mono hp | exact eRI_mono fun _ _ _ => drf_mono fun _ => chk_mono (and_mono hp) | exact eRII_mono fun _ _ _ _ => drf_mono fun _ => chk_mono (and_mono hp) | exact eRII_mono fun _ _ _ _ => drf_mono fun _ => chk_mono (and_mono (b01W_mono hp)) | exact eRIL_mono fun _ _ _ _ => drf_mono fun _ => chk_mono (and_mono hp) | exact eRIR_mono fun _ _ _ _ => drf_mono fun _ => drf_mono fun _ => chk_mono (and_mono hp) | exact headR_mono fun _ => chk_mono (callW2_sim hC fun _ _ _ _ => hp) | exact hK _ _ _ _ | exact chk_mono hp | exact and_mono (hK _ _ _ _) | exact drf_mono fun _ => hK _ _ _ _ | exact eRR_mono fun _ _ _ => drf_mono fun _ => chk_mono hp | exact eRI_mono fun _ _ _ => drf_mono fun _ => chk_mono (b01W_mono hp) | exact eRI_mono fun _ _ _ => drf_mono fun _ => chk_mono hp | exact eI_mono fun _ _ => chk_mono (and_mono hp) | exact copyW2_sim fun _ _ _ => hp | exact eII_mono fun _ _ _ => chk_mono hp | exact eI_mono fun _ _ => chk_mono hp | exact chkIdxW_mono fun _ => hp | exact callW2_sim hC fun _ _ _ _ => hp | exact b01W_mono (hK _ _ _ _) | (exfalso; simp_all; done) | (split <;> (try dsimp only) <;> first | exact False.elim | exact id | exact hp | exact gI_mono fun _ => hp | exact gL_mono fun _ => hp | exact gR_mono fun _ => hp | exact eI_mono fun _ _ => hp | exact eII_mono fun _ _ _ => hp | exact eL_mono fun _ _ => hp | exact eLL_mono fun _ _ _ => hp | exact eLI_mono fun _ _ _ => hp | exact eD_mono fun _ _ => hp | exact eDD_mono fun _ _ _ => hp | exact eI_mono fun _ _ => putL_mono fun _ => hp | exact eR_mono fun _ _ => drf_mono fun _ => putL_mono fun _ => hp | exact gI_mono fun _ => putL_mono fun _ => hp | exact eII_mono fun _ _ _ => and_mono hp | exact eII_mono fun _ _ _ => nzW_mono hp | exact eI_mono fun _ _ => cbr_mono hp hp | exact eII_mono fun _ _ _ => cbr_mono hp hp | exact eR_mono fun _ _ => nbr_mono hp hp | exact eI_mono fun _ _ => swW_mono (fun _ => hp) _ | exact eR_mono fun _ _ => drf_mono fun _ => chk_mono hp | exact eRI_mono fun _ _ _ => drf_mono fun _ => chk_mono (and_mono hp) | exact eRII_mono fun _ _ _ _ => drf_mono fun _ => chk_mono (and_mono hp) | exact eRII_mono fun _ _ _ _ => drf_mono fun _ => chk_mono (and_mono (b01W_mono hp)) | exact eRIL_mono fun _ _ _ _ => drf_mono fun _ => chk_mono (and_mono hp) | exact eRIR_mono fun _ _ _ _ => drf_mono fun _ => drf_mono fun _ => chk_mono (and_mono hp) | exact headR_mono fun _ => chk_mono (callW2_sim hC fun _ _ _ _ => hp) | exact hK _ _ _ _ | exact chk_mono hp | exact and_mono (hK _ _ _ _) | exact drf_mono fun _ => hK _ _ _ _ | exact eRR_mono fun _ _ _ => drf_mono fun _ => chk_mono hp | exact eRI_mono fun _ _ _ => drf_mono fun _ => chk_mono (b01W_mono hp) | exact eRI_mono fun _ _ _ => drf_mono fun _ => chk_mono hp | exact eI_mono fun _ _ => chk_mono (and_mono hp) | exact copyW2_sim fun _ _ _ => hp | exact eII_mono fun _ _ _ => chk_mono hp | exact eI_mono fun _ _ => chk_mono hp | exact chkIdxW_mono fun _ => hp | exact callW2_sim hC fun _ _ _ _ => hp | exact b01W_mono (hK _ _ _ _) | (exfalso; simp_all; done) | (split <;> (try dsimp only) <;> first | exact False.elim | exact id | exact hp | exact gI_mono fun _ => hp | exact gL_mono fun _ => hp | exact gR_mono fun _ => hp | exact eI_mono fun _ _ => hp | exact eII_mono fun _ _ _ => hp | exact eL_mono fun _ _ => hp | exact eLL_mono fun _ _ _ => hp | exact eLI_mono fun _ _ _ => hp | exact eD_mono fun _ _ => hp | exact eDD_mono fun _ _ _ => hp | exact eI_mono fun _ _ => putL_mono fun _ => hp | exact eR_mono fun _ _ => drf_mono fun _ => putL_mono fun _ => hp | exact gI_mono fun _ => putL_mono fun _ => hp | exact eII_mono fun _ _ _ => and_mono hp | exact eII_mono fun _ _ _ => nzW_mono hp | exact eI_mono fun _ _ => cbr_mono hp hp | exact eII_mono fun _ _ _ => cbr_mono hp hp | exact eR_mono fun _ _ => nbr_mono hp hp | exact eI_mono fun _ _ => swW_mono (fun _ => hp) _ | exact eR_mono fun _ _ => drf_mono fun _ => chk_mono hp | exact eRI_mono fun _ _ _ => drf_mono fun _ => chk_mono (and_mono hp) | exact eRII_mono fun _ _ _ _ => drf_mono fun _ => chk_mono (and_mono hp) | exact eRII_mono fun _ _ _ _ => drf_mono fun _ => chk_mono (and_mono (b01W_mono hp)) | exact eRIL_mono fun _ _ _ _ => drf_mono fun _ => chk_mono (and_mono hp) | exact eRIR_mono fun _ _ _ _ => drf_mono fun _ => drf_mono fun _ => chk_mono (and_mono hp) | exact headR_mono fun _ => chk_mono (callW2_sim hC fun _ _ _ _ => hp) | exact hK _ _ _ _ | exact chk_mono hp | exact and_mono (hK _ _ _ _) | exact drf_mono fun _ => hK _ _ _ _ | exact eRR_mono fun _ _ _ => drf_mono fun _ => chk_mono hp | exact eRI_mono fun _ _ _ => drf_mono fun _ => chk_mono (b01W_mono hp) | exact eRI_mono fun _ _ _ => drf_mono fun _ => chk_mono hp | exact eI_mono fun _ _ => chk_mono (and_mono hp) | exact copyW2_sim fun _ _ _ => hp | exact eII_mono fun _ _ _ => chk_mono hp | exact eI_mono fun _ _ => chk_mono hp | exact chkIdxW_mono fun _ => hp | exact callW2_sim hC fun _ _ _ _ => hp | exact b01W_mono (hK _ _ _ _) | (exfalso; simp_all; done) | (split <;> (try dsimp only) <;> first | exact False.elim | exact id | exact hp | exact gI_mono fun _ => hp | exact gL_mono fun _ => hp | exact gR_mono fun _ => hp | exact eI_mono fun _ _ => hp | exact eII_mono fun _ _ _ => hp | exact eL_mono fun _ _ => hp | exact eLL_mono fun _ _ _ => hp | exact eLI_mono fun _ _ _ => hp | exact eD_mono fun _ _ => hp | exact eDD_mono fun _ _ _ => hp | exact eI_mono fun _ _ => putL_mono fun _ => hp | exact eR_mono fun _ _ => drf_mono fun _ => putL_mono fun _ => hp | exact gI_mono fun _ => putL_mono fun _ => hp | exact eII_mono fun _ _ _ => and_mono hp | exact eII_mono fun _ _ _ => nzW_mono hp | exact eI_mono fun _ _ => cbr_mono hp hp | exact eII_mono fun _ _ _ => cbr_mono hp hp | exact eR_mono fun _ _ => nbr_mono hp hp | exact eI_mono fun _ _ => swW_mono (fun _ => hp) _ | exact eR_mono fun _ _ => drf_mono fun _ => chk_mono hp | exact eRI_mono fun _ _ _ => drf_mono fun _ => chk_mono (and_mono hp) | exact eRII_mono fun _ _ _ _ => drf_mono fun _ => chk_mono (and_mono hp) | exact eRII_mono fun _ _ _ _ => drf_mono fun _ => chk_mono (and_mono (b01W_mono hp)) | exact eRIL_mono fun _ _ _ _ => drf_mono fun _ => chk_mono (and_mono hp) | exact eRIR_mono fun _ _ _ _ => drf_mono fun _ => drf_mono fun _ => chk_mono (and_mono hp) | exact headR_mono fun _ => chk_mono (callW2_sim hC fun _ _ _ _ => hp) | exact hK _ _ _ _ | exact chk_mono hp | exact and_mono (hK _ _ _ _) | exact drf_mono fun _ => hK _ _ _ _ | exact eRR_mono fun _ _ _ => drf_mono fun _ => chk_mono hp | exact eRI_mono fun _ _ _ => drf_mono fun _ => chk_mono (b01W_mono hp) | exact eRI_mono fun _ _ _ => drf_mono fun _ => chk_mono hp | exact eI_mono fun _ _ => chk_mono (and_mono hp) | exact copyW2_sim fun _ _ _ => hp | exact eII_mono fun _ _ _ => chk_mono hp | exact eI_mono fun _ _ => chk_mono hp | exact chkIdxW_mono fun _ => hp | exact callW2_sim hC fun _ _ _ _ => hp | exact b01W_mono (hK _ _ _ _) | (exfalso; simp_all; done) | (split <;> (try dsimp only) <;> first | exact False.elim | exact id | exact hp | exact gI_mono fun _ => hp | exact gL_mono fun _ => hp | exact gR_mono fun _ => hp | exact eI_mono fun _ _ => hp | exact eII_mono fun _ _ _ => hp | exact eL_mono fun _ _ => hp | exact eLL_mono fun _ _ _ => hp | exact eLI_mono fun _ _ _ => hp | exact eD_mono fun _ _ => hp | exact eDD_mono fun _ _ _ => hp | exact eI_mono fun _ _ => putL_mono fun _ => hp | exact eR_mono fun _ _ => drf_mono fun _ => putL_mono fun _ => hp | exact gI_mono fun _ => putL_mono fun _ => hp | exact eII_mono fun _ _ _ => and_mono hp | exact eII_mono fun _ _ _ => nzW_mono hp | exact eI_mono fun _ _ => cbr_mono hp hp | exact eII_mono fun _ _ _ => cbr_mono hp hp | exact eR_mono fun _ _ => nbr_mono hp hp | exact eI_mono fun _ _ => swW_mono (fun _ => hp) _ | exact eR_mono fun _ _ => drf_mono fun _ => chk_mono hp | exact eRI_mono fun _ _ _ => drf_mono fun _ => chk_mono (and_mono hp) | exact eRII_mono fun _ _ _ _ => drf_mono fun _ => chk_mono (and_mono hp) | exact eRII_mono fun _ _ _ _ => drf_mono fun _ => chk_mono (and_mono (b01W_mono hp)) | exact eRIL_mono fun _ _ _ _ => drf_mono fun _ => chk_mono (and_mono hp) | exact eRIR_mono fun _ _ _ _ => drf_mono fun _ => drf_mono fun _ => chk_mono (and_mono hp) | exact headR_mono fun _ => chk_mono (callW2_sim hC fun _ _ _ _ => hp) | exact hK _ _ _ _ | exact chk_mono hp | exact and_mono (hK _ _ _ _) | exact drf_mono fun _ => hK _ _ _ _ | exact eRR_mono fun _ _ _ => drf_mono fun _ => chk_mono hp | exact eRI_mono fun _ _ _ => drf_mono fun _ => chk_mono (b01W_mono hp) | exact eRI_mono fun _ _ _ => drf_mono fun _ => chk_mono hp | exact eI_mono fun _ _ => chk_mono (and_mono hp) | exact copyW2_sim fun _ _ _ => hp | exact eII_mono fun _ _ _ => chk_mono hp | exact eI_mono fun _ _ => chk_mono hp | exact chkIdxW_mono fun _ => hp | exact callW2_sim hC fun _ _ _ _ => hp | exact b01W_mono (hK _ _ _ _) | (exfalso; simp_all; done))))))
theorem W2_mono {n d y pc : Nat} {ls : mLs} {st : List mV} {I : mI} {L : mL} {c : Nat} {K K' : mK2} (hk : ∀ r I L c, K r I L c → K' r I L c) (h : W2 n d y pc ls st I L c K) : W2 n d y pc ls st I L c K' := Wm_mono n _ _ _ _ _ _ _ _ _ _ (fun r H ⟨I', L', c', e, q⟩ => ⟨I', L', c', e, hk _ _ _ _ q⟩) h
theorem W2_le {n d y pc : Nat} {ls ls' : mLs} {st : List mV} {I : mI} {L : mL} {c : Nat} {K : mK2} (hl : lsLe ls ls') (h : W2 n d y pc ls st I L c K) : W2 n d y pc ls' st I L c K := Wm_le hl h
theorem C2_mono {n d y : Nat} {args : List mV} {I : mI} {L : mL} {c : Nat} {K K' : mK2} (hk : ∀ r I L c, K r I L c → K' r I L c) (h : C2 n d y args I L c K) : C2 n d y args I L c K' := Cm_mono (fun r H ⟨I', L', c', e, q⟩ => ⟨I', L', c', e, hk _ _ _ _ q⟩) h
/-- many steps of level 2 -/
def maskL : List Bool → mLs → mLs
  | true :: m, some v :: ls => (match isC1 v with
    | true => none
    | false => some v) :: maskL m ls
  | _ :: m, v :: ls => v :: maskL m ls
  | _, ls => ls
theorem maskL_le : ∀ (m : List Bool) (ls : mLs), lsLe (maskL m ls) ls
  | [], ls => by unfold maskL; exact lsLe_rf _
  | b :: m, [] => by cases b <;> exact trivial
  | true :: m, none :: ls => ⟨Or.inl rfl, maskL_le m ls⟩
  | false :: m, v :: ls => by cases v <;> exact ⟨Or.inl rfl, maskL_le m ls⟩
  | true :: m, some v :: ls => by
    refine ⟨?_, maskL_le m ls⟩
    cases h : isC1 v
    · exact Or.inl rfl
    · exact Or.inr ⟨rfl, v, rfl, h⟩
def cutM (cut : List (Nat × Nat × List Bool)) (y pc : Nat) : Option (List Bool) := match cut with
  | [] => none
  | q :: r => match Nat.beq q.1 y && Nat.beq q.2.1 pc with
    | true => some q.2.2
    | false => cutM r y pc
def wcU (n : Nat) (inl : List Nat) (cut : List (Nat × Nat × List Bool)) : Nat → List mRow → mJ2
  | 0, _ => W2 n
  | f + 1, hint => fun d y pc ls st I L c K => match cutM cut y pc with
    | some m => W2 n d y pc (maskL m ls) st I L c K
    | none => match look hint y pc with
      | [] => False
      | w :: rest => match Nat.beq w.1 y && Nat.beq w.2.1 pc with
        | true => stepW2 n (wcU n inl cut f rest) (fun d' y' args I L c K => match memB inl y' with
          | true => ent2 (wcU n inl cut f []) d' y' args I L c K
          | false => C2 n d' y' args I L c K) d w ls st I L c K
        | false => False
def sndJ (n : Nat) (P : mJ2) : Prop := ∀ d y pc ls st I L c (K : mK2) (K' : mK), (∀ r I L c, K r I L c → K' r (hs I L c)) → P d y pc ls st I L c K → Wm n d y pc 0 0 ls st (hs I L c) K'
def noBud (inl : List Nat) : Bool := inl.all (fun y => Nat.beq (mBud y).1 0 && Nat.beq (mBud y).2 0)
theorem noBud_at : ∀ (l : List Nat) (y : Nat), memB l y = true → noBud l = true → (mBud y).1 = 0 ∧ (mBud y).2 = 0 := by
  intro l y
  induction l with
  | nil => intro h; cases h
  | cons a l il =>
    intro h1 h2
    simp only [memB, Bool.or_eq_true] at h1
    simp only [noBud, List.all_cons, Bool.and_eq_true] at h2
    rcases h1 with h1 | h1
    · have := Nat.eq_of_beq_eq_true h1
      subst this
      exact ⟨Nat.eq_of_beq_eq_true h2.1.1, Nat.eq_of_beq_eq_true h2.1.2⟩
    · exact il h1 h2.2
theorem wc_row {n : Nat} {inl : List Nat} (hb : noBud inl = true) {P Q : mJ2} (hP : sndJ n P) (hQ : sndJ n Q) {d y pc : Nat} {ls : mLs} {st : List mV} {I : mI} {L : mL} {c : Nat} {K : mK2} {K' : mK} (hk : ∀ r I L c, K r I L c → K' r (hs I L c)) {w : mRow} (hw : okRow w = true) (h : (match Nat.beq w.1 y && Nat.beq w.2.1 pc with
      | true => stepW2 n P (fun d' y' args I L c K => match memB inl y' with
        | true => ent2 Q d' y' args I L c K
        | false => C2 n d' y' args I L c K) d w ls st I L c K
      | false => False)) : Wm n d y pc 0 0 ls st (hs I L c) K' := by
  split at h
  · rename_i hb2
    have e := Bool.and_eq_true_iff.mp hb2
    have e1 := Nat.eq_of_beq_eq_true e.1
    have e2 := Nat.eq_of_beq_eq_true e.2
    rw [← e1, ← e2]
    refine Wm_closed n d w 0 0 ls st (hs I L c) K' hw (step2 hk (fun d y pc ls st I L c q => hP d y pc ls st I L c K K' hk q) ?_ d w ls st I L c h)
    intro d y args I L c R R' hq g
    split at g
    · rename_i hm
      have hz := noBud_at inl y hm hb
      show Wm n d y 0 (mBud y).1 (mBud y).2 _ [] _ R'
      rw [hz.1, hz.2]
      exact hQ _ _ _ _ _ _ _ _ R R' hq g
    · exact Cm_mono (fun r H ⟨I', L', c', e, q⟩ => by rw [e]; exact hq _ _ _ _ q) g
  · exact h.elim
theorem W2_snd (n : Nat) : sndJ n (W2 n) := fun d y pc ls st I L c K K' hk h => Wm_mono n _ _ _ _ _ _ _ _ _ _ (fun r H ⟨I', L', c', e, q⟩ => by rw [e]; exact hk _ _ _ _ q) h
theorem wcU_sound (n : Nat) (inl : List Nat) (hb : noBud inl = true) (cut : List (Nat × Nat × List Bool)) : ∀ (f : Nat) (hint : List mRow), okL hint → sndJ n (wcU n inl cut f hint) := by
  intro f
  induction f with
  | zero => intro hint _; exact W2_snd n
  | succ f ih =>
    intro hint hh d y pc ls st I L c K K' hk h
    unfold wcU at h
    split at h
    · exact W2_snd n _ _ _ _ _ _ _ _ _ _ hk (W2_le (maskL_le _ _) h)
    · have hl := look_ok mCode_ok hh y pc
      split at h
      · exact h.elim
      · rename_i w rest heq
        rw [heq] at hl
        exact wc_row hb (ih rest fun v hv => hl v (List.mem_cons_of_mem _ hv)) (ih [] fun v hv => by cases hv) hk (hl w List.mem_cons_self) h
/-- a stretch of a method, from a place that may be a cut -/
def wcS (n : Nat) (inl : List Nat) (cut : List (Nat × Nat × List Bool)) (f : Nat) : mJ2 := fun d y pc ls st I L c K => match findR (mCode y) pc with
  | [] => False
  | w :: rest => match Nat.beq w.1 y && Nat.beq w.2.1 pc with
    | true => stepW2 n (wcU n inl cut f rest) (fun d' y' args I L c K => match memB inl y' with
      | true => ent2 (wcU n inl cut f []) d' y' args I L c K
      | false => C2 n d' y' args I L c K) d w ls st I L c K
    | false => False
theorem vc_W {n : Nat} (inl : List Nat) (cut : List (Nat × Nat × List Bool)) (f : Nat) (hb : noBud inl = true) {d y pc : Nat} {ls : mLs} {st : List mV} {I : mI} {L : mL} {c : Nat} {K : mK2} (h : wcS n inl cut f d y pc ls st I L c K) : W2 n d y pc ls st I L c K := by
  unfold wcS at h
  split at h
  · exact h.elim
  · rename_i w rest heq
    have hl := findR_ok (mCode_ok y) pc
    rw [heq] at hl
    exact wc_row hb (wcU_sound n inl hb cut f rest fun v hv => hl v (List.mem_cons_of_mem _ hv)) (wcU_sound n inl hb cut f [] fun v hv => by cases hv) (fun r I L c q => ⟨I, L, c, rfl, q⟩) (hl w List.mem_cons_self) h
theorem vc_C {n : Nat} {d y : Nat} {args : List mV} {I : mI} {L : mL} {c : Nat} {K : mK2} (hb : (Nat.beq (mBud y).1 0 && Nat.beq (mBud y).2 0) = true) (h : W2 n d y 0 (locs0 args ++ List.replicate (mMax y - (locs0 args).length) none) [] I L c K) : C2 n d y args I L c K := by
  simp only [Bool.and_eq_true] at hb
  have e1 := Nat.eq_of_beq_eq_true hb.1
  have e2 := Nat.eq_of_beq_eq_true hb.2
  show Wm n d y 0 (mBud y).1 (mBud y).2 _ [] _ _
  rw [e1, e2]
  exact h
end

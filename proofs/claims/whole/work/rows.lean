section
-- ===== PART A: goes FIRST, ahead of the names: the tables' words, and 'selects' of the private methods out of them =====
/-- a private method of a class that the tables say can be made, by its rows of tables_1 -/
def lw_okq (q : MethodName × Nat) : Prop := (q.1.cls ≠ "java/lang/invoke/MethodHandle" ∧ q.1.cls ≠ "java/lang/invoke/VarHandle") ∧ Cond.instantiable q.1.cls q.2 ∈ tables_1 ∧ Cond.privateMethod q.1 ∈ tables_1 ∧ Cond.instanceMethod q.1 ∈ tables_1
theorem lw_p0 : lw_okq (⟨"ArcadeRents$Crowd", "settle", "()V"⟩, 7) := ⟨⟨by decide +kernel, by decide +kernel⟩, List.mem_of_getElem? (i := 293) (by decide +kernel), List.mem_of_getElem? (i := 495) (by decide +kernel), List.mem_of_getElem? (i := 496) (by decide +kernel)⟩
theorem lw_p1 : lw_okq (⟨"ArcadeRents$Crowd", "walk", "(III)V"⟩, 7) := ⟨⟨by decide +kernel, by decide +kernel⟩, List.mem_of_getElem? (i := 293) (by decide +kernel), List.mem_of_getElem? (i := 499) (by decide +kernel), List.mem_of_getElem? (i := 500) (by decide +kernel)⟩
theorem lw_p2 : lw_okq (⟨"ArcadeRents", "isMonth", "(I)Z"⟩, 11) := ⟨⟨by decide +kernel, by decide +kernel⟩, List.mem_of_getElem? (i := 23) (by decide +kernel), List.mem_of_getElem? (i := 520) (by decide +kernel), List.mem_of_getElem? (i := 521) (by decide +kernel)⟩
theorem lw_p3 : lw_okq (⟨"ArcadeRents$Lines", "counts", "(II)Z"⟩, 6) := ⟨⟨by decide +kernel, by decide +kernel⟩, List.mem_of_getElem? (i := 126) (by decide +kernel), List.mem_of_getElem? (i := 581) (by decide +kernel), List.mem_of_getElem? (i := 582) (by decide +kernel)⟩
theorem lw_p4 : lw_okq (⟨"ArcadeRents$Reader", "advance", "()V"⟩, 10) := ⟨⟨by decide +kernel, by decide +kernel⟩, List.mem_of_getElem? (i := 233) (by decide +kernel), List.mem_of_getElem? (i := 613) (by decide +kernel), List.mem_of_getElem? (i := 614) (by decide +kernel)⟩
theorem lw_p5 : lw_okq (⟨"ArcadeRents$Reader", "numberToken", "()I"⟩, 10) := ⟨⟨by decide +kernel, by decide +kernel⟩, List.mem_of_getElem? (i := 233) (by decide +kernel), List.mem_of_getElem? (i := 623) (by decide +kernel), List.mem_of_getElem? (i := 624) (by decide +kernel)⟩
theorem lw_p6 : lw_okq (⟨"ArcadeRents$Reader", "lettersToken", "(I)I"⟩, 10) := ⟨⟨by decide +kernel, by decide +kernel⟩, List.mem_of_getElem? (i := 233) (by decide +kernel), List.mem_of_getElem? (i := 627) (by decide +kernel), List.mem_of_getElem? (i := 628) (by decide +kernel)⟩
theorem lw_p7 : lw_okq (⟨"ArcadeRents$Reader", "reads", "(Ljava/lang/String;)Z"⟩, 10) := ⟨⟨by decide +kernel, by decide +kernel⟩, List.mem_of_getElem? (i := 233) (by decide +kernel), List.mem_of_getElem? (i := 715) (by decide +kernel), List.mem_of_getElem? (i := 716) (by decide +kernel)⟩
theorem lw_p8 : lw_okq (⟨"ArcadeRents$Reader", "expression", "(III)Z"⟩, 10) := ⟨⟨by decide +kernel, by decide +kernel⟩, List.mem_of_getElem? (i := 233) (by decide +kernel), List.mem_of_getElem? (i := 742) (by decide +kernel), List.mem_of_getElem? (i := 743) (by decide +kernel)⟩
theorem lw_p9 : lw_okq (⟨"ArcadeRents$Reader", "part", "(II)Z"⟩, 10) := ⟨⟨by decide +kernel, by decide +kernel⟩, List.mem_of_getElem? (i := 233) (by decide +kernel), List.mem_of_getElem? (i := 746) (by decide +kernel), List.mem_of_getElem? (i := 747) (by decide +kernel)⟩
theorem lw_p10 : lw_okq (⟨"ArcadeRents$Reader", "emit", "(I)V"⟩, 10) := ⟨⟨by decide +kernel, by decide +kernel⟩, List.mem_of_getElem? (i := 233) (by decide +kernel), List.mem_of_getElem? (i := 750) (by decide +kernel), List.mem_of_getElem? (i := 751) (by decide +kernel)⟩
theorem lw_p11 : lw_okq (⟨"ArcadeRents", "rentOf", "(II)I"⟩, 11) := ⟨⟨by decide +kernel, by decide +kernel⟩, List.mem_of_getElem? (i := 23) (by decide +kernel), List.mem_of_getElem? (i := 769) (by decide +kernel), List.mem_of_getElem? (i := 770) (by decide +kernel)⟩
theorem lw_p12 : lw_okq (⟨"ArcadeRents", "rentPart", "(III)I"⟩, 11) := ⟨⟨by decide +kernel, by decide +kernel⟩, List.mem_of_getElem? (i := 23) (by decide +kernel), List.mem_of_getElem? (i := 773) (by decide +kernel), List.mem_of_getElem? (i := 774) (by decide +kernel)⟩
theorem lw_p13 : lw_okq (⟨"ArcadeRents$Calc", "push", "(I)V"⟩, 2) := ⟨⟨by decide +kernel, by decide +kernel⟩, List.mem_of_getElem? (i := 334) (by decide +kernel), List.mem_of_getElem? (i := 781) (by decide +kernel), List.mem_of_getElem? (i := 782) (by decide +kernel)⟩
theorem lw_p14 : lw_okq (⟨"ArcadeRents$Calc", "apply", "(I)V"⟩, 2) := ⟨⟨by decide +kernel, by decide +kernel⟩, List.mem_of_getElem? (i := 334) (by decide +kernel), List.mem_of_getElem? (i := 794) (by decide +kernel), List.mem_of_getElem? (i := 795) (by decide +kernel)⟩
theorem lw_p15 : lw_okq (⟨"ArcadeRents", "letFall", "()I"⟩, 11) := ⟨⟨by decide +kernel, by decide +kernel⟩, List.mem_of_getElem? (i := 23) (by decide +kernel), List.mem_of_getElem? (i := 819) (by decide +kernel), List.mem_of_getElem? (i := 820) (by decide +kernel)⟩
def lw_privs_1 : List (MethodName × Nat) := [(⟨"ArcadeRents$Crowd", "settle", "()V"⟩, 7), (⟨"ArcadeRents$Crowd", "walk", "(III)V"⟩, 7), (⟨"ArcadeRents", "isMonth", "(I)Z"⟩, 11), (⟨"ArcadeRents$Lines", "counts", "(II)Z"⟩, 6), (⟨"ArcadeRents$Reader", "advance", "()V"⟩, 10), (⟨"ArcadeRents$Reader", "numberToken", "()I"⟩, 10), (⟨"ArcadeRents$Reader", "lettersToken", "(I)I"⟩, 10), (⟨"ArcadeRents$Reader", "reads", "(Ljava/lang/String;)Z"⟩, 10), (⟨"ArcadeRents$Reader", "expression", "(III)Z"⟩, 10), (⟨"ArcadeRents$Reader", "part", "(II)Z"⟩, 10), (⟨"ArcadeRents$Reader", "emit", "(I)V"⟩, 10), (⟨"ArcadeRents", "rentOf", "(II)I"⟩, 11), (⟨"ArcadeRents", "rentPart", "(III)I"⟩, 11), (⟨"ArcadeRents$Calc", "push", "(I)V"⟩, 2), (⟨"ArcadeRents$Calc", "apply", "(I)V"⟩, 2), (⟨"ArcadeRents", "letFall", "()I"⟩, 11)]
theorem lw_r1 : ∀ q ∈ lw_privs_1, lw_okq q := List.forall_mem_cons.mpr ⟨lw_p0, List.forall_mem_cons.mpr ⟨lw_p1, List.forall_mem_cons.mpr ⟨lw_p2, List.forall_mem_cons.mpr ⟨lw_p3, List.forall_mem_cons.mpr ⟨lw_p4, List.forall_mem_cons.mpr ⟨lw_p5, List.forall_mem_cons.mpr ⟨lw_p6, List.forall_mem_cons.mpr ⟨lw_p7, List.forall_mem_cons.mpr ⟨lw_p8, List.forall_mem_cons.mpr ⟨lw_p9, List.forall_mem_cons.mpr ⟨lw_p10, List.forall_mem_cons.mpr ⟨lw_p11, List.forall_mem_cons.mpr ⟨lw_p12, List.forall_mem_cons.mpr ⟨lw_p13, List.forall_mem_cons.mpr ⟨lw_p14, List.forall_mem_cons.mpr ⟨lw_p15, fun _ h => absurd h List.not_mem_nil⟩⟩⟩⟩⟩⟩⟩⟩⟩⟩⟩⟩⟩⟩⟩⟩
theorem lw_p16 : lw_okq (⟨"ArcadeRents", "firstToLeave", "()I"⟩, 11) := ⟨⟨by decide +kernel, by decide +kernel⟩, List.mem_of_getElem? (i := 23) (by decide +kernel), List.mem_of_getElem? (i := 823) (by decide +kernel), List.mem_of_getElem? (i := 824) (by decide +kernel)⟩
theorem lw_p17 : lw_okq (⟨"ArcadeRents", "seek", "(I)Z"⟩, 11) := ⟨⟨by decide +kernel, by decide +kernel⟩, List.mem_of_getElem? (i := 23) (by decide +kernel), List.mem_of_getElem? (i := 860) (by decide +kernel), List.mem_of_getElem? (i := 861) (by decide +kernel)⟩
theorem lw_p18 : lw_okq (⟨"ArcadeRents$Mix", "prepare", "(LArcadeRents$Arcade;I)V"⟩, 9) := ⟨⟨by decide +kernel, by decide +kernel⟩, List.mem_of_getElem? (i := 347) (by decide +kernel), List.mem_of_getElem? (i := 870) (by decide +kernel), List.mem_of_getElem? (i := 871) (by decide +kernel)⟩
theorem lw_p19 : lw_okq (⟨"ArcadeRents$Mix", "fitAtFirst", "(LArcadeRents$Crowd;I)I"⟩, 9) := ⟨⟨by decide +kernel, by decide +kernel⟩, List.mem_of_getElem? (i := 347) (by decide +kernel), List.mem_of_getElem? (i := 875) (by decide +kernel), List.mem_of_getElem? (i := 876) (by decide +kernel)⟩
theorem lw_p20 : lw_okq (⟨"ArcadeRents$Mix", "extend", "(III)Z"⟩, 9) := ⟨⟨by decide +kernel, by decide +kernel⟩, List.mem_of_getElem? (i := 347) (by decide +kernel), List.mem_of_getElem? (i := 880) (by decide +kernel), List.mem_of_getElem? (i := 881) (by decide +kernel)⟩
theorem lw_p21 : lw_okq (⟨"ArcadeRents$Mix", "compare", "(II)V"⟩, 9) := ⟨⟨by decide +kernel, by decide +kernel⟩, List.mem_of_getElem? (i := 347) (by decide +kernel), List.mem_of_getElem? (i := 884) (by decide +kernel), List.mem_of_getElem? (i := 885) (by decide +kernel)⟩
theorem lw_p22 : lw_okq (⟨"ArcadeRents$Mix", "narrow", "(III)V"⟩, 9) := ⟨⟨by decide +kernel, by decide +kernel⟩, List.mem_of_getElem? (i := 347) (by decide +kernel), List.mem_of_getElem? (i := 889) (by decide +kernel), List.mem_of_getElem? (i := 890) (by decide +kernel)⟩
theorem lw_p23 : lw_okq (⟨"ArcadeRents", "countIn", "()I"⟩, 11) := ⟨⟨by decide +kernel, by decide +kernel⟩, List.mem_of_getElem? (i := 23) (by decide +kernel), List.mem_of_getElem? (i := 973) (by decide +kernel), List.mem_of_getElem? (i := 974) (by decide +kernel)⟩
theorem lw_p24 : lw_okq (⟨"ArcadeRentsModel", "isShop", "(I)Z"⟩, 28) := ⟨⟨by decide +kernel, by decide +kernel⟩, List.mem_of_getElem? (i := 985) (by decide +kernel), List.mem_of_getElem? (i := 1113) (by decide +kernel), List.mem_of_getElem? (i := 1114) (by decide +kernel)⟩
theorem lw_p25 : lw_okq (⟨"ArcadeRentsModel", "findStands", "(I)V"⟩, 28) := ⟨⟨by decide +kernel, by decide +kernel⟩, List.mem_of_getElem? (i := 985) (by decide +kernel), List.mem_of_getElem? (i := 1122) (by decide +kernel), List.mem_of_getElem? (i := 1123) (by decide +kernel)⟩
theorem lw_p26 : lw_okq (⟨"ArcadeRentsModel", "placeOf", "(II)I"⟩, 28) := ⟨⟨by decide +kernel, by decide +kernel⟩, List.mem_of_getElem? (i := 985) (by decide +kernel), List.mem_of_getElem? (i := 1126) (by decide +kernel), List.mem_of_getElem? (i := 1127) (by decide +kernel)⟩
theorem lw_p27 : lw_okq (⟨"ArcadeRentsModel", "shopAt", "(I)I"⟩, 28) := ⟨⟨by decide +kernel, by decide +kernel⟩, List.mem_of_getElem? (i := 985) (by decide +kernel), List.mem_of_getElem? (i := 1130) (by decide +kernel), List.mem_of_getElem? (i := 1131) (by decide +kernel)⟩
theorem lw_p28 : lw_okq (⟨"ArcadeRentsModel", "moves", "(II)V"⟩, 28) := ⟨⟨by decide +kernel, by decide +kernel⟩, List.mem_of_getElem? (i := 985) (by decide +kernel), List.mem_of_getElem? (i := 1135) (by decide +kernel), List.mem_of_getElem? (i := 1136) (by decide +kernel)⟩
theorem lw_p29 : lw_okq (⟨"ArcadeRentsModel", "isPast", "(I)Z"⟩, 28) := ⟨⟨by decide +kernel, by decide +kernel⟩, List.mem_of_getElem? (i := 985) (by decide +kernel), List.mem_of_getElem? (i := 1151) (by decide +kernel), List.mem_of_getElem? (i := 1152) (by decide +kernel)⟩
theorem lw_p30 : lw_okq (⟨"ArcadeRentsModel", "comers", "(I)I"⟩, 28) := ⟨⟨by decide +kernel, by decide +kernel⟩, List.mem_of_getElem? (i := 985) (by decide +kernel), List.mem_of_getElem? (i := 1155) (by decide +kernel), List.mem_of_getElem? (i := 1156) (by decide +kernel)⟩
theorem lw_p31 : lw_okq (⟨"ArcadeRentsModel", "pulls", "()I"⟩, 28) := ⟨⟨by decide +kernel, by decide +kernel⟩, List.mem_of_getElem? (i := 985) (by decide +kernel), List.mem_of_getElem? (i := 1159) (by decide +kernel), List.mem_of_getElem? (i := 1160) (by decide +kernel)⟩
def lw_privs_2 : List (MethodName × Nat) := [(⟨"ArcadeRents", "firstToLeave", "()I"⟩, 11), (⟨"ArcadeRents", "seek", "(I)Z"⟩, 11), (⟨"ArcadeRents$Mix", "prepare", "(LArcadeRents$Arcade;I)V"⟩, 9), (⟨"ArcadeRents$Mix", "fitAtFirst", "(LArcadeRents$Crowd;I)I"⟩, 9), (⟨"ArcadeRents$Mix", "extend", "(III)Z"⟩, 9), (⟨"ArcadeRents$Mix", "compare", "(II)V"⟩, 9), (⟨"ArcadeRents$Mix", "narrow", "(III)V"⟩, 9), (⟨"ArcadeRents", "countIn", "()I"⟩, 11), (⟨"ArcadeRentsModel", "isShop", "(I)Z"⟩, 28), (⟨"ArcadeRentsModel", "findStands", "(I)V"⟩, 28), (⟨"ArcadeRentsModel", "placeOf", "(II)I"⟩, 28), (⟨"ArcadeRentsModel", "shopAt", "(I)I"⟩, 28), (⟨"ArcadeRentsModel", "moves", "(II)V"⟩, 28), (⟨"ArcadeRentsModel", "isPast", "(I)Z"⟩, 28), (⟨"ArcadeRentsModel", "comers", "(I)I"⟩, 28), (⟨"ArcadeRentsModel", "pulls", "()I"⟩, 28)]
theorem lw_r2 : ∀ q ∈ lw_privs_2, lw_okq q := List.forall_mem_cons.mpr ⟨lw_p16, List.forall_mem_cons.mpr ⟨lw_p17, List.forall_mem_cons.mpr ⟨lw_p18, List.forall_mem_cons.mpr ⟨lw_p19, List.forall_mem_cons.mpr ⟨lw_p20, List.forall_mem_cons.mpr ⟨lw_p21, List.forall_mem_cons.mpr ⟨lw_p22, List.forall_mem_cons.mpr ⟨lw_p23, List.forall_mem_cons.mpr ⟨lw_p24, List.forall_mem_cons.mpr ⟨lw_p25, List.forall_mem_cons.mpr ⟨lw_p26, List.forall_mem_cons.mpr ⟨lw_p27, List.forall_mem_cons.mpr ⟨lw_p28, List.forall_mem_cons.mpr ⟨lw_p29, List.forall_mem_cons.mpr ⟨lw_p30, List.forall_mem_cons.mpr ⟨lw_p31, fun _ h => absurd h List.not_mem_nil⟩⟩⟩⟩⟩⟩⟩⟩⟩⟩⟩⟩⟩⟩⟩⟩
theorem lw_p32 : lw_okq (⟨"ArcadeRentsModel", "goFrom", "(III)I"⟩, 28) := ⟨⟨by decide +kernel, by decide +kernel⟩, List.mem_of_getElem? (i := 985) (by decide +kernel), List.mem_of_getElem? (i := 1163) (by decide +kernel), List.mem_of_getElem? (i := 1164) (by decide +kernel)⟩
theorem lw_p33 : lw_okq (⟨"ArcadeRentsModel", "passers", "(I)I"⟩, 28) := ⟨⟨by decide +kernel, by decide +kernel⟩, List.mem_of_getElem? (i := 985) (by decide +kernel), List.mem_of_getElem? (i := 1167) (by decide +kernel), List.mem_of_getElem? (i := 1168) (by decide +kernel)⟩
theorem lw_p34 : lw_okq (⟨"ArcadeRentsModel", "foretold", "(I)I"⟩, 28) := ⟨⟨by decide +kernel, by decide +kernel⟩, List.mem_of_getElem? (i := 985) (by decide +kernel), List.mem_of_getElem? (i := 1173) (by decide +kernel), List.mem_of_getElem? (i := 1174) (by decide +kernel)⟩
theorem lw_p35 : lw_okq (⟨"ArcadeRentsModel", "others", "(II)I"⟩, 28) := ⟨⟨by decide +kernel, by decide +kernel⟩, List.mem_of_getElem? (i := 985) (by decide +kernel), List.mem_of_getElem? (i := 1177) (by decide +kernel), List.mem_of_getElem? (i := 1178) (by decide +kernel)⟩
theorem lw_p36 : lw_okq (⟨"ArcadeRentsModel", "gone", "(I)I"⟩, 28) := ⟨⟨by decide +kernel, by decide +kernel⟩, List.mem_of_getElem? (i := 985) (by decide +kernel), List.mem_of_getElem? (i := 1195) (by decide +kernel), List.mem_of_getElem? (i := 1196) (by decide +kernel)⟩
theorem lw_p37 : lw_okq (⟨"ArcadeRentsModel", "taken", "(III)I"⟩, 28) := ⟨⟨by decide +kernel, by decide +kernel⟩, List.mem_of_getElem? (i := 985) (by decide +kernel), List.mem_of_getElem? (i := 1208) (by decide +kernel), List.mem_of_getElem? (i := 1209) (by decide +kernel)⟩
theorem lw_p38 : lw_okq (⟨"ArcadeRentsModel", "next", "()V"⟩, 28) := ⟨⟨by decide +kernel, by decide +kernel⟩, List.mem_of_getElem? (i := 985) (by decide +kernel), List.mem_of_getElem? (i := 1229) (by decide +kernel), List.mem_of_getElem? (i := 1230) (by decide +kernel)⟩
theorem lw_p39 : lw_okq (⟨"ArcadeRentsModel", "isLetter", "(I)Z"⟩, 28) := ⟨⟨by decide +kernel, by decide +kernel⟩, List.mem_of_getElem? (i := 985) (by decide +kernel), List.mem_of_getElem? (i := 1233) (by decide +kernel), List.mem_of_getElem? (i := 1234) (by decide +kernel)⟩
theorem lw_p40 : lw_okq (⟨"ArcadeRentsModel", "isDigit", "(I)Z"⟩, 28) := ⟨⟨by decide +kernel, by decide +kernel⟩, List.mem_of_getElem? (i := 985) (by decide +kernel), List.mem_of_getElem? (i := 1237) (by decide +kernel), List.mem_of_getElem? (i := 1238) (by decide +kernel)⟩
theorem lw_p41 : lw_okq (⟨"ArcadeRentsModel", "word", "(Ljava/lang/String;)V"⟩, 28) := ⟨⟨by decide +kernel, by decide +kernel⟩, List.mem_of_getElem? (i := 985) (by decide +kernel), List.mem_of_getElem? (i := 1242) (by decide +kernel), List.mem_of_getElem? (i := 1243) (by decide +kernel)⟩
theorem lw_p42 : lw_okq (⟨"ArcadeRentsModel", "need", "(Z)V"⟩, 28) := ⟨⟨by decide +kernel, by decide +kernel⟩, List.mem_of_getElem? (i := 985) (by decide +kernel), List.mem_of_getElem? (i := 1248) (by decide +kernel), List.mem_of_getElem? (i := 1249) (by decide +kernel)⟩
theorem lw_p43 : lw_okq (⟨"ArcadeRentsModel", "either", "()V"⟩, 28) := ⟨⟨by decide +kernel, by decide +kernel⟩, List.mem_of_getElem? (i := 985) (by decide +kernel), List.mem_of_getElem? (i := 1252) (by decide +kernel), List.mem_of_getElem? (i := 1253) (by decide +kernel)⟩
theorem lw_p44 : lw_okq (⟨"ArcadeRentsModel", "both", "()V"⟩, 28) := ⟨⟨by decide +kernel, by decide +kernel⟩, List.mem_of_getElem? (i := 985) (by decide +kernel), List.mem_of_getElem? (i := 1256) (by decide +kernel), List.mem_of_getElem? (i := 1257) (by decide +kernel)⟩
theorem lw_p45 : lw_okq (⟨"ArcadeRentsModel", "test", "()V"⟩, 28) := ⟨⟨by decide +kernel, by decide +kernel⟩, List.mem_of_getElem? (i := 985) (by decide +kernel), List.mem_of_getElem? (i := 1260) (by decide +kernel), List.mem_of_getElem? (i := 1261) (by decide +kernel)⟩
theorem lw_p46 : lw_okq (⟨"ArcadeRentsModel", "sum", "()V"⟩, 28) := ⟨⟨by decide +kernel, by decide +kernel⟩, List.mem_of_getElem? (i := 985) (by decide +kernel), List.mem_of_getElem? (i := 1264) (by decide +kernel), List.mem_of_getElem? (i := 1265) (by decide +kernel)⟩
theorem lw_p47 : lw_okq (⟨"ArcadeRentsModel", "term", "()V"⟩, 28) := ⟨⟨by decide +kernel, by decide +kernel⟩, List.mem_of_getElem? (i := 985) (by decide +kernel), List.mem_of_getElem? (i := 1268) (by decide +kernel), List.mem_of_getElem? (i := 1269) (by decide +kernel)⟩
def lw_privs_3 : List (MethodName × Nat) := [(⟨"ArcadeRentsModel", "goFrom", "(III)I"⟩, 28), (⟨"ArcadeRentsModel", "passers", "(I)I"⟩, 28), (⟨"ArcadeRentsModel", "foretold", "(I)I"⟩, 28), (⟨"ArcadeRentsModel", "others", "(II)I"⟩, 28), (⟨"ArcadeRentsModel", "gone", "(I)I"⟩, 28), (⟨"ArcadeRentsModel", "taken", "(III)I"⟩, 28), (⟨"ArcadeRentsModel", "next", "()V"⟩, 28), (⟨"ArcadeRentsModel", "isLetter", "(I)Z"⟩, 28), (⟨"ArcadeRentsModel", "isDigit", "(I)Z"⟩, 28), (⟨"ArcadeRentsModel", "word", "(Ljava/lang/String;)V"⟩, 28), (⟨"ArcadeRentsModel", "need", "(Z)V"⟩, 28), (⟨"ArcadeRentsModel", "either", "()V"⟩, 28), (⟨"ArcadeRentsModel", "both", "()V"⟩, 28), (⟨"ArcadeRentsModel", "test", "()V"⟩, 28), (⟨"ArcadeRentsModel", "sum", "()V"⟩, 28), (⟨"ArcadeRentsModel", "term", "()V"⟩, 28)]
theorem lw_r3 : ∀ q ∈ lw_privs_3, lw_okq q := List.forall_mem_cons.mpr ⟨lw_p32, List.forall_mem_cons.mpr ⟨lw_p33, List.forall_mem_cons.mpr ⟨lw_p34, List.forall_mem_cons.mpr ⟨lw_p35, List.forall_mem_cons.mpr ⟨lw_p36, List.forall_mem_cons.mpr ⟨lw_p37, List.forall_mem_cons.mpr ⟨lw_p38, List.forall_mem_cons.mpr ⟨lw_p39, List.forall_mem_cons.mpr ⟨lw_p40, List.forall_mem_cons.mpr ⟨lw_p41, List.forall_mem_cons.mpr ⟨lw_p42, List.forall_mem_cons.mpr ⟨lw_p43, List.forall_mem_cons.mpr ⟨lw_p44, List.forall_mem_cons.mpr ⟨lw_p45, List.forall_mem_cons.mpr ⟨lw_p46, List.forall_mem_cons.mpr ⟨lw_p47, fun _ h => absurd h List.not_mem_nil⟩⟩⟩⟩⟩⟩⟩⟩⟩⟩⟩⟩⟩⟩⟩⟩
theorem lw_p48 : lw_okq (⟨"ArcadeRentsModel", "part", "()V"⟩, 28) := ⟨⟨by decide +kernel, by decide +kernel⟩, List.mem_of_getElem? (i := 985) (by decide +kernel), List.mem_of_getElem? (i := 1272) (by decide +kernel), List.mem_of_getElem? (i := 1273) (by decide +kernel)⟩
theorem lw_p49 : lw_okq (⟨"ArcadeRentsModel", "put", "(I)V"⟩, 28) := ⟨⟨by decide +kernel, by decide +kernel⟩, List.mem_of_getElem? (i := 985) (by decide +kernel), List.mem_of_getElem? (i := 1276) (by decide +kernel), List.mem_of_getElem? (i := 1277) (by decide +kernel)⟩
theorem lw_p50 : lw_okq (⟨"ArcadeRentsModel", "isSign", "(I)Z"⟩, 28) := ⟨⟨by decide +kernel, by decide +kernel⟩, List.mem_of_getElem? (i := 985) (by decide +kernel), List.mem_of_getElem? (i := 1283) (by decide +kernel), List.mem_of_getElem? (i := 1284) (by decide +kernel)⟩
theorem lw_p51 : lw_okq (⟨"ArcadeRentsModel", "signHere", "(II)I"⟩, 28) := ⟨⟨by decide +kernel, by decide +kernel⟩, List.mem_of_getElem? (i := 985) (by decide +kernel), List.mem_of_getElem? (i := 1288) (by decide +kernel), List.mem_of_getElem? (i := 1289) (by decide +kernel)⟩
theorem lw_p52 : lw_okq (⟨"ArcadeRentsModel", "rentOf", "(III)I"⟩, 28) := ⟨⟨by decide +kernel, by decide +kernel⟩, List.mem_of_getElem? (i := 985) (by decide +kernel), List.mem_of_getElem? (i := 1302) (by decide +kernel), List.mem_of_getElem? (i := 1303) (by decide +kernel)⟩
theorem lw_p53 : lw_okq (⟨"ArcadeRentsModel", "hasLease", "(I)Z"⟩, 28) := ⟨⟨by decide +kernel, by decide +kernel⟩, List.mem_of_getElem? (i := 985) (by decide +kernel), List.mem_of_getElem? (i := 1306) (by decide +kernel), List.mem_of_getElem? (i := 1307) (by decide +kernel)⟩
theorem lw_p54 : lw_okq (⟨"ArcadeRentsModel", "worked", "(IIII)I"⟩, 28) := ⟨⟨by decide +kernel, by decide +kernel⟩, List.mem_of_getElem? (i := 985) (by decide +kernel), List.mem_of_getElem? (i := 1310) (by decide +kernel), List.mem_of_getElem? (i := 1311) (by decide +kernel)⟩
theorem lw_p55 : lw_okq (⟨"ArcadeRentsModel", "named", "(IIII)I"⟩, 28) := ⟨⟨by decide +kernel, by decide +kernel⟩, List.mem_of_getElem? (i := 985) (by decide +kernel), List.mem_of_getElem? (i := 1314) (by decide +kernel), List.mem_of_getElem? (i := 1315) (by decide +kernel)⟩
theorem lw_p56 : lw_okq (⟨"ArcadeRentsModel", "pays", "(I)Z"⟩, 28) := ⟨⟨by decide +kernel, by decide +kernel⟩, List.mem_of_getElem? (i := 985) (by decide +kernel), List.mem_of_getElem? (i := 1330) (by decide +kernel), List.mem_of_getElem? (i := 1331) (by decide +kernel)⟩
theorem lw_p57 : lw_okq (⟨"ArcadeRentsModel", "findFall", "()I"⟩, 28) := ⟨⟨by decide +kernel, by decide +kernel⟩, List.mem_of_getElem? (i := 985) (by decide +kernel), List.mem_of_getElem? (i := 1338) (by decide +kernel), List.mem_of_getElem? (i := 1339) (by decide +kernel)⟩
theorem lw_p58 : lw_okq (⟨"ArcadeRentsModel", "breaks", "(IIII)Z"⟩, 28) := ⟨⟨by decide +kernel, by decide +kernel⟩, List.mem_of_getElem? (i := 985) (by decide +kernel), List.mem_of_getElem? (i := 1354) (by decide +kernel), List.mem_of_getElem? (i := 1355) (by decide +kernel)⟩
theorem lw_p59 : lw_okq (⟨"ArcadeRentsModel", "findMix", "(I)I"⟩, 28) := ⟨⟨by decide +kernel, by decide +kernel⟩, List.mem_of_getElem? (i := 985) (by decide +kernel), List.mem_of_getElem? (i := 1363) (by decide +kernel), List.mem_of_getElem? (i := 1364) (by decide +kernel)⟩
theorem lw_p60 : lw_okq (⟨"ArcadeRentsModel", "putFrom", "(III)V"⟩, 28) := ⟨⟨by decide +kernel, by decide +kernel⟩, List.mem_of_getElem? (i := 985) (by decide +kernel), List.mem_of_getElem? (i := 1367) (by decide +kernel), List.mem_of_getElem? (i := 1368) (by decide +kernel)⟩
theorem lw_p61 : lw_okq (⟨"ArcadeRentsModel", "isTaken", "(I)Z"⟩, 28) := ⟨⟨by decide +kernel, by decide +kernel⟩, List.mem_of_getElem? (i := 985) (by decide +kernel), List.mem_of_getElem? (i := 1371) (by decide +kernel), List.mem_of_getElem? (i := 1372) (by decide +kernel)⟩
theorem lw_p62 : lw_okq (⟨"ArcadeRentsModel", "mayPut", "(II)Z"⟩, 28) := ⟨⟨by decide +kernel, by decide +kernel⟩, List.mem_of_getElem? (i := 985) (by decide +kernel), List.mem_of_getElem? (i := 1375) (by decide +kernel), List.mem_of_getElem? (i := 1376) (by decide +kernel)⟩
def lw_privs_4 : List (MethodName × Nat) := [(⟨"ArcadeRentsModel", "part", "()V"⟩, 28), (⟨"ArcadeRentsModel", "put", "(I)V"⟩, 28), (⟨"ArcadeRentsModel", "isSign", "(I)Z"⟩, 28), (⟨"ArcadeRentsModel", "signHere", "(II)I"⟩, 28), (⟨"ArcadeRentsModel", "rentOf", "(III)I"⟩, 28), (⟨"ArcadeRentsModel", "hasLease", "(I)Z"⟩, 28), (⟨"ArcadeRentsModel", "worked", "(IIII)I"⟩, 28), (⟨"ArcadeRentsModel", "named", "(IIII)I"⟩, 28), (⟨"ArcadeRentsModel", "pays", "(I)Z"⟩, 28), (⟨"ArcadeRentsModel", "findFall", "()I"⟩, 28), (⟨"ArcadeRentsModel", "breaks", "(IIII)Z"⟩, 28), (⟨"ArcadeRentsModel", "findMix", "(I)I"⟩, 28), (⟨"ArcadeRentsModel", "putFrom", "(III)V"⟩, 28), (⟨"ArcadeRentsModel", "isTaken", "(I)Z"⟩, 28), (⟨"ArcadeRentsModel", "mayPut", "(II)Z"⟩, 28)]
theorem lw_r4 : ∀ q ∈ lw_privs_4, lw_okq q := List.forall_mem_cons.mpr ⟨lw_p48, List.forall_mem_cons.mpr ⟨lw_p49, List.forall_mem_cons.mpr ⟨lw_p50, List.forall_mem_cons.mpr ⟨lw_p51, List.forall_mem_cons.mpr ⟨lw_p52, List.forall_mem_cons.mpr ⟨lw_p53, List.forall_mem_cons.mpr ⟨lw_p54, List.forall_mem_cons.mpr ⟨lw_p55, List.forall_mem_cons.mpr ⟨lw_p56, List.forall_mem_cons.mpr ⟨lw_p57, List.forall_mem_cons.mpr ⟨lw_p58, List.forall_mem_cons.mpr ⟨lw_p59, List.forall_mem_cons.mpr ⟨lw_p60, List.forall_mem_cons.mpr ⟨lw_p61, List.forall_mem_cons.mpr ⟨lw_p62, fun _ h => absurd h List.not_mem_nil⟩⟩⟩⟩⟩⟩⟩⟩⟩⟩⟩⟩⟩⟩⟩
def lw_privs : List (MethodName × Nat) := lw_privs_1 ++ (lw_privs_2 ++ (lw_privs_3 ++ (lw_privs_4)))
def lw_tbl : List Cond := k2_sels lw_privs ++ tables_1
theorem lw_privs_ok : ∀ q ∈ lw_privs, lw_okq q := by
  show ∀ q ∈ lw_privs_1 ++ (lw_privs_2 ++ (lw_privs_3 ++ (lw_privs_4))), lw_okq q
  exact List.forall_mem_append.mpr ⟨lw_r1, List.forall_mem_append.mpr ⟨lw_r2, List.forall_mem_append.mpr ⟨lw_r3, lw_r4⟩⟩⟩
end
section
def va_AOA (ty : FieldType) (U : State) : Prop := (Cond.arrayOver (.array ty)).before #[] U = true
theorem va_AOA.of {ty : FieldType} {A : Array Value} {U : State} (h : (Cond.arrayOver (.array ty)).before A U = true) : va_AOA ty U := h
theorem va_AOA.use {ty : FieldType} {A : Array Value} {U : State} (h : va_AOA ty U) : (Cond.arrayOver (.array ty)).before A U = true := h
/-! ===== BEGIN words of one list among another's, by their places ===== -/
theorem goodIn_r {big : List Cond} (ws : List Cond) (ps : List Nat) (hp : ws = ps.filterMap (fun i => big[i]?)) (h : ws.all goodWord = true) : GoodIn big ws := by
  intro w hw
  have h1 := List.all_eq_true.mp h w hw
  rw [hp] at hw
  obtain ⟨i, -, hi⟩ := List.mem_filterMap.mp hw
  have hm : w ∈ big := by first | exact List.mem_of_getElem? hi | exact List.getElem?_mem hi
  exact ⟨hm, good_of_word h1⟩
theorem goodIn_app {big a b : List Cond} (ha : GoodIn big a) (hb : GoodIn big b) : GoodIn big (a ++ b) := fun w h => (List.mem_append.mp h).elim (ha w) (hb w)
theorem goodIn_ca {big a b : List Cond} {c : Cond} (ha : GoodIn big (c :: a)) (hb : GoodIn big b) : GoodIn big (c :: (a ++ b)) := fun w h => (List.mem_cons.mp h).elim (fun e => ha w (List.mem_cons.mpr (Or.inl e))) (fun h => (List.mem_append.mp h).elim (fun h => ha w (List.mem_cons.mpr (Or.inr h))) (hb w))
theorem goodIn_sub {big ws : List Cond} (hm : ∀ w ∈ ws, w ∈ big) (h : ws.all goodWord = true) : GoodIn big ws := fun w hw => ⟨hm w hw, good_of_word (List.all_eq_true.mp h w hw)⟩
/-! ===== END ===== -/

/-! ===== BEGIN new T[n][m]: the outer array a place, the inner ones among the pooled ===== -/
/-- f, but v at every address of l -/
def vr_up {α : Type} (f : Nat → α) (l : List Nat) (v : α) : Nat → α := fun a => if a ∈ l then v else f a
theorem vr_up_in {α : Type} {f : Nat → α} {l : List Nat} {v : α} {a : Nat} (h : a ∈ l) : vr_up f l v a = v := if_pos h
theorem vr_up_ne {α : Type} {f : Nat → α} {l : List Nat} {v : α} {a : Nat} (h : a ∉ l) : vr_up f l v a = f a := if_neg h
theorem vr_rows {L l : List Nat} {f : Nat → va_E} {e : va_E} (h : ∀ a, a ∈ l → a ∉ L) : va_pl L f ++ l.map (fun a => (a, e)) = va_pl (L ++ l) (vr_up f l e) := by
  unfold va_pl
  rw [List.map_append]
  congr 1
  · apply List.map_congr_left
    intro a ha
    rw [vr_up_ne (fun q => h a q ha)]
  · apply List.map_congr_left
    intro a ha
    rw [vr_up_in ha]
theorem vr_lay {X rows : va_W} {x : Nat × va_E} {pl : va_W} {D : va_G} {cl : List vw_C} {H : Heap} (hP : va_P D cl (((X ++ pl) ++ [x]) ++ rows) H) : va_P D cl ((X ++ [x]) ++ (pl ++ rows)) H := by
  rw [List.append_assoc (X ++ pl)] at hP
  have h := va_P.swap hP
  rw [← List.append_assoc X] at h
  have h2 := va_P.swap h
  rw [List.append_assoc (X ++ [x])] at h2
  exact h2
theorem vr_layD {X rows : va_W} {x : Nat × va_E} {pl : va_W} {A : Nat → Prop} (hD : va_D A (((X ++ pl) ++ [x]) ++ rows)) : va_D A ((X ++ [x]) ++ (pl ++ rows)) := by
  rw [List.append_assoc (X ++ pl)] at hD
  have h := va_D.swap hD
  rw [← List.append_assoc X] at h
  have h2 := va_D.swap h
  rw [List.append_assoc (X ++ [x])] at h2
  exact h2
theorem vr_outer (c : ClassId) (N h0 : Nat) : ∀ i : Nat, Jvm.Free.Multi.outerC c N h0 i = arrV c N (fun j => va_rf (if j < i then some (h0 + 1 + j) else none))
  | 0 => by
    show ({ cls := c, slots := Array.replicate N .null, vm := .none } : Cell) = _
    rw [arrV_new]
    refine congrArg (arrV c N) (funext fun j => ?_)
    simp [va_rf]
  | i + 1 => by
    show (Jvm.Free.Multi.outerC c N h0 i).setSlot i (.ref (h0 + 1 + i)) = _
    rw [vr_outer c N h0 i, arrV_store]
    refine congrArg (arrV c N) (funext fun j => ?_)
    by_cases e : j = i
    · subst e
      simp [updV, va_rf]
    · by_cases h : j < i
      · simp [updV, e, h, Nat.lt_succ_of_lt h]
      · simp [updV, e, h, show ¬ j < i + 1 by omega]
section VGM
variable {p : Program} {l : Launch} {e : Env} {R : Room} {s : State} {m : MethodId} {args : Array Value} {below : List Frame} {meth : Method} {c : Code} {H : Heap} {locs : List Loc} {cells slots : Nat} {Q : State → Prop}
variable {cc : ByteArray} {pc : Nat} {ls : Array Slot} {rest : List Value} {D : va_G} {cl : List vw_C} {A : Nat → Prop} {a : Nat} {tys : List (ClassId × FieldType)} {ws : va_W} {H0 : Heap}
theorem va_mna {X : va_W} {L : List Nat} {f : Nat → va_E} {cc : ByteArray} (hexec : p.tables.exec = Jvm.exec) (hb : c.code = cc) {own : String} {index : Nat} {ty : FieldType} {cy : ClassId} (hown : s.vm.findClass own = some m.cls) (hclink : (Cond.classLink own index ("[" ++ (FieldType.array ty).toString)).before args s = true) (hover : va_AOA ty s) (harr : (Cond.arrayClass ty).before args s = true) (hcy : s.vm.findClass (FieldType.array ty).toString = some cy)
    (hK : va_K D cl tys s) (hP : va_P D cl (X ++ va_pl L f) H) (hD : va_D A (X ++ va_pl L f)) (hS : va_S A H0 H locs) (hA : ∀ q, H0.size ≤ q → A q) {n k : Int32} {N' K' : Nat} {z : vp_A} (hn : ¬ n < 0) (hk : ¬ k < 0) (hN : n.toNatClampNeg = N') (hM : k.toNatClampNeg = K')
    (hb1 : N' * 4 ≤ 536870912) (hb2 : K' * componentBytes ty ≤ 536870912) (hb3 : K' ≤ 536870912) (hdf : fits ty (defaultValue ty) = true) (hdd : (defaultValue ty).isDefault = true) (hcells : cells + (1 + N') ≤ R.cells) (hslots : slots + (N' + N' * K') ≤ R.slots) (hz : ∀ c : ClassId, Jvm.Free.Multi.innerC c K' (defaultValue ty) = vp_cell c z) (hdg : decode cc pc = .ok (.multianewarray index 2, 4))
    (kk : ∀ (q : Nat) (r : Nat → Nat) (cA : ClassId) (H1 : Heap), (∀ i j : Nat, i < N' → j < N' → r i = r j → i = j) → (∀ i : Nat, i < N' → r i ∉ L) → va_K D cl (tys ++ [(cA, .array ty)]) s →
      va_P D cl ((X ++ [(q, .inl (cA, N', .inr (.inr (.inr (.inr (fun i => if i < N' then some (r i) else none))))))]) ++ va_pl (L ++ (List.range N').map r) (vr_up f ((List.range N').map r) (.inl (cy, z)))) H1 → va_D A ((X ++ [(q, .inl (cA, N', .inr (.inr (.inr (.inr (fun i => if i < N' then some (r i) else none))))))]) ++ va_pl (L ++ (List.range N').map r) (vr_up f ((List.range N').map r) (.inl (cy, z)))) → va_S A H0 H1 locs →
      W p l e R s m args below meth c H1 locs (cells + 1 + N') (slots + N' + N' * K') Q (F0 m (pc + 4) ls (.ref q :: rest))) : W p l e R s m args below meth c H locs cells slots Q (F0 m pc ls (.int k :: .int n :: rest)) := by
  subst hN
  subst hM
  intro T hT Xs
  obtain ⟨vm₁, cA, comp, -, fA, fC, hO, -, X', step⟩ := Xs.multianewarray2F hexec hown hclink (va_AOA.use hover) harr (g := F0 m pc ls (.int k :: .int n :: rest)) rfl (by rw [hb]; exact hdg) rfl hn hk hb1 hb2 hb3 hdf hdd hcells hslots
  have ec : some cy = some comp := hcy.symm.trans fC
  cases ec
  generalize hF : Jvm.Free.Multi.fill (T.setVm vm₁) cA cy n.toNatClampNeg k.toNatClampNeg (defaultValue ty) n.toNatClampNeg = F at X' step
  have hTh : (T.setVm vm₁).heap = H := hT
  obtain ⟨f1, f2, -, -⟩ := Jvm.Free.Multi.fill_facts (T.setVm vm₁) cA cy n.toNatClampNeg k.toNatClampNeg (defaultValue ty) n.toNatClampNeg
  rw [hF, hTh] at f1 f2
  have hold : ∀ x : Nat, x < H.size → F.heap[x]? = H[x]? := fun x hx => by
    have := Jvm.Free.Multi.fill_old (T.setVm vm₁) cA cy n.toNatClampNeg k.toNatClampNeg (defaultValue ty) (a := x) (by rw [hTh]; exact hx) n.toNatClampNeg
    rw [hF, hTh] at this
    exact this
  have hrow : ∀ j : Nat, j < n.toNatClampNeg → F.heap[H.size + 1 + j]? = some (vp_cell cy z) := fun j hj => by
    have := Jvm.Free.Multi.fill_inner (T.setVm vm₁) cA cy n.toNatClampNeg k.toNatClampNeg (defaultValue ty) n.toNatClampNeg j hj
    rw [hF, hTh, hz] at this
    exact this
  have hout : Jvm.Free.Multi.outerC cA n.toNatClampNeg H.size n.toNatClampNeg = vp_cell cA (n.toNatClampNeg, .inr (.inr (.inr (.inr (fun i => if i < n.toNatClampNeg then some (H.size + 1 + i) else none))))) := by
    rw [vp_cell_q]
    exact vr_outer cA n.toNatClampNeg H.size n.toNatClampNeg
  rw [hout] at f2
  have hlt : ∀ a, a ∈ L → a < H.size := fun a ha => by
    obtain ⟨k9, hk9⟩ := va_pl_get (X := X) (f := f) ha
    exact (hP k9 _ hk9).lt
  have hnl : ∀ i : Nat, i < n.toNatClampNeg → H.size + 1 + i ∉ L := fun i _ h => by
    have := hlt _ h
    omega
  have hnm : ∀ a, a ∈ (List.range n.toNatClampNeg).map (fun i => H.size + 1 + i) → a ∉ L := fun a ha h => by
    obtain ⟨i, -, rfl⟩ := List.mem_map.mp ha
    have := hlt _ h
    omega
  have hP0 : va_P D cl (X ++ va_pl L f) F.heap := hP.kept (fun k9 x hx => hold x.1 ((hP k9 x hx).lt))
  have hP1 : va_P D cl ((X ++ va_pl L f) ++ [(H.size, .inl (cA, n.toNatClampNeg, .inr (.inr (.inr (.inr (fun i => if i < n.toNatClampNeg then some (H.size + 1 + i) else none))))))]) F.heap := hP0.app (fun k9 x hx => by
    have h0 : k9 < 1 := (List.getElem?_eq_some_iff.mp hx).1
    rw [show k9 = 0 by omega] at hx
    cases hx
    exact f2)
  have hP2 : va_P D cl (((X ++ va_pl L f) ++ [(H.size, .inl (cA, n.toNatClampNeg, .inr (.inr (.inr (.inr (fun i => if i < n.toNatClampNeg then some (H.size + 1 + i) else none))))))]) ++ ((List.range n.toNatClampNeg).map (fun i => H.size + 1 + i)).map (fun a => (a, .inl (cy, z)))) F.heap := hP1.app (fun k9 x hx => by
    obtain ⟨a, ha, rfl⟩ := List.mem_map.mp (List.mem_of_getElem? hx)
    obtain ⟨i, hi, rfl⟩ := List.mem_map.mp ha
    exact hrow i (List.mem_range.mp hi))
  have hD2 : va_D A (((X ++ va_pl L f) ++ [(H.size, .inl (cA, n.toNatClampNeg, .inr (.inr (.inr (.inr (fun i => if i < n.toNatClampNeg then some (H.size + 1 + i) else none))))))]) ++ ((List.range n.toNatClampNeg).map (fun i => H.size + 1 + i)).map (fun a => (a, .inl (cy, z)))) := by
    have hD1 := hD.push (e := .inl (cA, n.toNatClampNeg, .inr (.inr (.inr (.inr (fun i => if i < n.toNatClampNeg then some (H.size + 1 + i) else none)))))) hP rfl (hA _ hS.1)
    generalize hW1 : (X ++ va_pl L f) ++ [(H.size, .inl (cA, n.toNatClampNeg, .inr (.inr (.inr (.inr (fun i => if i < n.toNatClampNeg then some (H.size + 1 + i) else none))))))] = W1 at hD1 hP1 ⊢
    have hle : ∀ (k9 : Nat) (x : Nat × va_E), W1[k9]? = some x → x.1 ≤ H.size := fun k9 x hx => by
      rw [← hW1] at hx
      by_cases hl : k9 < (X ++ va_pl L f).length
      · rw [List.getElem?_append_left hl] at hx
        exact Nat.le_of_lt ((hP k9 x hx).lt)
      · rw [List.getElem?_append_right (by omega)] at hx
        have h0 : k9 - (X ++ va_pl L f).length < 1 := (List.getElem?_eq_some_iff.mp hx).1
        rw [show k9 - (X ++ va_pl L f).length = 0 by omega] at hx
        cases hx
        exact Nat.le_refl _
    have hr : ∀ (k9 : Nat) (x : Nat × va_E), (((List.range n.toNatClampNeg).map (fun i => H.size + 1 + i)).map (fun a => ((a, .inl (cy, z)) : Nat × va_E)))[k9]? = some x → x.1 = H.size + 1 + k9 := fun k9 x hx => by
      rw [List.getElem?_map, List.getElem?_map] at hx
      by_cases h9 : k9 < n.toNatClampNeg
      · rw [List.getElem?_range h9] at hx
        cases hx
        rfl
      · have hn0 : (List.range n.toNatClampNeg)[k9]? = none := List.getElem?_eq_none (by rw [List.length_range]; omega)
        rw [hn0] at hx
        cases hx
    refine ⟨fun i j x y hi hj hxy => ?_, fun k9 x hx => ?_⟩
    · by_cases h1 : i < W1.length <;> by_cases h2 : j < W1.length
      · rw [List.getElem?_append_left h1] at hi
        rw [List.getElem?_append_left h2] at hj
        exact hD1.1 i j x y hi hj hxy
      · rw [List.getElem?_append_left h1] at hi
        rw [List.getElem?_append_right (by omega)] at hj
        have := hle _ _ hi
        have := hr _ _ hj
        omega
      · rw [List.getElem?_append_right (by omega)] at hi
        rw [List.getElem?_append_left h2] at hj
        have := hle _ _ hj
        have := hr _ _ hi
        omega
      · rw [List.getElem?_append_right (by omega)] at hi hj
        have := hr _ _ hi
        have := hr _ _ hj
        omega
    · by_cases h1 : k9 < W1.length
      · rw [List.getElem?_append_left h1] at hx
        exact hD1.2 k9 x hx
      · rw [List.getElem?_append_right (by omega)] at hx
        have := hr _ _ hx
        exact hA _ (by have := hS.1; omega)
  have hAr : ArrOfT s cA (.array ty) := fun N9 z9 => by
    obtain ⟨-, k9, hk9, cm9, hkk9⟩ := (hO 0 0 0).1
    exact ⟨(fun q hq => by cases hq), k9, hk9, cm9, hkk9⟩
  have hK2 : va_K D cl (tys ++ [(cA, .array ty)]) s := ⟨hK.1, fun k9 x hx => by
    by_cases hl : k9 < tys.length
    · rw [List.getElem?_append_left hl] at hx
      exact hK.2 k9 x hx
    · rw [List.getElem?_append_right (by omega)] at hx
      have h0 : k9 - tys.length < 1 := (List.getElem?_eq_some_iff.mp hx).1
      rw [show k9 - tys.length = 0 by omega] at hx
      cases hx
      exact ⟨hAr, fA⟩⟩
  obtain ⟨t, a1, b1⟩ := kk H.size (fun i => H.size + 1 + i) cA F.heap (fun i j _ _ h => by have h9 : H.size + 1 + i = H.size + 1 + j := h; omega) hnl hK2 (by rw [← vr_rows hnm]; exact vr_lay hP2) (by rw [← vr_rows hnm]; exact vr_layD hD2) ⟨by rw [f1]; have := hS.1; omega, fun x h1 h2 => (hold x (Nat.lt_of_lt_of_le h1 hS.1)).trans (hS.2.1 x h1 h2), hS.2.2⟩ F rfl X'
  refine ⟨t, step t ?_, b1⟩
  have e : T.heap.size = H.size := by rw [hT]
  rw [e]
  exact a1
end VGM
/-! ===== END ===== -/

def RX0 : String := "ArcadeRents$Arcade"
def TX0 : u_T := fun k => match k with
  | 0 => ("ArcadeRents$Arcade", "feet", "[I", true)
  | 1 => ("ArcadeRents$Arcade", "rules", "[I", true)
  | 2 => ("ArcadeRents$Arcade", "doors", "LArcadeRents$Doors;", true)
  | 3 => ("ArcadeRents$Arcade", "shops", "LArcadeRents$Shops;", true)
  | 4 => ("ArcadeRents$Arcade", "moves", "LArcadeRents$Moves;", true)
  | 5 => ("ArcadeRents$Arcade", "lines", "LArcadeRents$Lines;", true)
  | 6 => ("ArcadeRents$Arcade", "leases", "LArcadeRents$Leases;", true)
  | 7 => ("ArcadeRents$Arcade", "left", "[I", true)
  | 8 => ("ArcadeRents$Arcade", "leavers", "I", false)
  | _ => ("ArcadeRents$Arcade", "today", "I", false)
def tyX0 : Nat → FieldType := fun k => match k with
  | 0 => .array .int
  | 1 => .array .int
  | 2 => .object "ArcadeRents$Doors"
  | 3 => .object "ArcadeRents$Shops"
  | 4 => .object "ArcadeRents$Moves"
  | 5 => .object "ArcadeRents$Lines"
  | 6 => .object "ArcadeRents$Leases"
  | 7 => .array .int
  | 8 => .int
  | _ => .int
abbrev wsX00 : List Cond := u_ws RX0 TX0 10
theorem nmX0 : ∀ a, a < 10 → ∀ b, b < 10 → a ≠ b → (TX0 a).2.1 ≠ (TX0 b).2.1 := by decide +kernel
theorem tyX0_ok : ∀ k, k < 10 → parseFieldDescriptor (TX0 k).2.2.1 = some (tyX0 k) := by decide +kernel
abbrev cX0_init : ByteArray := prog_2_method_1_code
def yX0_init : MethodName := ⟨RX0, "<init>", "()V"⟩
abbrev cX0_become : ByteArray := prog_2_method_2_code
def yX0_become : MethodName := ⟨RX0, "become", "(LArcadeRents$Arcade;)V"⟩
def RX1 : String := "ArcadeRents$Calc"
def TX1 : u_T := fun k => match k with
  | 0 => ("ArcadeRents$Calc", "stack", "[I", true)
  | _ => ("ArcadeRents$Calc", "top", "I", false)
def tyX1 : Nat → FieldType := fun k => match k with
  | 0 => .array .int
  | _ => .int
abbrev wsX10 : List Cond := u_ws RX1 TX1 2
theorem nmX1 : ∀ a, a < 2 → ∀ b, b < 2 → a ≠ b → (TX1 a).2.1 ≠ (TX1 b).2.1 := by decide +kernel
theorem tyX1_ok : ∀ k, k < 2 → parseFieldDescriptor (TX1 k).2.2.1 = some (tyX1 k) := by decide +kernel
abbrev cX1_init : ByteArray := prog_3_method_1_code
def yX1_init : MethodName := ⟨RX1, "<init>", "()V"⟩
abbrev cX1_work : ByteArray := prog_3_method_2_code
def yX1_work : MethodName := ⟨RX1, "work", "(LArcadeRents$Crowd;III)I"⟩
abbrev cX1_push : ByteArray := prog_3_method_3_code
def yX1_push : MethodName := ⟨RX1, "push", "(I)V"⟩
abbrev cX1_apply : ByteArray := prog_3_method_4_code
def yX1_apply : MethodName := ⟨RX1, "apply", "(I)V"⟩
abbrev cX1_join : ByteArray := prog_3_method_5_code
def yX1_join : MethodName := ⟨RX1, "join", "(III)I"⟩
abbrev cX1_valueOf : ByteArray := prog_3_method_6_code
def yX1_valueOf : MethodName := ⟨RX1, "valueOf", "(ILArcadeRents$Crowd;II)I"⟩
def RX2 : String := "ArcadeRents$Crowd"
def TX2 : u_T := fun k => match k with
  | 0 => ("ArcadeRents$Crowd", "arcade", "LArcadeRents$Arcade;", true)
  | 1 => ("ArcadeRents$Crowd", "month", "I", false)
  | 2 => ("ArcadeRents$Crowd", "in", "I", false)
  | 3 => ("ArcadeRents$Crowd", "placeOf", "[I", true)
  | 4 => ("ArcadeRents$Crowd", "shopAt", "[I", true)
  | 5 => ("ArcadeRents$Crowd", "comers", "[I", true)
  | _ => ("ArcadeRents$Crowd", "past", "[I", true)
def tyX2 : Nat → FieldType := fun k => match k with
  | 0 => .object "ArcadeRents$Arcade"
  | 1 => .int
  | 2 => .int
  | 3 => .array .int
  | 4 => .array .int
  | 5 => .array .int
  | _ => .array .int
abbrev wsX20 : List Cond := u_ws RX2 TX2 7
theorem nmX2 : ∀ a, a < 7 → ∀ b, b < 7 → a ≠ b → (TX2 a).2.1 ≠ (TX2 b).2.1 := by decide +kernel
theorem tyX2_ok : ∀ k, k < 7 → parseFieldDescriptor (TX2 k).2.2.1 = some (tyX2 k) := by decide +kernel
abbrev cX2_init : ByteArray := prog_4_method_1_code
def yX2_init : MethodName := ⟨RX2, "<init>", "(LArcadeRents$Arcade;)V"⟩
abbrev cX2_look : ByteArray := prog_4_method_2_code
def yX2_look : MethodName := ⟨RX2, "look", "(I)V"⟩
abbrev cX2_sendOut : ByteArray := prog_4_method_3_code
def yX2_sendOut : MethodName := ⟨RX2, "sendOut", "(I)V"⟩
abbrev cX2_settle : ByteArray := prog_4_method_4_code
def yX2_settle : MethodName := ⟨RX2, "settle", "()V"⟩
abbrev cX2_walk : ByteArray := prog_4_method_5_code
def yX2_walk : MethodName := ⟨RX2, "walk", "(III)V"⟩
abbrev cX2_foretold : ByteArray := prog_4_method_6_code
def yX2_foretold : MethodName := ⟨RX2, "foretold", "(I)I"⟩
abbrev cX2_others : ByteArray := prog_4_method_7_code
def yX2_others : MethodName := ⟨RX2, "others", "(I)I"⟩
abbrev cX2_anchors : ByteArray := prog_4_method_8_code
def yX2_anchors : MethodName := ⟨RX2, "anchors", "(I)I"⟩
abbrev cX2_beside : ByteArray := prog_4_method_9_code
def yX2_beside : MethodName := ⟨RX2, "beside", "(I)I"⟩
abbrev cX2_rivalNear : ByteArray := prog_4_method_10_code
def yX2_rivalNear : MethodName := ⟨RX2, "rivalNear", "(I)Z"⟩
abbrev cX2_breaks : ByteArray := prog_4_method_11_code
def yX2_breaks : MethodName := ⟨RX2, "breaks", "(II)Z"⟩
abbrev cX2_chargedFeet : ByteArray := prog_4_method_12_code
def yX2_chargedFeet : MethodName := ⟨RX2, "chargedFeet", "(I)I"⟩
def RX3 : String := "ArcadeRents$Doors"
def TX3 : u_T := fun k => match k with
  | 0 => ("ArcadeRents$Doors", "place", "[I", true)
  | 1 => ("ArcadeRents$Doors", "people", "[I", true)
  | _ => ("ArcadeRents$Doors", "many", "I", false)
def tyX3 : Nat → FieldType := fun k => match k with
  | 0 => .array .int
  | 1 => .array .int
  | _ => .int
abbrev wsX30 : List Cond := u_ws RX3 TX3 3
theorem nmX3 : ∀ a, a < 3 → ∀ b, b < 3 → a ≠ b → (TX3 a).2.1 ≠ (TX3 b).2.1 := by decide +kernel
theorem tyX3_ok : ∀ k, k < 3 → parseFieldDescriptor (TX3 k).2.2.1 = some (tyX3 k) := by decide +kernel
abbrev cX3_init : ByteArray := prog_5_method_1_code
def yX3_init : MethodName := ⟨RX3, "<init>", "()V"⟩
abbrev cX3_has : ByteArray := prog_5_method_2_code
def yX3_has : MethodName := ⟨RX3, "has", "(I)Z"⟩
abbrev cX3_add : ByteArray := prog_5_method_3_code
def yX3_add : MethodName := ⟨RX3, "add", "(II)I"⟩
abbrev cX3_become : ByteArray := prog_5_method_4_code
def yX3_become : MethodName := ⟨RX3, "become", "(LArcadeRents$Doors;)V"⟩
def RX4 : String := "ArcadeRents$Leases"
def TX4 : u_T := fun k => match k with
  | 0 => ("ArcadeRents$Leases", "held", "[Z", true)
  | 1 => ("ArcadeRents$Leases", "steps", "[[I", true)
  | _ => ("ArcadeRents$Leases", "ends", "[[I", true)
def tyX4 : Nat → FieldType := fun k => match k with
  | 0 => .array .boolean
  | 1 => .array (.array .int)
  | _ => .array (.array .int)
abbrev wsX40 : List Cond := u_ws RX4 TX4 3
theorem nmX4 : ∀ a, a < 3 → ∀ b, b < 3 → a ≠ b → (TX4 a).2.1 ≠ (TX4 b).2.1 := by decide +kernel
theorem tyX4_ok : ∀ k, k < 3 → parseFieldDescriptor (TX4 k).2.2.1 = some (tyX4 k) := by decide +kernel
abbrev cX4_init : ByteArray := prog_6_method_1_code
def yX4_init : MethodName := ⟨RX4, "<init>", "()V"⟩
abbrev cX4_store : ByteArray := prog_6_method_2_code
def yX4_store : MethodName := ⟨RX4, "store", "(ILArcadeRents$Reader;)V"⟩
abbrev cX4_countHeld : ByteArray := prog_6_method_3_code
def yX4_countHeld : MethodName := ⟨RX4, "countHeld", "()I"⟩
abbrev cX4_become : ByteArray := prog_6_method_4_code
def yX4_become : MethodName := ⟨RX4, "become", "(LArcadeRents$Leases;)V"⟩
def RX5 : String := "ArcadeRents$Lines"
def TX5 : u_T := fun k => match k with
  | 0 => ("ArcadeRents$Lines", "shop", "[I", true)
  | 1 => ("ArcadeRents$Lines", "month", "[I", true)
  | 2 => ("ArcadeRents$Lines", "coins", "[I", true)
  | 3 => ("ArcadeRents$Lines", "told", "[I", true)
  | 4 => ("ArcadeRents$Lines", "withdrawn", "[I", true)
  | _ => ("ArcadeRents$Lines", "many", "I", false)
def tyX5 : Nat → FieldType := fun k => match k with
  | 0 => .array .int
  | 1 => .array .int
  | 2 => .array .int
  | 3 => .array .int
  | 4 => .array .int
  | _ => .int
abbrev wsX50 : List Cond := u_ws RX5 TX5 6
theorem nmX5 : ∀ a, a < 6 → ∀ b, b < 6 → a ≠ b → (TX5 a).2.1 ≠ (TX5 b).2.1 := by decide +kernel
theorem tyX5_ok : ∀ k, k < 6 → parseFieldDescriptor (TX5 k).2.2.1 = some (tyX5 k) := by decide +kernel
abbrev cX5_init : ByteArray := prog_7_method_1_code
def yX5_init : MethodName := ⟨RX5, "<init>", "()V"⟩
abbrev cX5_has : ByteArray := prog_7_method_2_code
def yX5_has : MethodName := ⟨RX5, "has", "(I)Z"⟩
abbrev cX5_add : ByteArray := prog_7_method_3_code
def yX5_add : MethodName := ⟨RX5, "add", "(IIII)I"⟩
abbrev cX5_sum : ByteArray := prog_7_method_4_code
def yX5_sum : MethodName := ⟨RX5, "sum", "(III)I"⟩
abbrev cX5_counts : ByteArray := prog_7_method_5_code
def yX5_counts : MethodName := ⟨RX5, "counts", "(II)Z"⟩
abbrev cX5_countWithdrawn : ByteArray := prog_7_method_6_code
def yX5_countWithdrawn : MethodName := ⟨RX5, "countWithdrawn", "()I"⟩
abbrev cX5_become : ByteArray := prog_7_method_7_code
def yX5_become : MethodName := ⟨RX5, "become", "(LArcadeRents$Lines;)V"⟩
def RX6 : String := "ArcadeRents$Mix"
def TX6 : u_T := fun k => match k with
  | 0 => ("ArcadeRents$Mix", "best", "[I", true)
  | 1 => ("ArcadeRents$Mix", "bestWorth", "I", false)
  | 2 => ("ArcadeRents$Mix", "bestMany", "I", false)
  | 3 => ("ArcadeRents$Mix", "put", "[I", true)
  | 4 => ("ArcadeRents$Mix", "worth", "[[I", true)
  | 5 => ("ArcadeRents$Mix", "rivals", "[[I", true)
  | 6 => ("ArcadeRents$Mix", "fit", "[[I", true)
  | 7 => ("ArcadeRents$Mix", "tries", "I", false)
  | _ => ("ArcadeRents$Mix", "most", "I", false)
def tyX6 : Nat → FieldType := fun k => match k with
  | 0 => .array .int
  | 1 => .int
  | 2 => .int
  | 3 => .array .int
  | 4 => .array (.array .int)
  | 5 => .array (.array .int)
  | 6 => .array (.array .int)
  | 7 => .int
  | _ => .int
abbrev wsX60 : List Cond := u_ws RX6 TX6 9
theorem nmX6 : ∀ a, a < 9 → ∀ b, b < 9 → a ≠ b → (TX6 a).2.1 ≠ (TX6 b).2.1 := by decide +kernel
theorem tyX6_ok : ∀ k, k < 9 → parseFieldDescriptor (TX6 k).2.2.1 = some (tyX6 k) := by decide +kernel
abbrev cX6_init : ByteArray := prog_8_method_1_code
def yX6_init : MethodName := ⟨RX6, "<init>", "()V"⟩
abbrev cX6_search : ByteArray := prog_8_method_2_code
def yX6_search : MethodName := ⟨RX6, "search", "(LArcadeRents$Crowd;I)Z"⟩
abbrev cX6_prepare : ByteArray := prog_8_method_3_code
def yX6_prepare : MethodName := ⟨RX6, "prepare", "(LArcadeRents$Arcade;I)V"⟩
abbrev cX6_fitAtFirst : ByteArray := prog_8_method_4_code
def yX6_fitAtFirst : MethodName := ⟨RX6, "fitAtFirst", "(LArcadeRents$Crowd;I)I"⟩
abbrev cX6_extend : ByteArray := prog_8_method_5_code
def yX6_extend : MethodName := ⟨RX6, "extend", "(III)Z"⟩
abbrev cX6_narrow : ByteArray := prog_8_method_6_code
def yX6_narrow : MethodName := ⟨RX6, "narrow", "(III)V"⟩
abbrev cX6_compare : ByteArray := prog_8_method_7_code
def yX6_compare : MethodName := ⟨RX6, "compare", "(II)V"⟩
def RX7 : String := "ArcadeRents$Moves"
def TX7 : u_T := fun k => match k with
  | 0 => ("ArcadeRents$Moves", "shop", "[I", true)
  | 1 => ("ArcadeRents$Moves", "month", "[I", true)
  | 2 => ("ArcadeRents$Moves", "place", "[I", true)
  | _ => ("ArcadeRents$Moves", "many", "I", false)
def tyX7 : Nat → FieldType := fun k => match k with
  | 0 => .array .int
  | 1 => .array .int
  | 2 => .array .int
  | _ => .int
abbrev wsX70 : List Cond := u_ws RX7 TX7 4
theorem nmX7 : ∀ a, a < 4 → ∀ b, b < 4 → a ≠ b → (TX7 a).2.1 ≠ (TX7 b).2.1 := by decide +kernel
theorem tyX7_ok : ∀ k, k < 4 → parseFieldDescriptor (TX7 k).2.2.1 = some (tyX7 k) := by decide +kernel
abbrev cX7_init : ByteArray := prog_9_method_1_code
def yX7_init : MethodName := ⟨RX7, "<init>", "()V"⟩
abbrev cX7_add : ByteArray := prog_9_method_2_code
def yX7_add : MethodName := ⟨RX7, "add", "(III)V"⟩
abbrev cX7_become : ByteArray := prog_9_method_3_code
def yX7_become : MethodName := ⟨RX7, "become", "(LArcadeRents$Moves;)V"⟩
def RX8 : String := "ArcadeRents$Reader"
def TX8 : u_T := fun k => match k with
  | 0 => ("ArcadeRents$Reader", "size", "I", false)
  | 1 => ("ArcadeRents$Reader", "steps", "[I", true)
  | 2 => ("ArcadeRents$Reader", "ends", "[I", true)
  | 3 => ("ArcadeRents$Reader", "leaves", "I", false)
  | 4 => ("ArcadeRents$Reader", "tape", "[B", true)
  | 5 => ("ArcadeRents$Reader", "many", "I", false)
  | 6 => ("ArcadeRents$Reader", "at", "I", false)
  | 7 => ("ArcadeRents$Reader", "token", "I", false)
  | 8 => ("ArcadeRents$Reader", "start", "I", false)
  | _ => ("ArcadeRents$Reader", "value", "I", false)
def tyX8 : Nat → FieldType := fun k => match k with
  | 0 => .int
  | 1 => .array .int
  | 2 => .array .int
  | 3 => .int
  | 4 => .array .byte
  | 5 => .int
  | 6 => .int
  | 7 => .int
  | 8 => .int
  | _ => .int
abbrev wsX80 : List Cond := u_ws RX8 TX8 10
theorem nmX8 : ∀ a, a < 10 → ∀ b, b < 10 → a ≠ b → (TX8 a).2.1 ≠ (TX8 b).2.1 := by decide +kernel
theorem tyX8_ok : ∀ k, k < 10 → parseFieldDescriptor (TX8 k).2.2.1 = some (tyX8 k) := by decide +kernel
abbrev cX8_init : ByteArray := prog_10_method_1_code
def yX8_init : MethodName := ⟨RX8, "<init>", "()V"⟩
abbrev cX8_append : ByteArray := prog_10_method_2_code
def yX8_append : MethodName := ⟨RX8, "append", "(I)V"⟩
abbrev cX8_findFault : ByteArray := prog_10_method_3_code
def yX8_findFault : MethodName := ⟨RX8, "findFault", "()I"⟩
abbrev cX8_expression : ByteArray := prog_10_method_4_code
def yX8_expression : MethodName := ⟨RX8, "expression", "(III)Z"⟩
abbrev cX8_part : ByteArray := prog_10_method_5_code
def yX8_part : MethodName := ⟨RX8, "part", "(II)Z"⟩
abbrev cX8_levelOf : ByteArray := prog_10_method_6_code
def yX8_levelOf : MethodName := ⟨RX8, "levelOf", "(I)I"⟩
abbrev cX8_emit : ByteArray := prog_10_method_7_code
def yX8_emit : MethodName := ⟨RX8, "emit", "(I)V"⟩
abbrev cX8_advance : ByteArray := prog_10_method_8_code
def yX8_advance : MethodName := ⟨RX8, "advance", "()V"⟩
abbrev cX8_numberToken : ByteArray := prog_10_method_9_code
def yX8_numberToken : MethodName := ⟨RX8, "numberToken", "()I"⟩
abbrev cX8_lettersToken : ByteArray := prog_10_method_10_code
def yX8_lettersToken : MethodName := ⟨RX8, "lettersToken", "(I)I"⟩
abbrev cX8_reads : ByteArray := prog_10_method_11_code
def yX8_reads : MethodName := ⟨RX8, "reads", "(Ljava/lang/String;)Z"⟩
abbrev cX8_isDigit : ByteArray := prog_10_method_12_code
def yX8_isDigit : MethodName := ⟨RX8, "isDigit", "(I)Z"⟩
abbrev cX8_isLetter : ByteArray := prog_10_method_13_code
def yX8_isLetter : MethodName := ⟨RX8, "isLetter", "(I)Z"⟩
def RX9 : String := "ArcadeRents$Sheets"
def TX9 : u_T := fun k => match k with
  | 0 => ("ArcadeRents$Sheets", "rows", "[[S", true)
  | _ => ("ArcadeRents$Sheets", "sizes", "[I", true)
def tyX9 : Nat → FieldType := fun k => match k with
  | 0 => .array (.array .short)
  | _ => .array .int
abbrev wsX90 : List Cond := u_ws RX9 TX9 2
theorem nmX9 : ∀ a, a < 2 → ∀ b, b < 2 → a ≠ b → (TX9 a).2.1 ≠ (TX9 b).2.1 := by decide +kernel
theorem tyX9_ok : ∀ k, k < 2 → parseFieldDescriptor (TX9 k).2.2.1 = some (tyX9 k) := by decide +kernel
abbrev cX9_init : ByteArray := prog_11_method_1_code
def yX9_init : MethodName := ⟨RX9, "<init>", "()V"⟩
abbrev cX9_isSheet : ByteArray := prog_11_method_2_code
def yX9_isSheet : MethodName := ⟨RX9, "isSheet", "(I)Z"⟩
abbrev cX9_isMissing : ByteArray := prog_11_method_3_code
def yX9_isMissing : MethodName := ⟨RX9, "isMissing", "(I)Z"⟩
abbrev cX9_begin : ByteArray := prog_11_method_4_code
def yX9_begin : MethodName := ⟨RX9, "begin", "(II)V"⟩
abbrev cX9_reaches : ByteArray := prog_11_method_5_code
def yX9_reaches : MethodName := ⟨RX9, "reaches", "(III)Z"⟩
def RX10 : String := "ArcadeRents$Shops"
def TX10 : u_T := fun k => match k with
  | 0 => ("ArcadeRents$Shops", "kind", "[I", true)
  | 1 => ("ArcadeRents$Shops", "sort", "[I", true)
  | 2 => ("ArcadeRents$Shops", "pull", "[I", true)
  | 3 => ("ArcadeRents$Shops", "lure", "[I", true)
  | 4 => ("ArcadeRents$Shops", "near", "[I", true)
  | 5 => ("ArcadeRents$Shops", "spend", "[I", true)
  | 6 => ("ArcadeRents$Shops", "ask", "[I", true)
  | _ => ("ArcadeRents$Shops", "many", "I", false)
def tyX10 : Nat → FieldType := fun k => match k with
  | 0 => .array .int
  | 1 => .array .int
  | 2 => .array .int
  | 3 => .array .int
  | 4 => .array .int
  | 5 => .array .int
  | 6 => .array .int
  | _ => .int
abbrev wsX100 : List Cond := u_ws RX10 TX10 8
theorem nmX10 : ∀ a, a < 8 → ∀ b, b < 8 → a ≠ b → (TX10 a).2.1 ≠ (TX10 b).2.1 := by decide +kernel
theorem tyX10_ok : ∀ k, k < 8 → parseFieldDescriptor (TX10 k).2.2.1 = some (tyX10 k) := by decide +kernel
abbrev cX10_init : ByteArray := prog_12_method_1_code
def yX10_init : MethodName := ⟨RX10, "<init>", "()V"⟩
abbrev cX10_has : ByteArray := prog_12_method_2_code
def yX10_has : MethodName := ⟨RX10, "has", "(I)Z"⟩
abbrev cX10_add : ByteArray := prog_12_method_3_code
def yX10_add : MethodName := ⟨RX10, "add", "(IIIII)I"⟩
abbrev cX10_rivals : ByteArray := prog_12_method_4_code
def yX10_rivals : MethodName := ⟨RX10, "rivals", "(III)Z"⟩
abbrev cX10_become : ByteArray := prog_12_method_5_code
def yX10_become : MethodName := ⟨RX10, "become", "(LArcadeRents$Shops;)V"⟩
def RX11 : String := "ArcadeRents"
def TX11 : u_T := fun k => match k with
  | 0 => ("ArcadeRents", "now", "LArcadeRents$Arcade;", true)
  | 1 => ("ArcadeRents", "image", "LArcadeRents$Arcade;", true)
  | 2 => ("ArcadeRents", "hasImage", "Z", false)
  | 3 => ("ArcadeRents", "reader", "LArcadeRents$Reader;", true)
  | 4 => ("ArcadeRents", "sheets", "LArcadeRents$Sheets;", true)
  | 5 => ("ArcadeRents", "crowd", "LArcadeRents$Crowd;", true)
  | 6 => ("ArcadeRents", "calc", "LArcadeRents$Calc;", true)
  | 7 => ("ArcadeRents", "mix", "LArcadeRents$Mix;", true)
  | 8 => ("ArcadeRents", "gone", "[I", true)
  | 9 => ("ArcadeRents", "waiting", "[I", true)
  | _ => ("ArcadeRents", "waits", "I", false)
def tyX11 : Nat → FieldType := fun k => match k with
  | 0 => .object "ArcadeRents$Arcade"
  | 1 => .object "ArcadeRents$Arcade"
  | 2 => .boolean
  | 3 => .object "ArcadeRents$Reader"
  | 4 => .object "ArcadeRents$Sheets"
  | 5 => .object "ArcadeRents$Crowd"
  | 6 => .object "ArcadeRents$Calc"
  | 7 => .object "ArcadeRents$Mix"
  | 8 => .array .int
  | 9 => .array .int
  | _ => .int
abbrev wsX110 : List Cond := u_ws RX11 TX11 11
theorem nmX11 : ∀ a, a < 11 → ∀ b, b < 11 → a ≠ b → (TX11 a).2.1 ≠ (TX11 b).2.1 := by decide +kernel
theorem tyX11_ok : ∀ k, k < 11 → parseFieldDescriptor (TX11 k).2.2.1 = some (tyX11 k) := by decide +kernel
abbrev cX11_init : ByteArray := prog_1_method_1_code
def yX11_init : MethodName := ⟨RX11, "<init>", "()V"⟩
abbrev cX11_feet : ByteArray := prog_1_method_2_code
def yX11_feet : MethodName := ⟨RX11, "feet", "(II)I"⟩
abbrev cX11_lay : ByteArray := prog_1_method_3_code
def yX11_lay : MethodName := ⟨RX11, "lay", "(I)I"⟩
abbrev cX11_door : ByteArray := prog_1_method_4_code
def yX11_door : MethodName := ⟨RX11, "door", "(II)I"⟩
abbrev cX11_people : ByteArray := prog_1_method_5_code
def yX11_people : MethodName := ⟨RX11, "people", "(II)I"⟩
abbrev cX11_shop : ByteArray := prog_1_method_6_code
def yX11_shop : MethodName := ⟨RX11, "shop", "(IIIII)I"⟩
abbrev cX11_isOf : ByteArray := prog_1_method_7_code
def yX11_isOf : MethodName := ⟨RX11, "isOf", "(II)I"⟩
abbrev cX11_move : ByteArray := prog_1_method_8_code
def yX11_move : MethodName := ⟨RX11, "move", "(II)I"⟩
abbrev cX11_months : ByteArray := prog_1_method_9_code
def yX11_months : MethodName := ⟨RX11, "months", "(I)I"⟩
abbrev cX11_rule : ByteArray := prog_1_method_10_code
def yX11_rule : MethodName := ⟨RX11, "rule", "(II)I"⟩
abbrev cX11_stands : ByteArray := prog_1_method_11_code
def yX11_stands : MethodName := ⟨RX11, "stands", "(III)I"⟩
abbrev cX11_past : ByteArray := prog_1_method_12_code
def yX11_past : MethodName := ⟨RX11, "past", "(II)I"⟩
abbrev cX11_take : ByteArray := prog_1_method_13_code
def yX11_take : MethodName := ⟨RX11, "take", "(III)I"⟩
abbrev cX11_withdraw : ByteArray := prog_1_method_14_code
def yX11_withdraw : MethodName := ⟨RX11, "withdraw", "(I)I"⟩
abbrev cX11_line : ByteArray := prog_1_method_15_code
def yX11_line : MethodName := ⟨RX11, "line", "(II)I"⟩
abbrev cX11_takings : ByteArray := prog_1_method_16_code
def yX11_takings : MethodName := ⟨RX11, "takings", "(III)I"⟩
abbrev cX11_beyond : ByteArray := prog_1_method_17_code
def yX11_beyond : MethodName := ⟨RX11, "beyond", "(III)I"⟩
abbrev cX11_feed : ByteArray := prog_1_method_18_code
def yX11_feed : MethodName := ⟨RX11, "feed", "(III)I"⟩
abbrev cX11_trim : ByteArray := prog_1_method_19_code
def yX11_trim : MethodName := ⟨RX11, "trim", "(I)I"⟩
abbrev cX11_lease : ByteArray := prog_1_method_20_code
def yX11_lease : MethodName := ⟨RX11, "lease", "(I)I"⟩
abbrev cX11_rent : ByteArray := prog_1_method_21_code
def yX11_rent : MethodName := ⟨RX11, "rent", "(III)I"⟩
abbrev cX11_rents : ByteArray := prog_1_method_22_code
def yX11_rents : MethodName := ⟨RX11, "rents", "(II)I"⟩
abbrev cX11_charge : ByteArray := prog_1_method_23_code
def yX11_charge : MethodName := ⟨RX11, "charge", "(III)I"⟩
abbrev cX11_fall : ByteArray := prog_1_method_24_code
def yX11_fall : MethodName := ⟨RX11, "fall", "()I"⟩
abbrev cX11_fallen : ByteArray := prog_1_method_25_code
def yX11_fallen : MethodName := ⟨RX11, "fallen", "(I)I"⟩
abbrev cX11_without : ByteArray := prog_1_method_26_code
def yX11_without : MethodName := ⟨RX11, "without", "(I)I"⟩
abbrev cX11_broken : ByteArray := prog_1_method_27_code
def yX11_broken : MethodName := ⟨RX11, "broken", "()I"⟩
abbrev cX11_mix : ByteArray := prog_1_method_28_code
def yX11_mix : MethodName := ⟨RX11, "mix", "(I)I"⟩
abbrev cX11_mixed : ByteArray := prog_1_method_29_code
def yX11_mixed : MethodName := ⟨RX11, "mixed", "(II)I"⟩
abbrev cX11_tell : ByteArray := prog_1_method_30_code
def yX11_tell : MethodName := ⟨RX11, "tell", "(I)I"⟩
abbrev cX11_check : ByteArray := prog_1_method_31_code
def yX11_check : MethodName := ⟨RX11, "check", "()I"⟩
abbrev cX11_keep : ByteArray := prog_1_method_32_code
def yX11_keep : MethodName := ⟨RX11, "keep", "()I"⟩
abbrev cX11_back : ByteArray := prog_1_method_33_code
def yX11_back : MethodName := ⟨RX11, "back", "()I"⟩
abbrev cX11_sheet : ByteArray := prog_1_method_34_code
def yX11_sheet : MethodName := ⟨RX11, "sheet", "(II)I"⟩
abbrev cX11_mark : ByteArray := prog_1_method_35_code
def yX11_mark : MethodName := ⟨RX11, "mark", "(III)I"⟩
abbrev cX11_copy : ByteArray := prog_1_method_36_code
def yX11_copy : MethodName := ⟨RX11, "copy", "(IIIII)I"⟩
abbrev cX11_count : ByteArray := prog_1_method_37_code
def yX11_count : MethodName := ⟨RX11, "count", "(I)I"⟩
abbrev cX11_within : ByteArray := prog_1_method_38_code
def yX11_within : MethodName := ⟨RX11, "within", "(III)Z"⟩
abbrev cX11_isPlace : ByteArray := prog_1_method_39_code
def yX11_isPlace : MethodName := ⟨RX11, "isPlace", "(I)Z"⟩
abbrev cX11_isFeet : ByteArray := prog_1_method_40_code
def yX11_isFeet : MethodName := ⟨RX11, "isFeet", "(I)Z"⟩
abbrev cX11_isPeople : ByteArray := prog_1_method_41_code
def yX11_isPeople : MethodName := ⟨RX11, "isPeople", "(I)Z"⟩
abbrev cX11_isTries : ByteArray := prog_1_method_42_code
def yX11_isTries : MethodName := ⟨RX11, "isTries", "(I)Z"⟩
abbrev cX11_isMonth : ByteArray := prog_1_method_43_code
def yX11_isMonth : MethodName := ⟨RX11, "isMonth", "(I)Z"⟩
abbrev cX11_countIn : ByteArray := prog_1_method_44_code
def yX11_countIn : MethodName := ⟨RX11, "countIn", "()I"⟩
abbrev cX11_rentOf : ByteArray := prog_1_method_45_code
def yX11_rentOf : MethodName := ⟨RX11, "rentOf", "(II)I"⟩
abbrev cX11_rentPart : ByteArray := prog_1_method_46_code
def yX11_rentPart : MethodName := ⟨RX11, "rentPart", "(III)I"⟩
abbrev cX11_letFall : ByteArray := prog_1_method_47_code
def yX11_letFall : MethodName := ⟨RX11, "letFall", "()I"⟩
abbrev cX11_firstToLeave : ByteArray := prog_1_method_48_code
def yX11_firstToLeave : MethodName := ⟨RX11, "firstToLeave", "()I"⟩
abbrev cX11_seek : ByteArray := prog_1_method_49_code
def yX11_seek : MethodName := ⟨RX11, "seek", "(I)Z"⟩
def RX12 : String := "ArcadeRentsModel"
def TX12 : u_T := fun k => match k with
  | 0 => ("ArcadeRentsModel", "now", "[I", true)
  | 1 => ("ArcadeRentsModel", "image", "[I", true)
  | 2 => ("ArcadeRentsModel", "hasImage", "Z", false)
  | 3 => ("ArcadeRentsModel", "tape", "[I", true)
  | 4 => ("ArcadeRentsModel", "taped", "I", false)
  | 5 => ("ArcadeRentsModel", "waits", "[I", true)
  | 6 => ("ArcadeRentsModel", "waiting", "I", false)
  | 7 => ("ArcadeRentsModel", "places", "[I", true)
  | 8 => ("ArcadeRentsModel", "sheets", "[I", true)
  | 9 => ("ArcadeRentsModel", "stand", "[I", true)
  | 10 => ("ArcadeRentsModel", "from", "I", false)
  | 11 => ("ArcadeRentsModel", "to", "I", false)
  | 12 => ("ArcadeRentsModel", "sort", "I", false)
  | 13 => ("ArcadeRentsModel", "isFault", "Z", false)
  | 14 => ("ArcadeRentsModel", "brackets", "I", false)
  | 15 => ("ArcadeRentsModel", "nots", "I", false)
  | 16 => ("ArcadeRentsModel", "code", "[I", true)
  | 17 => ("ArcadeRentsModel", "codes", "I", false)
  | 18 => ("ArcadeRentsModel", "parts", "I", false)
  | 19 => ("ArcadeRentsModel", "pile", "[I", true)
  | 20 => ("ArcadeRentsModel", "leaver", "[I", true)
  | 21 => ("ArcadeRentsModel", "puts", "[I", true)
  | 22 => ("ArcadeRentsModel", "best", "[I", true)
  | 23 => ("ArcadeRentsModel", "bestWorth", "I", false)
  | 24 => ("ArcadeRentsModel", "bestMany", "I", false)
  | 25 => ("ArcadeRentsModel", "triesLeft", "I", false)
  | 26 => ("ArcadeRentsModel", "isSpent", "Z", false)
  | _ => ("ArcadeRentsModel", "carried", "[I", true)
def tyX12 : Nat → FieldType := fun k => match k with
  | 0 => .array .int
  | 1 => .array .int
  | 2 => .boolean
  | 3 => .array .int
  | 4 => .int
  | 5 => .array .int
  | 6 => .int
  | 7 => .array .int
  | 8 => .array .int
  | 9 => .array .int
  | 10 => .int
  | 11 => .int
  | 12 => .int
  | 13 => .boolean
  | 14 => .int
  | 15 => .int
  | 16 => .array .int
  | 17 => .int
  | 18 => .int
  | 19 => .array .int
  | 20 => .array .int
  | 21 => .array .int
  | 22 => .array .int
  | 23 => .int
  | 24 => .int
  | 25 => .int
  | 26 => .boolean
  | _ => .array .int
abbrev wsX120 : List Cond := u_ws RX12 TX12 28
theorem nmX12 : ∀ a, a < 28 → ∀ b, b < 28 → a ≠ b → (TX12 a).2.1 ≠ (TX12 b).2.1 := by decide +kernel
theorem tyX12_ok : ∀ k, k < 28 → parseFieldDescriptor (TX12 k).2.2.1 = some (tyX12 k) := by decide +kernel
abbrev cX12_init : ByteArray := prog_14_method_1_code
def yX12_init : MethodName := ⟨RX12, "<init>", "()V"⟩
abbrev cX12_within : ByteArray := prog_14_method_2_code
def yX12_within : MethodName := ⟨RX12, "within", "(III)Z"⟩
abbrev cX12_isPlace : ByteArray := prog_14_method_3_code
def yX12_isPlace : MethodName := ⟨RX12, "isPlace", "(I)Z"⟩
abbrev cX12_isShop : ByteArray := prog_14_method_4_code
def yX12_isShop : MethodName := ⟨RX12, "isShop", "(I)Z"⟩
abbrev cX12_isPast : ByteArray := prog_14_method_5_code
def yX12_isPast : MethodName := ⟨RX12, "isPast", "(I)Z"⟩
abbrev cX12_of : ByteArray := prog_14_method_6_code
def yX12_of : MethodName := ⟨RX12, "of", "(II)I"⟩
abbrev cX12_feet : ByteArray := prog_14_method_7_code
def yX12_feet : MethodName := ⟨RX12, "feet", "(II)I"⟩
abbrev cX12_lay : ByteArray := prog_14_method_8_code
def yX12_lay : MethodName := ⟨RX12, "lay", "(I)I"⟩
abbrev cX12_door : ByteArray := prog_14_method_9_code
def yX12_door : MethodName := ⟨RX12, "door", "(II)I"⟩
abbrev cX12_people : ByteArray := prog_14_method_10_code
def yX12_people : MethodName := ⟨RX12, "people", "(II)I"⟩
abbrev cX12_shop : ByteArray := prog_14_method_11_code
def yX12_shop : MethodName := ⟨RX12, "shop", "(IIIII)I"⟩
abbrev cX12_isOf : ByteArray := prog_14_method_12_code
def yX12_isOf : MethodName := ⟨RX12, "isOf", "(II)I"⟩
abbrev cX12_placeOf : ByteArray := prog_14_method_13_code
def yX12_placeOf : MethodName := ⟨RX12, "placeOf", "(II)I"⟩
abbrev cX12_findStands : ByteArray := prog_14_method_14_code
def yX12_findStands : MethodName := ⟨RX12, "findStands", "(I)V"⟩
abbrev cX12_shopAt : ByteArray := prog_14_method_15_code
def yX12_shopAt : MethodName := ⟨RX12, "shopAt", "(I)I"⟩
abbrev cX12_moves : ByteArray := prog_14_method_16_code
def yX12_moves : MethodName := ⟨RX12, "moves", "(II)V"⟩
abbrev cX12_move : ByteArray := prog_14_method_17_code
def yX12_move : MethodName := ⟨RX12, "move", "(II)I"⟩
abbrev cX12_months : ByteArray := prog_14_method_18_code
def yX12_months : MethodName := ⟨RX12, "months", "(I)I"⟩
abbrev cX12_rule : ByteArray := prog_14_method_19_code
def yX12_rule : MethodName := ⟨RX12, "rule", "(II)I"⟩
abbrev cX12_pulls : ByteArray := prog_14_method_20_code
def yX12_pulls : MethodName := ⟨RX12, "pulls", "()I"⟩
abbrev cX12_goFrom : ByteArray := prog_14_method_21_code
def yX12_goFrom : MethodName := ⟨RX12, "goFrom", "(III)I"⟩
abbrev cX12_comers : ByteArray := prog_14_method_22_code
def yX12_comers : MethodName := ⟨RX12, "comers", "(I)I"⟩
abbrev cX12_passers : ByteArray := prog_14_method_23_code
def yX12_passers : MethodName := ⟨RX12, "passers", "(I)I"⟩
abbrev cX12_foretold : ByteArray := prog_14_method_24_code
def yX12_foretold : MethodName := ⟨RX12, "foretold", "(I)I"⟩
abbrev cX12_others : ByteArray := prog_14_method_25_code
def yX12_others : MethodName := ⟨RX12, "others", "(II)I"⟩
abbrev cX12_stands : ByteArray := prog_14_method_26_code
def yX12_stands : MethodName := ⟨RX12, "stands", "(III)I"⟩
abbrev cX12_past : ByteArray := prog_14_method_27_code
def yX12_past : MethodName := ⟨RX12, "past", "(II)I"⟩
abbrev cX12_take : ByteArray := prog_14_method_28_code
def yX12_take : MethodName := ⟨RX12, "take", "(III)I"⟩
abbrev cX12_gone : ByteArray := prog_14_method_29_code
def yX12_gone : MethodName := ⟨RX12, "gone", "(I)I"⟩
abbrev cX12_withdraw : ByteArray := prog_14_method_30_code
def yX12_withdraw : MethodName := ⟨RX12, "withdraw", "(I)I"⟩
abbrev cX12_line : ByteArray := prog_14_method_31_code
def yX12_line : MethodName := ⟨RX12, "line", "(II)I"⟩
abbrev cX12_taken : ByteArray := prog_14_method_32_code
def yX12_taken : MethodName := ⟨RX12, "taken", "(III)I"⟩
abbrev cX12_takings : ByteArray := prog_14_method_33_code
def yX12_takings : MethodName := ⟨RX12, "takings", "(III)I"⟩
abbrev cX12_beyond : ByteArray := prog_14_method_34_code
def yX12_beyond : MethodName := ⟨RX12, "beyond", "(III)I"⟩
abbrev cX12_feed : ByteArray := prog_14_method_35_code
def yX12_feed : MethodName := ⟨RX12, "feed", "(III)I"⟩
abbrev cX12_trim : ByteArray := prog_14_method_36_code
def yX12_trim : MethodName := ⟨RX12, "trim", "(I)I"⟩
abbrev cX12_isLetter : ByteArray := prog_14_method_37_code
def yX12_isLetter : MethodName := ⟨RX12, "isLetter", "(I)Z"⟩
abbrev cX12_isDigit : ByteArray := prog_14_method_38_code
def yX12_isDigit : MethodName := ⟨RX12, "isDigit", "(I)Z"⟩
abbrev cX12_next : ByteArray := prog_14_method_39_code
def yX12_next : MethodName := ⟨RX12, "next", "()V"⟩
abbrev cX12_isSign : ByteArray := prog_14_method_40_code
def yX12_isSign : MethodName := ⟨RX12, "isSign", "(I)Z"⟩
abbrev cX12_need : ByteArray := prog_14_method_41_code
def yX12_need : MethodName := ⟨RX12, "need", "(Z)V"⟩
abbrev cX12_word : ByteArray := prog_14_method_42_code
def yX12_word : MethodName := ⟨RX12, "word", "(Ljava/lang/String;)V"⟩
abbrev cX12_put : ByteArray := prog_14_method_43_code
def yX12_put : MethodName := ⟨RX12, "put", "(I)V"⟩
abbrev cX12_signHere : ByteArray := prog_14_method_44_code
def yX12_signHere : MethodName := ⟨RX12, "signHere", "(II)I"⟩
abbrev cX12_part : ByteArray := prog_14_method_45_code
def yX12_part : MethodName := ⟨RX12, "part", "()V"⟩
abbrev cX12_term : ByteArray := prog_14_method_46_code
def yX12_term : MethodName := ⟨RX12, "term", "()V"⟩
abbrev cX12_sum : ByteArray := prog_14_method_47_code
def yX12_sum : MethodName := ⟨RX12, "sum", "()V"⟩
abbrev cX12_test : ByteArray := prog_14_method_48_code
def yX12_test : MethodName := ⟨RX12, "test", "()V"⟩
abbrev cX12_both : ByteArray := prog_14_method_49_code
def yX12_both : MethodName := ⟨RX12, "both", "()V"⟩
abbrev cX12_either : ByteArray := prog_14_method_50_code
def yX12_either : MethodName := ⟨RX12, "either", "()V"⟩
abbrev cX12_lease : ByteArray := prog_14_method_51_code
def yX12_lease : MethodName := ⟨RX12, "lease", "(I)I"⟩
abbrev cX12_named : ByteArray := prog_14_method_52_code
def yX12_named : MethodName := ⟨RX12, "named", "(IIII)I"⟩
abbrev cX12_done : ByteArray := prog_14_method_53_code
def yX12_done : MethodName := ⟨RX12, "done", "(III)I"⟩
abbrev cX12_worked : ByteArray := prog_14_method_54_code
def yX12_worked : MethodName := ⟨RX12, "worked", "(IIII)I"⟩
abbrev cX12_hasLease : ByteArray := prog_14_method_55_code
def yX12_hasLease : MethodName := ⟨RX12, "hasLease", "(I)Z"⟩
abbrev cX12_rentOf : ByteArray := prog_14_method_56_code
def yX12_rentOf : MethodName := ⟨RX12, "rentOf", "(III)I"⟩
abbrev cX12_rent : ByteArray := prog_14_method_57_code
def yX12_rent : MethodName := ⟨RX12, "rent", "(III)I"⟩
abbrev cX12_rents : ByteArray := prog_14_method_58_code
def yX12_rents : MethodName := ⟨RX12, "rents", "(II)I"⟩
abbrev cX12_pays : ByteArray := prog_14_method_59_code
def yX12_pays : MethodName := ⟨RX12, "pays", "(I)Z"⟩
abbrev cX12_charge : ByteArray := prog_14_method_60_code
def yX12_charge : MethodName := ⟨RX12, "charge", "(III)I"⟩
abbrev cX12_findFall : ByteArray := prog_14_method_61_code
def yX12_findFall : MethodName := ⟨RX12, "findFall", "()I"⟩
abbrev cX12_fall : ByteArray := prog_14_method_62_code
def yX12_fall : MethodName := ⟨RX12, "fall", "()I"⟩
abbrev cX12_fallen : ByteArray := prog_14_method_63_code
def yX12_fallen : MethodName := ⟨RX12, "fallen", "(I)I"⟩
abbrev cX12_without : ByteArray := prog_14_method_64_code
def yX12_without : MethodName := ⟨RX12, "without", "(I)I"⟩
abbrev cX12_breaks : ByteArray := prog_14_method_65_code
def yX12_breaks : MethodName := ⟨RX12, "breaks", "(IIII)Z"⟩
abbrev cX12_broken : ByteArray := prog_14_method_66_code
def yX12_broken : MethodName := ⟨RX12, "broken", "()I"⟩
abbrev cX12_mayPut : ByteArray := prog_14_method_67_code
def yX12_mayPut : MethodName := ⟨RX12, "mayPut", "(II)Z"⟩
abbrev cX12_putFrom : ByteArray := prog_14_method_68_code
def yX12_putFrom : MethodName := ⟨RX12, "putFrom", "(III)V"⟩
abbrev cX12_isTaken : ByteArray := prog_14_method_69_code
def yX12_isTaken : MethodName := ⟨RX12, "isTaken", "(I)Z"⟩
abbrev cX12_findMix : ByteArray := prog_14_method_70_code
def yX12_findMix : MethodName := ⟨RX12, "findMix", "(I)I"⟩
abbrev cX12_mix : ByteArray := prog_14_method_71_code
def yX12_mix : MethodName := ⟨RX12, "mix", "(I)I"⟩
abbrev cX12_mixed : ByteArray := prog_14_method_72_code
def yX12_mixed : MethodName := ⟨RX12, "mixed", "(II)I"⟩
abbrev cX12_tell : ByteArray := prog_14_method_73_code
def yX12_tell : MethodName := ⟨RX12, "tell", "(I)I"⟩
abbrev cX12_check : ByteArray := prog_14_method_74_code
def yX12_check : MethodName := ⟨RX12, "check", "()I"⟩
abbrev cX12_keep : ByteArray := prog_14_method_75_code
def yX12_keep : MethodName := ⟨RX12, "keep", "()I"⟩
abbrev cX12_back : ByteArray := prog_14_method_76_code
def yX12_back : MethodName := ⟨RX12, "back", "()I"⟩
abbrev cX12_sheet : ByteArray := prog_14_method_77_code
def yX12_sheet : MethodName := ⟨RX12, "sheet", "(II)I"⟩
abbrev cX12_mark : ByteArray := prog_14_method_78_code
def yX12_mark : MethodName := ⟨RX12, "mark", "(III)I"⟩
abbrev cX12_copy : ByteArray := prog_14_method_79_code
def yX12_copy : MethodName := ⟨RX12, "copy", "(IIIII)I"⟩
abbrev cX12_count : ByteArray := prog_14_method_80_code
def yX12_count : MethodName := ⟨RX12, "count", "(I)I"⟩
def RJ11 : String := "java/lang/Character"
abbrev cJ11_isValidCodePoint_9a6ad : ByteArray := prog_15_method_11_code
def yJ11_isValidCodePoint_9a6ad : MethodName := ⟨RJ11, "isValidCodePoint", "(I)Z"⟩
abbrev cJ11_highSurrogate_5068e : ByteArray := prog_15_method_28_code
def yJ11_highSurrogate_5068e : MethodName := ⟨RJ11, "highSurrogate", "(I)C"⟩
abbrev cJ11_lowSurrogate_5068e : ByteArray := prog_15_method_29_code
def yJ11_lowSurrogate_5068e : MethodName := ⟨RJ11, "lowSurrogate", "(I)C"⟩
def RJ9 : String := "java/lang/Math"
abbrev cJ9_abs_0f7a4 : ByteArray := prog_16_method_59_code
def yJ9_abs_0f7a4 : MethodName := ⟨RJ9, "abs", "(I)I"⟩
abbrev cJ9_max_7cf53 : ByteArray := prog_16_method_65_code
def yJ9_max_7cf53 : MethodName := ⟨RJ9, "max", "(II)I"⟩
abbrev cJ9_min_7cf53 : ByteArray := prog_16_method_69_code
def yJ9_min_7cf53 : MethodName := ⟨RJ9, "min", "(II)I"⟩
def RJ0 : String := "java/lang/String"
abbrev cJ0_length_8abf5 : ByteArray := prog_17_method_54_code
def yJ0_length_8abf5 : MethodName := ⟨RJ0, "length", "()I"⟩
abbrev cJ0_charAt_5068e : ByteArray := prog_17_method_56_code
def yJ0_charAt_5068e : MethodName := ⟨RJ0, "charAt", "(I)C"⟩
abbrev cJ0_indexOf_0f7a4 : ByteArray := prog_17_method_79_code
def yJ0_indexOf_0f7a4 : MethodName := ⟨RJ0, "indexOf", "(I)I"⟩
abbrev cJ0_indexOf_7cf53 : ByteArray := prog_17_method_80_code
def yJ0_indexOf_7cf53 : MethodName := ⟨RJ0, "indexOf", "(II)I"⟩
abbrev cJ0_coder_7d493 : ByteArray := prog_17_method_152_code
def yJ0_coder_7d493 : MethodName := ⟨RJ0, "coder", "()B"⟩
abbrev cJ0_isLatin1_aae02 : ByteArray := prog_17_method_154_code
def yJ0_isLatin1_aae02 : MethodName := ⟨RJ0, "isLatin1", "()Z"⟩
abbrev cJ0_checkIndex_df160 : ByteArray := prog_17_method_155_code
def yJ0_checkIndex_df160 : MethodName := ⟨RJ0, "checkIndex", "(II)V"⟩
abbrev cJ0_checkBoundsBeginEnd_23922 : ByteArray := prog_17_method_158_code
def yJ0_checkBoundsBeginEnd_23922 : MethodName := ⟨RJ0, "checkBoundsBeginEnd", "(III)V"⟩
def RJ1 : String := "java/lang/StringLatin1"
abbrev cJ1_charAt_3b067 : ByteArray := prog_18_method_2_code
def yJ1_charAt_3b067 : MethodName := ⟨RJ1, "charAt", "([BI)C"⟩
abbrev cJ1_canEncode_9a6ad : ByteArray := prog_18_method_4_code
def yJ1_canEncode_9a6ad : MethodName := ⟨RJ1, "canEncode", "(I)Z"⟩
abbrev cJ1_indexOf_4cfef : ByteArray := prog_18_method_22_code
def yJ1_indexOf_4cfef : MethodName := ⟨RJ1, "indexOf", "([BIII)I"⟩
abbrev cJ1_indexOfChar_4cfef : ByteArray := prog_18_method_23_code
def yJ1_indexOfChar_4cfef : MethodName := ⟨RJ1, "indexOfChar", "([BIII)I"⟩
def RJ2 : String := "java/lang/StringUTF16"
abbrev cJ2_getChar_3b067 : ByteArray := prog_19_method_5_code
def yJ2_getChar_3b067 : MethodName := ⟨RJ2, "getChar", "([BI)C"⟩
abbrev cJ2_length_9d52b : ByteArray := prog_19_method_6_code
def yJ2_length_9d52b : MethodName := ⟨RJ2, "length", "([B)I"⟩
abbrev cJ2_indexOf_4cfef : ByteArray := prog_19_method_40_code
def yJ2_indexOf_4cfef : MethodName := ⟨RJ2, "indexOf", "([BIII)I"⟩
abbrev cJ2_indexOfChar_4cfef : ByteArray := prog_19_method_47_code
def yJ2_indexOfChar_4cfef : MethodName := ⟨RJ2, "indexOfChar", "([BIII)I"⟩
abbrev cJ2_indexOfCharUnsafe_4cfef : ByteArray := prog_19_method_48_code
def yJ2_indexOfCharUnsafe_4cfef : MethodName := ⟨RJ2, "indexOfCharUnsafe", "([BIII)I"⟩
abbrev cJ2_indexOfSupplementary_4cfef : ByteArray := prog_19_method_49_code
def yJ2_indexOfSupplementary_4cfef : MethodName := ⟨RJ2, "indexOfSupplementary", "([BIII)I"⟩
abbrev cJ2_charAt_3b067 : ByteArray := prog_19_method_83_code
def yJ2_charAt_3b067 : MethodName := ⟨RJ2, "charAt", "([BI)C"⟩
abbrev cJ2_checkIndex_2214a : ByteArray := prog_19_method_91_code
def yJ2_checkIndex_2214a : MethodName := ⟨RJ2, "checkIndex", "(I[B)V"⟩
abbrev cJ2_checkBoundsBeginEnd_d044e : ByteArray := prog_19_method_93_code
def yJ2_checkBoundsBeginEnd_d044e : MethodName := ⟨RJ2, "checkBoundsBeginEnd", "(II[B)V"⟩
def RJ10 : String := "java/lang/System"
def RJ7 : String := "java/util/Arrays"
abbrev cJ7_fill_53178 : ByteArray := prog_21_method_103_code
def yJ7_fill_53178 : MethodName := ⟨RJ7, "fill", "([II)V"⟩
abbrev cJ7_fill_fb410 : ByteArray := prog_21_method_105_code
def yJ7_fill_fb410 : MethodName := ⟨RJ7, "fill", "([SS)V"⟩
def RJ3 : String := "jdk/internal/util/Preconditions"
abbrev cJ3_checkIndex_8e157 : ByteArray := prog_22_method_11_code
def yJ3_checkIndex_8e157 : MethodName := ⟨RJ3, "checkIndex", "(IILjava/util/function/BiFunction;)I"⟩
abbrev cJ3_checkFromToIndex_8c36e : ByteArray := prog_22_method_12_code
def yJ3_checkFromToIndex_8c36e : MethodName := ⟨RJ3, "checkFromToIndex", "(IIILjava/util/function/BiFunction;)I"⟩
end
section
/-! the world's layout, its classes, the String constants -/
def vt_lay : List ((Nat × Nat × Nat) ⊕ (Nat × List (Option Nat))) := [.inr (11, [some 1, some 54, none, some 107, some 111, some 116, some 121, some 123, some 166, some 167, none]),
  .inr (0, [some 2, some 3, some 4, some 7, some 15, some 19, some 25, some 53, none, none]),
  .inl (0, 12, 0),
  .inl (0, 2, 0),
  .inr (3, [some 5, some 6, none]),
  .inl (0, 4, 0),
  .inl (0, 4, 0),
  .inr (10, [some 8, some 9, some 10, some 11, some 12, some 13, some 14, none]),
  .inl (0, 12, 0),
  .inl (0, 12, 0),
  .inl (0, 12, 0),
  .inl (0, 12, 0),
  .inl (0, 12, 0),
  .inl (0, 12, 0),
  .inl (0, 12, 0),
  .inr (7, [some 16, some 17, some 18, none]),
  .inl (0, 200, 0),
  .inl (0, 200, 0),
  .inl (0, 200, 0),
  .inr (5, [some 20, some 21, some 22, some 23, some 24, none]),
  .inl (0, 100, 0),
  .inl (0, 100, 0),
  .inl (0, 100, 0),
  .inl (0, 100, 0),
  .inl (0, 100, 0),
  .inr (4, [some 26, some 27, some 40]),
  .inl (3, 12, 0),
  .inl (4, 12, 28),
  .inl (0, 132, 0),
  .inl (0, 132, 0),
  .inl (0, 132, 0),
  .inl (0, 132, 0),
  .inl (0, 132, 0),
  .inl (0, 132, 0),
  .inl (0, 132, 0),
  .inl (0, 132, 0),
  .inl (0, 132, 0),
  .inl (0, 132, 0),
  .inl (0, 132, 0),
  .inl (0, 132, 0),
  .inl (4, 12, 41),
  .inl (0, 3, 0),
  .inl (0, 3, 0),
  .inl (0, 3, 0),
  .inl (0, 3, 0),
  .inl (0, 3, 0),
  .inl (0, 3, 0),
  .inl (0, 3, 0),
  .inl (0, 3, 0),
  .inl (0, 3, 0),
  .inl (0, 3, 0),
  .inl (0, 3, 0),
  .inl (0, 3, 0),
  .inl (0, 12, 0),
  .inr (0, [some 55, some 56, some 57, some 60, some 68, some 72, some 78, some 106, none, none]),
  .inl (0, 12, 0),
  .inl (0, 2, 0),
  .inr (3, [some 58, some 59, none]),
  .inl (0, 4, 0),
  .inl (0, 4, 0),
  .inr (10, [some 61, some 62, some 63, some 64, some 65, some 66, some 67, none]),
  .inl (0, 12, 0),
  .inl (0, 12, 0),
  .inl (0, 12, 0),
  .inl (0, 12, 0),
  .inl (0, 12, 0),
  .inl (0, 12, 0),
  .inl (0, 12, 0),
  .inr (7, [some 69, some 70, some 71, none]),
  .inl (0, 200, 0),
  .inl (0, 200, 0),
  .inl (0, 200, 0),
  .inr (5, [some 73, some 74, some 75, some 76, some 77, none]),
  .inl (0, 100, 0),
  .inl (0, 100, 0),
  .inl (0, 100, 0),
  .inl (0, 100, 0),
  .inl (0, 100, 0),
  .inr (4, [some 79, some 80, some 93]),
  .inl (3, 12, 0),
  .inl (4, 12, 81),
  .inl (0, 132, 0),
  .inl (0, 132, 0),
  .inl (0, 132, 0),
  .inl (0, 132, 0),
  .inl (0, 132, 0),
  .inl (0, 132, 0),
  .inl (0, 132, 0),
  .inl (0, 132, 0),
  .inl (0, 132, 0),
  .inl (0, 132, 0),
  .inl (0, 132, 0),
  .inl (0, 132, 0),
  .inl (4, 12, 94),
  .inl (0, 3, 0),
  .inl (0, 3, 0),
  .inl (0, 3, 0),
  .inl (0, 3, 0),
  .inl (0, 3, 0),
  .inl (0, 3, 0),
  .inl (0, 3, 0),
  .inl (0, 3, 0),
  .inl (0, 3, 0),
  .inl (0, 3, 0),
  .inl (0, 3, 0),
  .inl (0, 3, 0),
  .inl (0, 12, 0),
  .inr (8, [none, some 108, some 109, none, some 110, none, none, none, none, none]),
  .inl (0, 132, 0),
  .inl (0, 3, 0),
  .inl (1, 132, 0),
  .inr (9, [some 112, some 115]),
  .inl (5, 2, 113),
  .inl (2, 16, 0),
  .inl (2, 16, 0),
  .inl (0, 2, 0),
  .inr (2, [some 1, none, none, some 117, some 118, some 119, some 120]),
  .inl (0, 12, 0),
  .inl (0, 12, 0),
  .inl (0, 12, 0),
  .inl (0, 12, 0),
  .inr (1, [some 122, none]),
  .inl (0, 132, 0),
  .inr (6, [some 124, none, none, some 125, some 126, some 139, some 152, none, none]),
  .inl (0, 12, 0),
  .inl (0, 12, 0),
  .inl (4, 12, 127),
  .inl (0, 12, 0),
  .inl (0, 12, 0),
  .inl (0, 12, 0),
  .inl (0, 12, 0),
  .inl (0, 12, 0),
  .inl (0, 12, 0),
  .inl (0, 12, 0),
  .inl (0, 12, 0),
  .inl (0, 12, 0),
  .inl (0, 12, 0),
  .inl (0, 12, 0),
  .inl (0, 12, 0),
  .inl (4, 12, 140),
  .inl (0, 12, 0),
  .inl (0, 12, 0),
  .inl (0, 12, 0),
  .inl (0, 12, 0),
  .inl (0, 12, 0),
  .inl (0, 12, 0),
  .inl (0, 12, 0),
  .inl (0, 12, 0),
  .inl (0, 12, 0),
  .inl (0, 12, 0),
  .inl (0, 12, 0),
  .inl (0, 12, 0),
  .inl (4, 13, 153),
  .inl (0, 12, 0),
  .inl (0, 12, 0),
  .inl (0, 12, 0),
  .inl (0, 12, 0),
  .inl (0, 12, 0),
  .inl (0, 12, 0),
  .inl (0, 12, 0),
  .inl (0, 12, 0),
  .inl (0, 12, 0),
  .inl (0, 12, 0),
  .inl (0, 12, 0),
  .inl (0, 12, 0),
  .inl (0, 12, 0),
  .inl (0, 12, 0),
  .inl (0, 24, 0),
  .inr (12, [some 169, some 170, none, some 171, none, some 172, none, some 173, some 174, some 175, none, none, none, none, none, none, some 176, none, none, some 177, some 178, some 179, some 180, none, none, none, none, some 181]),
  .inl (0, 2220, 0),
  .inl (0, 2220, 0),
  .inl (0, 132, 0),
  .inl (0, 24, 0),
  .inl (0, 2, 0),
  .inl (0, 32, 0),
  .inl (0, 12, 0),
  .inl (0, 140, 0),
  .inl (0, 140, 0),
  .inl (0, 12, 0),
  .inl (0, 12, 0),
  .inl (0, 12, 0),
  .inl (0, 16, 0)]
abbrev vt_cls : List vw_C := [(RX0, TX0, 10), (RX1, TX1, 2), (RX2, TX2, 7), (RX3, TX3, 3), (RX4, TX4, 3), (RX5, TX5, 6), (RX6, TX6, 9), (RX7, TX7, 4), (RX8, TX8, 10), (RX9, TX9, 2), (RX10, TX10, 8), (RX11, TX11, 11), (RX12, TX12, 28)]
def vt_strs : List (String × Nat × String × List Int32) := [("ArcadeRents$Reader", 78, "tfaovknmxc", [116, 102, 97, 111, 118, 107, 110, 109, 120, 99]), ("ArcadeRents$Reader", 85, "base", [98, 97, 115, 101]), ("ArcadeRents$Reader", 91, "turn", [116, 117, 114, 110]), ("ArcadeRents$Reader", 93, "leave", [108, 101, 97, 118, 101]), ("ArcadeRentsModel", 218, "base", [98, 97, 115, 101]), ("ArcadeRentsModel", 182, "tfaovknmxc", [116, 102, 97, 111, 118, 107, 110, 109, 120, 99]), ("ArcadeRentsModel", 171, "|&<=>+-*/!", [124, 38, 60, 61, 62, 43, 45, 42, 47, 33]), ("ArcadeRentsModel", 225, "turn", [116, 117, 114, 110]), ("ArcadeRentsModel", 227, "leave", [108, 101, 97, 118, 101])]
/-! THE WORLD: a fixed row of cells; what they hold is a function of cell and place -/
abbrev vt_Sg : Type := Nat → Nat → Int32
abbrev vt_GT : Type := Launch × (Nat → Nat) × (Nat → ClassId) × va_G × (Nat → Nat) × (Nat → Nat)
abbrev vt_LE : Type := (Nat × Nat × Nat) ⊕ (Nat × List (Option Nat))
def vt_v (ad : Nat → Nat) (f : Nat → Int32) (j : Nat) (o : Option Nat) : Value := match o with
  | none => Value.int (f j)
  | some r => Value.ref (ad r)
def vt_fl (ad : Nat → Nat) (f : Nat → Int32) (fl : List (Option Nat)) : List Value := fl.mapIdx (vt_v ad f)
def vt_E (g : vt_GT) (σ : vt_Sg) (k : Nat) (e : vt_LE) : va_E := match e with
  | .inl (kd, n, r0) => .inl (g.2.2.1 kd, n, if kd < 4 then .inl (σ k) else .inr (.inr (.inr (.inr (fun j => if j < n then some (g.2.1 (r0 + j)) else none)))))
  | .inr (ci, fl) => .inr (ci, vt_fl g.2.1 (σ k) fl)
def vt_W (g : vt_GT) (σ : vt_Sg) : va_W := vt_lay.mapIdx (fun k e => (g.2.1 k, vt_E g σ k e))
/-- one cell's contents become f -/
def su (σ : vt_Sg) (k : Nat) (f : Nat → Int32) : vt_Sg := fun a => if a = k then f else σ a
theorem su_same {σ : vt_Sg} {k : Nat} {f : Nat → Int32} : su σ k f k = f := if_pos rfl
theorem su_ne {σ : vt_Sg} {k a : Nat} {f : Nat → Int32} (h : a ≠ k) : su σ k f a = σ a := if_neg h
theorem vt_W_at {g : vt_GT} {σ : vt_Sg} {k : Nat} {e : vt_LE} (h : vt_lay[k]? = some e) : (vt_W g σ)[k]? = some (g.2.1 k, vt_E g σ k e) := by
  unfold vt_W
  rw [List.getElem?_mapIdx, h]
  rfl
theorem vt_E_ne {g : vt_GT} {σ : vt_Sg} {k j : Nat} {f : Nat → Int32} (h : j ≠ k) (e : vt_LE) : vt_E g (su σ k f) j e = vt_E g σ j e := by
  unfold vt_E
  rw [su_ne h]
theorem vt_W_set {g : vt_GT} {σ : vt_Sg} {k : Nat} {e : vt_LE} {f : Nat → Int32} {x : va_E} (h : vt_lay[k]? = some e) (hx : vt_E g (su σ k f) k e = x) : (vt_W g σ).set k (g.2.1 k, x) = vt_W g (su σ k f) := by
  subst hx
  have hl : k < vt_lay.length := (List.getElem?_eq_some_iff.mp h).1
  apply List.ext_getElem?
  intro i
  by_cases hi : i = k
  · subst hi
    rw [List.getElem?_set_self (by unfold vt_W; rw [List.length_mapIdx]; exact hl), vt_W_at h]
  · rw [List.getElem?_set_ne (Ne.symm hi)]
    unfold vt_W
    rw [List.getElem?_mapIdx, List.getElem?_mapIdx]
    cases vt_lay[i]? with
    | none => rfl
    | some e' => simp only [Option.map_some, vt_E_ne hi]
theorem vt_fl_at {ad : Nat → Nat} {f : Nat → Int32} {fl : List (Option Nat)} {j : Nat} {o : Option Nat} (h : fl[j]? = some o) : (vt_fl ad f fl)[j]? = some (vt_v ad f j o) := by
  unfold vt_fl
  rw [List.getElem?_mapIdx, h]
  rfl
theorem vt_fl_set {ad : Nat → Nat} {f : Nat → Int32} {fl : List (Option Nat)} {j : Nat} {v : Int32} (h : fl[j]? = some none) : (vt_fl ad f fl).set j (.int v) = vt_fl ad (upd f j v) fl := by
  have hl : j < fl.length := (List.getElem?_eq_some_iff.mp h).1
  apply List.ext_getElem?
  intro i
  by_cases hi : i = j
  · subst hi
    rw [List.getElem?_set_self (by unfold vt_fl; rw [List.length_mapIdx]; exact hl), vt_fl_at h]
    simp [upd, vt_v]
  · rw [List.getElem?_set_ne (Ne.symm hi)]
    unfold vt_fl
    rw [List.getElem?_mapIdx, List.getElem?_mapIdx]
    cases fl[i]? with
    | none => rfl
    | some o => cases o <;> simp [upd, vt_v, hi]
/-! what holds of a state at a method's entry -/
def vt_tys (g : vt_GT) : List (ClassId × FieldType) := [(g.2.2.1 0, .int), (g.2.2.1 1, .byte), (g.2.2.1 2, .short), (g.2.2.1 3, .boolean), (g.2.2.1 4, .array .int), (g.2.2.1 5, .array .short)]
def vt_A (g : vt_GT) : Nat → Prop := fun q => ∃ k, k < vt_lay.length ∧ q = g.2.1 k
def vt_P (g : vt_GT) (σ : vt_Sg) (H : Heap) : Prop := va_P g.2.2.2.1 vt_cls (vt_W g σ) H
/-- the String constants: class, entry, text, bytes -/
def vt_str (g : vt_GT) (A : Nat → Prop) (U : State) (H : Heap) : Prop := ∀ (i : Nat) (q : String × Nat × String × List Int32), vt_strs[i]? = some q →
  va_O "java/lang/String" (g.2.2.2.2.1 i) A U H ∧ va_OF "java/lang/String" "coder" "B" (.int 0) (g.2.2.2.2.1 i) A U H ∧ va_OF "java/lang/String" "value" "[B" (.ref (g.2.2.2.2.2 i)) (g.2.2.2.2.1 i) A U H ∧ va_T .byte (g.2.2.2.2.2 i) q.2.2.2.length (fun j => .int (q.2.2.2.getD j 0)) A U H
def vt_stR (g : vt_GT) (U : State) : Prop := ∀ (i : Nat) (q : String × Nat × String × List Int32), vt_strs[i]? = some q → vk_R q.1 q.2.1 q.2.2.1 (g.2.2.2.2.1 i) U
def vt_G (g : vt_GT) (U : State) : Prop :=
  va_K g.2.2.2.1 vt_cls (vt_tys g) U ∧ (∀ i j, i < vt_lay.length → j < vt_lay.length → g.2.1 i = g.2.1 j → i = j) ∧ vt_str g (vt_A g) U U.heap ∧ vt_stR g U ∧ va_Z "java/lang/String" "COMPACT_STRINGS" "Z" (.int 1) (vt_A g) U U.heap ∧ ∃ q, va_Z "jdk/internal/util/Preconditions" "SIOOBE_FORMATTER" "Ljava/util/function/BiFunction;" (.ref q) (vt_A g) U U.heap
theorem vt_D {g : vt_GT} (h : ∀ i j, i < vt_lay.length → j < vt_lay.length → g.2.1 i = g.2.1 j → i = j) (σ : vt_Sg) : va_D (vt_A g) (vt_W g σ) := by
  have key : ∀ (i : Nat) (x : Nat × va_E), (vt_W g σ)[i]? = some x → i < vt_lay.length ∧ x.1 = g.2.1 i := by
    intro i x hx
    unfold vt_W at hx
    rw [List.getElem?_mapIdx] at hx
    cases hl : vt_lay[i]? with
    | none => rw [hl] at hx; cases hx
    | some e =>
      rw [hl] at hx
      cases hx
      exact ⟨(List.getElem?_eq_some_iff.mp hl).1, rfl⟩
  refine ⟨fun i j x y hi hj hxy => ?_, fun k x hx => ?_⟩
  · obtain ⟨a1, a2⟩ := key i x hi
    obtain ⟨b1, b2⟩ := key j y hj
    exact h i j a1 b1 (by rw [← a2, ← b2]; exact hxy)
  · obtain ⟨a1, a2⟩ := key k x hx
    exact ⟨k, a1, a2⟩
theorem vt_str.moved {g : vt_GT} {A : Nat → Prop} {u U : State} {H : Heap} (hvm : u.vm.Alike U.vm) (h : vt_str g A u H) : vt_str g A U H := fun i q hi =>
  ⟨va_O.moved hvm (h i q hi).1, va_OF.moved hvm (h i q hi).2.1, va_OF.moved hvm (h i q hi).2.2.1, va_T.moved hvm (h i q hi).2.2.2⟩
theorem vt_str.kept {g : vt_GT} {A : Nat → Prop} {U : State} {H H1 : Heap} (h : vt_str g A U H) (hq : ∀ a : Nat, a < H.size → ¬ A a → H1[a]? = H[a]?) : vt_str g A U H1 := fun i q hi =>
  ⟨(h i q hi).1.kept hq, (h i q hi).2.1.kept hq, (h i q hi).2.2.1.kept hq, (h i q hi).2.2.2.kept hq⟩
theorem vt_G.move {g : vt_GT} {s U : State} {H : Heap} {locs : List Loc} (h : vt_G g s) (hW : s.WarmedH U.vm) (hS : va_S (vt_A g) s.heap H locs) (hU : U.heap = H) : vt_G g U := by
  obtain ⟨h1, h2, h3, h4, h5, q, h6⟩ := h
  subst hU
  exact ⟨va_K.moved hW.alike h1, h2, (h3.moved hW.alike).kept hS.2.1, fun i x hi => vk_R.warm hW (h4 i x hi), (va_Z.moved hW.alike h5).kept hS.2.1, q, (va_Z.moved hW.alike h6).kept hS.2.1⟩
theorem vt_G.same {g : vt_GT} {s U : State} (h : vt_G g s) (hv : U.vm = s.vm) (hh : U.heap = s.heap) : vt_G g U := by
  obtain ⟨h1, h2, h3, h4, h5, q, h6⟩ := h
  have ha : s.vm.Alike U.vm := by rw [hv]; exact Vm.Alike.refl _
  exact ⟨va_K.moved ha h1, h2, by rw [hh]; exact h3.moved ha, fun i x hi => vk_R.same hv (h4 i x hi), by rw [hh]; exact va_Z.moved ha h5, q, by rw [hh]; exact va_Z.moved ha h6⟩
end
section
/-! THE JUDGEMENT: from pc with locals L, stack st, contents σ the method comes to its return, and P holds there -/
def vt_tbl : List Cond := lw_tbl.filter goodWord
theorem vt_in {w : Cond} (h : w ∈ lw_tbl) (hg : goodWord w = true) : w ∈ vt_tbl := List.mem_filter.mpr ⟨h, hg⟩
theorem vt_good {w : Cond} (h : w ∈ vt_tbl) : goodWord w = true := (List.mem_filter.mp h).2
theorem vt_goodIn {ws : List Cond} (h : ∀ w ∈ ws, w ∈ vt_tbl) : GoodIn vt_tbl ws := fun w hw => ⟨h w hw, good_of_word (vt_good (h w hw))⟩
abbrev vt_MD : Type := MethodName × ByteArray × Nat × Option FieldType
def vt_ws (M : vt_MD) : List Cond := .code M.1 M.2.1 M.2.2.1 M.2.2.2 :: vt_tbl
abbrev vt_R (d : Nat) : Room := { frames := d, cells := 0, slots := 0, locals := 48 * d }
def vt_isRet (M : vt_MD) (pc : Nat) (v : Option Value) : Prop := (M.2.2.2 = none ∧ v = none ∧ decode M.2.1 pc = .ok (.return_, 1)) ∨ ∃ (x : Int32) (ty : FieldType), M.2.2.2 = some ty ∧ v = some (.int x) ∧ narrow ty (.int x) = .int x ∧ decode M.2.1 pc = .ok (.ireturn, 1)
def vt_L (nL : Nat) (ls : Array Slot) (L : List (Option Value)) : Prop := ls.size = nL ∧ L.length = nL ∧ lv_wf ls ∧ ∀ (i : Nat) (v : Value), L[i]? = some (some v) → ls[i]? = some (.val v)
abbrev vt_XT : Type := Option (Nat × Nat × (Nat → Int32))
def vt_C (g : vt_GT) (M : vt_MD) (X : vt_XT) (p : Program) (s : State) (m : MethodId) (args : Array Value) (c : Code) : Prop :=
  p.tables.exec = Jvm.exec ∧ c.code = M.2.1 ∧ c.maxLocals = M.2.2.1 ∧ s.vm.findClass M.1.cls = some m.cls ∧ (∀ w ∈ vt_tbl, w.before args s = true) ∧ vt_G g s ∧ ∀ (b L : Nat) (xs : Nat → Int32), X = some (b, L, xs) → va_X b L xs s s.heap ∧ b < s.heap.size ∧ ¬ vt_A g b
def TT (g : vt_GT) (R : Room) (cl sl : Nat) (M : vt_MD) (X : vt_XT) (pc : Nat) (L : List (Option Value)) (st : List Value) (σ : vt_Sg) (P : Option Value → vt_Sg → Prop) : Prop :=
  ∀ (p : Program) (e : Env) (s : State) (m : MethodId) (args : Array Value) (below : List Frame) (meth : Method) (c : Code) (H : Heap) (locs : List Loc) (ls : Array Slot) (Q : State → Prop),
    vt_C g M X p s m args c →
    (∀ (v : Option Value) (σ' : vt_Sg) (H' : Heap) (locs' : List Loc) (pc' : Nat) (ls' : Array Slot), P v σ' → vt_P g σ' H' → va_S (vt_A g) s.heap H' locs' → vt_isRet M pc' v → W p g.1 e R s m args below meth c H' locs' cl sl Q (F0 m pc' ls' v.toList)) →
    vt_P g σ H → va_S (vt_A g) s.heap H locs → vt_L M.2.2.1 ls L → W p g.1 e R s m args below meth c H locs cl sl Q (F0 m pc ls st)
section QR
variable {g : vt_GT} {R : Room} {cl sl : Nat} {M : vt_MD} {X : vt_XT} {pc : Nat} {L L' : List (Option Value)} {st : List Value} {σ : vt_Sg} {P : Option Value → vt_Sg → Prop}
theorem q_mono {P' : Option Value → vt_Sg → Prop} (h : TT g R cl sl M X pc L st σ P') (hPP : ∀ v σ', P' v σ' → P v σ') : TT g R cl sl M X pc L st σ P := by
  intro p e s m args below meth c H locs ls Q hC hR hP hS hL
  exact h p e s m args below meth c H locs ls Q hC (fun v σ' H' locs' pc' ls' h1 h2 h3 h4 => hR v σ' H' locs' pc' ls' (hPP v σ' h1) h2 h3 h4) hP hS hL
theorem q_iret {x : Int32} (ty : FieldType) (hty : M.2.2.2 = some ty) (hn : narrow ty (.int x) = .int x) (hd : decode M.2.1 pc = .ok (.ireturn, 1)) (h : P (some (.int x)) σ) : TT g R cl sl M X pc L [.int x] σ P := by
  intro p e s m args below meth c H locs ls Q hC hR hP hS hL
  exact hR (some (.int x)) σ H locs pc ls h hP hS (Or.inr ⟨x, ty, hty, rfl, hn, hd⟩)
theorem q_vret (hty : M.2.2.2 = none) (hd : decode M.2.1 pc = .ok (.return_, 1)) (h : P none σ) : TT g R cl sl M X pc L [] σ P := by
  intro p e s m args below meth c H locs ls Q hC hR hP hS hL
  exact hR none σ H locs pc ls h hP hS (Or.inl ⟨hty, rfl, hd⟩)
theorem q_pc {pc' : Nat} (h : pc = pc') (k : TT g R cl sl M X pc' L st σ P) : TT g R cl sl M X pc L st σ P := h ▸ k
theorem vt_L.set1 {nL : Nat} {ls : Array Slot} {i : Nat} {v : Value} (h : vt_L nL ls L) (hi : i < nL) (hc : v.category = 1) (hw : ∀ (j : Nat) (z : Value), L[j]? = some (some z) → j + 1 = i → z.category = 1) : ∃ ls', storeLocals ls i v = some ls' ∧ vt_L nL ls' (L.set i (some v)) := by
  obtain ⟨h1, h2, h3, h4⟩ := h
  have hh : ∀ q ∈ (L.zipIdx.filterMap (fun q => q.1.map (fun z => (q.2, z)))), ls[q.1]? = some (.val q.2) := by
    intro q hq
    obtain ⟨⟨o, j⟩, hm, he⟩ := List.mem_filterMap.mp hq
    have hj := List.mem_zipIdx_iff_getElem?.mp hm
    cases o with
    | none => cases he
    | some z => cases he; exact h4 j z hj
  obtain ⟨ls', e1, e2, e3, e4⟩ := lv_store1 (ls := ls) (nL := nL) (l := L.zipIdx.filterMap (fun q => q.1.map (fun z => (q.2, z)))) ⟨h1, h3, hh⟩ hi hc
  refine ⟨ls', e1, e2, by rw [List.length_set]; exact h2, e3, fun j z hz => ?_⟩
  by_cases hj : j = i
  · subst hj
    rw [List.getElem?_set_self (by omega)] at hz
    cases hz
    exact e4 (j, v) List.mem_cons_self
  · rw [List.getElem?_set_ne (Ne.symm hj)] at hz
    refine e4 (j, z) (List.mem_cons_of_mem _ (List.mem_filter.mpr ⟨List.mem_filterMap.mpr ⟨(some z, j), List.mem_zipIdx_iff_getElem?.mpr hz, rfl⟩, ?_⟩))
    have hcz := hw j z hz
    by_cases hji : j + 1 = i
    · simp [hj, hcz hji]
    · simp [hj, hji]

theorem q_iload_n {i : Fin 4} {x : Int32} (hd : decode M.2.1 pc = .ok (.iload_n i, 1)) (hl : L[(i : Nat)]? = some (some (.int x))) (k : TT g R cl sl M X (pc + 1) L (.int x :: st) σ P) : TT g R cl sl M X pc L (st) σ P := by
  intro p e s m args below meth c H locs ls Q hC hR hP hS hL
  exact lv_iload_n hC.1 hC.2.1 hd rfl (hL.2.2.2 _ _ hl) (k p e s m args below meth c H locs ls Q hC hR hP hS hL)
theorem q_iload {i : Nat} {x : Int32} (hd : decode M.2.1 pc = .ok (.iload i, 2)) (hl : L[i]? = some (some (.int x))) (k : TT g R cl sl M X (pc + 2) L (.int x :: st) σ P) : TT g R cl sl M X pc L (st) σ P := by
  intro p e s m args below meth c H locs ls Q hC hR hP hS hL
  exact lv_iload hC.1 hC.2.1 hd (hL.2.2.2 _ _ hl) (k p e s m args below meth c H locs ls Q hC hR hP hS hL)
theorem q_lload {i : Nat} {x : Int64} (hd : decode M.2.1 pc = .ok (.lload i, 2)) (hl : L[i]? = some (some (.long x))) (k : TT g R cl sl M X (pc + 2) L (.long x :: st) σ P) : TT g R cl sl M X pc L (st) σ P := by
  intro p e s m args below meth c H locs ls Q hC hR hP hS hL
  exact lv_lload hC.1 hC.2.1 hd (hL.2.2.2 _ _ hl) (k p e s m args below meth c H locs ls Q hC hR hP hS hL)
theorem q_aload_n {i : Fin 4} {x : Nat} (hd : decode M.2.1 pc = .ok (.aload_n i, 1)) (hl : L[(i : Nat)]? = some (some (.ref x))) (k : TT g R cl sl M X (pc + 1) L (.ref x :: st) σ P) : TT g R cl sl M X pc L (st) σ P := by
  intro p e s m args below meth c H locs ls Q hC hR hP hS hL
  exact lv_aload_n hC.1 hC.2.1 hd rfl (hL.2.2.2 _ _ hl) (k p e s m args below meth c H locs ls Q hC hR hP hS hL)
theorem q_aload {i : Nat} {x : Nat} (hd : decode M.2.1 pc = .ok (.aload i, 2)) (hl : L[i]? = some (some (.ref x))) (k : TT g R cl sl M X (pc + 2) L (.ref x :: st) σ P) : TT g R cl sl M X pc L (st) σ P := by
  intro p e s m args below meth c H locs ls Q hC hR hP hS hL
  exact lv_aload hC.1 hC.2.1 hd (hL.2.2.2 _ _ hl) (k p e s m args below meth c H locs ls Q hC hR hP hS hL)
theorem q_iconst {n : Int} {v : Int32} (hd : decode M.2.1 pc = .ok (.iconst n, 1)) (hv : Int32.ofInt n = v) (k : TT g R cl sl M X (pc + 1) L (.int v :: st) σ P) : TT g R cl sl M X pc L (st) σ P := by
  intro p e s m args below meth c H locs ls Q hC hR hP hS hL
  exact lv_iconst hC.1 hC.2.1 hd hv (k p e s m args below meth c H locs ls Q hC hR hP hS hL)
theorem q_bipush {n : Int} {v : Int32} (hd : decode M.2.1 pc = .ok (.bipush n, 2)) (hv : (Int8.ofInt n).toInt32 = v) (k : TT g R cl sl M X (pc + 2) L (.int v :: st) σ P) : TT g R cl sl M X pc L (st) σ P := by
  intro p e s m args below meth c H locs ls Q hC hR hP hS hL
  exact lv_bipush hC.1 hC.2.1 hd hv (k p e s m args below meth c H locs ls Q hC hR hP hS hL)
theorem q_sipush {n : Int} {v : Int32} (hd : decode M.2.1 pc = .ok (.sipush n, 3)) (hv : (Int16.ofInt n).toInt32 = v) (k : TT g R cl sl M X (pc + 3) L (.int v :: st) σ P) : TT g R cl sl M X pc L (st) σ P := by
  intro p e s m args below meth c H locs ls Q hC hR hP hS hL
  exact lv_sipush hC.1 hC.2.1 hd hv (k p e s m args below meth c H locs ls Q hC hR hP hS hL)
theorem q_ldc {i : Nat} {v : Int32} (hd : decode M.2.1 pc = .ok (.ldc i, 2)) (hw : Cond.constant M.1.cls i v ∈ vt_tbl) (k : TT g R cl sl M X (pc + 2) L (.int v :: st) σ P) : TT g R cl sl M X pc L (st) σ P := by
  intro p e s m args below meth c H locs ls Q hC hR hP hS hL
  exact lv_ldc hC.1 hC.2.1 hC.2.2.2.1 (hC.2.2.2.2.1 _ hw) hd (k p e s m args below meth c H locs ls Q hC hR hP hS hL)
theorem q_ldcw {i : Nat} {v : Int32} (hd : decode M.2.1 pc = .ok (.ldc_w i, 3)) (hw : Cond.constant M.1.cls i v ∈ vt_tbl) (k : TT g R cl sl M X (pc + 3) L (.int v :: st) σ P) : TT g R cl sl M X pc L (st) σ P := by
  intro p e s m args below meth c H locs ls Q hC hR hP hS hL
  exact lv_ldcw hC.1 hC.2.1 hC.2.2.2.1 (hC.2.2.2.2.1 _ hw) hd (k p e s m args below meth c H locs ls Q hC hR hP hS hL)
theorem q_ldc2 {i : Nat} {v : Int64} (hd : decode M.2.1 pc = .ok (.ldc2_w i, 3)) (hw : Cond.constantLong M.1.cls i v ∈ vt_tbl) (k : TT g R cl sl M X (pc + 3) L (.long v :: st) σ P) : TT g R cl sl M X pc L (st) σ P := by
  intro p e s m args below meth c H locs ls Q hC hR hP hS hL
  exact lv_ldc2 hC.1 hC.2.1 hC.2.2.2.1 (hC.2.2.2.2.1 _ hw) hd (k p e s m args below meth c H locs ls Q hC hR hP hS hL)
theorem q_ldcS {i k0 : Nat} {tx : String} {bs : List Int32} (hd : decode M.2.1 pc = .ok (.ldc i, 2)) (hw : vt_strs[k0]? = some (M.1.cls, i, tx, bs)) (k : TT g R cl sl M X (pc + 2) L (.ref (g.2.2.2.2.1 k0) :: st) σ P) : TT g R cl sl M X pc L (st) σ P := by
  intro p e s m args below meth c H locs ls Q hC hR hP hS hL
  exact va_ldcS hC.1 hC.2.1 hC.2.2.2.1 (hC.2.2.2.2.2.1.2.2.2.1 _ _ hw) hd (k p e s m args below meth c H locs ls Q hC hR hP hS hL)
theorem q_iadd {x y : Int32} (hd : decode M.2.1 pc = .ok (.iadd, 1)) (k : TT g R cl sl M X (pc + 1) L (.int (x + y) :: st) σ P) : TT g R cl sl M X pc L (.int y :: .int x :: st) σ P := by
  intro p e s m args below meth c H locs ls Q hC hR hP hS hL
  exact lv_iadd hC.1 hC.2.1 hd (k p e s m args below meth c H locs ls Q hC hR hP hS hL)
theorem q_isub {x y : Int32} (hd : decode M.2.1 pc = .ok (.isub, 1)) (k : TT g R cl sl M X (pc + 1) L (.int (x - y) :: st) σ P) : TT g R cl sl M X pc L (.int y :: .int x :: st) σ P := by
  intro p e s m args below meth c H locs ls Q hC hR hP hS hL
  exact lv_isub hC.1 hC.2.1 hd (k p e s m args below meth c H locs ls Q hC hR hP hS hL)
theorem q_imul {x y : Int32} (hd : decode M.2.1 pc = .ok (.imul, 1)) (k : TT g R cl sl M X (pc + 1) L (.int (x * y) :: st) σ P) : TT g R cl sl M X pc L (.int y :: .int x :: st) σ P := by
  intro p e s m args below meth c H locs ls Q hC hR hP hS hL
  exact lv_imul hC.1 hC.2.1 hd (k p e s m args below meth c H locs ls Q hC hR hP hS hL)
theorem q_iand {x y : Int32} (hd : decode M.2.1 pc = .ok (.iand, 1)) (k : TT g R cl sl M X (pc + 1) L (.int (x &&& y) :: st) σ P) : TT g R cl sl M X pc L (.int y :: .int x :: st) σ P := by
  intro p e s m args below meth c H locs ls Q hC hR hP hS hL
  exact lv_iand hC.1 hC.2.1 hd (k p e s m args below meth c H locs ls Q hC hR hP hS hL)
theorem q_ior {x y : Int32} (hd : decode M.2.1 pc = .ok (.ior, 1)) (k : TT g R cl sl M X (pc + 1) L (.int (x ||| y) :: st) σ P) : TT g R cl sl M X pc L (.int y :: .int x :: st) σ P := by
  intro p e s m args below meth c H locs ls Q hC hR hP hS hL
  exact lv_ior hC.1 hC.2.1 hd (k p e s m args below meth c H locs ls Q hC hR hP hS hL)
theorem q_ixor {x y : Int32} (hd : decode M.2.1 pc = .ok (.ixor, 1)) (k : TT g R cl sl M X (pc + 1) L (.int (x ^^^ y) :: st) σ P) : TT g R cl sl M X pc L (.int y :: .int x :: st) σ P := by
  intro p e s m args below meth c H locs ls Q hC hR hP hS hL
  exact lv_ixor hC.1 hC.2.1 hd (k p e s m args below meth c H locs ls Q hC hR hP hS hL)
theorem q_ishl {x y : Int32} (hd : decode M.2.1 pc = .ok (.ishl, 1)) (k : TT g R cl sl M X (pc + 1) L (.int (x <<< (y &&& 31)) :: st) σ P) : TT g R cl sl M X pc L (.int y :: .int x :: st) σ P := by
  intro p e s m args below meth c H locs ls Q hC hR hP hS hL
  exact lv_ishl hC.1 hC.2.1 hd (k p e s m args below meth c H locs ls Q hC hR hP hS hL)
theorem q_ishr {x y : Int32} (hd : decode M.2.1 pc = .ok (.ishr, 1)) (k : TT g R cl sl M X (pc + 1) L (.int (x >>> (y &&& 31)) :: st) σ P) : TT g R cl sl M X pc L (.int y :: .int x :: st) σ P := by
  intro p e s m args below meth c H locs ls Q hC hR hP hS hL
  exact lv_ishr hC.1 hC.2.1 hd (k p e s m args below meth c H locs ls Q hC hR hP hS hL)
theorem q_idiv {x y : Int32} (hd : decode M.2.1 pc = .ok (.idiv, 1)) (hne : ¬ y = 0) (k : TT g R cl sl M X (pc + 1) L (.int (x / y) :: st) σ P) : TT g R cl sl M X pc L (.int y :: .int x :: st) σ P := by
  intro p e s m args below meth c H locs ls Q hC hR hP hS hL
  exact lv_idiv hC.1 hC.2.1 hd hne (k p e s m args below meth c H locs ls Q hC hR hP hS hL)
theorem q_irem {x y : Int32} (hd : decode M.2.1 pc = .ok (.irem, 1)) (hne : ¬ y = 0) (k : TT g R cl sl M X (pc + 1) L (.int (x - x / y * y) :: st) σ P) : TT g R cl sl M X pc L (.int y :: .int x :: st) σ P := by
  intro p e s m args below meth c H locs ls Q hC hR hP hS hL
  exact lv_irem hC.1 hC.2.1 hd hne (k p e s m args below meth c H locs ls Q hC hR hP hS hL)
theorem q_ineg {x : Int32} (hd : decode M.2.1 pc = .ok (.ineg, 1)) (k : TT g R cl sl M X (pc + 1) L (.int (-x) :: st) σ P) : TT g R cl sl M X pc L (.int x :: st) σ P := by
  intro p e s m args below meth c H locs ls Q hC hR hP hS hL
  exact lv_ineg hC.1 hC.2.1 hd (k p e s m args below meth c H locs ls Q hC hR hP hS hL)
theorem q_ladd {x y : Int64} (hd : decode M.2.1 pc = .ok (.ladd, 1)) (k : TT g R cl sl M X (pc + 1) L (.long (x + y) :: st) σ P) : TT g R cl sl M X pc L (.long y :: .long x :: st) σ P := by
  intro p e s m args below meth c H locs ls Q hC hR hP hS hL
  exact lv_ladd hC.1 hC.2.1 hd (k p e s m args below meth c H locs ls Q hC hR hP hS hL)
theorem q_lmul {x y : Int64} (hd : decode M.2.1 pc = .ok (.lmul, 1)) (k : TT g R cl sl M X (pc + 1) L (.long (x * y) :: st) σ P) : TT g R cl sl M X pc L (.long y :: .long x :: st) σ P := by
  intro p e s m args below meth c H locs ls Q hC hR hP hS hL
  exact lv_lmul hC.1 hC.2.1 hd (k p e s m args below meth c H locs ls Q hC hR hP hS hL)
theorem q_ldiv {x y : Int64} (hd : decode M.2.1 pc = .ok (.ldiv, 1)) (hne : ¬ y = 0) (k : TT g R cl sl M X (pc + 1) L (.long (x / y) :: st) σ P) : TT g R cl sl M X pc L (.long y :: .long x :: st) σ P := by
  intro p e s m args below meth c H locs ls Q hC hR hP hS hL
  exact lv_ldiv hC.1 hC.2.1 hd hne (k p e s m args below meth c H locs ls Q hC hR hP hS hL)
theorem q_lcmp {x y : Int64} (hd : decode M.2.1 pc = .ok (.lcmp, 1)) (k : TT g R cl sl M X (pc + 1) L (.int (lg_cmp x y) :: st) σ P) : TT g R cl sl M X pc L (.long y :: .long x :: st) σ P := by
  intro p e s m args below meth c H locs ls Q hC hR hP hS hL
  exact W.lcmp hC.1 hC.2.1 hd (k p e s m args below meth c H locs ls Q hC hR hP hS hL)
theorem q_i2l {x : Int32} (hd : decode M.2.1 pc = .ok (.i2l, 1)) (k : TT g R cl sl M X (pc + 1) L (.long x.toInt64 :: st) σ P) : TT g R cl sl M X pc L (.int x :: st) σ P := by
  intro p e s m args below meth c H locs ls Q hC hR hP hS hL
  exact lv_i2l hC.1 hC.2.1 hd rfl (k p e s m args below meth c H locs ls Q hC hR hP hS hL)
theorem q_i2b {x : Int32} (hd : decode M.2.1 pc = .ok (.i2b, 1)) (k : TT g R cl sl M X (pc + 1) L (.int x.toInt8.toInt32 :: st) σ P) : TT g R cl sl M X pc L (.int x :: st) σ P := by
  intro p e s m args below meth c H locs ls Q hC hR hP hS hL
  exact lv_i2b hC.1 hC.2.1 hd rfl (k p e s m args below meth c H locs ls Q hC hR hP hS hL)
theorem q_i2s {x : Int32} (hd : decode M.2.1 pc = .ok (.i2s, 1)) (k : TT g R cl sl M X (pc + 1) L (.int x.toInt16.toInt32 :: st) σ P) : TT g R cl sl M X pc L (.int x :: st) σ P := by
  intro p e s m args below meth c H locs ls Q hC hR hP hS hL
  exact lv_i2s hC.1 hC.2.1 hd rfl (k p e s m args below meth c H locs ls Q hC hR hP hS hL)
theorem q_i2c {x : Int32} (hd : decode M.2.1 pc = .ok (.i2c, 1)) (k : TT g R cl sl M X (pc + 1) L (.int (x.toUInt32 % 65536).toInt32 :: st) σ P) : TT g R cl sl M X pc L (.int x :: st) σ P := by
  intro p e s m args below meth c H locs ls Q hC hR hP hS hL
  exact lv_i2c hC.1 hC.2.1 hd rfl (k p e s m args below meth c H locs ls Q hC hR hP hS hL)
theorem q_dup {x : Value} (hd : decode M.2.1 pc = .ok (.dup, 1)) (hc : x.category = 1) (k : TT g R cl sl M X (pc + 1) L (x :: x :: st) σ P) : TT g R cl sl M X pc L (x :: st) σ P := by
  intro p e s m args below meth c H locs ls Q hC hR hP hS hL
  exact lv_dup hC.1 hC.2.1 hd hc (k p e s m args below meth c H locs ls Q hC hR hP hS hL)
theorem q_pop {x : Value} (hd : decode M.2.1 pc = .ok (.pop, 1)) (hc : x.category = 1) (k : TT g R cl sl M X (pc + 1) L (st) σ P) : TT g R cl sl M X pc L (x :: st) σ P := by
  intro p e s m args below meth c H locs ls Q hC hR hP hS hL
  exact lv_pop hC.1 hC.2.1 hd hc (k p e s m args below meth c H locs ls Q hC hR hP hS hL)
theorem q_dup2 {x y : Value} (hd : decode M.2.1 pc = .ok (.dup2, 1)) (hc : x.category = 1) (hc2 : y.category = 1) (k : TT g R cl sl M X (pc + 1) L (x :: y :: x :: y :: st) σ P) : TT g R cl sl M X pc L (x :: y :: st) σ P := by
  intro p e s m args below meth c H locs ls Q hC hR hP hS hL
  exact lv_dup2_11 hC.1 hC.2.1 hd hc hc2 (k p e s m args below meth c H locs ls Q hC hR hP hS hL)
theorem vt_store {cc : ByteArray} {p : Program} {l : Launch} {e : Env} {s : State} {m : MethodId} {args : Array Value} {below : List Frame} {meth : Method} {c : Code} {H : Heap} {locs : List Loc} {ls : Array Slot} {Q : State → Prop} {v : Value} {nL i : Nat}
    (hL : vt_L nL ls L) (hi : i < nL) (hc : v.category = 1) (hw : ∀ (j : Nat) (z : Value), L[j]? = some (some z) → j + 1 = i → z.category = 1)
    (h : ∀ ls' : Array Slot, storeLocals ls i v = some ls' → vt_L nL ls' (L.set i (some v)) → W p l e R s m args below meth c H locs cl sl Q (F0 m pc ls st)) : W p l e R s m args below meth c H locs cl sl Q (F0 m pc ls st) := by
  obtain ⟨ls', e1, e2⟩ := hL.set1 hi hc hw
  exact h ls' e1 e2
theorem vt_lvh {nL : Nat} {ls : Array Slot} (h : vt_L nL ls L) : lv_has ls nL (L.zipIdx.filterMap (fun q => q.1.map (fun z => (q.2, z)))) := by
  obtain ⟨h1, h2, h3, h4⟩ := h
  refine ⟨h1, h3, fun q hq => ?_⟩
  obtain ⟨⟨o, j⟩, hm, he⟩ := List.mem_filterMap.mp hq
  have hj := List.mem_zipIdx_iff_getElem?.mp hm
  cases o with
  | none => cases he
  | some z => cases he; exact h4 j z hj
/-- the locals behind a store -/
theorem vt_lvs {nL : Nat} {ls' : Array Slot} {i : Nat} {v : Value} (hlen : L.length = nL) (hi : i < nL) (hw : ∀ (j : Nat) (z : Value), L[j]? = some (some z) → j + 1 = i → z.category = 1)
    (h : lv_has ls' nL ((i, v) :: (L.zipIdx.filterMap (fun q => q.1.map (fun z => (q.2, z)))).filter (fun q => !(q.1 == i) && !(q.1 + 1 == i && q.2.category == 2)))) : vt_L nL ls' (L.set i (some v)) := by
  obtain ⟨e2, e3, e4⟩ := h
  refine ⟨e2, by rw [List.length_set]; exact hlen, e3, fun j z hz => ?_⟩
  by_cases hj : j = i
  · subst hj
    rw [List.getElem?_set_self (by omega)] at hz
    cases hz
    exact e4 (j, v) List.mem_cons_self
  · rw [List.getElem?_set_ne (Ne.symm hj)] at hz
    refine e4 (j, z) (List.mem_cons_of_mem _ (List.mem_filter.mpr ⟨List.mem_filterMap.mpr ⟨(some z, j), List.mem_zipIdx_iff_getElem?.mpr hz, rfl⟩, ?_⟩))
    have hcz := hw j z hz
    by_cases hji : j + 1 = i
    · simp [hj, hcz hji]
    · simp [hj, hji]
/-- longs are kept in no list of locals that a one-word store's neighbour could break -/
def vt_okL (L : List (Option Value)) (i : Nat) : Bool := match i with
  | 0 => true
  | j + 1 => match L[j]? with
    | some (some (.long _)) => false
    | some (some (.double _)) => false
    | _ => true
theorem vt_okL_use {i : Nat} (h : vt_okL L i = true) : ∀ (j : Nat) (z : Value), L[j]? = some (some z) → j + 1 = i → z.category = 1 := by
  intro j z hz hj
  subst hj
  simp only [vt_okL, hz] at h
  cases z <;> first | rfl | (simp at h)

theorem q_istore_n {i : Fin 4} {x : Int32} (hd : decode M.2.1 pc = .ok (.istore_n i, 1)) (hi : (i : Nat) < M.2.2.1) (ho : vt_okL L (i : Nat) = true) (hs : L.set (i : Nat) (some (.int x)) = L') (k : TT g R cl sl M X (pc + 1) L' st σ P) : TT g R cl sl M X pc L (.int x :: st) σ P := by
  intro p e s m args below meth c H locs ls Q hC hR hP hS hL
  subst hs
  exact lv_istore_n hC.1 hC.2.1 hd rfl (vt_lvh hL) hi rfl (fun ls' hl' => k p e s m args below meth c H locs ls' Q hC hR hP hS (vt_lvs hL.2.1 hi (vt_okL_use ho) hl'))
theorem q_istore {i : Nat} {x : Int32} (hd : decode M.2.1 pc = .ok (.istore i, 2)) (hi : i < M.2.2.1) (ho : vt_okL L i = true) (hs : L.set i (some (.int x)) = L') (k : TT g R cl sl M X (pc + 2) L' st σ P) : TT g R cl sl M X pc L (.int x :: st) σ P := by
  intro p e s m args below meth c H locs ls Q hC hR hP hS hL
  subst hs
  exact lv_istore hC.1 hC.2.1 hd (vt_lvh hL) hi rfl (fun ls' hl' => k p e s m args below meth c H locs ls' Q hC hR hP hS (vt_lvs hL.2.1 hi (vt_okL_use ho) hl'))
theorem q_astore_n {i : Fin 4} {x : Nat} (hd : decode M.2.1 pc = .ok (.astore_n i, 1)) (hi : (i : Nat) < M.2.2.1) (ho : vt_okL L (i : Nat) = true) (hs : L.set (i : Nat) (some (.ref x)) = L') (k : TT g R cl sl M X (pc + 1) L' st σ P) : TT g R cl sl M X pc L (.ref x :: st) σ P := by
  intro p e s m args below meth c H locs ls Q hC hR hP hS hL
  subst hs
  exact lv_astore_n hC.1 hC.2.1 hd rfl (vt_lvh hL) hi rfl (fun ls' hl' => k p e s m args below meth c H locs ls' Q hC hR hP hS (vt_lvs hL.2.1 hi (vt_okL_use ho) hl'))
theorem q_astore {i : Nat} {x : Nat} (hd : decode M.2.1 pc = .ok (.astore i, 2)) (hi : i < M.2.2.1) (ho : vt_okL L i = true) (hs : L.set i (some (.ref x)) = L') (k : TT g R cl sl M X (pc + 2) L' st σ P) : TT g R cl sl M X pc L (.ref x :: st) σ P := by
  intro p e s m args below meth c H locs ls Q hC hR hP hS hL
  subst hs
  exact lv_astore hC.1 hC.2.1 hd (vt_lvh hL) hi rfl (fun ls' hl' => k p e s m args below meth c H locs ls' Q hC hR hP hS (vt_lvs hL.2.1 hi (vt_okL_use ho) hl'))
theorem q_iinc {i : Nat} {n : Int} {x : Int32} (hd : decode M.2.1 pc = .ok (.iinc i n, 3)) (hl : L[i]? = some (some (.int x))) (hi : i < M.2.2.1) (ho : vt_okL L i = true) (hs : L.set i (some (.int (x + Int32.ofInt n))) = L') (k : TT g R cl sl M X (pc + 3) L' st σ P) : TT g R cl sl M X pc L st σ P := by
  intro p e s m args below meth c H locs ls Q hC hR hP hS hL
  subst hs
  have hm : (i, Value.int x) ∈ L.zipIdx.filterMap (fun q => q.1.map (fun z => (q.2, z))) := List.mem_filterMap.mpr ⟨(some (.int x), i), List.mem_zipIdx_iff_getElem?.mpr hl, rfl⟩
  obtain ⟨k0, hk0⟩ := List.getElem?_of_mem hm
  exact lv_iinc hC.1 hC.2.1 hd (vt_lvh hL) hk0 rfl hi rfl (fun ls' hl' => k p e s m args below meth c H locs ls' Q hC hR hP hS (vt_lvs hL.2.1 hi (vt_okL_use ho) hl'))
theorem q_lstore {i : Nat} {x : Int64} (hd : decode M.2.1 pc = .ok (.lstore i, 2)) (hi : i + 1 < M.2.2.1) (ho : vt_okL L i = true) (hs : (L.set i (some (.long x))).set (i + 1) none = L') (k : TT g R cl sl M X (pc + 2) L' st σ P) : TT g R cl sl M X pc L (.long x :: st) σ P := by
  intro p e s m args below meth c H locs ls Q hC hR hP hS hL
  subst hs
  refine lv_lstore hC.1 hC.2.1 hd (vt_lvh hL) hi rfl (fun ls' hl' => k p e s m args below meth c H locs ls' Q hC hR hP hS ?_)
  obtain ⟨e2, e3, e4⟩ := hl'
  have hlen := hL.2.1
  refine ⟨e2, by rw [List.length_set, List.length_set]; exact hlen, e3, fun j z hz => ?_⟩
  by_cases hj1 : j = i + 1
  · subst hj1
    rw [List.getElem?_set_self (by rw [List.length_set]; omega)] at hz
    cases hz
  · rw [List.getElem?_set_ne (Ne.symm hj1)] at hz
    by_cases hj : j = i
    · subst hj
      rw [List.getElem?_set_self (by omega)] at hz
      cases hz
      exact e4 (j, .long x) List.mem_cons_self
    · rw [List.getElem?_set_ne (Ne.symm hj)] at hz
      refine e4 (j, z) (List.mem_cons_of_mem _ (List.mem_filter.mpr ⟨List.mem_filterMap.mpr ⟨(some z, j), List.mem_zipIdx_iff_getElem?.mpr hz, rfl⟩, ?_⟩))
      have hcz := (vt_okL_use ho) j z hz
      by_cases hji : j + 1 = i
      · simp [hj, hj1, hcz hji]
      · simp [hj, hj1, hji]
theorem q_if_eq {x : Int32} {off : Int} {tgt : Nat} (hd : decode M.2.1 pc = .ok (.ifCond .eq off, 3)) (ht : (pc : Int) + off = (tgt : Int)) (kt : x = 0 → TT g R cl sl M X tgt L st σ P) (kf : ¬ x = 0 → TT g R cl sl M X (pc + 3) L st σ P) : TT g R cl sl M X pc L (.int x :: st) σ P := by
  intro p e s m args below meth c H locs ls Q hC hR hP hS hL
  exact lv_if_eq hC.1 hC.2.1 hd ht (fun h => kt h p e s m args below meth c H locs ls Q hC hR hP hS hL) (fun h => kf h p e s m args below meth c H locs ls Q hC hR hP hS hL)
theorem q_icmp_eq {x y : Int32} {off : Int} {tgt : Nat} (hd : decode M.2.1 pc = .ok (.if_icmp .eq off, 3)) (ht : (pc : Int) + off = (tgt : Int)) (kt : x = y → TT g R cl sl M X tgt L st σ P) (kf : ¬ x = y → TT g R cl sl M X (pc + 3) L st σ P) : TT g R cl sl M X pc L (.int y :: .int x :: st) σ P := by
  intro p e s m args below meth c H locs ls Q hC hR hP hS hL
  exact lv_icmp_eq hC.1 hC.2.1 hd ht (fun h => kt h p e s m args below meth c H locs ls Q hC hR hP hS hL) (fun h => kf h p e s m args below meth c H locs ls Q hC hR hP hS hL)
theorem q_if_ne {x : Int32} {off : Int} {tgt : Nat} (hd : decode M.2.1 pc = .ok (.ifCond .ne off, 3)) (ht : (pc : Int) + off = (tgt : Int)) (kt : ¬ x = 0 → TT g R cl sl M X tgt L st σ P) (kf : x = 0 → TT g R cl sl M X (pc + 3) L st σ P) : TT g R cl sl M X pc L (.int x :: st) σ P := by
  intro p e s m args below meth c H locs ls Q hC hR hP hS hL
  exact lv_if_ne hC.1 hC.2.1 hd ht (fun h => kt h p e s m args below meth c H locs ls Q hC hR hP hS hL) (fun h => kf h p e s m args below meth c H locs ls Q hC hR hP hS hL)
theorem q_icmp_ne {x y : Int32} {off : Int} {tgt : Nat} (hd : decode M.2.1 pc = .ok (.if_icmp .ne off, 3)) (ht : (pc : Int) + off = (tgt : Int)) (kt : ¬ x = y → TT g R cl sl M X tgt L st σ P) (kf : x = y → TT g R cl sl M X (pc + 3) L st σ P) : TT g R cl sl M X pc L (.int y :: .int x :: st) σ P := by
  intro p e s m args below meth c H locs ls Q hC hR hP hS hL
  exact lv_icmp_ne hC.1 hC.2.1 hd ht (fun h => kt h p e s m args below meth c H locs ls Q hC hR hP hS hL) (fun h => kf h p e s m args below meth c H locs ls Q hC hR hP hS hL)
theorem q_if_lt {x : Int32} {off : Int} {tgt : Nat} (hd : decode M.2.1 pc = .ok (.ifCond .lt off, 3)) (ht : (pc : Int) + off = (tgt : Int)) (kt : x < 0 → TT g R cl sl M X tgt L st σ P) (kf : ¬ x < 0 → TT g R cl sl M X (pc + 3) L st σ P) : TT g R cl sl M X pc L (.int x :: st) σ P := by
  intro p e s m args below meth c H locs ls Q hC hR hP hS hL
  exact lv_if_lt hC.1 hC.2.1 hd ht (fun h => kt h p e s m args below meth c H locs ls Q hC hR hP hS hL) (fun h => kf h p e s m args below meth c H locs ls Q hC hR hP hS hL)
theorem q_icmp_lt {x y : Int32} {off : Int} {tgt : Nat} (hd : decode M.2.1 pc = .ok (.if_icmp .lt off, 3)) (ht : (pc : Int) + off = (tgt : Int)) (kt : x < y → TT g R cl sl M X tgt L st σ P) (kf : ¬ x < y → TT g R cl sl M X (pc + 3) L st σ P) : TT g R cl sl M X pc L (.int y :: .int x :: st) σ P := by
  intro p e s m args below meth c H locs ls Q hC hR hP hS hL
  exact lv_icmp_lt hC.1 hC.2.1 hd ht (fun h => kt h p e s m args below meth c H locs ls Q hC hR hP hS hL) (fun h => kf h p e s m args below meth c H locs ls Q hC hR hP hS hL)
theorem q_if_ge {x : Int32} {off : Int} {tgt : Nat} (hd : decode M.2.1 pc = .ok (.ifCond .ge off, 3)) (ht : (pc : Int) + off = (tgt : Int)) (kt : 0 ≤ x → TT g R cl sl M X tgt L st σ P) (kf : ¬ 0 ≤ x → TT g R cl sl M X (pc + 3) L st σ P) : TT g R cl sl M X pc L (.int x :: st) σ P := by
  intro p e s m args below meth c H locs ls Q hC hR hP hS hL
  exact lv_if_ge hC.1 hC.2.1 hd ht (fun h => kt h p e s m args below meth c H locs ls Q hC hR hP hS hL) (fun h => kf h p e s m args below meth c H locs ls Q hC hR hP hS hL)
theorem q_icmp_ge {x y : Int32} {off : Int} {tgt : Nat} (hd : decode M.2.1 pc = .ok (.if_icmp .ge off, 3)) (ht : (pc : Int) + off = (tgt : Int)) (kt : y ≤ x → TT g R cl sl M X tgt L st σ P) (kf : ¬ y ≤ x → TT g R cl sl M X (pc + 3) L st σ P) : TT g R cl sl M X pc L (.int y :: .int x :: st) σ P := by
  intro p e s m args below meth c H locs ls Q hC hR hP hS hL
  exact lv_icmp_ge hC.1 hC.2.1 hd ht (fun h => kt h p e s m args below meth c H locs ls Q hC hR hP hS hL) (fun h => kf h p e s m args below meth c H locs ls Q hC hR hP hS hL)
theorem q_if_gt {x : Int32} {off : Int} {tgt : Nat} (hd : decode M.2.1 pc = .ok (.ifCond .gt off, 3)) (ht : (pc : Int) + off = (tgt : Int)) (kt : 0 < x → TT g R cl sl M X tgt L st σ P) (kf : ¬ 0 < x → TT g R cl sl M X (pc + 3) L st σ P) : TT g R cl sl M X pc L (.int x :: st) σ P := by
  intro p e s m args below meth c H locs ls Q hC hR hP hS hL
  exact lv_if_gt hC.1 hC.2.1 hd ht (fun h => kt h p e s m args below meth c H locs ls Q hC hR hP hS hL) (fun h => kf h p e s m args below meth c H locs ls Q hC hR hP hS hL)
theorem q_icmp_gt {x y : Int32} {off : Int} {tgt : Nat} (hd : decode M.2.1 pc = .ok (.if_icmp .gt off, 3)) (ht : (pc : Int) + off = (tgt : Int)) (kt : y < x → TT g R cl sl M X tgt L st σ P) (kf : ¬ y < x → TT g R cl sl M X (pc + 3) L st σ P) : TT g R cl sl M X pc L (.int y :: .int x :: st) σ P := by
  intro p e s m args below meth c H locs ls Q hC hR hP hS hL
  exact lv_icmp_gt hC.1 hC.2.1 hd ht (fun h => kt h p e s m args below meth c H locs ls Q hC hR hP hS hL) (fun h => kf h p e s m args below meth c H locs ls Q hC hR hP hS hL)
theorem q_if_le {x : Int32} {off : Int} {tgt : Nat} (hd : decode M.2.1 pc = .ok (.ifCond .le off, 3)) (ht : (pc : Int) + off = (tgt : Int)) (kt : x ≤ 0 → TT g R cl sl M X tgt L st σ P) (kf : ¬ x ≤ 0 → TT g R cl sl M X (pc + 3) L st σ P) : TT g R cl sl M X pc L (.int x :: st) σ P := by
  intro p e s m args below meth c H locs ls Q hC hR hP hS hL
  exact lv_if_le hC.1 hC.2.1 hd ht (fun h => kt h p e s m args below meth c H locs ls Q hC hR hP hS hL) (fun h => kf h p e s m args below meth c H locs ls Q hC hR hP hS hL)
theorem q_icmp_le {x y : Int32} {off : Int} {tgt : Nat} (hd : decode M.2.1 pc = .ok (.if_icmp .le off, 3)) (ht : (pc : Int) + off = (tgt : Int)) (kt : x ≤ y → TT g R cl sl M X tgt L st σ P) (kf : ¬ x ≤ y → TT g R cl sl M X (pc + 3) L st σ P) : TT g R cl sl M X pc L (.int y :: .int x :: st) σ P := by
  intro p e s m args below meth c H locs ls Q hC hR hP hS hL
  exact lv_icmp_le hC.1 hC.2.1 hd ht (fun h => kt h p e s m args below meth c H locs ls Q hC hR hP hS hL) (fun h => kf h p e s m args below meth c H locs ls Q hC hR hP hS hL)
theorem q_goto {off : Int} {tgt : Nat} (hd : decode M.2.1 pc = .ok (.goto off, 3)) (ht : (pc : Int) + off = (tgt : Int)) (k : TT g R cl sl M X tgt L st σ P) : TT g R cl sl M X pc L st σ P := by
  intro p e s m args below meth c H locs ls Q hC hR hP hS hL
  exact lv_goto hC.1 hC.2.1 hd ht (k p e s m args below meth c H locs ls Q hC hR hP hS hL)
theorem q_tabIn {dflt lo hi : Int} {offs : Array Int} {len : Nat} {x : Int32} {off : Int} {tgt : Nat} (hd : decode M.2.1 pc = .ok (.tableswitch dflt lo hi offs, len)) (h1 : ¬ x.toInt < lo) (h2 : ¬ hi < x.toInt) (ho : offs[(x.toInt - lo).toNat]? = some off) (ht : (pc : Int) + off = (tgt : Int)) (k : TT g R cl sl M X tgt L st σ P) : TT g R cl sl M X pc L (.int x :: st) σ P := by
  intro p e s m args below meth c H locs ls Q hC hR hP hS hL
  exact lv_tableIn hC.1 hC.2.1 hd h1 h2 ho ht (k p e s m args below meth c H locs ls Q hC hR hP hS hL)
theorem q_tabOut {dflt lo hi : Int} {offs : Array Int} {len : Nat} {x : Int32} {tgt : Nat} (hd : decode M.2.1 pc = .ok (.tableswitch dflt lo hi offs, len)) (h : x.toInt < lo ∨ hi < x.toInt) (ht : (pc : Int) + dflt = (tgt : Int)) (k : TT g R cl sl M X tgt L st σ P) : TT g R cl sl M X pc L (.int x :: st) σ P := by
  intro p e s m args below meth c H locs ls Q hC hR hP hS hL
  exact lv_tableOut hC.1 hC.2.1 hd h ht (k p e s m args below meth c H locs ls Q hC hR hP hS hL)
theorem q_look {dflt : Int} {ps : Array (Int × Int)} {len : Nat} {x : Int32} {off : Int} {tgt : Nat} (hd : decode M.2.1 pc = .ok (.lookupswitch dflt ps, len)) (hp : (ps.toList.zip (ps.toList.drop 1)).all (fun (a, next) => a.1 < next.1) = true) (ho : Op.lookupswitch.offset ps.toList dflt x.toInt = off) (ht : (pc : Int) + off = (tgt : Int)) (k : TT g R cl sl M X tgt L st σ P) : TT g R cl sl M X pc L (.int x :: st) σ P := by
  intro p e s m args below meth c H locs ls Q hC hR hP hS hL
  exact lv_lookup hC.1 hC.2.1 hd hp ho ht (k p e s m args below meth c H locs ls Q hC hR hP hS hL)
end QR
end
section
/-! FIELDS, ARRAYS, CALLS over the world -/
def vt_F (own : String) (index ci j : Nat) : Prop := ∃ (C : String) (T : u_T) (N : Nat), vt_cls[ci]? = some (C, T, N) ∧ j < N ∧ (∀ w ∈ u_ws C T N, w ∈ vt_tbl) ∧ Cond.fieldLink own index (T j).1 (T j).2.1 (T j).2.2.1 ∈ vt_tbl
def vt_FP (ci j : Nat) (ty : FieldType) : Prop := ∀ (C : String) (T : u_T) (N : Nat), vt_cls[ci]? = some (C, T, N) → ∃ ty0 : Nat → FieldType, (∀ k, k < N → parseFieldDescriptor (T k).2.2.1 = some (ty0 k)) ∧ (∀ a, a < N → ∀ b, b < N → a ≠ b → (T a).2.1 ≠ (T b).2.1) ∧ (T j).2.2.2 = false ∧ ty0 j = ty
def vt_fld (kc ci j : Nat) (o : Option Nat) : Prop := ∃ fl : List (Option Nat), vt_lay[kc]? = some (.inr (ci, fl)) ∧ fl[j]? = some o
def vt_ar (kc kd n : Nat) : Prop := ∃ r0 : Nat, vt_lay[kc]? = some (.inl (kd, n, r0))
def vt_ar2 (kc kd n r0 : Nat) : Prop := vt_lay[kc]? = some (.inl (kd, n, r0))
section QH
variable {g : vt_GT} {R : Room} {cl sl : Nat} {M : vt_MD} {X : vt_XT} {pc : Nat} {L L' : List (Option Value)} {st : List Value} {σ : vt_Sg} {P : Option Value → vt_Sg → Prop}
theorem q_get {index ci j kc : Nat} {o : Option Nat} {v : Value} (hd : decode M.2.1 pc = .ok (.getfield index, 3)) (hf : vt_F M.1.cls index ci j) (hk : vt_fld kc ci j o) (hv : vt_v g.2.1 (σ kc) j o = v) (k : TT g R cl sl M X (pc + 3) L (v :: st) σ P) : TT g R cl sl M X pc L (.ref (g.2.1 kc) :: st) σ P := by
  intro p e s m args below meth c H locs ls Q hC hR hP hS hL
  obtain ⟨C, T, N, f1, f2, f3, f4⟩ := hf
  obtain ⟨fl, k1, k2⟩ := hk
  subst hv
  exact va_get (D := g.2.2.2.1) (cl := vt_cls) (ws := vt_W g σ) (ci := ci) (C := C) (T := T) (N := N) hC.1 hC.2.1 hC.2.2.2.2.1 f3 hC.2.2.2.1 hC.2.2.2.2.2.1.1 hP kc (fs := vt_fl g.2.1 (σ kc) fl) (vt_W_at k1) f1 j f2 (hC.2.2.2.2.1 _ f4) (fun _ h => h) (vt_fl_at k2) hd (k p e s m args below meth c H locs ls Q hC hR hP hS hL)
theorem q_getI {index ci j kc : Nat} (hd : decode M.2.1 pc = .ok (.getfield index, 3)) (hf : vt_F M.1.cls index ci j) (hk : vt_fld kc ci j none) (k : TT g R cl sl M X (pc + 3) L (.int (σ kc j) :: st) σ P) : TT g R cl sl M X pc L (.ref (g.2.1 kc) :: st) σ P := q_get hd hf hk rfl k
theorem q_getR {index ci j kc r : Nat} (hd : decode M.2.1 pc = .ok (.getfield index, 3)) (hf : vt_F M.1.cls index ci j) (hk : vt_fld kc ci j (some r)) (k : TT g R cl sl M X (pc + 3) L (.ref (g.2.1 r) :: st) σ P) : TT g R cl sl M X pc L (.ref (g.2.1 kc) :: st) σ P := q_get hd hf hk rfl k
theorem q_put {index ci j kc : Nat} (ty : FieldType) {x : Int32} (hd : decode M.2.1 pc = .ok (.putfield index, 3)) (hf : vt_F M.1.cls index ci j) (hp : vt_FP ci j ty) (hk : vt_fld kc ci j none) (hn : narrow ty (.int x) = .int x) (hft : fits ty (.int x) = true) (k : TT g R cl sl M X (pc + 3) L st (su σ kc (upd (σ kc) j x)) P) : TT g R cl sl M X pc L (.int x :: .ref (g.2.1 kc) :: st) σ P := by
  intro p e s m args below meth c H locs ls Q hC hR hP hS hL
  obtain ⟨C, T, N, f1, f2, f3, f4⟩ := hf
  obtain ⟨fl, k1, k2⟩ := hk
  obtain ⟨ty0, p1, p2, p3, p4⟩ := hp C T N f1
  have hfl : j < fl.length := (List.getElem?_eq_some_iff.mp k2).1
  refine va_put (D := g.2.2.2.1) (cl := vt_cls) (ws := vt_W g σ) (ci := ci) (C := C) (T := T) (N := N) (ty := ty) (v := .int x) hC.1 hC.2.1 hC.2.2.2.2.1 f3 ty0 p1 p2 hC.2.2.2.1 hC.2.2.2.2.2.1.1 hP (vt_D hC.2.2.2.2.2.1.2.1 σ) hS kc (fs := vt_fl g.2.1 (σ kc) fl) (vt_W_at k1) f1 j f2 (hC.2.2.2.2.1 _ f4) (fun _ h => h) p3 (by rw [p1 j f2, p4]) hn hft (by unfold vt_fl; rw [List.length_mapIdx]; exact hfl) hd (fun H1 locs1 hP1 hD1 hS1 => ?_)
  have e1 : (vt_W g σ).set kc (g.2.1 kc, .inr (ci, (vt_fl g.2.1 (σ kc) fl).set j (.int x))) = vt_W g (su σ kc (upd (σ kc) j x)) := vt_W_set k1 (by simp only [vt_E, su_same]; rw [vt_fl_set k2])
  rw [e1] at hP1
  exact k p e s m args below meth c H1 locs1 ls Q hC hR hP1 hS1 hL
theorem q_putI {index ci j kc : Nat} {x : Int32} (hd : decode M.2.1 pc = .ok (.putfield index, 3)) (hf : vt_F M.1.cls index ci j) (hp : vt_FP ci j .int) (hk : vt_fld kc ci j none) (k : TT g R cl sl M X (pc + 3) L st (su σ kc (upd (σ kc) j x)) P) : TT g R cl sl M X pc L (.int x :: .ref (g.2.1 kc) :: st) σ P := q_put .int hd hf hp hk rfl rfl k
theorem vt_z01 {x : Int32} (h : x = 0 ∨ x = 1) : narrow .boolean (.int x) = .int x ∧ fits .boolean (.int x) = true := by
  rcases h with rfl | rfl <;> exact ⟨rfl, rfl⟩
theorem q_putZ {index ci j kc : Nat} {x : Int32} (hd : decode M.2.1 pc = .ok (.putfield index, 3)) (hf : vt_F M.1.cls index ci j) (hp : vt_FP ci j .boolean) (hk : vt_fld kc ci j none) (hz : x = 0 ∨ x = 1) (k : TT g R cl sl M X (pc + 3) L st (su σ kc (upd (σ kc) j x)) P) : TT g R cl sl M X pc L (.int x :: .ref (g.2.1 kc) :: st) σ P := q_put .boolean hd hf hp hk (vt_z01 hz).1 (vt_z01 hz).2 k
theorem vt_E_ar {kc kd n r0 : Nat} (h : kd < 4) : vt_E g σ kc (.inl (kd, n, r0)) = .inl (g.2.2.1 kd, n, .inl (σ kc)) := by simp only [vt_E]; rw [if_pos h]
theorem vt_W_ar {kc kd n r0 : Nat} (hk : vt_lay[kc]? = some (.inl (kd, n, r0))) (h : kd < 4) : (vt_W g σ)[kc]? = some (g.2.1 kc, .inl (g.2.2.1 kd, n, .inl (σ kc))) := by rw [vt_W_at hk, vt_E_ar h]
theorem vt_W_sa {kc kd n r0 : Nat} (hk : vt_lay[kc]? = some (.inl (kd, n, r0))) (h : kd < 4) (f : Nat → Int32) : (vt_W g σ).set kc (g.2.1 kc, .inl (g.2.2.1 kd, n, .inl f)) = vt_W g (su σ kc f) := vt_W_set hk (by rw [vt_E_ar h, su_same])
theorem q_iald {kc n : Nat} {i : Int32} (hd : decode M.2.1 pc = .ok (.iaload, 1)) (hk : vt_ar kc 0 n) (hin : vp_in i n) (k : TT g R cl sl M X (pc + 1) L (.int (σ kc i.toNatClampNeg) :: st) σ P) : TT g R cl sl M X pc L (.int i :: .ref (g.2.1 kc) :: st) σ P := by
  intro p e s m args below meth c H locs ls Q hC hR hP hS hL
  obtain ⟨r0, hk⟩ := hk
  exact va_iald (tys := vt_tys g) hC.1 hC.2.1 hC.2.2.2.2.2.1.1 hP kc 0 (vt_W_ar hk (by decide)) rfl hin hd (k p e s m args below meth c H locs ls Q hC hR hP hS hL)
theorem q_bald {kc n : Nat} {i : Int32} (hd : decode M.2.1 pc = .ok (.baload, 1)) (hk : vt_ar kc 1 n) (hin : vp_in i n) (k : TT g R cl sl M X (pc + 1) L (.int (σ kc i.toNatClampNeg) :: st) σ P) : TT g R cl sl M X pc L (.int i :: .ref (g.2.1 kc) :: st) σ P := by
  intro p e s m args below meth c H locs ls Q hC hR hP hS hL
  obtain ⟨r0, hk⟩ := hk
  exact va_bald (tys := vt_tys g) hC.1 hC.2.1 hC.2.2.2.2.2.1.1 hP kc 1 (vt_W_ar hk (by decide)) rfl hin hd (k p e s m args below meth c H locs ls Q hC hR hP hS hL)
theorem q_sald {kc n : Nat} {i : Int32} (hd : decode M.2.1 pc = .ok (.saload, 1)) (hk : vt_ar kc 2 n) (hin : vp_in i n) (k : TT g R cl sl M X (pc + 1) L (.int (σ kc i.toNatClampNeg) :: st) σ P) : TT g R cl sl M X pc L (.int i :: .ref (g.2.1 kc) :: st) σ P := by
  intro p e s m args below meth c H locs ls Q hC hR hP hS hL
  obtain ⟨r0, hk⟩ := hk
  exact va_sald (tys := vt_tys g) hC.1 hC.2.1 hC.2.2.2.2.2.1.1 hP kc 2 (vt_W_ar hk (by decide)) rfl hin hd (k p e s m args below meth c H locs ls Q hC hR hP hS hL)
theorem q_zald {kc n : Nat} {i : Int32} (hd : decode M.2.1 pc = .ok (.baload, 1)) (hk : vt_ar kc 3 n) (hin : vp_in i n) (k : TT g R cl sl M X (pc + 1) L (.int (σ kc i.toNatClampNeg) :: st) σ P) : TT g R cl sl M X pc L (.int i :: .ref (g.2.1 kc) :: st) σ P := by
  intro p e s m args below meth c H locs ls Q hC hR hP hS hL
  obtain ⟨r0, hk⟩ := hk
  exact va_zald (tys := vt_tys g) hC.1 hC.2.1 hC.2.2.2.2.2.1.1 hP kc 3 (vt_W_ar hk (by decide)) rfl hin hd (k p e s m args below meth c H locs ls Q hC hR hP hS hL)
theorem q_iast {kc n : Nat} {i x : Int32} (hd : decode M.2.1 pc = .ok (.iastore, 1)) (hk : vt_ar kc 0 n) (hin : vp_in i n) (k : TT g R cl sl M X (pc + 1) L st (su σ kc (upd (σ kc) i.toNatClampNeg x)) P) : TT g R cl sl M X pc L (.int x :: .int i :: .ref (g.2.1 kc) :: st) σ P := by
  intro p e s m args below meth c H locs ls Q hC hR hP hS hL
  obtain ⟨r0, hk⟩ := hk
  refine va_iast (tys := vt_tys g) hC.1 hC.2.1 hC.2.2.2.2.2.1.1 hP (vt_D hC.2.2.2.2.2.1.2.1 σ) hS kc 0 (vt_W_ar hk (by decide)) rfl hin hd (fun H1 locs1 hP1 hD1 hS1 => ?_)
  rw [vt_W_sa hk (by decide)] at hP1
  exact k p e s m args below meth c H1 locs1 ls Q hC hR hP1 hS1 hL
theorem q_bast {kc n : Nat} {i x : Int32} (hd : decode M.2.1 pc = .ok (.bastore, 1)) (hk : vt_ar kc 1 n) (hin : vp_in i n) (k : TT g R cl sl M X (pc + 1) L st (su σ kc (upd (σ kc) i.toNatClampNeg (vp_nar .byte x))) P) : TT g R cl sl M X pc L (.int x :: .int i :: .ref (g.2.1 kc) :: st) σ P := by
  intro p e s m args below meth c H locs ls Q hC hR hP hS hL
  obtain ⟨r0, hk⟩ := hk
  refine va_bast (tys := vt_tys g) hC.1 hC.2.1 hC.2.2.2.2.2.1.1 hP (vt_D hC.2.2.2.2.2.1.2.1 σ) hS kc 1 (vt_W_ar hk (by decide)) rfl hin hd (fun H1 locs1 hP1 hD1 hS1 => ?_)
  rw [vt_W_sa hk (by decide)] at hP1
  exact k p e s m args below meth c H1 locs1 ls Q hC hR hP1 hS1 hL
theorem q_sast {kc n : Nat} {i x : Int32} (hd : decode M.2.1 pc = .ok (.sastore, 1)) (hk : vt_ar kc 2 n) (hin : vp_in i n) (k : TT g R cl sl M X (pc + 1) L st (su σ kc (upd (σ kc) i.toNatClampNeg (vp_nar .short x))) P) : TT g R cl sl M X pc L (.int x :: .int i :: .ref (g.2.1 kc) :: st) σ P := by
  intro p e s m args below meth c H locs ls Q hC hR hP hS hL
  obtain ⟨r0, hk⟩ := hk
  refine va_sast (tys := vt_tys g) hC.1 hC.2.1 hC.2.2.2.2.2.1.1 hP (vt_D hC.2.2.2.2.2.1.2.1 σ) hS kc 2 (vt_W_ar hk (by decide)) rfl hin hd (fun H1 locs1 hP1 hD1 hS1 => ?_)
  rw [vt_W_sa hk (by decide)] at hP1
  exact k p e s m args below meth c H1 locs1 ls Q hC hR hP1 hS1 hL
theorem q_zast {kc n : Nat} {i x : Int32} (hd : decode M.2.1 pc = .ok (.bastore, 1)) (hk : vt_ar kc 3 n) (hin : vp_in i n) (k : TT g R cl sl M X (pc + 1) L st (su σ kc (upd (σ kc) i.toNatClampNeg (vp_nar .boolean x))) P) : TT g R cl sl M X pc L (.int x :: .int i :: .ref (g.2.1 kc) :: st) σ P := by
  intro p e s m args below meth c H locs ls Q hC hR hP hS hL
  obtain ⟨r0, hk⟩ := hk
  refine va_zast (tys := vt_tys g) hC.1 hC.2.1 hC.2.2.2.2.2.1.1 hP (vt_D hC.2.2.2.2.2.1.2.1 σ) hS kc 3 (vt_W_ar hk (by decide)) rfl hin hd (fun H1 locs1 hP1 hD1 hS1 => ?_)
  rw [vt_W_sa hk (by decide)] at hP1
  exact k p e s m args below meth c H1 locs1 ls Q hC hR hP1 hS1 hL
theorem vt_ty_at {kd : Nat} (h : kd < 6) : ∃ ty : FieldType, (vt_tys g)[kd]? = some (g.2.2.1 kd, ty) := by
  match kd, h with
  | 0, _ => exact ⟨_, rfl⟩
  | 1, _ => exact ⟨_, rfl⟩
  | 2, _ => exact ⟨_, rfl⟩
  | 3, _ => exact ⟨_, rfl⟩
  | 4, _ => exact ⟨_, rfl⟩
  | 5, _ => exact ⟨_, rfl⟩
theorem q_alen {kc kd n : Nat} {v : Int32} (hd : decode M.2.1 pc = .ok (.arraylength, 1)) (hk : vt_ar kc kd n) (h4 : kd < 4) (hv : Int32.ofNat n = v) (k : TT g R cl sl M X (pc + 1) L (.int v :: st) σ P) : TT g R cl sl M X pc L (.ref (g.2.1 kc) :: st) σ P := by
  intro p e s m args below meth c H locs ls Q hC hR hP hS hL
  obtain ⟨r0, hk⟩ := hk
  obtain ⟨ty, ht⟩ := vt_ty_at (g := g) (kd := kd) (by omega)
  exact va_alen (tys := vt_tys g) hC.1 hC.2.1 hC.2.2.2.2.2.1.1 hP kc kd (vt_W_ar hk h4) ht hv hd (k p e s m args below meth c H locs ls Q hC hR hP hS hL)
theorem q_aald {kc kd n r0 : Nat} {i : Int32} (hd : decode M.2.1 pc = .ok (.aaload, 1)) (hk : vt_ar2 kc kd n r0) (hkd : kd = 4 ∨ kd = 5) (hin : vp_in i n) (k : TT g R cl sl M X (pc + 1) L (.ref (g.2.1 (r0 + i.toNatClampNeg)) :: st) σ P) : TT g R cl sl M X pc L (.int i :: .ref (g.2.1 kc) :: st) σ P := by
  intro p e s m args below meth c H locs ls Q hC hR hP hS hL
  have hlt : i.toNatClampNeg < n := Nat.not_le.mp fun q => hin (Or.inr q)
  have hcell : H[g.2.1 kc]? = some (vp_cell (g.2.2.1 kd) (n, .inr (.inr (.inr (.inr (fun j => if j < n then some (g.2.1 (r0 + j)) else none)))))) := by
    have h := hP kc _ (vt_W_at (g := g) (σ := σ) hk)
    have e1 : vt_E g σ kc (.inl (kd, n, r0)) = .inl (g.2.2.1 kd, n, .inr (.inr (.inr (.inr (fun j => if j < n then some (g.2.1 (r0 + j)) else none))))) := by simp only [vt_E]; rw [if_neg (by omega)]
    rw [e1] at h
    exact h
  have hty : ∃ ty : FieldType, ty.isReference = true ∧ (vt_tys g)[kd]? = some (g.2.2.1 kd, ty) := by
    rcases hkd with rfl | rfl
    · exact ⟨.array .int, rfl, rfl⟩
    · exact ⟨.array .short, rfl, rfl⟩
  obtain ⟨ty, t1, t2⟩ := hty
  refine W.aald (v := .ref (g.2.1 (r0 + i.toNatClampNeg))) (ty := ty) hC.1 hC.2.1 hcell ((hC.2.2.2.2.2.1.1.2 kd _ t2).1 n (fun j => va_rf (if j < n then some (g.2.1 (r0 + j)) else none))) t1 (fun q => by cases q) (by show ¬ (i < 0 ∨ (arrV _ _ _).slots.size ≤ _); rw [arrV_size]; exact hin) ?_ rfl rfl hd (k p e s m args below meth c H locs ls Q hC hR hP hS hL)
  show (arrV _ _ _).slots[_]? = _
  rw [arrV_read _ _ hlt]
  show some (va_rf (if i.toNatClampNeg < n then some (g.2.1 (r0 + i.toNatClampNeg)) else none)) = _
  rw [if_pos hlt]
  rfl
/-! strings, the script, statics -/
theorem q_getK {index i : Nat} {q : String × Nat × String × List Int32} (hd : decode M.2.1 pc = .ok (.getfield index, 3)) (hf : Cond.fieldLink M.1.cls index "java/lang/String" "coder" "B" ∈ vt_tbl) (hi : vt_strs[i]? = some q) (k : TT g R cl sl M X (pc + 3) L (.int 0 :: st) σ P) : TT g R cl sl M X pc L (.ref (g.2.2.2.2.1 i) :: st) σ P := by
  intro p e s m args below meth c H locs ls Q hC hR hP hS hL
  exact vk_getf hC.1 hC.2.1 (hC.2.2.2.2.2.1.2.2.1 i q hi).2.1 hS hC.2.2.2.1 (hC.2.2.2.2.1 _ hf) (fun _ h => h) hd (k p e s m args below meth c H locs ls Q hC hR hP hS hL)
theorem q_getV {index i : Nat} {q : String × Nat × String × List Int32} (hd : decode M.2.1 pc = .ok (.getfield index, 3)) (hf : Cond.fieldLink M.1.cls index "java/lang/String" "value" "[B" ∈ vt_tbl) (hi : vt_strs[i]? = some q) (k : TT g R cl sl M X (pc + 3) L (.ref (g.2.2.2.2.2 i) :: st) σ P) : TT g R cl sl M X pc L (.ref (g.2.2.2.2.1 i) :: st) σ P := by
  intro p e s m args below meth c H locs ls Q hC hR hP hS hL
  exact vk_getf hC.1 hC.2.1 (hC.2.2.2.2.2.1.2.2.1 i q hi).2.2.1 hS hC.2.2.2.1 (hC.2.2.2.2.1 _ hf) (fun _ h => h) hd (k p e s m args below meth c H locs ls Q hC hR hP hS hL)
theorem q_slen {i : Nat} {v : Int32} {q : String × Nat × String × List Int32} (hd : decode M.2.1 pc = .ok (.arraylength, 1)) (hi : vt_strs[i]? = some q) (hv : Int32.ofNat q.2.2.2.length = v) (k : TT g R cl sl M X (pc + 1) L (.int v :: st) σ P) : TT g R cl sl M X pc L (.ref (g.2.2.2.2.2 i) :: st) σ P := by
  intro p e s m args below meth c H locs ls Q hC hR hP hS hL
  exact va_tlen hC.1 hC.2.1 (hC.2.2.2.2.2.1.2.2.1 i q hi).2.2.2 hS hv hd (k p e s m args below meth c H locs ls Q hC hR hP hS hL)
theorem q_sbald {i : Nat} {x : Int32} {q : String × Nat × String × List Int32} (hd : decode M.2.1 pc = .ok (.baload, 1)) (hi : vt_strs[i]? = some q) (hin : vp_in x q.2.2.2.length) (k : TT g R cl sl M X (pc + 1) L (.int (q.2.2.2.getD x.toNatClampNeg 0) :: st) σ P) : TT g R cl sl M X pc L (.int x :: .ref (g.2.2.2.2.2 i) :: st) σ P := by
  intro p e s m args below meth c H locs ls Q hC hR hP hS hL
  exact va_tb hC.1 hC.2.1 (hC.2.2.2.2.2.1.2.2.1 i q hi).2.2.2 hS hin rfl hd (k p e s m args below meth c H locs ls Q hC hR hP hS hL)
theorem q_compact {index : Nat} (hd : decode M.2.1 pc = .ok (.getstatic index, 3)) (hf : Cond.fieldLink M.1.cls index "java/lang/String" "COMPACT_STRINGS" "Z" ∈ vt_tbl) (k : TT g R cl sl M X (pc + 3) L (.int 1 :: st) σ P) : TT g R cl sl M X pc L st σ P := by
  intro p e s m args below meth c H locs ls Q hC hR hP hS hL
  exact va_gets hC.1 hC.2.1 hC.2.2.2.2.2.1.2.2.2.2.1 hS hC.2.2.2.1 (hC.2.2.2.2.1 _ hf) (fun _ h => h) hd (k p e s m args below meth c H locs ls Q hC hR hP hS hL)
theorem q_former {index : Nat} (hd : decode M.2.1 pc = .ok (.getstatic index, 3)) (hf : Cond.fieldLink M.1.cls index "jdk/internal/util/Preconditions" "SIOOBE_FORMATTER" "Ljava/util/function/BiFunction;" ∈ vt_tbl) (k : ∀ q : Nat, TT g R cl sl M X (pc + 3) L (.ref q :: st) σ P) : TT g R cl sl M X pc L st σ P := by
  intro p e s m args below meth c H locs ls Q hC hR hP hS hL
  obtain ⟨q, hq⟩ := hC.2.2.2.2.2.1.2.2.2.2.2
  exact va_gets hC.1 hC.2.1 hq hS hC.2.2.2.1 (hC.2.2.2.2.1 _ hf) (fun _ h => h) hd (k q p e s m args below meth c H locs ls Q hC hR hP hS hL)
theorem q_xald {b N : Nat} {xs : Nat → Int32} {i : Int32} (hX : X = some (b, N, xs)) (hd : decode M.2.1 pc = .ok (.iaload, 1)) (hin : vp_in i N) (k : TT g R cl sl M X (pc + 1) L (.int (xs i.toNatClampNeg) :: st) σ P) : TT g R cl sl M X pc L (.int i :: .ref b :: st) σ P := by
  intro p e s m args below meth c H locs ls Q hC hR hP hS hL
  obtain ⟨h1, h2, h3⟩ := hC.2.2.2.2.2.2 b N xs hX
  exact va_sld hC.1 hC.2.1 h1 h2 h3 hS hin hd (k p e s m args below meth c H locs ls Q hC hR hP hS hL)
theorem q_xlen {b N : Nat} {xs : Nat → Int32} (hX : X = some (b, N, xs)) (hd : decode M.2.1 pc = .ok (.arraylength, 1)) (k : TT g R cl sl M X (pc + 1) L (.int (Int32.ofNat N) :: st) σ P) : TT g R cl sl M X pc L (.ref b :: st) σ P := by
  intro p e s m args below meth c H locs ls Q hC hR hP hS hL
  obtain ⟨h1, h2, h3⟩ := hC.2.2.2.2.2.2 b N xs hX
  exact va_slen hC.1 hC.2.1 h1 h2 h3 hS hd (k p e s m args below meth c H locs ls Q hC hR hP hS hL)
end QH
end
section
/-! CONTRACTS: method D with the arguments As at the contents σ comes to a return with Φ -/
def vt_Q (g : vt_GT) (Φ : Option Value → vt_Sg → Prop) : Array Value → State → Outcome → State → Prop := fun _ st oc t => ∃ (v : Option Value) (σ' : vt_Sg), oc = .returned v ∧ Φ v σ' ∧ vt_P g σ' t.heap ∧ va_F (vt_A g) st t
def vt_M (g : vt_GT) (d : Nat) (D : vt_MD) (As : List Value) (σ : vt_Sg) (Φ : Option Value → vt_Sg → Prop) : Prop :=
  Met g.1 D.1 (vt_ws D) (vt_R d) (va_Pc As (fun U => vt_G g U ∧ vt_P g σ U.heap)) (vt_Q g Φ) 0 0 (vt_A g)
def vt_ok (D : vt_MD) (n : Nat) : Prop := Cond.code D.1 D.2.1 D.2.2.1 D.2.2.2 ∈ vt_tbl ∧ Cond.initialized D.1.cls ∈ vt_tbl ∧ (D.1.cls ≠ "java/lang/invoke/MethodHandle" ∧ D.1.cls ≠ "java/lang/invoke/VarHandle" ∧ (parseMethodDescriptor D.1.desc).map (fun d => d.parameters.length) = some n) ∧ plainName D.1.cls = true ∧ D.2.2.1 ≤ 29
def vt_okV (D : vt_MD) (n : Nat) : Prop := vt_ok D n ∧ Cond.instanceMethod D.1 ∈ vt_tbl ∧ Cond.selects D.1.cls D.1 D.1 ∈ vt_tbl
def vt_okS (D : vt_MD) (n : Nat) : Prop := vt_ok D n ∧ Cond.static D.1 ∈ vt_tbl
theorem vt_M.mono {g : vt_GT} {d : Nat} {D : vt_MD} {As : List Value} {σ : vt_Sg} {Φ Ψ : Option Value → vt_Sg → Prop} (h : vt_M g d D As σ Φ) (hh : ∀ v σ', Φ v σ' → Ψ v σ') : vt_M g d D As σ Ψ := by
  intro p e ha hc hk s m args below hf h1 h2 h3
  obtain ⟨k, o, a1, a2, a3, ⟨v, σ', b1, b2, b3⟩, a5⟩ := h p e ha hc hk s m args below hf h1 h2 h3
  exact ⟨k, o, a1, a2, a3, ⟨v, σ', b1, hh v σ' b2, b3⟩, a5⟩
section QC
variable {g : vt_GT} {R : Room} {cl sl : Nat} {M : vt_MD} {X : vt_XT} {pc : Nat} {L L' : List (Option Value)} {st : List Value} {σ : vt_Sg} {P : Option Value → vt_Sg → Prop}
theorem vt_S_call {s st0 t : State} {H : Heap} {locs L1 : List Loc} (hS : va_S (vt_A g) s.heap H locs) (h0 : st0.heap = H) (hF : va_F (vt_A g) st0 t) (hL : ∀ q ∈ L1, vt_A g q.base) : va_S (vt_A g) s.heap t.heap (locs ++ L1) := by
  subst h0
  refine ⟨Nat.le_trans hS.1 hF.1, fun q h1 h2 => by rw [hF.2 q (Nat.lt_of_lt_of_le h1 hS.1) h2]; exact hS.2.1 q h1 h2, fun q hq => ?_⟩
  rcases List.mem_append.mp hq with h | h
  · exact hS.2.2 q h
  · exact hL q h
theorem vt_blind {As : List Value} : FrameBlind (va_Pc As (fun U => vt_G g U ∧ vt_P g σ U.heap)) := by
  intro a U f mk h
  obtain ⟨h1, h2, h3⟩ := h
  exact ⟨h1, vt_G.same h2 rfl rfl, h3⟩
/-- a world's object as receiver -/
def vt_rcv (g : vt_GT) (C : String) (b : Nat) : Prop := ∀ (σ : vt_Sg) (s : State) (H : Heap) (locs : List Loc), vt_G g s → vt_P g σ H → va_S (vt_A g) s.heap H locs → ∃ cell : Cell, H[b]? = some cell ∧ cell.vm.isStatics = false ∧ s.vm.findClass C = some cell.cls
theorem vt_rcvO {kc ci : Nat} {fl : List (Option Nat)} {q : vw_C} (hk : vt_lay[kc]? = some (.inr (ci, fl))) (hc : vt_cls[ci]? = some q) : vt_rcv g q.1 (g.2.1 kc) := by
  intro σ s H locs hG hP hS
  exact va_recv hG.1 hP hc (vt_W_at (g := g) (σ := σ) hk)
theorem vt_rcvS {i : Nat} {q : String × Nat × String × List Int32} (hi : vt_strs[i]? = some q) : vt_rcv g "java/lang/String" (g.2.2.2.2.1 i) := by
  intro σ s H locs hG hP hS
  obtain ⟨cell, h1, h2, h3, h4⟩ := (hG.2.2.1 i q hi).1
  exact ⟨cell, by rw [hS.2.1 _ (Array.getElem?_eq_some_iff.mp h1).1 h4]; exact h1, h2, h3⟩
theorem q_callV {d index b : Nat} {D : vt_MD} {As rest stk : List Value} {Φ : Option Value → vt_Sg → Prop} (hd : decode M.2.1 pc = .ok (.invokevirtual index, 3)) (hD : vt_okV D As.length) (hl : Cond.methodLink M.1.cls index D.1 ∈ vt_tbl) (hrc : vt_rcv g D.1.cls b)
    (hst : stk = As.reverse ++ .ref b :: rest) (hcat : (rest.map fun v => v.category).sum ≤ 8) (hro : d + 1 ≤ R.frames ∧ 8 + (29 + 11) + 48 * d ≤ R.locals) (hcs : cl ≤ R.cells ∧ sl ≤ R.slots)
    (hM : vt_M g d D (.ref b :: As) σ Φ) (k : ∀ v σ', Φ v σ' → TT g R cl sl M X (pc + 3) L (v.toList ++ rest) σ' P) : TT g R cl sl M X pc L stk σ P := by
  intro p e s m args below meth c H locs ls Q hC hR hP hS hL
  obtain ⟨⟨d1, d2, d3, d4, d5⟩, d6, d7⟩ := hD
  have hG : GoodIn vt_tbl (wsV M.1.cls index D.1.cls D.1 (vt_ws D)) := vt_goodIn (fun w hw => by
    unfold wsV vt_ws at hw
    rcases List.mem_append.mp hw with h | h
    · simp only [List.mem_cons, List.not_mem_nil, or_false] at h
      rcases h with rfl | rfl | rfl | rfl
      · exact hl
      · exact d6
      · exact d7
      · exact d2
    · rcases List.mem_cons.mp h with rfl | h
      · exact d1
      · exact h)
  have run := va_runV (As := As) (rest := rest) (g := F0 m pc ls stk) (H := H) (locs := locs) (cells := cl) (slots := sl) (e := e) (below := below) (meth := meth) (R := R) (cc := M.2.1) (nL := M.2.2.1) ⟨hC.1, hC.2.1, hC.2.2.1, hC.2.2.2.1, hC.2.2.2.2.1⟩ hM
    (cwV (R := R) As.length hC.2.2.2.2.1 hG rfl rfl rfl ⟨rfl, d3⟩ ⟨hro.1, by show 8 + (D.2.2.1 + 11) + 48 * d ≤ _; omega⟩)
    ⟨vt_blind, hrc σ s H locs hC.2.2.2.2.2.1 hP hS, fun U hU hW => ⟨rfl, vt_G.move hC.2.2.2.2.2.1 hW hS hU, by rw [hU]; exact hP⟩⟩ rfl rfl hL.1 hst (lv_room hcat) hd ⟨hcs.1, hcs.2⟩
  intro T hT Xs
  obtain ⟨v, st₀, t, T', Lc, h0, X', hLc, e1, e2, ⟨v', σ', hv, hΦ, hP', hF⟩, stp⟩ := run T hT Xs
  cases hv
  obtain ⟨t2, a1, b1⟩ := k v σ' hΦ p e s m args below meth c T'.heap (locs ++ Lc) ls Q hC hR (by rw [e1]; exact hP') (by rw [e1]; exact vt_S_call hS h0 hF hLc) hL T' rfl X'
  exact ⟨t2, stp t2 a1, b1⟩
theorem q_callS {d index : Nat} {D : vt_MD} {As rest stk : List Value} {Φ : Option Value → vt_Sg → Prop} (hd : decode M.2.1 pc = .ok (.invokestatic index, 3)) (hD : vt_okS D As.length) (hl : Cond.methodLink M.1.cls index D.1 ∈ vt_tbl)
    (hst : stk = As.reverse ++ rest) (hcat : (rest.map fun v => v.category).sum ≤ 8) (hro : d + 1 ≤ R.frames ∧ 8 + (29 + 11) + 48 * d ≤ R.locals) (hcs : cl ≤ R.cells ∧ sl ≤ R.slots)
    (hM : vt_M g d D As σ Φ) (k : ∀ v σ', Φ v σ' → TT g R cl sl M X (pc + 3) L (v.toList ++ rest) σ' P) : TT g R cl sl M X pc L stk σ P := by
  intro p e s m args below meth c H locs ls Q hC hR hP hS hL
  obtain ⟨⟨d1, d2, d3, d4, d5⟩, d6⟩ := hD
  have hG : GoodIn vt_tbl (va_wsS M.1.cls index D.1 (vt_ws D)) := vt_goodIn (fun w hw => by
    unfold va_wsS vt_ws at hw
    rcases List.mem_append.mp hw with h | h
    · simp only [List.mem_cons, List.not_mem_nil, or_false] at h
      rcases h with rfl | rfl | rfl
      · exact hl
      · exact d6
      · exact d2
    · rcases List.mem_cons.mp h with rfl | h
      · exact d1
      · exact h)
  have run := va_runS (As := As) (rest := rest) (g := F0 m pc ls stk) (H := H) (locs := locs) (cells := cl) (slots := sl) (e := e) (below := below) (meth := meth) (R := R) (cc := M.2.1) (nL := M.2.2.1) ⟨hC.1, hC.2.1, hC.2.2.1, hC.2.2.2.1, hC.2.2.2.2.1⟩ hM
    (va_cwS (R := R) As.length hC.2.2.2.2.1 hG rfl rfl rfl d3 ⟨hro.1, by show 8 + (D.2.2.1 + 11) + 48 * d ≤ _; omega⟩)
    ⟨vt_blind, fun U hU hW => ⟨rfl, vt_G.move hC.2.2.2.2.2.1 hW hS hU, by rw [hU]; exact hP⟩⟩ rfl rfl hL.1 hst (lv_room hcat) hd ⟨hcs.1, hcs.2⟩
  intro T hT Xs
  obtain ⟨v, st₀, t, T', Lc, h0, X', hLc, e1, e2, ⟨v', σ', hv, hΦ, hP', hF⟩, stp⟩ := run T hT Xs
  cases hv
  obtain ⟨t2, a1, b1⟩ := k v σ' hΦ p e s m args below meth c T'.heap (locs ++ Lc) ls Q hC hR (by rw [e1]; exact hP') (by rw [e1]; exact vt_S_call hS h0 hF hLc) hL T' rfl X'
  exact ⟨t2, stp t2 a1, b1⟩
end QC
section QD
variable {g : vt_GT} {d : Nat} {M : vt_MD} {X : vt_XT} {pc : Nat} {L L' : List (Option Value)} {st : List Value} {σ : vt_Sg} {P : Option Value → vt_Sg → Prop}
/-- the rows for a method's own room -/
theorem q_cV {d' index b : Nat} {D : vt_MD} (As rest : List Value) {stk : List Value} {Φ : Option Value → vt_Sg → Prop} (hd : decode M.2.1 pc = .ok (.invokevirtual index, 3)) (hD : vt_okV D As.length) (hl : Cond.methodLink M.1.cls index D.1 ∈ vt_tbl) (hrc : vt_rcv g D.1.cls b)
    (hst : stk = As.reverse ++ .ref b :: rest) (hcat : (rest.map fun v => v.category).sum ≤ 8) (hro : d' + 1 ≤ d)
    (hM : vt_M g d' D (.ref b :: As) σ Φ) (k : ∀ v σ', Φ v σ' → TT g (vt_R d) 0 0 M X (pc + 3) L (v.toList ++ rest) σ' P) : TT g (vt_R d) 0 0 M X pc L stk σ P :=
  q_callV hd hD hl hrc hst hcat ⟨hro, by show 8 + (29 + 11) + 48 * d' ≤ 48 * d; omega⟩ ⟨Nat.le_refl _, Nat.le_refl _⟩ hM k
theorem q_cS {d' index : Nat} {D : vt_MD} (As rest : List Value) {stk : List Value} {Φ : Option Value → vt_Sg → Prop} (hd : decode M.2.1 pc = .ok (.invokestatic index, 3)) (hD : vt_okS D As.length) (hl : Cond.methodLink M.1.cls index D.1 ∈ vt_tbl)
    (hst : stk = As.reverse ++ rest) (hcat : (rest.map fun v => v.category).sum ≤ 8) (hro : d' + 1 ≤ d)
    (hM : vt_M g d' D As σ Φ) (k : ∀ v σ', Φ v σ' → TT g (vt_R d) 0 0 M X (pc + 3) L (v.toList ++ rest) σ' P) : TT g (vt_R d) 0 0 M X pc L stk σ P :=
  q_callS hd hD hl hst hcat ⟨hro, by show 8 + (29 + 11) + 48 * d' ≤ 48 * d; omega⟩ ⟨Nat.le_refl _, Nat.le_refl _⟩ hM k
/-- System.arraycopy of numbers of a kind (ints 0, shorts 2) -/
theorem q_copy {index k0 k1 kd n0 n1 : Nat} {sp dp n : Int32} (hd : decode M.2.1 pc = .ok (.invokestatic index, 3)) (hl : Cond.methodLink M.1.cls index arraycopyName ∈ vt_tbl) (hnat : Cond.native arraycopyName ∈ vt_tbl) (hstat : Cond.static arraycopyName ∈ vt_tbl) (hini : Cond.initialized "java/lang/System" ∈ vt_tbl)
    (hk0 : vt_ar k0 kd n0) (hk1 : vt_ar k1 kd n1) (hkd : kd = 0 ∨ kd = 2) (h1 : ¬ sp < 0) (h2 : ¬ dp < 0) (h3 : ¬ n < 0) (h4 : sp.toNatClampNeg + n.toNatClampNeg ≤ n0) (h5 : dp.toNatClampNeg + n.toNatClampNeg ≤ n1) (hfit : kd = 2 → ∀ i, i < n.toNatClampNeg → fits .short (.int (σ k0 (sp.toNatClampNeg + i))) = true)
    (hro : 1 ≤ d) (k : TT g (vt_R d) 0 0 M X (pc + 3) L [] (su σ k1 (va_cpy (σ k0) (σ k1) sp.toNatClampNeg dp.toNatClampNeg n.toNatClampNeg)) P) : TT g (vt_R d) 0 0 M X pc L [.int n, .int dp, .ref (g.2.1 k1), .int sp, .ref (g.2.1 k0)] σ P := by
  intro p e s m args below meth c H locs ls Q hC hR hP hS hL
  obtain ⟨r0, hk0⟩ := hk0
  obtain ⟨r1, hk1⟩ := hk1
  have hty : ∃ ty : FieldType, refKind ty = false ∧ (vt_tys g)[kd]? = some (g.2.2.1 kd, ty) ∧ ∀ i, i < n.toNatClampNeg → fits ty (.int (σ k0 (sp.toNatClampNeg + i))) = true := by
    rcases hkd with rfl | rfl
    · exact ⟨.int, rfl, rfl, fun _ _ => rfl⟩
    · exact ⟨.short, rfl, rfl, hfit rfl⟩
  obtain ⟨ty, t1, t2, t3⟩ := hty
  have hk4 : kd < 4 := by omega
  refine va_copyi (tys := vt_tys g) (rest := []) (R := vt_R d) hC.1 hC.2.1 (by rw [hC.2.2.1, hL.1]) hC.2.2.2.1 (hC.2.2.2.2.1 _ hl) (hC.2.2.2.2.1 _ hnat) (hC.2.2.2.2.1 _ hstat) (hC.2.2.2.2.1 _ hini) hC.2.2.2.2.2.1.1 hP (vt_D hC.2.2.2.2.2.1.2.1 σ) hS k0 k1 kd kd (vt_W_ar hk0 hk4) (vt_W_ar hk1 hk4) t2 t2 t1 h1 h2 h3 h4 h5 t3 hro ?_ hd (fun H1 locs1 hP1 hD1 hS1 => ?_)
  · have e1 : nativeFrameWords "java/lang/System" "arraycopy" 5 + 11 ≤ 48 := by decide +kernel
    show 0 + _ ≤ 48 * d
    omega
  · rw [vt_W_sa hk1 hk4] at hP1
    exact k p e s m args below meth c H1 locs1 ls Q hC hR hP1 hS1 hL
/-- a method's entry -/
theorem vt_meth {D : vt_MD} {n : Nat} {As : List Value} {Φ : Option Value → vt_Sg → Prop} (hD : vt_ok D n) (hcat : ∀ v ∈ As, v.category = 1) (hlen : As.length ≤ D.2.2.1)
    (h : TT g (vt_R d) 0 0 D none 0 (As.map some ++ List.replicate (D.2.2.1 - As.length) none) [] σ Φ) : vt_M g d D As σ Φ := by
  refine Met.ofW (cc := D.2.1) (maxL := D.2.2.1) (ret := D.2.2.2) hD.2.2.2.1 rfl ?_
  intro p e s m args below meth c s₁ B hml hv
  obtain ⟨rfl, hG, hP⟩ := hv
  have hts := atoms_spec (ws := vt_ws D) B.pre
  have hown : s.vm.findClass D.1.cls = some m.cls := findClass_of_methodNamed B.named
  have hlocks := B.notSynchronized
  have hsl : lg_sl As = As.map Slot.val := by
    unfold lg_sl
    clear h hP hG hts hown hlocks B hlen
    induction As with
    | nil => rfl
    | cons a l ih =>
      rw [List.flatMap_cons, ih (fun v hv => hcat v (List.mem_cons_of_mem _ hv)), if_neg (by rw [hcat a List.mem_cons_self]; decide)]
      rfl
  have hl := lv_entry As (n := D.2.2.1) (by rw [hsl, List.length_map]; exact hlen)
  rw [lg_entry_eq]
  refine h p e s m As.toArray below meth c s.heap [] _ _ ⟨B.exec, B.bytes, hml, hown, fun w hw => hts w (List.mem_cons_of_mem _ hw), hG, fun _ _ _ h => by cases h⟩ ?_ hP va_S.rf ?_
  · intro v σ' H' locs' pc' ls' h1 h2 h3 h4
    rcases h4 with ⟨a1, rfl, a3⟩ | ⟨x, ty, a1, rfl, a3, a4⟩
    · exact W.vret B.exec B.bytes (B.returns.trans a1) (fun t ht hW => ⟨none, σ', rfl, h1, by rw [ht]; exact h2, h3.F ht⟩) h3.2.2 a3
    · exact W.zret B.exec B.bytes (B.returns.trans a1) a3 (fun t ht hW => ⟨some (.int x), σ', rfl, h1, by rw [ht]; exact h2, h3.F ht⟩) h3.2.2 a4
  · refine ⟨hl.1, by simp; omega, hl.2.1, fun i v hi => ?_⟩
    rw [hsl]
    by_cases hil : i < As.length
    · rw [List.getElem?_append_left (by rw [List.length_map]; exact hil), List.getElem?_map] at hi
      have h2 : As[i]? = some v := by
        cases ha : As[i]? with
        | none => rw [ha] at hi; cases hi
        | some z => rw [ha] at hi; cases hi; rfl
      rw [List.getElem?_toArray, List.getElem?_append_left (by rw [List.length_map]; exact hil), List.getElem?_map, h2]
      rfl
    · rw [List.getElem?_append_right (by rw [List.length_map]; omega)] at hi
      have := List.eq_of_mem_replicate (List.mem_of_getElem? hi)
      cases this
end QD
end

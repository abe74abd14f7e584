section
-- ===== PART A: goes FIRST, ahead of the names: the tables' words, and 'selects' of the private methods out of them =====
/-- a private method of a class that the tables say can be made, by its rows of tables_1 -/
def lw_okq (q : MethodName × Nat) : Prop := (q.1.cls ≠ "java/lang/invoke/MethodHandle" ∧ q.1.cls ≠ "java/lang/invoke/VarHandle") ∧ Cond.instantiable q.1.cls q.2 ∈ tables_1 ∧ Cond.privateMethod q.1 ∈ tables_1 ∧ Cond.instanceMethod q.1 ∈ tables_1
theorem lw_p0 : lw_okq (⟨"SupperTales$Scroll", "soundInTale", "()I"⟩, 2) := ⟨⟨by decide +kernel, by decide +kernel⟩, List.mem_of_getElem? (i := 22) (by decide +kernel), List.mem_of_getElem? (i := 301) (by decide +kernel), List.mem_of_getElem? (i := 302) (by decide +kernel)⟩
theorem lw_p1 : lw_okq (⟨"SupperTales", "holdAct", "()V"⟩, 17) := ⟨⟨by decide +kernel, by decide +kernel⟩, List.mem_of_getElem? (i := 14) (by decide +kernel), List.mem_of_getElem? (i := 358) (by decide +kernel), List.mem_of_getElem? (i := 359) (by decide +kernel)⟩
theorem lw_p2 : lw_okq (⟨"SupperTales", "refusalOfEnd", "(III)I"⟩, 17) := ⟨⟨by decide +kernel, by decide +kernel⟩, List.mem_of_getElem? (i := 14) (by decide +kernel), List.mem_of_getElem? (i := 500) (by decide +kernel), List.mem_of_getElem? (i := 501) (by decide +kernel)⟩
theorem lw_p3 : lw_okq (⟨"SupperTales", "isEndTold", "(II)Z"⟩, 17) := ⟨⟨by decide +kernel, by decide +kernel⟩, List.mem_of_getElem? (i := 14) (by decide +kernel), List.mem_of_getElem? (i := 504) (by decide +kernel), List.mem_of_getElem? (i := 505) (by decide +kernel)⟩
theorem lw_p4 : lw_okq (⟨"SupperTales$Search", "lastDeedBehind", "(LSupperTales$Telling;III)I"⟩, 6) := ⟨⟨by decide +kernel, by decide +kernel⟩, List.mem_of_getElem? (i := 79) (by decide +kernel), List.mem_of_getElem? (i := 520) (by decide +kernel), List.mem_of_getElem? (i := 521) (by decide +kernel)⟩
theorem lw_p5 : lw_okq (⟨"SupperTales", "isDoneWithout", "(LSupperTales$Scroll;I)Z"⟩, 17) := ⟨⟨by decide +kernel, by decide +kernel⟩, List.mem_of_getElem? (i := 14) (by decide +kernel), List.mem_of_getElem? (i := 548) (by decide +kernel), List.mem_of_getElem? (i := 549) (by decide +kernel)⟩
theorem lw_p6 : lw_okq (⟨"SupperTales$Chooser", "follow", "(LSupperTales$Scroll;II)V"⟩, 5) := ⟨⟨by decide +kernel, by decide +kernel⟩, List.mem_of_getElem? (i := 109) (by decide +kernel), List.mem_of_getElem? (i := 573) (by decide +kernel), List.mem_of_getElem? (i := 574) (by decide +kernel)⟩
theorem lw_p7 : lw_okq (⟨"SupperTales$Chooser", "isSettled", "()Z"⟩, 5) := ⟨⟨by decide +kernel, by decide +kernel⟩, List.mem_of_getElem? (i := 109) (by decide +kernel), List.mem_of_getElem? (i := 580) (by decide +kernel), List.mem_of_getElem? (i := 581) (by decide +kernel)⟩
theorem lw_p8 : lw_okq (⟨"SupperTales$Chooser", "followDoer", "(LSupperTales$Scroll;III)V"⟩, 5) := ⟨⟨by decide +kernel, by decide +kernel⟩, List.mem_of_getElem? (i := 109) (by decide +kernel), List.mem_of_getElem? (i := 585) (by decide +kernel), List.mem_of_getElem? (i := 586) (by decide +kernel)⟩
theorem lw_p9 : lw_okq (⟨"SupperTales", "isProverb", "(LSupperTales$Scroll;)Z"⟩, 17) := ⟨⟨by decide +kernel, by decide +kernel⟩, List.mem_of_getElem? (i := 14) (by decide +kernel), List.mem_of_getElem? (i := 609) (by decide +kernel), List.mem_of_getElem? (i := 610) (by decide +kernel)⟩
theorem lw_p10 : lw_okq (⟨"SupperTales", "meanAsSupposed", "(I)I"⟩, 17) := ⟨⟨by decide +kernel, by decide +kernel⟩, List.mem_of_getElem? (i := 14) (by decide +kernel), List.mem_of_getElem? (i := 635) (by decide +kernel), List.mem_of_getElem? (i := 636) (by decide +kernel)⟩
theorem lw_p11 : lw_okq (⟨"SupperTales", "restsInAll", "()I"⟩, 17) := ⟨⟨by decide +kernel, by decide +kernel⟩, List.mem_of_getElem? (i := 14) (by decide +kernel), List.mem_of_getElem? (i := 653) (by decide +kernel), List.mem_of_getElem? (i := 654) (by decide +kernel)⟩
theorem lw_p12 : lw_okq (⟨"SupperTales", "isRest", "(II)Z"⟩, 17) := ⟨⟨by decide +kernel, by decide +kernel⟩, List.mem_of_getElem? (i := 14) (by decide +kernel), List.mem_of_getElem? (i := 657) (by decide +kernel), List.mem_of_getElem? (i := 658) (by decide +kernel)⟩
theorem lw_p13 : lw_okq (⟨"SupperTales", "firstRest", "()I"⟩, 17) := ⟨⟨by decide +kernel, by decide +kernel⟩, List.mem_of_getElem? (i := 14) (by decide +kernel), List.mem_of_getElem? (i := 661) (by decide +kernel), List.mem_of_getElem? (i := 662) (by decide +kernel)⟩
theorem lw_p14 : lw_okq (⟨"SupperTales", "talesThatFit", "()I"⟩, 17) := ⟨⟨by decide +kernel, by decide +kernel⟩, List.mem_of_getElem? (i := 14) (by decide +kernel), List.mem_of_getElem? (i := 694) (by decide +kernel), List.mem_of_getElem? (i := 695) (by decide +kernel)⟩
theorem lw_p15 : lw_okq (⟨"SupperTales", "drawTale", "()I"⟩, 17) := ⟨⟨by decide +kernel, by decide +kernel⟩, List.mem_of_getElem? (i := 14) (by decide +kernel), List.mem_of_getElem? (i := 723) (by decide +kernel), List.mem_of_getElem? (i := 724) (by decide +kernel)⟩
def lw_privs_1 : List (MethodName × Nat) := [(⟨"SupperTales$Scroll", "soundInTale", "()I"⟩, 2), (⟨"SupperTales", "holdAct", "()V"⟩, 17), (⟨"SupperTales", "refusalOfEnd", "(III)I"⟩, 17), (⟨"SupperTales", "isEndTold", "(II)Z"⟩, 17), (⟨"SupperTales$Search", "lastDeedBehind", "(LSupperTales$Telling;III)I"⟩, 6), (⟨"SupperTales", "isDoneWithout", "(LSupperTales$Scroll;I)Z"⟩, 17), (⟨"SupperTales$Chooser", "follow", "(LSupperTales$Scroll;II)V"⟩, 5), (⟨"SupperTales$Chooser", "isSettled", "()Z"⟩, 5), (⟨"SupperTales$Chooser", "followDoer", "(LSupperTales$Scroll;III)V"⟩, 5), (⟨"SupperTales", "isProverb", "(LSupperTales$Scroll;)Z"⟩, 17), (⟨"SupperTales", "meanAsSupposed", "(I)I"⟩, 17), (⟨"SupperTales", "restsInAll", "()I"⟩, 17), (⟨"SupperTales", "isRest", "(II)Z"⟩, 17), (⟨"SupperTales", "firstRest", "()I"⟩, 17), (⟨"SupperTales", "talesThatFit", "()I"⟩, 17), (⟨"SupperTales", "drawTale", "()I"⟩, 17)]
theorem lw_r1 : ∀ q ∈ lw_privs_1, lw_okq q := List.forall_mem_cons.mpr ⟨lw_p0, List.forall_mem_cons.mpr ⟨lw_p1, List.forall_mem_cons.mpr ⟨lw_p2, List.forall_mem_cons.mpr ⟨lw_p3, List.forall_mem_cons.mpr ⟨lw_p4, List.forall_mem_cons.mpr ⟨lw_p5, List.forall_mem_cons.mpr ⟨lw_p6, List.forall_mem_cons.mpr ⟨lw_p7, List.forall_mem_cons.mpr ⟨lw_p8, List.forall_mem_cons.mpr ⟨lw_p9, List.forall_mem_cons.mpr ⟨lw_p10, List.forall_mem_cons.mpr ⟨lw_p11, List.forall_mem_cons.mpr ⟨lw_p12, List.forall_mem_cons.mpr ⟨lw_p13, List.forall_mem_cons.mpr ⟨lw_p14, List.forall_mem_cons.mpr ⟨lw_p15, fun _ h => absurd h List.not_mem_nil⟩⟩⟩⟩⟩⟩⟩⟩⟩⟩⟩⟩⟩⟩⟩⟩
theorem lw_p16 : lw_okq (⟨"SupperTales", "lettersOfTales", "()I"⟩, 17) := ⟨⟨by decide +kernel, by decide +kernel⟩, List.mem_of_getElem? (i := 14) (by decide +kernel), List.mem_of_getElem? (i := 757) (by decide +kernel), List.mem_of_getElem? (i := 758) (by decide +kernel)⟩
theorem lw_p17 : lw_okq (⟨"SupperTalesModel", "fits", "(I)Z"⟩, 21) := ⟨⟨by decide +kernel, by decide +kernel⟩, List.mem_of_getElem? (i := 761) (by decide +kernel), List.mem_of_getElem? (i := 848) (by decide +kernel), List.mem_of_getElem? (i := 849) (by decide +kernel)⟩
theorem lw_p18 : lw_okq (⟨"SupperTalesModel", "slipOf", "(I)I"⟩, 21) := ⟨⟨by decide +kernel, by decide +kernel⟩, List.mem_of_getElem? (i := 761) (by decide +kernel), List.mem_of_getElem? (i := 878) (by decide +kernel), List.mem_of_getElem? (i := 879) (by decide +kernel)⟩
theorem lw_p19 : lw_okq (⟨"SupperTalesModel", "isGuest", "(I)Z"⟩, 21) := ⟨⟨by decide +kernel, by decide +kernel⟩, List.mem_of_getElem? (i := 761) (by decide +kernel), List.mem_of_getElem? (i := 889) (by decide +kernel), List.mem_of_getElem? (i := 890) (by decide +kernel)⟩
theorem lw_p20 : lw_okq (⟨"SupperTalesModel", "bearsAt", "(II)I"⟩, 21) := ⟨⟨by decide +kernel, by decide +kernel⟩, List.mem_of_getElem? (i := 761) (by decide +kernel), List.mem_of_getElem? (i := 898) (by decide +kernel), List.mem_of_getElem? (i := 899) (by decide +kernel)⟩
theorem lw_p21 : lw_okq (⟨"SupperTalesModel", "keepAct", "()V"⟩, 21) := ⟨⟨by decide +kernel, by decide +kernel⟩, List.mem_of_getElem? (i := 761) (by decide +kernel), List.mem_of_getElem? (i := 909) (by decide +kernel), List.mem_of_getElem? (i := 910) (by decide +kernel)⟩
theorem lw_p22 : lw_okq (⟨"SupperTalesModel", "tellOn", "(III)I"⟩, 21) := ⟨⟨by decide +kernel, by decide +kernel⟩, List.mem_of_getElem? (i := 761) (by decide +kernel), List.mem_of_getElem? (i := 913) (by decide +kernel), List.mem_of_getElem? (i := 914) (by decide +kernel)⟩
theorem lw_p23 : lw_okq (⟨"SupperTalesModel", "dusk", "(I)V"⟩, 21) := ⟨⟨by decide +kernel, by decide +kernel⟩, List.mem_of_getElem? (i := 761) (by decide +kernel), List.mem_of_getElem? (i := 917) (by decide +kernel), List.mem_of_getElem? (i := 918) (by decide +kernel)⟩
theorem lw_p24 : lw_okq (⟨"SupperTalesModel", "deeds", "(I)I"⟩, 21) := ⟨⟨by decide +kernel, by decide +kernel⟩, List.mem_of_getElem? (i := 761) (by decide +kernel), List.mem_of_getElem? (i := 921) (by decide +kernel), List.mem_of_getElem? (i := 922) (by decide +kernel)⟩
theorem lw_p25 : lw_okq (⟨"SupperTalesModel", "deedOf", "(II)I"⟩, 21) := ⟨⟨by decide +kernel, by decide +kernel⟩, List.mem_of_getElem? (i := 761) (by decide +kernel), List.mem_of_getElem? (i := 925) (by decide +kernel), List.mem_of_getElem? (i := 926) (by decide +kernel)⟩
theorem lw_p26 : lw_okq (⟨"SupperTalesModel", "deed", "(II)Z"⟩, 21) := ⟨⟨by decide +kernel, by decide +kernel⟩, List.mem_of_getElem? (i := 761) (by decide +kernel), List.mem_of_getElem? (i := 929) (by decide +kernel), List.mem_of_getElem? (i := 930) (by decide +kernel)⟩
theorem lw_p27 : lw_okq (⟨"SupperTalesModel", "strong", "(II)I"⟩, 21) := ⟨⟨by decide +kernel, by decide +kernel⟩, List.mem_of_getElem? (i := 761) (by decide +kernel), List.mem_of_getElem? (i := 933) (by decide +kernel), List.mem_of_getElem? (i := 934) (by decide +kernel)⟩
theorem lw_p28 : lw_okq (⟨"SupperTalesModel", "act", "(IIII)Z"⟩, 21) := ⟨⟨by decide +kernel, by decide +kernel⟩, List.mem_of_getElem? (i := 761) (by decide +kernel), List.mem_of_getElem? (i := 940) (by decide +kernel), List.mem_of_getElem? (i := 941) (by decide +kernel)⟩
theorem lw_p29 : lw_okq (⟨"SupperTalesModel", "lay", "(II)V"⟩, 21) := ⟨⟨by decide +kernel, by decide +kernel⟩, List.mem_of_getElem? (i := 761) (by decide +kernel), List.mem_of_getElem? (i := 956) (by decide +kernel), List.mem_of_getElem? (i := 957) (by decide +kernel)⟩
theorem lw_p30 : lw_okq (⟨"SupperTalesModel", "dead", "(I)I"⟩, 21) := ⟨⟨by decide +kernel, by decide +kernel⟩, List.mem_of_getElem? (i := 761) (by decide +kernel), List.mem_of_getElem? (i := 960) (by decide +kernel), List.mem_of_getElem? (i := 961) (by decide +kernel)⟩
theorem lw_p31 : lw_okq (⟨"SupperTalesModel", "allCoins", "(I)I"⟩, 21) := ⟨⟨by decide +kernel, by decide +kernel⟩, List.mem_of_getElem? (i := 761) (by decide +kernel), List.mem_of_getElem? (i := 964) (by decide +kernel), List.mem_of_getElem? (i := 965) (by decide +kernel)⟩
def lw_privs_2 : List (MethodName × Nat) := [(⟨"SupperTales", "lettersOfTales", "()I"⟩, 17), (⟨"SupperTalesModel", "fits", "(I)Z"⟩, 21), (⟨"SupperTalesModel", "slipOf", "(I)I"⟩, 21), (⟨"SupperTalesModel", "isGuest", "(I)Z"⟩, 21), (⟨"SupperTalesModel", "bearsAt", "(II)I"⟩, 21), (⟨"SupperTalesModel", "keepAct", "()V"⟩, 21), (⟨"SupperTalesModel", "tellOn", "(III)I"⟩, 21), (⟨"SupperTalesModel", "dusk", "(I)V"⟩, 21), (⟨"SupperTalesModel", "deeds", "(I)I"⟩, 21), (⟨"SupperTalesModel", "deedOf", "(II)I"⟩, 21), (⟨"SupperTalesModel", "deed", "(II)Z"⟩, 21), (⟨"SupperTalesModel", "strong", "(II)I"⟩, 21), (⟨"SupperTalesModel", "act", "(IIII)Z"⟩, 21), (⟨"SupperTalesModel", "lay", "(II)V"⟩, 21), (⟨"SupperTalesModel", "dead", "(I)I"⟩, 21), (⟨"SupperTalesModel", "allCoins", "(I)I"⟩, 21)]
theorem lw_r2 : ∀ q ∈ lw_privs_2, lw_okq q := List.forall_mem_cons.mpr ⟨lw_p16, List.forall_mem_cons.mpr ⟨lw_p17, List.forall_mem_cons.mpr ⟨lw_p18, List.forall_mem_cons.mpr ⟨lw_p19, List.forall_mem_cons.mpr ⟨lw_p20, List.forall_mem_cons.mpr ⟨lw_p21, List.forall_mem_cons.mpr ⟨lw_p22, List.forall_mem_cons.mpr ⟨lw_p23, List.forall_mem_cons.mpr ⟨lw_p24, List.forall_mem_cons.mpr ⟨lw_p25, List.forall_mem_cons.mpr ⟨lw_p26, List.forall_mem_cons.mpr ⟨lw_p27, List.forall_mem_cons.mpr ⟨lw_p28, List.forall_mem_cons.mpr ⟨lw_p29, List.forall_mem_cons.mpr ⟨lw_p30, List.forall_mem_cons.mpr ⟨lw_p31, fun _ h => absurd h List.not_mem_nil⟩⟩⟩⟩⟩⟩⟩⟩⟩⟩⟩⟩⟩⟩⟩⟩
theorem lw_p32 : lw_okq (⟨"SupperTalesModel", "refusedEnd", "(III)I"⟩, 21) := ⟨⟨by decide +kernel, by decide +kernel⟩, List.mem_of_getElem? (i := 761) (by decide +kernel), List.mem_of_getElem? (i := 976) (by decide +kernel), List.mem_of_getElem? (i := 977) (by decide +kernel)⟩
theorem lw_p33 : lw_okq (⟨"SupperTalesModel", "layShortest", "(III)I"⟩, 21) := ⟨⟨by decide +kernel, by decide +kernel⟩, List.mem_of_getElem? (i := 761) (by decide +kernel), List.mem_of_getElem? (i := 981) (by decide +kernel), List.mem_of_getElem? (i := 982) (by decide +kernel)⟩
theorem lw_p34 : lw_okq (⟨"SupperTalesModel", "ends", "(IIII)Z"⟩, 21) := ⟨⟨by decide +kernel, by decide +kernel⟩, List.mem_of_getElem? (i := 761) (by decide +kernel), List.mem_of_getElem? (i := 985) (by decide +kernel), List.mem_of_getElem? (i := 986) (by decide +kernel)⟩
theorem lw_p35 : lw_okq (⟨"SupperTalesModel", "choose", "(III)Z"⟩, 21) := ⟨⟨by decide +kernel, by decide +kernel⟩, List.mem_of_getElem? (i := 761) (by decide +kernel), List.mem_of_getElem? (i := 1007) (by decide +kernel), List.mem_of_getElem? (i := 1008) (by decide +kernel)⟩
theorem lw_p36 : lw_okq (⟨"SupperTalesModel", "meanBy", "(II)I"⟩, 21) := ⟨⟨by decide +kernel, by decide +kernel⟩, List.mem_of_getElem? (i := 761) (by decide +kernel), List.mem_of_getElem? (i := 1028) (by decide +kernel), List.mem_of_getElem? (i := 1029) (by decide +kernel)⟩
theorem lw_p37 : lw_okq (⟨"SupperTalesModel", "meanOf", "(I)I"⟩, 21) := ⟨⟨by decide +kernel, by decide +kernel⟩, List.mem_of_getElem? (i := 761) (by decide +kernel), List.mem_of_getElem? (i := 1032) (by decide +kernel), List.mem_of_getElem? (i := 1033) (by decide +kernel)⟩
theorem lw_p38 : lw_okq (⟨"SupperTalesModel", "meanWith", "(IIIII)I"⟩, 21) := ⟨⟨by decide +kernel, by decide +kernel⟩, List.mem_of_getElem? (i := 761) (by decide +kernel), List.mem_of_getElem? (i := 1044) (by decide +kernel), List.mem_of_getElem? (i := 1045) (by decide +kernel)⟩
theorem lw_p39 : lw_okq (⟨"SupperTalesModel", "note", "(II)I"⟩, 21) := ⟨⟨by decide +kernel, by decide +kernel⟩, List.mem_of_getElem? (i := 761) (by decide +kernel), List.mem_of_getElem? (i := 1052) (by decide +kernel), List.mem_of_getElem? (i := 1053) (by decide +kernel)⟩
theorem lw_p40 : lw_okq (⟨"SupperTalesModel", "isSeen", "(I)Z"⟩, 21) := ⟨⟨by decide +kernel, by decide +kernel⟩, List.mem_of_getElem? (i := 761) (by decide +kernel), List.mem_of_getElem? (i := 1070) (by decide +kernel), List.mem_of_getElem? (i := 1071) (by decide +kernel)⟩
def lw_privs_3 : List (MethodName × Nat) := [(⟨"SupperTalesModel", "refusedEnd", "(III)I"⟩, 21), (⟨"SupperTalesModel", "layShortest", "(III)I"⟩, 21), (⟨"SupperTalesModel", "ends", "(IIII)Z"⟩, 21), (⟨"SupperTalesModel", "choose", "(III)Z"⟩, 21), (⟨"SupperTalesModel", "meanBy", "(II)I"⟩, 21), (⟨"SupperTalesModel", "meanOf", "(I)I"⟩, 21), (⟨"SupperTalesModel", "meanWith", "(IIIII)I"⟩, 21), (⟨"SupperTalesModel", "note", "(II)I"⟩, 21), (⟨"SupperTalesModel", "isSeen", "(I)Z"⟩, 21)]
theorem lw_r3 : ∀ q ∈ lw_privs_3, lw_okq q := List.forall_mem_cons.mpr ⟨lw_p32, List.forall_mem_cons.mpr ⟨lw_p33, List.forall_mem_cons.mpr ⟨lw_p34, List.forall_mem_cons.mpr ⟨lw_p35, List.forall_mem_cons.mpr ⟨lw_p36, List.forall_mem_cons.mpr ⟨lw_p37, List.forall_mem_cons.mpr ⟨lw_p38, List.forall_mem_cons.mpr ⟨lw_p39, List.forall_mem_cons.mpr ⟨lw_p40, fun _ h => absurd h List.not_mem_nil⟩⟩⟩⟩⟩⟩⟩⟩⟩
def lw_privs : List (MethodName × Nat) := lw_privs_1 ++ (lw_privs_2 ++ (lw_privs_3))
def lw_tbl : List Cond := k2_sels lw_privs ++ tables_1
theorem lw_privs_ok : ∀ q ∈ lw_privs, lw_okq q := by
  show ∀ q ∈ lw_privs_1 ++ (lw_privs_2 ++ (lw_privs_3)), lw_okq q
  exact List.forall_mem_append.mpr ⟨lw_r1, List.forall_mem_append.mpr ⟨lw_r2, lw_r3⟩⟩
end
section
def RX0 : String := "SupperTales$Chooser"
def TX0 : u_T := fun k => match k with
  | 0 => ("SupperTales$Chooser", "steps", "[LSupperTales$Telling;", true)
  | 1 => ("SupperTales$Chooser", "all", "Z", false)
  | 2 => ("SupperTales$Chooser", "deadBySome", "I", false)
  | 3 => ("SupperTales$Chooser", "deadByAll", "I", false)
  | _ => ("SupperTales$Chooser", "deadBefore", "I", false)
def tyX0 : Nat → FieldType := fun k => match k with
  | 0 => .array (.object "SupperTales$Telling")
  | 1 => .boolean
  | 2 => .int
  | 3 => .int
  | _ => .int
theorem nmX0 : ∀ a, a < 5 → ∀ b, b < 5 → a ≠ b → (TX0 a).2.1 ≠ (TX0 b).2.1 := by decide +kernel
theorem tyX0_ok : ∀ k, k < 5 → parseFieldDescriptor (TX0 k).2.2.1 = some (tyX0 k) := by decide +kernel
abbrev cX0_init : ByteArray := prog_2_method_1_code
def yX0_init : MethodName := ⟨RX0, "<init>", "()V"⟩
abbrev cX0_deadBy : ByteArray := prog_2_method_2_code
def yX0_deadBy : MethodName := ⟨RX0, "deadBy", "(LSupperTales$House;LSupperTales$Scroll;Z)I"⟩
abbrev cX0_deedsToLastKilling : ByteArray := prog_2_method_3_code
def yX0_deedsToLastKilling : MethodName := ⟨RX0, "deedsToLastKilling", "(LSupperTales$Scroll;)I"⟩
abbrev cX0_isSettled : ByteArray := prog_2_method_4_code
def yX0_isSettled : MethodName := ⟨RX0, "isSettled", "()Z"⟩
abbrev cX0_follow : ByteArray := prog_2_method_5_code
def yX0_follow : MethodName := ⟨RX0, "follow", "(LSupperTales$Scroll;II)V"⟩
abbrev cX0_followDoer : ByteArray := prog_2_method_6_code
def yX0_followDoer : MethodName := ⟨RX0, "followDoer", "(LSupperTales$Scroll;III)V"⟩
def RX1 : String := "SupperTales$House"
def TX1 : u_T := fun k => match k with
  | 0 => ("SupperTales$House", "cells", "[I", true)
  | 1 => ("SupperTales$House", "powers", "[I", true)
  | _ => ("SupperTales$House", "guests", "I", false)
def tyX1 : Nat → FieldType := fun k => match k with
  | 0 => .array .int
  | 1 => .array .int
  | _ => .int
theorem nmX1 : ∀ a, a < 3 → ∀ b, b < 3 → a ≠ b → (TX1 a).2.1 ≠ (TX1 b).2.1 := by decide +kernel
theorem tyX1_ok : ∀ k, k < 3 → parseFieldDescriptor (TX1 k).2.2.1 = some (tyX1 k) := by decide +kernel
abbrev cX1_init : ByteArray := prog_3_method_1_code
def yX1_init : MethodName := ⟨RX1, "<init>", "()V"⟩
abbrev cX1_settle : ByteArray := prog_3_method_2_code
def yX1_settle : MethodName := ⟨RX1, "settle", "(LSupperTales$Scroll;)V"⟩
abbrev cX1_copyFrom : ByteArray := prog_3_method_3_code
def yX1_copyFrom : MethodName := ⟨RX1, "copyFrom", "(LSupperTales$House;)V"⟩
abbrev cX1_becomeDawnOf : ByteArray := prog_3_method_4_code
def yX1_becomeDawnOf : MethodName := ⟨RX1, "becomeDawnOf", "(LSupperTales$House;)V"⟩
abbrev cX1_size : ByteArray := prog_3_method_5_code
def yX1_size : MethodName := ⟨RX1, "size", "()I"⟩
abbrev cX1_has : ByteArray := prog_3_method_6_code
def yX1_has : MethodName := ⟨RX1, "has", "(I)Z"⟩
abbrev cX1_nameOf : ByteArray := prog_3_method_7_code
def yX1_nameOf : MethodName := ⟨RX1, "nameOf", "(I)I"⟩
abbrev cX1_purseOf : ByteArray := prog_3_method_8_code
def yX1_purseOf : MethodName := ⟨RX1, "purseOf", "(I)I"⟩
abbrev cX1_spouseOf : ByteArray := prog_3_method_9_code
def yX1_spouseOf : MethodName := ⟨RX1, "spouseOf", "(I)I"⟩
abbrev cX1_powerOf : ByteArray := prog_3_method_10_code
def yX1_powerOf : MethodName := ⟨RX1, "powerOf", "(I)I"⟩
abbrev cX1_lives : ByteArray := prog_3_method_11_code
def yX1_lives : MethodName := ⟨RX1, "lives", "(I)Z"⟩
abbrev cX1_worthOf : ByteArray := prog_3_method_12_code
def yX1_worthOf : MethodName := ⟨RX1, "worthOf", "(I)I"⟩
abbrev cX1_everyone : ByteArray := prog_3_method_13_code
def yX1_everyone : MethodName := ⟨RX1, "everyone", "()I"⟩
abbrev cX1_living : ByteArray := prog_3_method_14_code
def yX1_living : MethodName := ⟨RX1, "living", "()I"⟩
abbrev cX1_dead : ByteArray := prog_3_method_15_code
def yX1_dead : MethodName := ⟨RX1, "dead", "()I"⟩
abbrev cX1_nightsPast : ByteArray := prog_3_method_16_code
def yX1_nightsPast : MethodName := ⟨RX1, "nightsPast", "()I"⟩
abbrev cX1_wedded : ByteArray := prog_3_method_17_code
def yX1_wedded : MethodName := ⟨RX1, "wedded", "()I"⟩
abbrev cX1_coinsOfAll : ByteArray := prog_3_method_18_code
def yX1_coinsOfAll : MethodName := ⟨RX1, "coinsOfAll", "()I"⟩
abbrev cX1_bearing : ByteArray := prog_3_method_19_code
def yX1_bearing : MethodName := ⟨RX1, "bearing", "(I)I"⟩
abbrev cX1_namesBorne : ByteArray := prog_3_method_20_code
def yX1_namesBorne : MethodName := ⟨RX1, "namesBorne", "()I"⟩
abbrev cX1_rename : ByteArray := prog_3_method_21_code
def yX1_rename : MethodName := ⟨RX1, "rename", "(II)V"⟩
abbrev cX1_payFine : ByteArray := prog_3_method_22_code
def yX1_payFine : MethodName := ⟨RX1, "payFine", "(I)V"⟩
abbrev cX1_handCoin : ByteArray := prog_3_method_23_code
def yX1_handCoin : MethodName := ⟨RX1, "handCoin", "(II)Z"⟩
abbrev cX1_join : ByteArray := prog_3_method_24_code
def yX1_join : MethodName := ⟨RX1, "join", "(II)Z"⟩
abbrev cX1_bury : ByteArray := prog_3_method_25_code
def yX1_bury : MethodName := ⟨RX1, "bury", "(I)V"⟩
abbrev cX1_isLike : ByteArray := prog_3_method_26_code
def yX1_isLike : MethodName := ⟨RX1, "isLike", "(LSupperTales$House;)Z"⟩
abbrev cX1_isLikeRow : ByteArray := prog_3_method_27_code
def yX1_isLikeRow : MethodName := ⟨RX1, "isLikeRow", "([II)Z"⟩
abbrev cX1_copyToRow : ByteArray := prog_3_method_28_code
def yX1_copyToRow : MethodName := ⟨RX1, "copyToRow", "([II)V"⟩
abbrev cX1_copyFromRow : ByteArray := prog_3_method_29_code
def yX1_copyFromRow : MethodName := ⟨RX1, "copyFromRow", "([II)V"⟩
def RX2 : String := "SupperTales$Scroll"
def TX2 : u_T := fun k => match k with
  | 0 => ("SupperTales$Scroll", "letters", "[I", true)
  | _ => ("SupperTales$Scroll", "size", "I", false)
def tyX2 : Nat → FieldType := fun k => match k with
  | 0 => .array .int
  | _ => .int
theorem nmX2 : ∀ a, a < 2 → ∀ b, b < 2 → a ≠ b → (TX2 a).2.1 ≠ (TX2 b).2.1 := by decide +kernel
theorem tyX2_ok : ∀ k, k < 2 → parseFieldDescriptor (TX2 k).2.2.1 = some (tyX2 k) := by decide +kernel
abbrev cX2_init : ByteArray := prog_4_method_1_code
def yX2_init : MethodName := ⟨RX2, "<init>", "()V"⟩
abbrev cX2_length : ByteArray := prog_4_method_2_code
def yX2_length : MethodName := ⟨RX2, "length", "()I"⟩
abbrev cX2_isFull : ByteArray := prog_4_method_3_code
def yX2_isFull : MethodName := ⟨RX2, "isFull", "()Z"⟩
abbrev cX2_add : ByteArray := prog_4_method_4_code
def yX2_add : MethodName := ⟨RX2, "add", "(I)I"⟩
abbrev cX2_empty : ByteArray := prog_4_method_5_code
def yX2_empty : MethodName := ⟨RX2, "empty", "()I"⟩
abbrev cX2_letterAt : ByteArray := prog_4_method_6_code
def yX2_letterAt : MethodName := ⟨RX2, "letterAt", "(I)I"⟩
abbrev cX2_innFault : ByteArray := prog_4_method_7_code
def yX2_innFault : MethodName := ⟨RX2, "innFault", "()I"⟩
abbrev cX2_taleFault : ByteArray := prog_4_method_8_code
def yX2_taleFault : MethodName := ⟨RX2, "taleFault", "()I"⟩
abbrev cX2_wholeDeeds : ByteArray := prog_4_method_9_code
def yX2_wholeDeeds : MethodName := ⟨RX2, "wholeDeeds", "()I"⟩
abbrev cX2_deedAt : ByteArray := prog_4_method_10_code
def yX2_deedAt : MethodName := ⟨RX2, "deedAt", "(I)I"⟩
abbrev cX2_soundInTale : ByteArray := prog_4_method_11_code
def yX2_soundInTale : MethodName := ⟨RX2, "soundInTale", "()I"⟩
abbrev cX2_fitsInn : ByteArray := prog_4_method_12_code
def yX2_fitsInn : MethodName := ⟨RX2, "fitsInn", "(II)Z"⟩
abbrev cX2_fitsTale : ByteArray := prog_4_method_13_code
def yX2_fitsTale : MethodName := ⟨RX2, "fitsTale", "(II)Z"⟩
abbrev cX2_isNameLetter : ByteArray := prog_4_method_14_code
def yX2_isNameLetter : MethodName := ⟨RX2, "isNameLetter", "(I)Z"⟩
abbrev cX2_kindOfLetter : ByteArray := prog_4_method_15_code
def yX2_kindOfLetter : MethodName := ⟨RX2, "kindOfLetter", "(I)I"⟩
def RX3 : String := "SupperTales$Search"
def TX3 : u_T := fun k => match k with
  | 0 => ("SupperTales$Search", "now", "LSupperTales$Telling;", true)
  | 1 => ("SupperTales$Search", "behindFirst", "LSupperTales$Telling;", true)
  | 2 => ("SupperTales$Search", "behindLast", "LSupperTales$Telling;", true)
  | 3 => ("SupperTales$Search", "length", "I", false)
  | 4 => ("SupperTales$Search", "first", "I", false)
  | _ => ("SupperTales$Search", "second", "I", false)
def tyX3 : Nat → FieldType := fun k => match k with
  | 0 => .object "SupperTales$Telling"
  | 1 => .object "SupperTales$Telling"
  | 2 => .object "SupperTales$Telling"
  | 3 => .int
  | 4 => .int
  | _ => .int
theorem nmX3 : ∀ a, a < 6 → ∀ b, b < 6 → a ≠ b → (TX3 a).2.1 ≠ (TX3 b).2.1 := by decide +kernel
theorem tyX3_ok : ∀ k, k < 6 → parseFieldDescriptor (TX3 k).2.2.1 = some (tyX3 k) := by decide +kernel
abbrev cX3_init : ByteArray := prog_5_method_1_code
def yX3_init : MethodName := ⟨RX3, "<init>", "()V"⟩
abbrev cX3_seek : ByteArray := prog_5_method_2_code
def yX3_seek : MethodName := ⟨RX3, "seek", "(LSupperTales$House;III)V"⟩
abbrev cX3_lastDeedBehind : ByteArray := prog_5_method_3_code
def yX3_lastDeedBehind : MethodName := ⟨RX3, "lastDeedBehind", "(LSupperTales$Telling;III)I"⟩
abbrev cX3_isEnd : ByteArray := prog_5_method_4_code
def yX3_isEnd : MethodName := ⟨RX3, "isEnd", "(LSupperTales$House;III)Z"⟩
def RX4 : String := "SupperTales$Shelf"
def TX4 : u_T := fun k => match k with
  | _ => ("SupperTales$Shelf", "row", "[I", true)
def tyX4 : Nat → FieldType := fun k => match k with
  | _ => .array .int
theorem nmX4 : ∀ a, a < 1 → ∀ b, b < 1 → a ≠ b → (TX4 a).2.1 ≠ (TX4 b).2.1 := by decide +kernel
theorem tyX4_ok : ∀ k, k < 1 → parseFieldDescriptor (TX4 k).2.2.1 = some (tyX4 k) := by decide +kernel
abbrev cX4_init : ByteArray := prog_6_method_1_code
def yX4_init : MethodName := ⟨RX4, "<init>", "(I)V"⟩
abbrev cX4_put : ByteArray := prog_6_method_2_code
def yX4_put : MethodName := ⟨RX4, "put", "(ILSupperTales$House;)V"⟩
abbrev cX4_fetch : ByteArray := prog_6_method_3_code
def yX4_fetch : MethodName := ⟨RX4, "fetch", "(ILSupperTales$House;)V"⟩
abbrev cX4_firstLike : ByteArray := prog_6_method_4_code
def yX4_firstLike : MethodName := ⟨RX4, "firstLike", "(LSupperTales$House;I)I"⟩
abbrev cX4_dropFirst : ByteArray := prog_6_method_5_code
def yX4_dropFirst : MethodName := ⟨RX4, "dropFirst", "()V"⟩
def RX5 : String := "SupperTales$Sights"
def TX5 : u_T := fun k => match k with
  | 0 => ("SupperTales$Sights", "guests", "[I", true)
  | 1 => ("SupperTales$Sights", "facts", "[I", true)
  | _ => ("SupperTales$Sights", "size", "I", false)
def tyX5 : Nat → FieldType := fun k => match k with
  | 0 => .array .int
  | 1 => .array .int
  | _ => .int
theorem nmX5 : ∀ a, a < 3 → ∀ b, b < 3 → a ≠ b → (TX5 a).2.1 ≠ (TX5 b).2.1 := by decide +kernel
theorem tyX5_ok : ∀ k, k < 3 → parseFieldDescriptor (TX5 k).2.2.1 = some (tyX5 k) := by decide +kernel
abbrev cX5_init : ByteArray := prog_7_method_1_code
def yX5_init : MethodName := ⟨RX5, "<init>", "()V"⟩
abbrev cX5_isFull : ByteArray := prog_7_method_2_code
def yX5_isFull : MethodName := ⟨RX5, "isFull", "()Z"⟩
abbrev cX5_add : ByteArray := prog_7_method_3_code
def yX5_add : MethodName := ⟨RX5, "add", "(II)I"⟩
abbrev cX5_empty : ByteArray := prog_7_method_4_code
def yX5_empty : MethodName := ⟨RX5, "empty", "()I"⟩
abbrev cX5_fit : ByteArray := prog_7_method_5_code
def yX5_fit : MethodName := ⟨RX5, "fit", "(LSupperTales$House;)Z"⟩
abbrev cX5_isSo : ByteArray := prog_7_method_6_code
def yX5_isSo : MethodName := ⟨RX5, "isSo", "(LSupperTales$House;II)Z"⟩
def RX6 : String := "SupperTales$Telling"
def TX6 : u_T := fun k => match k with
  | 0 => ("SupperTales$Telling", "house", "LSupperTales$House;", true)
  | 1 => ("SupperTales$Telling", "left", "[I", true)
  | 2 => ("SupperTales$Telling", "done", "I", false)
  | _ => ("SupperTales$Telling", "fines", "I", false)
def tyX6 : Nat → FieldType := fun k => match k with
  | 0 => .object "SupperTales$House"
  | 1 => .array .int
  | 2 => .int
  | _ => .int
theorem nmX6 : ∀ a, a < 4 → ∀ b, b < 4 → a ≠ b → (TX6 a).2.1 ≠ (TX6 b).2.1 := by decide +kernel
theorem tyX6_ok : ∀ k, k < 4 → parseFieldDescriptor (TX6 k).2.2.1 = some (tyX6 k) := by decide +kernel
abbrev cX6_init : ByteArray := prog_8_method_1_code
def yX6_init : MethodName := ⟨RX6, "<init>", "()V"⟩
abbrev cX6_begin : ByteArray := prog_8_method_2_code
def yX6_begin : MethodName := ⟨RX6, "begin", "(LSupperTales$House;)V"⟩
abbrev cX6_copyFrom : ByteArray := prog_8_method_3_code
def yX6_copyFrom : MethodName := ⟨RX6, "copyFrom", "(LSupperTales$Telling;)V"⟩
abbrev cX6_hearAll : ByteArray := prog_8_method_4_code
def yX6_hearAll : MethodName := ⟨RX6, "hearAll", "(LSupperTales$House;LSupperTales$Scroll;)V"⟩
abbrev cX6_hear : ByteArray := prog_8_method_5_code
def yX6_hear : MethodName := ⟨RX6, "hear", "(II)V"⟩
abbrev cX6_doersOf : ByteArray := prog_8_method_6_code
def yX6_doersOf : MethodName := ⟨RX6, "doersOf", "(I)I"⟩
abbrev cX6_othersOf : ByteArray := prog_8_method_7_code
def yX6_othersOf : MethodName := ⟨RX6, "othersOf", "(II)I"⟩
abbrev cX6_failWithoutDoer : ByteArray := prog_8_method_8_code
def yX6_failWithoutDoer : MethodName := ⟨RX6, "failWithoutDoer", "(I)V"⟩
abbrev cX6_attempt : ByteArray := prog_8_method_9_code
def yX6_attempt : MethodName := ⟨RX6, "attempt", "(IIII)V"⟩
abbrev cX6_fine : ByteArray := prog_8_method_10_code
def yX6_fine : MethodName := ⟨RX6, "fine", "(I)V"⟩
def RX7 : String := "SupperTales"
def TX7 : u_T := fun k => match k with
  | 0 => ("SupperTales", "text", "LSupperTales$Scroll;", true)
  | 1 => ("SupperTales", "tales", "[LSupperTales$Scroll;", true)
  | 2 => ("SupperTales", "present", "LSupperTales$House;", true)
  | 3 => ("SupperTales", "supposed", "LSupperTales$House;", true)
  | 4 => ("SupperTales", "night", "LSupperTales$Telling;", true)
  | 5 => ("SupperTales", "search", "LSupperTales$Search;", true)
  | 6 => ("SupperTales", "chooser", "LSupperTales$Chooser;", true)
  | 7 => ("SupperTales", "acts", "LSupperTales$Shelf;", true)
  | 8 => ("SupperTales", "slots", "LSupperTales$Shelf;", true)
  | 9 => ("SupperTales", "rounds", "LSupperTales$Shelf;", true)
  | 10 => ("SupperTales", "sights", "LSupperTales$Sights;", true)
  | 11 => ("SupperTales", "tenths", "[I", true)
  | 12 => ("SupperTales", "firstMeans", "[I", true)
  | 13 => ("SupperTales", "otherMeans", "[I", true)
  | 14 => ("SupperTales", "actsHeld", "I", false)
  | 15 => ("SupperTales", "slotsHeld", "I", false)
  | _ => ("SupperTales", "seedNow", "J", false)
def tyX7 : Nat → FieldType := fun k => match k with
  | 0 => .object "SupperTales$Scroll"
  | 1 => .array (.object "SupperTales$Scroll")
  | 2 => .object "SupperTales$House"
  | 3 => .object "SupperTales$House"
  | 4 => .object "SupperTales$Telling"
  | 5 => .object "SupperTales$Search"
  | 6 => .object "SupperTales$Chooser"
  | 7 => .object "SupperTales$Shelf"
  | 8 => .object "SupperTales$Shelf"
  | 9 => .object "SupperTales$Shelf"
  | 10 => .object "SupperTales$Sights"
  | 11 => .array .int
  | 12 => .array .int
  | 13 => .array .int
  | 14 => .int
  | 15 => .int
  | _ => .long
theorem nmX7 : ∀ a, a < 17 → ∀ b, b < 17 → a ≠ b → (TX7 a).2.1 ≠ (TX7 b).2.1 := by decide +kernel
theorem tyX7_ok : ∀ k, k < 17 → parseFieldDescriptor (TX7 k).2.2.1 = some (tyX7 k) := by decide +kernel
abbrev cX7_init : ByteArray := prog_1_method_1_code
def yX7_init : MethodName := ⟨RX7, "<init>", "()V"⟩
abbrev cX7_write : ByteArray := prog_1_method_2_code
def yX7_write : MethodName := ⟨RX7, "write", "(I)I"⟩
abbrev cX7_wipe : ByteArray := prog_1_method_3_code
def yX7_wipe : MethodName := ⟨RX7, "wipe", "()I"⟩
abbrev cX7_fault : ByteArray := prog_1_method_4_code
def yX7_fault : MethodName := ⟨RX7, "fault", "()I"⟩
abbrev cX7_inn : ByteArray := prog_1_method_5_code
def yX7_inn : MethodName := ⟨RX7, "inn", "()I"⟩
abbrev cX7_quill : ByteArray := prog_1_method_6_code
def yX7_quill : MethodName := ⟨RX7, "quill", "(II)I"⟩
abbrev cX7_blot : ByteArray := prog_1_method_7_code
def yX7_blot : MethodName := ⟨RX7, "blot", "(I)I"⟩
abbrev cX7_slip : ByteArray := prog_1_method_8_code
def yX7_slip : MethodName := ⟨RX7, "slip", "(I)I"⟩
abbrev cX7_guest : ByteArray := prog_1_method_9_code
def yX7_guest : MethodName := ⟨RX7, "guest", "(II)I"⟩
abbrev cX7_bears : ByteArray := prog_1_method_10_code
def yX7_bears : MethodName := ⟨RX7, "bears", "(I)I"⟩
abbrev cX7_tell : ByteArray := prog_1_method_11_code
def yX7_tell : MethodName := ⟨RX7, "tell", "(I)I"⟩
abbrev cX7_give : ByteArray := prog_1_method_12_code
def yX7_give : MethodName := ⟨RX7, "give", "(II)I"⟩
abbrev cX7_undo : ByteArray := prog_1_method_13_code
def yX7_undo : MethodName := ⟨RX7, "undo", "()I"⟩
abbrev cX7_would : ByteArray := prog_1_method_14_code
def yX7_would : MethodName := ⟨RX7, "would", "(II)I"⟩
abbrev cX7_coins : ByteArray := prog_1_method_15_code
def yX7_coins : MethodName := ⟨RX7, "coins", "(II)I"⟩
abbrev cX7_shortest : ByteArray := prog_1_method_16_code
def yX7_shortest : MethodName := ⟨RX7, "shortest", "(III)I"⟩
abbrev cX7_shortestAt : ByteArray := prog_1_method_17_code
def yX7_shortestAt : MethodName := ⟨RX7, "shortestAt", "(IIII)I"⟩
abbrev cX7_cut : ByteArray := prog_1_method_18_code
def yX7_cut : MethodName := ⟨RX7, "cut", "(I)I"⟩
abbrev cX7_chosen : ByteArray := prog_1_method_19_code
def yX7_chosen : MethodName := ⟨RX7, "chosen", "(IZ)I"⟩
abbrev cX7_round : ByteArray := prog_1_method_20_code
def yX7_round : MethodName := ⟨RX7, "round", "(I)I"⟩
abbrev cX7_kinds : ByteArray := prog_1_method_21_code
def yX7_kinds : MethodName := ⟨RX7, "kinds", "(I)I"⟩
abbrev cX7_odds : ByteArray := prog_1_method_22_code
def yX7_odds : MethodName := ⟨RX7, "odds", "(III)I"⟩
abbrev cX7_mean : ByteArray := prog_1_method_23_code
def yX7_mean : MethodName := ⟨RX7, "mean", "(II)I"⟩
abbrev cX7_toGive : ByteArray := prog_1_method_24_code
def yX7_toGive : MethodName := ⟨RX7, "toGive", "(I)I"⟩
abbrev cX7_rests : ByteArray := prog_1_method_25_code
def yX7_rests : MethodName := ⟨RX7, "rests", "(III)I"⟩
abbrev cX7_see : ByteArray := prog_1_method_26_code
def yX7_see : MethodName := ⟨RX7, "see", "(IZ)I"⟩
abbrev cX7_seeCoins : ByteArray := prog_1_method_27_code
def yX7_seeCoins : MethodName := ⟨RX7, "seeCoins", "(II)I"⟩
abbrev cX7_unsee : ByteArray := prog_1_method_28_code
def yX7_unsee : MethodName := ⟨RX7, "unsee", "()I"⟩
abbrev cX7_which : ByteArray := prog_1_method_29_code
def yX7_which : MethodName := ⟨RX7, "which", "()I"⟩
abbrev cX7_likely : ByteArray := prog_1_method_30_code
def yX7_likely : MethodName := ⟨RX7, "likely", "(IZ)I"⟩
abbrev cX7_seed : ByteArray := prog_1_method_31_code
def yX7_seed : MethodName := ⟨RX7, "seed", "(J)J"⟩
abbrev cX7_nights : ByteArray := prog_1_method_32_code
def yX7_nights : MethodName := ⟨RX7, "nights", "(I)I"⟩
abbrev cX7_keep : ByteArray := prog_1_method_33_code
def yX7_keep : MethodName := ⟨RX7, "keep", "(I)I"⟩
abbrev cX7_again : ByteArray := prog_1_method_34_code
def yX7_again : MethodName := ⟨RX7, "again", "(I)I"⟩
abbrev cX7_count : ByteArray := prog_1_method_35_code
def yX7_count : MethodName := ⟨RX7, "count", "(I)I"⟩
abbrev cX7_isLetter : ByteArray := prog_1_method_36_code
def yX7_isLetter : MethodName := ⟨RX7, "isLetter", "(I)Z"⟩
abbrev cX7_isTale : ByteArray := prog_1_method_37_code
def yX7_isTale : MethodName := ⟨RX7, "isTale", "(I)Z"⟩
abbrev cX7_isSlot : ByteArray := prog_1_method_38_code
def yX7_isSlot : MethodName := ⟨RX7, "isSlot", "(I)Z"⟩
abbrev cX7_isName : ByteArray := prog_1_method_39_code
def yX7_isName : MethodName := ⟨RX7, "isName", "(I)Z"⟩
abbrev cX7_isTenths : ByteArray := prog_1_method_40_code
def yX7_isTenths : MethodName := ⟨RX7, "isTenths", "(I)Z"⟩
abbrev cX7_holds : ByteArray := prog_1_method_41_code
def yX7_holds : MethodName := ⟨RX7, "holds", "(II)Z"⟩
abbrev cX7_leastOf : ByteArray := prog_1_method_42_code
def yX7_leastOf : MethodName := ⟨RX7, "leastOf", "(I)I"⟩
abbrev cX7_kindOf : ByteArray := prog_1_method_43_code
def yX7_kindOf : MethodName := ⟨RX7, "kindOf", "(I)I"⟩
abbrev cX7_firstNameOf : ByteArray := prog_1_method_44_code
def yX7_firstNameOf : MethodName := ⟨RX7, "firstNameOf", "(I)I"⟩
abbrev cX7_secondNameOf : ByteArray := prog_1_method_45_code
def yX7_secondNameOf : MethodName := ⟨RX7, "secondNameOf", "(I)I"⟩
abbrev cX7_inLeastTerms : ByteArray := prog_1_method_46_code
def yX7_inLeastTerms : MethodName := ⟨RX7, "inLeastTerms", "(III)I"⟩
abbrev cX7_holdAct : ByteArray := prog_1_method_47_code
def yX7_holdAct : MethodName := ⟨RX7, "holdAct", "()V"⟩
abbrev cX7_refusalOfEnd : ByteArray := prog_1_method_48_code
def yX7_refusalOfEnd : MethodName := ⟨RX7, "refusalOfEnd", "(III)I"⟩
abbrev cX7_isEndTold : ByteArray := prog_1_method_49_code
def yX7_isEndTold : MethodName := ⟨RX7, "isEndTold", "(II)Z"⟩
abbrev cX7_isDoneWithout : ByteArray := prog_1_method_50_code
def yX7_isDoneWithout : MethodName := ⟨RX7, "isDoneWithout", "(LSupperTales$Scroll;I)Z"⟩
abbrev cX7_isProverb : ByteArray := prog_1_method_51_code
def yX7_isProverb : MethodName := ⟨RX7, "isProverb", "(LSupperTales$Scroll;)Z"⟩
abbrev cX7_meanAsSupposed : ByteArray := prog_1_method_52_code
def yX7_meanAsSupposed : MethodName := ⟨RX7, "meanAsSupposed", "(I)I"⟩
abbrev cX7_isRest : ByteArray := prog_1_method_53_code
def yX7_isRest : MethodName := ⟨RX7, "isRest", "(II)Z"⟩
abbrev cX7_restsInAll : ByteArray := prog_1_method_54_code
def yX7_restsInAll : MethodName := ⟨RX7, "restsInAll", "()I"⟩
abbrev cX7_firstRest : ByteArray := prog_1_method_55_code
def yX7_firstRest : MethodName := ⟨RX7, "firstRest", "()I"⟩
abbrev cX7_talesThatFit : ByteArray := prog_1_method_56_code
def yX7_talesThatFit : MethodName := ⟨RX7, "talesThatFit", "()I"⟩
abbrev cX7_drawTale : ByteArray := prog_1_method_57_code
def yX7_drawTale : MethodName := ⟨RX7, "drawTale", "()I"⟩
abbrev cX7_lettersOfTales : ByteArray := prog_1_method_58_code
def yX7_lettersOfTales : MethodName := ⟨RX7, "lettersOfTales", "()I"⟩
def RX8 : String := "SupperTalesModel"
def TX8 : u_T := fun k => match k with
  | 0 => ("SupperTalesModel", "guests", "I", false)
  | 1 => ("SupperTalesModel", "power", "[I", true)
  | 2 => ("SupperTalesModel", "now", "[I", true)
  | 3 => ("SupperTalesModel", "text", "[I", true)
  | 4 => ("SupperTalesModel", "length", "I", false)
  | 5 => ("SupperTalesModel", "tales", "[I", true)
  | 6 => ("SupperTalesModel", "long3", "[I", true)
  | 7 => ("SupperTalesModel", "fines", "I", false)
  | 8 => ("SupperTalesModel", "acts", "I", false)
  | 9 => ("SupperTalesModel", "next", "I", false)
  | 10 => ("SupperTalesModel", "row", "[I", true)
  | 11 => ("SupperTalesModel", "shortTale", "I", false)
  | 12 => ("SupperTalesModel", "tries", "[I", true)
  | 13 => ("SupperTalesModel", "rounds", "[I", true)
  | 14 => ("SupperTalesModel", "odds", "[I", true)
  | 15 => ("SupperTalesModel", "seen", "I", false)
  | 16 => ("SupperTalesModel", "seenOf", "[I", true)
  | 17 => ("SupperTalesModel", "seenWhat", "[I", true)
  | 18 => ("SupperTalesModel", "seed", "J", false)
  | 19 => ("SupperTalesModel", "isKept", "[Z", true)
  | _ => ("SupperTalesModel", "kept", "[I", true)
def tyX8 : Nat → FieldType := fun k => match k with
  | 0 => .int
  | 1 => .array .int
  | 2 => .array .int
  | 3 => .array .int
  | 4 => .int
  | 5 => .array .int
  | 6 => .array .int
  | 7 => .int
  | 8 => .int
  | 9 => .int
  | 10 => .array .int
  | 11 => .int
  | 12 => .array .int
  | 13 => .array .int
  | 14 => .array .int
  | 15 => .int
  | 16 => .array .int
  | 17 => .array .int
  | 18 => .long
  | 19 => .array .boolean
  | _ => .array .int
theorem nmX8 : ∀ a, a < 21 → ∀ b, b < 21 → a ≠ b → (TX8 a).2.1 ≠ (TX8 b).2.1 := by decide +kernel
theorem tyX8_ok : ∀ k, k < 21 → parseFieldDescriptor (TX8 k).2.2.1 = some (tyX8 k) := by decide +kernel
abbrev cX8_init : ByteArray := prog_10_method_1_code
def yX8_init : MethodName := ⟨RX8, "<init>", "()V"⟩
abbrev cX8_in : ByteArray := prog_10_method_3_code
def yX8_in : MethodName := ⟨RX8, "in", "(JJJ)Z"⟩
abbrev cX8_has : ByteArray := prog_10_method_4_code
def yX8_has : MethodName := ⟨RX8, "has", "(II)Z"⟩
abbrev cX8_ones : ByteArray := prog_10_method_5_code
def yX8_ones : MethodName := ⟨RX8, "ones", "(I)I"⟩
abbrev cX8_write : ByteArray := prog_10_method_6_code
def yX8_write : MethodName := ⟨RX8, "write", "(I)I"⟩
abbrev cX8_wipe : ByteArray := prog_10_method_7_code
def yX8_wipe : MethodName := ⟨RX8, "wipe", "()I"⟩
abbrev cX8_fits : ByteArray := prog_10_method_8_code
def yX8_fits : MethodName := ⟨RX8, "fits", "(I)Z"⟩
abbrev cX8_fault : ByteArray := prog_10_method_9_code
def yX8_fault : MethodName := ⟨RX8, "fault", "()I"⟩
abbrev cX8_inn : ByteArray := prog_10_method_10_code
def yX8_inn : MethodName := ⟨RX8, "inn", "()I"⟩
abbrev cX8_isTale : ByteArray := prog_10_method_11_code
def yX8_isTale : MethodName := ⟨RX8, "isTale", "(I)Z"⟩
abbrev cX8_quill : ByteArray := prog_10_method_12_code
def yX8_quill : MethodName := ⟨RX8, "quill", "(II)I"⟩
abbrev cX8_blot : ByteArray := prog_10_method_13_code
def yX8_blot : MethodName := ⟨RX8, "blot", "(I)I"⟩
abbrev cX8_kindOf : ByteArray := prog_10_method_14_code
def yX8_kindOf : MethodName := ⟨RX8, "kindOf", "(I)I"⟩
abbrev cX8_slipOf : ByteArray := prog_10_method_15_code
def yX8_slipOf : MethodName := ⟨RX8, "slipOf", "(I)I"⟩
abbrev cX8_slip : ByteArray := prog_10_method_16_code
def yX8_slip : MethodName := ⟨RX8, "slip", "(I)I"⟩
abbrev cX8_deeds : ByteArray := prog_10_method_17_code
def yX8_deeds : MethodName := ⟨RX8, "deeds", "(I)I"⟩
abbrev cX8_deedOf : ByteArray := prog_10_method_18_code
def yX8_deedOf : MethodName := ⟨RX8, "deedOf", "(II)I"⟩
abbrev cX8_isGuest : ByteArray := prog_10_method_19_code
def yX8_isGuest : MethodName := ⟨RX8, "isGuest", "(I)Z"⟩
abbrev cX8_guest : ByteArray := prog_10_method_20_code
def yX8_guest : MethodName := ⟨RX8, "guest", "(II)I"⟩
abbrev cX8_bearsAt : ByteArray := prog_10_method_21_code
def yX8_bearsAt : MethodName := ⟨RX8, "bearsAt", "(II)I"⟩
abbrev cX8_bears : ByteArray := prog_10_method_22_code
def yX8_bears : MethodName := ⟨RX8, "bears", "(I)I"⟩
abbrev cX8_least : ByteArray := prog_10_method_23_code
def yX8_least : MethodName := ⟨RX8, "least", "(I)I"⟩
abbrev cX8_strong : ByteArray := prog_10_method_24_code
def yX8_strong : MethodName := ⟨RX8, "strong", "(II)I"⟩
abbrev cX8_act : ByteArray := prog_10_method_25_code
def yX8_act : MethodName := ⟨RX8, "act", "(IIII)Z"⟩
abbrev cX8_deed : ByteArray := prog_10_method_26_code
def yX8_deed : MethodName := ⟨RX8, "deed", "(II)Z"⟩
abbrev cX8_dusk : ByteArray := prog_10_method_27_code
def yX8_dusk : MethodName := ⟨RX8, "dusk", "(I)V"⟩
abbrev cX8_tellOn : ByteArray := prog_10_method_28_code
def yX8_tellOn : MethodName := ⟨RX8, "tellOn", "(III)I"⟩
abbrev cX8_lay : ByteArray := prog_10_method_29_code
def yX8_lay : MethodName := ⟨RX8, "lay", "(II)V"⟩
abbrev cX8_keepAct : ByteArray := prog_10_method_30_code
def yX8_keepAct : MethodName := ⟨RX8, "keepAct", "()V"⟩
abbrev cX8_tell : ByteArray := prog_10_method_31_code
def yX8_tell : MethodName := ⟨RX8, "tell", "(I)I"⟩
abbrev cX8_give : ByteArray := prog_10_method_32_code
def yX8_give : MethodName := ⟨RX8, "give", "(II)I"⟩
abbrev cX8_undo : ByteArray := prog_10_method_33_code
def yX8_undo : MethodName := ⟨RX8, "undo", "()I"⟩
abbrev cX8_dead : ByteArray := prog_10_method_34_code
def yX8_dead : MethodName := ⟨RX8, "dead", "(I)I"⟩
abbrev cX8_allCoins : ByteArray := prog_10_method_35_code
def yX8_allCoins : MethodName := ⟨RX8, "allCoins", "(I)I"⟩
abbrev cX8_would : ByteArray := prog_10_method_36_code
def yX8_would : MethodName := ⟨RX8, "would", "(II)I"⟩
abbrev cX8_coins : ByteArray := prog_10_method_37_code
def yX8_coins : MethodName := ⟨RX8, "coins", "(II)I"⟩
abbrev cX8_ends : ByteArray := prog_10_method_38_code
def yX8_ends : MethodName := ⟨RX8, "ends", "(IIII)Z"⟩
abbrev cX8_refusedEnd : ByteArray := prog_10_method_39_code
def yX8_refusedEnd : MethodName := ⟨RX8, "refusedEnd", "(III)I"⟩
abbrev cX8_layShortest : ByteArray := prog_10_method_40_code
def yX8_layShortest : MethodName := ⟨RX8, "layShortest", "(III)I"⟩
abbrev cX8_shortest : ByteArray := prog_10_method_41_code
def yX8_shortest : MethodName := ⟨RX8, "shortest", "(III)I"⟩
abbrev cX8_toldDeed : ByteArray := prog_10_method_42_code
def yX8_toldDeed : MethodName := ⟨RX8, "toldDeed", "(I)I"⟩
abbrev cX8_shortestAt : ByteArray := prog_10_method_43_code
def yX8_shortestAt : MethodName := ⟨RX8, "shortestAt", "(IIII)I"⟩
abbrev cX8_cut : ByteArray := prog_10_method_44_code
def yX8_cut : MethodName := ⟨RX8, "cut", "(I)I"⟩
abbrev cX8_choose : ByteArray := prog_10_method_45_code
def yX8_choose : MethodName := ⟨RX8, "choose", "(III)Z"⟩
abbrev cX8_chosen : ByteArray := prog_10_method_46_code
def yX8_chosen : MethodName := ⟨RX8, "chosen", "(IZ)I"⟩
abbrev cX8_round : ByteArray := prog_10_method_47_code
def yX8_round : MethodName := ⟨RX8, "round", "(I)I"⟩
abbrev cX8_kinds : ByteArray := prog_10_method_48_code
def yX8_kinds : MethodName := ⟨RX8, "kinds", "(I)I"⟩
abbrev cX8_odds : ByteArray := prog_10_method_49_code
def yX8_odds : MethodName := ⟨RX8, "odds", "(III)I"⟩
abbrev cX8_meanOf : ByteArray := prog_10_method_50_code
def yX8_meanOf : MethodName := ⟨RX8, "meanOf", "(I)I"⟩
abbrev cX8_meanBy : ByteArray := prog_10_method_51_code
def yX8_meanBy : MethodName := ⟨RX8, "meanBy", "(II)I"⟩
abbrev cX8_mean : ByteArray := prog_10_method_52_code
def yX8_mean : MethodName := ⟨RX8, "mean", "(II)I"⟩
abbrev cX8_toGive : ByteArray := prog_10_method_53_code
def yX8_toGive : MethodName := ⟨RX8, "toGive", "(I)I"⟩
abbrev cX8_meanWith : ByteArray := prog_10_method_54_code
def yX8_meanWith : MethodName := ⟨RX8, "meanWith", "(IIIII)I"⟩
abbrev cX8_rests : ByteArray := prog_10_method_55_code
def yX8_rests : MethodName := ⟨RX8, "rests", "(III)I"⟩
abbrev cX8_note : ByteArray := prog_10_method_56_code
def yX8_note : MethodName := ⟨RX8, "note", "(II)I"⟩
abbrev cX8_see : ByteArray := prog_10_method_57_code
def yX8_see : MethodName := ⟨RX8, "see", "(IZ)I"⟩
abbrev cX8_seeCoins : ByteArray := prog_10_method_58_code
def yX8_seeCoins : MethodName := ⟨RX8, "seeCoins", "(II)I"⟩
abbrev cX8_unsee : ByteArray := prog_10_method_59_code
def yX8_unsee : MethodName := ⟨RX8, "unsee", "()I"⟩
abbrev cX8_isSeen : ByteArray := prog_10_method_60_code
def yX8_isSeen : MethodName := ⟨RX8, "isSeen", "(I)Z"⟩
abbrev cX8_which : ByteArray := prog_10_method_61_code
def yX8_which : MethodName := ⟨RX8, "which", "()I"⟩
abbrev cX8_common : ByteArray := prog_10_method_62_code
def yX8_common : MethodName := ⟨RX8, "common", "(II)I"⟩
abbrev cX8_likely : ByteArray := prog_10_method_63_code
def yX8_likely : MethodName := ⟨RX8, "likely", "(IZ)I"⟩
abbrev cX8_seed : ByteArray := prog_10_method_64_code
def yX8_seed : MethodName := ⟨RX8, "seed", "(J)J"⟩
abbrev cX8_nights : ByteArray := prog_10_method_65_code
def yX8_nights : MethodName := ⟨RX8, "nights", "(I)I"⟩
abbrev cX8_keep : ByteArray := prog_10_method_66_code
def yX8_keep : MethodName := ⟨RX8, "keep", "(I)I"⟩
abbrev cX8_again : ByteArray := prog_10_method_67_code
def yX8_again : MethodName := ⟨RX8, "again", "(I)I"⟩
abbrev cX8_count : ByteArray := prog_10_method_68_code
def yX8_count : MethodName := ⟨RX8, "count", "(I)I"⟩
def RJ6 : String := "java/lang/Integer"
def TJ6 : u_T := fun k => match k with
  | _ => ("", "", "", false)
def tyJ6 : Nat → FieldType := fun k => match k with
  | _ => .int
theorem nmJ6 : ∀ a, a < 0 → ∀ b, b < 0 → a ≠ b → (TJ6 a).2.1 ≠ (TJ6 b).2.1 := by decide +kernel
theorem tyJ6_ok : ∀ k, k < 0 → parseFieldDescriptor (TJ6 k).2.2.1 = some (tyJ6 k) := by decide +kernel
abbrev cJ6_bitCount_0f7a4 : ByteArray := prog_11_method_49_code
def yJ6_bitCount_0f7a4 : MethodName := ⟨RJ6, "bitCount", "(I)I"⟩
def RJ9 : String := "java/lang/Math"
def TJ9 : u_T := fun k => match k with
  | _ => ("", "", "", false)
def tyJ9 : Nat → FieldType := fun k => match k with
  | _ => .int
theorem nmJ9 : ∀ a, a < 0 → ∀ b, b < 0 → a ≠ b → (TJ9 a).2.1 ≠ (TJ9 b).2.1 := by decide +kernel
theorem tyJ9_ok : ∀ k, k < 0 → parseFieldDescriptor (TJ9 k).2.2.1 = some (tyJ9 k) := by decide +kernel
abbrev cJ9_max_7cf53 : ByteArray := prog_12_method_65_code
def yJ9_max_7cf53 : MethodName := ⟨RJ9, "max", "(II)I"⟩
abbrev cJ9_min_7cf53 : ByteArray := prog_12_method_69_code
def yJ9_min_7cf53 : MethodName := ⟨RJ9, "min", "(II)I"⟩
def RJ10 : String := "java/lang/System"
def TJ10 : u_T := fun k => match k with
  | _ => ("", "", "", false)
def tyJ10 : Nat → FieldType := fun k => match k with
  | _ => .int
theorem nmJ10 : ∀ a, a < 0 → ∀ b, b < 0 → a ≠ b → (TJ10 a).2.1 ≠ (TJ10 b).2.1 := by decide +kernel
theorem tyJ10_ok : ∀ k, k < 0 → parseFieldDescriptor (TJ10 k).2.2.1 = some (tyJ10 k) := by decide +kernel
def RL : String := "SupperTalesLaw"
abbrev cL_law : ByteArray := code
def yL_law : MethodName := ⟨RL, "law", "([I)Z"⟩
abbrev vwCl : List vw_C := [(RX0, TX0, 5), (RX1, TX1, 3), (RX2, TX2, 2), (RX3, TX3, 6), (RX4, TX4, 1), (RX5, TX5, 3), (RX6, TX6, 4), (RX7, TX7, 17), (RX8, TX8, 21)]
end
section
/-- SupperTales$Chooser.<init>()V -/
def mI_0 : List (Nat × Instr × Nat) := [(0, .aload_n 0, 1), (1, .invokespecial 3, 3), (4, .aload_n 0, 1), (5, .iconst 5, 1), (6, .anewarray 9, 3), (9, .putfield 11, 3), (12, .iconst 0, 1), (13, .istore_n 1, 1), (14, .iload_n 1, 1), (15, .aload_n 0, 1), (16, .getfield 11, 3), (19, .arraylength, 1), (20, .if_icmp .ge 22, 3), (23, .aload_n 0, 1), (24, .getfield 11, 3), (27, .iload_n 1, 1), (28, .new 9, 3), (31, .dup, 1), (32, .invokespecial 17, 3), (35, .aastore, 1), (36, .iinc 1 1, 3), (39, .goto (-25), 3), (42, .return_, 1)]
/-- SupperTales$Chooser.deadBy(LSupperTales$House;LSupperTales$Scroll;Z)I -/
def mI_1 : List (Nat × Instr × Nat) := [(0, .aload_n 0, 1), (1, .iload_n 3, 1), (2, .putfield 18, 3), (5, .aload_n 0, 1), (6, .aload_n 1, 1), (7, .invokevirtual 22, 3), (10, .putfield 28, 3), (13, .aload_n 0, 1), (14, .aload_n 0, 1), (15, .getfield 28, 3), (18, .putfield 32, 3), (21, .aload_n 0, 1), (22, .aload_n 1, 1), (23, .invokevirtual 35, 3), (26, .putfield 38, 3), (29, .aload_n 0, 1), (30, .getfield 11, 3), (33, .iconst 0, 1), (34, .aaload, 1), (35, .aload_n 1, 1), (36, .invokevirtual 41, 3), (39, .aload_n 0, 1), (40, .aload_n 2, 1), (41, .aload_n 2, 1), (42, .invokestatic 45, 3), (45, .iconst 0, 1), (46, .invokevirtual 49, 3), (49, .aload_n 0, 1), (50, .getfield 18, 3), (53, .ifCond .eq 10, 3), (56, .aload_n 0, 1), (57, .getfield 38, 3), (60, .goto 7, 3), (63, .aload_n 0, 1), (64, .getfield 32, 3), (67, .ireturn, 1)]
/-- SupperTales$Chooser.deedsToLastKilling(LSupperTales$Scroll;)I -/
def mI_2 : List (Nat × Instr × Nat) := [(0, .aload_n 0, 1), (1, .invokevirtual 53, 3), (4, .iconst 4, 1), (5, .invokestatic 58, 3), (8, .istore_n 1, 1), (9, .iconst 0, 1), (10, .istore_n 2, 1), (11, .iconst 0, 1), (12, .istore_n 3, 1), (13, .iload_n 3, 1), (14, .iload_n 1, 1), (15, .if_icmp .ge 24, 3), (18, .aload_n 0, 1), (19, .iload_n 3, 1), (20, .invokevirtual 64, 3), (23, .invokestatic 68, 3), (26, .ifCond .ne 7, 3), (29, .iload_n 3, 1), (30, .iconst 1, 1), (31, .iadd, 1), (32, .istore_n 2, 1), (33, .iinc 3 1, 3), (36, .goto (-23), 3), (39, .iload_n 2, 1), (40, .ireturn, 1)]
/-- SupperTales$Chooser.isSettled()Z -/
def mI_3 : List (Nat × Instr × Nat) := [(0, .aload_n 0, 1), (1, .getfield 18, 3), (4, .ifCond .eq 22, 3), (7, .aload_n 0, 1), (8, .getfield 38, 3), (11, .aload_n 0, 1), (12, .getfield 28, 3), (15, .if_icmp .ne 7, 3), (18, .iconst 1, 1), (19, .goto 31, 3), (22, .iconst 0, 1), (23, .goto 27, 3), (26, .aload_n 0, 1), (27, .getfield 32, 3), (30, .aload_n 0, 1), (31, .getfield 11, 3), (34, .iconst 0, 1), (35, .aaload, 1), (36, .getfield 71, 3), (39, .invokevirtual 35, 3), (42, .if_icmp .ne 7, 3), (45, .iconst 1, 1), (46, .goto 4, 3), (49, .iconst 0, 1), (50, .ireturn, 1)]
/-- SupperTales$Chooser.follow(LSupperTales$Scroll;II)V -/
def mI_4 : List (Nat × Instr × Nat) := [(0, .iload_n 3, 1), (1, .iload_n 2, 1), (2, .if_icmp .ge 14, 3), (5, .iload_n 3, 1), (6, .iconst 1, 1), (7, .iadd, 1), (8, .aload_n 0, 1), (9, .getfield 11, 3), (12, .arraylength, 1), (13, .if_icmp .lt 46, 3), (16, .aload_n 0, 1), (17, .dup, 1), (18, .getfield 32, 3), (21, .aload_n 0, 1), (22, .getfield 11, 3), (25, .iload_n 3, 1), (26, .aaload, 1), (27, .getfield 71, 3), (30, .invokevirtual 22, 3), (33, .ior, 1), (34, .putfield 32, 3), (37, .aload_n 0, 1), (38, .dup, 1), (39, .getfield 38, 3), (42, .aload_n 0, 1), (43, .getfield 11, 3), (46, .iload_n 3, 1), (47, .aaload, 1), (48, .getfield 71, 3), (51, .invokevirtual 22, 3), (54, .iand, 1), (55, .putfield 38, 3), (58, .return_, 1), (59, .aload_n 1, 1), (60, .iload_n 3, 1), (61, .invokevirtual 64, 3), (64, .istore 4, 2), (66, .aload_n 0, 1), (67, .getfield 11, 3), (70, .iload_n 3, 1), (71, .aaload, 1), (72, .iload 4, 2), (74, .invokevirtual 75, 3), (77, .istore 5, 2), (79, .iload 5, 2), (81, .ifCond .ne 42, 3), (84, .aload_n 0, 1), (85, .getfield 11, 3), (88, .iload_n 3, 1), (89, .iconst 1, 1), (90, .iadd, 1), (91, .aaload, 1), (92, .aload_n 0, 1), (93, .getfield 11, 3), (96, .iload_n 3, 1), (97, .aaload, 1), (98, .invokevirtual 78, 3), (101, .aload_n 0, 1), (102, .getfield 11, 3), (105, .iload_n 3, 1), (106, .iconst 1, 1), (107, .iadd, 1), (108, .aaload, 1), (109, .iload 4, 2), (111, .invokevirtual 82, 3), (114, .aload_n 0, 1), (115, .aload_n 1, 1), (116, .iload_n 2, 1), (117, .iload_n 3, 1), (118, .iconst 1, 1), (119, .iadd, 1), (120, .invokevirtual 49, 3), (123, .iconst 0, 1), (124, .istore 6, 2), (126, .iload 6, 2), (128, .iconst 5, 1), (129, .if_icmp .ge 35, 3), (132, .aload_n 0, 1), (133, .invokevirtual 86, 3), (136, .ifCond .ne 28, 3), (139, .iload 5, 2), (141, .iload 6, 2), (143, .invokestatic 90, 3), (146, .ifCond .eq 12, 3), (149, .aload_n 0, 1), (150, .aload_n 1, 1), (151, .iload_n 2, 1), (152, .iload_n 3, 1), (153, .iload 6, 2), (155, .invokevirtual 94, 3), (158, .iinc 6 1, 3), (161, .goto (-35), 3), (164, .return_, 1)]
/-- SupperTales$Chooser.followDoer(LSupperTales$Scroll;III)V -/
def mI_5 : List (Nat × Instr × Nat) := [(0, .aload_n 1, 1), (1, .iload_n 3, 1), (2, .invokevirtual 64, 3), (5, .istore 5, 2), (7, .aload_n 0, 1), (8, .getfield 11, 3), (11, .iload_n 3, 1), (12, .iconst 1, 1), (13, .iadd, 1), (14, .aaload, 1), (15, .astore 6, 2), (17, .aload_n 0, 1), (18, .getfield 11, 3), (21, .iload_n 3, 1), (22, .aaload, 1), (23, .iload 5, 2), (25, .iload 4, 2), (27, .invokevirtual 98, 3), (30, .istore 7, 2), (32, .iload 7, 2), (34, .ifCond .ne 30, 3), (37, .aload 6, 2), (39, .aload_n 0, 1), (40, .getfield 11, 3), (43, .iload_n 3, 1), (44, .aaload, 1), (45, .invokevirtual 78, 3), (48, .aload 6, 2), (50, .iload 4, 2), (52, .invokevirtual 101, 3), (55, .aload_n 0, 1), (56, .aload_n 1, 1), (57, .iload_n 2, 1), (58, .iload_n 3, 1), (59, .iconst 1, 1), (60, .iadd, 1), (61, .invokevirtual 49, 3), (64, .iconst 0, 1), (65, .istore 8, 2), (67, .iload 8, 2), (69, .iconst 5, 1), (70, .if_icmp .ge 58, 3), (73, .aload_n 0, 1), (74, .invokevirtual 86, 3), (77, .ifCond .ne 51, 3), (80, .iload 7, 2), (82, .iload 8, 2), (84, .invokestatic 90, 3), (87, .ifCond .eq 35, 3), (90, .aload 6, 2), (92, .aload_n 0, 1), (93, .getfield 11, 3), (96, .iload_n 3, 1), (97, .aaload, 1), (98, .invokevirtual 78, 3), (101, .aload 6, 2), (103, .iload 5, 2), (105, .iload_n 3, 1), (106, .iload 4, 2), (108, .iload 8, 2), (110, .invokevirtual 104, 3), (113, .aload_n 0, 1), (114, .aload_n 1, 1), (115, .iload_n 2, 1), (116, .iload_n 3, 1), (117, .iconst 1, 1), (118, .iadd, 1), (119, .invokevirtual 49, 3), (122, .iinc 8 1, 3), (125, .goto (-58), 3), (128, .return_, 1)]
/-- SupperTales$House.<init>()V -/
def mI_6 : List (Nat × Instr × Nat) := [(0, .aload_n 0, 1), (1, .invokespecial 5, 3), (4, .aload_n 0, 1), (5, .bipush 17, 2), (7, .newarray .int, 2), (9, .putfield 11, 3), (12, .aload_n 0, 1), (13, .iconst 5, 1), (14, .newarray .int, 2), (16, .putfield 15, 3), (19, .return_, 1)]
/-- SupperTales$House.settle(LSupperTales$Scroll;)V -/
def mI_7 : List (Nat × Instr × Nat) := [(0, .aload_n 0, 1), (1, .aload_n 1, 1), (2, .invokevirtual 18, 3), (5, .iconst 1, 1), (6, .isub, 1), (7, .iconst 4, 1), (8, .idiv, 1), (9, .iconst 5, 1), (10, .invokestatic 24, 3), (13, .putfield 30, 3), (16, .iconst 0, 1), (17, .istore_n 2, 1), (18, .iload_n 2, 1), (19, .aload_n 0, 1), (20, .getfield 30, 3), (23, .if_icmp .ge 78, 3), (26, .iload_n 2, 1), (27, .iconst 4, 1), (28, .imul, 1), (29, .iconst 1, 1), (30, .iadd, 1), (31, .istore_n 3, 1), (32, .aload_n 0, 1), (33, .getfield 11, 3), (36, .iconst 0, 1), (37, .iload_n 2, 1), (38, .iadd, 1), (39, .aload_n 1, 1), (40, .iload_n 3, 1), (41, .iconst 1, 1), (42, .iadd, 1), (43, .invokevirtual 34, 3), (46, .bipush 97, 2), (48, .isub, 1), (49, .iastore, 1), (50, .aload_n 0, 1), (51, .getfield 11, 3), (54, .iconst 5, 1), (55, .iload_n 2, 1), (56, .iadd, 1), (57, .aload_n 1, 1), (58, .iload_n 3, 1), (59, .iconst 2, 1), (60, .iadd, 1), (61, .invokevirtual 34, 3), (64, .bipush 48, 2), (66, .isub, 1), (67, .iastore, 1), (68, .aload_n 0, 1), (69, .getfield 11, 3), (72, .bipush 10, 2), (74, .iload_n 2, 1), (75, .iadd, 1), (76, .bipush (-9), 2), (78, .iastore, 1), (79, .aload_n 0, 1), (80, .getfield 15, 3), (83, .iload_n 2, 1), (84, .aload_n 1, 1), (85, .iload_n 3, 1), (86, .iconst 3, 1), (87, .iadd, 1), (88, .invokevirtual 34, 3), (91, .bipush 48, 2), (93, .isub, 1), (94, .iastore, 1), (95, .iinc 2 1, 3), (98, .goto (-80), 3), (101, .aload_n 0, 1), (102, .getfield 11, 3), (105, .bipush 15, 2), (107, .aload_n 0, 1), (108, .invokevirtual 38, 3), (111, .iastore, 1), (112, .aload_n 0, 1), (113, .getfield 11, 3), (116, .bipush 16, 2), (118, .iconst 0, 1), (119, .iastore, 1), (120, .return_, 1)]
/-- SupperTales$House.copyFrom(LSupperTales$House;)V -/
def mI_8 : List (Nat × Instr × Nat) := [(0, .aload_n 1, 1), (1, .getfield 11, 3), (4, .iconst 0, 1), (5, .aload_n 0, 1), (6, .getfield 11, 3), (9, .iconst 0, 1), (10, .bipush 17, 2), (12, .invokestatic 41, 3), (15, .aload_n 1, 1), (16, .getfield 15, 3), (19, .iconst 0, 1), (20, .aload_n 0, 1), (21, .getfield 15, 3), (24, .iconst 0, 1), (25, .iconst 5, 1), (26, .invokestatic 41, 3), (29, .aload_n 0, 1), (30, .aload_n 1, 1), (31, .getfield 30, 3), (34, .putfield 30, 3), (37, .return_, 1)]
/-- SupperTales$House.becomeDawnOf(LSupperTales$House;)V -/
def mI_9 : List (Nat × Instr × Nat) := [(0, .aload_n 0, 1), (1, .aload_n 1, 1), (2, .invokevirtual 47, 3), (5, .aload_n 0, 1), (6, .getfield 11, 3), (9, .bipush 16, 2), (11, .dup2, 1), (12, .iaload, 1), (13, .iconst 1, 1), (14, .iadd, 1), (15, .iastore, 1), (16, .return_, 1)]
/-- SupperTales$House.size()I -/
def mI_10 : List (Nat × Instr × Nat) := [(0, .aload_n 0, 1), (1, .getfield 30, 3), (4, .ireturn, 1)]
/-- SupperTales$House.has(I)Z -/
def mI_11 : List (Nat × Instr × Nat) := [(0, .iload_n 1, 1), (1, .ifCond .lt 15, 3), (4, .iload_n 1, 1), (5, .aload_n 0, 1), (6, .getfield 30, 3), (9, .if_icmp .ge 7, 3), (12, .iconst 1, 1), (13, .goto 4, 3), (16, .iconst 0, 1), (17, .ireturn, 1)]
/-- SupperTales$House.nameOf(I)I -/
def mI_12 : List (Nat × Instr × Nat) := [(0, .aload_n 0, 1), (1, .iload_n 1, 1), (2, .invokevirtual 51, 3), (5, .ifCond .eq 14, 3), (8, .aload_n 0, 1), (9, .getfield 11, 3), (12, .iconst 0, 1), (13, .iload_n 1, 1), (14, .iadd, 1), (15, .iaload, 1), (16, .goto 5, 3), (19, .bipush (-9), 2), (21, .ireturn, 1)]
/-- SupperTales$House.purseOf(I)I -/
def mI_13 : List (Nat × Instr × Nat) := [(0, .aload_n 0, 1), (1, .iload_n 1, 1), (2, .invokevirtual 51, 3), (5, .ifCond .eq 14, 3), (8, .aload_n 0, 1), (9, .getfield 11, 3), (12, .iconst 5, 1), (13, .iload_n 1, 1), (14, .iadd, 1), (15, .iaload, 1), (16, .goto 4, 3), (19, .iconst 0, 1), (20, .ireturn, 1)]
/-- SupperTales$House.spouseOf(I)I -/
def mI_14 : List (Nat × Instr × Nat) := [(0, .aload_n 0, 1), (1, .iload_n 1, 1), (2, .invokevirtual 51, 3), (5, .ifCond .eq 15, 3), (8, .aload_n 0, 1), (9, .getfield 11, 3), (12, .bipush 10, 2), (14, .iload_n 1, 1), (15, .iadd, 1), (16, .iaload, 1), (17, .goto 5, 3), (20, .bipush (-9), 2), (22, .ireturn, 1)]
/-- SupperTales$House.powerOf(I)I -/
def mI_15 : List (Nat × Instr × Nat) := [(0, .aload_n 0, 1), (1, .iload_n 1, 1), (2, .invokevirtual 51, 3), (5, .ifCond .eq 12, 3), (8, .aload_n 0, 1), (9, .getfield 15, 3), (12, .iload_n 1, 1), (13, .iaload, 1), (14, .goto 4, 3), (17, .iconst 0, 1), (18, .ireturn, 1)]
/-- SupperTales$House.lives(I)Z -/
def mI_16 : List (Nat × Instr × Nat) := [(0, .aload_n 0, 1), (1, .iload_n 1, 1), (2, .invokevirtual 51, 3), (5, .ifCond .eq 21, 3), (8, .aload_n 0, 1), (9, .getfield 11, 3), (12, .bipush 15, 2), (14, .iaload, 1), (15, .iload_n 1, 1), (16, .invokestatic 55, 3), (19, .ifCond .eq 7, 3), (22, .iconst 1, 1), (23, .goto 4, 3), (26, .iconst 0, 1), (27, .ireturn, 1)]
/-- SupperTales$House.worthOf(I)I -/
def mI_17 : List (Nat × Instr × Nat) := [(0, .aload_n 0, 1), (1, .iload_n 1, 1), (2, .invokevirtual 59, 3), (5, .ifCond .eq 14, 3), (8, .aload_n 0, 1), (9, .iload_n 1, 1), (10, .invokevirtual 62, 3), (13, .bipush 20, 2), (15, .iadd, 1), (16, .goto 4, 3), (19, .iconst 0, 1), (20, .ireturn, 1)]
/-- SupperTales$House.everyone()I -/
def mI_18 : List (Nat × Instr × Nat) := [(0, .iconst 1, 1), (1, .aload_n 0, 1), (2, .getfield 30, 3), (5, .ishl, 1), (6, .iconst 1, 1), (7, .isub, 1), (8, .ireturn, 1)]
/-- SupperTales$House.living()I -/
def mI_19 : List (Nat × Instr × Nat) := [(0, .aload_n 0, 1), (1, .getfield 11, 3), (4, .bipush 15, 2), (6, .iaload, 1), (7, .ireturn, 1)]
/-- SupperTales$House.dead()I -/
def mI_20 : List (Nat × Instr × Nat) := [(0, .aload_n 0, 1), (1, .invokevirtual 38, 3), (4, .aload_n 0, 1), (5, .getfield 11, 3), (8, .bipush 15, 2), (10, .iaload, 1), (11, .iconst (-1), 1), (12, .ixor, 1), (13, .iand, 1), (14, .ireturn, 1)]
/-- SupperTales$House.nightsPast()I -/
def mI_21 : List (Nat × Instr × Nat) := [(0, .aload_n 0, 1), (1, .getfield 11, 3), (4, .bipush 16, 2), (6, .iaload, 1), (7, .ireturn, 1)]
/-- SupperTales$House.wedded()I -/
def mI_22 : List (Nat × Instr × Nat) := [(0, .iconst 0, 1), (1, .istore_n 1, 1), (2, .iconst 0, 1), (3, .istore_n 2, 1), (4, .iload_n 2, 1), (5, .aload_n 0, 1), (6, .getfield 30, 3), (9, .if_icmp .ge 33, 3), (12, .iload_n 1, 1), (13, .aload_n 0, 1), (14, .getfield 11, 3), (17, .bipush 10, 2), (19, .iload_n 2, 1), (20, .iadd, 1), (21, .iaload, 1), (22, .bipush (-9), 2), (24, .if_icmp .eq 9, 3), (27, .iconst 1, 1), (28, .iload_n 2, 1), (29, .ishl, 1), (30, .goto 4, 3), (33, .iconst 0, 1), (34, .ior, 1), (35, .istore_n 1, 1), (36, .iinc 2 1, 3), (39, .goto (-35), 3), (42, .iload_n 1, 1), (43, .ireturn, 1)]
/-- SupperTales$House.coinsOfAll()I -/
def mI_23 : List (Nat × Instr × Nat) := [(0, .iconst 0, 1), (1, .istore_n 1, 1), (2, .iconst 0, 1), (3, .istore_n 2, 1), (4, .iload_n 2, 1), (5, .aload_n 0, 1), (6, .getfield 30, 3), (9, .if_icmp .ge 20, 3), (12, .iload_n 1, 1), (13, .aload_n 0, 1), (14, .getfield 11, 3), (17, .iconst 5, 1), (18, .iload_n 2, 1), (19, .iadd, 1), (20, .iaload, 1), (21, .iadd, 1), (22, .istore_n 1, 1), (23, .iinc 2 1, 3), (26, .goto (-22), 3), (29, .iload_n 1, 1), (30, .ireturn, 1)]
/-- SupperTales$House.bearing(I)I -/
def mI_24 : List (Nat × Instr × Nat) := [(0, .iconst 0, 1), (1, .istore_n 2, 1), (2, .iconst 0, 1), (3, .istore_n 3, 1), (4, .iload_n 3, 1), (5, .aload_n 0, 1), (6, .getfield 30, 3), (9, .if_icmp .ge 31, 3), (12, .iload_n 2, 1), (13, .aload_n 0, 1), (14, .getfield 11, 3), (17, .iconst 0, 1), (18, .iload_n 3, 1), (19, .iadd, 1), (20, .iaload, 1), (21, .iload_n 1, 1), (22, .if_icmp .ne 9, 3), (25, .iconst 1, 1), (26, .iload_n 3, 1), (27, .ishl, 1), (28, .goto 4, 3), (31, .iconst 0, 1), (32, .ior, 1), (33, .istore_n 2, 1), (34, .iinc 3 1, 3), (37, .goto (-33), 3), (40, .iload_n 2, 1), (41, .aload_n 0, 1), (42, .getfield 11, 3), (45, .bipush 15, 2), (47, .iaload, 1), (48, .iand, 1), (49, .ireturn, 1)]
/-- SupperTales$House.namesBorne()I -/
def mI_25 : List (Nat × Instr × Nat) := [(0, .iconst 0, 1), (1, .istore_n 1, 1), (2, .iconst 0, 1), (3, .istore_n 2, 1), (4, .iload_n 2, 1), (5, .iconst 4, 1), (6, .if_icmp .ge 27, 3), (9, .iload_n 1, 1), (10, .aload_n 0, 1), (11, .iload_n 2, 1), (12, .invokevirtual 65, 3), (15, .ifCond .eq 9, 3), (18, .iconst 1, 1), (19, .iload_n 2, 1), (20, .ishl, 1), (21, .goto 4, 3), (24, .iconst 0, 1), (25, .ior, 1), (26, .istore_n 1, 1), (27, .iinc 2 1, 3), (30, .goto (-26), 3), (33, .iload_n 1, 1), (34, .ireturn, 1)]
/-- SupperTales$House.rename(II)V -/
def mI_26 : List (Nat × Instr × Nat) := [(0, .aload_n 0, 1), (1, .iload_n 1, 1), (2, .invokevirtual 51, 3), (5, .ifCond .eq 12, 3), (8, .aload_n 0, 1), (9, .getfield 11, 3), (12, .iconst 0, 1), (13, .iload_n 1, 1), (14, .iadd, 1), (15, .iload_n 2, 1), (16, .iastore, 1), (17, .return_, 1)]
/-- SupperTales$House.payFine(I)V -/
def mI_27 : List (Nat × Instr × Nat) := [(0, .aload_n 0, 1), (1, .iload_n 1, 1), (2, .invokevirtual 51, 3), (5, .ifCond .eq 15, 3), (8, .aload_n 0, 1), (9, .getfield 11, 3), (12, .iconst 5, 1), (13, .iload_n 1, 1), (14, .iadd, 1), (15, .dup2, 1), (16, .iaload, 1), (17, .iconst 1, 1), (18, .isub, 1), (19, .iastore, 1), (20, .return_, 1)]
/-- SupperTales$House.handCoin(II)Z -/
def mI_28 : List (Nat × Instr × Nat) := [(0, .aload_n 0, 1), (1, .iload_n 1, 1), (2, .invokevirtual 51, 3), (5, .ifCond .eq 22, 3), (8, .aload_n 0, 1), (9, .iload_n 2, 1), (10, .invokevirtual 51, 3), (13, .ifCond .eq 14, 3), (16, .aload_n 0, 1), (17, .getfield 11, 3), (20, .iconst 5, 1), (21, .iload_n 1, 1), (22, .iadd, 1), (23, .iaload, 1), (24, .ifCond .gt 5, 3), (27, .iconst 0, 1), (28, .ireturn, 1), (29, .aload_n 0, 1), (30, .getfield 11, 3), (33, .iconst 5, 1), (34, .iload_n 1, 1), (35, .iadd, 1), (36, .dup2, 1), (37, .iaload, 1), (38, .iconst 1, 1), (39, .isub, 1), (40, .iastore, 1), (41, .aload_n 0, 1), (42, .getfield 11, 3), (45, .iconst 5, 1), (46, .iload_n 2, 1), (47, .iadd, 1), (48, .dup2, 1), (49, .iaload, 1), (50, .iconst 1, 1), (51, .iadd, 1), (52, .iastore, 1), (53, .iconst 1, 1), (54, .ireturn, 1)]
/-- SupperTales$House.join(II)Z -/
def mI_29 : List (Nat × Instr × Nat) := [(0, .aload_n 0, 1), (1, .iload_n 1, 1), (2, .invokevirtual 51, 3), (5, .ifCond .eq 39, 3), (8, .aload_n 0, 1), (9, .iload_n 2, 1), (10, .invokevirtual 51, 3), (13, .ifCond .eq 31, 3), (16, .aload_n 0, 1), (17, .getfield 11, 3), (20, .bipush 10, 2), (22, .iload_n 1, 1), (23, .iadd, 1), (24, .iaload, 1), (25, .bipush (-9), 2), (27, .if_icmp .ne 17, 3), (30, .aload_n 0, 1), (31, .getfield 11, 3), (34, .bipush 10, 2), (36, .iload_n 2, 1), (37, .iadd, 1), (38, .iaload, 1), (39, .bipush (-9), 2), (41, .if_icmp .eq 5, 3), (44, .iconst 0, 1), (45, .ireturn, 1), (46, .aload_n 0, 1), (47, .getfield 11, 3), (50, .bipush 10, 2), (52, .iload_n 1, 1), (53, .iadd, 1), (54, .iload_n 2, 1), (55, .iastore, 1), (56, .aload_n 0, 1), (57, .getfield 11, 3), (60, .bipush 10, 2), (62, .iload_n 2, 1), (63, .iadd, 1), (64, .iload_n 1, 1), (65, .iastore, 1), (66, .iconst 1, 1), (67, .ireturn, 1)]
/-- SupperTales$House.bury(I)V -/
def mI_30 : List (Nat × Instr × Nat) := [(0, .aload_n 0, 1), (1, .iload_n 1, 1), (2, .invokevirtual 51, 3), (5, .ifCond .ne 4, 3), (8, .return_, 1), (9, .aload_n 0, 1), (10, .getfield 11, 3), (13, .bipush 10, 2), (15, .iload_n 1, 1), (16, .iadd, 1), (17, .iaload, 1), (18, .istore_n 2, 1), (19, .aload_n 0, 1), (20, .iload_n 2, 1), (21, .invokevirtual 51, 3), (24, .ifCond .eq 14, 3), (27, .aload_n 0, 1), (28, .getfield 11, 3), (31, .bipush 10, 2), (33, .iload_n 2, 1), (34, .iadd, 1), (35, .bipush (-9), 2), (37, .iastore, 1), (38, .aload_n 0, 1), (39, .getfield 11, 3), (42, .bipush 10, 2), (44, .iload_n 1, 1), (45, .iadd, 1), (46, .bipush (-9), 2), (48, .iastore, 1), (49, .aload_n 0, 1), (50, .getfield 11, 3), (53, .bipush 15, 2), (55, .dup2, 1), (56, .iaload, 1), (57, .iconst 1, 1), (58, .iload_n 1, 1), (59, .ishl, 1), (60, .iconst (-1), 1), (61, .ixor, 1), (62, .iand, 1), (63, .iastore, 1), (64, .return_, 1)]
/-- SupperTales$House.isLike(LSupperTales$House;)Z -/
def mI_31 : List (Nat × Instr × Nat) := [(0, .aload_n 0, 1), (1, .getfield 30, 3), (4, .aload_n 1, 1), (5, .getfield 30, 3), (8, .if_icmp .ne 19, 3), (11, .aload_n 0, 1), (12, .aload_n 1, 1), (13, .getfield 11, 3), (16, .iconst 0, 1), (17, .invokevirtual 68, 3), (20, .ifCond .eq 7, 3), (23, .iconst 1, 1), (24, .goto 4, 3), (27, .iconst 0, 1), (28, .ireturn, 1)]
/-- SupperTales$House.isLikeRow([II)Z -/
def mI_32 : List (Nat × Instr × Nat) := [(0, .iload_n 2, 1), (1, .ifCond .lt 12, 3), (4, .iload_n 2, 1), (5, .aload_n 1, 1), (6, .arraylength, 1), (7, .bipush 17, 2), (9, .isub, 1), (10, .if_icmp .le 5, 3), (13, .iconst 0, 1), (14, .ireturn, 1), (15, .iconst 0, 1), (16, .istore_n 3, 1), (17, .iload_n 3, 1), (18, .aload_n 0, 1), (19, .getfield 30, 3), (22, .if_icmp .ge 67, 3), (25, .aload_n 0, 1), (26, .getfield 11, 3), (29, .iconst 0, 1), (30, .iload_n 3, 1), (31, .iadd, 1), (32, .iaload, 1), (33, .aload_n 1, 1), (34, .iload_n 2, 1), (35, .iconst 0, 1), (36, .iadd, 1), (37, .iload_n 3, 1), (38, .iadd, 1), (39, .iaload, 1), (40, .if_icmp .ne 41, 3), (43, .aload_n 0, 1), (44, .getfield 11, 3), (47, .iconst 5, 1), (48, .iload_n 3, 1), (49, .iadd, 1), (50, .iaload, 1), (51, .aload_n 1, 1), (52, .iload_n 2, 1), (53, .iconst 5, 1), (54, .iadd, 1), (55, .iload_n 3, 1), (56, .iadd, 1), (57, .iaload, 1), (58, .if_icmp .ne 23, 3), (61, .aload_n 0, 1), (62, .getfield 11, 3), (65, .bipush 10, 2), (67, .iload_n 3, 1), (68, .iadd, 1), (69, .iaload, 1), (70, .aload_n 1, 1), (71, .iload_n 2, 1), (72, .bipush 10, 2), (74, .iadd, 1), (75, .iload_n 3, 1), (76, .iadd, 1), (77, .iaload, 1), (78, .if_icmp .eq 5, 3), (81, .iconst 0, 1), (82, .ireturn, 1), (83, .iinc 3 1, 3), (86, .goto (-69), 3), (89, .aload_n 0, 1), (90, .getfield 11, 3), (93, .bipush 15, 2), (95, .iaload, 1), (96, .aload_n 1, 1), (97, .iload_n 2, 1), (98, .bipush 15, 2), (100, .iadd, 1), (101, .iaload, 1), (102, .if_icmp .ne 7, 3), (105, .iconst 1, 1), (106, .goto 4, 3), (109, .iconst 0, 1), (110, .ireturn, 1)]
/-- SupperTales$House.copyToRow([II)V -/
def mI_33 : List (Nat × Instr × Nat) := [(0, .iload_n 2, 1), (1, .ifCond .lt 24, 3), (4, .iload_n 2, 1), (5, .aload_n 1, 1), (6, .arraylength, 1), (7, .bipush 17, 2), (9, .isub, 1), (10, .if_icmp .gt 15, 3), (13, .aload_n 0, 1), (14, .getfield 11, 3), (17, .iconst 0, 1), (18, .aload_n 1, 1), (19, .iload_n 2, 1), (20, .bipush 17, 2), (22, .invokestatic 41, 3), (25, .return_, 1)]
/-- SupperTales$House.copyFromRow([II)V -/
def mI_34 : List (Nat × Instr × Nat) := [(0, .iload_n 2, 1), (1, .ifCond .lt 24, 3), (4, .iload_n 2, 1), (5, .aload_n 1, 1), (6, .arraylength, 1), (7, .bipush 17, 2), (9, .isub, 1), (10, .if_icmp .gt 15, 3), (13, .aload_n 1, 1), (14, .iload_n 2, 1), (15, .aload_n 0, 1), (16, .getfield 11, 3), (19, .iconst 0, 1), (20, .bipush 17, 2), (22, .invokestatic 41, 3), (25, .return_, 1)]
/-- SupperTales$Scroll.<init>()V -/
def mI_35 : List (Nat × Instr × Nat) := [(0, .aload_n 0, 1), (1, .invokespecial 3, 3), (4, .aload_n 0, 1), (5, .bipush 24, 2), (7, .newarray .int, 2), (9, .putfield 9, 3), (12, .return_, 1)]
/-- SupperTales$Scroll.length()I -/
def mI_36 : List (Nat × Instr × Nat) := [(0, .aload_n 0, 1), (1, .getfield 15, 3), (4, .ireturn, 1)]
/-- SupperTales$Scroll.isFull()Z -/
def mI_37 : List (Nat × Instr × Nat) := [(0, .aload_n 0, 1), (1, .getfield 15, 3), (4, .aload_n 0, 1), (5, .getfield 9, 3), (8, .arraylength, 1), (9, .if_icmp .lt 7, 3), (12, .iconst 1, 1), (13, .goto 4, 3), (16, .iconst 0, 1), (17, .ireturn, 1)]
/-- SupperTales$Scroll.add(I)I -/
def mI_38 : List (Nat × Instr × Nat) := [(0, .aload_n 0, 1), (1, .invokevirtual 19, 3), (4, .ifCond .ne 23, 3), (7, .aload_n 0, 1), (8, .getfield 9, 3), (11, .aload_n 0, 1), (12, .getfield 15, 3), (15, .iload_n 1, 1), (16, .iastore, 1), (17, .aload_n 0, 1), (18, .dup, 1), (19, .getfield 15, 3), (22, .iconst 1, 1), (23, .iadd, 1), (24, .putfield 15, 3), (27, .aload_n 0, 1), (28, .getfield 15, 3), (31, .ireturn, 1)]
/-- SupperTales$Scroll.empty()I -/
def mI_39 : List (Nat × Instr × Nat) := [(0, .aload_n 0, 1), (1, .getfield 15, 3), (4, .istore_n 1, 1), (5, .aload_n 0, 1), (6, .iconst 0, 1), (7, .putfield 15, 3), (10, .iload_n 1, 1), (11, .ireturn, 1)]
/-- SupperTales$Scroll.letterAt(I)I -/
def mI_40 : List (Nat × Instr × Nat) := [(0, .iload_n 1, 1), (1, .ifCond .lt 20, 3), (4, .iload_n 1, 1), (5, .aload_n 0, 1), (6, .getfield 15, 3), (9, .if_icmp .ge 12, 3), (12, .aload_n 0, 1), (13, .getfield 9, 3), (16, .iload_n 1, 1), (17, .iaload, 1), (18, .goto 5, 3), (21, .bipush (-9), 2), (23, .ireturn, 1)]
/-- SupperTales$Scroll.innFault()I -/
def mI_41 : List (Nat × Instr × Nat) := [(0, .iconst 0, 1), (1, .istore_n 1, 1), (2, .iload_n 1, 1), (3, .aload_n 0, 1), (4, .getfield 15, 3), (7, .if_icmp .ge 23, 3), (10, .iload_n 1, 1), (11, .aload_n 0, 1), (12, .iload_n 1, 1), (13, .invokevirtual 23, 3), (16, .invokestatic 27, 3), (19, .ifCond .ne 5, 3), (22, .iload_n 1, 1), (23, .ireturn, 1), (24, .iinc 1 1, 3), (27, .goto (-25), 3), (30, .aload_n 0, 1), (31, .getfield 15, 3), (34, .iconst 4, 1), (35, .irem, 1), (36, .iconst 1, 1), (37, .if_icmp .ne 8, 3), (40, .bipush (-9), 2), (42, .goto 7, 3), (45, .aload_n 0, 1), (46, .getfield 15, 3), (49, .ireturn, 1)]
/-- SupperTales$Scroll.taleFault()I -/
def mI_42 : List (Nat × Instr × Nat) := [(0, .aload_n 0, 1), (1, .invokevirtual 31, 3), (4, .istore_n 1, 1), (5, .iload_n 1, 1), (6, .aload_n 0, 1), (7, .getfield 15, 3), (10, .if_icmp .ne 17, 3), (13, .aload_n 0, 1), (14, .getfield 15, 3), (17, .iconst 3, 1), (18, .irem, 1), (19, .ifCond .ne 8, 3), (22, .bipush (-9), 2), (24, .goto 4, 3), (27, .iload_n 1, 1), (28, .ireturn, 1)]
/-- SupperTales$Scroll.wholeDeeds()I -/
def mI_43 : List (Nat × Instr × Nat) := [(0, .aload_n 0, 1), (1, .invokevirtual 31, 3), (4, .iconst 3, 1), (5, .idiv, 1), (6, .ireturn, 1)]
/-- SupperTales$Scroll.deedAt(I)I -/
def mI_44 : List (Nat × Instr × Nat) := [(0, .iload_n 1, 1), (1, .iconst 3, 1), (2, .imul, 1), (3, .istore_n 2, 1), (4, .aload_n 0, 1), (5, .iload_n 2, 1), (6, .invokevirtual 23, 3), (9, .invokestatic 35, 3), (12, .istore_n 3, 1), (13, .iload_n 3, 1), (14, .bipush 16, 2), (16, .imul, 1), (17, .aload_n 0, 1), (18, .iload_n 2, 1), (19, .iconst 1, 1), (20, .iadd, 1), (21, .invokevirtual 23, 3), (24, .bipush 97, 2), (26, .isub, 1), (27, .iconst 4, 1), (28, .imul, 1), (29, .iadd, 1), (30, .aload_n 0, 1), (31, .iload_n 2, 1), (32, .iconst 2, 1), (33, .iadd, 1), (34, .invokevirtual 23, 3), (37, .iadd, 1), (38, .bipush 97, 2), (40, .isub, 1), (41, .ireturn, 1)]
/-- SupperTales$Scroll.soundInTale()I -/
def mI_45 : List (Nat × Instr × Nat) := [(0, .iconst 0, 1), (1, .istore_n 1, 1), (2, .iload_n 1, 1), (3, .aload_n 0, 1), (4, .getfield 15, 3), (7, .if_icmp .ge 23, 3), (10, .iload_n 1, 1), (11, .aload_n 0, 1), (12, .iload_n 1, 1), (13, .invokevirtual 23, 3), (16, .invokestatic 38, 3), (19, .ifCond .ne 5, 3), (22, .iload_n 1, 1), (23, .ireturn, 1), (24, .iinc 1 1, 3), (27, .goto (-25), 3), (30, .aload_n 0, 1), (31, .getfield 15, 3), (34, .ireturn, 1)]
/-- SupperTales$Scroll.fitsInn(II)Z -/
def mI_46 : List (Nat × Instr × Nat) := [(0, .iload_n 0, 1), (1, .ifCond .ne 15, 3), (4, .iload_n 1, 1), (5, .bipush 73, 2), (7, .if_icmp .ne 7, 3), (10, .iconst 1, 1), (11, .goto 4, 3), (14, .iconst 0, 1), (15, .ireturn, 1), (16, .iload_n 0, 1), (17, .bipush 20, 2), (19, .if_icmp .le 5, 3), (22, .iconst 0, 1), (23, .ireturn, 1), (24, .iload_n 0, 1), (25, .iconst 4, 1), (26, .irem, 1), (27, .tableswitch 60 1 3 #[25, 37, 42], 25), (52, .iload_n 1, 1), (53, .bipush 71, 2), (55, .if_icmp .ne 7, 3), (58, .iconst 1, 1), (59, .goto 4, 3), (62, .iconst 0, 1), (63, .ireturn, 1), (64, .iload_n 1, 1), (65, .invokestatic 41, 3), (68, .ireturn, 1), (69, .iload_n 1, 1), (70, .bipush 48, 2), (72, .if_icmp .lt 13, 3), (75, .iload_n 1, 1), (76, .bipush 57, 2), (78, .if_icmp .gt 7, 3), (81, .iconst 1, 1), (82, .goto 4, 3), (85, .iconst 0, 1), (86, .ireturn, 1), (87, .iload_n 1, 1), (88, .bipush 48, 2), (90, .if_icmp .lt 13, 3), (93, .iload_n 1, 1), (94, .bipush 51, 2), (96, .if_icmp .gt 7, 3), (99, .iconst 1, 1), (100, .goto 4, 3), (103, .iconst 0, 1), (104, .ireturn, 1)]
/-- SupperTales$Scroll.fitsTale(II)Z -/
def mI_47 : List (Nat × Instr × Nat) := [(0, .iload_n 0, 1), (1, .iconst 3, 1), (2, .irem, 1), (3, .ifCond .ne 20, 3), (6, .iload_n 1, 1), (7, .invokestatic 35, 3), (10, .bipush (-9), 2), (12, .if_icmp .eq 7, 3), (15, .iconst 1, 1), (16, .goto 11, 3), (19, .iconst 0, 1), (20, .goto 7, 3), (23, .iload_n 1, 1), (24, .invokestatic 41, 3), (27, .ireturn, 1)]
/-- SupperTales$Scroll.isNameLetter(I)Z -/
def mI_48 : List (Nat × Instr × Nat) := [(0, .iload_n 0, 1), (1, .bipush 97, 2), (3, .if_icmp .lt 13, 3), (6, .iload_n 0, 1), (7, .bipush 100, 2), (9, .if_icmp .gt 7, 3), (12, .iconst 1, 1), (13, .goto 4, 3), (16, .iconst 0, 1), (17, .ireturn, 1)]
/-- SupperTales$Scroll.kindOfLetter(I)I -/
def mI_49 : List (Nat × Instr × Nat) := [(0, .iload_n 0, 1), (1, .lookupswitch 51 #[(103, 47), (107, 43), (116, 49), (119, 45)], 43), (44, .iconst 0, 1), (45, .ireturn, 1), (46, .iconst 1, 1), (47, .ireturn, 1), (48, .iconst 2, 1), (49, .ireturn, 1), (50, .iconst 3, 1), (51, .ireturn, 1), (52, .bipush (-9), 2), (54, .ireturn, 1)]
/-- SupperTales$Search.<init>()V -/
def mI_50 : List (Nat × Instr × Nat) := [(0, .aload_n 0, 1), (1, .invokespecial 3, 3), (4, .aload_n 0, 1), (5, .new 9, 3), (8, .dup, 1), (9, .invokespecial 11, 3), (12, .putfield 12, 3), (15, .aload_n 0, 1), (16, .new 9, 3), (19, .dup, 1), (20, .invokespecial 11, 3), (23, .putfield 18, 3), (26, .aload_n 0, 1), (27, .new 9, 3), (30, .dup, 1), (31, .invokespecial 11, 3), (34, .putfield 21, 3), (37, .return_, 1)]
/-- SupperTales$Search.seek(LSupperTales$House;III)V -/
def mI_51 : List (Nat × Instr × Nat) := [(0, .aload_n 0, 1), (1, .getfield 12, 3), (4, .aload_n 1, 1), (5, .invokevirtual 24, 3), (8, .aload_n 1, 1), (9, .iload_n 2, 1), (10, .iload_n 3, 1), (11, .iload 4, 2), (13, .invokestatic 28, 3), (16, .ifCond .eq 9, 3), (19, .aload_n 0, 1), (20, .iconst 0, 1), (21, .putfield 32, 3), (24, .return_, 1), (25, .aload_n 0, 1), (26, .aload_n 0, 1), (27, .aload_n 0, 1), (28, .getfield 12, 3), (31, .iload_n 2, 1), (32, .iload_n 3, 1), (33, .iload 4, 2), (35, .invokevirtual 36, 3), (38, .putfield 40, 3), (41, .aload_n 0, 1), (42, .getfield 40, 3), (45, .bipush (-9), 2), (47, .if_icmp .eq 9, 3), (50, .aload_n 0, 1), (51, .iconst 1, 1), (52, .putfield 32, 3), (55, .return_, 1), (56, .iconst 0, 1), (57, .istore 5, 2), (59, .iload 5, 2), (61, .bipush 64, 2), (63, .if_icmp .ge 67, 3), (66, .aload_n 0, 1), (67, .getfield 18, 3), (70, .aload_n 0, 1), (71, .getfield 12, 3), (74, .invokevirtual 43, 3), (77, .aload_n 0, 1), (78, .getfield 18, 3), (81, .iload 5, 2), (83, .iconst 0, 1), (84, .invokevirtual 47, 3), (87, .aload_n 0, 1), (88, .aload_n 0, 1), (89, .aload_n 0, 1), (90, .getfield 18, 3), (93, .iload_n 2, 1), (94, .iload_n 3, 1), (95, .iload 4, 2), (97, .invokevirtual 36, 3), (100, .putfield 51, 3), (103, .aload_n 0, 1), (104, .getfield 51, 3), (107, .bipush (-9), 2), (109, .if_icmp .eq 15, 3), (112, .aload_n 0, 1), (113, .iload 5, 2), (115, .putfield 40, 3), (118, .aload_n 0, 1), (119, .iconst 2, 1), (120, .putfield 32, 3), (123, .return_, 1), (124, .iinc 5 1, 3), (127, .goto (-68), 3), (130, .aload_n 0, 1), (131, .bipush (-9), 2), (133, .putfield 32, 3), (136, .return_, 1)]
/-- SupperTales$Search.lastDeedBehind(LSupperTales$Telling;III)I -/
def mI_52 : List (Nat × Instr × Nat) := [(0, .iload_n 3, 1), (1, .bipush 16, 2), (3, .imul, 1), (4, .istore 5, 2), (6, .iload 5, 2), (8, .istore 6, 2), (10, .iload 6, 2), (12, .iload 5, 2), (14, .bipush 16, 2), (16, .iadd, 1), (17, .if_icmp .ge 47, 3), (20, .aload_n 0, 1), (21, .getfield 21, 3), (24, .aload_n 1, 1), (25, .invokevirtual 43, 3), (28, .aload_n 0, 1), (29, .getfield 21, 3), (32, .iload 6, 2), (34, .iconst 1, 1), (35, .invokevirtual 47, 3), (38, .aload_n 0, 1), (39, .getfield 21, 3), (42, .getfield 54, 3), (45, .iload_n 2, 1), (46, .iload_n 3, 1), (47, .iload 4, 2), (49, .invokestatic 28, 3), (52, .ifCond .eq 6, 3), (55, .iload 6, 2), (57, .ireturn, 1), (58, .iinc 6 1, 3), (61, .goto (-51), 3), (64, .bipush (-9), 2), (66, .ireturn, 1)]
/-- SupperTales$Search.isEnd(LSupperTales$House;III)Z -/
def mI_53 : List (Nat × Instr × Nat) := [(0, .iload_n 2, 1), (1, .tableswitch 71 0 2 #[27, 41, 56], 27), (28, .aload_n 0, 1), (29, .iload_n 1, 1), (30, .invokevirtual 58, 3), (33, .ifCond .ne 7, 3), (36, .iconst 1, 1), (37, .goto 4, 3), (40, .iconst 0, 1), (41, .ireturn, 1), (42, .aload_n 0, 1), (43, .iload_n 1, 1), (44, .invokevirtual 64, 3), (47, .iload_n 3, 1), (48, .if_icmp .ne 7, 3), (51, .iconst 1, 1), (52, .goto 4, 3), (55, .iconst 0, 1), (56, .ireturn, 1), (57, .aload_n 0, 1), (58, .iload_n 1, 1), (59, .invokevirtual 68, 3), (62, .iload_n 3, 1), (63, .if_icmp .lt 7, 3), (66, .iconst 1, 1), (67, .goto 4, 3), (70, .iconst 0, 1), (71, .ireturn, 1), (72, .aload_n 0, 1), (73, .iload_n 1, 1), (74, .invokevirtual 71, 3), (77, .iload_n 3, 1), (78, .if_icmp .ne 7, 3), (81, .iconst 1, 1), (82, .goto 4, 3), (85, .iconst 0, 1), (86, .ireturn, 1)]
/-- SupperTales$Shelf.<init>(I)V -/
def mI_54 : List (Nat × Instr × Nat) := [(0, .aload_n 0, 1), (1, .invokespecial 3, 3), (4, .aload_n 0, 1), (5, .iload_n 1, 1), (6, .iconst 1, 1), (7, .invokestatic 9, 3), (10, .bipush 17, 2), (12, .imul, 1), (13, .newarray .int, 2), (15, .putfield 17, 3), (18, .return_, 1)]
/-- SupperTales$Shelf.put(ILSupperTales$House;)V -/
def mI_55 : List (Nat × Instr × Nat) := [(0, .aload_n 2, 1), (1, .aload_n 0, 1), (2, .getfield 17, 3), (5, .iload_n 1, 1), (6, .bipush 17, 2), (8, .imul, 1), (9, .invokevirtual 23, 3), (12, .return_, 1)]
/-- SupperTales$Shelf.fetch(ILSupperTales$House;)V -/
def mI_56 : List (Nat × Instr × Nat) := [(0, .aload_n 2, 1), (1, .aload_n 0, 1), (2, .getfield 17, 3), (5, .iload_n 1, 1), (6, .bipush 17, 2), (8, .imul, 1), (9, .invokevirtual 27, 3), (12, .return_, 1)]
/-- SupperTales$Shelf.firstLike(LSupperTales$House;I)I -/
def mI_57 : List (Nat × Instr × Nat) := [(0, .iconst 0, 1), (1, .istore_n 3, 1), (2, .iload_n 3, 1), (3, .iload_n 2, 1), (4, .if_icmp .ge 26, 3), (7, .aload_n 1, 1), (8, .aload_n 0, 1), (9, .getfield 17, 3), (12, .iload_n 3, 1), (13, .bipush 17, 2), (15, .imul, 1), (16, .invokevirtual 30, 3), (19, .ifCond .eq 5, 3), (22, .iload_n 3, 1), (23, .ireturn, 1), (24, .iinc 3 1, 3), (27, .goto (-25), 3), (30, .bipush (-9), 2), (32, .ireturn, 1)]
/-- SupperTales$Shelf.dropFirst()V -/
def mI_58 : List (Nat × Instr × Nat) := [(0, .aload_n 0, 1), (1, .getfield 17, 3), (4, .bipush 17, 2), (6, .aload_n 0, 1), (7, .getfield 17, 3), (10, .iconst 0, 1), (11, .aload_n 0, 1), (12, .getfield 17, 3), (15, .arraylength, 1), (16, .bipush 17, 2), (18, .isub, 1), (19, .invokestatic 34, 3), (22, .return_, 1)]
/-- SupperTales$Sights.<init>()V -/
def mI_59 : List (Nat × Instr × Nat) := [(0, .aload_n 0, 1), (1, .invokespecial 3, 3), (4, .aload_n 0, 1), (5, .bipush 6, 2), (7, .newarray .int, 2), (9, .putfield 9, 3), (12, .aload_n 0, 1), (13, .bipush 6, 2), (15, .newarray .int, 2), (17, .putfield 15, 3), (20, .return_, 1)]
/-- SupperTales$Sights.isFull()Z -/
def mI_60 : List (Nat × Instr × Nat) := [(0, .aload_n 0, 1), (1, .getfield 18, 3), (4, .bipush 6, 2), (6, .if_icmp .lt 7, 3), (9, .iconst 1, 1), (10, .goto 4, 3), (13, .iconst 0, 1), (14, .ireturn, 1)]
/-- SupperTales$Sights.add(II)I -/
def mI_61 : List (Nat × Instr × Nat) := [(0, .aload_n 0, 1), (1, .invokevirtual 22, 3), (4, .ifCond .ne 33, 3), (7, .aload_n 0, 1), (8, .getfield 9, 3), (11, .aload_n 0, 1), (12, .getfield 18, 3), (15, .iload_n 1, 1), (16, .iastore, 1), (17, .aload_n 0, 1), (18, .getfield 15, 3), (21, .aload_n 0, 1), (22, .getfield 18, 3), (25, .iload_n 2, 1), (26, .iastore, 1), (27, .aload_n 0, 1), (28, .dup, 1), (29, .getfield 18, 3), (32, .iconst 1, 1), (33, .iadd, 1), (34, .putfield 18, 3), (37, .aload_n 0, 1), (38, .getfield 18, 3), (41, .ireturn, 1)]
/-- SupperTales$Sights.empty()I -/
def mI_62 : List (Nat × Instr × Nat) := [(0, .aload_n 0, 1), (1, .getfield 18, 3), (4, .istore_n 1, 1), (5, .aload_n 0, 1), (6, .iconst 0, 1), (7, .putfield 18, 3), (10, .iload_n 1, 1), (11, .ireturn, 1)]
/-- SupperTales$Sights.fit(LSupperTales$House;)Z -/
def mI_63 : List (Nat × Instr × Nat) := [(0, .iconst 0, 1), (1, .istore_n 2, 1), (2, .iload_n 2, 1), (3, .aload_n 0, 1), (4, .getfield 18, 3), (7, .if_icmp .ge 43, 3), (10, .aload_n 1, 1), (11, .aload_n 0, 1), (12, .getfield 9, 3), (15, .iload_n 2, 1), (16, .iaload, 1), (17, .invokevirtual 26, 3), (20, .ifCond .eq 24, 3), (23, .aload_n 1, 1), (24, .aload_n 0, 1), (25, .getfield 9, 3), (28, .iload_n 2, 1), (29, .iaload, 1), (30, .aload_n 0, 1), (31, .getfield 15, 3), (34, .iload_n 2, 1), (35, .iaload, 1), (36, .invokestatic 32, 3), (39, .ifCond .ne 5, 3), (42, .iconst 0, 1), (43, .ireturn, 1), (44, .iinc 2 1, 3), (47, .goto (-45), 3), (50, .iconst 1, 1), (51, .ireturn, 1)]
/-- SupperTales$Sights.isSo(LSupperTales$House;II)Z -/
def mI_64 : List (Nat × Instr × Nat) := [(0, .iload_n 2, 1), (1, .sipush 1000, 3), (4, .if_icmp .ne 17, 3), (7, .aload_n 0, 1), (8, .iload_n 1, 1), (9, .invokevirtual 36, 3), (12, .ifCond .ne 7, 3), (15, .iconst 1, 1), (16, .goto 4, 3), (19, .iconst 0, 1), (20, .ireturn, 1), (21, .iload_n 2, 1), (22, .sipush 1001, 3), (25, .if_icmp .ne 9, 3), (28, .aload_n 0, 1), (29, .iload_n 1, 1), (30, .invokevirtual 36, 3), (33, .ireturn, 1), (34, .aload_n 0, 1), (35, .iload_n 1, 1), (36, .invokevirtual 39, 3), (39, .iload_n 2, 1), (40, .if_icmp .ne 7, 3), (43, .iconst 1, 1), (44, .goto 4, 3), (47, .iconst 0, 1), (48, .ireturn, 1)]
/-- SupperTales$Telling.<init>()V -/
def mI_65 : List (Nat × Instr × Nat) := [(0, .aload_n 0, 1), (1, .invokespecial 3, 3), (4, .aload_n 0, 1), (5, .new 9, 3), (8, .dup, 1), (9, .invokespecial 11, 3), (12, .putfield 12, 3), (15, .aload_n 0, 1), (16, .iconst 5, 1), (17, .newarray .int, 2), (19, .putfield 18, 3), (22, .return_, 1)]
/-- SupperTales$Telling.begin(LSupperTales$House;)V -/
def mI_66 : List (Nat × Instr × Nat) := [(0, .aload_n 0, 1), (1, .getfield 12, 3), (4, .aload_n 1, 1), (5, .invokevirtual 22, 3), (8, .iconst 0, 1), (9, .istore_n 2, 1), (10, .iload_n 2, 1), (11, .aload_n 0, 1), (12, .getfield 18, 3), (15, .arraylength, 1), (16, .if_icmp .ge 23, 3), (19, .aload_n 0, 1), (20, .getfield 18, 3), (23, .iload_n 2, 1), (24, .aload_n 0, 1), (25, .getfield 12, 3), (28, .iload_n 2, 1), (29, .invokevirtual 26, 3), (32, .iastore, 1), (33, .iinc 2 1, 3), (36, .goto (-26), 3), (39, .aload_n 0, 1), (40, .iconst 0, 1), (41, .putfield 30, 3), (44, .aload_n 0, 1), (45, .iconst 0, 1), (46, .putfield 34, 3), (49, .return_, 1)]
/-- SupperTales$Telling.copyFrom(LSupperTales$Telling;)V -/
def mI_67 : List (Nat × Instr × Nat) := [(0, .aload_n 0, 1), (1, .getfield 12, 3), (4, .aload_n 1, 1), (5, .getfield 12, 3), (8, .invokevirtual 22, 3), (11, .aload_n 1, 1), (12, .getfield 18, 3), (15, .iconst 0, 1), (16, .aload_n 0, 1), (17, .getfield 18, 3), (20, .iconst 0, 1), (21, .aload_n 0, 1), (22, .getfield 18, 3), (25, .arraylength, 1), (26, .invokestatic 37, 3), (29, .aload_n 0, 1), (30, .aload_n 1, 1), (31, .getfield 30, 3), (34, .putfield 30, 3), (37, .aload_n 0, 1), (38, .aload_n 1, 1), (39, .getfield 34, 3), (42, .putfield 34, 3), (45, .return_, 1)]
/-- SupperTales$Telling.hearAll(LSupperTales$House;LSupperTales$Scroll;)V -/
def mI_68 : List (Nat × Instr × Nat) := [(0, .aload_n 0, 1), (1, .aload_n 1, 1), (2, .invokevirtual 43, 3), (5, .aload_n 2, 1), (6, .invokevirtual 46, 3), (9, .istore_n 3, 1), (10, .iconst 0, 1), (11, .istore 4, 2), (13, .iload 4, 2), (15, .iload_n 3, 1), (16, .if_icmp .ge 21, 3), (19, .aload_n 0, 1), (20, .aload_n 2, 1), (21, .iload 4, 2), (23, .invokevirtual 52, 3), (26, .iload 4, 2), (28, .invokevirtual 55, 3), (31, .iinc 4 1, 3), (34, .goto (-21), 3), (37, .return_, 1)]
/-- SupperTales$Telling.hear(II)V -/
def mI_69 : List (Nat × Instr × Nat) := [(0, .aload_n 0, 1), (1, .iload_n 1, 1), (2, .invokevirtual 59, 3), (5, .istore_n 3, 1), (6, .iload_n 3, 1), (7, .ifCond .ne 9, 3), (10, .aload_n 0, 1), (11, .iload_n 1, 1), (12, .invokevirtual 62, 3), (15, .return_, 1), (16, .iload_n 3, 1), (17, .invokestatic 66, 3), (20, .istore 4, 2), (22, .aload_n 0, 1), (23, .iload_n 1, 1), (24, .iload 4, 2), (26, .invokevirtual 69, 3), (29, .istore 5, 2), (31, .iload 5, 2), (33, .ifCond .ne 12, 3), (36, .aload_n 0, 1), (37, .iload 4, 2), (39, .invokevirtual 73, 3), (42, .goto 16, 3), (45, .aload_n 0, 1), (46, .iload_n 1, 1), (47, .iload_n 2, 1), (48, .iload 4, 2), (50, .iload 5, 2), (52, .invokestatic 66, 3), (55, .invokevirtual 76, 3), (58, .return_, 1)]
/-- SupperTales$Telling.doersOf(I)I -/
def mI_70 : List (Nat × Instr × Nat) := [(0, .aload_n 0, 1), (1, .getfield 12, 3), (4, .iload_n 1, 1), (5, .invokestatic 80, 3), (8, .invokevirtual 83, 3), (11, .istore_n 2, 1), (12, .iconst 0, 1), (13, .istore_n 3, 1), (14, .iload_n 3, 1), (15, .aload_n 0, 1), (16, .getfield 18, 3), (19, .arraylength, 1), (20, .if_icmp .ge 26, 3), (23, .aload_n 0, 1), (24, .getfield 18, 3), (27, .iload_n 3, 1), (28, .iaload, 1), (29, .ifCond .gt 11, 3), (32, .iload_n 2, 1), (33, .iconst 1, 1), (34, .iload_n 3, 1), (35, .ishl, 1), (36, .iconst (-1), 1), (37, .ixor, 1), (38, .iand, 1), (39, .istore_n 2, 1), (40, .iinc 3 1, 3), (43, .goto (-29), 3), (46, .iload_n 2, 1), (47, .ireturn, 1)]
/-- SupperTales$Telling.othersOf(II)I -/
def mI_71 : List (Nat × Instr × Nat) := [(0, .aload_n 0, 1), (1, .getfield 12, 3), (4, .iload_n 1, 1), (5, .invokestatic 86, 3), (8, .invokevirtual 83, 3), (11, .iconst 1, 1), (12, .iload_n 2, 1), (13, .ishl, 1), (14, .iconst (-1), 1), (15, .ixor, 1), (16, .iand, 1), (17, .ireturn, 1)]
/-- SupperTales$Telling.failWithoutDoer(I)V -/
def mI_72 : List (Nat × Instr × Nat) := [(0, .aload_n 0, 1), (1, .getfield 12, 3), (4, .iload_n 1, 1), (5, .invokestatic 80, 3), (8, .invokevirtual 83, 3), (11, .istore_n 2, 1), (12, .iload_n 2, 1), (13, .ifCond .eq 11, 3), (16, .aload_n 0, 1), (17, .iload_n 2, 1), (18, .invokestatic 66, 3), (21, .invokevirtual 73, 3), (24, .return_, 1)]
/-- SupperTales$Telling.attempt(IIII)V -/
def mI_73 : List (Nat × Instr × Nat) := [(0, .iconst 1, 1), (1, .istore 5, 2), (3, .iload_n 1, 1), (4, .invokestatic 89, 3), (7, .tableswitch 67 0 2 #[25, 37, 52], 25), (32, .aload_n 0, 1), (33, .getfield 12, 3), (36, .iload 4, 2), (38, .invokevirtual 92, 3), (41, .goto 45, 3), (44, .aload_n 0, 1), (45, .getfield 12, 3), (48, .iload_n 3, 1), (49, .iload 4, 2), (51, .invokevirtual 95, 3), (54, .istore 5, 2), (56, .goto 30, 3), (59, .aload_n 0, 1), (60, .getfield 12, 3), (63, .iload_n 3, 1), (64, .iload 4, 2), (66, .invokevirtual 99, 3), (69, .istore 5, 2), (71, .goto 15, 3), (74, .aload_n 0, 1), (75, .getfield 12, 3), (78, .iload_n 3, 1), (79, .iload_n 1, 1), (80, .invokestatic 86, 3), (83, .invokevirtual 102, 3), (86, .iload 5, 2), (88, .ifCond .eq 39, 3), (91, .aload_n 0, 1), (92, .getfield 12, 3), (95, .iload_n 3, 1), (96, .invokevirtual 105, 3), (99, .ifCond .eq 28, 3), (102, .aload_n 0, 1), (103, .getfield 18, 3), (106, .iload_n 3, 1), (107, .dup2, 1), (108, .iaload, 1), (109, .iconst 1, 1), (110, .isub, 1), (111, .iastore, 1), (112, .aload_n 0, 1), (113, .dup, 1), (114, .getfield 30, 3), (117, .iconst 1, 1), (118, .iload_n 2, 1), (119, .ishl, 1), (120, .ior, 1), (121, .putfield 30, 3), (124, .goto 8, 3), (127, .aload_n 0, 1), (128, .iload_n 3, 1), (129, .invokevirtual 73, 3), (132, .return_, 1)]
/-- SupperTales$Telling.fine(I)V -/
def mI_74 : List (Nat × Instr × Nat) := [(0, .aload_n 0, 1), (1, .getfield 12, 3), (4, .iload_n 1, 1), (5, .invokevirtual 109, 3), (8, .aload_n 0, 1), (9, .dup, 1), (10, .getfield 34, 3), (13, .iconst 1, 1), (14, .iadd, 1), (15, .putfield 34, 3), (18, .return_, 1)]
/-- SupperTales.<init>()V -/
def mI_75 : List (Nat × Instr × Nat) := [(0, .aload_n 0, 1), (1, .invokespecial 3, 3), (4, .aload_n 0, 1), (5, .new 9, 3), (8, .dup, 1), (9, .invokespecial 11, 3), (12, .putfield 12, 3), (15, .aload_n 0, 1), (16, .iconst 3, 1), (17, .anewarray 9, 3), (20, .putfield 16, 3), (23, .aload_n 0, 1), (24, .new 20, 3), (27, .dup, 1), (28, .invokespecial 22, 3), (31, .putfield 23, 3), (34, .aload_n 0, 1), (35, .new 20, 3), (38, .dup, 1), (39, .invokespecial 22, 3), (42, .putfield 27, 3), (45, .aload_n 0, 1), (46, .new 30, 3), (49, .dup, 1), (50, .invokespecial 32, 3), (53, .putfield 33, 3), (56, .aload_n 0, 1), (57, .new 37, 3), (60, .dup, 1), (61, .invokespecial 39, 3), (64, .putfield 40, 3), (67, .aload_n 0, 1), (68, .new 44, 3), (71, .dup, 1), (72, .invokespecial 46, 3), (75, .putfield 47, 3), (78, .aload_n 0, 1), (79, .new 51, 3), (82, .dup, 1), (83, .bipush 12, 2), (85, .invokespecial 53, 3), (88, .putfield 56, 3), (91, .aload_n 0, 1), (92, .new 51, 3), (95, .dup, 1), (96, .iconst 2, 1), (97, .invokespecial 53, 3), (100, .putfield 60, 3), (103, .aload_n 0, 1), (104, .new 51, 3), (107, .dup, 1), (108, .bipush 60, 2), (110, .invokespecial 53, 3), (113, .putfield 63, 3), (116, .aload_n 0, 1), (117, .new 66, 3), (120, .dup, 1), (121, .invokespecial 68, 3), (124, .putfield 69, 3), (127, .aload_n 0, 1), (128, .iconst 3, 1), (129, .newarray .int, 2), (131, .putfield 73, 3), (134, .aload_n 0, 1), (135, .bipush 16, 2), (137, .newarray .int, 2), (139, .putfield 77, 3), (142, .aload_n 0, 1), (143, .bipush 16, 2), (145, .newarray .int, 2), (147, .putfield 80, 3), (150, .iconst 0, 1), (151, .istore_n 1, 1), (152, .iload_n 1, 1), (153, .aload_n 0, 1), (154, .getfield 16, 3), (157, .arraylength, 1), (158, .if_icmp .ge 22, 3), (161, .aload_n 0, 1), (162, .getfield 16, 3), (165, .iload_n 1, 1), (166, .new 9, 3), (169, .dup, 1), (170, .invokespecial 11, 3), (173, .aastore, 1), (174, .iinc 1 1, 3), (177, .goto (-25), 3), (180, .aload_n 0, 1), (181, .getfield 73, 3), (184, .iconst 0, 1), (185, .bipush 10, 2), (187, .iastore, 1), (188, .return_, 1)]
/-- SupperTales.write(I)I -/
def mI_76 : List (Nat × Instr × Nat) := [(0, .iload_n 1, 1), (1, .invokestatic 83, 3), (4, .ifCond .ne 6, 3), (7, .bipush (-2), 2), (9, .ireturn, 1), (10, .aload_n 0, 1), (11, .getfield 12, 3), (14, .invokevirtual 87, 3), (17, .ifCond .eq 8, 3), (20, .bipush (-4), 2), (22, .goto 11, 3), (25, .aload_n 0, 1), (26, .getfield 12, 3), (29, .iload_n 1, 1), (30, .invokevirtual 91, 3), (33, .ireturn, 1)]
/-- SupperTales.wipe()I -/
def mI_77 : List (Nat × Instr × Nat) := [(0, .aload_n 0, 1), (1, .getfield 12, 3), (4, .invokevirtual 95, 3), (7, .ireturn, 1)]
/-- SupperTales.fault()I -/
def mI_78 : List (Nat × Instr × Nat) := [(0, .aload_n 0, 1), (1, .getfield 12, 3), (4, .invokevirtual 99, 3), (7, .ireturn, 1)]
/-- SupperTales.inn()I -/
def mI_79 : List (Nat × Instr × Nat) := [(0, .aload_n 0, 1), (1, .getfield 12, 3), (4, .invokevirtual 99, 3), (7, .bipush (-9), 2), (9, .if_icmp .eq 6, 3), (12, .bipush (-3), 2), (14, .ireturn, 1), (15, .aload_n 0, 1), (16, .getfield 23, 3), (19, .aload_n 0, 1), (20, .getfield 12, 3), (23, .invokevirtual 102, 3), (26, .aload_n 0, 1), (27, .iconst 0, 1), (28, .putfield 106, 3), (31, .aload_n 0, 1), (32, .iconst 0, 1), (33, .putfield 110, 3), (36, .aload_n 0, 1), (37, .getfield 23, 3), (40, .invokevirtual 113, 3), (43, .ireturn, 1)]
/-- SupperTales.quill(II)I -/
def mI_80 : List (Nat × Instr × Nat) := [(0, .iload_n 1, 1), (1, .invokestatic 116, 3), (4, .ifCond .ne 5, 3), (7, .iconst (-1), 1), (8, .ireturn, 1), (9, .iload_n 2, 1), (10, .invokestatic 83, 3), (13, .ifCond .ne 6, 3), (16, .bipush (-2), 2), (18, .ireturn, 1), (19, .aload_n 0, 1), (20, .getfield 16, 3), (23, .iload_n 1, 1), (24, .aaload, 1), (25, .invokevirtual 87, 3), (28, .ifCond .eq 8, 3), (31, .bipush (-4), 2), (33, .goto 13, 3), (36, .aload_n 0, 1), (37, .getfield 16, 3), (40, .iload_n 1, 1), (41, .aaload, 1), (42, .iload_n 2, 1), (43, .invokevirtual 91, 3), (46, .ireturn, 1)]
/-- SupperTales.blot(I)I -/
def mI_81 : List (Nat × Instr × Nat) := [(0, .iload_n 1, 1), (1, .invokestatic 116, 3), (4, .ifCond .eq 15, 3), (7, .aload_n 0, 1), (8, .getfield 16, 3), (11, .iload_n 1, 1), (12, .aaload, 1), (13, .invokevirtual 95, 3), (16, .goto 4, 3), (19, .iconst (-1), 1), (20, .ireturn, 1)]
/-- SupperTales.slip(I)I -/
def mI_82 : List (Nat × Instr × Nat) := [(0, .iload_n 1, 1), (1, .invokestatic 116, 3), (4, .ifCond .eq 15, 3), (7, .aload_n 0, 1), (8, .getfield 16, 3), (11, .iload_n 1, 1), (12, .aaload, 1), (13, .invokevirtual 119, 3), (16, .goto 4, 3), (19, .iconst (-1), 1), (20, .ireturn, 1)]
/-- SupperTales.guest(II)I -/
def mI_83 : List (Nat × Instr × Nat) := [(0, .aload_n 0, 1), (1, .getfield 23, 3), (4, .iload_n 1, 1), (5, .invokevirtual 122, 3), (8, .ifCond .ne 5, 3), (11, .iconst (-1), 1), (12, .ireturn, 1), (13, .iload_n 2, 1), (14, .tableswitch 90 0 4 #[34, 43, 55, 64, 81], 34), (48, .aload_n 0, 1), (49, .getfield 23, 3), (52, .iload_n 1, 1), (53, .invokevirtual 125, 3), (56, .ireturn, 1), (57, .aload_n 0, 1), (58, .getfield 23, 3), (61, .iload_n 1, 1), (62, .invokevirtual 128, 3), (65, .bipush 100, 2), (67, .iadd, 1), (68, .ireturn, 1), (69, .aload_n 0, 1), (70, .getfield 23, 3), (73, .iload_n 1, 1), (74, .invokevirtual 131, 3), (77, .ireturn, 1), (78, .aload_n 0, 1), (79, .getfield 23, 3), (82, .iload_n 1, 1), (83, .invokevirtual 134, 3), (86, .ifCond .eq 7, 3), (89, .iconst 1, 1), (90, .goto 4, 3), (93, .iconst 0, 1), (94, .ireturn, 1), (95, .aload_n 0, 1), (96, .getfield 23, 3), (99, .iload_n 1, 1), (100, .invokevirtual 137, 3), (103, .ireturn, 1), (104, .bipush (-2), 2), (106, .ireturn, 1)]
/-- SupperTales.bears(I)I -/
def mI_84 : List (Nat × Instr × Nat) := [(0, .iload_n 1, 1), (1, .invokestatic 140, 3), (4, .ifCond .eq 14, 3), (7, .aload_n 0, 1), (8, .getfield 23, 3), (11, .iload_n 1, 1), (12, .invokevirtual 143, 3), (15, .goto 5, 3), (18, .bipush (-2), 2), (20, .ireturn, 1)]
/-- SupperTales.tell(I)I -/
def mI_85 : List (Nat × Instr × Nat) := [(0, .iload_n 1, 1), (1, .invokestatic 116, 3), (4, .ifCond .ne 5, 3), (7, .iconst (-1), 1), (8, .ireturn, 1), (9, .aload_n 0, 1), (10, .invokevirtual 146, 3), (13, .aload_n 0, 1), (14, .getfield 33, 3), (17, .aload_n 0, 1), (18, .getfield 23, 3), (21, .aload_n 0, 1), (22, .getfield 16, 3), (25, .iload_n 1, 1), (26, .aaload, 1), (27, .invokevirtual 149, 3), (30, .aload_n 0, 1), (31, .getfield 23, 3), (34, .aload_n 0, 1), (35, .getfield 33, 3), (38, .getfield 153, 3), (41, .invokevirtual 156, 3), (44, .aload_n 0, 1), (45, .getfield 33, 3), (48, .getfield 160, 3), (51, .ireturn, 1)]
/-- SupperTales.give(II)I -/
def mI_86 : List (Nat × Instr × Nat) := [(0, .aload_n 0, 1), (1, .getfield 23, 3), (4, .iload_n 1, 1), (5, .invokevirtual 122, 3), (8, .ifCond .ne 5, 3), (11, .iconst (-1), 1), (12, .ireturn, 1), (13, .iload_n 2, 1), (14, .invokestatic 140, 3), (17, .ifCond .ne 6, 3), (20, .bipush (-2), 2), (22, .ireturn, 1), (23, .aload_n 0, 1), (24, .getfield 23, 3), (27, .iload_n 1, 1), (28, .invokevirtual 125, 3), (31, .istore_n 3, 1), (32, .aload_n 0, 1), (33, .getfield 23, 3), (36, .iload_n 1, 1), (37, .invokevirtual 134, 3), (40, .ifCond .eq 8, 3), (43, .iload_n 3, 1), (44, .iload_n 2, 1), (45, .if_icmp .ne 6, 3), (48, .bipush (-3), 2), (50, .ireturn, 1), (51, .aload_n 0, 1), (52, .invokevirtual 146, 3), (55, .aload_n 0, 1), (56, .getfield 23, 3), (59, .iload_n 1, 1), (60, .iload_n 2, 1), (61, .invokevirtual 163, 3), (64, .iload_n 3, 1), (65, .ireturn, 1)]
/-- SupperTales.undo()I -/
def mI_87 : List (Nat × Instr × Nat) := [(0, .aload_n 0, 1), (1, .getfield 106, 3), (4, .ifCond .ne 6, 3), (7, .bipush (-3), 2), (9, .ireturn, 1), (10, .aload_n 0, 1), (11, .dup, 1), (12, .getfield 106, 3), (15, .iconst 1, 1), (16, .isub, 1), (17, .putfield 106, 3), (20, .aload_n 0, 1), (21, .getfield 56, 3), (24, .aload_n 0, 1), (25, .getfield 106, 3), (28, .aload_n 0, 1), (29, .getfield 23, 3), (32, .invokevirtual 167, 3), (35, .aload_n 0, 1), (36, .getfield 106, 3), (39, .ireturn, 1)]
/-- SupperTales.would(II)I -/
def mI_88 : List (Nat × Instr × Nat) := [(0, .iload_n 1, 1), (1, .invokestatic 116, 3), (4, .ifCond .ne 5, 3), (7, .iconst (-1), 1), (8, .ireturn, 1), (9, .iload_n 2, 1), (10, .ifCond .lt 8, 3), (13, .iload_n 2, 1), (14, .iconst 3, 1), (15, .if_icmp .le 6, 3), (18, .bipush (-2), 2), (20, .ireturn, 1), (21, .aload_n 0, 1), (22, .getfield 33, 3), (25, .aload_n 0, 1), (26, .getfield 23, 3), (29, .aload_n 0, 1), (30, .getfield 16, 3), (33, .iload_n 1, 1), (34, .aaload, 1), (35, .invokevirtual 149, 3), (38, .iload_n 2, 1), (39, .tableswitch 52 0 2 #[25, 33, 41], 25), (64, .aload_n 0, 1), (65, .getfield 33, 3), (68, .getfield 160, 3), (71, .ireturn, 1), (72, .aload_n 0, 1), (73, .getfield 33, 3), (76, .getfield 171, 3), (79, .ireturn, 1), (80, .aload_n 0, 1), (81, .getfield 33, 3), (84, .getfield 153, 3), (87, .invokevirtual 174, 3), (90, .ireturn, 1), (91, .aload_n 0, 1), (92, .getfield 33, 3), (95, .getfield 153, 3), (98, .invokevirtual 177, 3), (101, .sipush 1000, 3), (104, .iadd, 1), (105, .ireturn, 1)]
/-- SupperTales.coins(II)I -/
def mI_89 : List (Nat × Instr × Nat) := [(0, .iload_n 1, 1), (1, .invokestatic 116, 3), (4, .ifCond .eq 14, 3), (7, .aload_n 0, 1), (8, .getfield 23, 3), (11, .iload_n 2, 1), (12, .invokevirtual 122, 3), (15, .ifCond .ne 5, 3), (18, .iconst (-1), 1), (19, .ireturn, 1), (20, .aload_n 0, 1), (21, .getfield 33, 3), (24, .aload_n 0, 1), (25, .getfield 23, 3), (28, .aload_n 0, 1), (29, .getfield 16, 3), (32, .iload_n 1, 1), (33, .aaload, 1), (34, .invokevirtual 149, 3), (37, .aload_n 0, 1), (38, .getfield 33, 3), (41, .getfield 153, 3), (44, .iload_n 2, 1), (45, .invokevirtual 128, 3), (48, .bipush 100, 2), (50, .iadd, 1), (51, .ireturn, 1)]
/-- SupperTales.shortest(III)I -/
def mI_90 : List (Nat × Instr × Nat) := [(0, .aload_n 0, 1), (1, .iload_n 1, 1), (2, .iload_n 2, 1), (3, .iload_n 3, 1), (4, .invokevirtual 180, 3), (7, .istore 4, 2), (9, .iload 4, 2), (11, .ifCond .eq 6, 3), (14, .iload 4, 2), (16, .ireturn, 1), (17, .aload_n 0, 1), (18, .getfield 40, 3), (21, .aload_n 0, 1), (22, .getfield 23, 3), (25, .iload_n 1, 1), (26, .iload_n 2, 1), (27, .iload_n 3, 1), (28, .invokevirtual 184, 3), (31, .aload_n 0, 1), (32, .getfield 40, 3), (35, .getfield 188, 3), (38, .ireturn, 1)]
/-- SupperTales.shortestAt(IIII)I -/
def mI_91 : List (Nat × Instr × Nat) := [(0, .iload 4, 2), (2, .ifCond .ge 6, 3), (5, .bipush (-2), 2), (7, .ireturn, 1), (8, .aload_n 0, 1), (9, .iload_n 1, 1), (10, .iload_n 2, 1), (11, .iload_n 3, 1), (12, .invokevirtual 180, 3), (15, .istore 5, 2), (17, .iload 5, 2), (19, .ifCond .eq 6, 3), (22, .iload 5, 2), (24, .ireturn, 1), (25, .aload_n 0, 1), (26, .getfield 40, 3), (29, .aload_n 0, 1), (30, .getfield 23, 3), (33, .iload_n 1, 1), (34, .iload_n 2, 1), (35, .iload_n 3, 1), (36, .invokevirtual 184, 3), (39, .iload 4, 2), (41, .aload_n 0, 1), (42, .getfield 40, 3), (45, .getfield 188, 3), (48, .if_icmp .lt 6, 3), (51, .bipush (-9), 2), (53, .ireturn, 1), (54, .iload 4, 2), (56, .ifCond .ne 13, 3), (59, .aload_n 0, 1), (60, .getfield 40, 3), (63, .getfield 191, 3), (66, .goto 10, 3), (69, .aload_n 0, 1), (70, .getfield 40, 3), (73, .getfield 194, 3), (76, .istore 6, 2), (78, .bipush 100, 2), (80, .iload 6, 2), (82, .invokestatic 197, 3), (85, .imul, 1), (86, .bipush 10, 2), (88, .iload 6, 2), (90, .invokestatic 200, 3), (93, .imul, 1), (94, .iadd, 1), (95, .iload 6, 2), (97, .invokestatic 203, 3), (100, .iadd, 1), (101, .ireturn, 1)]
/-- SupperTales.cut(I)I -/
def mI_92 : List (Nat × Instr × Nat) := [(0, .iload_n 1, 1), (1, .invokestatic 116, 3), (4, .ifCond .ne 5, 3), (7, .iconst (-1), 1), (8, .ireturn, 1), (9, .aload_n 0, 1), (10, .getfield 16, 3), (13, .iload_n 1, 1), (14, .aaload, 1), (15, .invokevirtual 206, 3), (18, .istore_n 2, 1), (19, .iconst 1, 1), (20, .iload_n 2, 1), (21, .ishl, 1), (22, .iconst 1, 1), (23, .isub, 1), (24, .istore_n 3, 1), (25, .iload_n 3, 1), (26, .istore 4, 2), (28, .iconst 0, 1), (29, .istore 5, 2), (31, .iload 5, 2), (33, .iload_n 3, 1), (34, .if_icmp .gt 41, 3), (37, .iload 5, 2), (39, .invokestatic 209, 3), (42, .iload 4, 2), (44, .invokestatic 209, 3), (47, .if_icmp .ge 22, 3), (50, .aload_n 0, 1), (51, .aload_n 0, 1), (52, .getfield 16, 3), (55, .iload_n 1, 1), (56, .aaload, 1), (57, .iload 5, 2), (59, .invokevirtual 214, 3), (62, .ifCond .eq 7, 3), (65, .iload 5, 2), (67, .istore 4, 2), (69, .iinc 5 1, 3), (72, .goto (-41), 3), (75, .iload 4, 2), (77, .ireturn, 1)]
/-- SupperTales.chosen(IZ)I -/
def mI_93 : List (Nat × Instr × Nat) := [(0, .iload_n 1, 1), (1, .invokestatic 116, 3), (4, .ifCond .ne 5, 3), (7, .iconst (-1), 1), (8, .ireturn, 1), (9, .aload_n 0, 1), (10, .getfield 16, 3), (13, .iload_n 1, 1), (14, .aaload, 1), (15, .invokevirtual 206, 3), (18, .iconst 4, 1), (19, .if_icmp .le 6, 3), (22, .bipush (-3), 2), (24, .ireturn, 1), (25, .aload_n 0, 1), (26, .getfield 47, 3), (29, .aload_n 0, 1), (30, .getfield 23, 3), (33, .aload_n 0, 1), (34, .getfield 16, 3), (37, .iload_n 1, 1), (38, .aaload, 1), (39, .iload_n 2, 1), (40, .invokevirtual 218, 3), (43, .ireturn, 1)]
/-- SupperTales.round(I)I -/
def mI_94 : List (Nat × Instr × Nat) := [(0, .iload_n 1, 1), (1, .invokestatic 116, 3), (4, .ifCond .ne 5, 3), (7, .iconst (-1), 1), (8, .ireturn, 1), (9, .aload_n 0, 1), (10, .getfield 27, 3), (13, .aload_n 0, 1), (14, .getfield 23, 3), (17, .invokevirtual 222, 3), (20, .iconst 1, 1), (21, .istore_n 2, 1), (22, .iload_n 2, 1), (23, .bipush 60, 2), (25, .if_icmp .gt 80, 3), (28, .aload_n 0, 1), (29, .getfield 63, 3), (32, .iload_n 2, 1), (33, .iconst 1, 1), (34, .isub, 1), (35, .aload_n 0, 1), (36, .getfield 27, 3), (39, .invokevirtual 225, 3), (42, .aload_n 0, 1), (43, .getfield 33, 3), (46, .aload_n 0, 1), (47, .getfield 27, 3), (50, .aload_n 0, 1), (51, .getfield 16, 3), (54, .iload_n 1, 1), (55, .aaload, 1), (56, .invokevirtual 149, 3), (59, .aload_n 0, 1), (60, .getfield 27, 3), (63, .aload_n 0, 1), (64, .getfield 33, 3), (67, .getfield 153, 3), (70, .invokevirtual 156, 3), (73, .aload_n 0, 1), (74, .getfield 63, 3), (77, .aload_n 0, 1), (78, .getfield 27, 3), (81, .iload_n 2, 1), (82, .invokevirtual 228, 3), (85, .istore_n 3, 1), (86, .iload_n 3, 1), (87, .bipush (-9), 2), (89, .if_icmp .eq 10, 3), (92, .bipush 100, 2), (94, .iload_n 3, 1), (95, .imul, 1), (96, .iload_n 2, 1), (97, .iadd, 1), (98, .ireturn, 1), (99, .iinc 2 1, 3), (102, .goto (-80), 3), (105, .bipush (-9), 2), (107, .ireturn, 1)]
/-- SupperTales.kinds(I)I -/
def mI_95 : List (Nat × Instr × Nat) := [(0, .iload_n 1, 1), (1, .invokestatic 116, 3), (4, .ifCond .ne 5, 3), (7, .iconst (-1), 1), (8, .ireturn, 1), (9, .aload_n 0, 1), (10, .getfield 16, 3), (13, .iload_n 1, 1), (14, .aaload, 1), (15, .astore_n 2, 1), (16, .aload_n 0, 1), (17, .getfield 33, 3), (20, .aload_n 0, 1), (21, .getfield 23, 3), (24, .aload_n 2, 1), (25, .invokevirtual 149, 3), (28, .aload_n 0, 1), (29, .aload_n 2, 1), (30, .invokevirtual 232, 3), (33, .ifCond .eq 7, 3), (36, .iconst 1, 1), (37, .goto 4, 3), (40, .iconst 0, 1), (41, .istore_n 3, 1), (42, .iload_n 3, 1), (43, .aload_n 2, 1), (44, .invokevirtual 119, 3), (47, .aload_n 2, 1), (48, .invokevirtual 236, 3), (51, .if_icmp .ne 7, 3), (54, .iconst 2, 1), (55, .goto 4, 3), (58, .iconst 0, 1), (59, .ior, 1), (60, .istore_n 3, 1), (61, .iload_n 3, 1), (62, .aload_n 0, 1), (63, .getfield 33, 3), (66, .getfield 153, 3), (69, .aload_n 0, 1), (70, .getfield 23, 3), (73, .invokevirtual 238, 3), (76, .ifCond .eq 7, 3), (79, .iconst 4, 1), (80, .goto 4, 3), (83, .iconst 0, 1), (84, .ior, 1), (85, .istore_n 3, 1), (86, .iload_n 3, 1), (87, .aload_n 0, 1), (88, .getfield 33, 3), (91, .getfield 153, 3), (94, .invokevirtual 174, 3), (97, .aload_n 0, 1), (98, .getfield 23, 3), (101, .invokevirtual 174, 3), (104, .if_icmp .eq 8, 3), (107, .bipush 8, 2), (109, .goto 4, 3), (112, .iconst 0, 1), (113, .ior, 1), (114, .istore_n 3, 1), (115, .iload_n 3, 1), (116, .aload_n 0, 1), (117, .getfield 33, 3), (120, .getfield 171, 3), (123, .ifCond .le 8, 3), (126, .bipush 16, 2), (128, .goto 4, 3), (131, .iconst 0, 1), (132, .ior, 1), (133, .istore_n 3, 1), (134, .iload_n 3, 1), (135, .ireturn, 1)]
/-- SupperTales.odds(III)I -/
def mI_96 : List (Nat × Instr × Nat) := [(0, .iload_n 1, 1), (1, .invokestatic 242, 3), (4, .ifCond .eq 27, 3), (7, .iload_n 2, 1), (8, .invokestatic 242, 3), (11, .ifCond .eq 20, 3), (14, .iload_n 3, 1), (15, .invokestatic 242, 3), (18, .ifCond .eq 13, 3), (21, .iload_n 1, 1), (22, .iload_n 2, 1), (23, .iadd, 1), (24, .iload_n 3, 1), (25, .iadd, 1), (26, .bipush 10, 2), (28, .if_icmp .eq 6, 3), (31, .bipush (-2), 2), (33, .ireturn, 1), (34, .aload_n 0, 1), (35, .getfield 73, 3), (38, .iconst 0, 1), (39, .iaload, 1), (40, .istore 4, 2), (42, .aload_n 0, 1), (43, .getfield 73, 3), (46, .iconst 0, 1), (47, .iload_n 1, 1), (48, .iastore, 1), (49, .aload_n 0, 1), (50, .getfield 73, 3), (53, .iconst 1, 1), (54, .iload_n 2, 1), (55, .iastore, 1), (56, .aload_n 0, 1), (57, .getfield 73, 3), (60, .iconst 2, 1), (61, .iload_n 3, 1), (62, .iastore, 1), (63, .iload 4, 2), (65, .ireturn, 1)]
/-- SupperTales.mean(II)I -/
def mI_97 : List (Nat × Instr × Nat) := [(0, .aload_n 0, 1), (1, .getfield 23, 3), (4, .iload_n 1, 1), (5, .invokevirtual 122, 3), (8, .ifCond .ne 5, 3), (11, .iconst (-1), 1), (12, .ireturn, 1), (13, .iload_n 2, 1), (14, .invokestatic 140, 3), (17, .ifCond .ne 6, 3), (20, .bipush (-2), 2), (22, .ireturn, 1), (23, .aload_n 0, 1), (24, .getfield 23, 3), (27, .iload_n 1, 1), (28, .invokevirtual 134, 3), (31, .ifCond .ne 6, 3), (34, .bipush (-3), 2), (36, .ireturn, 1), (37, .aload_n 0, 1), (38, .getfield 27, 3), (41, .aload_n 0, 1), (42, .getfield 23, 3), (45, .invokevirtual 222, 3), (48, .aload_n 0, 1), (49, .getfield 27, 3), (52, .iload_n 1, 1), (53, .iload_n 2, 1), (54, .invokevirtual 163, 3), (57, .aload_n 0, 1), (58, .iload_n 1, 1), (59, .invokevirtual 245, 3), (62, .sipush 1000, 3), (65, .iadd, 1), (66, .ireturn, 1)]
/-- SupperTales.toGive(I)I -/
def mI_98 : List (Nat × Instr × Nat) := [(0, .aload_n 0, 1), (1, .getfield 23, 3), (4, .iload_n 1, 1), (5, .invokevirtual 122, 3), (8, .ifCond .ne 5, 3), (11, .iconst (-1), 1), (12, .ireturn, 1), (13, .aload_n 0, 1), (14, .getfield 23, 3), (17, .iload_n 1, 1), (18, .invokevirtual 134, 3), (21, .ifCond .ne 6, 3), (24, .bipush (-3), 2), (26, .ireturn, 1), (27, .aload_n 0, 1), (28, .getfield 27, 3), (31, .aload_n 0, 1), (32, .getfield 23, 3), (35, .invokevirtual 222, 3), (38, .bipush (-9), 2), (40, .istore_n 2, 1), (41, .iconst 0, 1), (42, .istore_n 3, 1), (43, .iconst 0, 1), (44, .istore 4, 2), (46, .iload 4, 2), (48, .iconst 4, 1), (49, .if_icmp .ge 44, 3), (52, .aload_n 0, 1), (53, .getfield 27, 3), (56, .iload_n 1, 1), (57, .iload 4, 2), (59, .invokevirtual 163, 3), (62, .aload_n 0, 1), (63, .iload_n 1, 1), (64, .invokevirtual 245, 3), (67, .istore 5, 2), (69, .iload_n 2, 1), (70, .bipush (-9), 2), (72, .if_icmp .eq 9, 3), (75, .iload 5, 2), (77, .iload_n 3, 1), (78, .if_icmp .le 9, 3), (81, .iload 4, 2), (83, .istore_n 2, 1), (84, .iload 5, 2), (86, .istore_n 3, 1), (87, .iinc 4 1, 3), (90, .goto (-44), 3), (93, .iload_n 2, 1), (94, .ireturn, 1)]
/-- SupperTales.rests(III)I -/
def mI_99 : List (Nat × Instr × Nat) := [(0, .aload_n 0, 1), (1, .getfield 23, 3), (4, .iload_n 1, 1), (5, .invokevirtual 122, 3), (8, .ifCond .eq 14, 3), (11, .aload_n 0, 1), (12, .getfield 23, 3), (15, .iload_n 2, 1), (16, .invokevirtual 122, 3), (19, .ifCond .ne 5, 3), (22, .iconst (-1), 1), (23, .ireturn, 1), (24, .iload_n 1, 1), (25, .iload_n 2, 1), (26, .if_icmp .eq 12, 3), (29, .iload_n 3, 1), (30, .ifCond .lt 8, 3), (33, .iload_n 3, 1), (34, .iconst 1, 1), (35, .if_icmp .le 6, 3), (38, .bipush (-2), 2), (40, .ireturn, 1), (41, .aload_n 0, 1), (42, .getfield 23, 3), (45, .iload_n 1, 1), (46, .invokevirtual 134, 3), (49, .ifCond .eq 14, 3), (52, .aload_n 0, 1), (53, .getfield 23, 3), (56, .iload_n 2, 1), (57, .invokevirtual 134, 3), (60, .ifCond .ne 6, 3), (63, .bipush (-3), 2), (65, .ireturn, 1), (66, .aload_n 0, 1), (67, .getfield 27, 3), (70, .aload_n 0, 1), (71, .getfield 23, 3), (74, .invokevirtual 222, 3), (77, .iconst 0, 1), (78, .istore 4, 2), (80, .iload 4, 2), (82, .aload_n 0, 1), (83, .getfield 77, 3), (86, .arraylength, 1), (87, .if_icmp .ge 57, 3), (90, .aload_n 0, 1), (91, .getfield 27, 3), (94, .iload_n 1, 1), (95, .iload 4, 2), (97, .iconst 4, 1), (98, .idiv, 1), (99, .invokevirtual 163, 3), (102, .aload_n 0, 1), (103, .getfield 27, 3), (106, .iload_n 2, 1), (107, .iload 4, 2), (109, .iconst 4, 1), (110, .irem, 1), (111, .invokevirtual 163, 3), (114, .aload_n 0, 1), (115, .getfield 77, 3), (118, .iload 4, 2), (120, .aload_n 0, 1), (121, .iload_n 1, 1), (122, .invokevirtual 245, 3), (125, .iastore, 1), (126, .aload_n 0, 1), (127, .getfield 80, 3), (130, .iload 4, 2), (132, .aload_n 0, 1), (133, .iload_n 2, 1), (134, .invokevirtual 245, 3), (137, .iastore, 1), (138, .iinc 4 1, 3), (141, .goto (-61), 3), (144, .iload_n 3, 1), (145, .ifCond .ne 10, 3), (148, .aload_n 0, 1), (149, .invokevirtual 248, 3), (152, .goto 7, 3), (155, .aload_n 0, 1), (156, .invokevirtual 251, 3), (159, .ireturn, 1)]
/-- SupperTales.see(IZ)I -/
def mI_100 : List (Nat × Instr × Nat) := [(0, .aload_n 0, 1), (1, .getfield 23, 3), (4, .iload_n 1, 1), (5, .invokevirtual 122, 3), (8, .ifCond .ne 5, 3), (11, .iconst (-1), 1), (12, .ireturn, 1), (13, .aload_n 0, 1), (14, .getfield 69, 3), (17, .invokevirtual 254, 3), (20, .ifCond .eq 8, 3), (23, .bipush (-4), 2), (25, .goto 24, 3), (28, .aload_n 0, 1), (29, .getfield 69, 3), (32, .iload_n 1, 1), (33, .iload_n 2, 1), (34, .ifCond .eq 9, 3), (37, .sipush 1000, 3), (40, .goto 6, 3), (43, .sipush 1001, 3), (46, .invokevirtual 255, 3), (49, .ireturn, 1)]
/-- SupperTales.seeCoins(II)I -/
def mI_101 : List (Nat × Instr × Nat) := [(0, .aload_n 0, 1), (1, .getfield 23, 3), (4, .iload_n 1, 1), (5, .invokevirtual 122, 3), (8, .ifCond .ne 5, 3), (11, .iconst (-1), 1), (12, .ireturn, 1), (13, .iload_n 2, 1), (14, .bipush (-50), 2), (16, .if_icmp .lt 9, 3), (19, .iload_n 2, 1), (20, .bipush 50, 2), (22, .if_icmp .le 6, 3), (25, .bipush (-2), 2), (27, .ireturn, 1), (28, .aload_n 0, 1), (29, .getfield 69, 3), (32, .invokevirtual 254, 3), (35, .ifCond .eq 8, 3), (38, .bipush (-4), 2), (40, .goto 12, 3), (43, .aload_n 0, 1), (44, .getfield 69, 3), (47, .iload_n 1, 1), (48, .iload_n 2, 1), (49, .invokevirtual 255, 3), (52, .ireturn, 1)]
/-- SupperTales.unsee()I -/
def mI_102 : List (Nat × Instr × Nat) := [(0, .aload_n 0, 1), (1, .getfield 69, 3), (4, .invokevirtual 258, 3), (7, .ireturn, 1)]
/-- SupperTales.which()I -/
def mI_103 : List (Nat × Instr × Nat) := [(0, .aload_n 0, 1), (1, .invokevirtual 259, 3), (4, .ireturn, 1)]
/-- SupperTales.likely(IZ)I -/
def mI_104 : List (Nat × Instr × Nat) := [(0, .iload_n 1, 1), (1, .invokestatic 116, 3), (4, .ifCond .ne 5, 3), (7, .iconst (-1), 1), (8, .ireturn, 1), (9, .aload_n 0, 1), (10, .invokevirtual 259, 3), (13, .istore_n 3, 1), (14, .iconst 0, 1), (15, .istore 4, 2), (17, .iconst 0, 1), (18, .istore 5, 2), (20, .iload 5, 2), (22, .iconst 3, 1), (23, .if_icmp .ge 34, 3), (26, .iload 4, 2), (28, .iload_n 3, 1), (29, .iload 5, 2), (31, .invokestatic 262, 3), (34, .ifCond .eq 13, 3), (37, .aload_n 0, 1), (38, .getfield 73, 3), (41, .iload 5, 2), (43, .iaload, 1), (44, .goto 4, 3), (47, .iconst 0, 1), (48, .iadd, 1), (49, .istore 4, 2), (51, .iinc 5 1, 3), (54, .goto (-34), 3), (57, .iload 4, 2), (59, .ifCond .gt 6, 3), (62, .bipush (-3), 2), (64, .ireturn, 1), (65, .iload_n 3, 1), (66, .iload_n 1, 1), (67, .invokestatic 262, 3), (70, .ifCond .eq 12, 3), (73, .aload_n 0, 1), (74, .getfield 73, 3), (77, .iload_n 1, 1), (78, .iaload, 1), (79, .goto 4, 3), (82, .iconst 0, 1), (83, .istore 5, 2), (85, .iload_n 2, 1), (86, .ifCond .eq 8, 3), (89, .iload 5, 2), (91, .goto 5, 3), (94, .iload 4, 2), (96, .iload 5, 2), (98, .iload 4, 2), (100, .invokestatic 266, 3), (103, .ireturn, 1)]
/-- SupperTales.seed(J)J -/
def mI_105 : List (Nat × Instr × Nat) := [(0, .aload_n 0, 1), (1, .getfield 269, 3), (4, .lstore_n 3, 1), (5, .aload_n 0, 1), (6, .lload_n 1, 1), (7, .putfield 269, 3), (10, .lload_n 3, 1), (11, .lreturn, 1)]
/-- SupperTales.nights(I)I -/
def mI_106 : List (Nat × Instr × Nat) := [(0, .iload_n 1, 1), (1, .iconst 1, 1), (2, .if_icmp .lt 9, 3), (5, .iload_n 1, 1), (6, .bipush 40, 2), (8, .if_icmp .le 6, 3), (11, .bipush (-2), 2), (13, .ireturn, 1), (14, .aload_n 0, 1), (15, .getfield 27, 3), (18, .aload_n 0, 1), (19, .getfield 23, 3), (22, .invokevirtual 222, 3), (25, .iconst 0, 1), (26, .istore_n 2, 1), (27, .iload_n 2, 1), (28, .iload_n 1, 1), (29, .if_icmp .ge 43, 3), (32, .aload_n 0, 1), (33, .getfield 33, 3), (36, .aload_n 0, 1), (37, .getfield 27, 3), (40, .aload_n 0, 1), (41, .getfield 16, 3), (44, .aload_n 0, 1), (45, .invokevirtual 273, 3), (48, .aaload, 1), (49, .invokevirtual 149, 3), (52, .aload_n 0, 1), (53, .getfield 27, 3), (56, .aload_n 0, 1), (57, .getfield 33, 3), (60, .getfield 153, 3), (63, .invokevirtual 156, 3), (66, .iinc 2 1, 3), (69, .goto (-42), 3), (72, .aload_n 0, 1), (73, .getfield 27, 3), (76, .invokevirtual 276, 3), (79, .ireturn, 1)]
/-- SupperTales.keep(I)I -/
def mI_107 : List (Nat × Instr × Nat) := [(0, .iload_n 1, 1), (1, .invokestatic 279, 3), (4, .ifCond .ne 5, 3), (7, .iconst (-1), 1), (8, .ireturn, 1), (9, .aload_n 0, 1), (10, .getfield 60, 3), (13, .iload_n 1, 1), (14, .aload_n 0, 1), (15, .getfield 23, 3), (18, .invokevirtual 225, 3), (21, .aload_n 0, 1), (22, .dup, 1), (23, .getfield 110, 3), (26, .iconst 1, 1), (27, .iload_n 1, 1), (28, .ishl, 1), (29, .ior, 1), (30, .putfield 110, 3), (33, .aload_n 0, 1), (34, .getfield 23, 3), (37, .invokevirtual 276, 3), (40, .invokestatic 209, 3), (43, .ireturn, 1)]
/-- SupperTales.again(I)I -/
def mI_108 : List (Nat × Instr × Nat) := [(0, .iload_n 1, 1), (1, .invokestatic 279, 3), (4, .ifCond .ne 5, 3), (7, .iconst (-1), 1), (8, .ireturn, 1), (9, .aload_n 0, 1), (10, .getfield 110, 3), (13, .iload_n 1, 1), (14, .invokestatic 262, 3), (17, .ifCond .ne 6, 3), (20, .bipush (-3), 2), (22, .ireturn, 1), (23, .aload_n 0, 1), (24, .getfield 60, 3), (27, .iload_n 1, 1), (28, .aload_n 0, 1), (29, .getfield 23, 3), (32, .invokevirtual 167, 3), (35, .aload_n 0, 1), (36, .iconst 0, 1), (37, .putfield 106, 3), (40, .aload_n 0, 1), (41, .getfield 23, 3), (44, .invokevirtual 276, 3), (47, .invokestatic 209, 3), (50, .ireturn, 1)]
/-- SupperTales.count(I)I -/
def mI_109 : List (Nat × Instr × Nat) := [(0, .iload_n 1, 1), (1, .tableswitch 133 0 9 #[55, 63, 71, 79, 87, 95, 107, 112, 120, 128], 55), (56, .aload_n 0, 1), (57, .getfield 12, 3), (60, .invokevirtual 236, 3), (63, .ireturn, 1), (64, .aload_n 0, 1), (65, .getfield 23, 3), (68, .invokevirtual 113, 3), (71, .ireturn, 1), (72, .aload_n 0, 1), (73, .getfield 23, 3), (76, .invokevirtual 282, 3), (79, .ireturn, 1), (80, .aload_n 0, 1), (81, .getfield 23, 3), (84, .invokevirtual 276, 3), (87, .ireturn, 1), (88, .aload_n 0, 1), (89, .getfield 23, 3), (92, .invokevirtual 285, 3), (95, .ireturn, 1), (96, .aload_n 0, 1), (97, .getfield 23, 3), (100, .invokevirtual 177, 3), (103, .sipush 1000, 3), (106, .iadd, 1), (107, .ireturn, 1), (108, .aload_n 0, 1), (109, .getfield 106, 3), (112, .ireturn, 1), (113, .aload_n 0, 1), (114, .getfield 69, 3), (117, .getfield 288, 3), (120, .ireturn, 1), (121, .aload_n 0, 1), (122, .getfield 23, 3), (125, .invokevirtual 290, 3), (128, .ireturn, 1), (129, .aload_n 0, 1), (130, .invokevirtual 293, 3), (133, .ireturn, 1), (134, .bipush (-2), 2), (136, .ireturn, 1)]
/-- SupperTales.isLetter(I)Z -/
def mI_110 : List (Nat × Instr × Nat) := [(0, .iload_n 0, 1), (1, .ifCond .lt 14, 3), (4, .iload_n 0, 1), (5, .sipush 255, 3), (8, .if_icmp .gt 7, 3), (11, .iconst 1, 1), (12, .goto 4, 3), (15, .iconst 0, 1), (16, .ireturn, 1)]
/-- SupperTales.isTale(I)Z -/
def mI_111 : List (Nat × Instr × Nat) := [(0, .iload_n 0, 1), (1, .ifCond .lt 12, 3), (4, .iload_n 0, 1), (5, .iconst 3, 1), (6, .if_icmp .ge 7, 3), (9, .iconst 1, 1), (10, .goto 4, 3), (13, .iconst 0, 1), (14, .ireturn, 1)]
/-- SupperTales.isSlot(I)Z -/
def mI_112 : List (Nat × Instr × Nat) := [(0, .iload_n 0, 1), (1, .ifCond .lt 12, 3), (4, .iload_n 0, 1), (5, .iconst 2, 1), (6, .if_icmp .ge 7, 3), (9, .iconst 1, 1), (10, .goto 4, 3), (13, .iconst 0, 1), (14, .ireturn, 1)]
/-- SupperTales.isName(I)Z -/
def mI_113 : List (Nat × Instr × Nat) := [(0, .iload_n 0, 1), (1, .ifCond .lt 12, 3), (4, .iload_n 0, 1), (5, .iconst 4, 1), (6, .if_icmp .ge 7, 3), (9, .iconst 1, 1), (10, .goto 4, 3), (13, .iconst 0, 1), (14, .ireturn, 1)]
/-- SupperTales.isTenths(I)Z -/
def mI_114 : List (Nat × Instr × Nat) := [(0, .iload_n 0, 1), (1, .ifCond .lt 13, 3), (4, .iload_n 0, 1), (5, .bipush 10, 2), (7, .if_icmp .gt 7, 3), (10, .iconst 1, 1), (11, .goto 4, 3), (14, .iconst 0, 1), (15, .ireturn, 1)]
/-- SupperTales.holds(II)Z -/
def mI_115 : List (Nat × Instr × Nat) := [(0, .iload_n 0, 1), (1, .iload_n 1, 1), (2, .ishr, 1), (3, .iconst 1, 1), (4, .iand, 1), (5, .ifCond .eq 7, 3), (8, .iconst 1, 1), (9, .goto 4, 3), (12, .iconst 0, 1), (13, .ireturn, 1)]
/-- SupperTales.leastOf(I)I -/
def mI_116 : List (Nat × Instr × Nat) := [(0, .iconst 0, 1), (1, .istore_n 1, 1), (2, .iload_n 1, 1), (3, .iconst 5, 1), (4, .if_icmp .ge 19, 3), (7, .iload_n 0, 1), (8, .iload_n 1, 1), (9, .invokestatic 262, 3), (12, .ifCond .eq 5, 3), (15, .iload_n 1, 1), (16, .ireturn, 1), (17, .iinc 1 1, 3), (20, .goto (-18), 3), (23, .bipush (-9), 2), (25, .ireturn, 1)]
/-- SupperTales.kindOf(I)I -/
def mI_117 : List (Nat × Instr × Nat) := [(0, .iload_n 0, 1), (1, .bipush 16, 2), (3, .idiv, 1), (4, .ireturn, 1)]
/-- SupperTales.firstNameOf(I)I -/
def mI_118 : List (Nat × Instr × Nat) := [(0, .iload_n 0, 1), (1, .iconst 4, 1), (2, .idiv, 1), (3, .iconst 4, 1), (4, .irem, 1), (5, .ireturn, 1)]
/-- SupperTales.secondNameOf(I)I -/
def mI_119 : List (Nat × Instr × Nat) := [(0, .iload_n 0, 1), (1, .iconst 4, 1), (2, .irem, 1), (3, .ireturn, 1)]
/-- SupperTales.inLeastTerms(III)I -/
def mI_120 : List (Nat × Instr × Nat) := [(0, .iload_n 2, 1), (1, .istore_n 3, 1), (2, .iload_n 3, 1), (3, .iconst 1, 1), (4, .if_icmp .le 25, 3), (7, .iload_n 1, 1), (8, .iload_n 3, 1), (9, .irem, 1), (10, .ifCond .ne 13, 3), (13, .iload_n 2, 1), (14, .iload_n 3, 1), (15, .irem, 1), (16, .ifCond .ne 7, 3), (19, .iload_n 0, 1), (20, .iload_n 3, 1), (21, .idiv, 1), (22, .ireturn, 1), (23, .iinc 3 (-1), 3), (26, .goto (-24), 3), (29, .iload_n 0, 1), (30, .ireturn, 1)]
/-- SupperTales.holdAct()V -/
def mI_121 : List (Nat × Instr × Nat) := [(0, .aload_n 0, 1), (1, .getfield 106, 3), (4, .bipush 12, 2), (6, .if_icmp .ne 20, 3), (9, .aload_n 0, 1), (10, .getfield 56, 3), (13, .invokevirtual 296, 3), (16, .aload_n 0, 1), (17, .dup, 1), (18, .getfield 106, 3), (21, .iconst 1, 1), (22, .isub, 1), (23, .putfield 106, 3), (26, .aload_n 0, 1), (27, .getfield 56, 3), (30, .aload_n 0, 1), (31, .getfield 106, 3), (34, .aload_n 0, 1), (35, .getfield 23, 3), (38, .invokevirtual 225, 3), (41, .aload_n 0, 1), (42, .dup, 1), (43, .getfield 106, 3), (46, .iconst 1, 1), (47, .iadd, 1), (48, .putfield 106, 3), (51, .return_, 1)]
/-- SupperTales.refusalOfEnd(III)I -/
def mI_122 : List (Nat × Instr × Nat) := [(0, .aload_n 0, 1), (1, .iload_n 2, 1), (2, .iload_n 3, 1), (3, .invokevirtual 299, 3), (6, .ifCond .ne 6, 3), (9, .bipush (-2), 2), (11, .ireturn, 1), (12, .aload_n 0, 1), (13, .getfield 23, 3), (16, .iload_n 1, 1), (17, .invokevirtual 122, 3), (20, .ifCond .eq 7, 3), (23, .iconst 0, 1), (24, .goto 4, 3), (27, .iconst (-1), 1), (28, .ireturn, 1)]
/-- SupperTales.isEndTold(II)Z -/
def mI_123 : List (Nat × Instr × Nat) := [(0, .iload_n 1, 1), (1, .tableswitch 63 0 3 #[31, 33, 42, 58], 31), (32, .iconst 1, 1), (33, .ireturn, 1), (34, .aload_n 0, 1), (35, .getfield 23, 3), (38, .iload_n 2, 1), (39, .invokevirtual 122, 3), (42, .ireturn, 1), (43, .iload_n 2, 1), (44, .ifCond .lt 13, 3), (47, .iload_n 2, 1), (48, .bipush 20, 2), (50, .if_icmp .gt 7, 3), (53, .iconst 1, 1), (54, .goto 4, 3), (57, .iconst 0, 1), (58, .ireturn, 1), (59, .iload_n 2, 1), (60, .invokestatic 140, 3), (63, .ireturn, 1), (64, .iconst 0, 1), (65, .ireturn, 1)]
/-- SupperTales.isDoneWithout(LSupperTales$Scroll;I)Z -/
def mI_124 : List (Nat × Instr × Nat) := [(0, .aload_n 0, 1), (1, .getfield 33, 3), (4, .aload_n 0, 1), (5, .getfield 23, 3), (8, .invokevirtual 302, 3), (11, .aload_n 1, 1), (12, .invokevirtual 206, 3), (15, .istore_n 3, 1), (16, .iconst 0, 1), (17, .istore 4, 2), (19, .iconst 0, 1), (20, .istore 5, 2), (22, .iload 5, 2), (24, .iload_n 3, 1), (25, .if_icmp .ge 42, 3), (28, .iload_n 2, 1), (29, .iload 5, 2), (31, .invokestatic 262, 3), (34, .ifCond .ne 27, 3), (37, .aload_n 0, 1), (38, .getfield 33, 3), (41, .aload_n 1, 1), (42, .iload 5, 2), (44, .invokevirtual 305, 3), (47, .iload 5, 2), (49, .invokevirtual 308, 3), (52, .iload 4, 2), (54, .iconst 1, 1), (55, .iload 5, 2), (57, .ishl, 1), (58, .ior, 1), (59, .istore 4, 2), (61, .iinc 5 1, 3), (64, .goto (-42), 3), (67, .aload_n 0, 1), (68, .getfield 33, 3), (71, .getfield 160, 3), (74, .iload 4, 2), (76, .if_icmp .ne 7, 3), (79, .iconst 1, 1), (80, .goto 4, 3), (83, .iconst 0, 1), (84, .ireturn, 1)]
/-- SupperTales.isProverb(LSupperTales$Scroll;)Z -/
def mI_125 : List (Nat × Instr × Nat) := [(0, .aload_n 0, 1), (1, .getfield 23, 3), (4, .invokevirtual 290, 3), (7, .istore_n 2, 1), (8, .aload_n 1, 1), (9, .invokevirtual 206, 3), (12, .istore_n 3, 1), (13, .iconst 0, 1), (14, .istore 4, 2), (16, .iload 4, 2), (18, .iload_n 3, 1), (19, .if_icmp .ge 43, 3), (22, .aload_n 1, 1), (23, .iload 4, 2), (25, .invokevirtual 305, 3), (28, .istore 5, 2), (30, .iload_n 2, 1), (31, .iload 5, 2), (33, .invokestatic 200, 3), (36, .invokestatic 262, 3), (39, .ifCond .ne 15, 3), (42, .iload_n 2, 1), (43, .iload 5, 2), (45, .invokestatic 203, 3), (48, .invokestatic 262, 3), (51, .ifCond .eq 5, 3), (54, .iconst 0, 1), (55, .ireturn, 1), (56, .iinc 4 1, 3), (59, .goto (-43), 3), (62, .iconst 1, 1), (63, .ireturn, 1)]
/-- SupperTales.meanAsSupposed(I)I -/
def mI_126 : List (Nat × Instr × Nat) := [(0, .iconst 0, 1), (1, .istore_n 2, 1), (2, .iconst 0, 1), (3, .istore_n 3, 1), (4, .iload_n 3, 1), (5, .iconst 3, 1), (6, .if_icmp .ge 47, 3), (9, .aload_n 0, 1), (10, .getfield 33, 3), (13, .aload_n 0, 1), (14, .getfield 27, 3), (17, .aload_n 0, 1), (18, .getfield 16, 3), (21, .iload_n 3, 1), (22, .aaload, 1), (23, .invokevirtual 149, 3), (26, .iload_n 2, 1), (27, .aload_n 0, 1), (28, .getfield 73, 3), (31, .iload_n 3, 1), (32, .iaload, 1), (33, .aload_n 0, 1), (34, .getfield 33, 3), (37, .getfield 153, 3), (40, .iload_n 1, 1), (41, .invokevirtual 311, 3), (44, .imul, 1), (45, .iadd, 1), (46, .istore_n 2, 1), (47, .iinc 3 1, 3), (50, .goto (-46), 3), (53, .iload_n 2, 1), (54, .ireturn, 1)]
/-- SupperTales.isRest(II)Z -/
def mI_127 : List (Nat × Instr × Nat) := [(0, .iload_n 1, 1), (1, .iconst 4, 1), (2, .imul, 1), (3, .iload_n 2, 1), (4, .iadd, 1), (5, .istore_n 3, 1), (6, .iconst 0, 1), (7, .istore 4, 2), (9, .iload 4, 2), (11, .iconst 4, 1), (12, .if_icmp .ge 75, 3), (15, .aload_n 0, 1), (16, .getfield 77, 3), (19, .iload 4, 2), (21, .iconst 4, 1), (22, .imul, 1), (23, .iload_n 2, 1), (24, .iadd, 1), (25, .iaload, 1), (26, .aload_n 0, 1), (27, .getfield 77, 3), (30, .iload_n 3, 1), (31, .iaload, 1), (32, .if_icmp .gt 7, 3), (35, .iconst 1, 1), (36, .goto 4, 3), (39, .iconst 0, 1), (40, .istore 5, 2), (42, .aload_n 0, 1), (43, .getfield 80, 3), (46, .iload_n 1, 1), (47, .iconst 4, 1), (48, .imul, 1), (49, .iload 4, 2), (51, .iadd, 1), (52, .iaload, 1), (53, .aload_n 0, 1), (54, .getfield 80, 3), (57, .iload_n 3, 1), (58, .iaload, 1), (59, .if_icmp .gt 7, 3), (62, .iconst 1, 1), (63, .goto 4, 3), (66, .iconst 0, 1), (67, .istore 6, 2), (69, .iload 5, 2), (71, .ifCond .eq 8, 3), (74, .iload 6, 2), (76, .ifCond .ne 5, 3), (79, .iconst 0, 1), (80, .ireturn, 1), (81, .iinc 4 1, 3), (84, .goto (-75), 3), (87, .iconst 1, 1), (88, .ireturn, 1)]
/-- SupperTales.restsInAll()I -/
def mI_128 : List (Nat × Instr × Nat) := [(0, .iconst 0, 1), (1, .istore_n 1, 1), (2, .iconst 0, 1), (3, .istore_n 2, 1), (4, .iload_n 2, 1), (5, .bipush 16, 2), (7, .if_icmp .ge 30, 3), (10, .iload_n 1, 1), (11, .aload_n 0, 1), (12, .iload_n 2, 1), (13, .iconst 4, 1), (14, .idiv, 1), (15, .iload_n 2, 1), (16, .iconst 4, 1), (17, .irem, 1), (18, .invokevirtual 314, 3), (21, .ifCond .eq 7, 3), (24, .iconst 1, 1), (25, .goto 4, 3), (28, .iconst 0, 1), (29, .iadd, 1), (30, .istore_n 1, 1), (31, .iinc 2 1, 3), (34, .goto (-30), 3), (37, .iload_n 1, 1), (38, .ireturn, 1)]
/-- SupperTales.firstRest()I -/
def mI_129 : List (Nat × Instr × Nat) := [(0, .iconst 0, 1), (1, .istore_n 1, 1), (2, .iload_n 1, 1), (3, .bipush 16, 2), (5, .if_icmp .ge 33, 3), (8, .aload_n 0, 1), (9, .iload_n 1, 1), (10, .iconst 4, 1), (11, .idiv, 1), (12, .iload_n 1, 1), (13, .iconst 4, 1), (14, .irem, 1), (15, .invokevirtual 314, 3), (18, .ifCond .eq 14, 3), (21, .bipush 10, 2), (23, .iload_n 1, 1), (24, .iconst 4, 1), (25, .idiv, 1), (26, .imul, 1), (27, .iload_n 1, 1), (28, .iconst 4, 1), (29, .irem, 1), (30, .iadd, 1), (31, .ireturn, 1), (32, .iinc 1 1, 3), (35, .goto (-33), 3), (38, .bipush (-9), 2), (40, .ireturn, 1)]
/-- SupperTales.talesThatFit()I -/
def mI_130 : List (Nat × Instr × Nat) := [(0, .iconst 0, 1), (1, .istore_n 1, 1), (2, .iconst 0, 1), (3, .istore_n 2, 1), (4, .iload_n 2, 1), (5, .iconst 3, 1), (6, .if_icmp .ge 53, 3), (9, .aload_n 0, 1), (10, .getfield 33, 3), (13, .aload_n 0, 1), (14, .getfield 23, 3), (17, .aload_n 0, 1), (18, .getfield 16, 3), (21, .iload_n 2, 1), (22, .aaload, 1), (23, .invokevirtual 149, 3), (26, .iload_n 1, 1), (27, .aload_n 0, 1), (28, .getfield 69, 3), (31, .aload_n 0, 1), (32, .getfield 33, 3), (35, .getfield 153, 3), (38, .invokevirtual 317, 3), (41, .ifCond .eq 9, 3), (44, .iconst 1, 1), (45, .iload_n 2, 1), (46, .ishl, 1), (47, .goto 4, 3), (50, .iconst 0, 1), (51, .ior, 1), (52, .istore_n 1, 1), (53, .iinc 2 1, 3), (56, .goto (-52), 3), (59, .iload_n 1, 1), (60, .ireturn, 1)]
/-- SupperTales.drawTale()I -/
def mI_131 : List (Nat × Instr × Nat) := [(0, .aload_n 0, 1), (1, .aload_n 0, 1), (2, .getfield 269, 3), (5, .ldc2_w 320, 3), (8, .lmul, 1), (9, .ldc2_w 322, 3), (12, .ladd, 1), (13, .putfield 269, 3), (16, .aload_n 0, 1), (17, .getfield 269, 3), (20, .bipush 33, 2), (22, .lushr, 1), (23, .ldc2_w 324, 3), (26, .lrem, 1), (27, .l2i, 1), (28, .istore_n 1, 1), (29, .iload_n 1, 1), (30, .aload_n 0, 1), (31, .getfield 73, 3), (34, .iconst 0, 1), (35, .iaload, 1), (36, .if_icmp .ge 5, 3), (39, .iconst 0, 1), (40, .ireturn, 1), (41, .iload_n 1, 1), (42, .aload_n 0, 1), (43, .getfield 73, 3), (46, .iconst 0, 1), (47, .iaload, 1), (48, .aload_n 0, 1), (49, .getfield 73, 3), (52, .iconst 1, 1), (53, .iaload, 1), (54, .iadd, 1), (55, .if_icmp .ge 7, 3), (58, .iconst 1, 1), (59, .goto 4, 3), (62, .iconst 2, 1), (63, .ireturn, 1)]
/-- SupperTales.lettersOfTales()I -/
def mI_132 : List (Nat × Instr × Nat) := [(0, .iconst 0, 1), (1, .istore_n 1, 1), (2, .iconst 0, 1), (3, .istore_n 2, 1), (4, .iload_n 2, 1), (5, .aload_n 0, 1), (6, .getfield 16, 3), (9, .arraylength, 1), (10, .if_icmp .ge 21, 3), (13, .iload_n 1, 1), (14, .aload_n 0, 1), (15, .getfield 16, 3), (18, .iload_n 2, 1), (19, .aaload, 1), (20, .invokevirtual 236, 3), (23, .iadd, 1), (24, .istore_n 1, 1), (25, .iinc 2 1, 3), (28, .goto (-24), 3), (31, .iload_n 1, 1), (32, .ireturn, 1)]
/-- SupperTalesModel.<init>()V -/
def mI_133 : List (Nat × Instr × Nat) := [(0, .aload_n 0, 1), (1, .invokespecial 1, 3), (4, .aload_n 0, 1), (5, .iconst 5, 1), (6, .newarray .int, 2), (8, .putfield 7, 3), (11, .aload_n 0, 1), (12, .sipush 176, 3), (15, .newarray .int, 2), (17, .putfield 13, 3), (20, .aload_n 0, 1), (21, .bipush 24, 2), (23, .newarray .int, 2), (25, .putfield 16, 3), (28, .aload_n 0, 1), (29, .bipush 72, 2), (31, .newarray .int, 2), (33, .putfield 19, 3), (36, .aload_n 0, 1), (37, .iconst 3, 1), (38, .newarray .int, 2), (40, .putfield 22, 3), (43, .aload_n 0, 1), (44, .sipush 204, 3), (47, .newarray .int, 2), (49, .putfield 25, 3), (52, .aload_n 0, 1), (53, .bipush 6, 2), (55, .newarray .int, 2), (57, .putfield 28, 3), (60, .aload_n 0, 1), (61, .sipush 976, 3), (64, .newarray .int, 2), (66, .putfield 31, 3), (69, .aload_n 0, 1), (70, .iconst 3, 1), (71, .newarray .int, 2), (73, .putfield 34, 3), (76, .aload_n 0, 1), (77, .bipush 6, 2), (79, .newarray .int, 2), (81, .putfield 37, 3), (84, .aload_n 0, 1), (85, .bipush 6, 2), (87, .newarray .int, 2), (89, .putfield 40, 3), (92, .aload_n 0, 1), (93, .iconst 2, 1), (94, .newarray .boolean, 2), (96, .putfield 43, 3), (99, .aload_n 0, 1), (100, .bipush 34, 2), (102, .newarray .int, 2), (104, .putfield 47, 3), (107, .aload_n 0, 1), (108, .getfield 34, 3), (111, .iconst 0, 1), (112, .bipush 10, 2), (114, .iastore, 1), (115, .return_, 1)]
/-- SupperTalesModel.in(JJJ)Z -/
def mI_134 : List (Nat × Instr × Nat) := [(0, .lload_n 0, 1), (1, .lload_n 2, 1), (2, .lcmp, 1), (3, .ifCond .lt 14, 3), (6, .lload_n 0, 1), (7, .lload 4, 2), (9, .lcmp, 1), (10, .ifCond .gt 7, 3), (13, .iconst 1, 1), (14, .goto 4, 3), (17, .iconst 0, 1), (18, .ireturn, 1)]
/-- SupperTalesModel.has(II)Z -/
def mI_135 : List (Nat × Instr × Nat) := [(0, .iload_n 0, 1), (1, .iload_n 1, 1), (2, .ishr, 1), (3, .iconst 1, 1), (4, .iand, 1), (5, .iconst 1, 1), (6, .if_icmp .ne 7, 3), (9, .iconst 1, 1), (10, .goto 4, 3), (13, .iconst 0, 1), (14, .ireturn, 1)]
/-- SupperTalesModel.ones(I)I -/
def mI_136 : List (Nat × Instr × Nat) := [(0, .iconst 0, 1), (1, .istore_n 1, 1), (2, .iconst 0, 1), (3, .istore_n 2, 1), (4, .iload_n 2, 1), (5, .bipush 8, 2), (7, .if_icmp .ge 17, 3), (10, .iload_n 1, 1), (11, .iload_n 0, 1), (12, .iload_n 2, 1), (13, .ishr, 1), (14, .iconst 1, 1), (15, .iand, 1), (16, .iadd, 1), (17, .istore_n 1, 1), (18, .iinc 2 1, 3), (21, .goto (-17), 3), (24, .iload_n 1, 1), (25, .ireturn, 1)]
/-- SupperTalesModel.write(I)I -/
def mI_137 : List (Nat × Instr × Nat) := [(0, .iload_n 1, 1), (1, .i2l, 1), (2, .lconst 0, 1), (3, .ldc2_w 50, 3), (6, .invokestatic 52, 3), (9, .ifCond .ne 6, 3), (12, .bipush (-2), 2), (14, .ireturn, 1), (15, .aload_n 0, 1), (16, .getfield 56, 3), (19, .bipush 24, 2), (21, .if_icmp .ne 6, 3), (24, .bipush (-4), 2), (26, .ireturn, 1), (27, .aload_n 0, 1), (28, .getfield 16, 3), (31, .aload_n 0, 1), (32, .getfield 56, 3), (35, .iload_n 1, 1), (36, .iastore, 1), (37, .aload_n 0, 1), (38, .dup, 1), (39, .getfield 56, 3), (42, .iconst 1, 1), (43, .iadd, 1), (44, .putfield 56, 3), (47, .aload_n 0, 1), (48, .getfield 56, 3), (51, .ireturn, 1)]
/-- SupperTalesModel.wipe()I -/
def mI_138 : List (Nat × Instr × Nat) := [(0, .aload_n 0, 1), (1, .getfield 56, 3), (4, .istore_n 1, 1), (5, .aload_n 0, 1), (6, .iconst 0, 1), (7, .putfield 56, 3), (10, .iload_n 1, 1), (11, .ireturn, 1)]
/-- SupperTalesModel.fits(I)Z -/
def mI_139 : List (Nat × Instr × Nat) := [(0, .aload_n 0, 1), (1, .getfield 16, 3), (4, .iload_n 1, 1), (5, .iaload, 1), (6, .istore_n 2, 1), (7, .iload_n 1, 1), (8, .ifCond .ne 15, 3), (11, .iload_n 2, 1), (12, .bipush 73, 2), (14, .if_icmp .ne 7, 3), (17, .iconst 1, 1), (18, .goto 4, 3), (21, .iconst 0, 1), (22, .ireturn, 1), (23, .iload_n 1, 1), (24, .bipush 20, 2), (26, .if_icmp .le 5, 3), (29, .iconst 0, 1), (30, .ireturn, 1), (31, .iload_n 1, 1), (32, .iconst 1, 1), (33, .isub, 1), (34, .iconst 4, 1), (35, .irem, 1), (36, .tableswitch 64 0 2 #[28, 40, 52], 28), (64, .iload_n 2, 1), (65, .bipush 71, 2), (67, .if_icmp .ne 7, 3), (70, .iconst 1, 1), (71, .goto 4, 3), (74, .iconst 0, 1), (75, .ireturn, 1), (76, .iload_n 2, 1), (77, .i2l, 1), (78, .ldc2_w 60, 3), (81, .ldc2_w 62, 3), (84, .invokestatic 52, 3), (87, .ireturn, 1), (88, .iload_n 2, 1), (89, .i2l, 1), (90, .ldc2_w 64, 3), (93, .ldc2_w 66, 3), (96, .invokestatic 52, 3), (99, .ireturn, 1), (100, .iload_n 2, 1), (101, .i2l, 1), (102, .ldc2_w 64, 3), (105, .ldc2_w 68, 3), (108, .invokestatic 52, 3), (111, .ireturn, 1)]
/-- SupperTalesModel.fault()I -/
def mI_140 : List (Nat × Instr × Nat) := [(0, .iconst 0, 1), (1, .istore_n 1, 1), (2, .iload_n 1, 1), (3, .aload_n 0, 1), (4, .getfield 56, 3), (7, .if_icmp .ge 19, 3), (10, .aload_n 0, 1), (11, .iload_n 1, 1), (12, .invokevirtual 70, 3), (15, .ifCond .ne 5, 3), (18, .iload_n 1, 1), (19, .ireturn, 1), (20, .iinc 1 1, 3), (23, .goto (-21), 3), (26, .aload_n 0, 1), (27, .getfield 56, 3), (30, .ifCond .le 19, 3), (33, .aload_n 0, 1), (34, .getfield 56, 3), (37, .iconst 1, 1), (38, .isub, 1), (39, .iconst 4, 1), (40, .irem, 1), (41, .ifCond .ne 8, 3), (44, .bipush (-9), 2), (46, .goto 7, 3), (49, .aload_n 0, 1), (50, .getfield 56, 3), (53, .ireturn, 1)]
/-- SupperTalesModel.inn()I -/
def mI_141 : List (Nat × Instr × Nat) := [(0, .aload_n 0, 1), (1, .invokevirtual 74, 3), (4, .bipush (-9), 2), (6, .if_icmp .eq 6, 3), (9, .bipush (-3), 2), (11, .ireturn, 1), (12, .aload_n 0, 1), (13, .aload_n 0, 1), (14, .getfield 56, 3), (17, .iconst 1, 1), (18, .isub, 1), (19, .iconst 4, 1), (20, .idiv, 1), (21, .putfield 78, 3), (24, .iconst 0, 1), (25, .istore_n 1, 1), (26, .iload_n 1, 1), (27, .bipush 22, 2), (29, .if_icmp .ge 16, 3), (32, .aload_n 0, 1), (33, .getfield 13, 3), (36, .iload_n 1, 1), (37, .iconst 0, 1), (38, .iastore, 1), (39, .iinc 1 1, 3), (42, .goto (-16), 3), (45, .aload_n 0, 1), (46, .getfield 13, 3), (49, .bipush 15, 2), (51, .iconst 1, 1), (52, .aload_n 0, 1), (53, .getfield 78, 3), (56, .ishl, 1), (57, .iconst 1, 1), (58, .isub, 1), (59, .iastore, 1), (60, .iconst 0, 1), (61, .istore_n 1, 1), (62, .iload_n 1, 1), (63, .iconst 5, 1), (64, .if_icmp .ge 27, 3), (67, .aload_n 0, 1), (68, .getfield 13, 3), (71, .bipush 10, 2), (73, .iload_n 1, 1), (74, .iadd, 1), (75, .bipush (-9), 2), (77, .iastore, 1), (78, .aload_n 0, 1), (79, .getfield 7, 3), (82, .iload_n 1, 1), (83, .iconst 0, 1), (84, .iastore, 1), (85, .iinc 1 1, 3), (88, .goto (-26), 3), (91, .iconst 0, 1), (92, .istore_n 1, 1), (93, .iload_n 1, 1), (94, .aload_n 0, 1), (95, .getfield 78, 3), (98, .if_icmp .ge 68, 3), (101, .aload_n 0, 1), (102, .getfield 13, 3), (105, .iload_n 1, 1), (106, .aload_n 0, 1), (107, .getfield 16, 3), (110, .iconst 2, 1), (111, .iconst 4, 1), (112, .iload_n 1, 1), (113, .imul, 1), (114, .iadd, 1), (115, .iaload, 1), (116, .bipush 97, 2), (118, .isub, 1), (119, .iastore, 1), (120, .aload_n 0, 1), (121, .getfield 13, 3), (124, .iconst 5, 1), (125, .iload_n 1, 1), (126, .iadd, 1), (127, .aload_n 0, 1), (128, .getfield 16, 3), (131, .iconst 3, 1), (132, .iconst 4, 1), (133, .iload_n 1, 1), (134, .imul, 1), (135, .iadd, 1), (136, .iaload, 1), (137, .bipush 48, 2), (139, .isub, 1), (140, .iastore, 1), (141, .aload_n 0, 1), (142, .getfield 7, 3), (145, .iload_n 1, 1), (146, .aload_n 0, 1), (147, .getfield 16, 3), (150, .iconst 4, 1), (151, .iconst 4, 1), (152, .iload_n 1, 1), (153, .imul, 1), (154, .iadd, 1), (155, .iaload, 1), (156, .bipush 48, 2), (158, .isub, 1), (159, .iastore, 1), (160, .iinc 1 1, 3), (163, .goto (-70), 3), (166, .aload_n 0, 1), (167, .iconst 0, 1), (168, .putfield 81, 3), (171, .aload_n 0, 1), (172, .getfield 43, 3), (175, .iconst 0, 1), (176, .iconst 0, 1), (177, .bastore, 1), (178, .aload_n 0, 1), (179, .getfield 43, 3), (182, .iconst 1, 1), (183, .iconst 0, 1), (184, .bastore, 1), (185, .aload_n 0, 1), (186, .getfield 78, 3), (189, .ireturn, 1)]
/-- SupperTalesModel.isTale(I)Z -/
def mI_142 : List (Nat × Instr × Nat) := [(0, .iload_n 0, 1), (1, .i2l, 1), (2, .lconst 0, 1), (3, .ldc2_w 84, 3), (6, .invokestatic 52, 3), (9, .ireturn, 1)]
/-- SupperTalesModel.quill(II)I -/
def mI_143 : List (Nat × Instr × Nat) := [(0, .iload_n 1, 1), (1, .invokestatic 86, 3), (4, .ifCond .ne 5, 3), (7, .iconst (-1), 1), (8, .ireturn, 1), (9, .iload_n 2, 1), (10, .i2l, 1), (11, .lconst 0, 1), (12, .ldc2_w 50, 3), (15, .invokestatic 52, 3), (18, .ifCond .ne 6, 3), (21, .bipush (-2), 2), (23, .ireturn, 1), (24, .aload_n 0, 1), (25, .getfield 22, 3), (28, .iload_n 1, 1), (29, .iaload, 1), (30, .bipush 24, 2), (32, .if_icmp .ne 6, 3), (35, .bipush (-4), 2), (37, .ireturn, 1), (38, .aload_n 0, 1), (39, .getfield 19, 3), (42, .bipush 24, 2), (44, .iload_n 1, 1), (45, .imul, 1), (46, .aload_n 0, 1), (47, .getfield 22, 3), (50, .iload_n 1, 1), (51, .iaload, 1), (52, .iadd, 1), (53, .iload_n 2, 1), (54, .iastore, 1), (55, .aload_n 0, 1), (56, .getfield 22, 3), (59, .iload_n 1, 1), (60, .dup2, 1), (61, .iaload, 1), (62, .iconst 1, 1), (63, .iadd, 1), (64, .iastore, 1), (65, .aload_n 0, 1), (66, .getfield 22, 3), (69, .iload_n 1, 1), (70, .iaload, 1), (71, .ireturn, 1)]
/-- SupperTalesModel.blot(I)I -/
def mI_144 : List (Nat × Instr × Nat) := [(0, .iload_n 1, 1), (1, .invokestatic 86, 3), (4, .ifCond .ne 5, 3), (7, .iconst (-1), 1), (8, .ireturn, 1), (9, .aload_n 0, 1), (10, .getfield 22, 3), (13, .iload_n 1, 1), (14, .iaload, 1), (15, .istore_n 2, 1), (16, .aload_n 0, 1), (17, .getfield 22, 3), (20, .iload_n 1, 1), (21, .iconst 0, 1), (22, .iastore, 1), (23, .iload_n 2, 1), (24, .ireturn, 1)]
/-- SupperTalesModel.kindOf(I)I -/
def mI_145 : List (Nat × Instr × Nat) := [(0, .iload_n 0, 1), (1, .bipush 107, 2), (3, .if_icmp .ne 7, 3), (6, .iconst 0, 1), (7, .goto 35, 3), (10, .iload_n 0, 1), (11, .bipush 119, 2), (13, .if_icmp .ne 7, 3), (16, .iconst 1, 1), (17, .goto 25, 3), (20, .iload_n 0, 1), (21, .bipush 103, 2), (23, .if_icmp .ne 7, 3), (26, .iconst 2, 1), (27, .goto 15, 3), (30, .iload_n 0, 1), (31, .bipush 116, 2), (33, .if_icmp .ne 7, 3), (36, .iconst 3, 1), (37, .goto 5, 3), (40, .bipush (-9), 2), (42, .ireturn, 1)]
/-- SupperTalesModel.slipOf(I)I -/
def mI_146 : List (Nat × Instr × Nat) := [(0, .iconst 0, 1), (1, .istore_n 2, 1), (2, .iload_n 2, 1), (3, .aload_n 0, 1), (4, .getfield 22, 3), (7, .iload_n 1, 1), (8, .iaload, 1), (9, .if_icmp .ge 64, 3), (12, .aload_n 0, 1), (13, .getfield 19, 3), (16, .bipush 24, 2), (18, .iload_n 1, 1), (19, .imul, 1), (20, .iload_n 2, 1), (21, .iadd, 1), (22, .iaload, 1), (23, .istore_n 3, 1), (24, .iload_n 2, 1), (25, .iconst 3, 1), (26, .irem, 1), (27, .ifCond .ne 20, 3), (30, .iload_n 3, 1), (31, .invokestatic 89, 3), (34, .bipush (-9), 2), (36, .if_icmp .eq 7, 3), (39, .iconst 1, 1), (40, .goto 18, 3), (43, .iconst 0, 1), (44, .goto 14, 3), (47, .iload_n 3, 1), (48, .i2l, 1), (49, .ldc2_w 60, 3), (52, .ldc2_w 62, 3), (55, .invokestatic 52, 3), (58, .istore 4, 2), (60, .iload 4, 2), (62, .ifCond .ne 5, 3), (65, .iload_n 2, 1), (66, .ireturn, 1), (67, .iinc 2 1, 3), (70, .goto (-68), 3), (73, .aload_n 0, 1), (74, .getfield 22, 3), (77, .iload_n 1, 1), (78, .iaload, 1), (79, .iconst 3, 1), (80, .irem, 1), (81, .ifCond .ne 8, 3), (84, .bipush (-9), 2), (86, .goto 9, 3), (89, .aload_n 0, 1), (90, .getfield 22, 3), (93, .iload_n 1, 1), (94, .iaload, 1), (95, .ireturn, 1)]
/-- SupperTalesModel.slip(I)I -/
def mI_147 : List (Nat × Instr × Nat) := [(0, .iload_n 1, 1), (1, .invokestatic 86, 3), (4, .ifCond .eq 11, 3), (7, .aload_n 0, 1), (8, .iload_n 1, 1), (9, .invokevirtual 93, 3), (12, .goto 4, 3), (15, .iconst (-1), 1), (16, .ireturn, 1)]
/-- SupperTalesModel.deeds(I)I -/
def mI_148 : List (Nat × Instr × Nat) := [(0, .aload_n 0, 1), (1, .iload_n 1, 1), (2, .invokevirtual 93, 3), (5, .istore_n 2, 1), (6, .iload_n 2, 1), (7, .bipush (-9), 2), (9, .if_icmp .ne 12, 3), (12, .aload_n 0, 1), (13, .getfield 22, 3), (16, .iload_n 1, 1), (17, .iaload, 1), (18, .goto 4, 3), (21, .iload_n 2, 1), (22, .iconst 3, 1), (23, .idiv, 1), (24, .ireturn, 1)]
/-- SupperTalesModel.deedOf(II)I -/
def mI_149 : List (Nat × Instr × Nat) := [(0, .bipush 24, 2), (2, .iload_n 1, 1), (3, .imul, 1), (4, .iconst 3, 1), (5, .iload_n 2, 1), (6, .imul, 1), (7, .iadd, 1), (8, .istore_n 3, 1), (9, .bipush 16, 2), (11, .aload_n 0, 1), (12, .getfield 19, 3), (15, .iload_n 3, 1), (16, .iaload, 1), (17, .invokestatic 89, 3), (20, .imul, 1), (21, .iconst 4, 1), (22, .aload_n 0, 1), (23, .getfield 19, 3), (26, .iload_n 3, 1), (27, .iconst 1, 1), (28, .iadd, 1), (29, .iaload, 1), (30, .bipush 97, 2), (32, .isub, 1), (33, .imul, 1), (34, .iadd, 1), (35, .aload_n 0, 1), (36, .getfield 19, 3), (39, .iload_n 3, 1), (40, .iconst 2, 1), (41, .iadd, 1), (42, .iaload, 1), (43, .iadd, 1), (44, .bipush 97, 2), (46, .isub, 1), (47, .ireturn, 1)]
/-- SupperTalesModel.isGuest(I)Z -/
def mI_150 : List (Nat × Instr × Nat) := [(0, .iload_n 1, 1), (1, .i2l, 1), (2, .lconst 0, 1), (3, .aload_n 0, 1), (4, .getfield 78, 3), (7, .iconst 1, 1), (8, .isub, 1), (9, .i2l, 1), (10, .invokestatic 52, 3), (13, .ireturn, 1)]
/-- SupperTalesModel.guest(II)I -/
def mI_151 : List (Nat × Instr × Nat) := [(0, .aload_n 0, 1), (1, .iload_n 1, 1), (2, .invokevirtual 96, 3), (5, .ifCond .ne 5, 3), (8, .iconst (-1), 1), (9, .ireturn, 1), (10, .iload_n 2, 1), (11, .tableswitch 81 0 4 #[33, 40, 52, 59, 71], 33), (44, .aload_n 0, 1), (45, .getfield 13, 3), (48, .iload_n 1, 1), (49, .iaload, 1), (50, .ireturn, 1), (51, .bipush 100, 2), (53, .aload_n 0, 1), (54, .getfield 13, 3), (57, .iconst 5, 1), (58, .iload_n 1, 1), (59, .iadd, 1), (60, .iaload, 1), (61, .iadd, 1), (62, .ireturn, 1), (63, .aload_n 0, 1), (64, .getfield 7, 3), (67, .iload_n 1, 1), (68, .iaload, 1), (69, .ireturn, 1), (70, .aload_n 0, 1), (71, .getfield 13, 3), (74, .bipush 15, 2), (76, .iaload, 1), (77, .iload_n 1, 1), (78, .ishr, 1), (79, .iconst 1, 1), (80, .iand, 1), (81, .ireturn, 1), (82, .aload_n 0, 1), (83, .getfield 13, 3), (86, .bipush 10, 2), (88, .iload_n 1, 1), (89, .iadd, 1), (90, .iaload, 1), (91, .ireturn, 1), (92, .bipush (-2), 2), (94, .ireturn, 1)]
/-- SupperTalesModel.bearsAt(II)I -/
def mI_152 : List (Nat × Instr × Nat) := [(0, .bipush 22, 2), (2, .iload_n 1, 1), (3, .imul, 1), (4, .istore_n 3, 1), (5, .iconst 0, 1), (6, .istore 4, 2), (8, .iconst 0, 1), (9, .istore 5, 2), (11, .iload 5, 2), (13, .aload_n 0, 1), (14, .getfield 78, 3), (17, .if_icmp .ge 52, 3), (20, .iload 4, 2), (22, .aload_n 0, 1), (23, .getfield 13, 3), (26, .iload_n 3, 1), (27, .bipush 15, 2), (29, .iadd, 1), (30, .iaload, 1), (31, .iload 5, 2), (33, .invokestatic 99, 3), (36, .ifCond .eq 23, 3), (39, .aload_n 0, 1), (40, .getfield 13, 3), (43, .iload_n 3, 1), (44, .iload 5, 2), (46, .iadd, 1), (47, .iaload, 1), (48, .iload_n 2, 1), (49, .if_icmp .ne 10, 3), (52, .iconst 1, 1), (53, .iload 5, 2), (55, .ishl, 1), (56, .goto 4, 3), (59, .iconst 0, 1), (60, .ior, 1), (61, .istore 4, 2), (63, .iinc 5 1, 3), (66, .goto (-55), 3), (69, .iload 4, 2), (71, .ireturn, 1)]
/-- SupperTalesModel.bears(I)I -/
def mI_153 : List (Nat × Instr × Nat) := [(0, .iload_n 1, 1), (1, .i2l, 1), (2, .lconst 0, 1), (3, .ldc2_w 103, 3), (6, .invokestatic 52, 3), (9, .ifCond .eq 12, 3), (12, .aload_n 0, 1), (13, .iconst 0, 1), (14, .iload_n 1, 1), (15, .invokevirtual 105, 3), (18, .goto 5, 3), (21, .bipush (-2), 2), (23, .ireturn, 1)]
/-- SupperTalesModel.least(I)I -/
def mI_154 : List (Nat × Instr × Nat) := [(0, .iconst 0, 1), (1, .istore_n 1, 1), (2, .iload_n 1, 1), (3, .iconst 5, 1), (4, .if_icmp .ge 19, 3), (7, .iload_n 0, 1), (8, .iload_n 1, 1), (9, .invokestatic 99, 3), (12, .ifCond .eq 5, 3), (15, .iload_n 1, 1), (16, .ireturn, 1), (17, .iinc 1 1, 3), (20, .goto (-18), 3), (23, .bipush (-9), 2), (25, .ireturn, 1)]
/-- SupperTalesModel.strong(II)I -/
def mI_155 : List (Nat × Instr × Nat) := [(0, .iconst 0, 1), (1, .istore_n 3, 1), (2, .iconst 0, 1), (3, .istore 4, 2), (5, .iload 4, 2), (7, .aload_n 0, 1), (8, .getfield 78, 3), (11, .if_icmp .ge 47, 3), (14, .iload_n 3, 1), (15, .iload_n 2, 1), (16, .iload 4, 2), (18, .invokestatic 99, 3), (21, .ifCond .eq 28, 3), (24, .aload_n 0, 1), (25, .getfield 13, 3), (28, .bipush 22, 2), (30, .iload_n 1, 1), (31, .imul, 1), (32, .bipush 17, 2), (34, .iadd, 1), (35, .iload 4, 2), (37, .iadd, 1), (38, .iaload, 1), (39, .ifCond .le 10, 3), (42, .iconst 1, 1), (43, .iload 4, 2), (45, .ishl, 1), (46, .goto 4, 3), (49, .iconst 0, 1), (50, .ior, 1), (51, .istore_n 3, 1), (52, .iinc 4 1, 3), (55, .goto (-50), 3), (58, .iload_n 3, 1), (59, .ireturn, 1)]
/-- SupperTalesModel.act(IIII)Z -/
def mI_156 : List (Nat × Instr × Nat) := [(0, .bipush 22, 2), (2, .iload_n 1, 1), (3, .imul, 1), (4, .istore 5, 2), (6, .iload_n 2, 1), (7, .bipush 16, 2), (9, .idiv, 1), (10, .istore 6, 2), (12, .iload 4, 2), (14, .bipush (-9), 2), (16, .if_icmp .eq 68, 3), (19, .iload 6, 2), (21, .iconst 1, 1), (22, .if_icmp .ne 38, 3), (25, .aload_n 0, 1), (26, .getfield 13, 3), (29, .iload 5, 2), (31, .bipush 10, 2), (33, .iadd, 1), (34, .iload_n 3, 1), (35, .iadd, 1), (36, .iaload, 1), (37, .bipush (-9), 2), (39, .if_icmp .ne 45, 3), (42, .aload_n 0, 1), (43, .getfield 13, 3), (46, .iload 5, 2), (48, .bipush 10, 2), (50, .iadd, 1), (51, .iload 4, 2), (53, .iadd, 1), (54, .iaload, 1), (55, .bipush (-9), 2), (57, .if_icmp .ne 27, 3), (60, .iload 6, 2), (62, .iconst 2, 1), (63, .if_icmp .ne 17, 3), (66, .aload_n 0, 1), (67, .getfield 13, 3), (70, .iload 5, 2), (72, .iconst 5, 1), (73, .iadd, 1), (74, .iload_n 3, 1), (75, .iadd, 1), (76, .iaload, 1), (77, .ifCond .le 7, 3), (80, .iconst 1, 1), (81, .goto 4, 3), (84, .iconst 0, 1), (85, .istore 7, 2), (87, .iload 7, 2), (89, .ifCond .ne 20, 3), (92, .aload_n 0, 1), (93, .getfield 13, 3), (96, .iload 5, 2), (98, .iconst 5, 1), (99, .iadd, 1), (100, .iload_n 3, 1), (101, .iadd, 1), (102, .dup2, 1), (103, .iaload, 1), (104, .iconst 1, 1), (105, .isub, 1), (106, .iastore, 1), (107, .iconst 0, 1), (108, .ireturn, 1), (109, .aload_n 0, 1), (110, .getfield 13, 3), (113, .iload 5, 2), (115, .bipush 17, 2), (117, .iadd, 1), (118, .iload_n 3, 1), (119, .iadd, 1), (120, .dup2, 1), (121, .iaload, 1), (122, .iconst 1, 1), (123, .isub, 1), (124, .iastore, 1), (125, .iload 6, 2), (127, .ifCond .ne 77, 3), (130, .aload_n 0, 1), (131, .getfield 13, 3), (134, .iload 5, 2), (136, .bipush 10, 2), (138, .iadd, 1), (139, .iload 4, 2), (141, .iadd, 1), (142, .iaload, 1), (143, .istore 8, 2), (145, .aload_n 0, 1), (146, .getfield 13, 3), (149, .iload 5, 2), (151, .bipush 15, 2), (153, .iadd, 1), (154, .dup2, 1), (155, .iaload, 1), (156, .iconst 1, 1), (157, .iload 4, 2), (159, .ishl, 1), (160, .iconst (-1), 1), (161, .ixor, 1), (162, .iand, 1), (163, .iastore, 1), (164, .aload_n 0, 1), (165, .getfield 13, 3), (168, .iload 5, 2), (170, .bipush 10, 2), (172, .iadd, 1), (173, .iload 4, 2), (175, .iadd, 1), (176, .bipush (-9), 2), (178, .iastore, 1), (179, .iload 8, 2), (181, .bipush (-9), 2), (183, .if_icmp .eq 18, 3), (186, .aload_n 0, 1), (187, .getfield 13, 3), (190, .iload 5, 2), (192, .bipush 10, 2), (194, .iadd, 1), (195, .iload 8, 2), (197, .iadd, 1), (198, .bipush (-9), 2), (200, .iastore, 1), (201, .goto 92, 3), (204, .iload 6, 2), (206, .iconst 1, 1), (207, .if_icmp .ne 34, 3), (210, .aload_n 0, 1), (211, .getfield 13, 3), (214, .iload 5, 2), (216, .bipush 10, 2), (218, .iadd, 1), (219, .iload_n 3, 1), (220, .iadd, 1), (221, .iload 4, 2), (223, .iastore, 1), (224, .aload_n 0, 1), (225, .getfield 13, 3), (228, .iload 5, 2), (230, .bipush 10, 2), (232, .iadd, 1), (233, .iload 4, 2), (235, .iadd, 1), (236, .iload_n 3, 1), (237, .iastore, 1), (238, .goto 55, 3), (241, .iload 6, 2), (243, .iconst 2, 1), (244, .if_icmp .ne 37, 3), (247, .aload_n 0, 1), (248, .getfield 13, 3), (251, .iload 5, 2), (253, .iconst 5, 1), (254, .iadd, 1), (255, .iload_n 3, 1), (256, .iadd, 1), (257, .dup2, 1), (258, .iaload, 1), (259, .iconst 1, 1), (260, .isub, 1), (261, .iastore, 1), (262, .aload_n 0, 1), (263, .getfield 13, 3), (266, .iload 5, 2), (268, .iconst 5, 1), (269, .iadd, 1), (270, .iload 4, 2), (272, .iadd, 1), (273, .dup2, 1), (274, .iaload, 1), (275, .iconst 1, 1), (276, .iadd, 1), (277, .iastore, 1), (278, .goto 15, 3), (281, .aload_n 0, 1), (282, .getfield 13, 3), (285, .iload 5, 2), (287, .iload_n 3, 1), (288, .iadd, 1), (289, .iload_n 2, 1), (290, .iconst 4, 1), (291, .irem, 1), (292, .iastore, 1), (293, .iconst 1, 1), (294, .ireturn, 1)]
/-- SupperTalesModel.deed(II)Z -/
def mI_157 : List (Nat × Instr × Nat) := [(0, .aload_n 0, 1), (1, .iload_n 1, 1), (2, .iload_n 2, 1), (3, .iconst 4, 1), (4, .idiv, 1), (5, .iconst 4, 1), (6, .irem, 1), (7, .invokevirtual 105, 3), (10, .istore_n 3, 1), (11, .aload_n 0, 1), (12, .iload_n 1, 1), (13, .iload_n 3, 1), (14, .invokevirtual 109, 3), (17, .istore 4, 2), (19, .iload 4, 2), (21, .ifCond .ne 39, 3), (24, .iload_n 3, 1), (25, .ifCond .eq 33, 3), (28, .aload_n 0, 1), (29, .getfield 13, 3), (32, .bipush 22, 2), (34, .iload_n 1, 1), (35, .imul, 1), (36, .iconst 5, 1), (37, .iadd, 1), (38, .iload_n 3, 1), (39, .invokestatic 112, 3), (42, .iadd, 1), (43, .dup2, 1), (44, .iaload, 1), (45, .iconst 1, 1), (46, .isub, 1), (47, .iastore, 1), (48, .aload_n 0, 1), (49, .dup, 1), (50, .getfield 115, 3), (53, .iconst 1, 1), (54, .iadd, 1), (55, .putfield 115, 3), (58, .iconst 0, 1), (59, .ireturn, 1), (60, .iload 4, 2), (62, .invokestatic 112, 3), (65, .istore 5, 2), (67, .aload_n 0, 1), (68, .iload_n 1, 1), (69, .iload_n 2, 1), (70, .iload 5, 2), (72, .aload_n 0, 1), (73, .iload_n 1, 1), (74, .iload_n 2, 1), (75, .iconst 4, 1), (76, .irem, 1), (77, .invokevirtual 105, 3), (80, .iconst 1, 1), (81, .iload 5, 2), (83, .ishl, 1), (84, .iconst (-1), 1), (85, .ixor, 1), (86, .iand, 1), (87, .invokestatic 112, 3), (90, .invokevirtual 118, 3), (93, .istore 6, 2), (95, .aload_n 0, 1), (96, .dup, 1), (97, .getfield 115, 3), (100, .iload 6, 2), (102, .ifCond .eq 7, 3), (105, .iconst 0, 1), (106, .goto 4, 3), (109, .iconst 1, 1), (110, .iadd, 1), (111, .putfield 115, 3), (114, .iload 6, 2), (116, .ireturn, 1)]
/-- SupperTalesModel.dusk(I)V -/
def mI_158 : List (Nat × Instr × Nat) := [(0, .iconst 0, 1), (1, .istore_n 2, 1), (2, .iload_n 2, 1), (3, .iconst 5, 1), (4, .if_icmp .ge 29, 3), (7, .aload_n 0, 1), (8, .getfield 13, 3), (11, .bipush 22, 2), (13, .iload_n 1, 1), (14, .imul, 1), (15, .bipush 17, 2), (17, .iadd, 1), (18, .iload_n 2, 1), (19, .iadd, 1), (20, .aload_n 0, 1), (21, .getfield 7, 3), (24, .iload_n 2, 1), (25, .iaload, 1), (26, .iastore, 1), (27, .iinc 2 1, 3), (30, .goto (-28), 3), (33, .aload_n 0, 1), (34, .iconst 0, 1), (35, .putfield 115, 3), (38, .return_, 1)]
/-- SupperTalesModel.tellOn(III)I -/
def mI_159 : List (Nat × Instr × Nat) := [(0, .aload_n 0, 1), (1, .iload_n 1, 1), (2, .invokevirtual 122, 3), (5, .iconst 0, 1), (6, .istore 4, 2), (8, .aload_n 0, 1), (9, .iload_n 2, 1), (10, .invokevirtual 126, 3), (13, .istore 5, 2), (15, .iconst 0, 1), (16, .istore 6, 2), (18, .iload 6, 2), (20, .iload 5, 2), (22, .if_icmp .ge 42, 3), (25, .iload_n 3, 1), (26, .iload 6, 2), (28, .invokestatic 99, 3), (31, .ifCond .ne 27, 3), (34, .aload_n 0, 1), (35, .iload_n 1, 1), (36, .aload_n 0, 1), (37, .iload_n 2, 1), (38, .iload 6, 2), (40, .invokevirtual 129, 3), (43, .invokevirtual 132, 3), (46, .ifCond .eq 12, 3), (49, .iload 4, 2), (51, .iconst 1, 1), (52, .iload 6, 2), (54, .ishl, 1), (55, .ior, 1), (56, .istore 4, 2), (58, .iinc 6 1, 3), (61, .goto (-43), 3), (64, .aload_n 0, 1), (65, .getfield 13, 3), (68, .bipush 22, 2), (70, .iload_n 1, 1), (71, .imul, 1), (72, .bipush 16, 2), (74, .iadd, 1), (75, .dup2, 1), (76, .iaload, 1), (77, .iconst 1, 1), (78, .iadd, 1), (79, .iastore, 1), (80, .iload 4, 2), (82, .ireturn, 1)]
/-- SupperTalesModel.lay(II)V -/
def mI_160 : List (Nat × Instr × Nat) := [(0, .iconst 0, 1), (1, .istore_n 3, 1), (2, .iload_n 3, 1), (3, .bipush 22, 2), (5, .if_icmp .ge 31, 3), (8, .aload_n 0, 1), (9, .getfield 13, 3), (12, .bipush 22, 2), (14, .iload_n 2, 1), (15, .imul, 1), (16, .iload_n 3, 1), (17, .iadd, 1), (18, .aload_n 0, 1), (19, .getfield 13, 3), (22, .bipush 22, 2), (24, .iload_n 1, 1), (25, .imul, 1), (26, .iload_n 3, 1), (27, .iadd, 1), (28, .iaload, 1), (29, .iastore, 1), (30, .iinc 3 1, 3), (33, .goto (-31), 3), (36, .return_, 1)]
/-- SupperTalesModel.keepAct()V -/
def mI_161 : List (Nat × Instr × Nat) := [(0, .iconst 0, 1), (1, .istore_n 1, 1), (2, .iload_n 1, 1), (3, .bipush 17, 2), (5, .if_icmp .ge 29, 3), (8, .aload_n 0, 1), (9, .getfield 25, 3), (12, .bipush 17, 2), (14, .aload_n 0, 1), (15, .getfield 135, 3), (18, .imul, 1), (19, .iload_n 1, 1), (20, .iadd, 1), (21, .aload_n 0, 1), (22, .getfield 13, 3), (25, .iload_n 1, 1), (26, .iaload, 1), (27, .iastore, 1), (28, .iinc 1 1, 3), (31, .goto (-29), 3), (34, .aload_n 0, 1), (35, .aload_n 0, 1), (36, .getfield 135, 3), (39, .iconst 1, 1), (40, .iadd, 1), (41, .bipush 12, 2), (43, .irem, 1), (44, .putfield 135, 3), (47, .aload_n 0, 1), (48, .aload_n 0, 1), (49, .getfield 81, 3), (52, .bipush 12, 2), (54, .if_icmp .ge 12, 3), (57, .aload_n 0, 1), (58, .getfield 81, 3), (61, .iconst 1, 1), (62, .iadd, 1), (63, .goto 5, 3), (66, .bipush 12, 2), (68, .putfield 81, 3), (71, .return_, 1)]
/-- SupperTalesModel.tell(I)I -/
def mI_162 : List (Nat × Instr × Nat) := [(0, .iload_n 1, 1), (1, .invokestatic 86, 3), (4, .ifCond .ne 5, 3), (7, .iconst (-1), 1), (8, .ireturn, 1), (9, .aload_n 0, 1), (10, .invokevirtual 138, 3), (13, .aload_n 0, 1), (14, .iconst 0, 1), (15, .iload_n 1, 1), (16, .iconst 0, 1), (17, .invokevirtual 141, 3), (20, .ireturn, 1)]
/-- SupperTalesModel.give(II)I -/
def mI_163 : List (Nat × Instr × Nat) := [(0, .aload_n 0, 1), (1, .iload_n 1, 1), (2, .invokevirtual 96, 3), (5, .ifCond .ne 5, 3), (8, .iconst (-1), 1), (9, .ireturn, 1), (10, .iload_n 2, 1), (11, .i2l, 1), (12, .lconst 0, 1), (13, .ldc2_w 103, 3), (16, .invokestatic 52, 3), (19, .ifCond .ne 6, 3), (22, .bipush (-2), 2), (24, .ireturn, 1), (25, .aload_n 0, 1), (26, .getfield 13, 3), (29, .bipush 15, 2), (31, .iaload, 1), (32, .iload_n 1, 1), (33, .invokestatic 99, 3), (36, .ifCond .eq 13, 3), (39, .aload_n 0, 1), (40, .getfield 13, 3), (43, .iload_n 1, 1), (44, .iaload, 1), (45, .iload_n 2, 1), (46, .if_icmp .ne 6, 3), (49, .bipush (-3), 2), (51, .ireturn, 1), (52, .aload_n 0, 1), (53, .invokevirtual 138, 3), (56, .aload_n 0, 1), (57, .getfield 13, 3), (60, .iload_n 1, 1), (61, .iaload, 1), (62, .istore_n 3, 1), (63, .aload_n 0, 1), (64, .getfield 13, 3), (67, .iload_n 1, 1), (68, .iload_n 2, 1), (69, .iastore, 1), (70, .iload_n 3, 1), (71, .ireturn, 1)]
/-- SupperTalesModel.undo()I -/
def mI_164 : List (Nat × Instr × Nat) := [(0, .aload_n 0, 1), (1, .getfield 81, 3), (4, .ifCond .ne 6, 3), (7, .bipush (-3), 2), (9, .ireturn, 1), (10, .aload_n 0, 1), (11, .dup, 1), (12, .getfield 81, 3), (15, .iconst 1, 1), (16, .isub, 1), (17, .putfield 81, 3), (20, .aload_n 0, 1), (21, .aload_n 0, 1), (22, .getfield 135, 3), (25, .bipush 11, 2), (27, .iadd, 1), (28, .bipush 12, 2), (30, .irem, 1), (31, .putfield 135, 3), (34, .iconst 0, 1), (35, .istore_n 1, 1), (36, .iload_n 1, 1), (37, .bipush 17, 2), (39, .if_icmp .ge 29, 3), (42, .aload_n 0, 1), (43, .getfield 13, 3), (46, .iload_n 1, 1), (47, .aload_n 0, 1), (48, .getfield 25, 3), (51, .bipush 17, 2), (53, .aload_n 0, 1), (54, .getfield 135, 3), (57, .imul, 1), (58, .iload_n 1, 1), (59, .iadd, 1), (60, .iaload, 1), (61, .iastore, 1), (62, .iinc 1 1, 3), (65, .goto (-29), 3), (68, .aload_n 0, 1), (69, .getfield 81, 3), (72, .ireturn, 1)]
/-- SupperTalesModel.dead(I)I -/
def mI_165 : List (Nat × Instr × Nat) := [(0, .iconst 1, 1), (1, .aload_n 0, 1), (2, .getfield 78, 3), (5, .ishl, 1), (6, .iconst 1, 1), (7, .isub, 1), (8, .aload_n 0, 1), (9, .getfield 13, 3), (12, .bipush 22, 2), (14, .iload_n 1, 1), (15, .imul, 1), (16, .bipush 15, 2), (18, .iadd, 1), (19, .iaload, 1), (20, .iconst (-1), 1), (21, .ixor, 1), (22, .iand, 1), (23, .ireturn, 1)]
/-- SupperTalesModel.allCoins(I)I -/
def mI_166 : List (Nat × Instr × Nat) := [(0, .sipush 1000, 3), (3, .istore_n 2, 1), (4, .iconst 0, 1), (5, .istore_n 3, 1), (6, .iload_n 3, 1), (7, .aload_n 0, 1), (8, .getfield 78, 3), (11, .if_icmp .ge 25, 3), (14, .iload_n 2, 1), (15, .aload_n 0, 1), (16, .getfield 13, 3), (19, .bipush 22, 2), (21, .iload_n 1, 1), (22, .imul, 1), (23, .iconst 5, 1), (24, .iadd, 1), (25, .iload_n 3, 1), (26, .iadd, 1), (27, .iaload, 1), (28, .iadd, 1), (29, .istore_n 2, 1), (30, .iinc 3 1, 3), (33, .goto (-27), 3), (36, .iload_n 2, 1), (37, .ireturn, 1)]
/-- SupperTalesModel.would(II)I -/
def mI_167 : List (Nat × Instr × Nat) := [(0, .iload_n 1, 1), (1, .invokestatic 86, 3), (4, .ifCond .ne 5, 3), (7, .iconst (-1), 1), (8, .ireturn, 1), (9, .iload_n 2, 1), (10, .i2l, 1), (11, .lconst 0, 1), (12, .ldc2_w 103, 3), (15, .invokestatic 52, 3), (18, .ifCond .ne 6, 3), (21, .bipush (-2), 2), (23, .ireturn, 1), (24, .aload_n 0, 1), (25, .iconst 0, 1), (26, .iconst 1, 1), (27, .invokevirtual 145, 3), (30, .aload_n 0, 1), (31, .iconst 1, 1), (32, .iload_n 1, 1), (33, .iconst 0, 1), (34, .invokevirtual 141, 3), (37, .istore_n 3, 1), (38, .iload_n 2, 1), (39, .ifCond .ne 7, 3), (42, .iload_n 3, 1), (43, .goto 33, 3), (46, .iload_n 2, 1), (47, .iconst 1, 1), (48, .if_icmp .ne 10, 3), (51, .aload_n 0, 1), (52, .getfield 115, 3), (55, .goto 21, 3), (58, .iload_n 2, 1), (59, .iconst 2, 1), (60, .if_icmp .ne 11, 3), (63, .aload_n 0, 1), (64, .iconst 1, 1), (65, .invokevirtual 149, 3), (68, .goto 8, 3), (71, .aload_n 0, 1), (72, .iconst 1, 1), (73, .invokevirtual 152, 3), (76, .ireturn, 1)]
/-- SupperTalesModel.coins(II)I -/
def mI_168 : List (Nat × Instr × Nat) := [(0, .iload_n 1, 1), (1, .invokestatic 86, 3), (4, .ifCond .eq 11, 3), (7, .aload_n 0, 1), (8, .iload_n 2, 1), (9, .invokevirtual 96, 3), (12, .ifCond .ne 5, 3), (15, .iconst (-1), 1), (16, .ireturn, 1), (17, .aload_n 0, 1), (18, .iconst 0, 1), (19, .iconst 1, 1), (20, .invokevirtual 145, 3), (23, .aload_n 0, 1), (24, .iconst 1, 1), (25, .iload_n 1, 1), (26, .iconst 0, 1), (27, .invokevirtual 141, 3), (30, .pop, 1), (31, .bipush 100, 2), (33, .aload_n 0, 1), (34, .getfield 13, 3), (37, .bipush 27, 2), (39, .iload_n 2, 1), (40, .iadd, 1), (41, .iaload, 1), (42, .iadd, 1), (43, .ireturn, 1)]
/-- SupperTalesModel.ends(IIII)Z -/
def mI_169 : List (Nat × Instr × Nat) := [(0, .bipush 22, 2), (2, .iload_n 1, 1), (3, .imul, 1), (4, .istore 5, 2), (6, .iload_n 3, 1), (7, .tableswitch 93 0 2 #[25, 48, 71], 25), (32, .aload_n 0, 1), (33, .getfield 13, 3), (36, .iload 5, 2), (38, .bipush 15, 2), (40, .iadd, 1), (41, .iaload, 1), (42, .iload_n 2, 1), (43, .invokestatic 99, 3), (46, .ifCond .ne 7, 3), (49, .iconst 1, 1), (50, .goto 4, 3), (53, .iconst 0, 1), (54, .ireturn, 1), (55, .aload_n 0, 1), (56, .getfield 13, 3), (59, .iload 5, 2), (61, .bipush 10, 2), (63, .iadd, 1), (64, .iload_n 2, 1), (65, .iadd, 1), (66, .iaload, 1), (67, .iload 4, 2), (69, .if_icmp .ne 7, 3), (72, .iconst 1, 1), (73, .goto 4, 3), (76, .iconst 0, 1), (77, .ireturn, 1), (78, .aload_n 0, 1), (79, .getfield 13, 3), (82, .iload 5, 2), (84, .iconst 5, 1), (85, .iadd, 1), (86, .iload_n 2, 1), (87, .iadd, 1), (88, .iaload, 1), (89, .iload 4, 2), (91, .if_icmp .lt 7, 3), (94, .iconst 1, 1), (95, .goto 4, 3), (98, .iconst 0, 1), (99, .ireturn, 1), (100, .aload_n 0, 1), (101, .getfield 13, 3), (104, .iload 5, 2), (106, .iload_n 2, 1), (107, .iadd, 1), (108, .iaload, 1), (109, .iload 4, 2), (111, .if_icmp .ne 7, 3), (114, .iconst 1, 1), (115, .goto 4, 3), (118, .iconst 0, 1), (119, .ireturn, 1)]
/-- SupperTalesModel.refusedEnd(III)I -/
def mI_170 : List (Nat × Instr × Nat) := [(0, .iload_n 2, 1), (1, .ifCond .eq 50, 3), (4, .iload_n 2, 1), (5, .iconst 1, 1), (6, .if_icmp .ne 11, 3), (9, .aload_n 0, 1), (10, .iload_n 3, 1), (11, .invokevirtual 96, 3), (14, .ifCond .ne 37, 3), (17, .iload_n 2, 1), (18, .iconst 2, 1), (19, .if_icmp .ne 15, 3), (22, .iload_n 3, 1), (23, .i2l, 1), (24, .lconst 0, 1), (25, .ldc2_w 155, 3), (28, .invokestatic 52, 3), (31, .ifCond .ne 20, 3), (34, .iload_n 2, 1), (35, .iconst 3, 1), (36, .if_icmp .ne 19, 3), (39, .iload_n 3, 1), (40, .i2l, 1), (41, .lconst 0, 1), (42, .ldc2_w 103, 3), (45, .invokestatic 52, 3), (48, .ifCond .eq 7, 3), (51, .iconst 1, 1), (52, .goto 4, 3), (55, .iconst 0, 1), (56, .istore 4, 2), (58, .iload_n 2, 1), (59, .i2l, 1), (60, .lconst 0, 1), (61, .ldc2_w 103, 3), (64, .invokestatic 52, 3), (67, .ifCond .eq 8, 3), (70, .iload 4, 2), (72, .ifCond .ne 8, 3), (75, .bipush (-2), 2), (77, .goto 16, 3), (80, .aload_n 0, 1), (81, .iload_n 1, 1), (82, .invokevirtual 96, 3), (85, .ifCond .ne 7, 3), (88, .iconst (-1), 1), (89, .goto 4, 3), (92, .iconst 0, 1), (93, .ireturn, 1)]
/-- SupperTalesModel.layShortest(III)I -/
def mI_171 : List (Nat × Instr × Nat) := [(0, .aload_n 0, 1), (1, .iconst 0, 1), (2, .iload_n 1, 1), (3, .iload_n 2, 1), (4, .iload_n 3, 1), (5, .invokevirtual 157, 3), (8, .ifCond .eq 5, 3), (11, .iconst 0, 1), (12, .ireturn, 1), (13, .iconst 0, 1), (14, .istore 4, 2), (16, .iload 4, 2), (18, .bipush 64, 2), (20, .if_icmp .ge 47, 3), (23, .aload_n 0, 1), (24, .iconst 0, 1), (25, .iconst 1, 1), (26, .invokevirtual 145, 3), (29, .aload_n 0, 1), (30, .iconst 1, 1), (31, .invokevirtual 122, 3), (34, .aload_n 0, 1), (35, .iconst 1, 1), (36, .iload 4, 2), (38, .invokevirtual 132, 3), (41, .pop, 1), (42, .aload_n 0, 1), (43, .iconst 1, 1), (44, .iload_n 1, 1), (45, .iload_n 2, 1), (46, .iload_n 3, 1), (47, .invokevirtual 157, 3), (50, .ifCond .eq 11, 3), (53, .aload_n 0, 1), (54, .iload 4, 2), (56, .putfield 160, 3), (59, .iconst 1, 1), (60, .ireturn, 1), (61, .iinc 4 1, 3), (64, .goto (-48), 3), (67, .iconst 0, 1), (68, .istore 4, 2), (70, .iload 4, 2), (72, .sipush 4096, 3), (75, .if_icmp .ge 61, 3), (78, .aload_n 0, 1), (79, .iconst 0, 1), (80, .iconst 1, 1), (81, .invokevirtual 145, 3), (84, .aload_n 0, 1), (85, .iconst 1, 1), (86, .invokevirtual 122, 3), (89, .aload_n 0, 1), (90, .iconst 1, 1), (91, .iload 4, 2), (93, .bipush 64, 2), (95, .idiv, 1), (96, .invokevirtual 132, 3), (99, .pop, 1), (100, .aload_n 0, 1), (101, .iconst 1, 1), (102, .iload 4, 2), (104, .bipush 64, 2), (106, .irem, 1), (107, .invokevirtual 132, 3), (110, .pop, 1), (111, .aload_n 0, 1), (112, .iconst 1, 1), (113, .iload_n 1, 1), (114, .iload_n 2, 1), (115, .iload_n 3, 1), (116, .invokevirtual 157, 3), (119, .ifCond .eq 11, 3), (122, .aload_n 0, 1), (123, .iload 4, 2), (125, .putfield 160, 3), (128, .iconst 2, 1), (129, .ireturn, 1), (130, .iinc 4 1, 3), (133, .goto (-63), 3), (136, .bipush (-9), 2), (138, .ireturn, 1)]
/-- SupperTalesModel.shortest(III)I -/
def mI_172 : List (Nat × Instr × Nat) := [(0, .aload_n 0, 1), (1, .iload_n 1, 1), (2, .iload_n 2, 1), (3, .iload_n 3, 1), (4, .invokevirtual 163, 3), (7, .istore 4, 2), (9, .iload 4, 2), (11, .ifCond .eq 8, 3), (14, .iload 4, 2), (16, .goto 10, 3), (19, .aload_n 0, 1), (20, .iload_n 1, 1), (21, .iload_n 2, 1), (22, .iload_n 3, 1), (23, .invokevirtual 166, 3), (26, .ireturn, 1)]
/-- SupperTalesModel.toldDeed(I)I -/
def mI_173 : List (Nat × Instr × Nat) := [(0, .bipush 100, 2), (2, .iload_n 0, 1), (3, .bipush 16, 2), (5, .idiv, 1), (6, .imul, 1), (7, .bipush 10, 2), (9, .iload_n 0, 1), (10, .iconst 4, 1), (11, .idiv, 1), (12, .iconst 4, 1), (13, .irem, 1), (14, .imul, 1), (15, .iadd, 1), (16, .iload_n 0, 1), (17, .iconst 4, 1), (18, .irem, 1), (19, .iadd, 1), (20, .ireturn, 1)]
/-- SupperTalesModel.shortestAt(IIII)I -/
def mI_174 : List (Nat × Instr × Nat) := [(0, .aload_n 0, 1), (1, .iload_n 1, 1), (2, .iload_n 2, 1), (3, .iload_n 3, 1), (4, .invokevirtual 163, 3), (7, .istore 5, 2), (9, .iload 5, 2), (11, .ifCond .eq 6, 3), (14, .iload 5, 2), (16, .ireturn, 1), (17, .aload_n 0, 1), (18, .iload_n 1, 1), (19, .iload_n 2, 1), (20, .iload_n 3, 1), (21, .invokevirtual 166, 3), (24, .istore 6, 2), (26, .iload 4, 2), (28, .i2l, 1), (29, .lconst 0, 1), (30, .iload 6, 2), (32, .iconst 1, 1), (33, .isub, 1), (34, .i2l, 1), (35, .invokestatic 52, 3), (38, .ifCond .ne 6, 3), (41, .bipush (-9), 2), (43, .ireturn, 1), (44, .iload 6, 2), (46, .iconst 2, 1), (47, .if_icmp .ne 18, 3), (50, .iload 4, 2), (52, .ifCond .ne 13, 3), (55, .aload_n 0, 1), (56, .getfield 160, 3), (59, .bipush 64, 2), (61, .idiv, 1), (62, .goto 10, 3), (65, .aload_n 0, 1), (66, .getfield 160, 3), (69, .bipush 64, 2), (71, .irem, 1), (72, .invokestatic 169, 3), (75, .ireturn, 1)]
/-- SupperTalesModel.cut(I)I -/
def mI_175 : List (Nat × Instr × Nat) := [(0, .iload_n 1, 1), (1, .invokestatic 86, 3), (4, .ifCond .ne 5, 3), (7, .iconst (-1), 1), (8, .ireturn, 1), (9, .iconst 1, 1), (10, .aload_n 0, 1), (11, .iload_n 1, 1), (12, .invokevirtual 126, 3), (15, .ishl, 1), (16, .iconst 1, 1), (17, .isub, 1), (18, .istore_n 2, 1), (19, .iload_n 2, 1), (20, .istore_n 3, 1), (21, .iload_n 2, 1), (22, .istore 4, 2), (24, .iload 4, 2), (26, .ifCond .lt 63, 3), (29, .aload_n 0, 1), (30, .iconst 0, 1), (31, .iconst 1, 1), (32, .invokevirtual 145, 3), (35, .aload_n 0, 1), (36, .iconst 1, 1), (37, .iload_n 1, 1), (38, .iload 4, 2), (40, .invokevirtual 141, 3), (43, .iload_n 2, 1), (44, .iload 4, 2), (46, .iconst (-1), 1), (47, .ixor, 1), (48, .iand, 1), (49, .if_icmp .ne 7, 3), (52, .iconst 1, 1), (53, .goto 4, 3), (56, .iconst 0, 1), (57, .istore 5, 2), (59, .iload 5, 2), (61, .ifCond .eq 20, 3), (64, .iload 4, 2), (66, .invokestatic 172, 3), (69, .iload_n 3, 1), (70, .invokestatic 172, 3), (73, .if_icmp .gt 8, 3), (76, .iload 4, 2), (78, .goto 4, 3), (81, .iload_n 3, 1), (82, .istore_n 3, 1), (83, .iinc 4 (-1), 3), (86, .goto (-62), 3), (89, .iload_n 3, 1), (90, .ireturn, 1)]
/-- SupperTalesModel.choose(III)Z -/
def mI_176 : List (Nat × Instr × Nat) := [(0, .aload_n 0, 1), (1, .iload_n 1, 1), (2, .iload_n 2, 1), (3, .iconst 4, 1), (4, .idiv, 1), (5, .iconst 4, 1), (6, .irem, 1), (7, .invokevirtual 105, 3), (10, .istore 4, 2), (12, .aload_n 0, 1), (13, .iload_n 1, 1), (14, .iload 4, 2), (16, .invokevirtual 109, 3), (19, .istore 5, 2), (21, .iload 5, 2), (23, .ifCond .ne 43, 3), (26, .iload_n 3, 1), (27, .ifCond .ne 29, 3), (30, .iload 4, 2), (32, .ifCond .eq 24, 3), (35, .aload_n 0, 1), (36, .getfield 13, 3), (39, .bipush 22, 2), (41, .iload_n 1, 1), (42, .imul, 1), (43, .iconst 5, 1), (44, .iadd, 1), (45, .iload 4, 2), (47, .invokestatic 112, 3), (50, .iadd, 1), (51, .dup2, 1), (52, .iaload, 1), (53, .iconst 1, 1), (54, .isub, 1), (55, .iastore, 1), (56, .iload_n 3, 1), (57, .ifCond .ne 7, 3), (60, .iconst 1, 1), (61, .goto 4, 3), (64, .iconst 0, 1), (65, .ireturn, 1), (66, .iload_n 3, 1), (67, .istore 6, 2), (69, .iconst 0, 1), (70, .istore 7, 2), (72, .iload 7, 2), (74, .aload_n 0, 1), (75, .getfield 78, 3), (78, .if_icmp .ge 151, 3), (81, .iload 5, 2), (83, .iload 7, 2), (85, .invokestatic 99, 3), (88, .ifCond .eq 21, 3), (91, .aload_n 0, 1), (92, .iload_n 1, 1), (93, .iload_n 2, 1), (94, .iconst 4, 1), (95, .irem, 1), (96, .invokevirtual 105, 3), (99, .iconst 1, 1), (100, .iload 7, 2), (102, .ishl, 1), (103, .iconst (-1), 1), (104, .ixor, 1), (105, .iand, 1), (106, .goto 4, 3), (109, .iconst 0, 1), (110, .istore 8, 2), (112, .iload 5, 2), (114, .iload 7, 2), (116, .invokestatic 99, 3), (119, .ifCond .ne 7, 3), (122, .iconst 0, 1), (123, .goto 17, 3), (126, .iload 8, 2), (128, .ifCond .ne 7, 3), (131, .iconst 1, 1), (132, .goto 8, 3), (135, .iload 8, 2), (137, .invokestatic 172, 3), (140, .istore 9, 2), (142, .iload 6, 2), (144, .ifCond .lt 72, 3), (147, .iload 6, 2), (149, .iload 9, 2), (151, .if_icmp .ge 65, 3), (154, .bipush (-9), 2), (156, .istore 10, 2), (158, .iconst 0, 1), (159, .istore 11, 2), (161, .iload 11, 2), (163, .aload_n 0, 1), (164, .getfield 78, 3), (167, .if_icmp .ge 36, 3), (170, .iload 8, 2), (172, .iload 11, 2), (174, .invokestatic 99, 3), (177, .ifCond .eq 20, 3), (180, .iload 6, 2), (182, .ifCond .ne 8, 3), (185, .iload 11, 2), (187, .goto 5, 3), (190, .iload 10, 2), (192, .istore 10, 2), (194, .iinc 6 (-1), 3), (197, .iinc 11 1, 3), (200, .goto (-39), 3), (203, .aload_n 0, 1), (204, .iload_n 1, 1), (205, .iload_n 2, 1), (206, .iload 7, 2), (208, .iload 10, 2), (210, .invokevirtual 118, 3), (213, .pop, 1), (214, .iconst 1, 1), (215, .ireturn, 1), (216, .iload 6, 2), (218, .iload 9, 2), (220, .isub, 1), (221, .istore 6, 2), (223, .iinc 7 1, 3), (226, .goto (-154), 3), (229, .iconst 0, 1), (230, .ireturn, 1)]
/-- SupperTalesModel.chosen(IZ)I -/
def mI_177 : List (Nat × Instr × Nat) := [(0, .iload_n 1, 1), (1, .invokestatic 86, 3), (4, .ifCond .ne 5, 3), (7, .iconst (-1), 1), (8, .ireturn, 1), (9, .aload_n 0, 1), (10, .iload_n 1, 1), (11, .invokevirtual 126, 3), (14, .istore_n 3, 1), (15, .iload_n 3, 1), (16, .iconst 4, 1), (17, .if_icmp .le 6, 3), (20, .bipush (-3), 2), (22, .ireturn, 1), (23, .iconst 0, 1), (24, .istore 4, 2), (26, .iconst 1, 1), (27, .aload_n 0, 1), (28, .getfield 78, 3), (31, .ishl, 1), (32, .iconst 1, 1), (33, .isub, 1), (34, .istore 5, 2), (36, .iconst 1, 1), (37, .istore 6, 2), (39, .aload_n 0, 1), (40, .iconst 0, 1), (41, .iconst 1, 1), (42, .invokevirtual 145, 3), (45, .aload_n 0, 1), (46, .iconst 1, 1), (47, .invokevirtual 122, 3), (50, .aload_n 0, 1), (51, .getfield 28, 3), (54, .iconst 1, 1), (55, .iconst 0, 1), (56, .iastore, 1), (57, .iload 6, 2), (59, .ifCond .le 111, 3), (62, .iload 6, 2), (64, .iload_n 3, 1), (65, .iconst 1, 1), (66, .iadd, 1), (67, .if_icmp .ne 31, 3), (70, .iload 4, 2), (72, .aload_n 0, 1), (73, .iload 6, 2), (75, .invokevirtual 149, 3), (78, .ior, 1), (79, .istore 4, 2), (81, .iload 5, 2), (83, .aload_n 0, 1), (84, .iload 6, 2), (86, .invokevirtual 149, 3), (89, .iand, 1), (90, .istore 5, 2), (92, .iinc 6 (-1), 3), (95, .goto (-38), 3), (98, .aload_n 0, 1), (99, .iload 6, 2), (101, .iload 6, 2), (103, .iconst 1, 1), (104, .iadd, 1), (105, .invokevirtual 145, 3), (108, .aload_n 0, 1), (109, .iload 6, 2), (111, .iconst 1, 1), (112, .iadd, 1), (113, .aload_n 0, 1), (114, .iload_n 1, 1), (115, .iload 6, 2), (117, .iconst 1, 1), (118, .isub, 1), (119, .invokevirtual 129, 3), (122, .aload_n 0, 1), (123, .getfield 28, 3), (126, .iload 6, 2), (128, .iaload, 1), (129, .invokevirtual 175, 3), (132, .istore 7, 2), (134, .aload_n 0, 1), (135, .getfield 28, 3), (138, .iload 6, 2), (140, .dup2, 1), (141, .iaload, 1), (142, .iconst 1, 1), (143, .iadd, 1), (144, .iastore, 1), (145, .iload 7, 2), (147, .ifCond .eq 17, 3), (150, .iinc 6 1, 3), (153, .aload_n 0, 1), (154, .getfield 28, 3), (157, .iload 6, 2), (159, .iconst 0, 1), (160, .iastore, 1), (161, .goto 6, 3), (164, .iinc 6 (-1), 3), (167, .goto (-110), 3), (170, .iload_n 2, 1), (171, .ifCond .eq 8, 3), (174, .iload 5, 2), (176, .goto 5, 3), (179, .iload 4, 2), (181, .ireturn, 1)]
/-- SupperTalesModel.round(I)I -/
def mI_178 : List (Nat × Instr × Nat) := [(0, .iload_n 1, 1), (1, .invokestatic 86, 3), (4, .ifCond .ne 5, 3), (7, .iconst (-1), 1), (8, .ireturn, 1), (9, .aload_n 0, 1), (10, .iconst 0, 1), (11, .iconst 1, 1), (12, .invokevirtual 145, 3), (15, .iconst 0, 1), (16, .istore_n 2, 1), (17, .iload_n 2, 1), (18, .bipush 60, 2), (20, .if_icmp .gt 134, 3), (23, .iconst 0, 1), (24, .istore_n 3, 1), (25, .iload_n 3, 1), (26, .bipush 16, 2), (28, .if_icmp .ge 29, 3), (31, .aload_n 0, 1), (32, .getfield 31, 3), (35, .bipush 16, 2), (37, .iload_n 2, 1), (38, .imul, 1), (39, .iload_n 3, 1), (40, .iadd, 1), (41, .aload_n 0, 1), (42, .getfield 13, 3), (45, .bipush 22, 2), (47, .iload_n 3, 1), (48, .iadd, 1), (49, .iaload, 1), (50, .iastore, 1), (51, .iinc 3 1, 3), (54, .goto (-29), 3), (57, .iconst 0, 1), (58, .istore_n 3, 1), (59, .iload_n 3, 1), (60, .iload_n 2, 1), (61, .if_icmp .ge 79, 3), (64, .iconst 1, 1), (65, .istore 4, 2), (67, .iconst 0, 1), (68, .istore 5, 2), (70, .iload 5, 2), (72, .bipush 16, 2), (74, .if_icmp .ge 48, 3), (77, .iload 4, 2), (79, .ifCond .eq 34, 3), (82, .aload_n 0, 1), (83, .getfield 31, 3), (86, .bipush 16, 2), (88, .iload_n 3, 1), (89, .imul, 1), (90, .iload 5, 2), (92, .iadd, 1), (93, .iaload, 1), (94, .aload_n 0, 1), (95, .getfield 31, 3), (98, .bipush 16, 2), (100, .iload_n 2, 1), (101, .imul, 1), (102, .iload 5, 2), (104, .iadd, 1), (105, .iaload, 1), (106, .if_icmp .ne 7, 3), (109, .iconst 1, 1), (110, .goto 4, 3), (113, .iconst 0, 1), (114, .istore 4, 2), (116, .iinc 5 1, 3), (119, .goto (-49), 3), (122, .iload 4, 2), (124, .ifCond .eq 10, 3), (127, .bipush 100, 2), (129, .iload_n 3, 1), (130, .imul, 1), (131, .iload_n 2, 1), (132, .iadd, 1), (133, .ireturn, 1), (134, .iinc 3 1, 3), (137, .goto (-78), 3), (140, .aload_n 0, 1), (141, .iconst 1, 1), (142, .iload_n 1, 1), (143, .iconst 0, 1), (144, .invokevirtual 141, 3), (147, .pop, 1), (148, .iinc 2 1, 3), (151, .goto (-134), 3), (154, .bipush (-9), 2), (156, .ireturn, 1)]
/-- SupperTalesModel.kinds(I)I -/
def mI_179 : List (Nat × Instr × Nat) := [(0, .iload_n 1, 1), (1, .invokestatic 86, 3), (4, .ifCond .ne 5, 3), (7, .iconst (-1), 1), (8, .ireturn, 1), (9, .aload_n 0, 1), (10, .iload_n 1, 1), (11, .invokevirtual 126, 3), (14, .istore_n 2, 1), (15, .iconst 1, 1), (16, .istore_n 3, 1), (17, .iconst 0, 1), (18, .istore 4, 2), (20, .iload 4, 2), (22, .iload_n 2, 1), (23, .if_icmp .ge 55, 3), (26, .iload_n 3, 1), (27, .ifCond .eq 43, 3), (30, .aload_n 0, 1), (31, .iconst 0, 1), (32, .aload_n 0, 1), (33, .iload_n 1, 1), (34, .iload 4, 2), (36, .invokevirtual 129, 3), (39, .iconst 4, 1), (40, .idiv, 1), (41, .iconst 4, 1), (42, .irem, 1), (43, .invokevirtual 105, 3), (46, .ifCond .ne 24, 3), (49, .aload_n 0, 1), (50, .iconst 0, 1), (51, .aload_n 0, 1), (52, .iload_n 1, 1), (53, .iload 4, 2), (55, .invokevirtual 129, 3), (58, .iconst 4, 1), (59, .irem, 1), (60, .invokevirtual 105, 3), (63, .ifCond .ne 7, 3), (66, .iconst 1, 1), (67, .goto 4, 3), (70, .iconst 0, 1), (71, .istore_n 3, 1), (72, .iinc 4 1, 3), (75, .goto (-55), 3), (78, .aload_n 0, 1), (79, .iconst 0, 1), (80, .iconst 1, 1), (81, .invokevirtual 145, 3), (84, .aload_n 0, 1), (85, .iconst 1, 1), (86, .iload_n 1, 1), (87, .iconst 0, 1), (88, .invokevirtual 141, 3), (91, .pop, 1), (92, .iconst 1, 1), (93, .istore 4, 2), (95, .iconst 0, 1), (96, .istore 5, 2), (98, .iload 5, 2), (100, .bipush 16, 2), (102, .if_icmp .ge 41, 3), (105, .iload 4, 2), (107, .ifCond .eq 27, 3), (110, .aload_n 0, 1), (111, .getfield 13, 3), (114, .iload 5, 2), (116, .iaload, 1), (117, .aload_n 0, 1), (118, .getfield 13, 3), (121, .bipush 22, 2), (123, .iload 5, 2), (125, .iadd, 1), (126, .iaload, 1), (127, .if_icmp .ne 7, 3), (130, .iconst 1, 1), (131, .goto 4, 3), (134, .iconst 0, 1), (135, .istore 4, 2), (137, .iinc 5 1, 3), (140, .goto (-42), 3), (143, .iload_n 3, 1), (144, .ifCond .eq 7, 3), (147, .iconst 1, 1), (148, .goto 4, 3), (151, .iconst 0, 1), (152, .aload_n 0, 1), (153, .iload_n 1, 1), (154, .invokevirtual 93, 3), (157, .aload_n 0, 1), (158, .getfield 22, 3), (161, .iload_n 1, 1), (162, .iaload, 1), (163, .if_icmp .ne 7, 3), (166, .iconst 2, 1), (167, .goto 4, 3), (170, .iconst 0, 1), (171, .iadd, 1), (172, .iload 4, 2), (174, .ifCond .eq 7, 3), (177, .iconst 4, 1), (178, .goto 4, 3), (181, .iconst 0, 1), (182, .iadd, 1), (183, .istore 5, 2), (185, .iload 5, 2), (187, .aload_n 0, 1), (188, .iconst 1, 1), (189, .invokevirtual 149, 3), (192, .aload_n 0, 1), (193, .iconst 0, 1), (194, .invokevirtual 149, 3), (197, .if_icmp .eq 8, 3), (200, .bipush 8, 2), (202, .goto 4, 3), (205, .iconst 0, 1), (206, .iadd, 1), (207, .aload_n 0, 1), (208, .getfield 115, 3), (211, .ifCond .le 8, 3), (214, .bipush 16, 2), (216, .goto 4, 3), (219, .iconst 0, 1), (220, .iadd, 1), (221, .ireturn, 1)]
/-- SupperTalesModel.odds(III)I -/
def mI_180 : List (Nat × Instr × Nat) := [(0, .iload_n 1, 1), (1, .i2l, 1), (2, .lconst 0, 1), (3, .ldc2_w 179, 3), (6, .invokestatic 52, 3), (9, .ifCond .eq 37, 3), (12, .iload_n 2, 1), (13, .i2l, 1), (14, .lconst 0, 1), (15, .ldc2_w 179, 3), (18, .invokestatic 52, 3), (21, .ifCond .eq 25, 3), (24, .iload_n 3, 1), (25, .i2l, 1), (26, .lconst 0, 1), (27, .ldc2_w 179, 3), (30, .invokestatic 52, 3), (33, .ifCond .eq 13, 3), (36, .iload_n 1, 1), (37, .iload_n 2, 1), (38, .iadd, 1), (39, .iload_n 3, 1), (40, .iadd, 1), (41, .bipush 10, 2), (43, .if_icmp .eq 6, 3), (46, .bipush (-2), 2), (48, .ireturn, 1), (49, .aload_n 0, 1), (50, .getfield 34, 3), (53, .iconst 0, 1), (54, .iaload, 1), (55, .istore 4, 2), (57, .aload_n 0, 1), (58, .getfield 34, 3), (61, .iconst 0, 1), (62, .iload_n 1, 1), (63, .iastore, 1), (64, .aload_n 0, 1), (65, .getfield 34, 3), (68, .iconst 1, 1), (69, .iload_n 2, 1), (70, .iastore, 1), (71, .aload_n 0, 1), (72, .getfield 34, 3), (75, .iconst 2, 1), (76, .iload_n 3, 1), (77, .iastore, 1), (78, .iload 4, 2), (80, .ireturn, 1)]
/-- SupperTalesModel.meanOf(I)I -/
def mI_181 : List (Nat × Instr × Nat) := [(0, .iconst 0, 1), (1, .istore_n 2, 1), (2, .iconst 0, 1), (3, .istore_n 3, 1), (4, .iload_n 3, 1), (5, .iconst 3, 1), (6, .if_icmp .ge 63, 3), (9, .aload_n 0, 1), (10, .iconst 2, 1), (11, .iconst 1, 1), (12, .invokevirtual 145, 3), (15, .aload_n 0, 1), (16, .iconst 1, 1), (17, .iload_n 3, 1), (18, .iconst 0, 1), (19, .invokevirtual 141, 3), (22, .pop, 1), (23, .iload_n 2, 1), (24, .aload_n 0, 1), (25, .getfield 13, 3), (28, .bipush 37, 2), (30, .iaload, 1), (31, .iload_n 1, 1), (32, .invokestatic 99, 3), (35, .ifCond .eq 25, 3), (38, .aload_n 0, 1), (39, .getfield 34, 3), (42, .iload_n 3, 1), (43, .iaload, 1), (44, .aload_n 0, 1), (45, .getfield 13, 3), (48, .bipush 27, 2), (50, .iload_n 1, 1), (51, .iadd, 1), (52, .iaload, 1), (53, .bipush 20, 2), (55, .iadd, 1), (56, .imul, 1), (57, .goto 4, 3), (60, .iconst 0, 1), (61, .iadd, 1), (62, .istore_n 2, 1), (63, .iinc 3 1, 3), (66, .goto (-62), 3), (69, .iload_n 2, 1), (70, .ireturn, 1)]
/-- SupperTalesModel.meanBy(II)I -/
def mI_182 : List (Nat × Instr × Nat) := [(0, .aload_n 0, 1), (1, .iconst 0, 1), (2, .iconst 2, 1), (3, .invokevirtual 145, 3), (6, .aload_n 0, 1), (7, .getfield 13, 3), (10, .bipush 44, 2), (12, .iload_n 1, 1), (13, .iadd, 1), (14, .iload_n 2, 1), (15, .iastore, 1), (16, .aload_n 0, 1), (17, .iload_n 1, 1), (18, .invokevirtual 181, 3), (21, .ireturn, 1)]
/-- SupperTalesModel.mean(II)I -/
def mI_183 : List (Nat × Instr × Nat) := [(0, .aload_n 0, 1), (1, .iload_n 1, 1), (2, .invokevirtual 96, 3), (5, .ifCond .ne 5, 3), (8, .iconst (-1), 1), (9, .ireturn, 1), (10, .iload_n 2, 1), (11, .i2l, 1), (12, .lconst 0, 1), (13, .ldc2_w 103, 3), (16, .invokestatic 52, 3), (19, .ifCond .ne 6, 3), (22, .bipush (-2), 2), (24, .ireturn, 1), (25, .aload_n 0, 1), (26, .getfield 13, 3), (29, .bipush 15, 2), (31, .iaload, 1), (32, .iload_n 1, 1), (33, .invokestatic 99, 3), (36, .ifCond .eq 16, 3), (39, .sipush 1000, 3), (42, .aload_n 0, 1), (43, .iload_n 1, 1), (44, .iload_n 2, 1), (45, .invokevirtual 184, 3), (48, .iadd, 1), (49, .goto 5, 3), (52, .bipush (-3), 2), (54, .ireturn, 1)]
/-- SupperTalesModel.toGive(I)I -/
def mI_184 : List (Nat × Instr × Nat) := [(0, .aload_n 0, 1), (1, .iload_n 1, 1), (2, .invokevirtual 96, 3), (5, .ifCond .ne 5, 3), (8, .iconst (-1), 1), (9, .ireturn, 1), (10, .aload_n 0, 1), (11, .getfield 13, 3), (14, .bipush 15, 2), (16, .iaload, 1), (17, .iload_n 1, 1), (18, .invokestatic 99, 3), (21, .ifCond .ne 6, 3), (24, .bipush (-3), 2), (26, .ireturn, 1), (27, .iconst 0, 1), (28, .istore_n 2, 1), (29, .iconst 1, 1), (30, .istore_n 3, 1), (31, .iload_n 3, 1), (32, .iconst 4, 1), (33, .if_icmp .ge 30, 3), (36, .aload_n 0, 1), (37, .iload_n 1, 1), (38, .iload_n 3, 1), (39, .invokevirtual 184, 3), (42, .aload_n 0, 1), (43, .iload_n 1, 1), (44, .iload_n 2, 1), (45, .invokevirtual 184, 3), (48, .if_icmp .le 7, 3), (51, .iload_n 3, 1), (52, .goto 4, 3), (55, .iload_n 2, 1), (56, .istore_n 2, 1), (57, .iinc 3 1, 3), (60, .goto (-29), 3), (63, .iload_n 2, 1), (64, .ireturn, 1)]
/-- SupperTalesModel.meanWith(IIIII)I -/
def mI_185 : List (Nat × Instr × Nat) := [(0, .aload_n 0, 1), (1, .iconst 0, 1), (2, .iconst 2, 1), (3, .invokevirtual 145, 3), (6, .aload_n 0, 1), (7, .getfield 13, 3), (10, .bipush 44, 2), (12, .iload_n 1, 1), (13, .iadd, 1), (14, .iload_n 2, 1), (15, .iastore, 1), (16, .aload_n 0, 1), (17, .getfield 13, 3), (20, .bipush 44, 2), (22, .iload_n 3, 1), (23, .iadd, 1), (24, .iload 4, 2), (26, .iastore, 1), (27, .aload_n 0, 1), (28, .iload 5, 2), (30, .invokevirtual 181, 3), (33, .ireturn, 1)]
/-- SupperTalesModel.rests(III)I -/
def mI_186 : List (Nat × Instr × Nat) := [(0, .aload_n 0, 1), (1, .iload_n 1, 1), (2, .invokevirtual 96, 3), (5, .ifCond .eq 11, 3), (8, .aload_n 0, 1), (9, .iload_n 2, 1), (10, .invokevirtual 96, 3), (13, .ifCond .ne 5, 3), (16, .iconst (-1), 1), (17, .ireturn, 1), (18, .iload_n 1, 1), (19, .iload_n 2, 1), (20, .if_icmp .eq 13, 3), (23, .iload_n 3, 1), (24, .i2l, 1), (25, .lconst 0, 1), (26, .lconst 1, 1), (27, .invokestatic 52, 3), (30, .ifCond .ne 6, 3), (33, .bipush (-2), 2), (35, .ireturn, 1), (36, .aload_n 0, 1), (37, .getfield 13, 3), (40, .bipush 15, 2), (42, .iaload, 1), (43, .iload_n 1, 1), (44, .invokestatic 99, 3), (47, .ifCond .eq 17, 3), (50, .aload_n 0, 1), (51, .getfield 13, 3), (54, .bipush 15, 2), (56, .iaload, 1), (57, .iload_n 2, 1), (58, .invokestatic 99, 3), (61, .ifCond .ne 6, 3), (64, .bipush (-3), 2), (66, .ireturn, 1), (67, .iconst 0, 1), (68, .istore 4, 2), (70, .bipush (-9), 2), (72, .istore 5, 2), (74, .iconst 0, 1), (75, .istore 6, 2), (77, .iload 6, 2), (79, .bipush 16, 2), (81, .if_icmp .ge 141, 3), (84, .iload 6, 2), (86, .iconst 4, 1), (87, .idiv, 1), (88, .istore 7, 2), (90, .iload 6, 2), (92, .iconst 4, 1), (93, .irem, 1), (94, .istore 8, 2), (96, .iconst 1, 1), (97, .istore 9, 2), (99, .iconst 0, 1), (100, .istore 10, 2), (102, .iload 10, 2), (104, .iconst 4, 1), (105, .if_icmp .ge 71, 3), (108, .iload 9, 2), (110, .ifCond .eq 66, 3), (113, .aload_n 0, 1), (114, .iload_n 1, 1), (115, .iload 10, 2), (117, .iload_n 2, 1), (118, .iload 8, 2), (120, .iload_n 1, 1), (121, .invokevirtual 187, 3), (124, .aload_n 0, 1), (125, .iload_n 1, 1), (126, .iload 7, 2), (128, .iload_n 2, 1), (129, .iload 8, 2), (131, .iload_n 1, 1), (132, .invokevirtual 187, 3), (135, .if_icmp .gt 32, 3), (138, .aload_n 0, 1), (139, .iload_n 1, 1), (140, .iload 7, 2), (142, .iload_n 2, 1), (143, .iload 10, 2), (145, .iload_n 2, 1), (146, .invokevirtual 187, 3), (149, .aload_n 0, 1), (150, .iload_n 1, 1), (151, .iload 7, 2), (153, .iload_n 2, 1), (154, .iload 8, 2), (156, .iload_n 2, 1), (157, .invokevirtual 187, 3), (160, .if_icmp .gt 7, 3), (163, .iconst 1, 1), (164, .goto 4, 3), (167, .iconst 0, 1), (168, .istore 9, 2), (170, .iinc 10 1, 3), (173, .goto (-71), 3), (176, .iload 9, 2), (178, .ifCond .eq 19, 3), (181, .iload 4, 2), (183, .ifCond .ne 14, 3), (186, .bipush 10, 2), (188, .iload 7, 2), (190, .imul, 1), (191, .iload 8, 2), (193, .iadd, 1), (194, .goto 5, 3), (197, .iload 5, 2), (199, .istore 5, 2), (201, .iload 4, 2), (203, .iload 9, 2), (205, .ifCond .eq 7, 3), (208, .iconst 1, 1), (209, .goto 4, 3), (212, .iconst 0, 1), (213, .iadd, 1), (214, .istore 4, 2), (216, .iinc 6 1, 3), (219, .goto (-142), 3), (222, .iload_n 3, 1), (223, .ifCond .ne 8, 3), (226, .iload 4, 2), (228, .goto 5, 3), (231, .iload 5, 2), (233, .ireturn, 1)]
/-- SupperTalesModel.note(II)I -/
def mI_187 : List (Nat × Instr × Nat) := [(0, .aload_n 0, 1), (1, .getfield 191, 3), (4, .bipush 6, 2), (6, .if_icmp .ne 6, 3), (9, .bipush (-4), 2), (11, .ireturn, 1), (12, .aload_n 0, 1), (13, .getfield 37, 3), (16, .aload_n 0, 1), (17, .getfield 191, 3), (20, .iload_n 1, 1), (21, .iastore, 1), (22, .aload_n 0, 1), (23, .getfield 40, 3), (26, .aload_n 0, 1), (27, .getfield 191, 3), (30, .iload_n 2, 1), (31, .iastore, 1), (32, .aload_n 0, 1), (33, .dup, 1), (34, .getfield 191, 3), (37, .iconst 1, 1), (38, .iadd, 1), (39, .putfield 191, 3), (42, .aload_n 0, 1), (43, .getfield 191, 3), (46, .ireturn, 1)]
/-- SupperTalesModel.see(IZ)I -/
def mI_188 : List (Nat × Instr × Nat) := [(0, .aload_n 0, 1), (1, .iload_n 1, 1), (2, .invokevirtual 96, 3), (5, .ifCond .eq 20, 3), (8, .aload_n 0, 1), (9, .iload_n 1, 1), (10, .iload_n 2, 1), (11, .ifCond .eq 7, 3), (14, .iconst 1, 1), (15, .goto 4, 3), (18, .iconst 0, 1), (19, .invokevirtual 194, 3), (22, .goto 4, 3), (25, .iconst (-1), 1), (26, .ireturn, 1)]
/-- SupperTalesModel.seeCoins(II)I -/
def mI_189 : List (Nat × Instr × Nat) := [(0, .aload_n 0, 1), (1, .iload_n 1, 1), (2, .invokevirtual 96, 3), (5, .ifCond .ne 5, 3), (8, .iconst (-1), 1), (9, .ireturn, 1), (10, .iload_n 2, 1), (11, .i2l, 1), (12, .ldc2_w 197, 3), (15, .ldc2_w 199, 3), (18, .invokestatic 52, 3), (21, .ifCond .eq 15, 3), (24, .aload_n 0, 1), (25, .iload_n 1, 1), (26, .bipush 100, 2), (28, .iload_n 2, 1), (29, .iadd, 1), (30, .invokevirtual 194, 3), (33, .goto 5, 3), (36, .bipush (-2), 2), (38, .ireturn, 1)]
/-- SupperTalesModel.unsee()I -/
def mI_190 : List (Nat × Instr × Nat) := [(0, .aload_n 0, 1), (1, .getfield 191, 3), (4, .istore_n 1, 1), (5, .aload_n 0, 1), (6, .iconst 0, 1), (7, .putfield 191, 3), (10, .iload_n 1, 1), (11, .ireturn, 1)]
/-- SupperTalesModel.isSeen(I)Z -/
def mI_191 : List (Nat × Instr × Nat) := [(0, .aload_n 0, 1), (1, .iconst 0, 1), (2, .iconst 1, 1), (3, .invokevirtual 145, 3), (6, .aload_n 0, 1), (7, .iconst 1, 1), (8, .iload_n 1, 1), (9, .iconst 0, 1), (10, .invokevirtual 141, 3), (13, .pop, 1), (14, .iconst 1, 1), (15, .istore_n 2, 1), (16, .iconst 0, 1), (17, .istore_n 3, 1), (18, .iload_n 3, 1), (19, .aload_n 0, 1), (20, .getfield 191, 3), (23, .if_icmp .ge 113, 3), (26, .aload_n 0, 1), (27, .getfield 37, 3), (30, .iload_n 3, 1), (31, .iaload, 1), (32, .istore 4, 2), (34, .aload_n 0, 1), (35, .getfield 40, 3), (38, .iload_n 3, 1), (39, .iaload, 1), (40, .istore 5, 2), (42, .iload 5, 2), (44, .iconst 2, 1), (45, .if_icmp .ge 36, 3), (48, .aload_n 0, 1), (49, .getfield 13, 3), (52, .bipush 37, 2), (54, .iaload, 1), (55, .iload 4, 2), (57, .invokestatic 99, 3), (60, .iload 5, 2), (62, .ifCond .ne 7, 3), (65, .iconst 1, 1), (66, .goto 4, 3), (69, .iconst 0, 1), (70, .if_icmp .ne 7, 3), (73, .iconst 1, 1), (74, .goto 30, 3), (77, .iconst 0, 1), (78, .goto 26, 3), (81, .aload_n 0, 1), (82, .getfield 13, 3), (85, .bipush 27, 2), (87, .iload 4, 2), (89, .iadd, 1), (90, .iaload, 1), (91, .iload 5, 2), (93, .bipush 100, 2), (95, .isub, 1), (96, .if_icmp .ne 7, 3), (99, .iconst 1, 1), (100, .goto 4, 3), (103, .iconst 0, 1), (104, .istore 6, 2), (106, .iload_n 2, 1), (107, .ifCond .eq 21, 3), (110, .aload_n 0, 1), (111, .iload 4, 2), (113, .invokevirtual 96, 3), (116, .ifCond .eq 8, 3), (119, .iload 6, 2), (121, .ifCond .eq 7, 3), (124, .iconst 1, 1), (125, .goto 4, 3), (128, .iconst 0, 1), (129, .istore_n 2, 1), (130, .iinc 3 1, 3), (133, .goto (-115), 3), (136, .iload_n 2, 1), (137, .ireturn, 1)]
/-- SupperTalesModel.which()I -/
def mI_192 : List (Nat × Instr × Nat) := [(0, .aload_n 0, 1), (1, .iconst 0, 1), (2, .invokevirtual 201, 3), (5, .ifCond .eq 7, 3), (8, .iconst 1, 1), (9, .goto 4, 3), (12, .iconst 0, 1), (13, .aload_n 0, 1), (14, .iconst 1, 1), (15, .invokevirtual 201, 3), (18, .ifCond .eq 7, 3), (21, .iconst 2, 1), (22, .goto 4, 3), (25, .iconst 0, 1), (26, .iadd, 1), (27, .aload_n 0, 1), (28, .iconst 2, 1), (29, .invokevirtual 201, 3), (32, .ifCond .eq 7, 3), (35, .iconst 4, 1), (36, .goto 4, 3), (39, .iconst 0, 1), (40, .iadd, 1), (41, .ireturn, 1)]
/-- SupperTalesModel.common(II)I -/
def mI_193 : List (Nat × Instr × Nat) := [(0, .iload_n 0, 1), (1, .istore_n 2, 1), (2, .iload_n 1, 1), (3, .istore_n 3, 1), (4, .iload_n 3, 1), (5, .ifCond .eq 16, 3), (8, .iload_n 2, 1), (9, .iload_n 3, 1), (10, .irem, 1), (11, .istore 4, 2), (13, .iload_n 3, 1), (14, .istore_n 2, 1), (15, .iload 4, 2), (17, .istore_n 3, 1), (18, .goto (-14), 3), (21, .iload_n 2, 1), (22, .ireturn, 1)]
/-- SupperTalesModel.likely(IZ)I -/
def mI_194 : List (Nat × Instr × Nat) := [(0, .iload_n 1, 1), (1, .invokestatic 86, 3), (4, .ifCond .ne 5, 3), (7, .iconst (-1), 1), (8, .ireturn, 1), (9, .aload_n 0, 1), (10, .invokevirtual 204, 3), (13, .istore_n 3, 1), (14, .iconst 0, 1), (15, .istore 4, 2), (17, .iconst 0, 1), (18, .istore 5, 2), (20, .iload 5, 2), (22, .iconst 3, 1), (23, .if_icmp .ge 34, 3), (26, .iload 4, 2), (28, .iload_n 3, 1), (29, .iload 5, 2), (31, .invokestatic 99, 3), (34, .ifCond .eq 13, 3), (37, .aload_n 0, 1), (38, .getfield 34, 3), (41, .iload 5, 2), (43, .iaload, 1), (44, .goto 4, 3), (47, .iconst 0, 1), (48, .iadd, 1), (49, .istore 4, 2), (51, .iinc 5 1, 3), (54, .goto (-34), 3), (57, .iload 4, 2), (59, .ifCond .ne 6, 3), (62, .bipush (-3), 2), (64, .ireturn, 1), (65, .iload_n 3, 1), (66, .iload_n 1, 1), (67, .invokestatic 99, 3), (70, .ifCond .eq 12, 3), (73, .aload_n 0, 1), (74, .getfield 34, 3), (77, .iload_n 1, 1), (78, .iaload, 1), (79, .goto 4, 3), (82, .iconst 0, 1), (83, .istore 5, 2), (85, .iload 5, 2), (87, .iload 4, 2), (89, .invokestatic 207, 3), (92, .istore 6, 2), (94, .iload_n 2, 1), (95, .ifCond .eq 11, 3), (98, .iload 5, 2), (100, .iload 6, 2), (102, .idiv, 1), (103, .goto 8, 3), (106, .iload 4, 2), (108, .iload 6, 2), (110, .idiv, 1), (111, .ireturn, 1)]
/-- SupperTalesModel.seed(J)J -/
def mI_195 : List (Nat × Instr × Nat) := [(0, .aload_n 0, 1), (1, .getfield 210, 3), (4, .lstore_n 3, 1), (5, .aload_n 0, 1), (6, .lload_n 1, 1), (7, .putfield 210, 3), (10, .lload_n 3, 1), (11, .lreturn, 1)]
/-- SupperTalesModel.nights(I)I -/
def mI_196 : List (Nat × Instr × Nat) := [(0, .iload_n 1, 1), (1, .i2l, 1), (2, .lconst 1, 1), (3, .ldc2_w 214, 3), (6, .invokestatic 52, 3), (9, .ifCond .ne 6, 3), (12, .bipush (-2), 2), (14, .ireturn, 1), (15, .aload_n 0, 1), (16, .iconst 0, 1), (17, .iconst 1, 1), (18, .invokevirtual 145, 3), (21, .iconst 0, 1), (22, .istore_n 2, 1), (23, .iload_n 2, 1), (24, .iload_n 1, 1), (25, .if_icmp .ge 81, 3), (28, .aload_n 0, 1), (29, .aload_n 0, 1), (30, .getfield 210, 3), (33, .ldc2_w 216, 3), (36, .lmul, 1), (37, .ldc2_w 218, 3), (40, .ladd, 1), (41, .putfield 210, 3), (44, .aload_n 0, 1), (45, .getfield 210, 3), (48, .bipush 33, 2), (50, .lushr, 1), (51, .ldc2_w 179, 3), (54, .lrem, 1), (55, .l2i, 1), (56, .istore_n 3, 1), (57, .aload_n 0, 1), (58, .iconst 1, 1), (59, .iload_n 3, 1), (60, .aload_n 0, 1), (61, .getfield 34, 3), (64, .iconst 0, 1), (65, .iaload, 1), (66, .if_icmp .ge 7, 3), (69, .iconst 0, 1), (70, .goto 25, 3), (73, .iload_n 3, 1), (74, .aload_n 0, 1), (75, .getfield 34, 3), (78, .iconst 0, 1), (79, .iaload, 1), (80, .aload_n 0, 1), (81, .getfield 34, 3), (84, .iconst 1, 1), (85, .iaload, 1), (86, .iadd, 1), (87, .if_icmp .ge 7, 3), (90, .iconst 1, 1), (91, .goto 4, 3), (94, .iconst 2, 1), (95, .iconst 0, 1), (96, .invokevirtual 141, 3), (99, .pop, 1), (100, .iinc 2 1, 3), (103, .goto (-80), 3), (106, .aload_n 0, 1), (107, .getfield 13, 3), (110, .bipush 37, 2), (112, .iaload, 1), (113, .ireturn, 1)]
/-- SupperTalesModel.keep(I)I -/
def mI_197 : List (Nat × Instr × Nat) := [(0, .iload_n 1, 1), (1, .i2l, 1), (2, .lconst 0, 1), (3, .lconst 1, 1), (4, .invokestatic 52, 3), (7, .ifCond .ne 5, 3), (10, .iconst (-1), 1), (11, .ireturn, 1), (12, .aload_n 0, 1), (13, .getfield 43, 3), (16, .iload_n 1, 1), (17, .iconst 1, 1), (18, .bastore, 1), (19, .iconst 0, 1), (20, .istore_n 2, 1), (21, .iload_n 2, 1), (22, .bipush 17, 2), (24, .if_icmp .ge 26, 3), (27, .aload_n 0, 1), (28, .getfield 47, 3), (31, .bipush 17, 2), (33, .iload_n 1, 1), (34, .imul, 1), (35, .iload_n 2, 1), (36, .iadd, 1), (37, .aload_n 0, 1), (38, .getfield 13, 3), (41, .iload_n 2, 1), (42, .iaload, 1), (43, .iastore, 1), (44, .iinc 2 1, 3), (47, .goto (-26), 3), (50, .aload_n 0, 1), (51, .getfield 13, 3), (54, .bipush 15, 2), (56, .iaload, 1), (57, .invokestatic 172, 3), (60, .ireturn, 1)]
/-- SupperTalesModel.again(I)I -/
def mI_198 : List (Nat × Instr × Nat) := [(0, .iload_n 1, 1), (1, .i2l, 1), (2, .lconst 0, 1), (3, .lconst 1, 1), (4, .invokestatic 52, 3), (7, .ifCond .ne 5, 3), (10, .iconst (-1), 1), (11, .ireturn, 1), (12, .aload_n 0, 1), (13, .getfield 43, 3), (16, .iload_n 1, 1), (17, .baload, 1), (18, .ifCond .ne 6, 3), (21, .bipush (-3), 2), (23, .ireturn, 1), (24, .iconst 0, 1), (25, .istore_n 2, 1), (26, .iload_n 2, 1), (27, .bipush 17, 2), (29, .if_icmp .ge 26, 3), (32, .aload_n 0, 1), (33, .getfield 13, 3), (36, .iload_n 2, 1), (37, .aload_n 0, 1), (38, .getfield 47, 3), (41, .bipush 17, 2), (43, .iload_n 1, 1), (44, .imul, 1), (45, .iload_n 2, 1), (46, .iadd, 1), (47, .iaload, 1), (48, .iastore, 1), (49, .iinc 2 1, 3), (52, .goto (-26), 3), (55, .aload_n 0, 1), (56, .iconst 0, 1), (57, .putfield 81, 3), (60, .aload_n 0, 1), (61, .getfield 13, 3), (64, .bipush 15, 2), (66, .iaload, 1), (67, .invokestatic 172, 3), (70, .ireturn, 1)]
/-- SupperTalesModel.count(I)I -/
def mI_199 : List (Nat × Instr × Nat) := [(0, .iconst 0, 1), (1, .istore_n 2, 1), (2, .iconst 0, 1), (3, .istore_n 3, 1), (4, .iconst 0, 1), (5, .istore 4, 2), (7, .iload 4, 2), (9, .aload_n 0, 1), (10, .getfield 78, 3), (13, .if_icmp .ge 66, 3), (16, .iload_n 2, 1), (17, .aload_n 0, 1), (18, .getfield 13, 3), (21, .bipush 10, 2), (23, .iload 4, 2), (25, .iadd, 1), (26, .iaload, 1), (27, .bipush (-9), 2), (29, .if_icmp .eq 10, 3), (32, .iconst 1, 1), (33, .iload 4, 2), (35, .ishl, 1), (36, .goto 4, 3), (39, .iconst 0, 1), (40, .ior, 1), (41, .istore_n 2, 1), (42, .iload_n 3, 1), (43, .aload_n 0, 1), (44, .getfield 13, 3), (47, .bipush 15, 2), (49, .iaload, 1), (50, .iload 4, 2), (52, .invokestatic 99, 3), (55, .ifCond .eq 15, 3), (58, .iconst 1, 1), (59, .aload_n 0, 1), (60, .getfield 13, 3), (63, .iload 4, 2), (65, .iaload, 1), (66, .ishl, 1), (67, .goto 4, 3), (70, .iconst 0, 1), (71, .ior, 1), (72, .istore_n 3, 1), (73, .iinc 4 1, 3), (76, .goto (-69), 3), (79, .iload_n 1, 1), (80, .tableswitch 123 0 9 #[56, 61, 66, 74, 82, 84, 90, 95, 100, 102], 56), (136, .aload_n 0, 1), (137, .getfield 56, 3), (140, .ireturn, 1), (141, .aload_n 0, 1), (142, .getfield 78, 3), (145, .ireturn, 1), (146, .aload_n 0, 1), (147, .getfield 13, 3), (150, .bipush 16, 2), (152, .iaload, 1), (153, .ireturn, 1), (154, .aload_n 0, 1), (155, .getfield 13, 3), (158, .bipush 15, 2), (160, .iaload, 1), (161, .ireturn, 1), (162, .iload_n 2, 1), (163, .ireturn, 1), (164, .aload_n 0, 1), (165, .iconst 0, 1), (166, .invokevirtual 152, 3), (169, .ireturn, 1), (170, .aload_n 0, 1), (171, .getfield 81, 3), (174, .ireturn, 1), (175, .aload_n 0, 1), (176, .getfield 191, 3), (179, .ireturn, 1), (180, .iload_n 3, 1), (181, .ireturn, 1), (182, .aload_n 0, 1), (183, .getfield 22, 3), (186, .iconst 0, 1), (187, .iaload, 1), (188, .aload_n 0, 1), (189, .getfield 22, 3), (192, .iconst 1, 1), (193, .iaload, 1), (194, .iadd, 1), (195, .aload_n 0, 1), (196, .getfield 22, 3), (199, .iconst 2, 1), (200, .iaload, 1), (201, .iadd, 1), (202, .ireturn, 1), (203, .bipush (-2), 2), (205, .ireturn, 1)]
/-- java/lang/Integer.bitCount(I)I -/
def mI_200 : List (Nat × Instr × Nat) := [(0, .iload_n 0, 1), (1, .iload_n 0, 1), (2, .iconst 1, 1), (3, .iushr, 1), (4, .ldc_w 265, 3), (7, .iand, 1), (8, .isub, 1), (9, .istore_n 0, 1), (10, .iload_n 0, 1), (11, .ldc_w 266, 3), (14, .iand, 1), (15, .iload_n 0, 1), (16, .iconst 2, 1), (17, .iushr, 1), (18, .ldc_w 266, 3), (21, .iand, 1), (22, .iadd, 1), (23, .istore_n 0, 1), (24, .iload_n 0, 1), (25, .iload_n 0, 1), (26, .iconst 4, 1), (27, .iushr, 1), (28, .iadd, 1), (29, .ldc_w 267, 3), (32, .iand, 1), (33, .istore_n 0, 1), (34, .iload_n 0, 1), (35, .iload_n 0, 1), (36, .bipush 8, 2), (38, .iushr, 1), (39, .iadd, 1), (40, .istore_n 0, 1), (41, .iload_n 0, 1), (42, .iload_n 0, 1), (43, .bipush 16, 2), (45, .iushr, 1), (46, .iadd, 1), (47, .istore_n 0, 1), (48, .iload_n 0, 1), (49, .bipush 63, 2), (51, .iand, 1), (52, .ireturn, 1)]
def mtab : List (MethodName × ByteArray × Nat × Option FieldType × Nat × List (Nat × Instr × Nat)) := [(yX0_init, cX0_init, 2, none, 0, mI_0),
  (yX0_deadBy, cX0_deadBy, 4, (some .int), 0, mI_1),
  (yX0_deedsToLastKilling, cX0_deedsToLastKilling, 4, (some .int), 0, mI_2),
  (yX0_isSettled, cX0_isSettled, 1, (some .boolean), 0, mI_3),
  (yX0_follow, cX0_follow, 7, none, 0, mI_4),
  (yX0_followDoer, cX0_followDoer, 9, none, 0, mI_5),
  (yX1_init, cX1_init, 1, none, 1, mI_6),
  (yX1_settle, cX1_settle, 4, none, 1, mI_7),
  (yX1_copyFrom, cX1_copyFrom, 2, none, 1, mI_8),
  (yX1_becomeDawnOf, cX1_becomeDawnOf, 2, none, 1, mI_9),
  (yX1_size, cX1_size, 1, (some .int), 1, mI_10),
  (yX1_has, cX1_has, 2, (some .boolean), 1, mI_11),
  (yX1_nameOf, cX1_nameOf, 2, (some .int), 1, mI_12),
  (yX1_purseOf, cX1_purseOf, 2, (some .int), 1, mI_13),
  (yX1_spouseOf, cX1_spouseOf, 2, (some .int), 1, mI_14),
  (yX1_powerOf, cX1_powerOf, 2, (some .int), 1, mI_15),
  (yX1_lives, cX1_lives, 2, (some .boolean), 1, mI_16),
  (yX1_worthOf, cX1_worthOf, 2, (some .int), 1, mI_17),
  (yX1_everyone, cX1_everyone, 1, (some .int), 1, mI_18),
  (yX1_living, cX1_living, 1, (some .int), 1, mI_19),
  (yX1_dead, cX1_dead, 1, (some .int), 1, mI_20),
  (yX1_nightsPast, cX1_nightsPast, 1, (some .int), 1, mI_21),
  (yX1_wedded, cX1_wedded, 3, (some .int), 1, mI_22),
  (yX1_coinsOfAll, cX1_coinsOfAll, 3, (some .int), 1, mI_23),
  (yX1_bearing, cX1_bearing, 4, (some .int), 1, mI_24),
  (yX1_namesBorne, cX1_namesBorne, 3, (some .int), 1, mI_25),
  (yX1_rename, cX1_rename, 3, none, 1, mI_26),
  (yX1_payFine, cX1_payFine, 2, none, 1, mI_27),
  (yX1_handCoin, cX1_handCoin, 3, (some .boolean), 1, mI_28),
  (yX1_join, cX1_join, 3, (some .boolean), 1, mI_29),
  (yX1_bury, cX1_bury, 3, none, 1, mI_30),
  (yX1_isLike, cX1_isLike, 2, (some .boolean), 1, mI_31),
  (yX1_isLikeRow, cX1_isLikeRow, 4, (some .boolean), 1, mI_32),
  (yX1_copyToRow, cX1_copyToRow, 3, none, 1, mI_33),
  (yX1_copyFromRow, cX1_copyFromRow, 3, none, 1, mI_34),
  (yX2_init, cX2_init, 1, none, 2, mI_35),
  (yX2_length, cX2_length, 1, (some .int), 2, mI_36),
  (yX2_isFull, cX2_isFull, 1, (some .boolean), 2, mI_37),
  (yX2_add, cX2_add, 2, (some .int), 2, mI_38),
  (yX2_empty, cX2_empty, 2, (some .int), 2, mI_39),
  (yX2_letterAt, cX2_letterAt, 2, (some .int), 2, mI_40),
  (yX2_innFault, cX2_innFault, 2, (some .int), 2, mI_41),
  (yX2_taleFault, cX2_taleFault, 2, (some .int), 2, mI_42),
  (yX2_wholeDeeds, cX2_wholeDeeds, 1, (some .int), 2, mI_43),
  (yX2_deedAt, cX2_deedAt, 4, (some .int), 2, mI_44),
  (yX2_soundInTale, cX2_soundInTale, 2, (some .int), 2, mI_45),
  (yX2_fitsInn, cX2_fitsInn, 2, (some .boolean), 2, mI_46),
  (yX2_fitsTale, cX2_fitsTale, 2, (some .boolean), 2, mI_47),
  (yX2_isNameLetter, cX2_isNameLetter, 1, (some .boolean), 2, mI_48),
  (yX2_kindOfLetter, cX2_kindOfLetter, 1, (some .int), 2, mI_49),
  (yX3_init, cX3_init, 1, none, 3, mI_50),
  (yX3_seek, cX3_seek, 6, none, 3, mI_51),
  (yX3_lastDeedBehind, cX3_lastDeedBehind, 7, (some .int), 3, mI_52),
  (yX3_isEnd, cX3_isEnd, 4, (some .boolean), 3, mI_53),
  (yX4_init, cX4_init, 2, none, 4, mI_54),
  (yX4_put, cX4_put, 3, none, 4, mI_55),
  (yX4_fetch, cX4_fetch, 3, none, 4, mI_56),
  (yX4_firstLike, cX4_firstLike, 4, (some .int), 4, mI_57),
  (yX4_dropFirst, cX4_dropFirst, 1, none, 4, mI_58),
  (yX5_init, cX5_init, 1, none, 5, mI_59),
  (yX5_isFull, cX5_isFull, 1, (some .boolean), 5, mI_60),
  (yX5_add, cX5_add, 3, (some .int), 5, mI_61),
  (yX5_empty, cX5_empty, 2, (some .int), 5, mI_62),
  (yX5_fit, cX5_fit, 3, (some .boolean), 5, mI_63),
  (yX5_isSo, cX5_isSo, 3, (some .boolean), 5, mI_64),
  (yX6_init, cX6_init, 1, none, 6, mI_65),
  (yX6_begin, cX6_begin, 3, none, 6, mI_66),
  (yX6_copyFrom, cX6_copyFrom, 2, none, 6, mI_67),
  (yX6_hearAll, cX6_hearAll, 5, none, 6, mI_68),
  (yX6_hear, cX6_hear, 6, none, 6, mI_69),
  (yX6_doersOf, cX6_doersOf, 4, (some .int), 6, mI_70),
  (yX6_othersOf, cX6_othersOf, 3, (some .int), 6, mI_71),
  (yX6_failWithoutDoer, cX6_failWithoutDoer, 3, none, 6, mI_72),
  (yX6_attempt, cX6_attempt, 6, none, 6, mI_73),
  (yX6_fine, cX6_fine, 2, none, 6, mI_74),
  (yX7_init, cX7_init, 2, none, 7, mI_75),
  (yX7_write, cX7_write, 2, (some .int), 7, mI_76),
  (yX7_wipe, cX7_wipe, 1, (some .int), 7, mI_77),
  (yX7_fault, cX7_fault, 1, (some .int), 7, mI_78),
  (yX7_inn, cX7_inn, 1, (some .int), 7, mI_79),
  (yX7_quill, cX7_quill, 3, (some .int), 7, mI_80),
  (yX7_blot, cX7_blot, 2, (some .int), 7, mI_81),
  (yX7_slip, cX7_slip, 2, (some .int), 7, mI_82),
  (yX7_guest, cX7_guest, 3, (some .int), 7, mI_83),
  (yX7_bears, cX7_bears, 2, (some .int), 7, mI_84),
  (yX7_tell, cX7_tell, 2, (some .int), 7, mI_85),
  (yX7_give, cX7_give, 4, (some .int), 7, mI_86),
  (yX7_undo, cX7_undo, 1, (some .int), 7, mI_87),
  (yX7_would, cX7_would, 3, (some .int), 7, mI_88),
  (yX7_coins, cX7_coins, 3, (some .int), 7, mI_89),
  (yX7_shortest, cX7_shortest, 5, (some .int), 7, mI_90),
  (yX7_shortestAt, cX7_shortestAt, 7, (some .int), 7, mI_91),
  (yX7_cut, cX7_cut, 6, (some .int), 7, mI_92),
  (yX7_chosen, cX7_chosen, 3, (some .int), 7, mI_93),
  (yX7_round, cX7_round, 4, (some .int), 7, mI_94),
  (yX7_kinds, cX7_kinds, 4, (some .int), 7, mI_95),
  (yX7_odds, cX7_odds, 5, (some .int), 7, mI_96),
  (yX7_mean, cX7_mean, 3, (some .int), 7, mI_97),
  (yX7_toGive, cX7_toGive, 6, (some .int), 7, mI_98),
  (yX7_rests, cX7_rests, 5, (some .int), 7, mI_99),
  (yX7_see, cX7_see, 3, (some .int), 7, mI_100),
  (yX7_seeCoins, cX7_seeCoins, 3, (some .int), 7, mI_101),
  (yX7_unsee, cX7_unsee, 1, (some .int), 7, mI_102),
  (yX7_which, cX7_which, 1, (some .int), 7, mI_103),
  (yX7_likely, cX7_likely, 6, (some .int), 7, mI_104),
  (yX7_seed, cX7_seed, 5, (some .long), 7, mI_105),
  (yX7_nights, cX7_nights, 3, (some .int), 7, mI_106),
  (yX7_keep, cX7_keep, 2, (some .int), 7, mI_107),
  (yX7_again, cX7_again, 2, (some .int), 7, mI_108),
  (yX7_count, cX7_count, 2, (some .int), 7, mI_109),
  (yX7_isLetter, cX7_isLetter, 1, (some .boolean), 7, mI_110),
  (yX7_isTale, cX7_isTale, 1, (some .boolean), 7, mI_111),
  (yX7_isSlot, cX7_isSlot, 1, (some .boolean), 7, mI_112),
  (yX7_isName, cX7_isName, 1, (some .boolean), 7, mI_113),
  (yX7_isTenths, cX7_isTenths, 1, (some .boolean), 7, mI_114),
  (yX7_holds, cX7_holds, 2, (some .boolean), 7, mI_115),
  (yX7_leastOf, cX7_leastOf, 2, (some .int), 7, mI_116),
  (yX7_kindOf, cX7_kindOf, 1, (some .int), 7, mI_117),
  (yX7_firstNameOf, cX7_firstNameOf, 1, (some .int), 7, mI_118),
  (yX7_secondNameOf, cX7_secondNameOf, 1, (some .int), 7, mI_119),
  (yX7_inLeastTerms, cX7_inLeastTerms, 4, (some .int), 7, mI_120),
  (yX7_holdAct, cX7_holdAct, 1, none, 7, mI_121),
  (yX7_refusalOfEnd, cX7_refusalOfEnd, 4, (some .int), 7, mI_122),
  (yX7_isEndTold, cX7_isEndTold, 3, (some .boolean), 7, mI_123),
  (yX7_isDoneWithout, cX7_isDoneWithout, 6, (some .boolean), 7, mI_124),
  (yX7_isProverb, cX7_isProverb, 6, (some .boolean), 7, mI_125),
  (yX7_meanAsSupposed, cX7_meanAsSupposed, 4, (some .int), 7, mI_126),
  (yX7_isRest, cX7_isRest, 7, (some .boolean), 7, mI_127),
  (yX7_restsInAll, cX7_restsInAll, 3, (some .int), 7, mI_128),
  (yX7_firstRest, cX7_firstRest, 2, (some .int), 7, mI_129),
  (yX7_talesThatFit, cX7_talesThatFit, 3, (some .int), 7, mI_130),
  (yX7_drawTale, cX7_drawTale, 2, (some .int), 7, mI_131),
  (yX7_lettersOfTales, cX7_lettersOfTales, 3, (some .int), 7, mI_132),
  (yX8_init, cX8_init, 1, none, 8, mI_133),
  (yX8_in, cX8_in, 6, (some .boolean), 8, mI_134),
  (yX8_has, cX8_has, 2, (some .boolean), 8, mI_135),
  (yX8_ones, cX8_ones, 3, (some .int), 8, mI_136),
  (yX8_write, cX8_write, 2, (some .int), 8, mI_137),
  (yX8_wipe, cX8_wipe, 2, (some .int), 8, mI_138),
  (yX8_fits, cX8_fits, 3, (some .boolean), 8, mI_139),
  (yX8_fault, cX8_fault, 2, (some .int), 8, mI_140),
  (yX8_inn, cX8_inn, 2, (some .int), 8, mI_141),
  (yX8_isTale, cX8_isTale, 1, (some .boolean), 8, mI_142),
  (yX8_quill, cX8_quill, 3, (some .int), 8, mI_143),
  (yX8_blot, cX8_blot, 3, (some .int), 8, mI_144),
  (yX8_kindOf, cX8_kindOf, 1, (some .int), 8, mI_145),
  (yX8_slipOf, cX8_slipOf, 5, (some .int), 8, mI_146),
  (yX8_slip, cX8_slip, 2, (some .int), 8, mI_147),
  (yX8_deeds, cX8_deeds, 3, (some .int), 8, mI_148),
  (yX8_deedOf, cX8_deedOf, 4, (some .int), 8, mI_149),
  (yX8_isGuest, cX8_isGuest, 2, (some .boolean), 8, mI_150),
  (yX8_guest, cX8_guest, 3, (some .int), 8, mI_151),
  (yX8_bearsAt, cX8_bearsAt, 6, (some .int), 8, mI_152),
  (yX8_bears, cX8_bears, 2, (some .int), 8, mI_153),
  (yX8_least, cX8_least, 2, (some .int), 8, mI_154),
  (yX8_strong, cX8_strong, 5, (some .int), 8, mI_155),
  (yX8_act, cX8_act, 9, (some .boolean), 8, mI_156),
  (yX8_deed, cX8_deed, 7, (some .boolean), 8, mI_157),
  (yX8_dusk, cX8_dusk, 3, none, 8, mI_158),
  (yX8_tellOn, cX8_tellOn, 7, (some .int), 8, mI_159),
  (yX8_lay, cX8_lay, 4, none, 8, mI_160),
  (yX8_keepAct, cX8_keepAct, 2, none, 8, mI_161),
  (yX8_tell, cX8_tell, 2, (some .int), 8, mI_162),
  (yX8_give, cX8_give, 4, (some .int), 8, mI_163),
  (yX8_undo, cX8_undo, 2, (some .int), 8, mI_164),
  (yX8_dead, cX8_dead, 2, (some .int), 8, mI_165),
  (yX8_allCoins, cX8_allCoins, 4, (some .int), 8, mI_166),
  (yX8_would, cX8_would, 4, (some .int), 8, mI_167),
  (yX8_coins, cX8_coins, 3, (some .int), 8, mI_168),
  (yX8_ends, cX8_ends, 6, (some .boolean), 8, mI_169),
  (yX8_refusedEnd, cX8_refusedEnd, 5, (some .int), 8, mI_170),
  (yX8_layShortest, cX8_layShortest, 5, (some .int), 8, mI_171),
  (yX8_shortest, cX8_shortest, 5, (some .int), 8, mI_172),
  (yX8_toldDeed, cX8_toldDeed, 1, (some .int), 8, mI_173),
  (yX8_shortestAt, cX8_shortestAt, 7, (some .int), 8, mI_174),
  (yX8_cut, cX8_cut, 6, (some .int), 8, mI_175),
  (yX8_choose, cX8_choose, 12, (some .boolean), 8, mI_176),
  (yX8_chosen, cX8_chosen, 8, (some .int), 8, mI_177),
  (yX8_round, cX8_round, 6, (some .int), 8, mI_178),
  (yX8_kinds, cX8_kinds, 6, (some .int), 8, mI_179),
  (yX8_odds, cX8_odds, 5, (some .int), 8, mI_180),
  (yX8_meanOf, cX8_meanOf, 4, (some .int), 8, mI_181),
  (yX8_meanBy, cX8_meanBy, 3, (some .int), 8, mI_182),
  (yX8_mean, cX8_mean, 3, (some .int), 8, mI_183),
  (yX8_toGive, cX8_toGive, 4, (some .int), 8, mI_184),
  (yX8_meanWith, cX8_meanWith, 6, (some .int), 8, mI_185),
  (yX8_rests, cX8_rests, 11, (some .int), 8, mI_186),
  (yX8_note, cX8_note, 3, (some .int), 8, mI_187),
  (yX8_see, cX8_see, 3, (some .int), 8, mI_188),
  (yX8_seeCoins, cX8_seeCoins, 3, (some .int), 8, mI_189),
  (yX8_unsee, cX8_unsee, 2, (some .int), 8, mI_190),
  (yX8_isSeen, cX8_isSeen, 7, (some .boolean), 8, mI_191),
  (yX8_which, cX8_which, 1, (some .int), 8, mI_192),
  (yX8_common, cX8_common, 5, (some .int), 8, mI_193),
  (yX8_likely, cX8_likely, 7, (some .int), 8, mI_194),
  (yX8_seed, cX8_seed, 5, (some .long), 8, mI_195),
  (yX8_nights, cX8_nights, 4, (some .int), 8, mI_196),
  (yX8_keep, cX8_keep, 3, (some .int), 8, mI_197),
  (yX8_again, cX8_again, 3, (some .int), 8, mI_198),
  (yX8_count, cX8_count, 5, (some .int), 8, mI_199),
  (yJ6_bitCount_0f7a4, cJ6_bitCount_0f7a4, 1, (some .int), 9, mI_200)]
def RC : Nat → String := fun k => match k with
  | 0 => RX0
  | 1 => RX1
  | 2 => RX2
  | 3 => RX3
  | 4 => RX4
  | 5 => RX5
  | 6 => RX6
  | 7 => RX7
  | 8 => RX8
  | 9 => RJ6
  | 10 => RJ9
  | _ => RL
/-- fields: class of the caller, pool number, class of the field, its place -/
def ftab : List ((Nat × Nat) × Nat × Nat) := [((2, 9), 2, 0), ((2, 15), 2, 1), ((1, 11), 1, 0), ((1, 15), 1, 1), ((1, 30), 1, 2), ((6, 12), 6, 0), ((6, 18), 6, 1), ((6, 30), 6, 2), ((6, 34), 6, 3), ((3, 12), 3, 0), ((3, 18), 3, 1), ((3, 21), 3, 2), ((3, 32), 3, 3), ((3, 40), 3, 4), ((3, 51), 3, 5), ((0, 11), 0, 0), ((0, 18), 0, 1), ((0, 32), 0, 2), ((0, 38), 0, 3), ((0, 28), 0, 4), ((4, 17), 4, 0), ((5, 9), 5, 0), ((5, 15), 5, 1), ((5, 18), 5, 2), ((7, 12), 7, 0), ((7, 16), 7, 1), ((7, 23), 7, 2), ((7, 27), 7, 3), ((7, 33), 7, 4), ((7, 40), 7, 5), ((7, 47), 7, 6), ((7, 56), 7, 7), ((7, 60), 7, 8), ((7, 63), 7, 9), ((7, 69), 7, 10), ((7, 73), 7, 11), ((7, 77), 7, 12), ((7, 80), 7, 13), ((7, 106), 7, 14), ((7, 110), 7, 15), ((7, 269), 7, 16), ((8, 78), 8, 0), ((8, 7), 8, 1), ((8, 13), 8, 2), ((8, 16), 8, 3), ((8, 56), 8, 4), ((8, 19), 8, 5), ((8, 22), 8, 6), ((8, 115), 8, 7), ((8, 81), 8, 8), ((8, 135), 8, 9), ((8, 25), 8, 10), ((8, 160), 8, 11), ((8, 28), 8, 12), ((8, 31), 8, 13), ((8, 34), 8, 14), ((8, 191), 8, 15), ((8, 37), 8, 16), ((8, 40), 8, 17), ((8, 210), 8, 18), ((8, 43), 8, 19), ((8, 47), 8, 20)]
def ftabN : List ((Nat × Nat) × Nat × Nat) := [((3, 54), 6, 0), ((0, 71), 6, 0), ((7, 153), 6, 0), ((7, 160), 6, 2), ((7, 171), 6, 3), ((7, 188), 3, 3), ((7, 191), 3, 4), ((7, 194), 3, 5), ((7, 288), 5, 2)]
/-- calls: class of the caller, pool number, the method, its kind (0 virtual, 1 static, 2 a constructor, 3 a mate's static, 4 a mate's constructor, 5 Object's constructor, 6 arraycopy, 7 Math.max, 8 Math.min) -/
def ctab : List ((Nat × Nat) × Nat × Nat) := [((11, 9), 75, 2), ((7, 3), 0, 5), ((7, 11), 35, 4), ((2, 3), 0, 5), ((7, 22), 6, 4), ((1, 5), 0, 5), ((7, 32), 65, 4), ((6, 3), 0, 5), ((6, 11), 6, 4), ((7, 39), 50, 4), ((3, 3), 0, 5), ((3, 11), 65, 4), ((7, 46), 0, 2), ((0, 3), 0, 5), ((0, 17), 65, 4), ((7, 53), 54, 2), ((4, 3), 0, 5), ((4, 9), 0, 7), ((7, 68), 59, 4), ((5, 3), 0, 5), ((11, 13), 76, 0), ((7, 83), 110, 1), ((7, 87), 37, 0), ((7, 91), 38, 0), ((2, 19), 37, 0), ((11, 18), 77, 0), ((7, 95), 39, 0), ((11, 23), 78, 0), ((7, 99), 41, 0), ((2, 23), 40, 0), ((2, 27), 46, 1), ((2, 41), 48, 1), ((11, 27), 79, 0), ((7, 102), 7, 0), ((1, 18), 36, 0), ((1, 24), 0, 8), ((1, 34), 40, 0), ((1, 38), 18, 0), ((7, 113), 10, 0), ((11, 31), 80, 0), ((7, 116), 111, 1), ((11, 36), 81, 0), ((11, 40), 82, 0), ((7, 119), 42, 0), ((2, 31), 45, 0), ((2, 38), 47, 1), ((2, 35), 49, 1), ((11, 44), 83, 0), ((7, 122), 11, 0), ((7, 125), 12, 0), ((1, 51), 11, 0), ((7, 128), 13, 0), ((7, 131), 15, 0), ((7, 134), 16, 0), ((1, 55), 115, 3), ((7, 137), 14, 0), ((11, 48), 84, 0), ((7, 140), 113, 1), ((7, 143), 24, 0), ((11, 52), 85, 0), ((7, 146), 121, 0), ((7, 296), 58, 0), ((4, 34), 0, 6), ((7, 225), 55, 0), ((4, 23), 33, 0), ((1, 41), 0, 6), ((7, 149), 68, 0), ((6, 43), 66, 0), ((6, 22), 8, 0), ((6, 26), 15, 0), ((6, 46), 43, 0), ((6, 52), 44, 0), ((6, 55), 69, 0), ((6, 59), 70, 0), ((6, 80), 118, 3), ((6, 83), 24, 0), ((6, 62), 72, 0), ((6, 66), 116, 3), ((7, 262), 115, 1), ((6, 73), 74, 0), ((6, 109), 27, 0), ((6, 69), 71, 0), ((6, 86), 119, 3), ((6, 76), 73, 0), ((6, 89), 117, 3), ((6, 92), 30, 0), ((6, 95), 29, 0), ((6, 99), 28, 0), ((6, 102), 26, 0), ((6, 105), 11, 0), ((7, 156), 9, 0), ((1, 47), 8, 0), ((11, 56), 86, 0), ((7, 163), 26, 0), ((11, 60), 87, 0), ((7, 167), 56, 0), ((4, 27), 34, 0), ((11, 64), 88, 0), ((7, 174), 20, 0), ((7, 177), 23, 0), ((11, 68), 89, 0), ((11, 72), 90, 0), ((7, 180), 122, 0), ((7, 299), 123, 0), ((7, 184), 51, 0), ((3, 24), 66, 0), ((3, 28), 53, 1), ((3, 58), 16, 0), ((3, 64), 14, 0), ((3, 68), 13, 0), ((3, 71), 12, 0), ((3, 36), 52, 0), ((3, 43), 67, 0), ((6, 37), 0, 6), ((3, 47), 69, 0), ((11, 77), 91, 0), ((7, 197), 117, 1), ((7, 200), 118, 1), ((7, 203), 119, 1), ((11, 82), 92, 0), ((7, 206), 43, 0), ((7, 209), 200, 1), ((7, 214), 124, 0), ((7, 302), 66, 0), ((7, 305), 44, 0), ((7, 308), 69, 0), ((11, 86), 93, 0), ((7, 218), 1, 0), ((0, 22), 20, 0), ((0, 35), 18, 0), ((0, 41), 66, 0), ((0, 45), 2, 1), ((0, 53), 43, 0), ((0, 58), 0, 8), ((0, 64), 44, 0), ((0, 68), 117, 3), ((0, 49), 4, 0), ((0, 75), 70, 0), ((0, 78), 67, 0), ((0, 82), 72, 0), ((0, 86), 3, 0), ((0, 90), 115, 3), ((0, 94), 5, 0), ((0, 98), 71, 0), ((0, 101), 74, 0), ((0, 104), 73, 0), ((11, 91), 94, 0), ((7, 222), 8, 0), ((7, 228), 57, 0), ((4, 30), 32, 0), ((11, 95), 95, 0), ((7, 232), 125, 0), ((7, 290), 25, 0), ((1, 65), 24, 0), ((7, 236), 36, 0), ((7, 238), 31, 0), ((1, 68), 32, 0), ((11, 99), 96, 0), ((7, 242), 114, 1), ((11, 103), 97, 0), ((7, 245), 126, 0), ((7, 311), 17, 0), ((1, 59), 16, 0), ((1, 62), 13, 0), ((11, 107), 98, 0), ((11, 111), 99, 0), ((7, 248), 128, 0), ((7, 314), 127, 0), ((7, 251), 129, 0), ((11, 115), 100, 0), ((7, 254), 60, 0), ((7, 255), 61, 0), ((5, 22), 60, 0), ((11, 119), 101, 0), ((11, 123), 102, 0), ((7, 258), 62, 0), ((11, 127), 103, 0), ((7, 259), 130, 0), ((7, 317), 63, 0), ((5, 26), 11, 0), ((5, 32), 64, 1), ((5, 36), 16, 0), ((5, 39), 13, 0), ((11, 131), 104, 0), ((7, 266), 120, 1), ((11, 137), 105, 0), ((11, 142), 106, 0), ((7, 273), 131, 0), ((7, 276), 19, 0), ((11, 146), 107, 0), ((7, 279), 112, 1), ((11, 150), 108, 0), ((11, 154), 109, 0), ((7, 282), 21, 0), ((7, 285), 22, 0), ((7, 293), 132, 0), ((11, 12), 133, 2), ((8, 1), 0, 5), ((11, 17), 137, 0), ((8, 52), 134, 1), ((11, 22), 138, 0), ((11, 26), 140, 0), ((8, 70), 139, 0), ((11, 30), 141, 0), ((8, 74), 140, 0), ((11, 35), 143, 0), ((8, 86), 142, 1), ((11, 39), 144, 0), ((11, 43), 147, 0), ((8, 93), 146, 0), ((8, 89), 145, 1), ((11, 47), 151, 0), ((8, 96), 150, 0), ((11, 51), 153, 0), ((8, 105), 152, 0), ((8, 99), 135, 1), ((11, 55), 162, 0), ((8, 138), 161, 0), ((8, 141), 159, 0), ((8, 122), 158, 0), ((8, 126), 148, 0), ((8, 129), 149, 0), ((8, 132), 157, 0), ((8, 109), 155, 0), ((8, 112), 154, 1), ((8, 118), 156, 0), ((11, 59), 163, 0), ((11, 63), 164, 0), ((11, 67), 167, 0), ((8, 145), 160, 0), ((8, 149), 165, 0), ((8, 152), 166, 0), ((11, 71), 168, 0), ((11, 76), 172, 0), ((8, 163), 170, 0), ((8, 166), 171, 0), ((8, 157), 169, 0), ((11, 81), 174, 0), ((8, 169), 173, 1), ((11, 85), 175, 0), ((8, 172), 136, 1), ((11, 90), 177, 0), ((8, 175), 176, 0), ((11, 94), 178, 0), ((11, 98), 179, 0), ((11, 102), 180, 0), ((11, 106), 183, 0), ((8, 184), 182, 0), ((8, 181), 181, 0), ((11, 110), 184, 0), ((11, 114), 186, 0), ((8, 187), 185, 0), ((11, 118), 188, 0), ((8, 194), 187, 0), ((11, 122), 189, 0), ((11, 126), 190, 0), ((11, 130), 192, 0), ((8, 201), 191, 0), ((11, 134), 194, 0), ((8, 204), 192, 0), ((8, 207), 193, 1), ((11, 141), 195, 0), ((11, 145), 196, 0), ((11, 149), 197, 0), ((11, 153), 198, 0), ((11, 157), 199, 0)]
def ktab : List ((Nat × Nat) × Int32) := [((9, 265), 1431655765), ((9, 266), 858993459), ((9, 267), 252645135)]
def ltab : List ((Nat × Nat) × Int64) := [((7, 320), 6364136223846793005), ((7, 322), 1442695040888963407), ((7, 324), 10), ((8, 50), 255), ((8, 60), 97), ((8, 62), 100), ((8, 64), 48), ((8, 66), 57), ((8, 68), 51), ((8, 84), 2), ((8, 103), 3), ((8, 155), 20), ((8, 179), 10), ((8, 197), -50), ((8, 199), 50), ((8, 214), 40), ((8, 216), 6364136223846793005), ((8, 218), 1442695040888963407), ((11, 135), 4294967295)]
def ntab : List ((Nat × Nat) × Nat) := [((11, 7), 7), ((7, 9), 2), ((7, 20), 1), ((7, 30), 6), ((6, 9), 1), ((7, 37), 3), ((3, 9), 6), ((7, 44), 0), ((0, 9), 6), ((7, 51), 4), ((7, 66), 5), ((11, 10), 8)]
end
section
/-! THE PURE MACHINE: a world is a list of cells (a tag and its values); a reference is a place in that list. Tags 0 to 8: an object of that class of vwCl; 100 an int array, 101 a boolean array, 102 an array of Scrolls, 103 an array of Tellings. -/
abbrev Wd : Type := List (Nat × List Value)
def owc (j : Nat) : Nat := match mtab[j]? with | some q => q.2.2.2.2.1 | none => 11
def mxj (j : Nat) : Nat := match mtab[j]? with | some q => q.2.2.1 | none => 4
def rtj (j : Nat) : Option FieldType := match mtab[j]? with | some q => q.2.2.2.1 | none => none
def yj (j : Nat) : MethodName := match mtab[j]? with | some q => q.1 | none => yL_law
def cdj (j : Nat) : ByteArray := match mtab[j]? with | some q => q.2.1 | none => code
def isj (j : Nat) : List (Nat × Instr × Nat) := match mtab[j]? with | some q => q.2.2.2.2.2 | none => []
def insAt (j pc : Nat) : Option Instr := ((isj j).find? (fun q => q.1 == pc)).map (fun q => q.2.1)
def fldT (c i : Nat) : Option (Nat × Nat) := (ftab ++ ftabN).lookup (c, i)
def calT (c i : Nat) : Option (Nat × Nat) := ctab.lookup (c, i)
def tyC (ci : Nat) : Nat → FieldType := match ci with
  | 0 => tyX0 | 1 => tyX1 | 2 => tyX2 | 3 => tyX3 | 4 => tyX4 | 5 => tyX5 | 6 => tyX6 | 7 => tyX7 | _ => tyX8
def finC (ci k : Nat) : Bool := match vwCl[ci]? with | some q => (q.2.1 k).2.2.2 | none => true
def nfC (ci : Nat) : Nat := match vwCl[ci]? with | some q => q.2.2 | none => 0
def stdLen : Instr → Nat
  | .bipush _ | .iload _ | .aload _ | .lload _ | .istore _ | .astore _ | .lstore _ | .newarray _ => 2
  | .sipush _ | .ifCond _ _ | .if_icmp _ _ | .goto _ | .getfield _ | .putfield _ | .invokevirtual _ | .invokestatic _ | .invokespecial _ | .new _ | .anewarray _ | .iinc _ _ | .ldc_w _ | .ldc2_w _ => 3
  | _ => 1
end
section

/-! CHECKS by the kernel: the tables are what the Statement's code and words say -/
def isSw : Instr → Bool
  | .tableswitch _ _ _ _ => true
  | .lookupswitch _ _ => true
  | _ => false
def chkI (cc : ByteArray) (r : Nat × Instr × Nat) : Bool := decide (decode cc r.1 = .ok (r.2.1, r.2.2)) && (isSw r.2.1 || stdLen r.2.1 == r.2.2)
def chkM (q : MethodName × ByteArray × Nat × Option FieldType × Nat × List (Nat × Instr × Nat)) : Bool := q.2.2.2.2.2.all (chkI q.2.1)
theorem chkM_0 : ((mtab.drop 0).take 29).all chkM = true := by decide +kernel
theorem chkM_29 : ((mtab.drop 29).take 29).all chkM = true := by decide +kernel
theorem chkM_58 : ((mtab.drop 58).take 29).all chkM = true := by decide +kernel
theorem chkM_87 : ((mtab.drop 87).take 29).all chkM = true := by decide +kernel
theorem chkM_116 : ((mtab.drop 116).take 29).all chkM = true := by decide +kernel
theorem chkM_145 : ((mtab.drop 145).take 29).all chkM = true := by decide +kernel
theorem chkM_174 : ((mtab.drop 174).take 29).all chkM = true := by decide +kernel
theorem all_chunks {α : Type} (p : α → Bool) (l : List α) (n k : Nat) (hn : 0 < n) (hk : l.length ≤ n * k) (h : ∀ c, c < k → ((l.drop (n * c)).take n).all p = true) : ∀ q ∈ l, p q = true := by
  intro q hq
  obtain ⟨i, hi⟩ := List.getElem?_of_mem hq
  have hl : i < l.length := (List.getElem?_eq_some_iff.mp hi).1
  have hc : i / n < k := Nat.div_lt_of_lt_mul (Nat.lt_of_lt_of_le hl hk)
  refine List.all_eq_true.mp (h (i / n) hc) q (List.mem_of_getElem? (i := i % n) ?_)
  rw [List.getElem?_take, if_pos (Nat.mod_lt _ hn), List.getElem?_drop, Nat.div_add_mod]
  exact hi
theorem chkM_all : ∀ q ∈ mtab, chkM q = true := by
  refine all_chunks chkM mtab 29 7 (by decide) (by decide +kernel) (fun c hc => ?_)
  match c, hc with
  | 0, _ => exact chkM_0
  | 1, _ => exact chkM_29
  | 2, _ => exact chkM_58
  | 3, _ => exact chkM_87
  | 4, _ => exact chkM_116
  | 5, _ => exact chkM_145
  | 6, _ => exact chkM_174
end
section
def fpos : List Nat := [68, 69, 83, 84, 85, 101, 105, 106, 108, 127, 128, 129, 130, 132, 134, 158, 159, 160, 161, 162, 183, 193, 194, 195, 204, 205, 206, 207, 208, 209, 210, 211, 212, 213, 214, 215, 216, 217, 218, 219, 220, 807, 808, 809, 810, 811, 812, 813, 814, 815, 816, 817, 818, 819, 820, 821, 822, 823, 824, 825, 826, 827]
def fposN : List Nat := [102, 103, 104, 107, 109, 131, 133, 135, 196]
def kpos : List Nat := [585, 586, 587]
def lpos : List Nat := [767, 768, 769, 876, 892, 893, 894, 895, 896, 909, 937, 1020, 1063, 1100, 1101, 1130, 1131, 1132, 1145]
def npos : List Nat := [54, 62, 77, 93, 99, 119, 125, 149, 155, 174, 187, 801]
def cpos : List (List Nat) := [[56, 57, 42], [59], [64, 65, 43], [67], [79, 80, 44], [82], [95, 96, 45], [98], [100, 80, 44], [121, 122, 46], [124], [126, 96, 45], [151, 152, 47], [154], [157, 96, 45], [176, 177, 48], [179], [180, 181, 49, 182], [189, 190, 50], [192], [256, 257, 258, 42], [260, 261, 42], [263, 264, 265, 43], [267, 268, 269, 43], [271, 264, 265, 43], [272, 273, 274, 42], [276, 277, 278, 43], [280, 281, 282, 42], [284, 285, 286, 43], [288, 289, 290, 43], [292, 293, 43], [295, 296, 43], [298, 299, 300, 42], [302, 303, 304, 44], [306, 307, 308, 43], [310, 311, 49, 312], [313, 289, 290, 43], [314, 315, 316, 44], [318, 319, 320, 44], [322, 323, 324, 42], [326, 327, 42], [329, 330, 331, 42], [333, 334, 335, 42], [337, 338, 339, 43], [341, 343, 0, 43], [345, 346, 43], [348, 349, 43], [351, 352, 353, 42], [355, 356, 357, 44], [359, 360, 361, 44], [363, 356, 357, 44], [364, 365, 366, 44], [368, 369, 370, 44], [372, 373, 374, 44], [376, 377, 42], [379, 380, 381, 44], [383, 384, 385, 42], [387, 388, 42], [390, 391, 392, 44], [394, 395, 396, 42], [398, 400, 1, 42], [402, 403, 404, 48], [406], [409, 410, 411, 48], [413, 414, 415, 44], [417], [418, 419, 420, 45], [422, 423, 424, 45], [426, 427, 428, 44], [430, 369, 370, 44], [431, 432, 433, 43], [435, 436, 437, 43], [439, 440, 441, 45], [443, 444, 445, 45], [447, 448, 42], [450, 391, 392, 44], [451, 452, 453, 45], [455, 456, 42], [458, 377, 42], [459, 460, 461, 45], [463, 464, 465, 44], [467, 468, 469, 45], [471, 472, 42], [474, 475, 476, 45], [478, 479, 42], [481, 482, 483, 44], [485, 486, 487, 44], [489, 490, 491, 44], [493, 494, 495, 44], [497, 356, 357, 44], [498, 499, 500, 44], [502, 427, 428, 44], [503, 504, 505, 42], [507, 494, 495, 44], [508, 509, 510, 42], [512, 513, 514, 48], [516, 517, 518, 44], [520, 521, 522, 42], [524, 525, 526, 44], [528, 529, 530, 44], [532, 533, 534, 42], [536, 537, 538, 42], [540, 542, 2, 42], [544, 546, 3, 42], [548, 549, 550, 46], [552, 423, 424, 45], [553, 554, 46], [556, 373, 374, 44], [557, 380, 381, 44], [558, 365, 366, 44], [559, 360, 361, 44], [560, 562, 4, 46], [564, 565, 566, 45], [568], [569, 440, 441, 45], [570, 571, 572, 42], [574, 479, 42], [575, 448, 42], [576, 472, 42], [577, 578, 579, 42], [581, 432, 433, 43], [582, 583, 53], [588, 590, 5, 42], [592, 423, 424, 45], [593, 436, 437, 43], [594, 440, 441, 45], [595, 596, 597, 42], [599, 600, 601, 47], [603, 525, 526, 44], [604, 315, 316, 44], [605, 423, 424, 45], [606, 607, 47], [609, 432, 433, 43], [610, 311, 49, 312], [611, 436, 437, 43], [612, 479, 42], [613, 615, 6, 47], [617, 444, 445, 45], [618, 565, 566, 45], [619, 452, 453, 45], [620, 622, 7, 47], [624, 377, 42], [625, 627, 8, 47], [629, 468, 469, 45], [630, 460, 461, 45], [631, 475, 476, 45], [632, 633, 634, 42], [636, 427, 428, 44], [637, 638, 639, 48], [641, 642, 643, 44], [645, 646, 647, 42], [649, 651, 9, 42], [653, 654, 655, 44], [657, 391, 392, 44], [658, 307, 308, 43], [659, 660, 661, 44], [663, 642, 643, 44], [664, 665, 666, 42], [668, 669, 42], [671, 672, 673, 42], [675, 677, 10, 42], [679, 680, 681, 44], [683, 373, 374, 44], [684, 365, 366, 44], [685, 686, 687, 42], [689, 690, 691, 42], [693, 695, 11, 42], [697, 699, 12, 42], [701, 703, 13, 42], [705, 706, 707, 42], [709, 710, 711, 50], [713, 714, 715, 50], [717, 710, 711, 50], [718, 719, 720, 42], [722, 723, 724, 42], [726, 727, 728, 50], [730, 731, 732, 42], [734, 736, 14, 42], [738, 739, 740, 50], [742, 356, 357, 44], [743, 744, 50], [746, 373, 374, 44], [747, 365, 366, 44], [748, 749, 750, 42], [752, 753, 42], [755, 756, 757, 42], [759, 760, 761, 42], [763, 765, 15, 42], [770, 771, 772, 44], [774, 775, 776, 42], [778, 779, 42], [781, 782, 783, 42], [785, 786, 787, 42], [789, 790, 791, 44], [793, 794, 795, 44], [797, 799, 16, 42], [803, 804, 51], [806], [872, 873, 874, 51], [877, 878, 51], [880, 881, 882, 51], [884, 885, 886, 51], [888, 890, 17, 51], [897, 898, 899, 51], [901, 885, 886, 51], [902, 903, 904, 51], [906, 907, 51], [910, 911, 912, 51], [914, 915, 916, 51], [918, 920, 18, 51], [922, 923, 51], [925, 926, 927, 51], [929, 931, 19, 51], [933, 934, 935, 51], [938, 940, 20, 51], [942, 943, 51], [945, 946, 947, 51], [949, 951, 21, 51], [953, 955, 22, 51], [957, 959, 23, 51], [961, 963, 24, 51], [965, 967, 25, 51], [969, 971, 26, 51], [973, 975, 27, 51], [977, 978, 51], [980, 982, 28, 51], [984, 985, 986, 51], [988, 989, 990, 51], [992, 993, 994, 51], [996, 998, 29, 51], [1000, 1002, 30, 51], [1004, 1006, 31, 51], [1008, 1009, 1010, 51], [1012, 1013, 1014, 51], [1016, 1018, 32, 51], [1021, 1023, 33, 51], [1025, 1027, 34, 51], [1029, 1030, 1031, 51], [1033, 1034, 51], [1036, 1037, 1038, 51], [1040, 1041, 51], [1043, 1044, 1045, 51], [1047, 1049, 35, 51], [1051, 1052, 1053, 51], [1055, 1056, 1057, 51], [1059, 1060, 1061, 51], [1064, 1065, 1066, 51], [1068, 1070, 36, 51], [1072, 1074, 37, 51], [1076, 1077, 1078, 51], [1080, 1081, 1082, 51], [1084, 1086, 38, 51], [1088, 1089, 1090, 51], [1092, 1094, 39, 51], [1096, 1097, 1098, 51], [1102, 1103, 1104, 51], [1106, 1107, 1108, 51], [1110, 1112, 40, 51], [1114, 1115, 1116, 51], [1118, 1107, 1108, 51], [1119, 1120, 51], [1122, 1123, 1124, 51], [1126, 1127, 1128, 51], [1133, 1134, 1135, 51], [1137, 1138, 1139, 51], [1141, 1142, 1143, 51]]
def mpos : List Nat := [153, 602, 608, 623, 616, 628, 81, 305, 429, 501, 321, 358, 362, 367, 382, 371, 375, 682, 317, 773, 527, 792, 796, 531, 393, 656, 496, 466, 492, 488, 484, 662, 644, 416, 519, 66, 309, 266, 270, 279, 291, 287, 340, 434, 438, 344, 294, 347, 297, 350, 123, 551, 563, 555, 178, 412, 515, 640, 405, 191, 712, 716, 729, 741, 745, 97, 425, 567, 421, 442, 446, 470, 454, 477, 462, 58, 259, 275, 283, 301, 325, 332, 336, 354, 386, 397, 506, 511, 523, 535, 539, 573, 580, 598, 635, 648, 667, 674, 688, 692, 708, 721, 725, 733, 751, 758, 762, 777, 784, 788, 262, 328, 780, 389, 670, 378, 457, 480, 449, 473, 754, 401, 543, 547, 591, 652, 678, 700, 696, 704, 737, 766, 800, 805, 879, 944, 1042, 875, 883, 891, 887, 900, 908, 905, 913, 924, 921, 917, 964, 968, 932, 928, 941, 936, 979, 976, 983, 972, 960, 956, 999, 952, 948, 987, 991, 1003, 1007, 995, 1011, 1028, 1019, 1024, 1015, 1035, 1032, 1039, 1050, 1046, 1054, 1058, 1062, 1075, 1071, 1067, 1079, 1087, 1083, 1095, 1091, 1099, 1105, 1113, 1109, 1121, 1117, 1125, 1129, 1136, 1140, 1144, 584]
def upos : List (List Nat) := [[163, 165, 167, 169, 171], [86, 88, 90], [70, 72], [136, 138, 140, 142, 144, 146], [184], [197, 199, 201], [110, 112, 114, 116], [221, 223, 225, 227, 229, 231, 233, 235, 237, 239, 241, 243, 245, 247, 249, 251, 253], [828, 830, 832, 834, 836, 838, 840, 842, 844, 846, 848, 850, 852, 854, 856, 858, 860, 862, 864, 866, 868]]
def ipos : List (List Nat) := [[150, 47], [78, 44], [63, 43], [120, 46], [175, 48], [188, 50], [94, 45], [55, 42], [802, 51]]

/-- the words that a method may take along -/
def tw : List Cond := lw_tbl.filter goodWord
def chkZ : List Cond → List Nat → Bool
  | [], [] => true
  | w :: ws, p :: ps => decide (lw_tbl[p]? = some w) && goodWord w && chkZ ws ps
  | _, _ => false
theorem chkZ_in : ∀ (ws : List Cond) (ps : List Nat), chkZ ws ps = true → ∀ w ∈ ws, w ∈ tw
  | [], _, _, w, h => absurd h List.not_mem_nil
  | a :: ws, [], h, _, _ => by simp [chkZ] at h
  | a :: ws, p :: ps, h, w, hw => by
    simp only [chkZ, Bool.and_eq_true, decide_eq_true_eq] at h
    rcases List.mem_cons.mp hw with rfl | hw
    · exact List.mem_filter.mpr ⟨List.mem_of_getElem? h.1.1, h.1.2⟩
    · exact chkZ_in ws ps h.2 w hw
/-- words of mates: in the tables, but not such as are taken along -/
def chkY : List Cond → List Nat → Bool
  | [], [] => true
  | w :: ws, p :: ps => decide (lw_tbl[p]? = some w) && chkY ws ps
  | _, _ => false
theorem chkY_in : ∀ (ws : List Cond) (ps : List Nat), chkY ws ps = true → ∀ w ∈ ws, w ∈ lw_tbl
  | [], _, _, w, h => absurd h List.not_mem_nil
  | a :: ws, [], h, _, _ => by simp [chkY] at h
  | a :: ws, p :: ps, h, w, hw => by
    simp only [chkY, Bool.and_eq_true, decide_eq_true_eq] at h
    rcases List.mem_cons.mp hw with rfl | hw
    · exact List.mem_of_getElem? h.1
    · exact chkY_in ws ps h.2 w hw
def fwd (q : (Nat × Nat) × Nat × Nat) : Cond := match vwCl[q.2.1]? with
  | some r => .fieldLink (RC q.1.1) q.1.2 (r.2.1 q.2.2).1 (r.2.1 q.2.2).2.1 (r.2.1 q.2.2).2.2.1
  | none => .initialized RL
def fwdN (q : (Nat × Nat) × Nat × Nat) : Cond := match vwCl[q.2.1]? with
  | some r => .fieldLinkNest (RC q.1.1) q.1.2 (r.2.1 q.2.2).1 (r.2.1 q.2.2).2.1 (r.2.1 q.2.2).2.2.1 RX7
  | none => .initialized RL
theorem ftab_in : ∀ q ∈ ftab, fwd q ∈ tw := fun q hq => chkZ_in (ftab.map fwd) fpos (by decide +kernel) _ (List.mem_map_of_mem hq)
theorem ftabN_in : ∀ q ∈ ftabN, fwdN q ∈ lw_tbl := fun q hq => chkY_in (ftabN.map fwdN) fposN (by decide +kernel) _ (List.mem_map_of_mem hq)
theorem ktab_in : ∀ q ∈ ktab, Cond.constant (RC q.1.1) q.1.2 q.2 ∈ tw := fun q hq => chkZ_in (ktab.map (fun q => Cond.constant (RC q.1.1) q.1.2 q.2)) kpos (by decide +kernel) _ (List.mem_map_of_mem (f := fun q => Cond.constant (RC q.1.1) q.1.2 q.2) hq)
theorem ltab_in : ∀ q ∈ ltab, Cond.constantLong (RC q.1.1) q.1.2 q.2 ∈ tw := fun q hq => chkZ_in (ltab.map (fun q => Cond.constantLong (RC q.1.1) q.1.2 q.2)) lpos (by decide +kernel) _ (List.mem_map_of_mem (f := fun q => Cond.constantLong (RC q.1.1) q.1.2 q.2) hq)
theorem ntab_in : ∀ q ∈ ntab, Cond.classLink (RC q.1.1) q.1.2 (RC q.2) ∈ tw := fun q hq => chkZ_in (ntab.map (fun q => Cond.classLink (RC q.1.1) q.1.2 (RC q.2))) npos (by decide +kernel) _ (List.mem_map_of_mem (f := fun q => Cond.classLink (RC q.1.1) q.1.2 (RC q.2)) hq)
def mwd (q : MethodName × ByteArray × Nat × Option FieldType × Nat × List (Nat × Instr × Nat)) : Cond := .code q.1 q.2.1 q.2.2.1 q.2.2.2.1
set_option maxRecDepth 100000 in
theorem mpos_ok : mtab.map mwd = mpos.filterMap (fun i => lw_tbl[i]?) := rfl
theorem mgood : (mtab.map mwd).all goodWord = true := by decide +kernel
theorem mtab_in : ∀ q ∈ mtab, mwd q ∈ tw := fun q hq => by
  have h1 : mwd q ∈ mtab.map mwd := List.mem_map_of_mem hq
  refine List.mem_filter.mpr ⟨?_, List.all_eq_true.mp mgood _ h1⟩
  rw [mpos_ok] at h1
  obtain ⟨i, -, hi⟩ := List.mem_filterMap.mp h1
  exact List.mem_of_getElem? hi
/-- the words of a call but the link of a mate's -/
def cwd (q : (Nat × Nat) × Nat × Nat) : List Cond := match q.2.2 with
  | 0 => [.methodLink (RC q.1.1) q.1.2 (yj q.2.1), .instanceMethod (yj q.2.1), .selects (yj q.2.1).cls (yj q.2.1) (yj q.2.1), .initialized (yj q.2.1).cls]
  | 1 => [.methodLink (RC q.1.1) q.1.2 (yj q.2.1), .static (yj q.2.1), .initialized (yj q.2.1).cls]
  | 2 => [.methodLink (RC q.1.1) q.1.2 (yj q.2.1), .instanceMethod (yj q.2.1), .initialized (yj q.2.1).cls]
  | 3 => [.static (yj q.2.1), .initialized (yj q.2.1).cls]
  | 4 => [.instanceMethod (yj q.2.1), .initialized (yj q.2.1).cls]
  | 5 => [.methodLink (RC q.1.1) q.1.2 objectInit]
  | 7 => [.methodLink (RC q.1.1) q.1.2 Lib.Math.max.name, .static Lib.Math.max.name, .initialized "java/lang/Math", .code Lib.Math.max.name Lib.Math.max.code 2 (some .int)]
  | 8 => [.methodLink (RC q.1.1) q.1.2 Lib.Math.min.name, .static Lib.Math.min.name, .initialized "java/lang/Math", .code Lib.Math.min.name Lib.Math.min.code 2 (some .int)]
  | _ => [.methodLink (RC q.1.1) q.1.2 arraycopyName]
def cwdN (q : (Nat × Nat) × Nat × Nat) : Cond := .methodLinkNest (RC q.1.1) q.1.2 (yj q.2.1) RX7
def isN (q : (Nat × Nat) × Nat × Nat) : Bool := q.2.2 == 3 || q.2.2 == 4
def cps (q : ((Nat × Nat) × Nat × Nat) × List Nat) : List Nat := if isN q.1 then q.2.drop 1 else q.2
theorem ctab_in : ∀ q ∈ ctab, ∀ w ∈ cwd q, w ∈ tw := fun q hq w hw => chkZ_in (ctab.flatMap cwd) ((ctab.zip cpos).flatMap cps) (by decide +kernel) w (List.mem_flatMap.mpr ⟨q, hq, hw⟩)
theorem ctabN_in : ∀ q ∈ ctab, isN q = true → cwdN q ∈ lw_tbl := fun q hq h => chkY_in ((ctab.filter isN).map cwdN) (((ctab.zip cpos).filter (fun q => isN q.1)).map (fun q => q.2.headD 0)) (by decide +kernel) _ (List.mem_map_of_mem (List.mem_filter.mpr ⟨hq, h⟩))
theorem utab_in : ∀ r ∈ vwCl, ∀ w ∈ u_ws r.1 r.2.1 r.2.2, w ∈ tw := fun r hr w hw => chkZ_in (vwCl.flatMap (fun r => u_ws r.1 r.2.1 r.2.2)) upos.flatten (by decide +kernel) w (List.mem_flatMap.mpr ⟨r, hr, hw⟩)
theorem itab_in : ∀ r ∈ vwCl, ∀ w ∈ ([.instantiable r.1 r.2.2, .initialized r.1] : List Cond), w ∈ tw := fun r hr w hw => chkZ_in (vwCl.flatMap (fun r => [.instantiable r.1 r.2.2, .initialized r.1])) ipos.flatten (by decide +kernel) w (List.mem_flatMap.mpr ⟨r, hr, hw⟩)
theorem misc_in : ∀ w ∈ ([.instanceMethod objectInit, .code objectInit ⟨#[0xb1]⟩ 1 none, .native arraycopyName, .static arraycopyName, .initialized "java/lang/System", .arrayClass .int, .arrayClass .boolean] : List Cond), w ∈ tw := chkZ_in _ [60, 61, 408, 407, 52, 75, 871] (by decide +kernel)
theorem over_in : ∀ w ∈ ([.arrayOver (.object "SupperTales$Scroll"), .arrayOver (.object "SupperTales$Telling")] : List Cond), w ∈ lw_tbl := chkY_in _ [76, 156] (by decide +kernel)
theorem tw_lw : ∀ w ∈ tw, w ∈ lw_tbl := fun w h => (List.mem_filter.mp h).1
theorem tw_good : ∀ w ∈ tw, (w.onTables && w.keeps) = true ∨ ∃ ty, w = .arrayClass ty := fun w h => good_of_word (List.mem_filter.mp h).2
end
section
/-- 0 the stack alone, 1 a local read, 2 a local written, 3 a jump, 4 the heap read, 5 the heap written, 6 a call, 7 the end -/
def kdI : Instr → Nat
  | .iload_n _ | .iload _ | .aload_n _ | .aload _ | .lload_n _ | .lload _ => 1
  | .istore_n _ | .istore _ | .astore_n _ | .astore _ | .lstore_n _ | .lstore _ | .iinc _ _ => 2
  | .goto _ | .ifCond _ _ | .if_icmp _ _ | .tableswitch _ _ _ _ | .lookupswitch _ _ => 3
  | .getfield _ | .iaload | .baload | .aaload | .arraylength => 4
  | .putfield _ | .iastore | .bastore | .aastore | .new _ | .newarray _ | .anewarray _ => 5
  | .invokevirtual _ | .invokestatic _ | .invokespecial _ => 6
  | .ireturn | .lreturn | .return_ => 7
  | _ => 0
def pureOp (c : Nat) : Instr → List Value → Option (List Value)
  | .iconst n, st => some (.int (Int32.ofInt n) :: st)
  | .bipush n, st => some (.int (Int8.ofInt n).toInt32 :: st)
  | .sipush n, st => some (.int (Int16.ofInt n).toInt32 :: st)
  | .lconst n, st => some (.long (Int64.ofNat n.val) :: st)
  | .ldc_w i, st => (ktab.lookup (c, i)).map (fun v => .int v :: st)
  | .ldc2_w i, st => (ltab.lookup (c, i)).map (fun v => .long v :: st)
  | .iadd, .int y :: .int x :: st => some (.int (x + y) :: st)
  | .isub, .int y :: .int x :: st => some (.int (x - y) :: st)
  | .imul, .int y :: .int x :: st => some (.int (x * y) :: st)
  | .idiv, .int y :: .int x :: st => if y = 0 then none else some (.int (x / y) :: st)
  | .irem, .int y :: .int x :: st => if y = 0 then none else some (.int (x - x / y * y) :: st)
  | .iand, .int y :: .int x :: st => some (.int (x &&& y) :: st)
  | .ior, .int y :: .int x :: st => some (.int (x ||| y) :: st)
  | .ixor, .int y :: .int x :: st => some (.int (x ^^^ y) :: st)
  | .ishl, .int y :: .int x :: st => some (.int (x <<< (y &&& 31)) :: st)
  | .ishr, .int y :: .int x :: st => some (.int (x >>> (y &&& 31)) :: st)
  | .iushr, .int y :: .int x :: st => some (.int (x.toUInt32 >>> (y.toUInt32 &&& Int32.toUInt32 31)).toInt32 :: st)
  | .ladd, .long y :: .long x :: st => some (.long (x + y) :: st)
  | .lmul, .long y :: .long x :: st => some (.long (x * y) :: st)
  | .lrem, .long y :: .long x :: st => if y = 0 then none else some (.long (x - x / y * y) :: st)
  | .lushr, .int y :: .long x :: st => some (.long (x.toUInt64 >>> (y.toInt64.toUInt64 &&& Int64.toUInt64 63)).toInt64 :: st)
  | .i2l, .int x :: st => some (.long x.toInt64 :: st)
  | .l2i, .long x :: st => some (.int x.toInt32 :: st)
  | .lcmp, .long y :: .long x :: st => some (.int (lg_cmp x y) :: st)
  | .dup, v :: st => if v.category = 1 then some (v :: v :: st) else none
  | .dup2, v :: u :: st => if v.category = 1 ∧ u.category = 1 then some (v :: u :: v :: u :: st) else none
  | .pop, v :: st => if v.category = 1 then some st else none
  | _, _ => none
def wI : Option Value → Option Value
  | some (.int x) => some (.int x)
  | _ => none
def wL : Option Value → Option Value
  | some (.long x) => some (.long x)
  | _ => none
def wR : Option Value → Option Value
  | some (.ref x) => some (.ref x)
  | _ => none
def loadOp : Instr → List Value → Option Value
  | .iload_n k, ls => wI ls[k.val]?
  | .iload i, ls => wI ls[i]?
  | .lload_n k, ls => wL ls[k.val]?
  | .lload i, ls => wL ls[i]?
  | .aload_n k, ls => wR ls[k.val]?
  | .aload i, ls => wR ls[i]?
  | _, _ => none
/-- no long begins just ahead of place i -/
def noL (ls : List Value) : Nat → Bool
  | 0 => true
  | i + 1 => match ls[i]? with
    | some v => v.category == 1
    | none => true
def st1 (ls : List Value) (i : Nat) (v : Value) : Option (List Value) := if i < ls.length ∧ noL ls i = true then some (ls.set i v) else none
def st2 (ls : List Value) (i : Nat) (v : Value) : Option (List Value) := if i + 1 < ls.length ∧ noL ls i = true then some ((ls.set i v).set (i + 1) .null) else none
def storeOp : Instr → List Value → List Value → Option (List Value × List Value)
  | .istore_n k, ls, .int x :: st => (st1 ls k.val (.int x)).map (fun l => (l, st))
  | .istore i, ls, .int x :: st => (st1 ls i (.int x)).map (fun l => (l, st))
  | .astore_n k, ls, .ref x :: st => (st1 ls k.val (.ref x)).map (fun l => (l, st))
  | .astore i, ls, .ref x :: st => (st1 ls i (.ref x)).map (fun l => (l, st))
  | .lstore_n k, ls, .long x :: st => (st2 ls k.val (.long x)).map (fun l => (l, st))
  | .lstore i, ls, .long x :: st => (st2 ls i (.long x)).map (fun l => (l, st))
  | .iinc i n, ls, st => match ls[i]? with
    | some (.int x) => (st1 ls i (.int (x + Int32.ofInt n))).map (fun l => (l, st))
    | _ => none
  | _, _, _ => none
def tgt (pc : Nat) (off : Int) : Option Nat := if 0 ≤ (pc : Int) + off then some ((pc : Int) + off).toNat else none
def cnd : ClassFile.Cond → Int32 → Int32 → Bool
  | .eq, x, y => decide (x = y)
  | .ne, x, y => decide (¬ x = y)
  | .lt, x, y => decide (x < y)
  | .ge, x, y => decide (y ≤ x)
  | .gt, x, y => decide (y < x)
  | .le, x, y => decide (x ≤ y)
def brOp : Instr → Nat → List Value → Option (Nat × List Value)
  | .goto off, pc, st => (tgt pc off).map (fun t => (t, st))
  | .ifCond c off, pc, .int x :: st => (tgt pc off).map (fun t => (if cnd c x 0 = true then t else pc + 3, st))
  | .if_icmp c off, pc, .int y :: .int x :: st => (tgt pc off).map (fun t => (if cnd c x y = true then t else pc + 3, st))
  | .tableswitch d lo hi offs, pc, .int x :: st => if x.toInt < lo ∨ hi < x.toInt then (tgt pc d).map (fun t => (t, st)) else (offs[(x.toInt - lo).toNat]?).bind (fun off => (tgt pc off).map (fun t => (t, st)))
  | .lookupswitch d ps, pc, .int x :: st => if (ps.toList.zip (ps.toList.drop 1)).all (fun (a, next) => a.1 < next.1) = true then (tgt pc (Op.lookupswitch.offset ps.toList d x.toInt)).map (fun t => (t, st)) else none
  | _, _, _ => none
/-- value k of the array at i, of that tag -/
def elA (w : Wd) (t i : Nat) (x : Int32) : Option Value := match w[i]? with
  | some q => if q.1 = t ∧ ¬ x < 0 then q.2[x.toNatClampNeg]? else none
  | none => none
def aaR (w : Wd) (i : Nat) (x : Int32) : Option Value := match w[i]? with
  | some q => if (q.1 = 102 ∨ q.1 = 103) ∧ ¬ x < 0 then wR q.2[x.toNatClampNeg]? else none
  | none => none
def gfR (w : Wd) (i : Nat) (f : Nat × Nat) : Option Value := match w[i]? with
  | some q => if q.1 = f.1 ∧ f.2 < nfC f.1 then q.2[f.2]? else none
  | none => none
def alR (w : Wd) (i : Nat) : Option Int32 := match w[i]? with
  | some q => if 100 ≤ q.1 ∧ q.1 ≤ 103 then some (Int32.ofNat q.2.length) else none
  | none => none
def heapR (c : Nat) : Instr → List Value → Wd → Option (List Value)
  | .getfield idx, .ref i :: st, w => (fldT c idx).bind (fun f => (gfR w i f).map (fun v => v :: st))
  | .iaload, .int x :: .ref i :: st, w => (wI (elA w 100 i x)).map (fun v => v :: st)
  | .baload, .int x :: .ref i :: st, w => (wI (elA w 101 i x)).map (fun v => v :: st)
  | .aaload, .int x :: .ref i :: st, w => (aaR w i x).map (fun v => v :: st)
  | .arraylength, .ref i :: st, w => (alR w i).map (fun n => .int n :: st)
  | _, _, _ => none
/-- a value that a field of that type takes -/
def okT : FieldType → Value → Bool
  | .int, .int _ => true
  | .boolean, .int x => x == 0 || x == 1
  | .long, .long _ => true
  | .object _, .ref _ => true
  | .array _, .ref _ => true
  | _, _ => false
def pfW (j : Nat) (w : Wd) (i : Nat) (f : Nat × Nat) (v : Value) : Option Wd := match w[i]? with
  | some q => if q.1 = f.1 ∧ f.2 < nfC f.1 ∧ f.2 < q.2.length ∧ okT (tyC f.1 f.2) v = true ∧ (finC f.1 f.2 = true → (yj j).name = "<init>" ∧ owc j = f.1) then some (w.set i (q.1, q.2.set f.2 v)) else none
  | none => none
def asW (w : Wd) (t i : Nat) (x : Int32) (v : Value) : Option Wd := match w[i]? with
  | some q => if q.1 = t ∧ ¬ x < 0 ∧ x.toNatClampNeg < q.2.length then some (w.set i (q.1, q.2.set x.toNatClampNeg v)) else none
  | none => none
/-- the class of what an array of references holds -/
def elC (t : Nat) : Nat := if t = 102 then 2 else 6
def aaW (w : Wd) (i : Nat) (x : Int32) (r : Nat) : Option Wd := match w[i]?, w[r]? with
  | some q, some u => if (q.1 = 102 ∨ q.1 = 103) ∧ u.1 = elC q.1 ∧ ¬ x < 0 ∧ x.toNatClampNeg < q.2.length then some (w.set i (q.1, q.2.set x.toNatClampNeg (.ref r))) else none
  | _, _ => none
def newO (ci : Nat) : Nat × List Value := (ci, (List.range (nfC ci)).map (fun k => defaultValue (tyC ci k)))
def heapW (j : Nat) : Instr → List Value → Wd → Option (List Value × Wd)
  | .putfield idx, v :: .ref i :: st, w => (ftab.lookup (owc j, idx)).bind (fun f => (pfW j w i f v).map (fun w' => (st, w')))
  | .iastore, .int v :: .int x :: .ref i :: st, w => (asW w 100 i x (.int v)).map (fun w' => (st, w'))
  | .bastore, .int v :: .int x :: .ref i :: st, w => if v = 0 ∨ v = 1 then (asW w 101 i x (.int v)).map (fun w' => (st, w')) else none
  | .aastore, .ref r :: .int x :: .ref i :: st, w => (aaW w i x r).map (fun w' => (st, w'))
  | .new idx, st, w => match ntab.lookup (owc j, idx) with
    | some ci => if ci < 9 then some (.ref w.length :: st, w ++ [newO ci]) else none
    | none => none
  | .newarray .int, .int n :: st, w => if n < 0 ∨ 2000 < n then none else some (.ref w.length :: st, w ++ [(100, List.replicate n.toNatClampNeg (.int 0))])
  | .newarray .boolean, .int n :: st, w => if n < 0 ∨ 2000 < n then none else some (.ref w.length :: st, w ++ [(101, List.replicate n.toNatClampNeg (.int 0))])
  | .anewarray idx, .int n :: st, w => if n < 0 ∨ 2000 < n then none else match ntab.lookup (owc j, idx) with
    | some 2 => some (.ref w.length :: st, w ++ [(102, List.replicate n.toNatClampNeg .null)])
    | some 6 => some (.ref w.length :: st, w ++ [(103, List.replicate n.toNatClampNeg .null)])
    | _ => none
  | _, _, _ => none
/-- n values of f from sp on, laid into g from dp on -/
def cpV (f g : List Value) (sp dp n : Nat) : List Value := g.mapIdx (fun k v => if dp ≤ k ∧ k < dp + n then f.getD (sp + (k - dp)) .null else v)
def acW (w : Wd) (a0 : Nat) (sp : Int32) (a : Nat) (dp n : Int32) : Option Wd := match w[a0]?, w[a]? with
  | some q, some u => if q.1 = 100 ∧ u.1 = 100 ∧ ¬ sp < 0 ∧ ¬ dp < 0 ∧ ¬ n < 0 ∧ sp.toNatClampNeg + n.toNatClampNeg ≤ q.2.length ∧ dp.toNatClampNeg + n.toNatClampNeg ≤ u.2.length then some (w.set a (u.1, cpV q.2 u.2 sp.toNatClampNeg dp.toNatClampNeg n.toNatClampNeg)) else none
  | _, _ => none
def layA : List Value → List Value
  | [] => []
  | v :: vs => if v.category = 2 then v :: .null :: layA vs else v :: layA vs
def entL (j : Nat) (As : List Value) : List Value := layA As ++ List.replicate (mxj j - (layA As).length) .null
def catS (st : List Value) : Nat := (st.map (fun v => v.category)).sum
/-- how many words the method takes, by its descriptor -/
def narg (j : Nat) : Nat := match parseMethodDescriptor (yj j).desc with | some d => d.parameters.length | none => 0
def rcvOk (w : Wd) (j : Nat) : Value → Bool
  | .ref i => match w[i]? with
    | some q => q.1 == owc j
    | none => false
  | _ => false
/-- a call: the method, its values, what is left of the stack -/
def callOp (j : Nat) (i : Instr) (st : List Value) (w : Wd) : Option (Nat × List Value × List Value) := match i with
  | .invokevirtual idx => match calT (owc j) idx with
    | some (j', 0) => if rcvOk w j' (st.getD (narg j') .null) = true ∧ narg j' < st.length ∧ catS (st.drop (narg j' + 1)) ≤ 8 then some (j', (st.take (narg j' + 1)).reverse, st.drop (narg j' + 1)) else none
    | _ => none
  | .invokestatic idx => match calT (owc j) idx with
    | some (j', k) => if (k = 1 ∨ k = 3) ∧ narg j' ≤ st.length ∧ catS (st.drop (narg j')) ≤ 8 then some (j', (st.take (narg j')).reverse, st.drop (narg j')) else none
    | _ => none
  | .invokespecial idx => match calT (owc j) idx with
    | some (j', k) => if (k = 2 ∨ k = 4) ∧ rcvOk w j' (st.getD (narg j') .null) = true ∧ narg j' < st.length ∧ catS (st.drop (narg j' + 1)) ≤ 8 then some (j', (st.take (narg j' + 1)).reverse, st.drop (narg j' + 1)) else none
    | _ => none
  | _ => none
/-- Object's constructor, arraycopy -/
def natOp (j : Nat) : Instr → List Value → Wd → Option (List Value × Wd)
  | .invokespecial idx, .ref _ :: st, w => if (calT (owc j) idx).map (fun q => q.2) = some 5 ∧ catS st ≤ 8 then some (st, w) else none
  | .invokestatic idx, .int n :: .int dp :: .ref a :: .int sp :: .ref a0 :: st, w => if (calT (owc j) idx).map (fun q => q.2) = some 6 ∧ catS st ≤ 8 then (acW w a0 sp a dp n).map (fun w' => (st, w')) else none
  | .invokestatic idx, .int y :: .int x :: st, w => match (calT (owc j) idx).map (fun q => q.2) with
    | some 7 => if catS st ≤ 8 then some (.int (if x < y then y else x) :: st, w) else none
    | some 8 => if catS st ≤ 8 then some (.int (if y < x then y else x) :: st, w) else none
    | _ => none
  | _, _, _ => none
def retOp (j : Nat) : Instr → List Value → Option (Option Value)
  | .ireturn, [.int v] => match rtj j with
    | some .int => some (some (.int v))
    | some .boolean => if v = 0 ∨ v = 1 then some (some (.int v)) else none
    | _ => none
  | .lreturn, [.long v] => match rtj j with
    | some .long => some (some (.long v))
    | _ => none
  | .return_, [] => match rtj j with
    | none => some none
    | _ => none
  | _, _ => none
/-- n steps at most, d calls deep at most: the world behind the method, and its answer -/
def ev : Nat → Nat → Nat → Nat → List Value → List Value → Wd → Option (Wd × Option Value)
  | 0, _, _, _, _, _, _ => none
  | n + 1, d, j, pc, ls, st, w => match insAt j pc with
    | none => none
    | some i => match kdI i with
      | 0 => (pureOp (owc j) i st).bind (fun st' => ev n d j (pc + stdLen i) ls st' w)
      | 1 => (loadOp i ls).bind (fun v => ev n d j (pc + stdLen i) ls (v :: st) w)
      | 2 => (storeOp i ls st).bind (fun q => ev n d j (pc + stdLen i) q.1 q.2 w)
      | 3 => (brOp i pc st).bind (fun q => ev n d j q.1 ls q.2 w)
      | 4 => (heapR (owc j) i st w).bind (fun st' => ev n d j (pc + stdLen i) ls st' w)
      | 5 => (heapW j i st w).bind (fun q => ev n d j (pc + stdLen i) ls q.1 q.2)
      | 6 => match callOp j i st w with
        | some c => match d with
          | 0 => none
          | d' + 1 => if (layA c.2.1).length ≤ mxj c.1 then (ev n d' c.1 0 (entL c.1 c.2.1) [] w).bind (fun r => ev n (d' + 1) j (pc + 3) ls (r.2.toList ++ c.2.2) r.1) else none
        | none => (natOp j i st w).bind (fun q => ev n d j (pc + 3) ls q.1 q.2)
      | _ => (retOp j i st).map (fun v => (w, v))
end
section
/-! THE PURE MACHINE AND THE TRUE ONE: instructions on the stack, the locals, jumps -/
def tr (b : Nat) : Value → Value
  | .ref i => .ref (b + i)
  | v => v
theorem tr_cat (b : Nat) (v : Value) : (tr b v).category = v.category := by cases v <;> rfl
theorem tr_null {b : Nat} {v : Value} (h : v ≠ .null) : tr b v ≠ .null := by cases v <;> simp [tr] at h ⊢
theorem lookup_mem {α β : Type} {f : α → α → Bool} (hf : ∀ x y, f x y = true → x = y) : ∀ (t : List (α × β)) (a : α) (v : β), @List.lookup α β ⟨f⟩ a t = some v → (a, v) ∈ t
  | [], a, v, h => by simp [List.lookup] at h
  | (x, y) :: t, a, v, h => by
    simp only [List.lookup] at h
    split at h
    · rename_i hh
      have := hf _ _ hh
      cases h
      rw [this]
      exact List.mem_cons_self
    · exact List.mem_cons_of_mem _ (lookup_mem hf t a v h)
theorem lk_mem {β : Type} {t : List ((Nat × Nat) × β)} {a : Nat × Nat} {v : β} (h : t.lookup a = some v) : (a, v) ∈ t := lookup_mem (f := fun x y => x == y) (fun x y h => eq_of_beq h) t a v h
section SimA
variable {p : Program} {l : Launch} {e : Env} {R : Room} {s : State} {m : MethodId} {args : Array Value} {below : List Frame} {meth : Method} {c : Code} {H : Heap} {locs : List Loc} {cells slots : Nat} {Q : State → Prop}
variable {cc : ByteArray} {pc ow b : Nat} {A : Array Slot} {i : Instr}
set_option maxHeartbeats 4000000 in
theorem sim_pure {st st' : List Value} (hx : p.tables.exec = Jvm.exec) (hb : c.code = cc) (hown : s.vm.findClass (RC ow) = some m.cls) (hts : ∀ w ∈ tw, w.before args s = true) (h : pureOp ow i st = some st') (hd : decode cc pc = .ok (i, stdLen i))
    (k : W p l e R s m args below meth c H locs cells slots Q (F0 m (pc + stdLen i) A (st'.map (tr b)))) : W p l e R s m args below meth c H locs cells slots Q (F0 m pc A (st.map (tr b))) := by
  unfold pureOp at h
  split at h
  · cases h; exact lv_iconst hx hb hd rfl k
  · cases h; exact lv_bipush hx hb hd rfl k
  · cases h; exact lv_sipush hx hb hd rfl k
  · cases h; exact lv_lconst hx hb hd rfl k
  · obtain ⟨v, hv, rfl⟩ := Option.map_eq_some_iff.mp h
    exact lv_ldcw hx hb hown (hts _ (ktab_in _ (lk_mem hv))) hd k
  · obtain ⟨v, hv, rfl⟩ := Option.map_eq_some_iff.mp h
    exact lv_ldc2 hx hb hown (hts _ (ltab_in _ (lk_mem hv))) hd k
  · cases h; exact lv_iadd hx hb hd k
  · cases h; exact lv_isub hx hb hd k
  · cases h; exact lv_imul hx hb hd k
  · split at h
    · cases h
    · rename_i hne
      cases h; exact lv_idiv hx hb hd hne k
  · split at h
    · cases h
    · rename_i hne
      cases h; exact lv_irem hx hb hd hne k
  · cases h; exact lv_iand hx hb hd k
  · cases h; exact lv_ior hx hb hd k
  · cases h; exact lv_ixor hx hb hd k
  · cases h; exact lv_ishl hx hb hd k
  · cases h; exact lv_ishr hx hb hd k
  · cases h; exact lv_iushr hx hb hd rfl k
  · cases h; exact lv_ladd hx hb hd k
  · cases h; exact lv_lmul hx hb hd k
  · split at h
    · cases h
    · rename_i hne
      cases h; exact lv_lrem hx hb hd hne k
  · cases h; exact lv_lushr hx hb hd rfl k
  · cases h; exact lv_i2l hx hb hd rfl k
  · cases h; exact lv_l2i hx hb hd rfl k
  · cases h; exact W.lcmp hx hb hd k
  · split at h
    · rename_i hc
      cases h; exact lv_dup hx hb hd ((tr_cat b _).trans hc) k
    · cases h
  · split at h
    · rename_i hc
      cases h; exact lv_dup2_11 hx hb hd ((tr_cat b _).trans hc.1) ((tr_cat b _).trans hc.2) k
    · cases h
  · split at h
    · rename_i hc
      cases h; exact lv_pop hx hb hd ((tr_cat b _).trans hc) k
    · cases h
  · cases h
/-- the locals: as the pure machine has them, where it has any -/
def lrl (b : Nat) (ls : List Value) (A : Array Slot) : Prop := A.size = ls.length ∧ lv_wf A ∧ ∀ (i : Nat) (v : Value), ls[i]? = some v → v ≠ .null → A[i]? = some (.val (tr b v))
theorem wI_spec {o : Option Value} {v : Value} (h : wI o = some v) : ∃ x, o = some (.int x) ∧ v = .int x := by
  unfold wI at h
  split at h
  · rename_i x; cases h; exact ⟨x, rfl, rfl⟩
  · cases h
theorem wL_spec {o : Option Value} {v : Value} (h : wL o = some v) : ∃ x, o = some (.long x) ∧ v = .long x := by
  unfold wL at h
  split at h
  · rename_i x; cases h; exact ⟨x, rfl, rfl⟩
  · cases h
theorem wR_spec {o : Option Value} {v : Value} (h : wR o = some v) : ∃ x, o = some (.ref x) ∧ v = .ref x := by
  unfold wR at h
  split at h
  · rename_i x; cases h; exact ⟨x, rfl, rfl⟩
  · cases h
set_option maxHeartbeats 4000000 in
theorem sim_load {ls st : List Value} {v : Value} (hx : p.tables.exec = Jvm.exec) (hb : c.code = cc) (hl : lrl b ls A) (h : loadOp i ls = some v) (hd : decode cc pc = .ok (i, stdLen i))
    (k : W p l e R s m args below meth c H locs cells slots Q (F0 m (pc + stdLen i) A ((v :: st).map (tr b)))) : W p l e R s m args below meth c H locs cells slots Q (F0 m pc A (st.map (tr b))) := by
  unfold loadOp at h
  split at h
  · obtain ⟨x, h1, rfl⟩ := wI_spec h
    exact lv_iload_n hx hb hd rfl (hl.2.2 _ _ h1 (by simp)) k
  · obtain ⟨x, h1, rfl⟩ := wI_spec h
    exact lv_iload hx hb hd (hl.2.2 _ _ h1 (by simp)) k
  · obtain ⟨x, h1, rfl⟩ := wL_spec h
    exact lv_lload_n hx hb hd rfl (hl.2.2 _ _ h1 (by simp)) k
  · obtain ⟨x, h1, rfl⟩ := wL_spec h
    exact lv_lload hx hb hd (hl.2.2 _ _ h1 (by simp)) k
  · obtain ⟨x, h1, rfl⟩ := wR_spec h
    exact lv_aload_n hx hb hd rfl (hl.2.2 _ _ h1 (by simp)) k
  · obtain ⟨x, h1, rfl⟩ := wR_spec h
    exact lv_aload hx hb hd (hl.2.2 _ _ h1 (by simp)) k
  · cases h
def lvO (b : Nat) (ls : List Value) : List (Nat × Value) := ((List.range ls.length).map (fun k => (k, ls.getD k .null))).filterMap (fun q => if q.2 = .null then none else some (q.1, tr b q.2))
theorem lvO_mem {ls : List Value} {k : Nat} {v : Value} (h : ls[k]? = some v) (hv : v ≠ .null) : (k, tr b v) ∈ lvO b ls := by
  have hk : k < ls.length := (List.getElem?_eq_some_iff.mp h).1
  refine List.mem_filterMap.mpr ⟨(k, v), List.mem_map.mpr ⟨k, List.mem_range.mpr hk, ?_⟩, by simp [hv]⟩
  simp [List.getD_eq_getElem?_getD, h]
theorem lvO_has {ls : List Value} (hl : lrl b ls A) : lv_has A ls.length (lvO b ls) := by
  refine ⟨hl.1, hl.2.1, fun q hq => ?_⟩
  obtain ⟨r, hr, h2⟩ := List.mem_filterMap.mp hq
  obtain ⟨k, hk, rfl⟩ := List.mem_map.mp hr
  have hk' := List.mem_range.mp hk
  by_cases hn : ls.getD k .null = .null
  · dsimp only at h2
    rw [if_pos hn] at h2
    cases h2
  · dsimp only at h2
    rw [if_neg hn] at h2
    cases h2
    refine hl.2.2 k _ ?_ hn
    simp [List.getD_eq_getElem?_getD, hk']
theorem lrl_of1 {ls : List Value} {k : Nat} {v : Value} {A' : Array Slot} (hk : k < ls.length) (hn : noL ls k = true) (h : lv_has A' ls.length ((k, tr b v) :: (lvO b ls).filter (fun q => !(q.1 == k) && !(q.1 + 1 == k && q.2.category == 2)))) : lrl b (ls.set k v) A' := by
  refine ⟨by rw [List.length_set]; exact h.1, h.2.1, fun q u hq hu => ?_⟩
  by_cases e : q = k
  · subst e
    rw [List.getElem?_set_self hk] at hq
    cases hq
    exact h.2.2 _ List.mem_cons_self
  · rw [List.getElem?_set_ne (Ne.symm e)] at hq
    refine h.2.2 (q, tr b u) (List.mem_cons_of_mem _ (List.mem_filter.mpr ⟨lvO_mem hq hu, ?_⟩))
    have h1 : (q == k) = false := by simpa using e
    simp only [h1, Bool.not_false, Bool.true_and, Bool.not_eq_true', Bool.and_eq_false_iff]
    by_cases e2 : q + 1 = k
    · subst e2
      simp only [noL, hq] at hn
      right
      rw [tr_cat]
      have := eq_of_beq hn
      rw [this]
      rfl
    · left
      simpa using e2
theorem lrl_of2 {ls : List Value} {k : Nat} {v : Value} {A' : Array Slot} (hk : k + 1 < ls.length) (hn : noL ls k = true) (h : lv_has A' ls.length ((k, tr b v) :: (lvO b ls).filter (fun q => !(q.1 == k) && (!(q.1 == k + 1) && !(q.1 + 1 == k && q.2.category == 2))))) : lrl b ((ls.set k v).set (k + 1) .null) A' := by
  refine ⟨by rw [List.length_set, List.length_set]; exact h.1, h.2.1, fun q u hq hu => ?_⟩
  by_cases e3 : q = k + 1
  · subst e3
    rw [List.getElem?_set_self (by rw [List.length_set]; exact hk)] at hq
    cases hq
    exact absurd rfl hu
  · rw [List.getElem?_set_ne (Ne.symm e3)] at hq
    by_cases e : q = k
    · subst e
      rw [List.getElem?_set_self (by omega)] at hq
      cases hq
      exact h.2.2 _ List.mem_cons_self
    · rw [List.getElem?_set_ne (Ne.symm e)] at hq
      refine h.2.2 (q, tr b u) (List.mem_cons_of_mem _ (List.mem_filter.mpr ⟨lvO_mem hq hu, ?_⟩))
      have h1 : (q == k) = false := by simpa using e
      have h2 : (q == k + 1) = false := by simpa using e3
      simp only [h1, h2, Bool.not_false, Bool.true_and, Bool.not_eq_true', Bool.and_eq_false_iff]
      by_cases e2 : q + 1 = k
      · subst e2
        simp only [noL, hq] at hn
        right
        rw [tr_cat]
        have := eq_of_beq hn
        rw [this]
        rfl
      · left
        simpa using e2
theorem st1_spec {ls ls' : List Value} {k : Nat} {v : Value} (h : st1 ls k v = some ls') : k < ls.length ∧ noL ls k = true ∧ ls' = ls.set k v := by
  unfold st1 at h
  split at h
  · rename_i hc
    cases h
    exact ⟨hc.1, hc.2, rfl⟩
  · cases h
theorem st2_spec {ls ls' : List Value} {k : Nat} {v : Value} (h : st2 ls k v = some ls') : k + 1 < ls.length ∧ noL ls k = true ∧ ls' = (ls.set k v).set (k + 1) .null := by
  unfold st2 at h
  split at h
  · rename_i hc
    cases h
    exact ⟨hc.1, hc.2, rfl⟩
  · cases h
set_option maxHeartbeats 4000000 in
theorem sim_store {ls st : List Value} {q : List Value × List Value} (hx : p.tables.exec = Jvm.exec) (hb : c.code = cc) (hl : lrl b ls A) (h : storeOp i ls st = some q) (hd : decode cc pc = .ok (i, stdLen i))
    (k : ∀ A' : Array Slot, lrl b q.1 A' → W p l e R s m args below meth c H locs cells slots Q (F0 m (pc + stdLen i) A' (q.2.map (tr b)))) : W p l e R s m args below meth c H locs cells slots Q (F0 m pc A (st.map (tr b))) := by
  unfold storeOp at h
  split at h
  · obtain ⟨l1, h1, rfl⟩ := Option.map_eq_some_iff.mp h
    obtain ⟨g1, g2, rfl⟩ := st1_spec h1
    exact lv_istore_n hx hb hd rfl (lvO_has hl) g1 rfl (fun A' h' => k A' (lrl_of1 g1 g2 h'))
  · obtain ⟨l1, h1, rfl⟩ := Option.map_eq_some_iff.mp h
    obtain ⟨g1, g2, rfl⟩ := st1_spec h1
    exact lv_istore hx hb hd (lvO_has hl) g1 rfl (fun A' h' => k A' (lrl_of1 g1 g2 h'))
  · obtain ⟨l1, h1, rfl⟩ := Option.map_eq_some_iff.mp h
    obtain ⟨g1, g2, rfl⟩ := st1_spec h1
    exact lv_astore_n hx hb hd rfl (lvO_has hl) g1 rfl (fun A' h' => k A' (lrl_of1 g1 g2 h'))
  · obtain ⟨l1, h1, rfl⟩ := Option.map_eq_some_iff.mp h
    obtain ⟨g1, g2, rfl⟩ := st1_spec h1
    exact lv_astore hx hb hd (lvO_has hl) g1 rfl (fun A' h' => k A' (lrl_of1 g1 g2 h'))
  · obtain ⟨l1, h1, rfl⟩ := Option.map_eq_some_iff.mp h
    obtain ⟨g1, g2, rfl⟩ := st2_spec h1
    exact lv_lstore_n hx hb hd rfl (lvO_has hl) g1 rfl (fun A' h' => k A' (lrl_of2 g1 g2 h'))
  · obtain ⟨l1, h1, rfl⟩ := Option.map_eq_some_iff.mp h
    obtain ⟨g1, g2, rfl⟩ := st2_spec h1
    exact lv_lstore hx hb hd (lvO_has hl) g1 rfl (fun A' h' => k A' (lrl_of2 g1 g2 h'))
  · split at h
    · rename_i x hx2
      obtain ⟨l1, h1, rfl⟩ := Option.map_eq_some_iff.mp h
      obtain ⟨g1, g2, rfl⟩ := st1_spec h1
      obtain ⟨kk, hkk⟩ := List.getElem?_of_mem (lvO_mem (b := b) hx2 (by simp))
      exact lv_iinc hx hb hd (lvO_has hl) hkk rfl g1 rfl (fun A' h' => k A' (lrl_of1 g1 g2 h'))
    · cases h
  · cases h
theorem tgt_spec {off : Int} {t : Nat} (h : tgt pc off = some t) : (pc : Int) + off = (t : Int) := by
  unfold tgt at h
  split at h
  · cases h
    omega
  · cases h
set_option maxHeartbeats 4000000 in
theorem sim_br {st : List Value} {q : Nat × List Value} {len : Nat} (hx : p.tables.exec = Jvm.exec) (hb : c.code = cc) (h : brOp i pc st = some q) (hd : decode cc pc = .ok (i, len)) (hlen : isSw i = true ∨ len = stdLen i)
    (k : W p l e R s m args below meth c H locs cells slots Q (F0 m q.1 A (q.2.map (tr b)))) : W p l e R s m args below meth c H locs cells slots Q (F0 m pc A (st.map (tr b))) := by
  unfold brOp at h
  split at h
  · obtain ⟨t, h1, rfl⟩ := Option.map_eq_some_iff.mp h
    have hlen := hlen.resolve_left (by simp [isSw]); subst hlen
    exact lv_goto hx hb hd (tgt_spec h1) k
  · rename_i cd off x st
    obtain ⟨t, h1, rfl⟩ := Option.map_eq_some_iff.mp h
    have hlen := hlen.resolve_left (by simp [isSw]); subst hlen
    have ht := tgt_spec h1
    cases cd
    · refine lv_if_eq hx hb hd ht (fun hc => ?_) (fun hc => ?_) <;> simpa [cnd, hc] using k
    · refine lv_if_ne hx hb hd ht (fun hc => ?_) (fun hc => ?_) <;> simpa [cnd, hc] using k
    · refine lv_if_lt hx hb hd ht (fun hc => ?_) (fun hc => ?_) <;> simpa only [cnd, hc, decide_true, decide_false, if_true, if_false, Bool.false_eq_true] using k
    · refine lv_if_ge hx hb hd ht (fun hc => ?_) (fun hc => ?_) <;> simpa only [cnd, hc, decide_true, decide_false, if_true, if_false, Bool.false_eq_true] using k
    · refine lv_if_gt hx hb hd ht (fun hc => ?_) (fun hc => ?_) <;> simpa only [cnd, hc, decide_true, decide_false, if_true, if_false, Bool.false_eq_true] using k
    · refine lv_if_le hx hb hd ht (fun hc => ?_) (fun hc => ?_) <;> simpa only [cnd, hc, decide_true, decide_false, if_true, if_false, Bool.false_eq_true] using k
  · rename_i cd off y x st
    obtain ⟨t, h1, rfl⟩ := Option.map_eq_some_iff.mp h
    have hlen := hlen.resolve_left (by simp [isSw]); subst hlen
    have ht := tgt_spec h1
    cases cd
    · refine lv_icmp_eq hx hb hd ht (fun hc => ?_) (fun hc => ?_) <;> simpa [cnd, hc] using k
    · refine lv_icmp_ne hx hb hd ht (fun hc => ?_) (fun hc => ?_) <;> simpa [cnd, hc] using k
    · refine lv_icmp_lt hx hb hd ht (fun hc => ?_) (fun hc => ?_) <;> simpa only [cnd, hc, decide_true, decide_false, if_true, if_false, Bool.false_eq_true] using k
    · refine lv_icmp_ge hx hb hd ht (fun hc => ?_) (fun hc => ?_) <;> simpa only [cnd, hc, decide_true, decide_false, if_true, if_false, Bool.false_eq_true] using k
    · refine lv_icmp_gt hx hb hd ht (fun hc => ?_) (fun hc => ?_) <;> simpa only [cnd, hc, decide_true, decide_false, if_true, if_false, Bool.false_eq_true] using k
    · refine lv_icmp_le hx hb hd ht (fun hc => ?_) (fun hc => ?_) <;> simpa only [cnd, hc, decide_true, decide_false, if_true, if_false, Bool.false_eq_true] using k
  · split at h
    · rename_i hc
      obtain ⟨t, h1, rfl⟩ := Option.map_eq_some_iff.mp h
      exact lv_tableOut hx hb hd hc (tgt_spec h1) k
    · rename_i hc
      obtain ⟨off, h0, h2⟩ := Option.bind_eq_some_iff.mp h
      obtain ⟨t, h1, rfl⟩ := Option.map_eq_some_iff.mp h2
      exact lv_tableIn hx hb hd (fun z => hc (Or.inl z)) (fun z => hc (Or.inr z)) h0 (tgt_spec h1) k
  · split at h
    · rename_i hc
      obtain ⟨t, h1, rfl⟩ := Option.map_eq_some_iff.mp h
      exact lv_lookup hx hb hd hc rfl (tgt_spec h1) k
    · cases h
  · cases h
end SimA
end
section
/-! THE WORLD of the pure machine in the true heap: cell i lies at the address b + i -/
abbrev CS : Type := ClassId × ClassId × ClassId × ClassId
def asI : Value → Int32
  | .int x => x
  | _ => 0
def asR (b : Nat) : Value → Option Nat
  | .ref i => some (b + i)
  | _ => none
def trE (b : Nat) (cs : CS) (q : Nat × List Value) : va_E :=
  if q.1 = 100 then .inl (cs.1, q.2.length, .inl (fun k => asI (q.2.getD k .null)))
  else if q.1 = 101 then .inl (cs.2.1, q.2.length, .inl (fun k => asI (q.2.getD k .null)))
  else if q.1 = 102 then .inl (cs.2.2.1, q.2.length, .inr (.inr (.inr (.inr (fun k => asR b (q.2.getD k .null))))))
  else if q.1 = 103 then .inl (cs.2.2.2, q.2.length, .inr (.inr (.inr (.inr (fun k => asR b (q.2.getD k .null))))))
  else .inr (q.1, q.2.map (tr b))
def trW (b : Nat) (cs : CS) (w : Wd) : va_W := w.mapIdx (fun i q => (b + i, trE b cs q))
def tysC (cs : CS) : List (ClassId × FieldType) := [(cs.1, .int), (cs.2.1, .boolean), (cs.2.2.1, .object "SupperTales$Scroll"), (cs.2.2.2, .object "SupperTales$Telling")]
def nwl : List Cond := ftabN.map fwdN ++ (ctab.filter isN).map cwdN
theorem trW_get {b : Nat} {cs : CS} {w : Wd} {i : Nat} {q : Nat × List Value} (h : w[i]? = some q) : (trW b cs w)[i]? = some (b + i, trE b cs q) := by
  simp [trW, List.getElem?_mapIdx, h]
theorem trW_inv {b : Nat} {cs : CS} {w : Wd} {i : Nat} {x : Nat × va_E} (h : (trW b cs w)[i]? = some x) : ∃ q, w[i]? = some q ∧ x = (b + i, trE b cs q) := by
  simp only [trW, List.getElem?_mapIdx, Option.map_eq_some_iff] at h
  obtain ⟨q, h1, h2⟩ := h
  exact ⟨q, h1, h2.symm⟩
theorem trW_set {b : Nat} {cs : CS} {w : Wd} {i : Nat} (q : Nat × List Value) : (trW b cs w).set i (b + i, trE b cs q) = trW b cs (w.set i q) := by
  apply List.ext_getElem?
  intro k
  simp only [trW, List.getElem?_set, List.getElem?_mapIdx, List.length_mapIdx]
  by_cases h : i = k
  · subst h
    by_cases h2 : i < w.length
    · simp [h2]
    · simp [h2]
  · simp [h]
theorem trW_push {b : Nat} {cs : CS} {w : Wd} (q : Nat × List Value) : trW b cs w ++ [(b + w.length, trE b cs q)] = trW b cs (w ++ [q]) := by
  simp [trW, List.mapIdx_append]
theorem trW_len {b : Nat} {cs : CS} {w : Wd} : (trW b cs w).length = w.length := by simp [trW]
theorem trW_D {b : Nat} {cs : CS} {w : Wd} : va_D (fun q => b ≤ q) (trW b cs w) := by
  refine ⟨fun i j x y hi hj hxy => ?_, fun k q hk => ?_⟩
  · obtain ⟨_, -, rfl⟩ := trW_inv hi
    obtain ⟨_, -, rfl⟩ := trW_inv hj
    have : b + i = b + j := hxy
    omega
  · obtain ⟨_, -, rfl⟩ := trW_inv hk
    exact Nat.le_add_right b k
theorem trE_o {b : Nat} {cs : CS} {q : Nat × List Value} (h : q.1 < 9) : trE b cs q = .inr (q.1, q.2.map (tr b)) := by
  unfold trE
  rw [if_neg (by omega), if_neg (by omega), if_neg (by omega), if_neg (by omega)]
theorem vw_lt {ci : Nat} {r : vw_C} (h : vwCl[ci]? = some r) : ci < 9 := (List.getElem?_eq_some_iff.mp h).1
theorem nf_some {ci k : Nat} (h : k < nfC ci) : ∃ r, vwCl[ci]? = some r ∧ nfC ci = r.2.2 := by
  unfold nfC at h ⊢
  cases hq : vwCl[ci]? with
  | none => rw [hq] at h; exact absurd h (Nat.not_lt_zero _)
  | some q => exact ⟨q, rfl, rfl⟩
theorem cls_ok : ∀ (ci : Nat) (r : vw_C), vwCl[ci]? = some r → r.1 = RC ci ∧ (∀ k, k < r.2.2 → parseFieldDescriptor (r.2.1 k).2.2.1 = some (tyC ci k)) ∧ (∀ a, a < r.2.2 → ∀ b, b < r.2.2 → a ≠ b → (r.2.1 a).2.1 ≠ (r.2.1 b).2.1) := by
  intro ci r h
  have hl := vw_lt h
  match ci, hl with
  | 0, _ => cases h; exact ⟨rfl, tyX0_ok, nmX0⟩
  | 1, _ => cases h; exact ⟨rfl, tyX1_ok, nmX1⟩
  | 2, _ => cases h; exact ⟨rfl, tyX2_ok, nmX2⟩
  | 3, _ => cases h; exact ⟨rfl, tyX3_ok, nmX3⟩
  | 4, _ => cases h; exact ⟨rfl, tyX4_ok, nmX4⟩
  | 5, _ => cases h; exact ⟨rfl, tyX5_ok, nmX5⟩
  | 6, _ => cases h; exact ⟨rfl, tyX6_ok, nmX6⟩
  | 7, _ => cases h; exact ⟨rfl, tyX7_ok, nmX7⟩
  | 8, _ => cases h; exact ⟨rfl, tyX8_ok, nmX8⟩
theorem decl_ok : ∀ (ci : Nat) (r : vw_C), vwCl[ci]? = some r → ∀ k, k < r.2.2 → (r.2.1 k).1 = RC ci := by
  intro ci r h
  have hl := vw_lt h
  match ci, hl with
  | 0, _ => cases h; decide +kernel
  | 1, _ => cases h; decide +kernel
  | 2, _ => cases h; decide +kernel
  | 3, _ => cases h; decide +kernel
  | 4, _ => cases h; decide +kernel
  | 5, _ => cases h; decide +kernel
  | 6, _ => cases h; decide +kernel
  | 7, _ => cases h; decide +kernel
  | 8, _ => cases h; decide +kernel
/-- what a walk has beside the heap: the machine, the words, the classes -/
def Cx (p : Program) (m : MethodId) (c : Code) (s : State) (args : Array Value) (cc : ByteArray) (nL : Nat) (own : String) (D : va_G) (cs : CS) : Prop :=
  CallFix p m c cc nL s args tw own ∧ (∀ w ∈ nwl, va_Nw w s) ∧ (va_AO "SupperTales$Scroll" s ∧ va_AO "SupperTales$Telling" s) ∧ va_K D vwCl (tysC cs) s
section SimB
variable {p : Program} {l : Launch} {e : Env} {R : Room} {s : State} {m : MethodId} {args : Array Value} {below : List Frame} {meth : Method} {c : Code} {H : Heap} {locs : List Loc} {cells slots : Nat} {Q : State → Prop}
variable {cc : ByteArray} {pc ow b nL : Nat} {A : Array Slot} {i : Instr} {D : va_G} {cs : CS} {w : Wd}
theorem W_sz {g : JFrame} (h : H.size ≤ s.heap.size + cells → W p l e R s m args below meth c H locs cells slots Q g) : W p l e R s m args below meth c H locs cells slots Q g := by
  intro T hT X
  refine h ?_ T hT X
  have h1 := X.same.2.2.1
  rw [← hT]
  exact h1
theorem P_sz (hP : va_P D vwCl (trW b cs w) H) (hb : b ≤ H.size) : b + w.length ≤ H.size := by
  by_cases h : w.length = 0
  · omega
  · have hk : w.length - 1 < w.length := by omega
    have h1 := (hP (w.length - 1) _ (trW_get (List.getElem?_eq_getElem hk))).lt
    have h2 : b + (w.length - 1) < H.size := h1
    omega
theorem fld_mem {f : Nat × Nat} {idx : Nat} (h : fldT ow idx = some f) : ((ow, idx), f) ∈ ftab ∨ ((ow, idx), f) ∈ ftabN := List.mem_append.mp (lk_mem h)
set_option maxHeartbeats 4000000 in
theorem sim_get {idx ad : Nat} {f : Nat × Nat} {q : Nat × List Value} {v : Value} {rest : List Value} (C : Cx p m c s args cc nL (RC ow) D cs) (hP : va_P D vwCl (trW b cs w) H) (hf : fldT ow idx = some f) (hq : w[ad]? = some q) (h1 : q.1 = f.1) (h2 : f.2 < nfC f.1) (hv : q.2[f.2]? = some v) (hd : decode cc pc = .ok (.getfield idx, 3))
    (k : W p l e R s m args below meth c H locs cells slots Q (F0 m (pc + 3) A (tr b v :: rest))) : W p l e R s m args below meth c H locs cells slots Q (F0 m pc A (.ref (b + ad) :: rest)) := by
  obtain ⟨⟨hx, hb, hml, hown, hts⟩, hN, hAO, hK⟩ := C
  obtain ⟨r, hr, hn⟩ := nf_some h2
  have hl := vw_lt hr
  have he : (trW b cs w)[ad]? = some (b + ad, .inr (f.1, q.2.map (tr b))) := by rw [trW_get hq, trE_o (by omega), h1]
  have hv' : (q.2.map (tr b))[f.2]? = some (tr b v) := by rw [List.getElem?_map, hv]; rfl
  have hin : ∀ w ∈ u_ws r.1 r.2.1 r.2.2, w ∈ tw := utab_in r (List.mem_of_getElem? hr)
  rcases fld_mem hf with hm | hm
  · have hw := ftab_in _ hm
    simp only [fwd, hr] at hw
    exact va_get hx hb hts hin hown hK hP ad he hr f.2 (hn ▸ h2) (hts _ hw) (fun _ h => h) hv' hd k
  · have hw := hN (fwdN ((ow, idx), f)) (List.mem_append_left _ (List.mem_map_of_mem hm))
    simp only [fwdN, hr] at hw
    exact va_getN hx hb hts hin hown hK hP ad he hr f.2 (hn ▸ h2) (va_Nw.use rfl hw) (fun _ h => h) hv' hd k
theorem getD_of {vs : List Value} {k : Nat} {v : Value} (h : vs[k]? = some v) : vs.getD k .null = v := by simp [List.getD_eq_getElem?_getD, h]
theorem lt_of {α : Type} {vs : List α} {k : Nat} {v : α} (h : vs[k]? = some v) : k < vs.length := (List.getElem?_eq_some_iff.mp h).1
theorem vin_of {x : Int32} {n : Nat} (h0 : ¬ x < 0) (h : x.toNatClampNeg < n) : vp_in x n := fun z => z.elim h0 (fun z => by omega)
theorem elA_spec {t ad : Nat} {x : Int32} {v : Value} (h : elA w t ad x = some v) : ∃ q, w[ad]? = some q ∧ q.1 = t ∧ ¬ x < 0 ∧ q.2[x.toNatClampNeg]? = some v := by
  unfold elA at h
  split at h
  · rename_i q hq
    split at h
    · rename_i hc
      exact ⟨q, hq, hc.1, hc.2, h⟩
    · cases h
  · cases h
set_option maxHeartbeats 4000000 in
theorem sim_hr {st st' : List Value} (C : Cx p m c s args cc nL (RC ow) D cs) (hP : va_P D vwCl (trW b cs w) H) (h : heapR ow i st w = some st') (hd : decode cc pc = .ok (i, stdLen i))
    (k : W p l e R s m args below meth c H locs cells slots Q (F0 m (pc + stdLen i) A (st'.map (tr b)))) : W p l e R s m args below meth c H locs cells slots Q (F0 m pc A (st.map (tr b))) := by
  unfold heapR at h
  split at h
  · obtain ⟨f, hf, h1⟩ := Option.bind_eq_some_iff.mp h
    obtain ⟨v, h2, rfl⟩ := Option.map_eq_some_iff.mp h1
    unfold gfR at h2
    split at h2
    · rename_i q hq
      split at h2
      · rename_i hc
        exact sim_get C hP hf hq hc.1 hc.2 h2 hd k
      · cases h2
    · cases h2
  · obtain ⟨v, h2, rfl⟩ := Option.map_eq_some_iff.mp h
    obtain ⟨y, h3, rfl⟩ := wI_spec h2
    obtain ⟨q, hq, ht, h0, hv⟩ := elA_spec h3
    obtain ⟨⟨hx, hb, hml, hown, hts⟩, hN, hAO, hK⟩ := C
    have he := trW_get (b := b) (cs := cs) hq
    unfold trE at he
    rw [if_pos ht] at he
    refine va_iald hx hb hK hP _ 0 he rfl (vin_of h0 (lt_of hv)) hd ?_
    rw [getD_of hv]
    exact k
  · obtain ⟨v, h2, rfl⟩ := Option.map_eq_some_iff.mp h
    obtain ⟨y, h3, rfl⟩ := wI_spec h2
    obtain ⟨q, hq, ht, h0, hv⟩ := elA_spec h3
    obtain ⟨⟨hx, hb, hml, hown, hts⟩, hN, hAO, hK⟩ := C
    have he := trW_get (b := b) (cs := cs) hq
    unfold trE at he
    rw [if_neg (by omega), if_pos ht] at he
    refine va_zald hx hb hK hP _ 1 he rfl (vin_of h0 (lt_of hv)) hd ?_
    rw [getD_of hv]
    exact k
  · obtain ⟨v, h2, rfl⟩ := Option.map_eq_some_iff.mp h
    unfold aaR at h2
    split at h2
    · rename_i q hq
      split at h2
      · rename_i hc
        obtain ⟨y, hv, rfl⟩ := wR_spec h2
        obtain ⟨⟨hx, hb, hml, hown, hts⟩, hN, hAO, hK⟩ := C
        have he := trW_get (b := b) (cs := cs) hq
        unfold trE at he
        rcases hc.1 with ht | ht
        · rw [if_neg (by omega), if_neg (by omega), if_pos ht] at he
          refine va_aldq hx hb hK hP _ 2 he rfl (vin_of hc.2 (lt_of hv)) hd ?_
          rw [getD_of hv]
          exact k
        · rw [if_neg (by omega), if_neg (by omega), if_neg (by omega), if_pos ht] at he
          refine va_aldq hx hb hK hP _ 3 he rfl (vin_of hc.2 (lt_of hv)) hd ?_
          rw [getD_of hv]
          exact k
      · cases h2
    · cases h2
  · obtain ⟨v, h2, rfl⟩ := Option.map_eq_some_iff.mp h
    unfold alR at h2
    split at h2
    · rename_i q hq
      split at h2
      · rename_i hc
        cases h2
        obtain ⟨⟨hx, hb, hml, hown, hts⟩, hN, hAO, hK⟩ := C
        have he := trW_get (b := b) (cs := cs) hq
        unfold trE at he
        rcases (by omega : q.1 = 100 ∨ q.1 = 101 ∨ q.1 = 102 ∨ q.1 = 103) with ht | ht | ht | ht
        · rw [if_pos ht] at he
          exact va_alen hx hb hK hP _ 0 he rfl rfl hd k
        · rw [if_neg (by omega), if_pos ht] at he
          exact va_alen hx hb hK hP _ 1 he rfl rfl hd k
        · rw [if_neg (by omega), if_neg (by omega), if_pos ht] at he
          exact va_alen hx hb hK hP _ 2 he rfl rfl hd k
        · rw [if_neg (by omega), if_neg (by omega), if_neg (by omega), if_pos ht] at he
          exact va_alen hx hb hK hP _ 3 he rfl rfl hd k
      · cases h2
    · cases h2
  · cases h
end SimB
end
section
/-! THE HEAP WRITTEN -/
def wsz (w : Wd) : Nat := (w.map (fun q => q.2.length)).sum
theorem wsz_push (w : Wd) (q : Nat × List Value) : wsz (w ++ [q]) = wsz w + q.2.length := by simp [wsz]
theorem wsz_set : ∀ (w : Wd) (i : Nat) (q q' : Nat × List Value), w[i]? = some q → q'.2.length = q.2.length → wsz (w.set i q') = wsz w
  | [], i, q, q', h, _ => by simp at h
  | a :: w, 0, q, q', h, hl => by
    simp at h
    subst h
    simp [wsz, hl]
  | a :: w, i + 1, q, q', h, hl => by
    have := wsz_set w i q q' (by simpa using h) hl
    simp only [wsz, List.set_cons_succ, List.map_cons, List.sum_cons] at this ⊢
    omega
theorem catS_tr {b : Nat} (st : List Value) : ((st.map (tr b)).map (fun v => v.category)).sum = catS st := by
  unfold catS
  rw [List.map_map]
  congr 1
  apply List.map_congr_left
  intro v _
  exact tr_cat b v
theorem okT_spec {b : Nat} {ty : FieldType} {v : Value} (h : okT ty v = true) : narrow ty (tr b v) = tr b v ∧ fits ty (tr b v) = true := by
  unfold okT at h
  split at h
  · exact ⟨rfl, rfl⟩
  · rename_i x
    simp only [Bool.or_eq_true, beq_iff_eq] at h
    rcases h with rfl | rfl <;> exact ⟨rfl, rfl⟩
  · exact ⟨rfl, rfl⟩
  · exact ⟨rfl, rfl⟩
  · exact ⟨rfl, rfl⟩
  · cases h
theorem int32_2000 {n : Int32} (h0 : ¬ n < 0) (h : ¬ 2000 < n) : n.toNatClampNeg ≤ 2000 := by
  have h1 : n.toInt ≤ 2000 := by
    have := Int32.not_lt.mp h
    simpa using Int32.le_iff_toInt_le.mp this
  show n.toInt.toNat ≤ 2000
  omega
section SimC
variable {p : Program} {l : Launch} {e : Env} {R : Room} {s : State} {m : MethodId} {args : Array Value} {below : List Frame} {meth : Method} {c : Code} {H : Heap} {locs : List Loc} {cells slots : Nat} {Q : State → Prop}
variable {cc : ByteArray} {pc ow b nL j : Nat} {A : Array Slot} {i : Instr} {D : va_G} {cs : CS} {w : Wd}
theorem trE_arr {t : Nat} {vs : List Value} {k : Nat} {x : Int32} (hk : k < vs.length) : (fun z => asI ((vs.set k (.int x)).getD z .null)) = upd (fun z => asI (vs.getD z .null)) k x := by
  funext z
  by_cases h : z = k
  · subst h
    simp [upd, List.getD_eq_getElem?_getD, hk, asI]
  · simp [upd, h, List.getD_eq_getElem?_getD, List.getElem?_set, Ne.symm h]
theorem trE_arq {vs : List Value} {k r : Nat} (hk : k < vs.length) : (fun z => asR b ((vs.set k (.ref r)).getD z .null)) = va_up (fun z => asR b (vs.getD z .null)) k (some (b + r)) := by
  funext z
  by_cases h : z = k
  · subst h
    simp [va_up, List.getD_eq_getElem?_getD, hk, asR]
  · simp [va_up, h, List.getD_eq_getElem?_getD, List.getElem?_set, Ne.symm h]
theorem new_addr {q : Nat} {E : va_E} {H1 : Heap} (hP : va_P D vwCl (trW b cs w ++ [(q, E)]) H1) (hD : va_D (fun q => b ≤ q) (trW b cs w ++ [(q, E)])) (hz : H1.size ≤ b + w.length + 1) : q = b + w.length := by
  have hl : (trW b cs w ++ [(q, E)])[w.length]? = some (q, E) := by
    rw [List.getElem?_append_right (by rw [trW_len]; omega), trW_len, Nat.sub_self]
    rfl
  have h1 : b ≤ q := hD.2 _ _ hl
  have h2 : q < H1.size := (hP _ _ hl).lt
  by_cases h : q = b + w.length
  · exact h
  · exfalso
    have hk : q - b < w.length := by omega
    have hg : (trW b cs w ++ [(q, E)])[q - b]? = some (b + (q - b), trE b cs w[q - b]) := by
      rw [List.getElem?_append_left (by rw [trW_len]; exact hk)]
      exact trW_get (List.getElem?_eq_getElem hk)
    have := hD.1 (q - b) w.length _ _ hg hl (by show b + (q - b) = q; omega)
    omega
theorem asW_spec {t ad : Nat} {x : Int32} {v : Value} {w' : Wd} (h : asW w t ad x v = some w') : ∃ q, w[ad]? = some q ∧ q.1 = t ∧ ¬ x < 0 ∧ x.toNatClampNeg < q.2.length ∧ w' = w.set ad (q.1, q.2.set x.toNatClampNeg v) := by
  unfold asW at h
  split at h
  · rename_i q hq
    split at h
    · rename_i hc
      cases h
      exact ⟨q, hq, hc.1, hc.2.1, hc.2.2, rfl⟩
    · cases h
  · cases h
theorem cell_same {w' : Wd} {ad : Nat} {q q' : Nat × List Value} (hq : w[ad]? = some q) (hl : q'.2.length = q.2.length) (hw : w' = w.set ad q') : w'.length = w.length ∧ wsz w' = wsz w := by
  subst hw
  exact ⟨List.length_set, wsz_set w ad q q' hq hl⟩
set_option maxHeartbeats 4000000 in
theorem sim_hw {st : List Value} {q : List Value × Wd} (C : Cx p m c s args cc nL (RC (owc j)) D cs) (hnm : meth.name = (yj j).name) (hP : va_P D vwCl (trW b cs w) H) (hS : va_S (fun q => b ≤ q) s.heap H locs) (hbs : b ≤ s.heap.size) (hsz : s.heap.size + cells = b + w.length) (h : heapW j i st w = some q) (hd : decode cc pc = .ok (i, stdLen i))
    (hc : cells + (q.2.length - w.length) ≤ R.cells) (hsl : slots + (wsz q.2 - wsz w) ≤ R.slots)
    (k : ∀ (H1 : Heap) (locs1 : List Loc), va_P D vwCl (trW b cs q.2) H1 → va_S (fun q => b ≤ q) s.heap H1 locs1 → W p l e R s m args below meth c H1 locs1 (cells + (q.2.length - w.length)) (slots + (wsz q.2 - wsz w)) Q (F0 m (pc + stdLen i) A (q.1.map (tr b)))) : W p l e R s m args below meth c H locs cells slots Q (F0 m pc A (st.map (tr b))) := by
  obtain ⟨⟨hx, hb, hml, hown, hts⟩, hN, hAO, hK⟩ := C
  have hA : ∀ q, s.heap.size ≤ q → b ≤ q := fun q h => Nat.le_trans hbs h
  unfold heapW at h
  split at h
  · rename_i idx v ad st0
    obtain ⟨f, hf, h1⟩ := Option.bind_eq_some_iff.mp h
    obtain ⟨w', h2, rfl⟩ := Option.map_eq_some_iff.mp h1
    unfold pfW at h2
    split at h2
    · rename_i q hq
      split at h2
      · rename_i hcd
        obtain ⟨c1, c2, c3, c4, c5⟩ := hcd
        cases h2
        obtain ⟨r, hr, hn⟩ := nf_some c2
        have hl := vw_lt hr
        have he : (trW b cs w)[ad]? = some (b + ad, .inr (f.1, q.2.map (tr b))) := by rw [trW_get hq, trE_o (by omega), c1]
        have hin : ∀ w ∈ u_ws r.1 r.2.1 r.2.2, w ∈ tw := utab_in r (List.mem_of_getElem? hr)
        obtain ⟨g1, g2, g3⟩ := cls_ok f.1 r hr
        have hw := ftab_in _ (lk_mem hf)
        simp only [fwd, hr] at hw
        obtain ⟨o1, o2⟩ := okT_spec (b := b) c4
        obtain ⟨z1, z2⟩ := cell_same (q' := (q.1, q.2.set f.2 v)) hq (by simp) rfl
        have hfl : f.2 < (q.2.map (tr b)).length := by rw [List.length_map]; exact c3
        have key : ∀ (H1 : Heap) (locs1 : List Loc), va_P D vwCl ((trW b cs w).set ad (b + ad, .inr (f.1, (q.2.map (tr b)).set f.2 (tr b v)))) H1 → va_D (fun q => b ≤ q) ((trW b cs w).set ad (b + ad, .inr (f.1, (q.2.map (tr b)).set f.2 (tr b v)))) → va_S (fun q => b ≤ q) s.heap H1 locs1 → W p l e R s m args below meth c H1 locs1 cells slots Q (F0 m (pc + 3) A (st0.map (tr b))) := by
          intro H1 locs1 p1 _ s1
          have e1 : (Sum.inr (f.1, (q.2.map (tr b)).set f.2 (tr b v)) : va_E) = trE b cs (q.1, q.2.set f.2 v) := by
            rw [trE_o (show (q.1, q.2.set f.2 v).1 < 9 by show q.1 < 9; omega), c1, List.map_set]
          rw [e1, trW_set] at p1
          have := k H1 locs1 p1 s1
          simp only [z1, z2, Nat.sub_self, Nat.add_zero] at this
          exact this
        by_cases hfin : finC f.1 f.2 = true
        · have hfin' : (r.2.1 f.2).2.2.2 = true := by
            unfold finC at hfin
            rw [hr] at hfin
            exact hfin
          obtain ⟨i1, i2⟩ := c5 hfin
          exact va_putF hx hb hts hin (tyC f.1) g2 g3 hown hK hP trW_D hS ad he hr f.2 (hn ▸ c2) (hts _ hw) (fun _ h => h) hfin' (hnm.trans i1) (by rw [decl_ok f.1 r hr f.2 (hn ▸ c2), i2]) (g2 f.2 (hn ▸ c2)) o1 o2 hfl hd key
        · have hfin' : (r.2.1 f.2).2.2.2 = false := by
            unfold finC at hfin
            rw [hr] at hfin
            simpa using hfin
          exact va_put hx hb hts hin (tyC f.1) g2 g3 hown hK hP trW_D hS ad he hr f.2 (hn ▸ c2) (hts _ hw) (fun _ h => h) hfin' (g2 f.2 (hn ▸ c2)) o1 o2 hfl hd key
      · cases h2
    · cases h2
  · rename_i v x ad st0
    obtain ⟨w', h2, rfl⟩ := Option.map_eq_some_iff.mp h
    obtain ⟨q, hq, ht, h0, hlt, rfl⟩ := asW_spec h2
    have he := trW_get (b := b) (cs := cs) hq
    unfold trE at he
    rw [if_pos ht] at he
    refine va_iast hx hb hK hP trW_D hS _ 0 he rfl (vin_of h0 hlt) hd (fun H1 locs1 p1 _ s1 => ?_)
    rw [← trE_arr (t := 0) hlt] at p1
    have e1 : (Sum.inl (cs.1, q.2.length, .inl (fun z => asI ((q.2.set x.toNatClampNeg (.int v)).getD z .null))) : va_E) = trE b cs (q.1, q.2.set x.toNatClampNeg (.int v)) := by
      unfold trE
      rw [if_pos ht, List.length_set]
    rw [e1, trW_set] at p1
    obtain ⟨z1, z2⟩ := cell_same (q' := (q.1, q.2.set x.toNatClampNeg (.int v))) hq (by simp) rfl
    have := k H1 locs1 p1 s1
    simp only [z1, z2, Nat.sub_self, Nat.add_zero] at this
    exact this
  · split at h
    · rename_i v x ad st0 hv
      obtain ⟨w', h2, rfl⟩ := Option.map_eq_some_iff.mp h
      obtain ⟨q, hq, ht, h0, hlt, rfl⟩ := asW_spec h2
      have he := trW_get (b := b) (cs := cs) hq
      unfold trE at he
      rw [if_neg (by omega), if_pos ht] at he
      refine va_zast hx hb hK hP trW_D hS _ 1 he rfl (vin_of h0 hlt) hd (fun H1 locs1 p1 _ s1 => ?_)
      have hv2 : vp_nar .boolean v = v := by rcases hv with rfl | rfl <;> rfl
      rw [hv2, ← trE_arr (t := 0) hlt] at p1
      have e1 : (Sum.inl (cs.2.1, q.2.length, .inl (fun z => asI ((q.2.set x.toNatClampNeg (.int v)).getD z .null))) : va_E) = trE b cs (q.1, q.2.set x.toNatClampNeg (.int v)) := by
        unfold trE
        rw [if_neg (by show ¬ q.1 = 100; omega), if_pos ht, List.length_set]
      rw [e1, trW_set] at p1
      obtain ⟨z1, z2⟩ := cell_same (q' := (q.1, q.2.set x.toNatClampNeg (.int v))) hq (by simp) rfl
      have := k H1 locs1 p1 s1
      simp only [z1, z2, Nat.sub_self, Nat.add_zero] at this
      exact this
    · cases h
  · rename_i r x ad st0
    obtain ⟨w', h2, rfl⟩ := Option.map_eq_some_iff.mp h
    unfold aaW at h2
    split at h2
    · rename_i q u hq hu
      split at h2
      · rename_i hcd
        obtain ⟨c1, c2, c3, c4⟩ := hcd
        cases h2
        have he := trW_get (b := b) (cs := cs) hq
        unfold trE at he
        obtain ⟨z1, z2⟩ := cell_same (q' := (q.1, q.2.set x.toNatClampNeg (.ref r))) hq (by simp) rfl
        rcases c1 with ht | ht
        · have hu1 : u.1 = 2 := by rw [c2, ht]; rfl
          have hv : (trW b cs w)[r]? = some (b + r, .inr (2, u.2.map (tr b))) := by rw [trW_get hu, trE_o (by omega), hu1]
          rw [if_neg (by omega), if_neg (by omega), if_pos ht] at he
          refine va_astq hx hb hK hP trW_D hS ad 2 r 2 he rfl hv rfl (vin_of c3 c4) hd (fun H1 locs1 p1 _ s1 => ?_)
          rw [← trE_arq c4] at p1
          have e1 : (Sum.inl (cs.2.2.1, q.2.length, .inr (.inr (.inr (.inr (fun z => asR b ((q.2.set x.toNatClampNeg (.ref r)).getD z .null)))))) : va_E) = trE b cs (q.1, q.2.set x.toNatClampNeg (.ref r)) := by
            unfold trE
            rw [if_neg (by show ¬ q.1 = 100; omega), if_neg (by show ¬ q.1 = 101; omega), if_pos ht, List.length_set]
          rw [e1, trW_set] at p1
          have := k H1 locs1 p1 s1
          simp only [z1, z2, Nat.sub_self, Nat.add_zero] at this
          exact this
        · have hu1 : u.1 = 6 := by rw [c2, ht]; rfl
          have hv : (trW b cs w)[r]? = some (b + r, .inr (6, u.2.map (tr b))) := by rw [trW_get hu, trE_o (by omega), hu1]
          rw [if_neg (by omega), if_neg (by omega), if_neg (by omega), if_pos ht] at he
          refine va_astq hx hb hK hP trW_D hS ad 3 r 6 he rfl hv rfl (vin_of c3 c4) hd (fun H1 locs1 p1 _ s1 => ?_)
          rw [← trE_arq c4] at p1
          have e1 : (Sum.inl (cs.2.2.2, q.2.length, .inr (.inr (.inr (.inr (fun z => asR b ((q.2.set x.toNatClampNeg (.ref r)).getD z .null)))))) : va_E) = trE b cs (q.1, q.2.set x.toNatClampNeg (.ref r)) := by
            unfold trE
            rw [if_neg (by show ¬ q.1 = 100; omega), if_neg (by show ¬ q.1 = 101; omega), if_neg (by show ¬ q.1 = 102; omega), if_pos ht, List.length_set]
          rw [e1, trW_set] at p1
          have := k H1 locs1 p1 s1
          simp only [z1, z2, Nat.sub_self, Nat.add_zero] at this
          exact this
      · cases h2
    · cases h2
  · rename_i idx
    split at h
    · rename_i ci hci
      split at h
      · rename_i hlt
        cases h
        have hr : vwCl[ci]? = some vwCl[ci] := List.getElem?_eq_getElem hlt
        generalize vwCl[ci] = r at hr
        obtain ⟨g1, g2, g3⟩ := cls_ok ci r hr
        have hin : ∀ w ∈ u_ws r.1 r.2.1 r.2.2, w ∈ tw := utab_in r (List.mem_of_getElem? hr)
        have hii := itab_in r (List.mem_of_getElem? hr)
        have hcl := ntab_in _ (lk_mem hci)
        dsimp only at hcl
        rw [← g1] at hcl
        have hnf : nfC ci = r.2.2 := by unfold nfC; rw [hr]
        have hlen : (newO ci).2.length = r.2.2 := by simp [newO, hnf]
        have e0 : (w ++ [newO ci]).length - w.length = 1 := by simp
        have e00 : wsz (w ++ [newO ci]) - wsz w = r.2.2 := by rw [wsz_push, hlen]; omega
        dsimp only at hc hsl k
        rw [e0] at hc k
        rw [e00] at hsl k
        refine va_new (fs := (newO ci).2.map (tr b)) hx hb hts hin (tyC ci) g2 hown (hts _ hcl) (hts _ (hii _ (by simp))) (hts _ (hii _ (by simp))) hK hP trW_D hS hA hr (fun z hz => ?_) hc hsl hd (fun q H1 p1 d1 s1 => ?_)
        · have hz2 : z < nfC ci := by rw [hnf]; exact hz
          simp only [vp_V, newO, List.getD_eq_getElem?_getD, List.getElem?_map, List.getElem?_range hz2, Option.map_some, Option.getD_some]
          cases tyC ci z <;> rfl
        · refine W_sz (fun hz => ?_)
          have hq := new_addr p1 d1 (by omega)
          subst hq
          have e1 : (Sum.inr (ci, (newO ci).2.map (tr b)) : va_E) = trE b cs (newO ci) := (trE_o (show (newO ci).1 < 9 from hlt)).symm
          rw [e1, trW_push] at p1
          exact k H1 locs p1 s1
      · cases h
    · cases h
  · split at h
    · cases h
    · rename_i n st0 hn
      cases h
      have h0 : ¬ n < 0 := fun z => hn (Or.inl z)
      have h2 : n.toNatClampNeg ≤ 2000 := int32_2000 h0 (fun z => hn (Or.inr z))
      have e0 : (w ++ [((100 : Nat), List.replicate n.toNatClampNeg (Value.int 0))]).length - w.length = 1 := by simp
      have e00 : wsz (w ++ [((100 : Nat), List.replicate n.toNatClampNeg (Value.int 0))]) - wsz w = n.toNatClampNeg := by rw [wsz_push, List.length_replicate]; omega
      dsimp only at hc hsl k
      rw [e0] at hc k
      rw [e00] at hsl k
      refine va_newa (a0 := (n.toNatClampNeg, .inl (fun _ => 0))) hx hb (hts _ (misc_in _ (by simp [newarray.typeOf]))) rfl hK hP trW_D hS hA (fun cA => rfl) h0 rfl (by show n.toNatClampNeg * 4 ≤ 536870912; omega) hc hsl hd (fun q cA H1 k1 p1 d1 s1 => ?_)
      refine W_sz (fun hz => ?_)
      have hq := new_addr p1 d1 (by omega)
      subst hq
      have hcA : cA = cs.1 := Option.some.inj (((k1.2 4 (cA, .int) rfl).2).symm.trans (hK.2 0 (cs.1, .int) rfl).2)
      subst hcA
      have e1 : (Sum.inl (cs.1, n.toNatClampNeg, .inl (fun _ => (0 : Int32))) : va_E) = trE b cs ((100 : Nat), List.replicate n.toNatClampNeg (Value.int 0)) := by
        unfold trE
        rw [if_pos rfl, List.length_replicate]
        congr 4
        funext z
        by_cases hz : z < n.toNatClampNeg <;> simp [List.getD_eq_getElem?_getD, List.getElem?_replicate, hz, asI]
      rw [e1, trW_push] at p1
      exact k H1 locs p1 s1
  · split at h
    · cases h
    · rename_i n st0 hn
      cases h
      have h0 : ¬ n < 0 := fun z => hn (Or.inl z)
      have h2 : n.toNatClampNeg ≤ 2000 := int32_2000 h0 (fun z => hn (Or.inr z))
      have e0 : (w ++ [((101 : Nat), List.replicate n.toNatClampNeg (Value.int 0))]).length - w.length = 1 := by simp
      have e00 : wsz (w ++ [((101 : Nat), List.replicate n.toNatClampNeg (Value.int 0))]) - wsz w = n.toNatClampNeg := by rw [wsz_push, List.length_replicate]; omega
      dsimp only at hc hsl k
      rw [e0] at hc k
      rw [e00] at hsl k
      refine va_newa (a0 := (n.toNatClampNeg, .inl (fun _ => 0))) hx hb (hts _ (misc_in _ (by simp [newarray.typeOf]))) rfl hK hP trW_D hS hA (fun cA => rfl) h0 rfl (by show n.toNatClampNeg * 1 ≤ 536870912; omega) hc hsl hd (fun q cA H1 k1 p1 d1 s1 => ?_)
      refine W_sz (fun hz => ?_)
      have hq := new_addr p1 d1 (by omega)
      subst hq
      have hcA : cA = cs.2.1 := Option.some.inj (((k1.2 4 (cA, .boolean) rfl).2).symm.trans (hK.2 1 (cs.2.1, .boolean) rfl).2)
      subst hcA
      have e1 : (Sum.inl (cs.2.1, n.toNatClampNeg, .inl (fun _ => (0 : Int32))) : va_E) = trE b cs ((101 : Nat), List.replicate n.toNatClampNeg (Value.int 0)) := by
        unfold trE
        rw [if_neg (by simp), if_pos rfl, List.length_replicate]
        congr 4
        funext z
        by_cases hz : z < n.toNatClampNeg <;> simp [List.getD_eq_getElem?_getD, List.getElem?_replicate, hz, asI]
      rw [e1, trW_push] at p1
      exact k H1 locs p1 s1
  · split at h
    · cases h
    · rename_i idx n st0 hn
      have h0 : ¬ n < 0 := fun z => hn (Or.inl z)
      have h2 : n.toNatClampNeg ≤ 2000 := int32_2000 h0 (fun z => hn (Or.inr z))
      split at h
      · rename_i hci
        cases h
        have hcl := ntab_in _ (lk_mem hci)
        have e0 : (w ++ [((102 : Nat), List.replicate n.toNatClampNeg Value.null)]).length - w.length = 1 := by simp
        have e00 : wsz (w ++ [((102 : Nat), List.replicate n.toNatClampNeg Value.null)]) - wsz w = n.toNatClampNeg := by rw [wsz_push, List.length_replicate]; omega
        dsimp only at hc hsl k
        rw [e0] at hc k
        rw [e00] at hsl k
        refine va_newq (C := "SupperTales$Scroll") hx hb hown (hts _ hcl) hAO.1 hK hP trW_D hS hA h0 rfl (by omega) hc hsl hd (fun q cA H1 k1 p1 d1 s1 => ?_)
        refine W_sz (fun hz => ?_)
        have hq := new_addr p1 d1 (by omega)
        subst hq
        obtain ⟨_, _, _, _, _, f1⟩ := (k1.2 4 (cA, .object "SupperTales$Scroll") rfl).2
        obtain ⟨_, _, _, _, _, f2⟩ := (hK.2 2 (cs.2.2.1, .object "SupperTales$Scroll") rfl).2
        have hcA : cA = cs.2.2.1 := Option.some.inj (f1.symm.trans f2)
        subst hcA
        have e1 : (Sum.inl (cs.2.2.1, n.toNatClampNeg, .inr (.inr (.inr (.inr (fun _ => (none : Option Nat)))))) : va_E) = trE b cs ((102 : Nat), List.replicate n.toNatClampNeg Value.null) := by
          unfold trE
          rw [if_neg (by simp), if_neg (by simp), if_pos rfl, List.length_replicate]
          congr 7
          funext z
          by_cases hz : z < n.toNatClampNeg <;> simp [List.getD_eq_getElem?_getD, List.getElem?_replicate, hz, asR]
        rw [e1, trW_push] at p1
        exact k H1 locs p1 s1
      · rename_i hci
        cases h
        have hcl := ntab_in _ (lk_mem hci)
        have e0 : (w ++ [((103 : Nat), List.replicate n.toNatClampNeg Value.null)]).length - w.length = 1 := by simp
        have e00 : wsz (w ++ [((103 : Nat), List.replicate n.toNatClampNeg Value.null)]) - wsz w = n.toNatClampNeg := by rw [wsz_push, List.length_replicate]; omega
        dsimp only at hc hsl k
        rw [e0] at hc k
        rw [e00] at hsl k
        refine va_newq (C := "SupperTales$Telling") hx hb hown (hts _ hcl) hAO.2 hK hP trW_D hS hA h0 rfl (by omega) hc hsl hd (fun q cA H1 k1 p1 d1 s1 => ?_)
        refine W_sz (fun hz => ?_)
        have hq := new_addr p1 d1 (by omega)
        subst hq
        obtain ⟨_, _, _, _, _, f1⟩ := (k1.2 4 (cA, .object "SupperTales$Telling") rfl).2
        obtain ⟨_, _, _, _, _, f2⟩ := (hK.2 3 (cs.2.2.2, .object "SupperTales$Telling") rfl).2
        have hcA : cA = cs.2.2.2 := Option.some.inj (f1.symm.trans f2)
        subst hcA
        have e1 : (Sum.inl (cs.2.2.2, n.toNatClampNeg, .inr (.inr (.inr (.inr (fun _ => (none : Option Nat)))))) : va_E) = trE b cs ((103 : Nat), List.replicate n.toNatClampNeg Value.null) := by
          unfold trE
          rw [if_neg (by simp), if_neg (by simp), if_neg (by simp), if_pos rfl, List.length_replicate]
          congr 7
          funext z
          by_cases hz : z < n.toNatClampNeg <;> simp [List.getD_eq_getElem?_getD, List.getElem?_replicate, hz, asR]
        rw [e1, trW_push] at p1
        exact k H1 locs p1 s1
      · cases h
  · cases h
end SimC
end
section
/-! Object's constructor, arraycopy, the end of a method, calls -/
def chkN (q : MethodName × ByteArray × Nat × Option FieldType × Nat × List (Nat × Instr × Nat)) : Bool := plainName q.1.cls && (q.1.cls == RC q.2.2.2.2.1) && (q.1.cls != "java/lang/invoke/MethodHandle") && (q.1.cls != "java/lang/invoke/VarHandle") && decide (q.2.2.1 ≤ 30) && (parseMethodDescriptor q.1.desc).isSome
theorem chkN_all : ∀ q ∈ mtab, chkN q = true := List.all_eq_true.mp (by decide +kernel)
theorem mt_of {j pc : Nat} {i : Instr} (h : insAt j pc = some i) : ∃ q, mtab[j]? = some q := by
  cases hq : mtab[j]? with
  | some q => exact ⟨q, rfl⟩
  | none => simp [insAt, isj, hq] at h
theorem mt_dec {j pc : Nat} {i : Instr} (h : insAt j pc = some i) : ∃ len, decode (cdj j) pc = .ok (i, len) ∧ (isSw i = true ∨ len = stdLen i) := by
  obtain ⟨q, hq⟩ := mt_of h
  have hall := chkM_all q (List.mem_of_getElem? hq)
  simp only [insAt, isj, hq, Option.map_eq_some_iff] at h
  obtain ⟨r, hr, rfl⟩ := h
  have h1 := List.mem_of_find?_eq_some hr
  have h2 := List.find?_some hr
  have h3 := List.all_eq_true.mp hall r h1
  simp only [chkI, Bool.and_eq_true, decide_eq_true_eq, Bool.or_eq_true, beq_iff_eq] at h3
  have e : r.1 = pc := by simpa using h2
  subst e
  refine ⟨r.2.2, by simp only [cdj, hq]; exact h3.1, h3.2.imp id (fun z => z.symm)⟩
theorem mt_decS {j pc : Nat} {i : Instr} (h : insAt j pc = some i) (hs : isSw i = false) : decode (cdj j) pc = .ok (i, stdLen i) := by
  obtain ⟨len, h1, h2⟩ := mt_dec h
  rcases h2 with h2 | h2
  · rw [hs] at h2; cases h2
  · rw [← h2]; exact h1
/-- what a line of the table says -/
theorem mt_name {j : Nat} {q : MethodName × ByteArray × Nat × Option FieldType × Nat × List (Nat × Instr × Nat)} (hq : mtab[j]? = some q) : plainName (yj j).cls = true ∧ (yj j).cls = RC (owc j) ∧ ((yj j).cls ≠ "java/lang/invoke/MethodHandle" ∧ (yj j).cls ≠ "java/lang/invoke/VarHandle") ∧ mxj j ≤ 30 ∧ (parseMethodDescriptor (yj j).desc).map (fun d => d.parameters.length) = some (narg j) ∧ Cond.code (yj j) (cdj j) (mxj j) (rtj j) ∈ tw := by
  have h := chkN_all q (List.mem_of_getElem? hq)
  have hw := mtab_in q (List.mem_of_getElem? hq)
  simp only [chkN, Bool.and_eq_true, beq_iff_eq, bne_iff_ne, decide_eq_true_eq] at h
  obtain ⟨⟨⟨⟨⟨h1, h2⟩, h3⟩, h4⟩, h5⟩, h6⟩ := h
  simp only [narg, yj, owc, mxj, cdj, rtj, hq]
  refine ⟨h1, h2, ⟨h3, h4⟩, h5, ?_, hw⟩
  cases hd : parseMethodDescriptor q.1.desc with
  | none => rw [hd] at h6; cases h6
  | some d => rfl
theorem cal_mem {ow idx : Nat} {q : Nat × Nat} (h : calT ow idx = some q) : ((ow, idx), q) ∈ ctab := lk_mem h
theorem nw_form : ∀ w ∈ nwl, (∃ a i b n d h, w = .fieldLinkNest a i b n d h) ∨ (∃ a i x h, w = .methodLinkNest a i x h) := by
  intro w hw
  rcases List.mem_append.mp hw with h | h
  · obtain ⟨q, hq, rfl⟩ := List.mem_map.mp h
    have hl : q.2.1 < 9 := (by decide : ∀ q ∈ ftabN, q.2.1 < 9) q hq
    have hr : vwCl[q.2.1]? = some vwCl[q.2.1] := List.getElem?_eq_getElem hl
    left
    simp only [fwdN, hr]
    exact ⟨_, _, _, _, _, _, rfl⟩
  · obtain ⟨q, hq, rfl⟩ := List.mem_map.mp h
    right
    exact ⟨_, _, _, _, rfl⟩
theorem nw_warm {s U : State} (hW : s.WarmedH U.vm) (h : ∀ w ∈ nwl, va_Nw w s) : ∀ w ∈ nwl, va_Nw w U := by
  intro w hw
  have h1 := h w hw
  rcases nw_form w hw with ⟨a, i, b, n, d, h, rfl⟩ | ⟨a, i, x, h, rfl⟩
  · exact va_Nw.warmF hW h1
  · exact va_Nw.warmM hW h1
theorem nw_same {u U : State} (hv : u.vm = U.vm) (h : ∀ w ∈ nwl, va_Nw w u) : ∀ w ∈ nwl, va_Nw w U := by
  intro w hw
  have h1 := h w hw
  rcases nw_form w hw with ⟨a, i, b, n, d, h, rfl⟩ | ⟨a, i, x, h, rfl⟩
  · exact va_Nw.same rfl hv h1
  · exact va_Nw.same rfl hv h1
theorem cpV_get {f g : List Value} {sp dp n : Nat} (hs : sp + n ≤ f.length) (hd : dp + n ≤ g.length) : (fun z => asI ((cpV f g sp dp n).getD z .null)) = va_cpy (fun z => asI (f.getD z .null)) (fun z => asI (g.getD z .null)) sp dp n := by
  funext z
  simp only [cpV, va_cpy, List.getD_eq_getElem?_getD, List.getElem?_mapIdx]
  by_cases h : dp ≤ z ∧ z < dp + n
  · have hz : z < g.length := by omega
    simp [h, hz]
  · by_cases hz : z < g.length
    · simp [h, hz]
    · simp [h, hz]
def wsj (j : Nat) : List Cond := Cond.code (yj j) (cdj j) (mxj j) (rtj j) :: tw
def rmd (d kc ks : Nat) : Room := { frames := d + 1, cells := kc, slots := ks, locals := 60 * (d + 1) }
def PcJ (b : Nat) (D : va_G) (cs : CS) (As : List Value) (w : Wd) : Array Value → State → Prop := va_Pc (As.map (tr b)) (fun U => U.heap.size = b + w.length ∧ va_P D vwCl (trW b cs w) U.heap ∧ va_K D vwCl (tysC cs) U ∧ (∀ w ∈ nwl, va_Nw w U) ∧ va_AO "SupperTales$Scroll" U ∧ va_AO "SupperTales$Telling" U)
def QC (b : Nat) (D : va_G) (cs : CS) (w : Wd) (rv : Option Value) : Array Value → State → Outcome → State → Prop := fun _ st oc t => oc = .returned (rv.map (tr b)) ∧ va_P D vwCl (trW b cs w) t.heap ∧ va_F (fun q => b ≤ q) st t
theorem PcJ_blind {b : Nat} {D : va_G} {cs : CS} {As : List Value} {w : Wd} : FrameBlind (PcJ b D cs As w) := by
  intro a U g mk h
  obtain ⟨h1, h2, h3, h4, h5, h6, h7⟩ := h
  exact ⟨h1, h2, h3, va_K.moved (u := U) (U := U.calling g mk a) (Vm.Alike.refl U.vm) h4, nw_same (u := U) (U := U.calling g mk a) rfl h5, va_AO.moved (u := U) (U := U.calling g mk a) (Vm.Alike.refl U.vm) h6, va_AO.moved (u := U) (U := U.calling g mk a) (Vm.Alike.refl U.vm) h7⟩
section SimD
variable {p : Program} {l : Launch} {e : Env} {R : Room} {s : State} {m : MethodId} {args : Array Value} {below : List Frame} {meth : Method} {c : Code} {H : Heap} {locs : List Loc} {cells slots : Nat} {Q : State → Prop}
variable {cc : ByteArray} {pc ow b nL j : Nat} {A : Array Slot} {i : Instr} {D : va_G} {cs : CS} {w : Wd}
set_option maxHeartbeats 4000000 in
theorem sim_nat {st : List Value} {q : List Value × Wd} (C : Cx p m c s args cc nL (RC (owc j)) D cs) (hA : A.size = nL) (hP : va_P D vwCl (trW b cs w) H) (hS : va_S (fun q => b ≤ q) s.heap H locs) (h : natOp j i st w = some q) (hd : decode cc pc = .ok (i, 3)) (hF : 1 ≤ R.frames) (hL : 60 ≤ R.locals) (hc : cells ≤ R.cells) (hs : slots ≤ R.slots)
    (k : ∀ (H1 : Heap) (locs1 : List Loc), va_P D vwCl (trW b cs q.2) H1 → va_S (fun q => b ≤ q) s.heap H1 locs1 → W p l e R s m args below meth c H1 locs1 cells slots Q (F0 m (pc + 3) A (q.1.map (tr b)))) : W p l e R s m args below meth c H locs cells slots Q (F0 m pc A (st.map (tr b))) := by
  obtain ⟨⟨hx, hb, hml, hown, hts⟩, hN, hAO, hK⟩ := C
  have ho := fun w h => hts w (misc_in w h)
  unfold natOp at h
  split at h
  · split at h
    · rename_i idx ad st0 hcd
      cases h
      obtain ⟨qq, hq1, hq2⟩ := Option.map_eq_some_iff.mp hcd.1
      have hw := ctab_in _ (cal_mem hq1) (.methodLink (RC (owc j)) idx objectInit) (by simp [cwd, hq2])
      have hcs := hcd.2
      refine W.objInit hx hb hown (hts _ hw) (ho _ (by simp)) (ho _ (by simp)) rfl (by show A.size = _; rw [hA, hml]) rfl hd hF ?_ (k H locs hP hS)
      show 2 * 0 + ((st0.map (tr b)).map fun v => v.category).sum + 12 ≤ R.locals
      rw [catS_tr]
      omega
    · cases h
  · split at h
    · rename_i idx n dp a sp a0 st0 hcd
      obtain ⟨w', h2, rfl⟩ := Option.map_eq_some_iff.mp h
      obtain ⟨qq, hq1, hq2⟩ := Option.map_eq_some_iff.mp hcd.1
      have hw := ctab_in _ (cal_mem hq1) (.methodLink (RC (owc j)) idx arraycopyName) (by simp [cwd, hq2])
      have hcs := hcd.2
      unfold acW at h2
      split at h2
      · rename_i q u hq hu
        split at h2
        · rename_i hc
          obtain ⟨c1, c2, c3, c4, c5, c6, c7⟩ := hc
          cases h2
          have he := trW_get (b := b) (cs := cs) hq
          unfold trE at he
          rw [if_pos c1] at he
          have hf := trW_get (b := b) (cs := cs) hu
          unfold trE at hf
          rw [if_pos c2] at hf
          refine va_copyi hx hb (by rw [hA, hml]) hown (hts _ hw) (ho _ (by simp)) (ho _ (by simp)) (ho _ (by simp)) hK hP trW_D hS a0 a 0 0 he hf rfl rfl rfl c3 c4 c5 c6 c7 (fun _ _ => rfl) hF ?_ hd (fun H1 locs1 p1 _ s1 => ?_)
          · rw [catS_tr]
            have : nativeFrameWords "java/lang/System" "arraycopy" 5 ≤ 40 := by decide
            omega
          · rw [← cpV_get c6 c7] at p1
            have e1 : (Sum.inl (cs.1, u.2.length, .inl (fun z => asI ((cpV q.2 u.2 sp.toNatClampNeg dp.toNatClampNeg n.toNatClampNeg).getD z .null))) : va_E) = trE b cs (u.1, cpV q.2 u.2 sp.toNatClampNeg dp.toNatClampNeg n.toNatClampNeg) := by
              unfold trE
              rw [if_pos c2]
              simp [cpV]
            rw [e1, trW_set] at p1
            exact k H1 locs1 p1 s1
        · cases h2
      · cases h2
    · cases h
  · rename_i idx y x st0 hno
    split at h
    · rename_i hcd
      split at h
      · rename_i hcs
        cases h
        obtain ⟨qq, hq1, hq2⟩ := Option.map_eq_some_iff.mp hcd
        have hw := ctab_in _ (cal_mem hq1)
        simp only [cwd, hq2] at hw
        exact va_mmax hx hb (by rw [hA, hml]) hown (hts _ (hw _ (by simp))) (hts _ (hw _ (by simp))) (hts _ (hw _ (by simp))) (hts _ (hw _ (by simp))) hF (by rw [catS_tr]; omega) hc hs hd (k H locs hP hS)
      · cases h
    · rename_i hcd
      split at h
      · rename_i hcs
        cases h
        obtain ⟨qq, hq1, hq2⟩ := Option.map_eq_some_iff.mp hcd
        have hw := ctab_in _ (cal_mem hq1)
        simp only [cwd, hq2] at hw
        exact va_mmin hx hb (by rw [hA, hml]) hown (hts _ (hw _ (by simp))) (hts _ (hw _ (by simp))) (hts _ (hw _ (by simp))) (hts _ (hw _ (by simp))) hF (by rw [catS_tr]; omega) hc hs hd (k H locs hP hS)
      · cases h
    · cases h
  · cases h
theorem sim_ret {st : List Value} {v : Option Value} {Qc : Array Value → State → Outcome → State → Prop} {free : Addr → Prop} (hx : p.tables.exec = Jvm.exec) (hb : c.code = cc) (hr : meth.sig.returnType = rtj j) (hlocks : meth.locks = false) (h : retOp j i st = some v) (hd : decode cc pc = .ok (i, 1))
    (hq : ∀ t : State, t.heap = H → s.WarmedH t.vm → Qc args s (.returned (v.map (tr b))) t) (hf : ∀ q ∈ locs, free q.base) : W p l e R s m args below meth c H locs cells slots (MQ below Qc args s cells slots free) (F0 m pc A (st.map (tr b))) := by
  unfold retOp at h
  split at h
  · split at h
    · rename_i hrt
      cases h
      exact W.iret hx hb (hr.trans hrt) hq hf hd hlocks
    · rename_i hrt
      split at h
      · rename_i hv
        cases h
        exact W.zret hx hb (hr.trans hrt) (by rcases hv with rfl | rfl <;> rfl) hq hf hd hlocks
      · cases h
    · cases h
  · split at h
    · rename_i hrt
      cases h
      exact W.lret hx hb (hr.trans hrt) hq hf hd hlocks
    · cases h
  · split at h
    · rename_i hrt
      cases h
      exact W.vret hx hb (hr.trans hrt) hq hf hd hlocks
    · cases h
  · cases h
theorem my_call {mc ms : Nat} {st0 rest : List Value} {w1 : Wd} {rv : Option Value} {a : Array Value} (hr : va_Run p l e R s m args below meth c H locs cells slots mc ms (F0 m pc A st0) rest (QC b D cs w1 rv a) (fun q => b ≤ q)) (hS : va_S (fun q => b ≤ q) s.heap H locs)
    (kk : ∀ (H1 : Heap) (locs1 : List Loc), va_P D vwCl (trW b cs w1) H1 → va_S (fun q => b ≤ q) s.heap H1 locs1 → W p l e R s m args below meth c H1 locs1 (cells + mc) (slots + ms) Q (F0 m (pc + 3) A ((rv.map (tr b)).toList ++ rest))) : W p l e R s m args below meth c H locs cells slots Q (F0 m pc A st0) := by
  intro T hT X
  obtain ⟨v, st₀, t, T', L, h0, X', hL, e1, e2, ⟨hv, hp, hz, hk⟩, st⟩ := hr T hT X
  cases hv
  rw [h0] at hz hk
  obtain ⟨t2, a1, b1⟩ := kk T'.heap (locs ++ L) (by rw [e1]; exact hp)
    ⟨Nat.le_trans hS.1 (by rw [e1]; exact hz), fun q h1 h2 => by rw [e1, hk q (Nat.lt_of_lt_of_le h1 hS.1) h2]; exact hS.2.1 q h1 h2, fun q hq => by
      rcases List.mem_append.mp hq with h | h
      · exact hS.2.2 q h
      · exact hL q h⟩ T' rfl X'
  exact ⟨t2, st t2 a1, b1⟩
/-- a callee's words are among those that are taken along -/
theorem good_wsj {q : MethodName × ByteArray × Nat × Option FieldType × Nat × List (Nat × Instr × Nat)} (hq : mtab[j]? = some q) : GoodIn tw (wsj j) := by
  intro w hw
  have h : w ∈ tw := by
    rcases List.mem_cons.mp hw with rfl | h
    · exact (mt_name hq).2.2.2.2.2
    · exact h
  exact ⟨h, tw_good w h⟩
theorem rev_tr (st : List Value) (n : Nat) : ((st.take n).reverse.map (tr b)).reverse = (st.map (tr b)).take n := by
  rw [List.map_reverse, List.reverse_reverse, List.map_take]
set_option maxHeartbeats 4000000 in
/-- a call: the callee's contract gives the walk behind it -/
theorem sim_call {st : List Value} {cl : Nat × List Value × List Value} {d kc ks : Nat} {w1 : Wd} {rv : Option Value} {q : MethodName × ByteArray × Nat × Option FieldType × Nat × List (Nat × Instr × Nat)} (C : Cx p m c s args cc nL (RC (owc j)) D cs) (hA : A.size = nL) (hP : va_P D vwCl (trW b cs w) H) (hS : va_S (fun q => b ≤ q) s.heap H locs) (hbs : b ≤ s.heap.size) (hsz : s.heap.size + cells = b + w.length) (h : callOp j i st w = some cl) (hd : decode cc pc = .ok (i, 3)) (hF : d + 2 ≤ R.frames) (hL : 60 * (d + 2) ≤ R.locals) (hq : mtab[cl.1]? = some q)
    (hM : Met l (yj cl.1) (wsj cl.1) (rmd d kc ks) (PcJ b D cs cl.2.1 w) (QC b D cs w1 rv) kc ks (fun q => b ≤ q)) (hc1 : cells + kc ≤ R.cells) (hc2 : slots + ks ≤ R.slots)
    (k : ∀ (H1 : Heap) (locs1 : List Loc), va_P D vwCl (trW b cs w1) H1 → va_S (fun q => b ≤ q) s.heap H1 locs1 → W p l e R s m args below meth c H1 locs1 (cells + kc) (slots + ks) Q (F0 m (pc + 3) A ((rv.toList ++ cl.2.2).map (tr b)))) : W p l e R s m args below meth c H locs cells slots Q (F0 m pc A (st.map (tr b))) := by
  have C0 := C
  obtain ⟨⟨hx, hb, hml, hown, hts⟩, hN, hAO, hK⟩ := C
  refine W_sz (fun hz => ?_)
  have hsize : H.size = b + w.length := Nat.le_antisymm (by omega) (P_sz hP (Nat.le_trans hbs hS.1))
  have k' : ∀ (H1 : Heap) (locs1 : List Loc), va_P D vwCl (trW b cs w1) H1 → va_S (fun q => b ≤ q) s.heap H1 locs1 → W p l e R s m args below meth c H1 locs1 (cells + kc) (slots + ks) Q (F0 m (pc + 3) A ((rv.map (tr b)).toList ++ cl.2.2.map (tr b))) := by
    intro H1 locs1 p1 s1
    have := k H1 locs1 p1 s1
    rw [List.map_append] at this
    cases rv <;> exact this
  have hpc : ∀ U : State, U.heap = H → s.WarmedH U.vm → PcJ b D cs cl.2.1 w (cl.2.1.map (tr b)).toArray U := fun U hU hW => ⟨rfl, by rw [hU]; exact hsize, by rw [hU]; exact hP, va_K.moved hW.alike hK, nw_warm hW hN, va_AO.moved hW.alike hAO.1, va_AO.moved hW.alike hAO.2⟩
  obtain ⟨n1, n2, n3, n4, n5, n6⟩ := mt_name hq
  have hG := good_wsj hq
  have hR : (rmd d kc ks).frames + 1 ≤ R.frames ∧ 8 + (mxj cl.1 + 11) + (rmd d kc ks).locals ≤ R.locals := ⟨by show d + 1 + 1 ≤ _; omega, by show 8 + (mxj cl.1 + 11) + 60 * (d + 1) ≤ _; omega⟩
  have hroom : ∀ rest : List Value, catS rest ≤ 8 → 2 * (F0 m pc A (st.map (tr b))).monitorRoom + ((rest.map (tr b)).map fun v => v.category).sum ≤ 8 := fun rest h => by
    rw [catS_tr]
    show 2 * 0 + _ ≤ 8
    omega
  have CF : CallFix p m c cc nL s args tw (RC (owc j)) := ⟨hx, hb, hml, hown, hts⟩
  unfold callOp at h
  split at h
  · rename_i idx
    split at h
    · rename_i j' hcal
      split at h
      · rename_i hc
        obtain ⟨c1, c2, c3⟩ := hc
        cases h
        dsimp only at *
        have hw := ctab_in _ (cal_mem hcal)
        simp only [cwd] at hw
        obtain ⟨r, hr1⟩ : ∃ r, st.getD (narg j') .null = .ref r := by
          unfold rcvOk at c1
          split at c1
          · rename_i r hr; exact ⟨r, hr⟩
          · cases c1
        rw [hr1] at c1
        simp only [rcvOk] at c1
        have hst : st[narg j']? = some (.ref r) := by
          rw [List.getElem?_eq_getElem c2]
          rw [List.getD_eq_getElem?_getD, List.getElem?_eq_getElem c2] at hr1
          exact congrArg some hr1
        have hAs : (st.take (narg j' + 1)).reverse = .ref r :: (st.take (narg j')).reverse := by
          rw [List.take_add_one, hst]; simp
        have hst2 : st.map (tr b) = ((st.take (narg j')).reverse.map (tr b)).reverse ++ .ref (b + r) :: (st.drop (narg j' + 1)).map (tr b) := by
          rw [rev_tr]
          have e1 : st = st.take (narg j') ++ .ref r :: st.drop (narg j' + 1) := by
            have e2 := List.take_append_drop (narg j') st
            rw [List.drop_eq_getElem_cons c2] at e2
            have e3 : st[narg j'] = .ref r := by
              rw [List.getElem?_eq_getElem c2] at hst
              exact Option.some.inj hst
            rw [e3] at e2
            exact e2.symm
          have e4 := congrArg (List.map (tr b)) e1
          rw [List.map_append, List.map_cons] at e4
          rw [← List.map_take]
          exact e4
        split at c1
        · rename_i u hu
          have hcls : u.1 = owc j' := by simpa using c1
          have hlt : owc j' < 9 := by
            by_cases hh : owc j' < 9
            · exact hh
            · exfalso
              have hsel := hw (.selects (yj j').cls (yj j') (yj j')) (by simp)
              exact absurd ((by decide +kernel : ∀ q ∈ ctab, q.2.2 = 0 → owc q.2.1 < 9) _ (cal_mem hcal) rfl) hh
          have hr : vwCl[owc j']? = some vwCl[owc j'] := List.getElem?_eq_getElem hlt
          have hcn := (cls_ok (owc j') _ hr).1
          have he : (trW b cs w)[r]? = some (b + r, .inr (owc j', u.2.map (tr b))) := by rw [trW_get hu, trE_o (by omega), hcls]
          have hrec := va_recv hK hP hr he
          rw [hcn, ← n2] at hrec
          rw [hAs] at hM hpc
          refine my_call (va_runV (C := (yj j').cls) (b := b + r) (As := (st.take (narg j')).reverse.map (tr b)) (rest := (st.drop (narg j' + 1)).map (tr b)) CF hM (cwV (narg j') hts ?_ rfl rfl rfl ⟨rfl, n3.1, n3.2, n5⟩ hR) ⟨PcJ_blind, hrec, hpc⟩ rfl (by simp; omega) hA hst2 (hroom _ c3) hd ⟨hc1, hc2⟩) hS k'
          intro w hw2
          have : w ∈ tw := by
            rcases List.mem_append.mp hw2 with h | h
            · exact hw w h
            · exact (hG w h).1
          exact ⟨this, tw_good w this⟩
        · cases c1
      · cases h
    · cases h
  · rename_i idx
    split at h
    · rename_i j' kk hcal
      split at h
      · rename_i hc
        obtain ⟨c1, c2, c3⟩ := hc
        cases h
        dsimp only at *
        have hw := ctab_in _ (cal_mem hcal)
        have hst2 : st.map (tr b) = ((st.take (narg j')).reverse.map (tr b)).reverse ++ (st.drop (narg j')).map (tr b) := by
          rw [rev_tr, ← List.map_take, ← List.map_append, List.take_append_drop]
        rcases c1 with rfl | rfl
        · simp only [cwd] at hw
          exact my_call (va_runS (As := (st.take (narg j')).reverse.map (tr b)) (rest := (st.drop (narg j')).map (tr b)) CF hM ⟨callB_of (narg j') hts hG rfl rfl rfl (hts _ (hw _ (by simp))) (hts _ (hw _ (by simp))) ⟨n3.1, n3.2, n5⟩ hR, hts _ (hw _ (by simp))⟩ ⟨PcJ_blind, hpc⟩ rfl (by simp; omega) hA hst2 (hroom _ c3) hd ⟨hc1, hc2⟩) hS k'
        · simp only [cwd] at hw
          have hnw : va_Nw (cwdN ((owc j, idx), (j', 3))) s := hN _ (List.mem_append_right _ (List.mem_map_of_mem (List.mem_filter.mpr ⟨cal_mem hcal, rfl⟩)))
          exact my_call (va_runSN (As := (st.take (narg j')).reverse.map (tr b)) (rest := (st.drop (narg j')).map (tr b)) CF hM ⟨va_cnB (narg j') hts hG rfl rfl rfl hnw (hts _ (hw _ (by simp))) ⟨n3.1, n3.2, n5⟩ hR, hts _ (hw _ (by simp)), trivial⟩ ⟨PcJ_blind, hpc⟩ rfl (by simp; omega) hA hst2 (hroom _ c3) hd ⟨hc1, hc2⟩) hS k'
      · cases h
    · cases h
  · rename_i idx
    split at h
    · rename_i j' kk hcal
      split at h
      · rename_i hc
        obtain ⟨c0, c1, c2, c3⟩ := hc
        cases h
        dsimp only at *
        have hw := ctab_in _ (cal_mem hcal)
        obtain ⟨r, hr1⟩ : ∃ r, st.getD (narg j') .null = .ref r := by
          unfold rcvOk at c1
          split at c1
          · rename_i r hr; exact ⟨r, hr⟩
          · cases c1
        have hst : st[narg j']? = some (.ref r) := by
          rw [List.getElem?_eq_getElem c2]
          rw [List.getD_eq_getElem?_getD, List.getElem?_eq_getElem c2] at hr1
          exact congrArg some hr1
        have hAs : (st.take (narg j' + 1)).reverse = .ref r :: (st.take (narg j')).reverse := by
          rw [List.take_add_one, hst]; simp
        have hst2 : st.map (tr b) = ((st.take (narg j')).reverse.map (tr b)).reverse ++ .ref (b + r) :: (st.drop (narg j' + 1)).map (tr b) := by
          rw [rev_tr]
          have e1 : st = st.take (narg j') ++ .ref r :: st.drop (narg j' + 1) := by
            have e2 := List.take_append_drop (narg j') st
            rw [List.drop_eq_getElem_cons c2] at e2
            have e3 : st[narg j'] = .ref r := by
              rw [List.getElem?_eq_getElem c2] at hst
              exact Option.some.inj hst
            rw [e3] at e2
            exact e2.symm
          have e4 := congrArg (List.map (tr b)) e1
          rw [List.map_append, List.map_cons] at e4
          rw [← List.map_take]
          exact e4
        rw [hAs] at hM hpc
        have hini : (yj j').name = "<init>" ∧ rtj j' = none := (by decide +kernel : ∀ q ∈ ctab, q.2.2 = 2 ∨ q.2.2 = 4 → (yj q.2.1).name = "<init>" ∧ rtj q.2.1 = none) _ (cal_mem hcal) c0
        have hws : wsj j' = Cond.code (yj j') (cdj j') (mxj j') none :: tw := by unfold wsj; rw [hini.2]
        rcases c0 with rfl | rfl
        · simp only [cwd] at hw
          exact my_call (va_runI (b := b + r) (As := (st.take (narg j')).reverse.map (tr b)) (rest := (st.drop (narg j' + 1)).map (tr b)) CF hM (cwI (narg j') hts hG hws rfl rfl (hts _ (hw _ (by simp))) (hts _ (hw _ (by simp))) (hts _ (hw _ (by simp))) hini.1 ⟨n3.1, n3.2, n5⟩ hR) ⟨PcJ_blind, hpc⟩ rfl (by simp; omega) hA hst2 (hroom _ c3) hd ⟨hc1, hc2⟩) hS k'
        · simp only [cwd] at hw
          have hnw : va_Nw (cwdN ((owc j, idx), (j', 4))) s := hN _ (List.mem_append_right _ (List.mem_map_of_mem (List.mem_filter.mpr ⟨cal_mem hcal, rfl⟩)))
          exact my_call (va_runIN (b := b + r) (As := (st.take (narg j')).reverse.map (tr b)) (rest := (st.drop (narg j' + 1)).map (tr b)) CF hM ⟨va_cnB (narg j') hts hG hws rfl rfl hnw (hts _ (hw _ (by simp))) ⟨n3.1, n3.2, n5⟩ hR, hini.1, hts _ (hw _ (by simp))⟩ ⟨PcJ_blind, hpc⟩ rfl (by simp; omega) hA hst2 (hroom _ c3) hd ⟨hc1, hc2⟩) hS k'
      · cases h
    · cases h
  · cases h
end SimD
end
section
/-! THE SIMULATION: what the pure machine answers, the true one answers -/
theorem heapW_mono {j : Nat} {i : Instr} {st : List Value} {w : Wd} {q : List Value × Wd} (h : heapW j i st w = some q) : w.length ≤ q.2.length ∧ wsz w ≤ wsz q.2 := by
  unfold heapW at h
  split at h
  · obtain ⟨f, hf, h1⟩ := Option.bind_eq_some_iff.mp h
    obtain ⟨w', h2, rfl⟩ := Option.map_eq_some_iff.mp h1
    unfold pfW at h2
    split at h2
    · rename_i q hq
      split at h2
      · cases h2
        obtain ⟨z1, z2⟩ := cell_same (q' := (q.1, q.2.set f.2 _)) hq (by simp) rfl
        exact ⟨Nat.le_of_eq z1.symm, Nat.le_of_eq z2.symm⟩
      · cases h2
    · cases h2
  · obtain ⟨w', h2, rfl⟩ := Option.map_eq_some_iff.mp h
    obtain ⟨q, hq, ht, h0, hlt, rfl⟩ := asW_spec h2
    obtain ⟨z1, z2⟩ := cell_same (q' := (q.1, q.2.set _ _)) hq (by simp) rfl
    exact ⟨Nat.le_of_eq z1.symm, Nat.le_of_eq z2.symm⟩
  · split at h
    · obtain ⟨w', h2, rfl⟩ := Option.map_eq_some_iff.mp h
      obtain ⟨q, hq, ht, h0, hlt, rfl⟩ := asW_spec h2
      obtain ⟨z1, z2⟩ := cell_same (q' := (q.1, q.2.set _ _)) hq (by simp) rfl
      exact ⟨Nat.le_of_eq z1.symm, Nat.le_of_eq z2.symm⟩
    · cases h
  · obtain ⟨w', h2, rfl⟩ := Option.map_eq_some_iff.mp h
    unfold aaW at h2
    split at h2
    · rename_i q u hq hu
      split at h2
      · cases h2
        obtain ⟨z1, z2⟩ := cell_same (q' := (q.1, q.2.set _ _)) hq (by simp) rfl
        exact ⟨Nat.le_of_eq z1.symm, Nat.le_of_eq z2.symm⟩
      · cases h2
    · cases h2
  · split at h
    · split at h
      · cases h
        exact ⟨by simp, by rw [wsz_push]; omega⟩
      · cases h
    · cases h
  · split at h
    · cases h
    · cases h
      exact ⟨by simp, by rw [wsz_push]; omega⟩
  · split at h
    · cases h
    · cases h
      exact ⟨by simp, by rw [wsz_push]; omega⟩
  · split at h
    · cases h
    · split at h
      · cases h
        exact ⟨by simp, by rw [wsz_push]; omega⟩
      · cases h
        exact ⟨by simp, by rw [wsz_push]; omega⟩
      · cases h
  · cases h
theorem natOp_mono {j : Nat} {i : Instr} {st : List Value} {w : Wd} {q : List Value × Wd} (h : natOp j i st w = some q) : q.2.length = w.length ∧ wsz q.2 = wsz w := by
  unfold natOp at h
  split at h
  · split at h
    · cases h; exact ⟨rfl, rfl⟩
    · cases h
  · split at h
    · obtain ⟨w', h2, rfl⟩ := Option.map_eq_some_iff.mp h
      unfold acW at h2
      split at h2
      · rename_i q u hq hu
        split at h2
        · cases h2
          exact cell_same (q' := (u.1, cpV q.2 u.2 _ _ _)) hu (by simp [cpV]) rfl
        · cases h2
      · cases h2
    · cases h
  · split at h
    · split at h
      · cases h; exact ⟨rfl, rfl⟩
      · cases h
    · split at h
      · cases h; exact ⟨rfl, rfl⟩
      · cases h
    · cases h
  · cases h
theorem ev_mono : ∀ (n d j pc : Nat) (ls st : List Value) (w w' : Wd) (v : Option Value), ev n d j pc ls st w = some (w', v) → w.length ≤ w'.length ∧ wsz w ≤ wsz w'
  | 0, _, _, _, _, _, _, _, _, h => by cases h
  | n + 1, d, j, pc, ls, st, w, w', v, h => by
    unfold ev at h
    split at h
    · cases h
    · split at h
      · obtain ⟨q, h1, h2⟩ := Option.bind_eq_some_iff.mp h
        exact ev_mono n _ _ _ _ _ _ _ _ h2
      · obtain ⟨q, h1, h2⟩ := Option.bind_eq_some_iff.mp h
        exact ev_mono n _ _ _ _ _ _ _ _ h2
      · obtain ⟨q, h1, h2⟩ := Option.bind_eq_some_iff.mp h
        exact ev_mono n _ _ _ _ _ _ _ _ h2
      · obtain ⟨q, h1, h2⟩ := Option.bind_eq_some_iff.mp h
        exact ev_mono n _ _ _ _ _ _ _ _ h2
      · obtain ⟨q, h1, h2⟩ := Option.bind_eq_some_iff.mp h
        exact ev_mono n _ _ _ _ _ _ _ _ h2
      · obtain ⟨q, h1, h2⟩ := Option.bind_eq_some_iff.mp h
        have a := heapW_mono h1
        have b := ev_mono n _ _ _ _ _ _ _ _ h2
        exact ⟨Nat.le_trans a.1 b.1, Nat.le_trans a.2 b.2⟩
      · split at h
        · split at h
          · cases h
          · split at h
            · obtain ⟨q, h1, h2⟩ := Option.bind_eq_some_iff.mp h
              have a := ev_mono n _ _ _ _ _ _ q.1 q.2 h1
              have b := ev_mono n _ _ _ _ _ _ _ _ h2
              exact ⟨Nat.le_trans a.1 b.1, Nat.le_trans a.2 b.2⟩
            · cases h
        · obtain ⟨q, h1, h2⟩ := Option.bind_eq_some_iff.mp h
          have a := natOp_mono h1
          have b := ev_mono n _ _ _ _ _ _ _ _ h2
          exact ⟨by rw [← a.1]; exact b.1, by rw [← a.2]; exact b.2⟩
      · obtain ⟨q, h1, h2⟩ := Option.map_eq_some_iff.mp h
        cases h2
        exact ⟨Nat.le_refl _, Nat.le_refl _⟩
def S_ (l : Launch) (n : Nat) : Prop := ∀ (d j pc : Nat) (ls st : List Value) (w w' : Wd) (rv : Option Value), ev n d j pc ls st w = some (w', rv) → ∀ (p : Program) (e : Env) (R : Room) (s : State) (m : MethodId) (args : Array Value) (below : List Frame) (meth : Method) (c : Code) (H : Heap) (locs : List Loc) (b : Nat) (D : va_G) (cs : CS) (A : Array Slot) (x0 y0 : Nat),
  Cx p m c s args (cdj j) (mxj j) (RC (owc j)) D cs → meth.sig.returnType = rtj j → meth.locks = false → meth.name = (yj j).name → lrl b ls A → ls.length = mxj j → va_P D vwCl (trW b cs w) H → va_S (fun q => b ≤ q) s.heap H locs → s.heap.size = b + x0 → x0 ≤ w.length → y0 ≤ wsz w → w'.length - x0 ≤ R.cells → wsz w' - y0 ≤ R.slots → d + 1 ≤ R.frames → 60 * (d + 1) ≤ R.locals →
  W p l e R s m args below meth c H locs (w.length - x0) (wsz w - y0) (MQ below (QC b D cs w' rv) args s (w'.length - x0) (wsz w' - y0) (fun q => b ≤ q)) (F0 m pc A (st.map (tr b)))
theorem lay_args {b : Nat} : ∀ (As : List Value) (k i : Nat) (v : Value), (layA As)[i]? = some v → v ≠ .null → (k + i, tr b v) ∈ lv_args k (As.map (tr b))
  | [], k, i, v, h, _ => by simp [layA] at h
  | a :: As, k, i, v, h, hv => by
    simp only [layA] at h
    by_cases hc : a.category = 2
    · rw [if_pos hc] at h
      simp only [List.map_cons, lv_args, tr_cat, hc, if_true]
      match i, h with
      | 0, h =>
        simp at h
        subst h
        exact List.mem_cons_self
      | 1, h =>
        simp at h
        exact absurd h.symm hv
      | i + 2, h =>
        have := lay_args (b := b) As (k + 2) i v (by simpa using h) hv
        refine List.mem_cons_of_mem _ ?_
        have e : k + 2 + i = k + (i + 2) := by omega
        rw [e] at this
        exact this
    · rw [if_neg hc] at h
      simp only [List.map_cons, lv_args, tr_cat, hc, if_false]
      match i, h with
      | 0, h =>
        simp at h
        subst h
        exact List.mem_cons_self
      | i + 1, h =>
        have := lay_args (b := b) As (k + 1) i v (by simpa using h) hv
        refine List.mem_cons_of_mem _ ?_
        have e : k + 1 + i = k + (i + 1) := by omega
        rw [e] at this
        exact this
theorem lay_len {b : Nat} : ∀ (As : List Value), (lg_sl (As.map (tr b))).length = (layA As).length
  | [] => rfl
  | a :: As => by
    have := lay_len (b := b) As
    simp only [lg_sl, List.map_cons, List.flatMap_cons, List.length_append, layA, tr_cat] at this ⊢
    by_cases hc : a.category = 2
    · simp only [hc, if_true, List.length_cons, List.length_nil] at this ⊢
      omega
    · simp only [hc, if_false, List.length_cons, List.length_nil] at this ⊢
      omega
theorem ent_lrl {b j : Nat} {As : List Value} (h : (layA As).length ≤ mxj j) : lrl b (entL j As) ((lg_sl (As.map (tr b)) ++ List.replicate (mxj j - (lg_sl (As.map (tr b))).length) Slot.unset).toArray) ∧ (entL j As).length = mxj j := by
  have hl : (entL j As).length = mxj j := by simp [entL]; omega
  have h1 := lv_entry (As.map (tr b)) (n := mxj j) (by rw [lay_len]; exact h)
  refine ⟨⟨h1.1.trans hl.symm, h1.2.1, fun i v hi hv => ?_⟩, hl⟩
  have h2 : (layA As)[i]? = some v := by
    unfold entL at hi
    by_cases hi2 : i < (layA As).length
    · rw [List.getElem?_append_left hi2] at hi
      exact hi
    · rw [List.getElem?_append_right (by omega)] at hi
      have := List.eq_of_mem_replicate (List.mem_of_getElem? hi)
      exact absurd this hv
  have h3 := lay_args (b := b) As 0 i v h2 hv
  rw [Nat.zero_add] at h3
  exact h1.2.2 _ h3
theorem ev_ins {n d j pc : Nat} {ls st : List Value} {w : Wd} {r : Wd × Option Value} (h : ev n d j pc ls st w = some r) : ∃ i, insAt j pc = some i := by
  cases n with
  | zero => cases h
  | succ n =>
    unfold ev at h
    split at h
    · cases h
    · rename_i i hi
      exact ⟨i, hi⟩
set_option maxHeartbeats 4000000 in
/-- the contract of a method, out of what the pure machine answers -/
theorem met_of {l : Launch} {n : Nat} (hS : S_ l n) {d j : Nat} {As : List Value} {w w' : Wd} {rv : Option Value} (hev : ev n d j 0 (entL j As) [] w = some (w', rv)) (hla : (layA As).length ≤ mxj j) (b : Nat) (D : va_G) (cs : CS) :
    Met l (yj j) (wsj j) (rmd d (w'.length - w.length) (wsz w' - wsz w)) (PcJ b D cs As w) (QC b D cs w' rv) (w'.length - w.length) (wsz w' - wsz w) (fun q => b ≤ q) := by
  obtain ⟨i0, hi0⟩ := ev_ins hev
  obtain ⟨q, hq⟩ := mt_of hi0
  obtain ⟨n1, n2, n3, n4, n5, n6⟩ := mt_name hq
  refine Met.ofW (cc := cdj j) (maxL := mxj j) (ret := rtj j) n1 rfl ?_
  intro p e s m args below meth c s₁ B hml hv
  obtain ⟨rfl, hsz, hP, hK, hN, hA1, hA2⟩ := hv
  have hts := atoms_spec (ws := wsj j) B.pre
  have hown : s.vm.findClass (RC (owc j)) = some m.cls := by rw [← n2]; exact findClass_of_methodNamed B.named
  have hname : meth.name = (yj j).name := (name_of_methodNamed B.named B.method).1
  rw [lg_entry_eq]
  obtain ⟨hl, hlen⟩ := ent_lrl (b := b) hla
  have := hS d j 0 (entL j As) [] w w' rv hev p e (headSpec (wsj j) (rmd d (w'.length - w.length) (wsz w' - wsz w))).room s m (As.map (tr b)).toArray below meth c s.heap [] b D cs _ w.length (wsz w)
    ⟨⟨B.exec, B.bytes, hml, hown, fun w hw => hts w (List.mem_cons_of_mem _ hw)⟩, hN, ⟨hA1, hA2⟩, hK⟩ B.returns B.notSynchronized hname hl hlen hP va_S.rf hsz (Nat.le_refl _) (Nat.le_refl _) (Nat.le_refl _) (Nat.le_refl _) (Nat.le_refl _) (Nat.le_refl _)
  rw [Nat.sub_self, Nat.sub_self] at this
  exact this
theorem nosw {i : Instr} (h : kdI i ≠ 3) : isSw i = false := by cases i <;> first | rfl | exact absurd rfl h
theorem len_call {j : Nat} {i : Instr} (h : kdI i = 6) : stdLen i = 3 := by cases i <;> first | rfl | (simp [kdI] at h)
theorem len_ret {j : Nat} {i : Instr} {st : List Value} {v : Option Value} (h : retOp j i st = some v) : stdLen i = 1 := by
  unfold retOp at h
  split at h <;> first | rfl | cases h
theorem storeOp_len {i : Instr} {ls st : List Value} {q : List Value × List Value} (h : storeOp i ls st = some q) : q.1.length = ls.length := by
  unfold storeOp at h
  split at h
  · obtain ⟨l1, h1, rfl⟩ := Option.map_eq_some_iff.mp h
    obtain ⟨g1, g2, rfl⟩ := st1_spec h1
    simp
  · obtain ⟨l1, h1, rfl⟩ := Option.map_eq_some_iff.mp h
    obtain ⟨g1, g2, rfl⟩ := st1_spec h1
    simp
  · obtain ⟨l1, h1, rfl⟩ := Option.map_eq_some_iff.mp h
    obtain ⟨g1, g2, rfl⟩ := st1_spec h1
    simp
  · obtain ⟨l1, h1, rfl⟩ := Option.map_eq_some_iff.mp h
    obtain ⟨g1, g2, rfl⟩ := st1_spec h1
    simp
  · obtain ⟨l1, h1, rfl⟩ := Option.map_eq_some_iff.mp h
    obtain ⟨g1, g2, rfl⟩ := st2_spec h1
    simp
  · obtain ⟨l1, h1, rfl⟩ := Option.map_eq_some_iff.mp h
    obtain ⟨g1, g2, rfl⟩ := st2_spec h1
    simp
  · split at h
    · obtain ⟨l1, h1, rfl⟩ := Option.map_eq_some_iff.mp h
      obtain ⟨g1, g2, rfl⟩ := st1_spec h1
      simp
    · cases h
  · cases h
set_option maxHeartbeats 8000000 in
theorem sim (l : Launch) : ∀ n, S_ l n := by
  intro n
  induction n with
  | zero => intro d j pc ls st w w' rv h; cases h
  | succ n ih =>
    intro d j pc ls st w w' rv h p e R s m args below meth c H locs b D cs A x0 y0 C hr hlk hnm hl hll hP hS hsz hx0 hy0 hRc hRs hRf hRl
    have hmono := ev_mono _ _ _ _ _ _ _ _ _ h
    have hA : A.size = mxj j := hl.1.trans hll
    have hbs : b ≤ s.heap.size := by omega
    have hx := C.1.1
    have hb := C.1.2.1
    have hown := C.1.2.2.2.1
    have hts := C.1.2.2.2.2
    unfold ev at h
    split at h
    · cases h
    · rename_i i hi
      split at h
      · rename_i hk
        obtain ⟨st', h1, h2⟩ := Option.bind_eq_some_iff.mp h
        exact sim_pure hx hb hown hts h1 (mt_decS hi (nosw (by rw [hk]; decide))) (ih _ _ _ _ _ _ _ _ h2 p e R s m args below meth c H locs b D cs A x0 y0 C hr hlk hnm hl hll hP hS hsz hx0 hy0 hRc hRs hRf hRl)
      · rename_i hk
        obtain ⟨v, h1, h2⟩ := Option.bind_eq_some_iff.mp h
        exact sim_load hx hb hl h1 (mt_decS hi (nosw (by rw [hk]; decide))) (ih _ _ _ _ _ _ _ _ h2 p e R s m args below meth c H locs b D cs A x0 y0 C hr hlk hnm hl hll hP hS hsz hx0 hy0 hRc hRs hRf hRl)
      · rename_i hk
        obtain ⟨q, h1, h2⟩ := Option.bind_eq_some_iff.mp h
        exact sim_store hx hb hl h1 (mt_decS hi (nosw (by rw [hk]; decide))) (fun A' hl' => ih _ _ _ _ _ _ _ _ h2 p e R s m args below meth c H locs b D cs A' x0 y0 C hr hlk hnm hl' ((storeOp_len h1).trans hll) hP hS hsz hx0 hy0 hRc hRs hRf hRl)
      · rename_i hk
        obtain ⟨q, h1, h2⟩ := Option.bind_eq_some_iff.mp h
        obtain ⟨len, hd, hlen⟩ := mt_dec hi
        exact sim_br hx hb h1 hd hlen (ih _ _ _ _ _ _ _ _ h2 p e R s m args below meth c H locs b D cs A x0 y0 C hr hlk hnm hl hll hP hS hsz hx0 hy0 hRc hRs hRf hRl)
      · rename_i hk
        obtain ⟨st', h1, h2⟩ := Option.bind_eq_some_iff.mp h
        exact sim_hr C hP h1 (mt_decS hi (nosw (by rw [hk]; decide))) (ih _ _ _ _ _ _ _ _ h2 p e R s m args below meth c H locs b D cs A x0 y0 C hr hlk hnm hl hll hP hS hsz hx0 hy0 hRc hRs hRf hRl)
      · rename_i hk
        obtain ⟨q, h1, h2⟩ := Option.bind_eq_some_iff.mp h
        have m1 := heapW_mono h1
        have m2 := ev_mono _ _ _ _ _ _ _ _ _ h2
        have e1 : w.length - x0 + (q.2.length - w.length) = q.2.length - x0 := by omega
        have e2 : wsz w - y0 + (wsz q.2 - wsz w) = wsz q.2 - y0 := by omega
        refine sim_hw C hnm hP hS hbs (by omega) h1 (mt_decS hi (nosw (by rw [hk]; decide))) (by omega) (by omega) (fun H1 locs1 p1 s1 => ?_)
        rw [e1, e2]
        exact ih _ _ _ _ _ _ _ _ h2 p e R s m args below meth c H1 locs1 b D cs A x0 y0 C hr hlk hnm hl hll p1 s1 hsz (by omega) (by omega) hRc hRs hRf hRl
      · rename_i hk
        have hd := mt_decS hi (nosw (by rw [hk]; decide))
        rw [len_call (j := j) hk] at hd
        split at h
        · rename_i cl hcl
          split at h
          · cases h
          · rename_i d'
            split at h
            · rename_i hla
              obtain ⟨r, h1, h2⟩ := Option.bind_eq_some_iff.mp h
              obtain ⟨w1, rv1⟩ := r
              have m1 := ev_mono _ _ _ _ _ _ _ _ _ h1
              have m2 := ev_mono _ _ _ _ _ _ _ _ _ h2
              obtain ⟨i0, hi0⟩ := ev_ins h1
              obtain ⟨q, hq⟩ := mt_of hi0
              have e1 : w.length - x0 + (w1.length - w.length) = w1.length - x0 := by omega
              have e2 : wsz w - y0 + (wsz w1 - wsz w) = wsz w1 - y0 := by omega
              dsimp only at m1 m2 h2
              refine sim_call C hA hP hS hbs (by omega) hcl hd (d := d') (by omega) (by omega) hq (met_of ih h1 hla b D cs) (by omega) (by omega) (fun H1 locs1 p1 s1 => ?_)
              rw [e1, e2]
              exact ih _ _ _ _ _ _ _ _ h2 p e R s m args below meth c H1 locs1 b D cs A x0 y0 C hr hlk hnm hl hll p1 s1 hsz (by omega) (by omega) hRc hRs hRf hRl
            · cases h
        · obtain ⟨q, h1, h2⟩ := Option.bind_eq_some_iff.mp h
          have m1 := natOp_mono h1
          refine sim_nat C hA hP hS h1 hd (by omega) (by omega) (by omega) (by omega) (fun H1 locs1 p1 s1 => ?_)
          have := ih _ _ _ _ _ _ _ _ h2 p e R s m args below meth c H1 locs1 b D cs A x0 y0 C hr hlk hnm hl hll p1 s1 hsz (by omega) (by omega) hRc hRs hRf hRl
          rw [m1.1, m1.2] at this
          exact this
      · rename_i hk0 hk1 hk2 hk3 hk4 hk5 hk6
        obtain ⟨v, h1, h2⟩ := Option.map_eq_some_iff.mp h
        cases h2
        have hd := mt_decS hi (nosw hk3)
        rw [len_ret h1] at hd
        exact sim_ret hx hb hr hlk h1 hd (fun t ht _ => ⟨rfl, by rw [ht]; exact hP, hS.F ht⟩) hS.2.2
end
section
/-! THE MEMORY: the world that the two constructors make, its numbers apart. In 'shp' a cell is its tag and, for each of its places, 0 a number, 1 a long, r + 2 the reference r. -/
def shp : List (Nat × List Nat) := [(7, [3, 5, 6, 9, 12, 17, 33, 60, 62, 64, 66, 69, 70, 71, 0, 0, 1]),
  (2, [4, 0]),
  (100, List.replicate 24 0),
  (102, [72, 74, 76]),
  (1, [7, 8, 0]),
  (100, List.replicate 17 0),
  (100, List.replicate 5 0),
  (1, [10, 11, 0]),
  (100, List.replicate 17 0),
  (100, List.replicate 5 0),
  (6, [13, 16, 0, 0]),
  (1, [14, 15, 0]),
  (100, List.replicate 17 0),
  (100, List.replicate 5 0),
  (100, List.replicate 5 0),
  (3, [18, 23, 28, 0, 0, 0]),
  (6, [19, 22, 0, 0]),
  (1, [20, 21, 0]),
  (100, List.replicate 17 0),
  (100, List.replicate 5 0),
  (100, List.replicate 5 0),
  (6, [24, 27, 0, 0]),
  (1, [25, 26, 0]),
  (100, List.replicate 17 0),
  (100, List.replicate 5 0),
  (100, List.replicate 5 0),
  (6, [29, 32, 0, 0]),
  (1, [30, 31, 0]),
  (100, List.replicate 17 0),
  (100, List.replicate 5 0),
  (100, List.replicate 5 0),
  (0, [34, 0, 0, 0, 0]),
  (103, [35, 40, 45, 50, 55]),
  (6, [36, 39, 0, 0]),
  (1, [37, 38, 0]),
  (100, List.replicate 17 0),
  (100, List.replicate 5 0),
  (100, List.replicate 5 0),
  (6, [41, 44, 0, 0]),
  (1, [42, 43, 0]),
  (100, List.replicate 17 0),
  (100, List.replicate 5 0),
  (100, List.replicate 5 0),
  (6, [46, 49, 0, 0]),
  (1, [47, 48, 0]),
  (100, List.replicate 17 0),
  (100, List.replicate 5 0),
  (100, List.replicate 5 0),
  (6, [51, 54, 0, 0]),
  (1, [52, 53, 0]),
  (100, List.replicate 17 0),
  (100, List.replicate 5 0),
  (100, List.replicate 5 0),
  (6, [56, 59, 0, 0]),
  (1, [57, 58, 0]),
  (100, List.replicate 17 0),
  (100, List.replicate 5 0),
  (100, List.replicate 5 0),
  (4, [61]),
  (100, List.replicate 204 0),
  (4, [63]),
  (100, List.replicate 34 0),
  (4, [65]),
  (100, List.replicate 1020 0),
  (5, [67, 68, 0]),
  (100, List.replicate 6 0),
  (100, List.replicate 6 0),
  (100, List.replicate 3 0),
  (100, List.replicate 16 0),
  (100, List.replicate 16 0),
  (2, [73, 0]),
  (100, List.replicate 24 0),
  (2, [75, 0]),
  (100, List.replicate 24 0),
  (2, [77, 0]),
  (100, List.replicate 24 0),
  (8, [0, 79, 80, 81, 0, 82, 83, 0, 0, 0, 84, 0, 85, 86, 87, 0, 88, 89, 1, 90, 91]),
  (100, List.replicate 5 0),
  (100, List.replicate 176 0),
  (100, List.replicate 24 0),
  (100, List.replicate 72 0),
  (100, List.replicate 3 0),
  (100, List.replicate 204 0),
  (100, List.replicate 6 0),
  (100, List.replicate 976 0),
  (100, List.replicate 3 0),
  (100, List.replicate 6 0),
  (100, List.replicate 6 0),
  (101, List.replicate 2 0),
  (100, List.replicate 34 0)]
abbrev Mt : Type := Nat → Nat → Int32
abbrev Lt : Type := Nat → Int64
def fv (M : Mt) (L : Lt) (i k : Nat) : Nat → Value
  | 0 => .int (M i k)
  | 1 => .long (L i)
  | r + 2 => .ref r
def mpx {α β : Type} (f : Nat → α → β) : Nat → List α → List β
  | _, [] => []
  | k, a :: l => f k a :: mpx f (k + 1) l
theorem mpx_get {α β : Type} (f : Nat → α → β) : ∀ (l : List α) (k i : Nat), (mpx f k l)[i]? = (l[i]?).map (f (k + i))
  | [], k, i => by simp [mpx]
  | a :: l, k, 0 => by simp [mpx]
  | a :: l, k, i + 1 => by
    have := mpx_get f l (k + 1) i
    simp only [mpx, List.getElem?_cons_succ, this]
    rw [show k + 1 + i = k + (i + 1) by omega]
theorem mpx_get0 {α β : Type} (f : Nat → α → β) (l : List α) (i : Nat) : (mpx f 0 l)[i]? = (l[i]?).map (f i) := by rw [mpx_get, Nat.zero_add]
theorem mpx_len {α β : Type} (f : Nat → α → β) : ∀ (l : List α) (k : Nat), (mpx f k l).length = l.length
  | [], _ => rfl
  | a :: l, k => by simp [mpx, mpx_len f l (k + 1)]
def cellV (M : Mt) (L : Lt) (i : Nat) (dl : List Nat) : List Value := mpx (fun k f => fv M L i k f) 0 dl
def wOf (M : Mt) (L : Lt) : Wd := mpx (fun i q => (q.1, cellV M L i q.2)) 0 shp
def up2 (M : Mt) (i k : Nat) (v : Int32) : Mt := fun a b => if a = i ∧ b = k then v else M a b
def upL (L : Lt) (i : Nat) (v : Int64) : Lt := fun a => if a = i then v else L a
/-- n numbers of the cell i0 from sp on, laid into the cell i1 from dp on -/
def cpM (M : Mt) (i0 sp i1 dp n : Nat) : Mt := fun a b => if a = i1 ∧ dp ≤ b ∧ b < dp + n then M i0 (sp + (b - dp)) else M a b
theorem wOf_get {M : Mt} {L : Lt} {i : Nat} {t : Nat} {dl : List Nat} (h : shp[i]? = some (t, dl)) : (wOf M L)[i]? = some (t, cellV M L i dl) := by simp [wOf, mpx_get0, h]
theorem cellV_get {M : Mt} {L : Lt} {i k f : Nat} {dl : List Nat} (h : dl[k]? = some f) : (cellV M L i dl)[k]? = some (fv M L i k f) := by simp [cellV, mpx_get0, h]
theorem cellV_len {M : Mt} {L : Lt} {i : Nat} {dl : List Nat} : (cellV M L i dl).length = dl.length := mpx_len _ _ _
theorem wOf_len {M : Mt} {L : Lt} : (wOf M L).length = shp.length := mpx_len _ _ _
theorem cellV_other {M M' : Mt} {L L' : Lt} {i : Nat} {dl : List Nat} (h1 : ∀ k, M' i k = M i k) (h2 : L' i = L i) : cellV M' L' i dl = cellV M L i dl := by
  unfold cellV
  apply List.ext_getElem?
  intro k
  simp only [mpx_get0]
  congr 1
  funext f
  match f with
  | 0 => simp [fv, h1]
  | 1 => simp [fv, h2]
  | r + 2 => rfl
theorem wOf_set {M M' : Mt} {L L' : Lt} {i t : Nat} {dl : List Nat} {vs : List Value} (h : shp[i]? = some (t, dl)) (hv : vs = cellV M' L' i dl) (h1 : ∀ a, a ≠ i → ∀ k, M' a k = M a k) (h2 : ∀ a, a ≠ i → L' a = L a) : (wOf M L).set i (t, vs) = wOf M' L' := by
  apply List.ext_getElem?
  intro a
  rw [List.getElem?_set]
  by_cases e : i = a
  · subst e
    have hl : i < (wOf M L).length := by rw [wOf_len]; exact (List.getElem?_eq_some_iff.mp h).1
    rw [if_pos rfl, if_pos hl, wOf_get h, hv]
  · rw [if_neg e]
    simp only [wOf, mpx_get0]
    congr 1
    funext q
    rw [cellV_other (h1 a (Ne.symm e)) (h2 a (Ne.symm e))]
theorem cellV_setI {M : Mt} {L : Lt} {i k : Nat} {dl : List Nat} {v : Int32} (h : dl[k]? = some 0) : (cellV M L i dl).set k (.int v) = cellV (up2 M i k v) L i dl := by
  apply List.ext_getElem?
  intro a
  rw [List.getElem?_set]
  have hk : k < dl.length := (List.getElem?_eq_some_iff.mp h).1
  by_cases e : k = a
  · subst e
    rw [if_pos rfl, if_pos (by rw [cellV_len]; exact hk), cellV_get h]
    simp [fv, up2]
  · rw [if_neg e]
    simp only [cellV, mpx_get0]
    congr 1
    funext f
    match f with
    | 0 => simp [fv, up2, Ne.symm e]
    | 1 => rfl
    | r + 2 => rfl
theorem cellV_setL {M : Mt} {L : Lt} {i k : Nat} {dl : List Nat} {v : Int64} (h : dl[k]? = some 1) (ho : ∀ a, dl[a]? = some 1 → a = k) : (cellV M L i dl).set k (.long v) = cellV M (upL L i v) i dl := by
  apply List.ext_getElem?
  intro a
  rw [List.getElem?_set]
  have hk : k < dl.length := (List.getElem?_eq_some_iff.mp h).1
  by_cases e : k = a
  · subst e
    rw [if_pos rfl, if_pos (by rw [cellV_len]; exact hk), cellV_get h]
    simp [fv, upL]
  · rw [if_neg e]
    simp only [cellV, mpx_get0]
    cases hf : dl[a]? with
    | none => rfl
    | some f =>
      match f, hf with
      | 0, hf => rfl
      | 1, hf => exact absurd (ho a hf).symm e
      | r + 2, hf => rfl
theorem up2_ne {M : Mt} {i k : Nat} {v : Int32} {a b : Nat} (h : ¬ (a = i ∧ b = k)) : up2 M i k v a b = M a b := if_neg h
theorem up2_eq {M : Mt} {i k : Nat} {v : Int32} : up2 M i k v i k = v := if_pos ⟨rfl, rfl⟩
/-! more steps, the same answer -/
theorem ev_more : ∀ (n d j pc : Nat) (ls st : List Value) (w : Wd) (r : Wd × Option Value), ev n d j pc ls st w = some r → ev (n + 1) d j pc ls st w = some r
  | 0, _, _, _, _, _, _, _, h => by cases h
  | n + 1, d, j, pc, ls, st, w, r, h => by
    unfold ev at h ⊢
    split at h
    · cases h
    · rename_i i hi
      split at h
      all_goals (rename_i hk; try simp only [hk])
      · obtain ⟨q, h1, h2⟩ := Option.bind_eq_some_iff.mp h
        rw [h1, Option.bind_some]
        exact ev_more n _ _ _ _ _ _ _ h2
      · obtain ⟨q, h1, h2⟩ := Option.bind_eq_some_iff.mp h
        rw [h1, Option.bind_some]
        exact ev_more n _ _ _ _ _ _ _ h2
      · obtain ⟨q, h1, h2⟩ := Option.bind_eq_some_iff.mp h
        rw [h1, Option.bind_some]
        exact ev_more n _ _ _ _ _ _ _ h2
      · obtain ⟨q, h1, h2⟩ := Option.bind_eq_some_iff.mp h
        rw [h1, Option.bind_some]
        exact ev_more n _ _ _ _ _ _ _ h2
      · obtain ⟨q, h1, h2⟩ := Option.bind_eq_some_iff.mp h
        rw [h1, Option.bind_some]
        exact ev_more n _ _ _ _ _ _ _ h2
      · obtain ⟨q, h1, h2⟩ := Option.bind_eq_some_iff.mp h
        rw [h1, Option.bind_some]
        exact ev_more n _ _ _ _ _ _ _ h2
      · split at h
        · split at h
          · cases h
          · split at h
            · obtain ⟨q, h1, h2⟩ := Option.bind_eq_some_iff.mp h
              rename_i hla
              rw [if_pos hla, ev_more n _ _ _ _ _ _ _ h1, Option.bind_some]
              exact ev_more n _ _ _ _ _ _ _ h2
            · cases h
        · obtain ⟨q, h1, h2⟩ := Option.bind_eq_some_iff.mp h
          rw [h1, Option.bind_some]
          exact ev_more n _ _ _ _ _ _ _ h2
      · exact h
theorem ev_up {n d j pc : Nat} {ls st : List Value} {w : Wd} {r : Wd × Option Value} (h : ev n d j pc ls st w = some r) : ∀ m, ev (n + m) d j pc ls st w = some r
  | 0 => h
  | m + 1 => ev_more (n + m) _ _ _ _ _ _ _ (ev_up h m)
/-- from here the method ends, with Q of its answer and of the memory then -/
def Wp (d j pc : Nat) (ls st : List Value) (M : Mt) (L : Lt) (Q : Option Value → Mt → Lt → Prop) : Prop := ∃ (n : Nat) (rv : Option Value) (M' : Mt) (L' : Lt), ev n d j pc ls st (wOf M L) = some (wOf M' L', rv) ∧ Q rv M' L'
end
section
/-! RULES for the memory: an instruction each -/
def isI (j pc : Nat) (i : Instr) (pc' : Nat) : Bool := decide (insAt j pc = some i) && decide (pc' = pc + stdLen i)
theorem isI_spec {j pc pc' : Nat} {i : Instr} (h : isI j pc i pc' = true) : insAt j pc = some i ∧ pc' = pc + stdLen i := by
  simp only [isI, Bool.and_eq_true, decide_eq_true_eq] at h
  exact h
section Wp
variable {d j pc pc' : Nat} {ls st : List Value} {M : Mt} {L : Lt} {Q : Option Value → Mt → Lt → Prop} {i : Instr}
theorem Wp.step {pc1 : Nat} {ls1 st1 : List Value} {M1 : Mt} {L1 : Lt} (h : ∀ n r, ev n d j pc1 ls1 st1 (wOf M1 L1) = some r → ev (n + 1) d j pc ls st (wOf M L) = some r) (k : Wp d j pc1 ls1 st1 M1 L1 Q) : Wp d j pc ls st M L Q := by
  obtain ⟨n, rv, M', L', h1, h2⟩ := k
  exact ⟨n + 1, rv, M', L', h n _ h1, h2⟩
theorem Wp.mono {Q' : Option Value → Mt → Lt → Prop} (k : Wp d j pc ls st M L Q) (h : ∀ rv M' L', Q rv M' L' → Q' rv M' L') : Wp d j pc ls st M L Q' := by
  obtain ⟨n, rv, M', L', h1, h2⟩ := k
  exact ⟨n, rv, M', L', h1, h _ _ _ h2⟩
theorem w_pure {st' : List Value} (i : Instr) (pc' : Nat) (h : isI j pc i pc' = true) (hk : kdI i = 0) (hp : pureOp (owc j) i st = some st') (k : Wp d j pc' ls st' M L Q) : Wp d j pc ls st M L Q := by
  obtain ⟨h1, rfl⟩ := isI_spec h
  refine Wp.step (fun n r hr => ?_) k
  unfold ev
  simp only [h1, hk, hp, Option.bind_some]
  exact hr
theorem w_div {x y : Int32} (pc' : Nat) (h : isI j pc .idiv pc' = true) (hy : ¬ y = 0) (k : Wp d j pc' ls (.int (x / y) :: st) M L Q) : Wp d j pc ls (.int y :: .int x :: st) M L Q := w_pure .idiv pc' h rfl (by simp [pureOp, hy]) k
theorem w_rem {x y : Int32} (pc' : Nat) (h : isI j pc .irem pc' = true) (hy : ¬ y = 0) (k : Wp d j pc' ls (.int (x - x / y * y) :: st) M L Q) : Wp d j pc ls (.int y :: .int x :: st) M L Q := w_pure .irem pc' h rfl (by simp [pureOp, hy]) k
theorem w_lrem {x y : Int64} (pc' : Nat) (h : isI j pc .lrem pc' = true) (hy : ¬ y = 0) (k : Wp d j pc' ls (.long (x - x / y * y) :: st) M L Q) : Wp d j pc ls (.long y :: .long x :: st) M L Q := w_pure .lrem pc' h rfl (by simp [pureOp, hy]) k
def kB (j pc : Nat) (v : Int32) (pc' : Nat) : Bool := match insAt j pc with
  | some (.iconst n) => decide (Int32.ofInt n = v) && decide (pc' = pc + 1)
  | some (.bipush n) => decide ((Int8.ofInt n).toInt32 = v) && decide (pc' = pc + 2)
  | some (.sipush n) => decide ((Int16.ofInt n).toInt32 = v) && decide (pc' = pc + 3)
  | some (.ldc_w n) => decide (ktab.lookup (owc j, n) = some v) && decide (pc' = pc + 3)
  | _ => false
theorem w_push (v : Int32) (pc' : Nat) (h : kB j pc v pc' = true) (k : Wp d j pc' ls (.int v :: st) M L Q) : Wp d j pc ls st M L Q := by
  unfold kB at h
  split at h <;> (try cases h; done)
  all_goals
    rename_i n hi
    simp only [Bool.and_eq_true, decide_eq_true_eq] at h
    obtain ⟨h1, rfl⟩ := h
    refine Wp.step (fun n r hr => ?_) k
    unfold ev
    simp only [hi, kdI, pureOp, h1, Option.map_some, Option.bind_some, stdLen]
    exact hr
def lB (j pc : Nat) (v : Int64) (pc' : Nat) : Bool := match insAt j pc with
  | some (.lconst n) => decide (Int64.ofNat n.val = v) && decide (pc' = pc + 1)
  | some (.ldc2_w n) => decide (ltab.lookup (owc j, n) = some v) && decide (pc' = pc + 3)
  | _ => false
theorem w_pushL (v : Int64) (pc' : Nat) (h : lB j pc v pc' = true) (k : Wp d j pc' ls (.long v :: st) M L Q) : Wp d j pc ls st M L Q := by
  unfold lB at h
  split at h <;> (try cases h; done)
  all_goals
    rename_i n hi
    simp only [Bool.and_eq_true, decide_eq_true_eq] at h
    obtain ⟨h1, rfl⟩ := h
    refine Wp.step (fun n r hr => ?_) k
    unfold ev
    simp only [hi, kdI, pureOp, h1, Option.map_some, Option.bind_some, stdLen]
    exact hr
theorem w_load {v : Value} (i : Instr) (pc' : Nat) (h : isI j pc i pc' = true) (hk : kdI i = 1) (hp : loadOp i ls = some v) (k : Wp d j pc' ls (v :: st) M L Q) : Wp d j pc ls st M L Q := by
  obtain ⟨h1, rfl⟩ := isI_spec h
  refine Wp.step (fun n r hr => ?_) k
  unfold ev
  simp only [h1, hk, hp, Option.bind_some]
  exact hr
theorem w_store {ls' st' : List Value} (i : Instr) (pc' : Nat) (h : isI j pc i pc' = true) (hk : kdI i = 2) (hp : storeOp i ls st = some (ls', st')) (k : Wp d j pc' ls' st' M L Q) : Wp d j pc ls st M L Q := by
  obtain ⟨h1, rfl⟩ := isI_spec h
  refine Wp.step (fun n r hr => ?_) k
  unfold ev
  simp only [h1, hk, hp, Option.bind_some]
  exact hr
def goB (j pc t : Nat) : Bool := match insAt j pc with
  | some (.goto off) => decide (tgt pc off = some t)
  | _ => false
theorem w_goto (t : Nat) (h : goB j pc t = true) (k : Wp d j t ls st M L Q) : Wp d j pc ls st M L Q := by
  unfold goB at h
  split at h
  · rename_i off hi
    have h1 := of_decide_eq_true h
    refine Wp.step (fun n r hr => ?_) k
    unfold ev
    simp only [hi, kdI, brOp, h1, Option.map_some, Option.bind_some]
    exact hr
  · cases h
def ifB (j pc : Nat) (c : ClassFile.Cond) (t f : Nat) : Bool := match insAt j pc with
  | some (.ifCond c' off) => decide (c' = c) && decide (tgt pc off = some t) && decide (f = pc + 3)
  | _ => false
theorem w_if {c : ClassFile.Cond} {x : Int32} {t f : Nat} (h : ifB j pc c t f = true) (kt : cnd c x 0 = true → Wp d j t ls st M L Q) (kf : cnd c x 0 = false → Wp d j f ls st M L Q) : Wp d j pc ls (.int x :: st) M L Q := by
  unfold ifB at h
  split at h
  · rename_i c' off hi
    simp only [Bool.and_eq_true, decide_eq_true_eq] at h
    obtain ⟨⟨rfl, h1⟩, rfl⟩ := h
    cases hc : cnd c' x 0 with
    | true =>
      refine Wp.step (fun n r hr => ?_) (kt hc)
      unfold ev
      simp only [hi, kdI, brOp, h1, hc, Option.map_some, Option.bind_some, if_true]
      exact hr
    | false =>
      refine Wp.step (fun n r hr => ?_) (kf hc)
      unfold ev
      simp only [hi, kdI, brOp, h1, hc, Option.map_some, Option.bind_some, Bool.false_eq_true, if_false]
      exact hr
  · cases h
def icB (j pc : Nat) (c : ClassFile.Cond) (t f : Nat) : Bool := match insAt j pc with
  | some (.if_icmp c' off) => decide (c' = c) && decide (tgt pc off = some t) && decide (f = pc + 3)
  | _ => false
theorem w_ic {c : ClassFile.Cond} {x y : Int32} {t f : Nat} (h : icB j pc c t f = true) (kt : cnd c x y = true → Wp d j t ls st M L Q) (kf : cnd c x y = false → Wp d j f ls st M L Q) : Wp d j pc ls (.int y :: .int x :: st) M L Q := by
  unfold icB at h
  split at h
  · rename_i c' off hi
    simp only [Bool.and_eq_true, decide_eq_true_eq] at h
    obtain ⟨⟨rfl, h1⟩, rfl⟩ := h
    cases hc : cnd c' x y with
    | true =>
      refine Wp.step (fun n r hr => ?_) (kt hc)
      unfold ev
      simp only [hi, kdI, brOp, h1, hc, Option.map_some, Option.bind_some, if_true]
      exact hr
    | false =>
      refine Wp.step (fun n r hr => ?_) (kf hc)
      unfold ev
      simp only [hi, kdI, brOp, h1, hc, Option.map_some, Option.bind_some, Bool.false_eq_true, if_false]
      exact hr
  · cases h
theorem w_ieq {x : Int32} (t f : Nat) (h : ifB j pc .eq t f = true) (kt : x = 0 → Wp d j t ls st M L Q) (kf : ¬ x = 0 → Wp d j f ls st M L Q) : Wp d j pc ls (.int x :: st) M L Q := w_if h (fun h => kt (by simpa [cnd] using h)) (fun h => kf (by simpa [cnd] using h))
theorem w_ceq {x y : Int32} (t f : Nat) (h : icB j pc .eq t f = true) (kt : x = y → Wp d j t ls st M L Q) (kf : ¬ x = y → Wp d j f ls st M L Q) : Wp d j pc ls (.int y :: .int x :: st) M L Q := w_ic h (fun h => kt (by simpa [cnd] using h)) (fun h => kf (by simpa [cnd] using h))
theorem w_ine {x : Int32} (t f : Nat) (h : ifB j pc .ne t f = true) (kt : ¬ x = 0 → Wp d j t ls st M L Q) (kf : x = 0 → Wp d j f ls st M L Q) : Wp d j pc ls (.int x :: st) M L Q := w_if h (fun h => kt (by simpa [cnd] using h)) (fun h => kf (by simpa [cnd] using h))
theorem w_cne {x y : Int32} (t f : Nat) (h : icB j pc .ne t f = true) (kt : ¬ x = y → Wp d j t ls st M L Q) (kf : x = y → Wp d j f ls st M L Q) : Wp d j pc ls (.int y :: .int x :: st) M L Q := w_ic h (fun h => kt (by simpa [cnd] using h)) (fun h => kf (by simpa [cnd] using h))
theorem w_ilt {x : Int32} (t f : Nat) (h : ifB j pc .lt t f = true) (kt : x < 0 → Wp d j t ls st M L Q) (kf : ¬ x < 0 → Wp d j f ls st M L Q) : Wp d j pc ls (.int x :: st) M L Q := w_if h (fun h => kt (by simpa [cnd] using h)) (fun h => kf (by simpa [cnd] using h))
theorem w_clt {x y : Int32} (t f : Nat) (h : icB j pc .lt t f = true) (kt : x < y → Wp d j t ls st M L Q) (kf : ¬ x < y → Wp d j f ls st M L Q) : Wp d j pc ls (.int y :: .int x :: st) M L Q := w_ic h (fun h => kt (by simpa [cnd] using h)) (fun h => kf (by simpa [cnd] using h))
theorem w_ige {x : Int32} (t f : Nat) (h : ifB j pc .ge t f = true) (kt : 0 ≤ x → Wp d j t ls st M L Q) (kf : ¬ 0 ≤ x → Wp d j f ls st M L Q) : Wp d j pc ls (.int x :: st) M L Q := w_if h (fun h => kt (by simpa [cnd] using h)) (fun h => kf (by simpa [cnd] using h))
theorem w_cge {x y : Int32} (t f : Nat) (h : icB j pc .ge t f = true) (kt : y ≤ x → Wp d j t ls st M L Q) (kf : ¬ y ≤ x → Wp d j f ls st M L Q) : Wp d j pc ls (.int y :: .int x :: st) M L Q := w_ic h (fun h => kt (by simpa [cnd] using h)) (fun h => kf (by simpa [cnd] using h))
theorem w_igt {x : Int32} (t f : Nat) (h : ifB j pc .gt t f = true) (kt : 0 < x → Wp d j t ls st M L Q) (kf : ¬ 0 < x → Wp d j f ls st M L Q) : Wp d j pc ls (.int x :: st) M L Q := w_if h (fun h => kt (by simpa [cnd] using h)) (fun h => kf (by simpa [cnd] using h))
theorem w_cgt {x y : Int32} (t f : Nat) (h : icB j pc .gt t f = true) (kt : y < x → Wp d j t ls st M L Q) (kf : ¬ y < x → Wp d j f ls st M L Q) : Wp d j pc ls (.int y :: .int x :: st) M L Q := w_ic h (fun h => kt (by simpa [cnd] using h)) (fun h => kf (by simpa [cnd] using h))
theorem w_ile {x : Int32} (t f : Nat) (h : ifB j pc .le t f = true) (kt : x ≤ 0 → Wp d j t ls st M L Q) (kf : ¬ x ≤ 0 → Wp d j f ls st M L Q) : Wp d j pc ls (.int x :: st) M L Q := w_if h (fun h => kt (by simpa [cnd] using h)) (fun h => kf (by simpa [cnd] using h))
theorem w_cle {x y : Int32} (t f : Nat) (h : icB j pc .le t f = true) (kt : x ≤ y → Wp d j t ls st M L Q) (kf : ¬ x ≤ y → Wp d j f ls st M L Q) : Wp d j pc ls (.int y :: .int x :: st) M L Q := w_ic h (fun h => kt (by simpa [cnd] using h)) (fun h => kf (by simpa [cnd] using h))

theorem w_tab {dd lo hi : Int} {offs : Array Int} {x : Int32} (h : insAt j pc = some (.tableswitch dd lo hi offs)) (hout : (x.toInt < lo ∨ hi < x.toInt) → ∃ t, tgt pc dd = some t ∧ Wp d j t ls st M L Q) (hin : ∀ n : Nat, x.toInt = lo + n → lo + n ≤ hi → ∃ off t, offs[n]? = some off ∧ tgt pc off = some t ∧ Wp d j t ls st M L Q) : Wp d j pc ls (.int x :: st) M L Q := by
  by_cases hc : x.toInt < lo ∨ hi < x.toInt
  · obtain ⟨t, h1, k⟩ := hout hc
    refine Wp.step (fun n r hr => ?_) k
    unfold ev
    simp only [h, kdI, brOp, if_pos hc, h1, Option.map_some, Option.bind_some]
    exact hr
  · obtain ⟨off, t, h0, h1, k⟩ := hin (x.toInt - lo).toNat (by omega) (by omega)
    refine Wp.step (fun n r hr => ?_) k
    unfold ev
    simp only [h, kdI, brOp, if_neg hc, h0, h1, Option.map_some, Option.bind_some]
    exact hr
theorem w_look {dd : Int} {ps : Array (Int × Int)} {x : Int32} (h : insAt j pc = some (.lookupswitch dd ps)) (hs : (ps.toList.zip (ps.toList.drop 1)).all (fun (a, next) => a.1 < next.1) = true) (hk : ∃ t, tgt pc (Op.lookupswitch.offset ps.toList dd x.toInt) = some t ∧ Wp d j t ls st M L Q) : Wp d j pc ls (.int x :: st) M L Q := by
  obtain ⟨t, h1, k⟩ := hk
  refine Wp.step (fun n r hr => ?_) k
  unfold ev
  simp only [h, kdI, brOp, if_pos hs, h1, Option.map_some, Option.bind_some]
  exact hr
def gB (j pc ci k pc' : Nat) : Bool := match insAt j pc with
  | some (.getfield idx) => decide (fldT (owc j) idx = some (ci, k)) && decide (k < nfC ci) && decide (pc' = pc + 3)
  | _ => false
theorem w_get {ci k a f : Nat} {dl : List Nat} (pc' : Nat) (h : gB j pc ci k pc' = true) (hs : shp[a]? = some (ci, dl)) (hd : dl[k]? = some f) (kk : Wp d j pc' ls (fv M L a k f :: st) M L Q) : Wp d j pc ls (.ref a :: st) M L Q := by
  unfold gB at h
  split at h
  · rename_i idx hi
    simp only [Bool.and_eq_true, decide_eq_true_eq] at h
    obtain ⟨⟨h1, h2⟩, rfl⟩ := h
    refine Wp.step (fun n r hr => ?_) kk
    unfold ev
    simp only [hi, kdI, heapR, h1, Option.bind_some, gfR, wOf_get hs, h2, and_self, if_true, cellV_get hd, Option.map_some, stdLen]
    exact hr
  · cases h
theorem w_getI {ci k a : Nat} {dl : List Nat} (pc' : Nat) (h : gB j pc ci k pc' = true) (hs : shp[a]? = some (ci, dl)) (hd : dl[k]? = some 0) (kk : Wp d j pc' ls (.int (M a k) :: st) M L Q) : Wp d j pc ls (.ref a :: st) M L Q := w_get pc' h hs hd kk
theorem w_getR {ci k a r : Nat} {dl : List Nat} (pc' : Nat) (h : gB j pc ci k pc' = true) (hs : shp[a]? = some (ci, dl)) (hd : dl[k]? = some (r + 2)) (kk : Wp d j pc' ls (.ref r :: st) M L Q) : Wp d j pc ls (.ref a :: st) M L Q := w_get pc' h hs hd kk
theorem w_getL {ci k a : Nat} {dl : List Nat} (pc' : Nat) (h : gB j pc ci k pc' = true) (hs : shp[a]? = some (ci, dl)) (hd : dl[k]? = some 1) (kk : Wp d j pc' ls (.long (L a) :: st) M L Q) : Wp d j pc ls (.ref a :: st) M L Q := w_get pc' h hs hd kk
def pB (j pc ci k : Nat) (ty : FieldType) (pc' : Nat) : Bool := match insAt j pc with
  | some (.putfield idx) => decide (ftab.lookup (owc j, idx) = some (ci, k)) && decide (k < nfC ci) && decide (tyC ci k = ty) && !(finC ci k) && decide (pc' = pc + 3)
  | _ => false
theorem w_put {ci k a f : Nat} {dl : List Nat} {ty : FieldType} {v : Value} {M1 : Mt} {L1 : Lt} (pc' : Nat) (h : pB j pc ci k ty pc' = true) (hs : shp[a]? = some (ci, dl)) (hd : dl[k]? = some f) (ho : okT ty v = true) (hw : (wOf M L).set a (ci, (cellV M L a dl).set k v) = wOf M1 L1) (kk : Wp d j pc' ls st M1 L1 Q) : Wp d j pc ls (v :: .ref a :: st) M L Q := by
  unfold pB at h
  split at h
  · rename_i idx hi
    simp only [Bool.and_eq_true, decide_eq_true_eq, Bool.not_eq_true'] at h
    obtain ⟨⟨⟨⟨h1, h2⟩, rfl⟩, h3⟩, rfl⟩ := h
    have hl : k < (cellV M L a dl).length := by rw [cellV_len]; exact (List.getElem?_eq_some_iff.mp hd).1
    refine Wp.step (fun n r hr => ?_) kk
    unfold ev
    simp only [hi, kdI, heapW, h1, Option.bind_some, pfW, wOf_get hs, h2, h3, hl, ho, true_and, Bool.false_eq_true, false_implies, and_self, if_true, hw, Option.map_some, stdLen]
    exact hr
  · cases h
theorem set_I {k a t : Nat} {dl : List Nat} {v : Int32} (hs : shp[a]? = some (t, dl)) (hd : dl[k]? = some 0) : (wOf M L).set a (t, (cellV M L a dl).set k (.int v)) = wOf (up2 M a k v) L := wOf_set hs (cellV_setI hd) (fun _ h _ => up2_ne (fun z => h z.1)) (fun _ _ => rfl)
theorem w_putI {ci k a : Nat} {dl : List Nat} {v : Int32} (pc' : Nat) (h : pB j pc ci k .int pc' = true) (hs : shp[a]? = some (ci, dl)) (hd : dl[k]? = some 0) (kk : Wp d j pc' ls st (up2 M a k v) L Q) : Wp d j pc ls (.int v :: .ref a :: st) M L Q := w_put pc' h hs hd rfl (set_I hs hd) kk
theorem w_putZ {ci k a : Nat} {dl : List Nat} {v : Int32} (pc' : Nat) (h : pB j pc ci k .boolean pc' = true) (hs : shp[a]? = some (ci, dl)) (hd : dl[k]? = some 0) (hv : v = 0 ∨ v = 1) (kk : Wp d j pc' ls st (up2 M a k v) L Q) : Wp d j pc ls (.int v :: .ref a :: st) M L Q := w_put pc' h hs hd (by rcases hv with rfl | rfl <;> rfl) (set_I hs hd) kk
theorem w_putL {ci k a : Nat} {dl : List Nat} {v : Int64} (pc' : Nat) (h : pB j pc ci k .long pc' = true) (hs : shp[a]? = some (ci, dl)) (hd : dl[k]? = some 1) (ho : ∀ z, dl[z]? = some 1 → z = k) (kk : Wp d j pc' ls st M (upL L a v) Q) : Wp d j pc ls (.long v :: .ref a :: st) M L Q := w_put pc' h hs hd rfl (wOf_set hs (cellV_setL hd ho) (fun _ _ _ => rfl) (fun _ h => if_neg h)) kk
/-- an index of an array of n places -/
def InB (x : Int32) (n : Nat) : Prop := ¬ x < 0 ∧ x.toNatClampNeg < n
theorem rep_get {n k : Nat} (h : k < n) : (List.replicate n (0 : Nat))[k]? = some 0 := by simp [List.getElem?_replicate, h]
theorem w_iald {x : Int32} {a n : Nat} (pc' : Nat) (h : isI j pc .iaload pc' = true) (hs : shp[a]? = some (100, List.replicate n 0)) (hb : InB x n) (kk : Wp d j pc' ls (.int (M a x.toNatClampNeg) :: st) M L Q) : Wp d j pc ls (.int x :: .ref a :: st) M L Q := by
  obtain ⟨h1, rfl⟩ := isI_spec h
  refine Wp.step (fun n r hr => ?_) kk
  unfold ev
  simp only [h1, kdI, heapR, elA, wOf_get hs, hb.1, not_false_eq_true, and_self, if_true, cellV_get (rep_get hb.2), fv, wI, Option.map_some, Option.bind_some]
  exact hr
theorem w_bald {x : Int32} {a n : Nat} (pc' : Nat) (h : isI j pc .baload pc' = true) (hs : shp[a]? = some (101, List.replicate n 0)) (hb : InB x n) (kk : Wp d j pc' ls (.int (M a x.toNatClampNeg) :: st) M L Q) : Wp d j pc ls (.int x :: .ref a :: st) M L Q := by
  obtain ⟨h1, rfl⟩ := isI_spec h
  refine Wp.step (fun n r hr => ?_) kk
  unfold ev
  simp only [h1, kdI, heapR, elA, wOf_get hs, hb.1, not_false_eq_true, and_self, if_true, cellV_get (rep_get hb.2), fv, wI, Option.map_some, Option.bind_some]
  exact hr
theorem w_aald {x : Int32} {a t r : Nat} {dl : List Nat} (pc' : Nat) (h : isI j pc .aaload pc' = true) (hs : shp[a]? = some (t, dl)) (ht : t = 102 ∨ t = 103) (hx : ¬ x < 0) (hd : dl[x.toNatClampNeg]? = some (r + 2)) (kk : Wp d j pc' ls (.ref r :: st) M L Q) : Wp d j pc ls (.int x :: .ref a :: st) M L Q := by
  obtain ⟨h1, rfl⟩ := isI_spec h
  refine Wp.step (fun n r hr => ?_) kk
  unfold ev
  simp only [h1, kdI, heapR, aaR, wOf_get hs, hx, ht, not_false_eq_true, and_self, if_true, cellV_get hd, fv, wR, Option.map_some, Option.bind_some]
  exact hr
theorem w_alen {a t : Nat} {dl : List Nat} (v : Int32) (pc' : Nat) (h : isI j pc .arraylength pc' = true) (hs : shp[a]? = some (t, dl)) (ht : 100 ≤ t ∧ t ≤ 103) (hv : Int32.ofNat dl.length = v) (kk : Wp d j pc' ls (.int v :: st) M L Q) : Wp d j pc ls (.ref a :: st) M L Q := by
  obtain ⟨h1, rfl⟩ := isI_spec h
  subst hv
  refine Wp.step (fun n r hr => ?_) kk
  unfold ev
  simp only [h1, kdI, heapR, alR, wOf_get hs, ht, and_self, if_true, cellV_len, Option.map_some, Option.bind_some]
  exact hr
theorem w_iast {x v : Int32} {a n : Nat} (pc' : Nat) (h : isI j pc .iastore pc' = true) (hs : shp[a]? = some (100, List.replicate n 0)) (hb : InB x n) (kk : Wp d j pc' ls st (up2 M a x.toNatClampNeg v) L Q) : Wp d j pc ls (.int v :: .int x :: .ref a :: st) M L Q := by
  obtain ⟨h1, rfl⟩ := isI_spec h
  refine Wp.step (fun n r hr => ?_) kk
  unfold ev
  simp only [h1, kdI, heapW, asW, wOf_get hs, hb.1, cellV_len, List.length_replicate, hb.2, not_false_eq_true, and_self, if_true, set_I hs (rep_get hb.2), Option.map_some, Option.bind_some]
  exact hr
theorem w_bast {x v : Int32} {a n : Nat} (pc' : Nat) (h : isI j pc .bastore pc' = true) (hs : shp[a]? = some (101, List.replicate n 0)) (hb : InB x n) (hv : v = 0 ∨ v = 1) (kk : Wp d j pc' ls st (up2 M a x.toNatClampNeg v) L Q) : Wp d j pc ls (.int v :: .int x :: .ref a :: st) M L Q := by
  obtain ⟨h1, rfl⟩ := isI_spec h
  refine Wp.step (fun n r hr => ?_) kk
  unfold ev
  simp only [h1, kdI, heapW, asW, wOf_get hs, hb.1, cellV_len, List.length_replicate, hb.2, hv, not_false_eq_true, and_self, if_true, set_I hs (rep_get hb.2), Option.map_some, Option.bind_some]
  exact hr
def nB (j pc k pc' : Nat) : Bool := match insAt j pc with
  | some (.invokestatic idx) => decide ((calT (owc j) idx).map (fun q => q.2) = some k) && decide (pc' = pc + 3)
  | _ => false
theorem cpM_w {a0 a n0 n1 sp dp n : Nat} (hs0 : shp[a0]? = some (100, List.replicate n0 0)) (hs1 : shp[a]? = some (100, List.replicate n1 0)) (h4 : sp + n ≤ n0) : (wOf M L).set a (100, cpV (cellV M L a0 (List.replicate n0 0)) (cellV M L a (List.replicate n1 0)) sp dp n) = wOf (cpM M a0 sp a dp n) L := by
  refine wOf_set hs1 ?_ (fun a' h k => if_neg (fun z => h z.1)) (fun _ _ => rfl)
  apply List.ext_getElem?
  intro k
  simp only [cpV, List.getElem?_mapIdx]
  by_cases hk : k < n1
  · rw [cellV_get (rep_get hk), cellV_get (rep_get hk)]
    simp only [Option.map_some, fv, cpM, true_and]
    by_cases hc : dp ≤ k ∧ k < dp + n
    · rw [if_pos hc, if_pos hc, List.getD_eq_getElem?_getD, cellV_get (rep_get (by omega))]
      rfl
    · rw [if_neg hc, if_neg hc]
  · rw [List.getElem?_eq_none (by rw [cellV_len, List.length_replicate]; omega), List.getElem?_eq_none (by rw [cellV_len, List.length_replicate]; omega)]
    rfl
theorem callOp_nat {j : Nat} {idx k : Nat} {st : List Value} {w : Wd} (h : (calT (owc j) idx).map (fun q => q.2) = some k) (hk : 5 ≤ k) : callOp j (.invokestatic idx) st w = none := by
  obtain ⟨⟨a, b⟩, h1, h2⟩ := Option.map_eq_some_iff.mp h
  dsimp only at h2
  subst h2
  simp only [callOp, h1]
  rw [if_neg]
  omega
theorem w_acpy {sp dp n : Int32} {a0 a n0 n1 : Nat} (pc' : Nat) (h : nB j pc 6 pc' = true) (hs0 : shp[a0]? = some (100, List.replicate n0 0)) (hs1 : shp[a]? = some (100, List.replicate n1 0)) (h1 : ¬ sp < 0) (h2 : ¬ dp < 0) (h3 : ¬ n < 0) (h4 : sp.toNatClampNeg + n.toNatClampNeg ≤ n0) (h5 : dp.toNatClampNeg + n.toNatClampNeg ≤ n1) (hc : catS st ≤ 8) (kk : Wp d j pc' ls st (cpM M a0 sp.toNatClampNeg a dp.toNatClampNeg n.toNatClampNeg) L Q) : Wp d j pc ls (.int n :: .int dp :: .ref a :: .int sp :: .ref a0 :: st) M L Q := by
  unfold nB at h
  split at h
  · rename_i idx hi
    simp only [Bool.and_eq_true, decide_eq_true_eq] at h
    obtain ⟨g1, rfl⟩ := h
    refine Wp.step (fun z r hr => ?_) kk
    unfold ev
    simp only [hi, kdI, callOp_nat g1 (by decide), natOp, g1, hc, and_self, if_true, acW, wOf_get hs0, wOf_get hs1, h1, h2, h3, cellV_len, List.length_replicate, h4, h5, not_false_eq_true, cpM_w hs0 hs1 h4, Option.map_some, Option.bind_some]
    exact hr
  · cases h
theorem ev_nat {n : Nat} {w w1 : Wd} {st' : List Value} {r : Wd × Option Value} (hi : insAt j pc = some i) (hk : kdI i = 6) (hc : callOp j i st w = none) (hn : natOp j i st w = some (st', w1)) (e : ev n d j (pc + 3) ls st' w1 = some r) : ev (n + 1) d j pc ls st w = some r := by
  unfold ev
  simp only [hi, hk, hc, hn, Option.bind_some]
  exact e
theorem min_nat {idx : Nat} {x y : Int32} {st : List Value} {w : Wd} (g1 : (calT (owc j) idx).map (fun q => q.2) = some 8) (hc : catS st ≤ 8) (hs : st.length ≤ 2) : natOp j (.invokestatic idx) (.int y :: .int x :: st) w = some (.int (if y < x then y else x) :: st, w) := by
  match st, hs with
  | [], _ => simp only [natOp, g1, hc, if_true]
  | [a], _ => cases a <;> simp only [natOp, g1, hc, if_true]
  | [a, b], _ => cases a <;> cases b <;> simp only [natOp, g1, hc, if_true]
theorem w_min {x y : Int32} (pc' : Nat) (h : nB j pc 8 pc' = true) (hc : catS st ≤ 8) (hs : st.length ≤ 2) (kk : Wp d j pc' ls (.int (if y < x then y else x) :: st) M L Q) : Wp d j pc ls (.int y :: .int x :: st) M L Q := by
  unfold nB at h
  split at h
  · rename_i idx hi
    simp only [Bool.and_eq_true, decide_eq_true_eq] at h
    obtain ⟨g1, rfl⟩ := h
    exact Wp.step (fun z r hr => ev_nat hi rfl (callOp_nat g1 (by decide)) (min_nat g1 hc hs) hr) kk
  · cases h
/-- calls -/
def cvB (j pc j' n t mx pc' : Nat) : Bool := match insAt j pc with
  | some (.invokevirtual idx) => decide (calT (owc j) idx = some (j', 0)) && decide (narg j' = n) && decide (owc j' = t) && decide (mxj j' = mx) && decide (pc' = pc + 3)
  | _ => false
theorem ev_call {n : Nat} {w w1 : Wd} {rv1 : Option Value} {r : Wd × Option Value} {j' : Nat} {As rest : List Value} (hi : insAt j pc = some i) (hk : kdI i = 6) (hc : callOp j i st w = some (j', As, rest)) (hla : (layA As).length ≤ mxj j') (hd : 0 < d) (e1 : ev n (d - 1) j' 0 (entL j' As) [] w = some (w1, rv1)) (e2 : ev n d j (pc + 3) ls (rv1.toList ++ rest) w1 = some r) : ev (n + 1) d j pc ls st w = some r := by
  cases d with
  | zero => exact absurd hd (Nat.lt_irrefl 0)
  | succ d' =>
    rw [Nat.add_sub_cancel] at e1
    unfold ev
    simp only [hi, hk, hc, if_pos hla, e1, Option.bind_some]
    exact e2
theorem dropA {As rest : List Value} {x : Value} : (As.reverse ++ x :: rest).drop (As.length + 1) = rest := by
  rw [show As.length + 1 = (As.reverse ++ [x]).length by simp, show As.reverse ++ x :: rest = (As.reverse ++ [x]) ++ rest by simp, List.drop_left]
theorem takeA {As rest : List Value} {x : Value} : ((As.reverse ++ x :: rest).take (As.length + 1)).reverse = x :: As := by
  rw [show As.length + 1 = (As.reverse ++ [x]).length by simp, show As.reverse ++ x :: rest = (As.reverse ++ [x]) ++ rest by simp, List.take_left]
  simp
theorem dropS {As rest : List Value} : (As.reverse ++ rest).drop As.length = rest := by
  rw [show As.length = As.reverse.length by simp, List.drop_left]
theorem takeS {As rest : List Value} : ((As.reverse ++ rest).take As.length).reverse = As := by
  rw [show As.length = As.reverse.length by simp, List.take_left]
  simp
theorem w_call {i : Instr} {j' : Nat} {As rest ls' : List Value} (hi : insAt j pc = some i) (hk : kdI i = 6) (hc : callOp j i st (wOf M L) = some (j', As, rest)) (hent : entL j' As = ls') (hla : (layA As).length ≤ mxj j') (hd : 0 < d) (k : Wp (d - 1) j' 0 ls' [] M L (fun rv M' L' => Wp d j (pc + 3) ls (rv.toList ++ rest) M' L' Q)) : Wp d j pc ls st M L Q := by
  obtain ⟨n1, rv1, M1, L1, h1, k2⟩ := k
  obtain ⟨n2, rv, M', L', h2, hQ⟩ := k2
  subst hent
  have e1 := ev_up h1 n2
  have e2 := ev_up h2 n1
  rw [Nat.add_comm n2 n1] at e2
  clear h1 h2
  refine ⟨n1 + n2 + 1, rv, M', L', ?_, hQ⟩
  exact ev_call hi hk hc hla hd e1 e2
theorem w_callV {r : Nat} {dl : List Nat} {ls' : List Value} (j' : Nat) (As rest : List Value) (t mx pc' : Nat) (h : cvB j pc j' As.length t mx pc' = true) (hst : st = As.reverse ++ .ref r :: rest) (hs : shp[r]? = some (t, dl)) (hcat : catS rest ≤ 8) (hent : layA (.ref r :: As) ++ List.replicate (mx - (layA (.ref r :: As)).length) .null = ls') (hla : (layA (.ref r :: As)).length ≤ mx) (hd : 0 < d) (k : Wp (d - 1) j' 0 ls' [] M L (fun rv M' L' => Wp d j pc' ls (rv.toList ++ rest) M' L' Q)) : Wp d j pc ls st M L Q := by
  unfold cvB at h
  split at h
  · rename_i idx hi
    simp only [Bool.and_eq_true, decide_eq_true_eq] at h
    obtain ⟨⟨⟨⟨h1, h2⟩, rfl⟩, rfl⟩, rfl⟩ := h
    subst hst
    refine w_call hi rfl ?_ hent hla hd k
    simp only [callOp, h1]
    have e1 : (As.reverse ++ Value.ref r :: rest).getD (narg j') .null = .ref r := by rw [h2]; simp [List.getD_eq_getElem?_getD]
    have e2 : (As.reverse ++ Value.ref r :: rest).drop (narg j' + 1) = rest := by rw [h2]; exact dropA
    have e3 : ((As.reverse ++ Value.ref r :: rest).take (narg j' + 1)).reverse = .ref r :: As := by rw [h2]; exact takeA
    rw [e1, e2, e3, if_pos]
    refine ⟨?_, by rw [h2]; simp, hcat⟩
    simp [rcvOk, wOf_get hs]
  · cases h
def csB (j pc j' n mx pc' : Nat) : Bool := match insAt j pc with
  | some (.invokestatic idx) => (decide (calT (owc j) idx = some (j', 1)) || decide (calT (owc j) idx = some (j', 3))) && decide (narg j' = n) && decide (mxj j' = mx) && decide (pc' = pc + 3)
  | _ => false
theorem w_callS {ls' : List Value} (j' : Nat) (As rest : List Value) (mx pc' : Nat) (h : csB j pc j' As.length mx pc' = true) (hst : st = As.reverse ++ rest) (hcat : catS rest ≤ 8) (hent : layA As ++ List.replicate (mx - (layA As).length) .null = ls') (hla : (layA As).length ≤ mx) (hd : 0 < d) (k : Wp (d - 1) j' 0 ls' [] M L (fun rv M' L' => Wp d j pc' ls (rv.toList ++ rest) M' L' Q)) : Wp d j pc ls st M L Q := by
  unfold csB at h
  split at h
  · rename_i idx hi
    simp only [Bool.and_eq_true, Bool.or_eq_true, decide_eq_true_eq] at h
    obtain ⟨⟨⟨h1, h2⟩, rfl⟩, rfl⟩ := h
    subst hst
    refine w_call hi rfl ?_ hent hla hd k
    have e2 : (As.reverse ++ rest).drop (narg j') = rest := by rw [h2]; exact dropS
    have e3 : ((As.reverse ++ rest).take (narg j')).reverse = As := by rw [h2]; exact takeS
    rcases h1 with h1 | h1
    · simp only [callOp, h1]
      rw [e2, e3, if_pos]
      exact ⟨by simp, by rw [h2]; simp, hcat⟩
    · simp only [callOp, h1]
      rw [e2, e3, if_pos]
      exact ⟨by simp, by rw [h2]; simp, hcat⟩
  · cases h
def rB (j pc : Nat) (i : Instr) (t : Option FieldType) : Bool := decide (insAt j pc = some i) && decide (rtj j = t)
theorem Wp.ret {v : Option Value} (hi : insAt j pc = some i) (hk : kdI i = 7) (hr : retOp j i st = some v) (q : Q v M L) : Wp d j pc ls st M L Q := by
  refine ⟨1, v, M, L, ?_, q⟩
  unfold ev
  simp only [hi, hk, hr, Option.map_some]
theorem w_ret {v : Int32} (h : rB j pc .ireturn (some .int) = true) (q : Q (some (.int v)) M L) : Wp d j pc ls [.int v] M L Q := by
  simp only [rB, Bool.and_eq_true, decide_eq_true_eq] at h
  exact Wp.ret h.1 rfl (by simp [retOp, h.2]) q
theorem w_retZ {v : Int32} (h : rB j pc .ireturn (some .boolean) = true) (hv : v = 0 ∨ v = 1) (q : Q (some (.int v)) M L) : Wp d j pc ls [.int v] M L Q := by
  simp only [rB, Bool.and_eq_true, decide_eq_true_eq] at h
  exact Wp.ret h.1 rfl (by simp [retOp, h.2, hv]) q
theorem w_retL {v : Int64} (h : rB j pc .lreturn (some .long) = true) (q : Q (some (.long v)) M L) : Wp d j pc ls [.long v] M L Q := by
  simp only [rB, Bool.and_eq_true, decide_eq_true_eq] at h
  exact Wp.ret h.1 rfl (by simp [retOp, h.2]) q
theorem w_retV (h : rB j pc .return_ none = true) (q : Q none M L) : Wp d j pc ls [] M L Q := by
  simp only [rB, Bool.and_eq_true, decide_eq_true_eq] at h
  exact Wp.ret h.1 rfl (by simp [retOp, h.2]) q
end Wp
end
section
/-! THE START: what the two constructors make -/
def M0 : Mt := fun i k => if (i = 67 ∧ k = 0) ∨ (i = 85 ∧ k = 0) then 10 else 0
def L0 : Lt := fun _ => 0
set_option maxRecDepth 100000 in
theorem init_x : ev 4000 8 75 0 (entL 75 [.ref 0]) [] [newO 7] = some ((wOf M0 L0).take 76, none) := by decide +kernel
set_option maxRecDepth 100000 in
theorem init_m : ev 4000 8 133 0 (entL 133 [.ref 76]) [] ((wOf M0 L0).take 76 ++ [newO 8]) = some (wOf M0 L0, none) := by decide +kernel
/-! what the cells are -/
theorem sh_0 : shp[0]? = some (7, [3, 5, 6, 9, 12, 17, 33, 60, 62, 64, 66, 69, 70, 71, 0, 0, 1]) := rfl
theorem sh_1 : shp[1]? = some (2, [4, 0]) := rfl
theorem sh_2 : shp[2]? = some (100, List.replicate 24 0) := rfl
theorem sh_3 : shp[3]? = some (102, [72, 74, 76]) := rfl
theorem sh_4 : shp[4]? = some (1, [7, 8, 0]) := rfl
theorem sh_5 : shp[5]? = some (100, List.replicate 17 0) := rfl
theorem sh_6 : shp[6]? = some (100, List.replicate 5 0) := rfl
theorem sh_7 : shp[7]? = some (1, [10, 11, 0]) := rfl
theorem sh_8 : shp[8]? = some (100, List.replicate 17 0) := rfl
theorem sh_9 : shp[9]? = some (100, List.replicate 5 0) := rfl
theorem sh_10 : shp[10]? = some (6, [13, 16, 0, 0]) := rfl
theorem sh_11 : shp[11]? = some (1, [14, 15, 0]) := rfl
theorem sh_12 : shp[12]? = some (100, List.replicate 17 0) := rfl
theorem sh_13 : shp[13]? = some (100, List.replicate 5 0) := rfl
theorem sh_14 : shp[14]? = some (100, List.replicate 5 0) := rfl
theorem sh_15 : shp[15]? = some (3, [18, 23, 28, 0, 0, 0]) := rfl
theorem sh_16 : shp[16]? = some (6, [19, 22, 0, 0]) := rfl
theorem sh_17 : shp[17]? = some (1, [20, 21, 0]) := rfl
theorem sh_18 : shp[18]? = some (100, List.replicate 17 0) := rfl
theorem sh_19 : shp[19]? = some (100, List.replicate 5 0) := rfl
theorem sh_20 : shp[20]? = some (100, List.replicate 5 0) := rfl
theorem sh_21 : shp[21]? = some (6, [24, 27, 0, 0]) := rfl
theorem sh_22 : shp[22]? = some (1, [25, 26, 0]) := rfl
theorem sh_23 : shp[23]? = some (100, List.replicate 17 0) := rfl
theorem sh_24 : shp[24]? = some (100, List.replicate 5 0) := rfl
theorem sh_25 : shp[25]? = some (100, List.replicate 5 0) := rfl
theorem sh_26 : shp[26]? = some (6, [29, 32, 0, 0]) := rfl
theorem sh_27 : shp[27]? = some (1, [30, 31, 0]) := rfl
theorem sh_28 : shp[28]? = some (100, List.replicate 17 0) := rfl
theorem sh_29 : shp[29]? = some (100, List.replicate 5 0) := rfl
theorem sh_30 : shp[30]? = some (100, List.replicate 5 0) := rfl
theorem sh_31 : shp[31]? = some (0, [34, 0, 0, 0, 0]) := rfl
theorem sh_32 : shp[32]? = some (103, [35, 40, 45, 50, 55]) := rfl
theorem sh_33 : shp[33]? = some (6, [36, 39, 0, 0]) := rfl
theorem sh_34 : shp[34]? = some (1, [37, 38, 0]) := rfl
theorem sh_35 : shp[35]? = some (100, List.replicate 17 0) := rfl
theorem sh_36 : shp[36]? = some (100, List.replicate 5 0) := rfl
theorem sh_37 : shp[37]? = some (100, List.replicate 5 0) := rfl
theorem sh_38 : shp[38]? = some (6, [41, 44, 0, 0]) := rfl
theorem sh_39 : shp[39]? = some (1, [42, 43, 0]) := rfl
theorem sh_40 : shp[40]? = some (100, List.replicate 17 0) := rfl
theorem sh_41 : shp[41]? = some (100, List.replicate 5 0) := rfl
theorem sh_42 : shp[42]? = some (100, List.replicate 5 0) := rfl
theorem sh_43 : shp[43]? = some (6, [46, 49, 0, 0]) := rfl
theorem sh_44 : shp[44]? = some (1, [47, 48, 0]) := rfl
theorem sh_45 : shp[45]? = some (100, List.replicate 17 0) := rfl
theorem sh_46 : shp[46]? = some (100, List.replicate 5 0) := rfl
theorem sh_47 : shp[47]? = some (100, List.replicate 5 0) := rfl
theorem sh_48 : shp[48]? = some (6, [51, 54, 0, 0]) := rfl
theorem sh_49 : shp[49]? = some (1, [52, 53, 0]) := rfl
theorem sh_50 : shp[50]? = some (100, List.replicate 17 0) := rfl
theorem sh_51 : shp[51]? = some (100, List.replicate 5 0) := rfl
theorem sh_52 : shp[52]? = some (100, List.replicate 5 0) := rfl
theorem sh_53 : shp[53]? = some (6, [56, 59, 0, 0]) := rfl
theorem sh_54 : shp[54]? = some (1, [57, 58, 0]) := rfl
theorem sh_55 : shp[55]? = some (100, List.replicate 17 0) := rfl
theorem sh_56 : shp[56]? = some (100, List.replicate 5 0) := rfl
theorem sh_57 : shp[57]? = some (100, List.replicate 5 0) := rfl
theorem sh_58 : shp[58]? = some (4, [61]) := rfl
theorem sh_59 : shp[59]? = some (100, List.replicate 204 0) := rfl
theorem sh_60 : shp[60]? = some (4, [63]) := rfl
theorem sh_61 : shp[61]? = some (100, List.replicate 34 0) := rfl
theorem sh_62 : shp[62]? = some (4, [65]) := rfl
theorem sh_63 : shp[63]? = some (100, List.replicate 1020 0) := rfl
theorem sh_64 : shp[64]? = some (5, [67, 68, 0]) := rfl
theorem sh_65 : shp[65]? = some (100, List.replicate 6 0) := rfl
theorem sh_66 : shp[66]? = some (100, List.replicate 6 0) := rfl
theorem sh_67 : shp[67]? = some (100, List.replicate 3 0) := rfl
theorem sh_68 : shp[68]? = some (100, List.replicate 16 0) := rfl
theorem sh_69 : shp[69]? = some (100, List.replicate 16 0) := rfl
theorem sh_70 : shp[70]? = some (2, [73, 0]) := rfl
theorem sh_71 : shp[71]? = some (100, List.replicate 24 0) := rfl
theorem sh_72 : shp[72]? = some (2, [75, 0]) := rfl
theorem sh_73 : shp[73]? = some (100, List.replicate 24 0) := rfl
theorem sh_74 : shp[74]? = some (2, [77, 0]) := rfl
theorem sh_75 : shp[75]? = some (100, List.replicate 24 0) := rfl
theorem sh_76 : shp[76]? = some (8, [0, 79, 80, 81, 0, 82, 83, 0, 0, 0, 84, 0, 85, 86, 87, 0, 88, 89, 1, 90, 91]) := rfl
theorem sh_77 : shp[77]? = some (100, List.replicate 5 0) := rfl
theorem sh_78 : shp[78]? = some (100, List.replicate 176 0) := rfl
theorem sh_79 : shp[79]? = some (100, List.replicate 24 0) := rfl
theorem sh_80 : shp[80]? = some (100, List.replicate 72 0) := rfl
theorem sh_81 : shp[81]? = some (100, List.replicate 3 0) := rfl
theorem sh_82 : shp[82]? = some (100, List.replicate 204 0) := rfl
theorem sh_83 : shp[83]? = some (100, List.replicate 6 0) := rfl
theorem sh_84 : shp[84]? = some (100, List.replicate 976 0) := rfl
theorem sh_85 : shp[85]? = some (100, List.replicate 3 0) := rfl
theorem sh_86 : shp[86]? = some (100, List.replicate 6 0) := rfl
theorem sh_87 : shp[87]? = some (100, List.replicate 6 0) := rfl
theorem sh_88 : shp[88]? = some (101, List.replicate 2 0) := rfl
theorem sh_89 : shp[89]? = some (100, List.replicate 34 0) := rfl
def isHouse (h : Nat) : Prop := shp[h]? = some (1, [h + 3, h + 4, 0]) ∧ shp[h + 1]? = some (100, List.replicate 17 0) ∧ shp[h + 2]? = some (100, List.replicate 5 0)
def isTell (t : Nat) : Prop := shp[t]? = some (6, [t + 3, t + 6, 0, 0]) ∧ isHouse (t + 1) ∧ shp[t + 4]? = some (100, List.replicate 5 0)
def isScroll (s : Nat) : Prop := shp[s]? = some (2, [s + 3, 0]) ∧ shp[s + 1]? = some (100, List.replicate 24 0)
def isShelf (s n : Nat) : Prop := shp[s]? = some (4, [s + 3]) ∧ shp[s + 1]? = some (100, List.replicate n 0)
end
section
/-! WHAT ALWAYS HOLDS of the numbers, and which of them a method writes -/
def cle (x : Int32) (b : Nat) : Prop := ∃ n, n ≤ b ∧ x = nI n
def wedv (x : Int32) : Prop := x = -9 ∨ cle x 4
def isScr (i : Nat) : Prop := i = 1 ∨ i = 70 ∨ i = 72 ∨ i = 74
def isHs (i : Nat) : Prop := i = 4 ∨ i = 7 ∨ i = 11 ∨ i = 17 ∨ i = 22 ∨ i = 27 ∨ i = 34 ∨ i = 39 ∨ i = 44 ∨ i = 49 ∨ i = 54
/-- the numbers that a cell may hold -/
def Rg (i k : Nat) (x : Int32) : Prop :=
  (isScr i → k = 1 → cle x 24) ∧ (isHs i → k = 2 → cle x 5) ∧ (i = 0 → k = 14 → cle x 12) ∧ (i = 64 → k = 2 → cle x 6) ∧
  (i = 76 → (k = 0 → cle x 5) ∧ (k = 4 → cle x 24) ∧ (k = 9 → cle x 11) ∧ (k = 15 → cle x 6)) ∧ (i = 81 → cle x 24) ∧ (i = 86 → cle x 4) ∧ (i = 85 → cle x 10) ∧
  (i = 78 → 10 ≤ k % 22 → k % 22 ≤ 14 → wedv x) ∧ (i = 82 → 10 ≤ k % 17 → k % 17 ≤ 14 → wedv x) ∧ (i = 89 → 10 ≤ k % 17 → k % 17 ≤ 14 → wedv x)
def Inv (M : Mt) : Prop := ∀ i k, Rg i k (M i k)
/-- S: what may have been written since M0 -/
def St (S : Nat → Nat → Prop) (A M : Mt) : Prop := Inv M ∧ ∀ i k, ¬ S i k → M i k = A i k
theorem St.rf {S : Nat → Nat → Prop} {M : Mt} (h : Inv M) : St S M M := ⟨h, fun _ _ _ => rfl⟩
theorem St.tr {S S' : Nat → Nat → Prop} {A M M' : Mt} (h : St S A M) (h' : St S' M M') (hs : ∀ i k, S' i k → S i k) : St S A M' := ⟨h'.1, fun i k hn => (h'.2 i k (fun z => hn (hs i k z))).trans (h.2 i k hn)⟩
theorem St.up {S : Nat → Nat → Prop} {A M : Mt} {a z : Nat} {v : Int32} (h : St S A M) (hr : Rg a z v) (hs : S a z) : St S A (up2 M a z v) := by
  refine ⟨fun i k => ?_, fun i k hn => ?_⟩
  · by_cases e : i = a ∧ k = z
    · obtain ⟨rfl, rfl⟩ := e
      rw [up2_eq]; exact hr
    · rw [up2_ne e]; exact h.1 i k
  · rw [up2_ne (fun e => hn (by rw [e.1, e.2]; exact hs))]
    exact h.2 i k hn
theorem cle_lit (n b : Nat) (h : n ≤ b) : cle (nI n) b := ⟨n, h, rfl⟩
/-- a place of which nothing is asked -/
theorem Rg.free {i k : Nat} {x : Int32} (h : ¬ isScr i ∧ ¬ isHs i ∧ i ≠ 0 ∧ i ≠ 64 ∧ i ≠ 76 ∧ i ≠ 81 ∧ i ≠ 86 ∧ i ≠ 85 ∧ i ≠ 78 ∧ i ≠ 82 ∧ i ≠ 89) : Rg i k x := by
  obtain ⟨h1, h2, h3, h4, h5, h6, h7, h8, h9, h10, h11⟩ := h
  exact ⟨fun z => absurd z h1, fun z => absurd z h2, fun z => absurd z h3, fun z => absurd z h4, fun z => absurd z h5, fun z => absurd z h6, fun z => absurd z h7, fun z => absurd z h8, fun z => absurd z h9, fun z => absurd z h10, fun z => absurd z h11⟩
section WpN
variable {d j pc : Nat} {ls st : List Value} {M : Mt} {L : Lt} {Q : Option Value → Mt → Lt → Prop}
theorem w_pushN (n : Nat) (pc' : Nat) (h : kB j pc (nI n) pc' = true) (k : Wp d j pc' ls (.int (nI n) :: st) M L Q) : Wp d j pc ls st M L Q := w_push _ pc' h k
theorem w_addN {a b : Nat} (c pc' : Nat) (h : isI j pc .iadd pc' = true) (hc : a + b = c) (k : Wp d j pc' ls (.int (nI c) :: st) M L Q) : Wp d j pc ls (.int (nI b) :: .int (nI a) :: st) M L Q := by
  subst hc
  refine w_pure .iadd pc' h rfl rfl ?_
  rw [nI_add]; exact k
theorem w_subN {a b : Nat} (c pc' : Nat) (h : isI j pc .isub pc' = true) (hb : b ≤ a) (hc : a - b = c) (k : Wp d j pc' ls (.int (nI c) :: st) M L Q) : Wp d j pc ls (.int (nI b) :: .int (nI a) :: st) M L Q := by
  subst hc
  refine w_pure .isub pc' h rfl rfl ?_
  rw [pk_sub hb]; exact k
theorem w_mulN {a b : Nat} (c pc' : Nat) (h : isI j pc .imul pc' = true) (hc : a * b = c) (k : Wp d j pc' ls (.int (nI c) :: st) M L Q) : Wp d j pc ls (.int (nI b) :: .int (nI a) :: st) M L Q := by
  subst hc
  refine w_pure .imul pc' h rfl rfl ?_
  rw [pk_mul]; exact k
theorem w_divN {a b : Nat} (c pc' : Nat) (h : isI j pc .idiv pc' = true) (hb : 0 < b) (hb2 : b < 2 ^ 31) (ha : a < 2 ^ 31) (hc : a / b = c) (k : Wp d j pc' ls (.int (nI c) :: st) M L Q) : Wp d j pc ls (.int (nI b) :: .int (nI a) :: st) M L Q := by
  subst hc
  refine w_div pc' h (nI_ne0 hb hb2) ?_
  rw [pk_div ha hb hb2]; exact k
theorem w_remN {a b : Nat} (c pc' : Nat) (h : isI j pc .irem pc' = true) (hb : 0 < b) (hb2 : b < 2 ^ 31) (ha : a < 2 ^ 31) (hc : a % b = c) (k : Wp d j pc' ls (.int (nI c) :: st) M L Q) : Wp d j pc ls (.int (nI b) :: .int (nI a) :: st) M L Q := by
  subst hc
  refine w_rem pc' h (nI_ne0 hb hb2) ?_
  rw [pk_rem ha hb hb2]; exact k
theorem w_iincN {z a : Nat} (b pc' : Nat) (h : isI j pc (.iinc z 1) pc' = true) (hl : ls[z]? = some (.int (nI a))) (hz : z < ls.length) (hn : noL ls z = true) (hb : a + 1 = b) (k : Wp d j pc' (ls.set z (.int (nI b))) st M L Q) : Wp d j pc ls st M L Q := by
  subst hb
  refine w_store (ls' := ls.set z (.int (nI (a + 1)))) (st' := st) (.iinc z 1) pc' h rfl ?_ k
  simp only [storeOp, hl, st1]
  rw [if_pos ⟨hz, hn⟩, nI_succ]
  rfl
theorem w_ialdN {a n k : Nat} (pc' : Nat) (h : isI j pc .iaload pc' = true) (hs : shp[a]? = some (100, List.replicate n 0)) (hn : n < 2 ^ 31) (hk : k < n) (kk : Wp d j pc' ls (.int (M a k) :: st) M L Q) : Wp d j pc ls (.int (nI k) :: .ref a :: st) M L Q := by
  have e := nI_clamp (show k < 2 ^ 31 by omega)
  refine w_iald pc' h hs ⟨nI_pos (by omega), by rw [e]; exact hk⟩ ?_
  rw [e]; exact kk
theorem w_iastN {a n k : Nat} {v : Int32} (pc' : Nat) (h : isI j pc .iastore pc' = true) (hs : shp[a]? = some (100, List.replicate n 0)) (hn : n < 2 ^ 31) (hk : k < n) (kk : Wp d j pc' ls st (up2 M a k v) L Q) : Wp d j pc ls (.int v :: .int (nI k) :: .ref a :: st) M L Q := by
  have e := nI_clamp (show k < 2 ^ 31 by omega)
  refine w_iast pc' h hs ⟨nI_pos (by omega), by rw [e]; exact hk⟩ ?_
  rw [e]; exact kk
theorem w_ceqN {a b : Nat} (t f : Nat) (h : icB j pc .eq t f = true) (ha : a < 2 ^ 31) (hb : b < 2 ^ 31) (kt : a = b → Wp d j t ls st M L Q) (kf : ¬ a = b → Wp d j f ls st M L Q) : Wp d j pc ls (.int (nI b) :: .int (nI a) :: st) M L Q := w_ceq t f h (fun z => kt ((nI_eq ha hb).mp z)) (fun z => kf (fun e => z ((nI_eq ha hb).mpr e)))
theorem w_cneN {a b : Nat} (t f : Nat) (h : icB j pc .ne t f = true) (ha : a < 2 ^ 31) (hb : b < 2 ^ 31) (kt : ¬ a = b → Wp d j t ls st M L Q) (kf : a = b → Wp d j f ls st M L Q) : Wp d j pc ls (.int (nI b) :: .int (nI a) :: st) M L Q := w_cne t f h (fun z => kt (fun e => z ((nI_eq ha hb).mpr e))) (fun z => kf ((nI_eq ha hb).mp z))
theorem w_cltN {a b : Nat} (t f : Nat) (h : icB j pc .lt t f = true) (ha : a < 2 ^ 31) (hb : b < 2 ^ 31) (kt : a < b → Wp d j t ls st M L Q) (kf : b ≤ a → Wp d j f ls st M L Q) : Wp d j pc ls (.int (nI b) :: .int (nI a) :: st) M L Q := w_clt t f h (fun z => kt ((nI_ltI ha hb).mp z)) (fun z => kf (Nat.not_lt.mp (fun e => z ((nI_ltI ha hb).mpr e))))
theorem w_cgeN {a b : Nat} (t f : Nat) (h : icB j pc .ge t f = true) (ha : a < 2 ^ 31) (hb : b < 2 ^ 31) (kt : b ≤ a → Wp d j t ls st M L Q) (kf : a < b → Wp d j f ls st M L Q) : Wp d j pc ls (.int (nI b) :: .int (nI a) :: st) M L Q := w_cge t f h (fun z => kt ((nI_leI hb ha).mp z)) (fun z => kf (Nat.not_le.mp (fun e => z ((nI_leI hb ha).mpr e))))
theorem w_cgtN {a b : Nat} (t f : Nat) (h : icB j pc .gt t f = true) (ha : a < 2 ^ 31) (hb : b < 2 ^ 31) (kt : b < a → Wp d j t ls st M L Q) (kf : a ≤ b → Wp d j f ls st M L Q) : Wp d j pc ls (.int (nI b) :: .int (nI a) :: st) M L Q := w_cgt t f h (fun z => kt ((nI_ltI hb ha).mp z)) (fun z => kf (Nat.not_lt.mp (fun e => z ((nI_ltI hb ha).mpr e))))
theorem w_cleN {a b : Nat} (t f : Nat) (h : icB j pc .le t f = true) (ha : a < 2 ^ 31) (hb : b < 2 ^ 31) (kt : a ≤ b → Wp d j t ls st M L Q) (kf : b < a → Wp d j f ls st M L Q) : Wp d j pc ls (.int (nI b) :: .int (nI a) :: st) M L Q := w_cle t f h (fun z => kt ((nI_leI ha hb).mp z)) (fun z => kf (Nat.not_le.mp (fun e => z ((nI_leI ha hb).mpr e))))
theorem w_ieqN {a : Nat} (t f : Nat) (h : ifB j pc .eq t f = true) (ha : a < 2 ^ 31) (kt : a = 0 → Wp d j t ls st M L Q) (kf : ¬ a = 0 → Wp d j f ls st M L Q) : Wp d j pc ls (.int (nI a) :: st) M L Q := w_ieq t f h (fun z => kt ((nI_eq ha (by decide)).mp (z.trans nI_0.symm))) (fun z => kf (fun e => z (by rw [e]; exact nI_0)))
theorem w_ineN {a : Nat} (t f : Nat) (h : ifB j pc .ne t f = true) (ha : a < 2 ^ 31) (kt : ¬ a = 0 → Wp d j t ls st M L Q) (kf : a = 0 → Wp d j f ls st M L Q) : Wp d j pc ls (.int (nI a) :: st) M L Q := w_ine t f h (fun z => kt (fun e => z (by rw [e]; exact nI_0))) (fun z => kf ((nI_eq ha (by decide)).mp (z.trans nI_0.symm)))
theorem w_iltN {a : Nat} (t f : Nat) (h : ifB j pc .lt t f = true) (ha : a < 2 ^ 31) (kf : Wp d j f ls st M L Q) : Wp d j pc ls (.int (nI a) :: st) M L Q := w_ilt t f h (fun z => absurd z (nI_pos ha)) (fun _ => kf)
/-- a field whose number is bounded -/
theorem w_getN {ci k a B : Nat} {dl : List Nat} (pc' : Nat) (h : gB j pc ci k pc' = true) (hs : shp[a]? = some (ci, dl)) (hd : dl[k]? = some 0) (hr : cle (M a k) B) (kk : ∀ n : Nat, n ≤ B → M a k = nI n → Wp d j pc' ls (.int (nI n) :: st) M L Q) : Wp d j pc ls (.ref a :: st) M L Q := by
  obtain ⟨n, h1, h2⟩ := hr
  refine w_getI pc' h hs hd ?_
  rw [h2]
  exact kk n h1 h2
/-- writes, of which only what always holds is kept -/
theorem w_putW {S : Nat → Nat → Prop} {A : Mt} {ci k a : Nat} {dl : List Nat} {v : Int32} (pc' : Nat) (h : pB j pc ci k .int pc' = true) (hs : shp[a]? = some (ci, dl)) (hd : dl[k]? = some 0) (hS : St S A M) (hr : Rg a k v) (hm : S a k) (kk : ∀ M' : Mt, St S A M' → M' a k = v → (∀ x y, ¬ (x = a ∧ y = k) → M' x y = M x y) → Wp d j pc' ls st M' L Q) : Wp d j pc ls (.int v :: .ref a :: st) M L Q := w_putI pc' h hs hd (kk _ (hS.up hr hm) up2_eq (fun _ _ e => up2_ne e))
theorem w_iastW {S : Nat → Nat → Prop} {A : Mt} {a n k : Nat} {v : Int32} (pc' : Nat) (h : isI j pc .iastore pc' = true) (hs : shp[a]? = some (100, List.replicate n 0)) (hn : n < 2 ^ 31) (hk : k < n) (hS : St S A M) (hr : Rg a k v) (hm : S a k) (kk : ∀ M' : Mt, St S A M' → M' a k = v → (∀ x y, ¬ (x = a ∧ y = k) → M' x y = M x y) → Wp d j pc' ls st M' L Q) : Wp d j pc ls (.int v :: .int (nI k) :: .ref a :: st) M L Q := w_iastN pc' h hs hn hk (kk _ (hS.up hr hm) up2_eq (fun _ _ e => up2_ne e))
theorem cat_ref (r : Nat) : (Value.ref r).category = 1 := rfl
theorem w_callV0 {r : Nat} {dl : List Nat} {rest : List Value} (j' t mx pc' : Nat) (h : cvB j pc j' 0 t mx pc' = true) (hs : shp[r]? = some (t, dl)) (hcat : catS rest ≤ 8) (hm : 1 ≤ mx) (hd : 0 < d) (k : Wp (d - 1) j' 0 (.ref r :: List.replicate (mx - 1) .null) [] M L (fun rv M' L' => Wp d j pc' ls (rv.toList ++ rest) M' L' Q)) : Wp d j pc ls (.ref r :: rest) M L Q := w_callV j' [] rest t mx pc' h rfl hs hcat rfl hm hd k
theorem w_callV1 {r : Nat} {dl : List Nat} {rest : List Value} {a : Value} (j' t mx pc' : Nat) (h : cvB j pc j' 1 t mx pc' = true) (hs : shp[r]? = some (t, dl)) (hcat : catS rest ≤ 8) (ha : a.category = 1) (hm : 2 ≤ mx) (hd : 0 < d) (k : Wp (d - 1) j' 0 (.ref r :: a :: List.replicate (mx - 2) .null) [] M L (fun rv M' L' => Wp d j pc' ls (rv.toList ++ rest) M' L' Q)) : Wp d j pc ls (a :: .ref r :: rest) M L Q := w_callV j' [a] rest t mx pc' h rfl hs hcat (by simp [layA, cat_ref, ha]) (by simp [layA, cat_ref, ha]; exact hm) hd k
theorem w_callV2 {r : Nat} {dl : List Nat} {rest : List Value} {a b : Value} (j' t mx pc' : Nat) (h : cvB j pc j' 2 t mx pc' = true) (hs : shp[r]? = some (t, dl)) (hcat : catS rest ≤ 8) (ha : a.category = 1) (hb : b.category = 1) (hm : 3 ≤ mx) (hd : 0 < d) (k : Wp (d - 1) j' 0 (.ref r :: a :: b :: List.replicate (mx - 3) .null) [] M L (fun rv M' L' => Wp d j pc' ls (rv.toList ++ rest) M' L' Q)) : Wp d j pc ls (b :: a :: .ref r :: rest) M L Q := w_callV j' [a, b] rest t mx pc' h rfl hs hcat (by simp [layA, cat_ref, ha, hb]) (by simp [layA, cat_ref, ha, hb]; exact hm) hd k
theorem w_callV3 {r : Nat} {dl : List Nat} {rest : List Value} {a b c : Value} (j' t mx pc' : Nat) (h : cvB j pc j' 3 t mx pc' = true) (hs : shp[r]? = some (t, dl)) (hcat : catS rest ≤ 8) (ha : a.category = 1) (hb : b.category = 1) (hc : c.category = 1) (hm : 4 ≤ mx) (hd : 0 < d) (k : Wp (d - 1) j' 0 (.ref r :: a :: b :: c :: List.replicate (mx - 4) .null) [] M L (fun rv M' L' => Wp d j pc' ls (rv.toList ++ rest) M' L' Q)) : Wp d j pc ls (c :: b :: a :: .ref r :: rest) M L Q := w_callV j' [a, b, c] rest t mx pc' h rfl hs hcat (by simp [layA, cat_ref, ha, hb, hc]) (by simp [layA, cat_ref, ha, hb, hc]; exact hm) hd k
theorem w_callV4 {r : Nat} {dl : List Nat} {rest : List Value} {a b c e : Value} (j' t mx pc' : Nat) (h : cvB j pc j' 4 t mx pc' = true) (hs : shp[r]? = some (t, dl)) (hcat : catS rest ≤ 8) (ha : a.category = 1) (hb : b.category = 1) (hc : c.category = 1) (he : e.category = 1) (hm : 5 ≤ mx) (hd : 0 < d) (k : Wp (d - 1) j' 0 (.ref r :: a :: b :: c :: e :: List.replicate (mx - 5) .null) [] M L (fun rv M' L' => Wp d j pc' ls (rv.toList ++ rest) M' L' Q)) : Wp d j pc ls (e :: c :: b :: a :: .ref r :: rest) M L Q := w_callV j' [a, b, c, e] rest t mx pc' h rfl hs hcat (by simp [layA, cat_ref, ha, hb, hc, he]) (by simp [layA, cat_ref, ha, hb, hc, he]; exact hm) hd k
theorem w_callV5 {r : Nat} {dl : List Nat} {rest : List Value} {a b c e f : Value} (j' t mx pc' : Nat) (h : cvB j pc j' 5 t mx pc' = true) (hs : shp[r]? = some (t, dl)) (hcat : catS rest ≤ 8) (ha : a.category = 1) (hb : b.category = 1) (hc : c.category = 1) (he : e.category = 1) (hf : f.category = 1) (hm : 6 ≤ mx) (hd : 0 < d) (k : Wp (d - 1) j' 0 (.ref r :: a :: b :: c :: e :: f :: List.replicate (mx - 6) .null) [] M L (fun rv M' L' => Wp d j pc' ls (rv.toList ++ rest) M' L' Q)) : Wp d j pc ls (f :: e :: c :: b :: a :: .ref r :: rest) M L Q := w_callV j' [a, b, c, e, f] rest t mx pc' h rfl hs hcat (by simp [layA, cat_ref, ha, hb, hc, he, hf]) (by simp [layA, cat_ref, ha, hb, hc, he, hf]; exact hm) hd k
theorem w_callS1 {rest : List Value} {a : Value} (j' mx pc' : Nat) (h : csB j pc j' 1 mx pc' = true) (hcat : catS rest ≤ 8) (ha : a.category = 1) (hm : 1 ≤ mx) (hd : 0 < d) (k : Wp (d - 1) j' 0 (a :: List.replicate (mx - 1) .null) [] M L (fun rv M' L' => Wp d j pc' ls (rv.toList ++ rest) M' L' Q)) : Wp d j pc ls (a :: rest) M L Q := w_callS j' [a] rest mx pc' h rfl hcat (by simp [layA, ha]) (by simp [layA, ha]; exact hm) hd k
theorem w_callS2 {rest : List Value} {a b : Value} (j' mx pc' : Nat) (h : csB j pc j' 2 mx pc' = true) (hcat : catS rest ≤ 8) (ha : a.category = 1) (hb : b.category = 1) (hm : 2 ≤ mx) (hd : 0 < d) (k : Wp (d - 1) j' 0 (a :: b :: List.replicate (mx - 2) .null) [] M L (fun rv M' L' => Wp d j pc' ls (rv.toList ++ rest) M' L' Q)) : Wp d j pc ls (b :: a :: rest) M L Q := w_callS j' [a, b] rest mx pc' h rfl hcat (by simp [layA, ha, hb]) (by simp [layA, ha, hb]; exact hm) hd k
theorem w_callS3 {rest : List Value} {a b c : Value} (j' mx pc' : Nat) (h : csB j pc j' 3 mx pc' = true) (hcat : catS rest ≤ 8) (ha : a.category = 1) (hb : b.category = 1) (hc : c.category = 1) (hm : 3 ≤ mx) (hd : 0 < d) (k : Wp (d - 1) j' 0 (a :: b :: c :: List.replicate (mx - 3) .null) [] M L (fun rv M' L' => Wp d j pc' ls (rv.toList ++ rest) M' L' Q)) : Wp d j pc ls (c :: b :: a :: rest) M L Q := w_callS j' [a, b, c] rest mx pc' h rfl hcat (by simp [layA, ha, hb, hc]) (by simp [layA, ha, hb, hc]; exact hm) hd k
theorem w_callS4 {rest : List Value} {a b c e : Value} (j' mx pc' : Nat) (h : csB j pc j' 4 mx pc' = true) (hcat : catS rest ≤ 8) (ha : a.category = 1) (hb : b.category = 1) (hc : c.category = 1) (he : e.category = 1) (hm : 4 ≤ mx) (hd : 0 < d) (k : Wp (d - 1) j' 0 (a :: b :: c :: e :: List.replicate (mx - 4) .null) [] M L (fun rv M' L' => Wp d j pc' ls (rv.toList ++ rest) M' L' Q)) : Wp d j pc ls (e :: c :: b :: a :: rest) M L Q := w_callS j' [a, b, c, e] rest mx pc' h rfl hcat (by simp [layA, ha, hb, hc, he]) (by simp [layA, ha, hb, hc, he]; exact hm) hd k
/-- in(long, long, long) -/
theorem w_callSL {rest : List Value} {x y z : Int64} (j' mx pc' : Nat) (h : csB j pc j' 3 mx pc' = true) (hcat : catS rest ≤ 8) (hm : mx = 6) (hd : 0 < d) (k : Wp (d - 1) j' 0 [.long x, .null, .long y, .null, .long z, .null] [] M L (fun rv M' L' => Wp d j pc' ls (rv.toList ++ rest) M' L' Q)) : Wp d j pc ls (.long z :: .long y :: .long x :: rest) M L Q := by
  subst hm
  exact w_callS j' [.long x, .long y, .long z] rest 6 pc' h rfl hcat rfl (by simp [layA, Value.category]) hd k
end WpN
end
section
/-! bounds out of what always holds; the objects by their kinds; more rules -/
def Hs (h : Nat) : Prop := isHouse h ∧ isHs h
def isTs (t : Nat) : Prop := t = 10 ∨ t = 16 ∨ t = 21 ∨ t = 26 ∨ t = 33 ∨ t = 38 ∨ t = 43 ∨ t = 48 ∨ t = 53
def Tl (t : Nat) : Prop := isTell t ∧ isHs (t + 1) ∧ isTs t
def Sc (s : Nat) : Prop := isScroll s ∧ isScr s
theorem tl_h {t : Nat} (h : Tl t) : Hs (t + 1) := ⟨h.1.2.1, h.2.1⟩
theorem hs_of {h : Nat} (hh : isHs h) : Hs h := by
  refine ⟨?_, hh⟩
  rcases hh with rfl | rfl | rfl | rfl | rfl | rfl | rfl | rfl | rfl | rfl | rfl <;> exact ⟨rfl, rfl, rfl⟩
theorem tl_of {t : Nat} (h : t = 10 ∨ t = 16 ∨ t = 21 ∨ t = 26 ∨ t = 33 ∨ t = 38 ∨ t = 43 ∨ t = 48 ∨ t = 53) : Tl t := by
  refine ⟨?_, by unfold isHs; omega, h⟩
  rcases h with rfl | rfl | rfl | rfl | rfl | rfl | rfl | rfl | rfl <;> exact ⟨rfl, ⟨rfl, rfl, rfl⟩, rfl⟩
theorem sc_of {s : Nat} (h : isScr s) : Sc s := by
  refine ⟨?_, h⟩
  rcases h with rfl | rfl | rfl | rfl <;> exact ⟨rfl, rfl⟩
theorem hs_4 : Hs 4 := hs_of (by unfold isHs; omega)
theorem hs_7 : Hs 7 := hs_of (by unfold isHs; omega)
theorem hs_11 : Hs 11 := hs_of (by unfold isHs; omega)
theorem hs_17 : Hs 17 := hs_of (by unfold isHs; omega)
theorem hs_22 : Hs 22 := hs_of (by unfold isHs; omega)
theorem hs_27 : Hs 27 := hs_of (by unfold isHs; omega)
theorem hs_34 : Hs 34 := hs_of (by unfold isHs; omega)
theorem hs_39 : Hs 39 := hs_of (by unfold isHs; omega)
theorem hs_44 : Hs 44 := hs_of (by unfold isHs; omega)
theorem hs_49 : Hs 49 := hs_of (by unfold isHs; omega)
theorem hs_54 : Hs 54 := hs_of (by unfold isHs; omega)
theorem tl_10 : Tl 10 := tl_of (by omega)
theorem tl_16 : Tl 16 := tl_of (by omega)
theorem tl_21 : Tl 21 := tl_of (by omega)
theorem tl_26 : Tl 26 := tl_of (by omega)
theorem tl_33 : Tl 33 := tl_of (by omega)
theorem sc_1 : Sc 1 := sc_of (by unfold isScr; omega)
theorem sc_tale (k : Nat) (h : k < 3) : Sc (70 + 2 * k) := sc_of (by unfold isScr; omega)
theorem tl_step (k : Nat) (h : k < 5) : Tl (33 + 5 * k) := tl_of (by omega)
theorem inv_h {M : Mt} {h : Nat} (hI : Inv M) (hh : Hs h) : cle (M h 2) 5 := (hI h 2).2.1 hh.2 rfl
theorem inv_s {M : Mt} {s : Nat} (hI : Inv M) (hh : Sc s) : cle (M s 1) 24 := (hI s 1).1 hh.2 rfl
theorem inv_acts {M : Mt} (hI : Inv M) : cle (M 0 14) 12 := (hI 0 14).2.2.1 rfl rfl
theorem inv_sz {M : Mt} (hI : Inv M) : cle (M 64 2) 6 := (hI 64 2).2.2.2.1 rfl rfl
theorem inv_g {M : Mt} (hI : Inv M) : cle (M 76 0) 5 := ((hI 76 0).2.2.2.2.1 rfl).1 rfl
theorem inv_len {M : Mt} (hI : Inv M) : cle (M 76 4) 24 := ((hI 76 4).2.2.2.2.1 rfl).2.1 rfl
theorem inv_next {M : Mt} (hI : Inv M) : cle (M 76 9) 11 := ((hI 76 9).2.2.2.2.1 rfl).2.2.1 rfl
theorem inv_seen {M : Mt} (hI : Inv M) : cle (M 76 15) 6 := ((hI 76 15).2.2.2.2.1 rfl).2.2.2 rfl
theorem inv_81 {M : Mt} (hI : Inv M) (k : Nat) : cle (M 81 k) 24 := (hI 81 k).2.2.2.2.2.1 rfl
theorem inv_86 {M : Mt} (hI : Inv M) (k : Nat) : cle (M 86 k) 4 := (hI 86 k).2.2.2.2.2.2.1 rfl
theorem inv_85 {M : Mt} (hI : Inv M) (k : Nat) : cle (M 85 k) 10 := (hI 85 k).2.2.2.2.2.2.2.1 rfl
theorem inv_78 {M : Mt} (hI : Inv M) (k : Nat) (h1 : 10 ≤ k % 22) (h2 : k % 22 ≤ 14) : wedv (M 78 k) := (hI 78 k).2.2.2.2.2.2.2.2.1 rfl h1 h2
section WpI
variable {d j pc : Nat} {ls st : List Value} {M : Mt} {L : Lt} {Q : Option Value → Mt → Lt → Prop}
theorem w_topi {x : Int32} (k : ∀ y : Int32, y = x → Wp d j pc ls (.int y :: st) M L Q) : Wp d j pc ls (.int x :: st) M L Q := k x rfl
theorem w_topl {x : Int64} (k : ∀ y : Int64, y = x → Wp d j pc ls (.long y :: st) M L Q) : Wp d j pc ls (.long x :: st) M L Q := k x rfl
theorem w_ialdC {a n k B : Nat} (pc' : Nat) (h : isI j pc .iaload pc' = true) (hs : shp[a]? = some (100, List.replicate n 0)) (hn : n < 2 ^ 31) (hk : k < n) (hr : cle (M a k) B) (kk : ∀ v : Nat, v ≤ B → M a k = nI v → Wp d j pc' ls (.int (nI v) :: st) M L Q) : Wp d j pc ls (.int (nI k) :: .ref a :: st) M L Q := by
  obtain ⟨v, h1, h2⟩ := hr
  refine w_ialdN pc' h hs hn hk ?_
  rw [h2]
  exact kk v h1 h2
theorem w_baldN {a n k : Nat} (pc' : Nat) (h : isI j pc .baload pc' = true) (hs : shp[a]? = some (101, List.replicate n 0)) (hn : n < 2 ^ 31) (hk : k < n) (kk : Wp d j pc' ls (.int (M a k) :: st) M L Q) : Wp d j pc ls (.int (nI k) :: .ref a :: st) M L Q := by
  have e := nI_clamp (show k < 2 ^ 31 by omega)
  refine w_bald pc' h hs ⟨nI_pos (by omega), by rw [e]; exact hk⟩ ?_
  rw [e]; exact kk
theorem w_bastW {S : Nat → Nat → Prop} {A : Mt} {a n k : Nat} {v : Int32} (pc' : Nat) (h : isI j pc .bastore pc' = true) (hs : shp[a]? = some (101, List.replicate n 0)) (hn : n < 2 ^ 31) (hk : k < n) (hv : v = 0 ∨ v = 1) (hS : St S A M) (hr : Rg a k v) (hm : S a k) (kk : ∀ M' : Mt, St S A M' → M' a k = v → (∀ x y, ¬ (x = a ∧ y = k) → M' x y = M x y) → Wp d j pc' ls st M' L Q) : Wp d j pc ls (.int v :: .int (nI k) :: .ref a :: st) M L Q := by
  have e := nI_clamp (show k < 2 ^ 31 by omega)
  refine w_bast pc' h hs ⟨nI_pos (by omega), by rw [e]; exact hk⟩ hv ?_
  rw [e]
  exact kk _ (hS.up hr hm) up2_eq (fun _ _ e => up2_ne e)
theorem w_putZW {S : Nat → Nat → Prop} {A : Mt} {ci k a : Nat} {dl : List Nat} {v : Int32} (pc' : Nat) (h : pB j pc ci k .boolean pc' = true) (hs : shp[a]? = some (ci, dl)) (hd : dl[k]? = some 0) (hv : v = 0 ∨ v = 1) (hS : St S A M) (hr : Rg a k v) (hm : S a k) (kk : ∀ M' : Mt, St S A M' → M' a k = v → (∀ x y, ¬ (x = a ∧ y = k) → M' x y = M x y) → Wp d j pc' ls st M' L Q) : Wp d j pc ls (.int v :: .ref a :: st) M L Q := w_putZ pc' h hs hd hv (kk _ (hS.up hr hm) up2_eq (fun _ _ e => up2_ne e))
theorem St.cp {S : Nat → Nat → Prop} {A : Mt} {a0 sp a dp n : Nat} (h : St S A M) (hr : ∀ z, dp ≤ z → z < dp + n → Rg a z (M a0 (sp + (z - dp)))) (hm : ∀ z, dp ≤ z → z < dp + n → S a z) : St S A (cpM M a0 sp a dp n) := by
  refine ⟨fun i k => ?_, fun i k hn => ?_⟩
  · unfold cpM
    split
    · rename_i hc
      obtain ⟨rfl, h1, h2⟩ := hc
      exact hr k h1 h2
    · exact h.1 i k
  · unfold cpM
    rw [if_neg (fun hc => hn (by rw [hc.1]; exact hm k hc.2.1 hc.2.2))]
    exact h.2 i k hn
theorem w_acpyW {S : Nat → Nat → Prop} {A : Mt} {sp dp n a0 a n0 n1 : Nat} (pc' : Nat) (h : nB j pc 6 pc' = true) (hs0 : shp[a0]? = some (100, List.replicate n0 0)) (hs1 : shp[a]? = some (100, List.replicate n1 0)) (hn0 : n0 < 2 ^ 31) (hn1 : n1 < 2 ^ 31) (h4 : sp + n ≤ n0) (h5 : dp + n ≤ n1) (hc : catS st ≤ 8) (hS : St S A M) (hr : ∀ z, dp ≤ z → z < dp + n → Rg a z (M a0 (sp + (z - dp)))) (hm : ∀ z, dp ≤ z → z < dp + n → S a z) (kk : ∀ M' : Mt, St S A M' → (∀ x y, M' x y = cpM M a0 sp a dp n x y) → Wp d j pc' ls st M' L Q) : Wp d j pc ls (.int (nI n) :: .int (nI dp) :: .ref a :: .int (nI sp) :: .ref a0 :: st) M L Q := by
  have e1 := nI_clamp (show sp < 2 ^ 31 by omega)
  have e2 := nI_clamp (show dp < 2 ^ 31 by omega)
  have e3 := nI_clamp (show n < 2 ^ 31 by omega)
  refine w_acpy pc' h hs0 hs1 (nI_pos (by omega)) (nI_pos (by omega)) (nI_pos (by omega)) (by rw [e1, e3]; exact h4) (by rw [e2, e3]; exact h5) hc ?_
  rw [e1, e2, e3]
  exact kk _ (hS.cp hr hm) (fun _ _ => rfl)
theorem w_tale {k : Nat} (pc' : Nat) (h : isI j pc .aaload pc' = true) (hk : k < 3) (kk : Wp d j pc' ls (.ref (70 + 2 * k) :: st) M L Q) : Wp d j pc ls (.int (nI k) :: .ref 3 :: st) M L Q := by
  refine w_aald (r := 70 + 2 * k) pc' h sh_3 (Or.inl rfl) (nI_pos (by omega)) ?_ kk
  rw [nI_clamp (by omega)]
  rcases (by omega : k = 0 ∨ k = 1 ∨ k = 2) with rfl | rfl | rfl <;> rfl
theorem w_step5 {k : Nat} (pc' : Nat) (h : isI j pc .aaload pc' = true) (hk : k < 5) (kk : Wp d j pc' ls (.ref (33 + 5 * k) :: st) M L Q) : Wp d j pc ls (.int (nI k) :: .ref 32 :: st) M L Q := by
  refine w_aald (r := 33 + 5 * k) pc' h sh_32 (Or.inr rfl) (nI_pos (by omega)) ?_ kk
  rw [nI_clamp (by omega)]
  rcases (by omega : k = 0 ∨ k = 1 ∨ k = 2 ∨ k = 3 ∨ k = 4) with rfl | rfl | rfl | rfl | rfl <;> rfl
theorem w_idecN {z a : Nat} (b pc' : Nat) (h : isI j pc (.iinc z (-1)) pc' = true) (hl : ls[z]? = some (.int (nI a))) (hz : z < ls.length) (hn : noL ls z = true) (ha : 0 < a) (hb : a - 1 = b) (k : Wp d j pc' (ls.set z (.int (nI b))) st M L Q) : Wp d j pc ls st M L Q := by
  subst hb
  obtain ⟨c, rfl⟩ : ∃ c, a = c + 1 := ⟨a - 1, by omega⟩
  refine w_store (ls' := ls.set z (.int (nI (c + 1 - 1)))) (st' := st) (.iinc z (-1)) pc' h rfl ?_ k
  simp only [storeOp, hl, st1]
  rw [if_pos ⟨hz, hn⟩]
  have e : nI (c + 1) + Int32.ofInt (-1) = nI (c + 1 - 1) := pk_m1 c
  rw [e]
  rfl
end WpI
section WpK
variable {d j pc : Nat} {ls st : List Value} {M : Mt} {L : Lt} {Q : Option Value → Mt → Lt → Prop}
theorem w_getK {ci k a n : Nat} {dl : List Nat} (pc' : Nat) (h : gB j pc ci k pc' = true) (hs : shp[a]? = some (ci, dl)) (hd : dl[k]? = some 0) (hv : M a k = nI n) (kk : Wp d j pc' ls (.int (nI n) :: st) M L Q) : Wp d j pc ls (.ref a :: st) M L Q := by
  refine w_getI pc' h hs hd ?_
  rw [hv]; exact kk
theorem w_minN {a b : Nat} (c pc' : Nat) (h : nB j pc 8 pc' = true) (hc : catS st ≤ 8) (hs : st.length ≤ 2) (ha : a < 2 ^ 31) (hb : b < 2 ^ 31) (he : min b a = c) (kk : Wp d j pc' ls (.int (nI c) :: st) M L Q) : Wp d j pc ls (.int (nI b) :: .int (nI a) :: st) M L Q := by
  refine w_min pc' h hc hs ?_
  have e : (if nI b < nI a then nI b else nI a) = nI c := by
    rw [← he]
    by_cases hh : b < a
    · rw [if_pos ((nI_ltI hb ha).mpr hh), Nat.min_eq_left (by omega)]
    · rw [if_neg (fun z => hh ((nI_ltI hb ha).mp z)), Nat.min_eq_right (by omega)]
  rw [e]; exact kk
end WpK
theorem rg_h {h n : Nat} (hh : Hs h) (hn : n ≤ 5) : Rg h 2 (nI n) := by
  have := hh.2
  unfold isHs at this
  refine ⟨fun a => ?_, fun _ _ => ⟨n, hn, rfl⟩, fun a => ?_, fun a => ?_, fun a => ?_, fun a => ?_, fun a => ?_, fun a => ?_, fun a => ?_, fun a => ?_, fun a => ?_⟩ <;> (exfalso; (try unfold isScr at a); omega)
theorem rg_s {s n : Nat} (hh : Sc s) (hn : n ≤ 24) : Rg s 1 (nI n) := by
  have := hh.2
  unfold isScr at this
  refine ⟨fun _ _ => ⟨n, hn, rfl⟩, fun a => ?_, fun a => ?_, fun a => ?_, fun a => ?_, fun a => ?_, fun a => ?_, fun a => ?_, fun a => ?_, fun a => ?_, fun a => ?_⟩ <;> (exfalso; (try unfold isHs at a); omega)
theorem rg_0 {k : Nat} {x : Int32} (hk : k ≠ 14) : Rg 0 k x := by
  refine ⟨fun a => ?_, fun a => ?_, fun _ a => absurd a hk, fun a => ?_, fun a => ?_, fun a => ?_, fun a => ?_, fun a => ?_, fun a => ?_, fun a => ?_, fun a => ?_⟩ <;> (exfalso; (try unfold isHs at a); (try unfold isScr at a); omega)
theorem rg_acts {n : Nat} (hn : n ≤ 12) : Rg 0 14 (nI n) := by
  refine ⟨fun a => ?_, fun a => ?_, fun _ _ => ⟨n, hn, rfl⟩, fun a => ?_, fun a => ?_, fun a => ?_, fun a => ?_, fun a => ?_, fun a => ?_, fun a => ?_, fun a => ?_⟩ <;> (exfalso; (try unfold isHs at a); (try unfold isScr at a); omega)
theorem rg_sz {n : Nat} (hn : n ≤ 6) : Rg 64 2 (nI n) := by
  refine ⟨fun a => ?_, fun a => ?_, fun a => ?_, fun _ _ => ⟨n, hn, rfl⟩, fun a => ?_, fun a => ?_, fun a => ?_, fun a => ?_, fun a => ?_, fun a => ?_, fun a => ?_⟩ <;> (exfalso; (try unfold isHs at a); (try unfold isScr at a); omega)
section WpQ
variable {d j pc : Nat} {ls st : List Value} {M : Mt} {L : Lt} {Q : Option Value → Mt → Lt → Prop}
theorem w_putLW {ci k a : Nat} {dl : List Nat} {v : Int64} (pc' : Nat) (h : pB j pc ci k .long pc' = true) (hs : shp[a]? = some (ci, dl)) (hd : dl[k]? = some 1) (ho : ∀ z, dl[z]? = some 1 → z = k) (kk : ∀ L' : Lt, Wp d j pc' ls st M L' Q) : Wp d j pc ls (.long v :: .ref a :: st) M L Q := w_putL pc' h hs hd ho (kk _)
theorem w_shl1 {w : Nat} (pc' : Nat) (h : isI j pc .ishl pc' = true) (hw : w ≤ 8) (kk : ∀ p : Nat, 1 ≤ p ∧ p ≤ 256 → Wp d j pc' ls (.int (nI p) :: st) M L Q) : Wp d j pc ls (.int (nI w) :: .int (nI 1) :: st) M L Q := by
  refine w_pure .ishl pc' h rfl rfl ?_
  have e : nI 1 <<< (nI w &&& 31) = nI (2 ^ w) := by
    rcases (by omega : w = 0 ∨ w = 1 ∨ w = 2 ∨ w = 3 ∨ w = 4 ∨ w = 5 ∨ w = 6 ∨ w = 7 ∨ w = 8) with rfl | rfl | rfl | rfl | rfl | rfl | rfl | rfl | rfl <;> decide
  rw [e]
  exact kk _ ⟨Nat.one_le_two_pow, Nat.le_trans (Nat.pow_le_pow_right (by decide) hw) (by decide)⟩
end WpQ
theorem shf_58 : isShelf 58 204 := ⟨rfl, rfl⟩
theorem shf_60 : isShelf 60 34 := ⟨rfl, rfl⟩
theorem shf_62 : isShelf 62 1020 := ⟨rfl, rfl⟩
theorem dec_mu {y : Int32} (h : ¬ y ≤ nI 1) : (y + Int32.ofInt (-1)).toInt.toNat < y.toInt.toNat := by
  have h1 : 1 < y.toInt := by
    have h2 := Int32.not_le.mp h
    have h3 := Int32.lt_iff_toInt_lt.mp h2
    have h4 : (nI 1).toInt = 1 := by decide
    omega
  have h5 : (y + Int32.ofInt (-1)).toInt = y.toInt - 1 := by
    rw [Int32.toInt_add]
    have h6 : (Int32.ofInt (-1)).toInt = -1 := by decide
    have h7 := Int32.toInt_lt y
    have h8 := Int32.le_toInt y
    rw [h6]
    rw [Int.bmod_eq_of_le] <;> omega
  omega
theorem ne_gt1 {y : Int32} (h : ¬ y ≤ nI 1) : ¬ y = 0 := by
  rintro rfl
  exact h (by decide)
theorem rng_le1 {f : Int32} {m : Nat} (h1 : ¬ f < nI 1) (h2 : f ≤ nI m) (hm : m < 2 ^ 31) : ∃ k, k ≤ m ∧ f = nI k := by
  have h0 : ¬ f < 0 := by
    intro h
    apply h1
    have a1 := Int32.lt_iff_toInt_lt.mp h
    apply Int32.lt_iff_toInt_lt.mpr
    have a2 : (nI 1).toInt = 1 := by decide
    have a3 : (0 : Int32).toInt = 0 := by decide
    omega
  obtain ⟨k, hk, rfl⟩ := nI_of h0
  exact ⟨k, (nI_leI hk hm).mp h2, rfl⟩
section WpR
variable {d j pc : Nat} {ls st : List Value} {M : Mt} {L : Lt} {Q : Option Value → Mt → Lt → Prop}
theorem le0_nI {a : Nat} (ha : a < 2 ^ 31) : nI a ≤ 0 ↔ a = 0 := by
  have h := nI_leI ha (show 0 < 2 ^ 31 by decide)
  rw [nI_0] at h
  rw [h]; omega
theorem gt0_nI {a : Nat} (ha : a < 2 ^ 31) : 0 < nI a ↔ 0 < a := by
  have h := nI_ltI (show 0 < 2 ^ 31 by decide) ha
  rw [nI_0] at h
  exact h
theorem w_ileN {a : Nat} (t f : Nat) (h : ifB j pc .le t f = true) (ha : a < 2 ^ 31) (kt : a = 0 → Wp d j t ls st M L Q) (kf : 0 < a → Wp d j f ls st M L Q) : Wp d j pc ls (.int (nI a) :: st) M L Q := w_ile t f h (fun z => kt ((le0_nI ha).mp z)) (fun z => kf (by have : ¬ a = 0 := fun e => z ((le0_nI ha).mpr e); omega))
theorem w_igtN {a : Nat} (t f : Nat) (h : ifB j pc .gt t f = true) (ha : a < 2 ^ 31) (kt : 0 < a → Wp d j t ls st M L Q) (kf : a = 0 → Wp d j f ls st M L Q) : Wp d j pc ls (.int (nI a) :: st) M L Q := w_igt t f h (fun z => kt ((gt0_nI ha).mp z)) (fun z => kf (by have : ¬ 0 < a := fun e => z ((gt0_nI ha).mpr e); omega))
end WpR
end
section
/-! a local that nobody reads any more may be forgotten -/
def lle : List Value → List Value → Prop
  | [], [] => True
  | a :: l, b :: l' => (a = b ∨ (a = .null ∧ b.category = 1)) ∧ lle l l'
  | _, _ => False
theorem lle_rf : ∀ l, lle l l
  | [] => trivial
  | _ :: l => ⟨Or.inl rfl, lle_rf l⟩
theorem lle_len : ∀ (l l' : List Value), lle l l' → l'.length = l.length
  | [], [], _ => rfl
  | a :: l, b :: l', h => by simp [lle_len l l' h.2]
  | [], _ :: _, h => h.elim
  | _ :: _, [], h => h.elim
theorem lle_get : ∀ (l l' : List Value) (i : Nat) (v : Value), lle l l' → l[i]? = some v → v ≠ .null → l'[i]? = some v
  | [], _, i, v, _, h, _ => by simp at h
  | a :: l, b :: l', 0, v, hl, h, hv => by
    simp at h
    subst h
    rcases hl.1 with e | e
    · simp [e]
    · exact absurd e.1 hv
  | a :: l, b :: l', i + 1, v, hl, h, hv => by
    simp only [List.getElem?_cons_succ] at h ⊢
    exact lle_get l l' i v hl.2 h hv
  | _ :: _, [], _, _, h, _, _ => h.elim
theorem lle_cat : ∀ (l l' : List Value) (i : Nat) (v : Value), lle l l' → l[i]? = some v → v.category = 1 → ∃ u, l'[i]? = some u ∧ u.category = 1
  | [], _, i, v, _, h, _ => by simp at h
  | a :: l, b :: l', 0, v, hl, h, hv => by
    simp at h
    subst h
    rcases hl.1 with e | e
    · exact ⟨b, rfl, e ▸ hv⟩
    · exact ⟨b, rfl, e.2⟩
  | a :: l, b :: l', i + 1, v, hl, h, hv => by
    simp only [List.getElem?_cons_succ] at h ⊢
    exact lle_cat l l' i v hl.2 h hv
  | _ :: _, [], _, _, h, _, _ => h.elim
theorem lle_set : ∀ (l l' : List Value) (i : Nat) (v : Value), lle l l' → lle (l.set i v) (l'.set i v)
  | [], [], _, _, h => h
  | a :: l, b :: l', 0, v, h => ⟨Or.inl rfl, h.2⟩
  | a :: l, b :: l', i + 1, v, h => ⟨h.1, lle_set l l' i v h.2⟩
  | [], _ :: _, _, _, h => h.elim
  | _ :: _, [], _, _, h => h.elim
theorem lle_noL {l l' : List Value} (h : lle l l') : ∀ i, noL l i = true → noL l' i = true
  | 0, _ => rfl
  | i + 1, hn => by
    simp only [noL] at hn ⊢
    cases hl : l[i]? with
    | none =>
      have : l'[i]? = none := by
        rw [List.getElem?_eq_none_iff] at hl ⊢
        rw [lle_len l l' h]; exact hl
      rw [this]
    | some v =>
      rw [hl] at hn
      obtain ⟨u, h1, h2⟩ := lle_cat l l' i v h hl (eq_of_beq hn)
      rw [h1]
      simp [h2]
theorem lle_load {l l' : List Value} (h : lle l l') {i : Instr} {v : Value} (hp : loadOp i l = some v) : loadOp i l' = some v := by
  unfold loadOp at hp ⊢
  split at hp
  · obtain ⟨x, h1, rfl⟩ := wI_spec hp
    simp only [lle_get l l' _ _ h h1 (by simp), wI]
  · obtain ⟨x, h1, rfl⟩ := wI_spec hp
    simp only [lle_get l l' _ _ h h1 (by simp), wI]
  · obtain ⟨x, h1, rfl⟩ := wL_spec hp
    simp only [lle_get l l' _ _ h h1 (by simp), wL]
  · obtain ⟨x, h1, rfl⟩ := wL_spec hp
    simp only [lle_get l l' _ _ h h1 (by simp), wL]
  · obtain ⟨x, h1, rfl⟩ := wR_spec hp
    simp only [lle_get l l' _ _ h h1 (by simp), wR]
  · obtain ⟨x, h1, rfl⟩ := wR_spec hp
    simp only [lle_get l l' _ _ h h1 (by simp), wR]
  · cases hp
theorem lle_st1 {l l' q : List Value} (h : lle l l') {k : Nat} {v : Value} (hp : st1 l k v = some q) : ∃ q', st1 l' k v = some q' ∧ lle q q' := by
  obtain ⟨h1, h2, rfl⟩ := st1_spec hp
  refine ⟨l'.set k v, ?_, lle_set l l' k v h⟩
  unfold st1
  rw [if_pos ⟨by rw [lle_len l l' h]; exact h1, lle_noL h k h2⟩]
theorem lle_st2 {l l' q : List Value} (h : lle l l') {k : Nat} {v : Value} (hp : st2 l k v = some q) : ∃ q', st2 l' k v = some q' ∧ lle q q' := by
  obtain ⟨h1, h2, rfl⟩ := st2_spec hp
  refine ⟨(l'.set k v).set (k + 1) .null, ?_, lle_set _ _ _ _ (lle_set l l' k v h)⟩
  unfold st2
  rw [if_pos ⟨by rw [lle_len l l' h]; exact h1, lle_noL h k h2⟩]
theorem lle_store {l l' : List Value} (h : lle l l') {i : Instr} {st : List Value} {q : List Value × List Value} (hp : storeOp i l st = some q) : ∃ q1, storeOp i l' st = some (q1, q.2) ∧ lle q.1 q1 := by
  unfold storeOp at hp ⊢
  split at hp
  · obtain ⟨l1, h1, rfl⟩ := Option.map_eq_some_iff.mp hp
    obtain ⟨q', e1, e2⟩ := lle_st1 h h1
    exact ⟨q', by simp only [e1, Option.map_some], e2⟩
  · obtain ⟨l1, h1, rfl⟩ := Option.map_eq_some_iff.mp hp
    obtain ⟨q', e1, e2⟩ := lle_st1 h h1
    exact ⟨q', by simp only [e1, Option.map_some], e2⟩
  · obtain ⟨l1, h1, rfl⟩ := Option.map_eq_some_iff.mp hp
    obtain ⟨q', e1, e2⟩ := lle_st1 h h1
    exact ⟨q', by simp only [e1, Option.map_some], e2⟩
  · obtain ⟨l1, h1, rfl⟩ := Option.map_eq_some_iff.mp hp
    obtain ⟨q', e1, e2⟩ := lle_st1 h h1
    exact ⟨q', by simp only [e1, Option.map_some], e2⟩
  · obtain ⟨l1, h1, rfl⟩ := Option.map_eq_some_iff.mp hp
    obtain ⟨q', e1, e2⟩ := lle_st2 h h1
    exact ⟨q', by simp only [e1, Option.map_some], e2⟩
  · obtain ⟨l1, h1, rfl⟩ := Option.map_eq_some_iff.mp hp
    obtain ⟨q', e1, e2⟩ := lle_st2 h h1
    exact ⟨q', by simp only [e1, Option.map_some], e2⟩
  · split at hp
    · rename_i x hx
      obtain ⟨l1, h1, rfl⟩ := Option.map_eq_some_iff.mp hp
      obtain ⟨q', e1, e2⟩ := lle_st1 h h1
      refine ⟨q', ?_, e2⟩
      simp only [lle_get l l' _ _ h hx (by simp), e1, Option.map_some]
    · cases hp
  · cases hp
theorem ev_lle : ∀ (n d j pc : Nat) (ls ls' st : List Value) (w : Wd) (r : Wd × Option Value), lle ls ls' → ev n d j pc ls st w = some r → ev n d j pc ls' st w = some r
  | 0, _, _, _, _, _, _, _, _, _, h => by cases h
  | n + 1, d, j, pc, ls, ls', st, w, r, hl, h => by
    unfold ev at h ⊢
    split at h
    · cases h
    · rename_i i hi
      split at h
      all_goals (rename_i hk; try simp only [hk])
      · obtain ⟨q, h1, h2⟩ := Option.bind_eq_some_iff.mp h
        rw [h1, Option.bind_some]
        exact ev_lle n _ _ _ _ _ _ _ _ hl h2
      · obtain ⟨q, h1, h2⟩ := Option.bind_eq_some_iff.mp h
        rw [lle_load hl h1, Option.bind_some]
        exact ev_lle n _ _ _ _ _ _ _ _ hl h2
      · obtain ⟨q, h1, h2⟩ := Option.bind_eq_some_iff.mp h
        obtain ⟨q1, e1, e2⟩ := lle_store hl h1
        rw [e1, Option.bind_some]
        exact ev_lle n _ _ _ _ _ _ _ _ e2 h2
      · obtain ⟨q, h1, h2⟩ := Option.bind_eq_some_iff.mp h
        rw [h1, Option.bind_some]
        exact ev_lle n _ _ _ _ _ _ _ _ hl h2
      · obtain ⟨q, h1, h2⟩ := Option.bind_eq_some_iff.mp h
        rw [h1, Option.bind_some]
        exact ev_lle n _ _ _ _ _ _ _ _ hl h2
      · obtain ⟨q, h1, h2⟩ := Option.bind_eq_some_iff.mp h
        rw [h1, Option.bind_some]
        exact ev_lle n _ _ _ _ _ _ _ _ hl h2
      · split at h
        · split at h
          · cases h
          · split at h
            · obtain ⟨q, h1, h2⟩ := Option.bind_eq_some_iff.mp h
              rename_i hla
              rw [if_pos hla, h1, Option.bind_some]
              exact ev_lle n _ _ _ _ _ _ _ _ hl h2
            · cases h
        · obtain ⟨q, h1, h2⟩ := Option.bind_eq_some_iff.mp h
          rw [h1, Option.bind_some]
          exact ev_lle n _ _ _ _ _ _ _ _ hl h2
      · exact h
theorem Wp.forget {d j pc : Nat} {ls ls' st : List Value} {M : Mt} {L : Lt} {Q : Option Value → Mt → Lt → Prop} (h : lle ls ls') (k : Wp d j pc ls st M L Q) : Wp d j pc ls' st M L Q := by
  obtain ⟨n, rv, M', L', h1, h2⟩ := k
  exact ⟨n, rv, M', L', ev_lle n _ _ _ _ _ _ _ _ h h1, h2⟩
end
section
theorem no_neg {a : Int32} {B : Nat} (h : a < 0) (hB : B ≤ 2 ^ 31) : ¬ ∃ k, k < B ∧ a = nI k := by
  rintro ⟨k, hk, rfl⟩
  exact nI_pos (by omega) h
theorem no_big {a : Int32} {n B : Nat} (h : nI n ≤ a) (hn : n = B ∧ n < 2 ^ 31) : ¬ ∃ k, k < B ∧ a = nI k := by
  rintro ⟨k, hk, rfl⟩
  have := (nI_leI hn.2 (show k < 2 ^ 31 by omega)).mp h
  omega
theorem no_big' {a : Int32} {n B : Nat} (h : nI n < a) (hn : n + 1 = B ∧ n < 2 ^ 31) : ¬ ∃ k, k < B ∧ a = nI k := by
  rintro ⟨k, hk, rfl⟩
  have := (nI_ltI hn.2 (show k < 2 ^ 31 by omega)).mp h
  omega
theorem has_k {g : Int32} {n : Nat} (h1 : ¬ g < 0) (h2 : ¬ nI n ≤ g) (hn : n ≤ 5) : ∃ k, k < 5 ∧ g = nI k := by
  obtain ⟨k, hk, rfl⟩ := nI_of h1
  have h3 : ¬ n ≤ k := fun e => h2 ((nI_leI (show n < 2 ^ 31 by omega) hk).mpr e)
  exact ⟨k, by omega, rfl⟩
theorem rng_k {g : Int32} {n B : Nat} (h1 : ¬ g < 0) (h2 : ¬ nI n ≤ g) (hn : n = B ∧ n < 2 ^ 31) : ∃ k, k < B ∧ g = nI k := by
  obtain ⟨k, hk, rfl⟩ := nI_of h1
  obtain ⟨rfl, hn⟩ := hn
  have h3 : ¬ n ≤ k := fun e => h2 ((nI_leI hn hk).mpr e)
  exact ⟨k, by omega, rfl⟩
theorem rng_k' {g : Int32} {n B : Nat} (h1 : ¬ g < 0) (h2 : ¬ nI n < g) (hn : n + 1 = B ∧ n < 2 ^ 31) : ∃ k, k < B ∧ g = nI k := by
  obtain ⟨k, hk, rfl⟩ := nI_of h1
  obtain ⟨rfl, hn⟩ := hn
  have h3 : ¬ n < k := fun e => h2 ((nI_ltI hn hk).mpr e)
  exact ⟨k, by omega, rfl⟩
theorem rng_le {f : Int32} {m : Nat} (h1 : ¬ f < 0) (h2 : f ≤ nI m ∨ ¬ nI m < f) (hm : m < 2 ^ 31) : ∃ k, k ≤ m ∧ f = nI k := by
  obtain ⟨k, hk, rfl⟩ := nI_of h1
  rcases h2 with h2 | h2
  · exact ⟨k, (nI_leI hk hm).mp h2, rfl⟩
  · have h3 : ¬ m < k := fun e => h2 ((nI_ltI hm hk).mpr e)
    exact ⟨k, by omega, rfl⟩
-- X7_isLetter
set_option maxRecDepth 10000 in
theorem k_110 {d : Nat} {M : Mt} {L : Lt} {Q : Option Value → Mt → Lt → Prop} {a : Int32} (hI : Inv M)  (hd : 0 ≤ d) (hq : ∀ (r : Int32), ((r = 1 ∧ ∃ k, k < 256 ∧ a = nI k) ∨ (r = 0 ∧ ¬ ∃ k, k < 256 ∧ a = nI k)) → Q (some (.int r)) M L) : Wp d 110 0 [.int a] [] M L Q := by
  refine w_load (.iload_n 0) 1 (by decide +kernel) rfl rfl ?_
  refine w_ilt 15 4 (by decide +kernel) (fun h1 => ?_) (fun h1 => ?_)
  · skip
    refine w_pushN 0 16 (by decide +kernel) ?_
    exact w_retZ (by decide +kernel) (Or.inl rfl) (hq _ (Or.inr ⟨rfl, by first | exact no_neg (by assumption) (by decide) | exact no_big (by assumption) (by decide) | exact no_big' (by assumption) (by decide)⟩))
  · skip
    refine w_load (.iload_n 0) 5 (by decide +kernel) rfl rfl ?_
    refine w_pushN 255 8 (by decide +kernel) ?_
    refine w_cgt 15 11 (by decide +kernel) (fun h2 => ?_) (fun h2 => ?_)
    · skip
      refine w_pushN 0 16 (by decide +kernel) ?_
      exact w_retZ (by decide +kernel) (Or.inl rfl) (hq _ (Or.inr ⟨rfl, by first | exact no_neg (by assumption) (by decide) | exact no_big (by assumption) (by decide) | exact no_big' (by assumption) (by decide)⟩))
    · skip
      refine w_pushN 1 12 (by decide +kernel) ?_
      refine w_goto 16 (by decide +kernel) ?_
      exact w_retZ (by decide +kernel) (Or.inr rfl) (hq _ (Or.inl ⟨rfl, by first | exact rng_k (by assumption) (by assumption) (by decide) | exact rng_k' (by assumption) (by assumption) (by decide)⟩))
-- X7_isTale
set_option maxRecDepth 10000 in
theorem k_111 {d : Nat} {M : Mt} {L : Lt} {Q : Option Value → Mt → Lt → Prop} {a : Int32} (hI : Inv M)  (hd : 0 ≤ d) (hq : ∀ (r : Int32), ((r = 1 ∧ ∃ k, k < 3 ∧ a = nI k) ∨ (r = 0 ∧ ¬ ∃ k, k < 3 ∧ a = nI k)) → Q (some (.int r)) M L) : Wp d 111 0 [.int a] [] M L Q := by
  refine w_load (.iload_n 0) 1 (by decide +kernel) rfl rfl ?_
  refine w_ilt 13 4 (by decide +kernel) (fun h1 => ?_) (fun h1 => ?_)
  · skip
    refine w_pushN 0 14 (by decide +kernel) ?_
    exact w_retZ (by decide +kernel) (Or.inl rfl) (hq _ (Or.inr ⟨rfl, by first | exact no_neg (by assumption) (by decide) | exact no_big (by assumption) (by decide) | exact no_big' (by assumption) (by decide)⟩))
  · skip
    refine w_load (.iload_n 0) 5 (by decide +kernel) rfl rfl ?_
    refine w_pushN 3 6 (by decide +kernel) ?_
    refine w_cge 13 9 (by decide +kernel) (fun h2 => ?_) (fun h2 => ?_)
    · skip
      refine w_pushN 0 14 (by decide +kernel) ?_
      exact w_retZ (by decide +kernel) (Or.inl rfl) (hq _ (Or.inr ⟨rfl, by first | exact no_neg (by assumption) (by decide) | exact no_big (by assumption) (by decide) | exact no_big' (by assumption) (by decide)⟩))
    · skip
      refine w_pushN 1 10 (by decide +kernel) ?_
      refine w_goto 14 (by decide +kernel) ?_
      exact w_retZ (by decide +kernel) (Or.inr rfl) (hq _ (Or.inl ⟨rfl, by first | exact rng_k (by assumption) (by assumption) (by decide) | exact rng_k' (by assumption) (by assumption) (by decide)⟩))
-- X7_isSlot
set_option maxRecDepth 10000 in
theorem k_112 {d : Nat} {M : Mt} {L : Lt} {Q : Option Value → Mt → Lt → Prop} {a : Int32} (hI : Inv M)  (hd : 0 ≤ d) (hq : ∀ (r : Int32), ((r = 1 ∧ ∃ k, k < 2 ∧ a = nI k) ∨ (r = 0 ∧ ¬ ∃ k, k < 2 ∧ a = nI k)) → Q (some (.int r)) M L) : Wp d 112 0 [.int a] [] M L Q := by
  refine w_load (.iload_n 0) 1 (by decide +kernel) rfl rfl ?_
  refine w_ilt 13 4 (by decide +kernel) (fun h1 => ?_) (fun h1 => ?_)
  · skip
    refine w_pushN 0 14 (by decide +kernel) ?_
    exact w_retZ (by decide +kernel) (Or.inl rfl) (hq _ (Or.inr ⟨rfl, by first | exact no_neg (by assumption) (by decide) | exact no_big (by assumption) (by decide) | exact no_big' (by assumption) (by decide)⟩))
  · skip
    refine w_load (.iload_n 0) 5 (by decide +kernel) rfl rfl ?_
    refine w_pushN 2 6 (by decide +kernel) ?_
    refine w_cge 13 9 (by decide +kernel) (fun h2 => ?_) (fun h2 => ?_)
    · skip
      refine w_pushN 0 14 (by decide +kernel) ?_
      exact w_retZ (by decide +kernel) (Or.inl rfl) (hq _ (Or.inr ⟨rfl, by first | exact no_neg (by assumption) (by decide) | exact no_big (by assumption) (by decide) | exact no_big' (by assumption) (by decide)⟩))
    · skip
      refine w_pushN 1 10 (by decide +kernel) ?_
      refine w_goto 14 (by decide +kernel) ?_
      exact w_retZ (by decide +kernel) (Or.inr rfl) (hq _ (Or.inl ⟨rfl, by first | exact rng_k (by assumption) (by assumption) (by decide) | exact rng_k' (by assumption) (by assumption) (by decide)⟩))
-- X7_isName
set_option maxRecDepth 10000 in
theorem k_113 {d : Nat} {M : Mt} {L : Lt} {Q : Option Value → Mt → Lt → Prop} {a : Int32} (hI : Inv M)  (hd : 0 ≤ d) (hq : ∀ (r : Int32), ((r = 1 ∧ ∃ k, k < 4 ∧ a = nI k) ∨ (r = 0 ∧ ¬ ∃ k, k < 4 ∧ a = nI k)) → Q (some (.int r)) M L) : Wp d 113 0 [.int a] [] M L Q := by
  refine w_load (.iload_n 0) 1 (by decide +kernel) rfl rfl ?_
  refine w_ilt 13 4 (by decide +kernel) (fun h1 => ?_) (fun h1 => ?_)
  · skip
    refine w_pushN 0 14 (by decide +kernel) ?_
    exact w_retZ (by decide +kernel) (Or.inl rfl) (hq _ (Or.inr ⟨rfl, by first | exact no_neg (by assumption) (by decide) | exact no_big (by assumption) (by decide) | exact no_big' (by assumption) (by decide)⟩))
  · skip
    refine w_load (.iload_n 0) 5 (by decide +kernel) rfl rfl ?_
    refine w_pushN 4 6 (by decide +kernel) ?_
    refine w_cge 13 9 (by decide +kernel) (fun h2 => ?_) (fun h2 => ?_)
    · skip
      refine w_pushN 0 14 (by decide +kernel) ?_
      exact w_retZ (by decide +kernel) (Or.inl rfl) (hq _ (Or.inr ⟨rfl, by first | exact no_neg (by assumption) (by decide) | exact no_big (by assumption) (by decide) | exact no_big' (by assumption) (by decide)⟩))
    · skip
      refine w_pushN 1 10 (by decide +kernel) ?_
      refine w_goto 14 (by decide +kernel) ?_
      exact w_retZ (by decide +kernel) (Or.inr rfl) (hq _ (Or.inl ⟨rfl, by first | exact rng_k (by assumption) (by assumption) (by decide) | exact rng_k' (by assumption) (by assumption) (by decide)⟩))
-- X7_isTenths
set_option maxRecDepth 10000 in
theorem k_114 {d : Nat} {M : Mt} {L : Lt} {Q : Option Value → Mt → Lt → Prop} {a : Int32} (hI : Inv M)  (hd : 0 ≤ d) (hq : ∀ (r : Int32), ((r = 1 ∧ ∃ k, k < 11 ∧ a = nI k) ∨ (r = 0 ∧ ¬ ∃ k, k < 11 ∧ a = nI k)) → Q (some (.int r)) M L) : Wp d 114 0 [.int a] [] M L Q := by
  refine w_load (.iload_n 0) 1 (by decide +kernel) rfl rfl ?_
  refine w_ilt 14 4 (by decide +kernel) (fun h1 => ?_) (fun h1 => ?_)
  · skip
    refine w_pushN 0 15 (by decide +kernel) ?_
    exact w_retZ (by decide +kernel) (Or.inl rfl) (hq _ (Or.inr ⟨rfl, by first | exact no_neg (by assumption) (by decide) | exact no_big (by assumption) (by decide) | exact no_big' (by assumption) (by decide)⟩))
  · skip
    refine w_load (.iload_n 0) 5 (by decide +kernel) rfl rfl ?_
    refine w_pushN 10 7 (by decide +kernel) ?_
    refine w_cgt 14 10 (by decide +kernel) (fun h2 => ?_) (fun h2 => ?_)
    · skip
      refine w_pushN 0 15 (by decide +kernel) ?_
      exact w_retZ (by decide +kernel) (Or.inl rfl) (hq _ (Or.inr ⟨rfl, by first | exact no_neg (by assumption) (by decide) | exact no_big (by assumption) (by decide) | exact no_big' (by assumption) (by decide)⟩))
    · skip
      refine w_pushN 1 11 (by decide +kernel) ?_
      refine w_goto 15 (by decide +kernel) ?_
      exact w_retZ (by decide +kernel) (Or.inr rfl) (hq _ (Or.inl ⟨rfl, by first | exact rng_k (by assumption) (by assumption) (by decide) | exact rng_k' (by assumption) (by assumption) (by decide)⟩))
-- X7_holds
set_option maxRecDepth 10000 in
theorem k_115 {d : Nat} {M : Mt} {L : Lt} {Q : Option Value → Mt → Lt → Prop} {a : Int32} {b : Int32} (hI : Inv M)  (hd : 0 ≤ d) (hq : ∀ (r : Int32), (r = 0 ∨ r = 1) → Q (some (.int r)) M L) : Wp d 115 0 [.int a, .int b] [] M L Q := by
  refine w_load (.iload_n 0) 1 (by decide +kernel) rfl rfl ?_
  refine w_load (.iload_n 1) 2 (by decide +kernel) rfl rfl ?_
  refine w_pure .ishr 3 (by decide +kernel) rfl rfl ?_
  refine w_pushN 1 4 (by decide +kernel) ?_
  refine w_pure .iand 5 (by decide +kernel) rfl rfl ?_
  refine w_ieq 12 8 (by decide +kernel) (fun h1 => ?_) (fun h1 => ?_)
  · skip
    refine w_pushN 0 13 (by decide +kernel) ?_
    exact w_retZ (by decide +kernel) (Or.inl rfl) (hq _ (Or.inl rfl))
  · skip
    refine w_pushN 1 9 (by decide +kernel) ?_
    refine w_goto 13 (by decide +kernel) ?_
    exact w_retZ (by decide +kernel) (Or.inr rfl) (hq _ (Or.inr rfl))
-- X1_has
set_option maxRecDepth 10000 in
theorem k_11 {d : Nat} {M : Mt} {L : Lt} {Q : Option Value → Mt → Lt → Prop} {h : Nat} {g : Int32} (hI : Inv M) (hh : Hs h) (hd : 0 ≤ d) (hq : ∀ (r : Int32), ((r = 1 ∧ ∃ k, k < 5 ∧ g = nI k) ∨ r = 0) → Q (some (.int r)) M L) : Wp d 11 0 [.ref h, .int g] [] M L Q := by
  refine w_load (.iload_n 1) 1 (by decide +kernel) rfl rfl ?_
  refine w_ilt 16 4 (by decide +kernel) (fun h1 => ?_) (fun h1 => ?_)
  · skip
    refine w_pushN 0 17 (by decide +kernel) ?_
    exact w_retZ (by decide +kernel) (Or.inl rfl) (hq _ (Or.inr rfl))
  · skip
    refine w_load (.iload_n 1) 5 (by decide +kernel) rfl rfl ?_
    refine w_load (.aload_n 0) 6 (by decide +kernel) rfl rfl ?_
    refine w_getN (B := 5) (k := 2) 9 (by decide +kernel) hh.1.1 rfl (inv_h hI hh) (fun n2 hn2 en2 => ?_)
    refine w_cge 16 12 (by decide +kernel) (fun h3 => ?_) (fun h3 => ?_)
    · skip
      refine w_pushN 0 17 (by decide +kernel) ?_
      exact w_retZ (by decide +kernel) (Or.inl rfl) (hq _ (Or.inr rfl))
    · skip
      refine w_pushN 1 13 (by decide +kernel) ?_
      refine w_goto 17 (by decide +kernel) ?_
      exact w_retZ (by decide +kernel) (Or.inr rfl) (hq _ (Or.inl ⟨rfl, has_k (by assumption) (by assumption) (by omega)⟩))
-- X1_nameOf
set_option maxRecDepth 10000 in
theorem k_12 {d : Nat} {M : Mt} {L : Lt} {Q : Option Value → Mt → Lt → Prop} {h : Nat} {g : Int32} (hI : Inv M) (hh : Hs h) (hd : 1 ≤ d) (hq : ∀ (r : Int32), True → Q (some (.int r)) M L) : Wp d 12 0 [.ref h, .int g] [] M L Q := by
  refine w_load (.aload_n 0) 1 (by decide +kernel) rfl rfl ?_
  refine w_load (.iload_n 1) 2 (by decide +kernel) rfl rfl ?_
  refine w_callV1 11 1 2 5 (by decide +kernel) hh.1.1 (Nat.le_of_ble_eq_true rfl) rfl (by decide) (by omega) ?_
  refine k_11 hI hh (by omega) (fun r1 hr1 => ?_)
  dsimp only [Option.toList, List.cons_append, List.nil_append]
  rcases hr1 with ⟨rfl, k2, hk2, rfl⟩ | rfl
  · skip
    refine w_ieq 19 8 (by decide +kernel) (fun hz => absurd hz (by decide)) (fun _ => ?_)
    refine w_load (.aload_n 0) 9 (by decide +kernel) rfl rfl ?_
    refine w_getR (k := 0) (r := h + 1) 12 (by decide +kernel) hh.1.1 rfl ?_
    refine w_pushN 0 13 (by decide +kernel) ?_
    refine w_load (.iload_n 1) 14 (by decide +kernel) rfl rfl ?_
    refine w_addN k2 15 (by decide +kernel) (by omega) ?_
    refine w_ialdN 16 (by decide +kernel) hh.1.2.1 (by omega) (by omega) ?_
    refine w_goto 21 (by decide +kernel) ?_
    exact w_ret (by decide +kernel) (hq _ trivial)
  · skip
    refine w_ieq 19 8 (by decide +kernel) (fun _ => ?_) (fun hz => absurd hz (by decide))
    refine w_push (-9) 21 (by decide +kernel) ?_
    exact w_ret (by decide +kernel) (hq _ trivial)
-- X1_purseOf
set_option maxRecDepth 10000 in
theorem k_13 {d : Nat} {M : Mt} {L : Lt} {Q : Option Value → Mt → Lt → Prop} {h : Nat} {g : Int32} (hI : Inv M) (hh : Hs h) (hd : 1 ≤ d) (hq : ∀ (r : Int32), True → Q (some (.int r)) M L) : Wp d 13 0 [.ref h, .int g] [] M L Q := by
  refine w_load (.aload_n 0) 1 (by decide +kernel) rfl rfl ?_
  refine w_load (.iload_n 1) 2 (by decide +kernel) rfl rfl ?_
  refine w_callV1 11 1 2 5 (by decide +kernel) hh.1.1 (Nat.le_of_ble_eq_true rfl) rfl (by decide) (by omega) ?_
  refine k_11 hI hh (by omega) (fun r1 hr1 => ?_)
  dsimp only [Option.toList, List.cons_append, List.nil_append]
  rcases hr1 with ⟨rfl, k2, hk2, rfl⟩ | rfl
  · skip
    refine w_ieq 19 8 (by decide +kernel) (fun hz => absurd hz (by decide)) (fun _ => ?_)
    refine w_load (.aload_n 0) 9 (by decide +kernel) rfl rfl ?_
    refine w_getR (k := 0) (r := h + 1) 12 (by decide +kernel) hh.1.1 rfl ?_
    refine w_pushN 5 13 (by decide +kernel) ?_
    refine w_load (.iload_n 1) 14 (by decide +kernel) rfl rfl ?_
    refine w_addN (5 + k2) 15 (by decide +kernel) (by omega) ?_
    refine w_ialdN 16 (by decide +kernel) hh.1.2.1 (by omega) (by omega) ?_
    refine w_goto 20 (by decide +kernel) ?_
    exact w_ret (by decide +kernel) (hq _ trivial)
  · skip
    refine w_ieq 19 8 (by decide +kernel) (fun _ => ?_) (fun hz => absurd hz (by decide))
    refine w_pushN 0 20 (by decide +kernel) ?_
    exact w_ret (by decide +kernel) (hq _ trivial)
-- X1_spouseOf
set_option maxRecDepth 10000 in
theorem k_14 {d : Nat} {M : Mt} {L : Lt} {Q : Option Value → Mt → Lt → Prop} {h : Nat} {g : Int32} (hI : Inv M) (hh : Hs h) (hd : 1 ≤ d) (hq : ∀ (r : Int32), True → Q (some (.int r)) M L) : Wp d 14 0 [.ref h, .int g] [] M L Q := by
  refine w_load (.aload_n 0) 1 (by decide +kernel) rfl rfl ?_
  refine w_load (.iload_n 1) 2 (by decide +kernel) rfl rfl ?_
  refine w_callV1 11 1 2 5 (by decide +kernel) hh.1.1 (Nat.le_of_ble_eq_true rfl) rfl (by decide) (by omega) ?_
  refine k_11 hI hh (by omega) (fun r1 hr1 => ?_)
  dsimp only [Option.toList, List.cons_append, List.nil_append]
  rcases hr1 with ⟨rfl, k2, hk2, rfl⟩ | rfl
  · skip
    refine w_ieq 20 8 (by decide +kernel) (fun hz => absurd hz (by decide)) (fun _ => ?_)
    refine w_load (.aload_n 0) 9 (by decide +kernel) rfl rfl ?_
    refine w_getR (k := 0) (r := h + 1) 12 (by decide +kernel) hh.1.1 rfl ?_
    refine w_pushN 10 14 (by decide +kernel) ?_
    refine w_load (.iload_n 1) 15 (by decide +kernel) rfl rfl ?_
    refine w_addN (10 + k2) 16 (by decide +kernel) (by omega) ?_
    refine w_ialdN 17 (by decide +kernel) hh.1.2.1 (by omega) (by omega) ?_
    refine w_goto 22 (by decide +kernel) ?_
    exact w_ret (by decide +kernel) (hq _ trivial)
  · skip
    refine w_ieq 20 8 (by decide +kernel) (fun _ => ?_) (fun hz => absurd hz (by decide))
    refine w_push (-9) 22 (by decide +kernel) ?_
    exact w_ret (by decide +kernel) (hq _ trivial)
-- X1_powerOf
set_option maxRecDepth 10000 in
theorem k_15 {d : Nat} {M : Mt} {L : Lt} {Q : Option Value → Mt → Lt → Prop} {h : Nat} {g : Int32} (hI : Inv M) (hh : Hs h) (hd : 1 ≤ d) (hq : ∀ (r : Int32), True → Q (some (.int r)) M L) : Wp d 15 0 [.ref h, .int g] [] M L Q := by
  refine w_load (.aload_n 0) 1 (by decide +kernel) rfl rfl ?_
  refine w_load (.iload_n 1) 2 (by decide +kernel) rfl rfl ?_
  refine w_callV1 11 1 2 5 (by decide +kernel) hh.1.1 (Nat.le_of_ble_eq_true rfl) rfl (by decide) (by omega) ?_
  refine k_11 hI hh (by omega) (fun r1 hr1 => ?_)
  dsimp only [Option.toList, List.cons_append, List.nil_append]
  rcases hr1 with ⟨rfl, k2, hk2, rfl⟩ | rfl
  · skip
    refine w_ieq 17 8 (by decide +kernel) (fun hz => absurd hz (by decide)) (fun _ => ?_)
    refine w_load (.aload_n 0) 9 (by decide +kernel) rfl rfl ?_
    refine w_getR (k := 1) (r := h + 2) 12 (by decide +kernel) hh.1.1 rfl ?_
    refine w_load (.iload_n 1) 13 (by decide +kernel) rfl rfl ?_
    refine w_ialdN 14 (by decide +kernel) hh.1.2.2 (by omega) (by omega) ?_
    refine w_goto 18 (by decide +kernel) ?_
    exact w_ret (by decide +kernel) (hq _ trivial)
  · skip
    refine w_ieq 17 8 (by decide +kernel) (fun _ => ?_) (fun hz => absurd hz (by decide))
    refine w_pushN 0 18 (by decide +kernel) ?_
    exact w_ret (by decide +kernel) (hq _ trivial)
-- X1_size
set_option maxRecDepth 10000 in
theorem k_10 {d : Nat} {M : Mt} {L : Lt} {Q : Option Value → Mt → Lt → Prop} {h : Nat}  (hI : Inv M) (hh : Hs h) (hd : 0 ≤ d) (hq : ∀ (r : Int32), True → Q (some (.int r)) M L) : Wp d 10 0 [.ref h] [] M L Q := by
  refine w_load (.aload_n 0) 1 (by decide +kernel) rfl rfl ?_
  refine w_getN (B := 5) (k := 2) 4 (by decide +kernel) hh.1.1 rfl (inv_h hI hh) (fun n1 hn1 en1 => ?_)
  exact w_ret (by decide +kernel) (hq _ trivial)
-- X1_lives
set_option maxRecDepth 10000 in
theorem k_16 {d : Nat} {M : Mt} {L : Lt} {Q : Option Value → Mt → Lt → Prop} {h : Nat} {g : Int32} (hI : Inv M) (hh : Hs h) (hd : 1 ≤ d) (hq : ∀ (r : Int32), (r = 0 ∨ r = 1) → Q (some (.int r)) M L) : Wp d 16 0 [.ref h, .int g] [] M L Q := by
  refine w_load (.aload_n 0) 1 (by decide +kernel) rfl rfl ?_
  refine w_load (.iload_n 1) 2 (by decide +kernel) rfl rfl ?_
  refine w_callV1 11 1 2 5 (by decide +kernel) hh.1.1 (Nat.le_of_ble_eq_true rfl) rfl (by decide) (by omega) ?_
  refine k_11 hI hh (by omega) (fun r1 hr1 => ?_)
  dsimp only [Option.toList, List.cons_append, List.nil_append]
  rcases hr1 with ⟨rfl, k2, hk2, rfl⟩ | rfl
  · skip
    refine w_ieq 26 8 (by decide +kernel) (fun hz => absurd hz (by decide)) (fun _ => ?_)
    refine w_load (.aload_n 0) 9 (by decide +kernel) rfl rfl ?_
    refine w_getR (k := 0) (r := h + 1) 12 (by decide +kernel) hh.1.1 rfl ?_
    refine w_pushN 15 14 (by decide +kernel) ?_
    refine w_ialdN 15 (by decide +kernel) hh.1.2.1 (by omega) (by omega) ?_
    refine w_load (.iload_n 1) 16 (by decide +kernel) rfl rfl ?_
    refine w_callS2 115 2 19 (by decide +kernel) (Nat.le_of_ble_eq_true rfl) rfl rfl (by decide) (by omega) ?_
    refine k_115 hI  (by omega) (fun r4 hr4 => ?_)
    dsimp only [Option.toList, List.cons_append, List.nil_append]
    refine w_ieq 26 22 (by decide +kernel) (fun h5 => ?_) (fun h5 => ?_)
    · skip
      refine w_pushN 0 27 (by decide +kernel) ?_
      exact w_retZ (by decide +kernel) (Or.inl rfl) (hq _ (Or.inl rfl))
    · skip
      refine w_pushN 1 23 (by decide +kernel) ?_
      refine w_goto 27 (by decide +kernel) ?_
      exact w_retZ (by decide +kernel) (Or.inr rfl) (hq _ (Or.inr rfl))
  · skip
    refine w_ieq 26 8 (by decide +kernel) (fun _ => ?_) (fun hz => absurd hz (by decide))
    refine w_pushN 0 27 (by decide +kernel) ?_
    exact w_retZ (by decide +kernel) (Or.inl rfl) (hq _ (Or.inl rfl))
-- X1_worthOf
set_option maxRecDepth 10000 in
theorem k_17 {d : Nat} {M : Mt} {L : Lt} {Q : Option Value → Mt → Lt → Prop} {h : Nat} {g : Int32} (hI : Inv M) (hh : Hs h) (hd : 2 ≤ d) (hq : ∀ (r : Int32), True → Q (some (.int r)) M L) : Wp d 17 0 [.ref h, .int g] [] M L Q := by
  refine w_load (.aload_n 0) 1 (by decide +kernel) rfl rfl ?_
  refine w_load (.iload_n 1) 2 (by decide +kernel) rfl rfl ?_
  refine w_callV1 16 1 2 5 (by decide +kernel) hh.1.1 (Nat.le_of_ble_eq_true rfl) rfl (by decide) (by omega) ?_
  refine k_16 hI hh (by omega) (fun r1 hr1 => ?_)
  dsimp only [Option.toList, List.cons_append, List.nil_append]
  refine w_ieq 19 8 (by decide +kernel) (fun h2 => ?_) (fun h2 => ?_)
  · skip
    refine w_pushN 0 20 (by decide +kernel) ?_
    exact w_ret (by decide +kernel) (hq _ trivial)
  · skip
    refine w_load (.aload_n 0) 9 (by decide +kernel) rfl rfl ?_
    refine w_load (.iload_n 1) 10 (by decide +kernel) rfl rfl ?_
    refine w_callV1 13 1 2 13 (by decide +kernel) hh.1.1 (Nat.le_of_ble_eq_true rfl) rfl (by decide) (by omega) ?_
    refine k_13 hI hh (by omega) (fun r3 hr3 => ?_)
    dsimp only [Option.toList, List.cons_append, List.nil_append]
    refine w_pushN 20 15 (by decide +kernel) ?_
    refine w_pure .iadd 16 (by decide +kernel) rfl rfl ?_
    refine w_goto 20 (by decide +kernel) ?_
    exact w_ret (by decide +kernel) (hq _ trivial)
-- X1_everyone
set_option maxRecDepth 10000 in
theorem k_18 {d : Nat} {M : Mt} {L : Lt} {Q : Option Value → Mt → Lt → Prop} {h : Nat}  (hI : Inv M) (hh : Hs h) (hd : 0 ≤ d) (hq : ∀ (r : Int32), True → Q (some (.int r)) M L) : Wp d 18 0 [.ref h] [] M L Q := by
  refine w_pushN 1 1 (by decide +kernel) ?_
  refine w_load (.aload_n 0) 2 (by decide +kernel) rfl rfl ?_
  refine w_getN (B := 5) (k := 2) 5 (by decide +kernel) hh.1.1 rfl (inv_h hI hh) (fun n1 hn1 en1 => ?_)
  refine w_pure .ishl 6 (by decide +kernel) rfl rfl ?_
  refine w_pushN 1 7 (by decide +kernel) ?_
  refine w_pure .isub 8 (by decide +kernel) rfl rfl ?_
  exact w_ret (by decide +kernel) (hq _ trivial)
-- X1_living
set_option maxRecDepth 10000 in
theorem k_19 {d : Nat} {M : Mt} {L : Lt} {Q : Option Value → Mt → Lt → Prop} {h : Nat}  (hI : Inv M) (hh : Hs h) (hd : 0 ≤ d) (hq : ∀ (r : Int32), True → Q (some (.int r)) M L) : Wp d 19 0 [.ref h] [] M L Q := by
  refine w_load (.aload_n 0) 1 (by decide +kernel) rfl rfl ?_
  refine w_getR (k := 0) (r := h + 1) 4 (by decide +kernel) hh.1.1 rfl ?_
  refine w_pushN 15 6 (by decide +kernel) ?_
  refine w_ialdN 7 (by decide +kernel) hh.1.2.1 (by omega) (by omega) ?_
  exact w_ret (by decide +kernel) (hq _ trivial)
-- X1_dead
set_option maxRecDepth 10000 in
theorem k_20 {d : Nat} {M : Mt} {L : Lt} {Q : Option Value → Mt → Lt → Prop} {h : Nat}  (hI : Inv M) (hh : Hs h) (hd : 1 ≤ d) (hq : ∀ (r : Int32), True → Q (some (.int r)) M L) : Wp d 20 0 [.ref h] [] M L Q := by
  refine w_load (.aload_n 0) 1 (by decide +kernel) rfl rfl ?_
  refine w_callV0 18 1 1 4 (by decide +kernel) hh.1.1 (Nat.le_of_ble_eq_true rfl)  (by decide) (by omega) ?_
  refine k_18 hI hh (by omega) (fun r1 hr1 => ?_)
  dsimp only [Option.toList, List.cons_append, List.nil_append]
  refine w_load (.aload_n 0) 5 (by decide +kernel) rfl rfl ?_
  refine w_getR (k := 0) (r := h + 1) 8 (by decide +kernel) hh.1.1 rfl ?_
  refine w_pushN 15 10 (by decide +kernel) ?_
  refine w_ialdN 11 (by decide +kernel) hh.1.2.1 (by omega) (by omega) ?_
  refine w_push (-1) 12 (by decide +kernel) ?_
  refine w_pure .ixor 13 (by decide +kernel) rfl rfl ?_
  refine w_pure .iand 14 (by decide +kernel) rfl rfl ?_
  exact w_ret (by decide +kernel) (hq _ trivial)
-- X1_nightsPast
set_option maxRecDepth 10000 in
theorem k_21 {d : Nat} {M : Mt} {L : Lt} {Q : Option Value → Mt → Lt → Prop} {h : Nat}  (hI : Inv M) (hh : Hs h) (hd : 0 ≤ d) (hq : ∀ (r : Int32), True → Q (some (.int r)) M L) : Wp d 21 0 [.ref h] [] M L Q := by
  refine w_load (.aload_n 0) 1 (by decide +kernel) rfl rfl ?_
  refine w_getR (k := 0) (r := h + 1) 4 (by decide +kernel) hh.1.1 rfl ?_
  refine w_pushN 16 6 (by decide +kernel) ?_
  refine w_ialdN 7 (by decide +kernel) hh.1.2.1 (by omega) (by omega) ?_
  exact w_ret (by decide +kernel) (hq _ trivial)
-- X1_wedded
set_option maxRecDepth 10000 in
theorem k_22 {d : Nat} {M : Mt} {L : Lt} {Q : Option Value → Mt → Lt → Prop} {h : Nat}  (hI : Inv M) (hh : Hs h) (hd : 0 ≤ d) (hq : ∀ (r : Int32), True → Q (some (.int r)) M L) : Wp d 22 0 [.ref h, .null, .null] [] M L Q := by
  refine w_pushN 0 1 (by decide +kernel) ?_
  refine w_store (ls' := [.ref h, .int (nI 0), .null]) (.istore_n 1) 2 (by decide +kernel) rfl rfl ?_
  refine w_pushN 0 3 (by decide +kernel) ?_
  refine w_store (ls' := [.ref h, .int (nI 0), .int (nI 0)]) (.istore_n 2) 4 (by decide +kernel) rfl rfl ?_
  have LP_4 : ∀ (kk : Nat) (x1_4 : Int32) (g2 : Nat), g2 ≤ 5 → 5 - g2 < kk → Wp d 22 4 [.ref h, .int x1_4, .int (nI g2)] [] M L Q := by
    intro kk
    induction kk with
    | zero => intro x1_4 g2 hi0_4 hm_4; exact absurd hm_4 (Nat.not_lt_zero _)
    | succ kk ih_4 =>
      intro x1_4 g2 hi0_4 hm_4
      refine w_load (.iload_n 2) 5 (by decide +kernel) rfl rfl ?_
      refine w_load (.aload_n 0) 6 (by decide +kernel) rfl rfl ?_
      refine w_getN (B := 5) (k := 2) 9 (by decide +kernel) hh.1.1 rfl (inv_h hI hh) (fun n1 hn1 en1 => ?_)
      refine w_cgeN 42 12 (by decide +kernel) (by omega) (by omega) (fun h2 => ?_) (fun h2 => ?_)
      · skip
        refine w_load (.iload_n 1) 43 (by decide +kernel) rfl rfl ?_
        exact w_ret (by decide +kernel) (hq _ trivial)
      · skip
        refine w_load (.iload_n 1) 13 (by decide +kernel) rfl rfl ?_
        refine w_load (.aload_n 0) 14 (by decide +kernel) rfl rfl ?_
        refine w_getR (k := 0) (r := h + 1) 17 (by decide +kernel) hh.1.1 rfl ?_
        refine w_pushN 10 19 (by decide +kernel) ?_
        refine w_load (.iload_n 2) 20 (by decide +kernel) rfl rfl ?_
        refine w_addN (10 + g2) 21 (by decide +kernel) (by omega) ?_
        refine w_ialdN 22 (by decide +kernel) hh.1.2.1 (by omega) (by omega) ?_
        refine w_push (-9) 24 (by decide +kernel) ?_
        refine w_ceq 33 27 (by decide +kernel) (fun h3 => ?_) (fun h3 => ?_)
        · skip
          refine w_pushN 0 34 (by decide +kernel) ?_
          refine w_pure .ior 35 (by decide +kernel) rfl rfl ?_
          refine w_topi (fun v4 ev4 => ?_)
          refine w_store (ls' := [.ref h, .int v4, .int (nI g2)]) (.istore_n 1) 36 (by decide +kernel) rfl rfl ?_
          refine w_iincN (z := 2) (g2 + 1) 39 (by decide +kernel) rfl (Nat.le_of_ble_eq_true rfl) rfl rfl ?_
          show Wp _ _ _ [.ref h, .int v4, .int (nI (g2 + 1))] _ _ _ _
          refine w_goto 4 (by decide +kernel) ?_
          exact ih_4 _ (g2 + 1) (by omega) (by omega)
        · skip
          refine w_pushN 1 28 (by decide +kernel) ?_
          refine w_load (.iload_n 2) 29 (by decide +kernel) rfl rfl ?_
          refine w_pure .ishl 30 (by decide +kernel) rfl rfl ?_
          refine w_goto 34 (by decide +kernel) ?_
          refine w_pure .ior 35 (by decide +kernel) rfl rfl ?_
          refine w_topi (fun v5 ev5 => ?_)
          refine w_store (ls' := [.ref h, .int v5, .int (nI g2)]) (.istore_n 1) 36 (by decide +kernel) rfl rfl ?_
          refine w_iincN (z := 2) (g2 + 1) 39 (by decide +kernel) rfl (Nat.le_of_ble_eq_true rfl) rfl rfl ?_
          show Wp _ _ _ [.ref h, .int v5, .int (nI (g2 + 1))] _ _ _ _
          refine w_goto 4 (by decide +kernel) ?_
          exact ih_4 _ (g2 + 1) (by omega) (by omega)
  exact LP_4 _ _ 0 (by omega) (Nat.lt_succ_self _)
-- X1_coinsOfAll
set_option maxRecDepth 10000 in
theorem k_23 {d : Nat} {M : Mt} {L : Lt} {Q : Option Value → Mt → Lt → Prop} {h : Nat}  (hI : Inv M) (hh : Hs h) (hd : 0 ≤ d) (hq : ∀ (r : Int32), True → Q (some (.int r)) M L) : Wp d 23 0 [.ref h, .null, .null] [] M L Q := by
  refine w_pushN 0 1 (by decide +kernel) ?_
  refine w_store (ls' := [.ref h, .int (nI 0), .null]) (.istore_n 1) 2 (by decide +kernel) rfl rfl ?_
  refine w_pushN 0 3 (by decide +kernel) ?_
  refine w_store (ls' := [.ref h, .int (nI 0), .int (nI 0)]) (.istore_n 2) 4 (by decide +kernel) rfl rfl ?_
  have LP_4 : ∀ (kk : Nat) (x1_4 : Int32) (g2 : Nat), g2 ≤ 5 → 5 - g2 < kk → Wp d 23 4 [.ref h, .int x1_4, .int (nI g2)] [] M L Q := by
    intro kk
    induction kk with
    | zero => intro x1_4 g2 hi0_4 hm_4; exact absurd hm_4 (Nat.not_lt_zero _)
    | succ kk ih_4 =>
      intro x1_4 g2 hi0_4 hm_4
      refine w_load (.iload_n 2) 5 (by decide +kernel) rfl rfl ?_
      refine w_load (.aload_n 0) 6 (by decide +kernel) rfl rfl ?_
      refine w_getN (B := 5) (k := 2) 9 (by decide +kernel) hh.1.1 rfl (inv_h hI hh) (fun n1 hn1 en1 => ?_)
      refine w_cgeN 29 12 (by decide +kernel) (by omega) (by omega) (fun h2 => ?_) (fun h2 => ?_)
      · skip
        refine w_load (.iload_n 1) 30 (by decide +kernel) rfl rfl ?_
        exact w_ret (by decide +kernel) (hq _ trivial)
      · skip
        refine w_load (.iload_n 1) 13 (by decide +kernel) rfl rfl ?_
        refine w_load (.aload_n 0) 14 (by decide +kernel) rfl rfl ?_
        refine w_getR (k := 0) (r := h + 1) 17 (by decide +kernel) hh.1.1 rfl ?_
        refine w_pushN 5 18 (by decide +kernel) ?_
        refine w_load (.iload_n 2) 19 (by decide +kernel) rfl rfl ?_
        refine w_addN (5 + g2) 20 (by decide +kernel) (by omega) ?_
        refine w_ialdN 21 (by decide +kernel) hh.1.2.1 (by omega) (by omega) ?_
        refine w_pure .iadd 22 (by decide +kernel) rfl rfl ?_
        refine w_topi (fun v3 ev3 => ?_)
        refine w_store (ls' := [.ref h, .int v3, .int (nI g2)]) (.istore_n 1) 23 (by decide +kernel) rfl rfl ?_
        refine w_iincN (z := 2) (g2 + 1) 26 (by decide +kernel) rfl (Nat.le_of_ble_eq_true rfl) rfl rfl ?_
        show Wp _ _ _ [.ref h, .int v3, .int (nI (g2 + 1))] _ _ _ _
        refine w_goto 4 (by decide +kernel) ?_
        exact ih_4 _ (g2 + 1) (by omega) (by omega)
  exact LP_4 _ _ 0 (by omega) (Nat.lt_succ_self _)
-- X1_bearing
set_option maxRecDepth 10000 in
theorem k_24 {d : Nat} {M : Mt} {L : Lt} {Q : Option Value → Mt → Lt → Prop} {h : Nat} {a : Int32} (hI : Inv M) (hh : Hs h) (hd : 0 ≤ d) (hq : ∀ (r : Int32), True → Q (some (.int r)) M L) : Wp d 24 0 [.ref h, .int a, .null, .null] [] M L Q := by
  refine w_pushN 0 1 (by decide +kernel) ?_
  refine w_store (ls' := [.ref h, .int a, .int (nI 0), .null]) (.istore_n 2) 2 (by decide +kernel) rfl rfl ?_
  refine w_pushN 0 3 (by decide +kernel) ?_
  refine w_store (ls' := [.ref h, .int a, .int (nI 0), .int (nI 0)]) (.istore_n 3) 4 (by decide +kernel) rfl rfl ?_
  have LP_4 : ∀ (kk : Nat) (x2_4 : Int32) (g3 : Nat), g3 ≤ 5 → 5 - g3 < kk → Wp d 24 4 [.ref h, .int a, .int x2_4, .int (nI g3)] [] M L Q := by
    intro kk
    induction kk with
    | zero => intro x2_4 g3 hi0_4 hm_4; exact absurd hm_4 (Nat.not_lt_zero _)
    | succ kk ih_4 =>
      intro x2_4 g3 hi0_4 hm_4
      refine w_load (.iload_n 3) 5 (by decide +kernel) rfl rfl ?_
      refine w_load (.aload_n 0) 6 (by decide +kernel) rfl rfl ?_
      refine w_getN (B := 5) (k := 2) 9 (by decide +kernel) hh.1.1 rfl (inv_h hI hh) (fun n1 hn1 en1 => ?_)
      refine w_cgeN 40 12 (by decide +kernel) (by omega) (by omega) (fun h2 => ?_) (fun h2 => ?_)
      · skip
        refine w_load (.iload_n 2) 41 (by decide +kernel) rfl rfl ?_
        refine w_load (.aload_n 0) 42 (by decide +kernel) rfl rfl ?_
        refine w_getR (k := 0) (r := h + 1) 45 (by decide +kernel) hh.1.1 rfl ?_
        refine w_pushN 15 47 (by decide +kernel) ?_
        refine w_ialdN 48 (by decide +kernel) hh.1.2.1 (by omega) (by omega) ?_
        refine w_pure .iand 49 (by decide +kernel) rfl rfl ?_
        exact w_ret (by decide +kernel) (hq _ trivial)
      · skip
        refine w_load (.iload_n 2) 13 (by decide +kernel) rfl rfl ?_
        refine w_load (.aload_n 0) 14 (by decide +kernel) rfl rfl ?_
        refine w_getR (k := 0) (r := h + 1) 17 (by decide +kernel) hh.1.1 rfl ?_
        refine w_pushN 0 18 (by decide +kernel) ?_
        refine w_load (.iload_n 3) 19 (by decide +kernel) rfl rfl ?_
        refine w_addN g3 20 (by decide +kernel) (by omega) ?_
        refine w_ialdN 21 (by decide +kernel) hh.1.2.1 (by omega) (by omega) ?_
        refine w_load (.iload_n 1) 22 (by decide +kernel) rfl rfl ?_
        refine w_cne 31 25 (by decide +kernel) (fun h3 => ?_) (fun h3 => ?_)
        · skip
          refine w_pushN 0 32 (by decide +kernel) ?_
          refine w_pure .ior 33 (by decide +kernel) rfl rfl ?_
          refine w_topi (fun v4 ev4 => ?_)
          refine w_store (ls' := [.ref h, .int a, .int v4, .int (nI g3)]) (.istore_n 2) 34 (by decide +kernel) rfl rfl ?_
          refine w_iincN (z := 3) (g3 + 1) 37 (by decide +kernel) rfl (Nat.le_of_ble_eq_true rfl) rfl rfl ?_
          show Wp _ _ _ [.ref h, .int a, .int v4, .int (nI (g3 + 1))] _ _ _ _
          refine w_goto 4 (by decide +kernel) ?_
          exact ih_4 _ (g3 + 1) (by omega) (by omega)
        · skip
          refine w_pushN 1 26 (by decide +kernel) ?_
          refine w_load (.iload_n 3) 27 (by decide +kernel) rfl rfl ?_
          refine w_pure .ishl 28 (by decide +kernel) rfl rfl ?_
          refine w_goto 32 (by decide +kernel) ?_
          refine w_pure .ior 33 (by decide +kernel) rfl rfl ?_
          refine w_topi (fun v5 ev5 => ?_)
          refine w_store (ls' := [.ref h, .int a, .int v5, .int (nI g3)]) (.istore_n 2) 34 (by decide +kernel) rfl rfl ?_
          refine w_iincN (z := 3) (g3 + 1) 37 (by decide +kernel) rfl (Nat.le_of_ble_eq_true rfl) rfl rfl ?_
          show Wp _ _ _ [.ref h, .int a, .int v5, .int (nI (g3 + 1))] _ _ _ _
          refine w_goto 4 (by decide +kernel) ?_
          exact ih_4 _ (g3 + 1) (by omega) (by omega)
  exact LP_4 _ _ 0 (by omega) (Nat.lt_succ_self _)
-- X1_namesBorne
set_option maxRecDepth 10000 in
theorem k_25 {d : Nat} {M : Mt} {L : Lt} {Q : Option Value → Mt → Lt → Prop} {h : Nat}  (hI : Inv M) (hh : Hs h) (hd : 1 ≤ d) (hq : ∀ (r : Int32), True → Q (some (.int r)) M L) : Wp d 25 0 [.ref h, .null, .null] [] M L Q := by
  refine w_pushN 0 1 (by decide +kernel) ?_
  refine w_store (ls' := [.ref h, .int (nI 0), .null]) (.istore_n 1) 2 (by decide +kernel) rfl rfl ?_
  refine w_pushN 0 3 (by decide +kernel) ?_
  refine w_store (ls' := [.ref h, .int (nI 0), .int (nI 0)]) (.istore_n 2) 4 (by decide +kernel) rfl rfl ?_
  have LP_4 : ∀ (kk : Nat) (x1_4 : Int32) (g2 : Nat), g2 ≤ 4 → 4 - g2 < kk → Wp d 25 4 [.ref h, .int x1_4, .int (nI g2)] [] M L Q := by
    intro kk
    induction kk with
    | zero => intro x1_4 g2 hi0_4 hm_4; exact absurd hm_4 (Nat.not_lt_zero _)
    | succ kk ih_4 =>
      intro x1_4 g2 hi0_4 hm_4
      refine w_load (.iload_n 2) 5 (by decide +kernel) rfl rfl ?_
      refine w_pushN 4 6 (by decide +kernel) ?_
      refine w_cgeN 33 9 (by decide +kernel) (by omega) (by omega) (fun h1 => ?_) (fun h1 => ?_)
      · skip
        refine w_load (.iload_n 1) 34 (by decide +kernel) rfl rfl ?_
        exact w_ret (by decide +kernel) (hq _ trivial)
      · skip
        refine w_load (.iload_n 1) 10 (by decide +kernel) rfl rfl ?_
        refine w_load (.aload_n 0) 11 (by decide +kernel) rfl rfl ?_
        refine w_load (.iload_n 2) 12 (by decide +kernel) rfl rfl ?_
        refine w_callV1 24 1 4 15 (by decide +kernel) hh.1.1 (Nat.le_of_ble_eq_true rfl) rfl (by decide) (by omega) ?_
        refine k_24 hI hh (by omega) (fun r2 hr2 => ?_)
        dsimp only [Option.toList, List.cons_append, List.nil_append]
        refine w_ieq 24 18 (by decide +kernel) (fun h3 => ?_) (fun h3 => ?_)
        · skip
          refine w_pushN 0 25 (by decide +kernel) ?_
          refine w_pure .ior 26 (by decide +kernel) rfl rfl ?_
          refine w_topi (fun v4 ev4 => ?_)
          refine w_store (ls' := [.ref h, .int v4, .int (nI g2)]) (.istore_n 1) 27 (by decide +kernel) rfl rfl ?_
          refine w_iincN (z := 2) (g2 + 1) 30 (by decide +kernel) rfl (Nat.le_of_ble_eq_true rfl) rfl rfl ?_
          show Wp _ _ _ [.ref h, .int v4, .int (nI (g2 + 1))] _ _ _ _
          refine w_goto 4 (by decide +kernel) ?_
          exact ih_4 _ (g2 + 1) (by omega) (by omega)
        · skip
          refine w_pushN 1 19 (by decide +kernel) ?_
          refine w_load (.iload_n 2) 20 (by decide +kernel) rfl rfl ?_
          refine w_pure .ishl 21 (by decide +kernel) rfl rfl ?_
          refine w_goto 25 (by decide +kernel) ?_
          refine w_pure .ior 26 (by decide +kernel) rfl rfl ?_
          refine w_topi (fun v5 ev5 => ?_)
          refine w_store (ls' := [.ref h, .int v5, .int (nI g2)]) (.istore_n 1) 27 (by decide +kernel) rfl rfl ?_
          refine w_iincN (z := 2) (g2 + 1) 30 (by decide +kernel) rfl (Nat.le_of_ble_eq_true rfl) rfl rfl ?_
          show Wp _ _ _ [.ref h, .int v5, .int (nI (g2 + 1))] _ _ _ _
          refine w_goto 4 (by decide +kernel) ?_
          exact ih_4 _ (g2 + 1) (by omega) (by omega)
  exact LP_4 _ _ 0 (by omega) (Nat.lt_succ_self _)
-- X1_rename
set_option maxRecDepth 10000 in
theorem k_26 {d : Nat} {M : Mt} {L : Lt} {Q : Option Value → Mt → Lt → Prop} {h : Nat} {g : Int32} {a : Int32} (hI : Inv M) (hh : Hs h) (hd : 1 ≤ d) (hq : ∀ (N : Mt), St (fun i _ => h ≤ i ∧ i ≤ h + 2) M N → True → Q none N L) : Wp d 26 0 [.ref h, .int g, .int a] [] M L Q := by
  refine (show ∀ N : Mt, N = M → St (fun i _ => h ≤ i ∧ i ≤ h + 2) M N → Wp d 26 0 [.ref h, .int g, .int a] [] N L Q from ?_) M rfl (St.rf hI)
  intro N hNM hS
  refine w_load (.aload_n 0) 1 (by decide +kernel) rfl rfl ?_
  refine w_load (.iload_n 1) 2 (by decide +kernel) rfl rfl ?_
  refine w_callV1 11 1 2 5 (by decide +kernel) hh.1.1 (Nat.le_of_ble_eq_true rfl) rfl (by decide) (by omega) ?_
  refine k_11 hS.1 hh (by omega) (fun r1 hr1 => ?_)
  dsimp only [Option.toList, List.cons_append, List.nil_append]
  rcases hr1 with ⟨rfl, k2, hk2, rfl⟩ | rfl
  · skip
    refine w_ieq 17 8 (by decide +kernel) (fun hz => absurd hz (by decide)) (fun _ => ?_)
    refine w_load (.aload_n 0) 9 (by decide +kernel) rfl rfl ?_
    refine w_getR (k := 0) (r := h + 1) 12 (by decide +kernel) hh.1.1 rfl ?_
    refine w_pushN 0 13 (by decide +kernel) ?_
    refine w_load (.iload_n 1) 14 (by decide +kernel) rfl rfl ?_
    refine w_addN k2 15 (by decide +kernel) (by omega) ?_
    refine w_load (.iload_n 2) 16 (by decide +kernel) rfl rfl ?_
    refine w_iastW 17 (by decide +kernel) hh.1.2.1 (by omega) (by omega) hS (Rg.free (by simp only [Hs, Tl, Sc, isScr, isHs, isTs] at *; omega)) (by first | exact rfl | omega | (dsimp only; omega) | (simp only [Hs, Tl, Sc, isHs, isScr, isTs] at *; omega)) (fun N hS hq4 oq4 => ?_)
    exact w_retV (by decide +kernel) (hq N hS trivial)
  · skip
    refine w_ieq 17 8 (by decide +kernel) (fun _ => ?_) (fun hz => absurd hz (by decide))
    exact w_retV (by decide +kernel) (hq N hS trivial)
-- X1_payFine
set_option maxRecDepth 10000 in
theorem k_27 {d : Nat} {M : Mt} {L : Lt} {Q : Option Value → Mt → Lt → Prop} {h : Nat} {g : Int32} (hI : Inv M) (hh : Hs h) (hd : 1 ≤ d) (hq : ∀ (N : Mt), St (fun i _ => h ≤ i ∧ i ≤ h + 2) M N → True → Q none N L) : Wp d 27 0 [.ref h, .int g] [] M L Q := by
  refine (show ∀ N : Mt, N = M → St (fun i _ => h ≤ i ∧ i ≤ h + 2) M N → Wp d 27 0 [.ref h, .int g] [] N L Q from ?_) M rfl (St.rf hI)
  intro N hNM hS
  refine w_load (.aload_n 0) 1 (by decide +kernel) rfl rfl ?_
  refine w_load (.iload_n 1) 2 (by decide +kernel) rfl rfl ?_
  refine w_callV1 11 1 2 5 (by decide +kernel) hh.1.1 (Nat.le_of_ble_eq_true rfl) rfl (by decide) (by omega) ?_
  refine k_11 hS.1 hh (by omega) (fun r1 hr1 => ?_)
  dsimp only [Option.toList, List.cons_append, List.nil_append]
  rcases hr1 with ⟨rfl, k2, hk2, rfl⟩ | rfl
  · skip
    refine w_ieq 20 8 (by decide +kernel) (fun hz => absurd hz (by decide)) (fun _ => ?_)
    refine w_load (.aload_n 0) 9 (by decide +kernel) rfl rfl ?_
    refine w_getR (k := 0) (r := h + 1) 12 (by decide +kernel) hh.1.1 rfl ?_
    refine w_pushN 5 13 (by decide +kernel) ?_
    refine w_load (.iload_n 1) 14 (by decide +kernel) rfl rfl ?_
    refine w_addN (5 + k2) 15 (by decide +kernel) (by omega) ?_
    refine w_pure .dup2 16 (by decide +kernel) rfl rfl ?_
    refine w_ialdN 17 (by decide +kernel) hh.1.2.1 (by omega) (by omega) ?_
    refine w_pushN 1 18 (by decide +kernel) ?_
    refine w_pure .isub 19 (by decide +kernel) rfl rfl ?_
    refine w_iastW 20 (by decide +kernel) hh.1.2.1 (by omega) (by omega) hS (Rg.free (by simp only [Hs, Tl, Sc, isScr, isHs, isTs] at *; omega)) (by first | exact rfl | omega | (dsimp only; omega) | (simp only [Hs, Tl, Sc, isHs, isScr, isTs] at *; omega)) (fun N hS hq4 oq4 => ?_)
    exact w_retV (by decide +kernel) (hq N hS trivial)
  · skip
    refine w_ieq 20 8 (by decide +kernel) (fun _ => ?_) (fun hz => absurd hz (by decide))
    exact w_retV (by decide +kernel) (hq N hS trivial)
-- X1_handCoin
set_option maxRecDepth 10000 in
theorem k_28 {d : Nat} {M : Mt} {L : Lt} {Q : Option Value → Mt → Lt → Prop} {h : Nat} {g : Int32} {o : Int32} (hI : Inv M) (hh : Hs h) (hd : 1 ≤ d) (hq : ∀ (r : Int32) (N : Mt), St (fun i _ => h ≤ i ∧ i ≤ h + 2) M N → (r = 0 ∨ r = 1) → Q (some (.int r)) N L) : Wp d 28 0 [.ref h, .int g, .int o] [] M L Q := by
  refine (show ∀ N : Mt, N = M → St (fun i _ => h ≤ i ∧ i ≤ h + 2) M N → Wp d 28 0 [.ref h, .int g, .int o] [] N L Q from ?_) M rfl (St.rf hI)
  intro N hNM hS
  refine w_load (.aload_n 0) 1 (by decide +kernel) rfl rfl ?_
  refine w_load (.iload_n 1) 2 (by decide +kernel) rfl rfl ?_
  refine w_callV1 11 1 2 5 (by decide +kernel) hh.1.1 (Nat.le_of_ble_eq_true rfl) rfl (by decide) (by omega) ?_
  refine k_11 hS.1 hh (by omega) (fun r1 hr1 => ?_)
  dsimp only [Option.toList, List.cons_append, List.nil_append]
  rcases hr1 with ⟨rfl, k2, hk2, rfl⟩ | rfl
  · skip
    refine w_ieq 27 8 (by decide +kernel) (fun hz => absurd hz (by decide)) (fun _ => ?_)
    refine w_load (.aload_n 0) 9 (by decide +kernel) rfl rfl ?_
    refine w_load (.iload_n 2) 10 (by decide +kernel) rfl rfl ?_
    refine w_callV1 11 1 2 13 (by decide +kernel) hh.1.1 (Nat.le_of_ble_eq_true rfl) rfl (by decide) (by omega) ?_
    refine k_11 hS.1 hh (by omega) (fun r4 hr4 => ?_)
    dsimp only [Option.toList, List.cons_append, List.nil_append]
    rcases hr4 with ⟨rfl, k5, hk5, rfl⟩ | rfl
    · skip
      refine w_ieq 27 16 (by decide +kernel) (fun hz => absurd hz (by decide)) (fun _ => ?_)
      refine w_load (.aload_n 0) 17 (by decide +kernel) rfl rfl ?_
      refine w_getR (k := 0) (r := h + 1) 20 (by decide +kernel) hh.1.1 rfl ?_
      refine w_pushN 5 21 (by decide +kernel) ?_
      refine w_load (.iload_n 1) 22 (by decide +kernel) rfl rfl ?_
      refine w_addN (5 + k2) 23 (by decide +kernel) (by omega) ?_
      refine w_ialdN 24 (by decide +kernel) hh.1.2.1 (by omega) (by omega) ?_
      refine w_igt 29 27 (by decide +kernel) (fun h7 => ?_) (fun h7 => ?_)
      · skip
        refine w_load (.aload_n 0) 30 (by decide +kernel) rfl rfl ?_
        refine w_getR (k := 0) (r := h + 1) 33 (by decide +kernel) hh.1.1 rfl ?_
        refine w_pushN 5 34 (by decide +kernel) ?_
        refine w_load (.iload_n 1) 35 (by decide +kernel) rfl rfl ?_
        refine w_addN (5 + k2) 36 (by decide +kernel) (by omega) ?_
        refine w_pure .dup2 37 (by decide +kernel) rfl rfl ?_
        refine w_ialdN 38 (by decide +kernel) hh.1.2.1 (by omega) (by omega) ?_
        refine w_pushN 1 39 (by decide +kernel) ?_
        refine w_pure .isub 40 (by decide +kernel) rfl rfl ?_
        refine w_iastW 41 (by decide +kernel) hh.1.2.1 (by omega) (by omega) hS (Rg.free (by simp only [Hs, Tl, Sc, isScr, isHs, isTs] at *; omega)) (by first | exact rfl | omega | (dsimp only; omega) | (simp only [Hs, Tl, Sc, isHs, isScr, isTs] at *; omega)) (fun N hS hq8 oq8 => ?_)
        refine w_load (.aload_n 0) 42 (by decide +kernel) rfl rfl ?_
        refine w_getR (k := 0) (r := h + 1) 45 (by decide +kernel) hh.1.1 rfl ?_
        refine w_pushN 5 46 (by decide +kernel) ?_
        refine w_load (.iload_n 2) 47 (by decide +kernel) rfl rfl ?_
        refine w_addN (5 + k5) 48 (by decide +kernel) (by omega) ?_
        refine w_pure .dup2 49 (by decide +kernel) rfl rfl ?_
        refine w_ialdN 50 (by decide +kernel) hh.1.2.1 (by omega) (by omega) ?_
        refine w_pushN 1 51 (by decide +kernel) ?_
        refine w_pure .iadd 52 (by decide +kernel) rfl rfl ?_
        refine w_iastW 53 (by decide +kernel) hh.1.2.1 (by omega) (by omega) hS (Rg.free (by simp only [Hs, Tl, Sc, isScr, isHs, isTs] at *; omega)) (by first | exact rfl | omega | (dsimp only; omega) | (simp only [Hs, Tl, Sc, isHs, isScr, isTs] at *; omega)) (fun N hS hq9 oq9 => ?_)
        refine w_pushN 1 54 (by decide +kernel) ?_
        exact w_retZ (by decide +kernel) (Or.inr rfl) (hq _ N hS (Or.inr rfl))
      · skip
        refine w_pushN 0 28 (by decide +kernel) ?_
        exact w_retZ (by decide +kernel) (Or.inl rfl) (hq _ N hS (Or.inl rfl))
    · skip
      refine w_ieq 27 16 (by decide +kernel) (fun _ => ?_) (fun hz => absurd hz (by decide))
      refine w_pushN 0 28 (by decide +kernel) ?_
      exact w_retZ (by decide +kernel) (Or.inl rfl) (hq _ N hS (Or.inl rfl))
  · skip
    refine w_ieq 27 8 (by decide +kernel) (fun _ => ?_) (fun hz => absurd hz (by decide))
    refine w_pushN 0 28 (by decide +kernel) ?_
    exact w_retZ (by decide +kernel) (Or.inl rfl) (hq _ N hS (Or.inl rfl))
-- X1_join
set_option maxRecDepth 10000 in
theorem k_29 {d : Nat} {M : Mt} {L : Lt} {Q : Option Value → Mt → Lt → Prop} {h : Nat} {g : Int32} {o : Int32} (hI : Inv M) (hh : Hs h) (hd : 1 ≤ d) (hq : ∀ (r : Int32) (N : Mt), St (fun i _ => h ≤ i ∧ i ≤ h + 2) M N → (r = 0 ∨ r = 1) → Q (some (.int r)) N L) : Wp d 29 0 [.ref h, .int g, .int o] [] M L Q := by
  refine (show ∀ N : Mt, N = M → St (fun i _ => h ≤ i ∧ i ≤ h + 2) M N → Wp d 29 0 [.ref h, .int g, .int o] [] N L Q from ?_) M rfl (St.rf hI)
  intro N hNM hS
  refine w_load (.aload_n 0) 1 (by decide +kernel) rfl rfl ?_
  refine w_load (.iload_n 1) 2 (by decide +kernel) rfl rfl ?_
  refine w_callV1 11 1 2 5 (by decide +kernel) hh.1.1 (Nat.le_of_ble_eq_true rfl) rfl (by decide) (by omega) ?_
  refine k_11 hS.1 hh (by omega) (fun r1 hr1 => ?_)
  dsimp only [Option.toList, List.cons_append, List.nil_append]
  rcases hr1 with ⟨rfl, k2, hk2, rfl⟩ | rfl
  · skip
    refine w_ieq 44 8 (by decide +kernel) (fun hz => absurd hz (by decide)) (fun _ => ?_)
    refine w_load (.aload_n 0) 9 (by decide +kernel) rfl rfl ?_
    refine w_load (.iload_n 2) 10 (by decide +kernel) rfl rfl ?_
    refine w_callV1 11 1 2 13 (by decide +kernel) hh.1.1 (Nat.le_of_ble_eq_true rfl) rfl (by decide) (by omega) ?_
    refine k_11 hS.1 hh (by omega) (fun r4 hr4 => ?_)
    dsimp only [Option.toList, List.cons_append, List.nil_append]
    rcases hr4 with ⟨rfl, k5, hk5, rfl⟩ | rfl
    · skip
      refine w_ieq 44 16 (by decide +kernel) (fun hz => absurd hz (by decide)) (fun _ => ?_)
      refine w_load (.aload_n 0) 17 (by decide +kernel) rfl rfl ?_
      refine w_getR (k := 0) (r := h + 1) 20 (by decide +kernel) hh.1.1 rfl ?_
      refine w_pushN 10 22 (by decide +kernel) ?_
      refine w_load (.iload_n 1) 23 (by decide +kernel) rfl rfl ?_
      refine w_addN (10 + k2) 24 (by decide +kernel) (by omega) ?_
      refine w_ialdN 25 (by decide +kernel) hh.1.2.1 (by omega) (by omega) ?_
      refine w_push (-9) 27 (by decide +kernel) ?_
      refine w_cne 44 30 (by decide +kernel) (fun h7 => ?_) (fun h7 => ?_)
      · skip
        refine w_pushN 0 45 (by decide +kernel) ?_
        exact w_retZ (by decide +kernel) (Or.inl rfl) (hq _ N hS (Or.inl rfl))
      · skip
        refine w_load (.aload_n 0) 31 (by decide +kernel) rfl rfl ?_
        refine w_getR (k := 0) (r := h + 1) 34 (by decide +kernel) hh.1.1 rfl ?_
        refine w_pushN 10 36 (by decide +kernel) ?_
        refine w_load (.iload_n 2) 37 (by decide +kernel) rfl rfl ?_
        refine w_addN (10 + k5) 38 (by decide +kernel) (by omega) ?_
        refine w_ialdN 39 (by decide +kernel) hh.1.2.1 (by omega) (by omega) ?_
        refine w_push (-9) 41 (by decide +kernel) ?_
        refine w_ceq 46 44 (by decide +kernel) (fun h8 => ?_) (fun h8 => ?_)
        · skip
          refine w_load (.aload_n 0) 47 (by decide +kernel) rfl rfl ?_
          refine w_getR (k := 0) (r := h + 1) 50 (by decide +kernel) hh.1.1 rfl ?_
          refine w_pushN 10 52 (by decide +kernel) ?_
          refine w_load (.iload_n 1) 53 (by decide +kernel) rfl rfl ?_
          refine w_addN (10 + k2) 54 (by decide +kernel) (by omega) ?_
          refine w_load (.iload_n 2) 55 (by decide +kernel) rfl rfl ?_
          refine w_iastW 56 (by decide +kernel) hh.1.2.1 (by omega) (by omega) hS (Rg.free (by simp only [Hs, Tl, Sc, isScr, isHs, isTs] at *; omega)) (by first | exact rfl | omega | (dsimp only; omega) | (simp only [Hs, Tl, Sc, isHs, isScr, isTs] at *; omega)) (fun N hS hq9 oq9 => ?_)
          refine w_load (.aload_n 0) 57 (by decide +kernel) rfl rfl ?_
          refine w_getR (k := 0) (r := h + 1) 60 (by decide +kernel) hh.1.1 rfl ?_
          refine w_pushN 10 62 (by decide +kernel) ?_
          refine w_load (.iload_n 2) 63 (by decide +kernel) rfl rfl ?_
          refine w_addN (10 + k5) 64 (by decide +kernel) (by omega) ?_
          refine w_load (.iload_n 1) 65 (by decide +kernel) rfl rfl ?_
          refine w_iastW 66 (by decide +kernel) hh.1.2.1 (by omega) (by omega) hS (Rg.free (by simp only [Hs, Tl, Sc, isScr, isHs, isTs] at *; omega)) (by first | exact rfl | omega | (dsimp only; omega) | (simp only [Hs, Tl, Sc, isHs, isScr, isTs] at *; omega)) (fun N hS hq10 oq10 => ?_)
          refine w_pushN 1 67 (by decide +kernel) ?_
          exact w_retZ (by decide +kernel) (Or.inr rfl) (hq _ N hS (Or.inr rfl))
        · skip
          refine w_pushN 0 45 (by decide +kernel) ?_
          exact w_retZ (by decide +kernel) (Or.inl rfl) (hq _ N hS (Or.inl rfl))
    · skip
      refine w_ieq 44 16 (by decide +kernel) (fun _ => ?_) (fun hz => absurd hz (by decide))
      refine w_pushN 0 45 (by decide +kernel) ?_
      exact w_retZ (by decide +kernel) (Or.inl rfl) (hq _ N hS (Or.inl rfl))
  · skip
    refine w_ieq 44 8 (by decide +kernel) (fun _ => ?_) (fun hz => absurd hz (by decide))
    refine w_pushN 0 45 (by decide +kernel) ?_
    exact w_retZ (by decide +kernel) (Or.inl rfl) (hq _ N hS (Or.inl rfl))
-- X1_bury
set_option maxRecDepth 10000 in
theorem k_30 {d : Nat} {M : Mt} {L : Lt} {Q : Option Value → Mt → Lt → Prop} {h : Nat} {g : Int32} (hI : Inv M) (hh : Hs h) (hd : 1 ≤ d) (hq : ∀ (N : Mt), St (fun i _ => h ≤ i ∧ i ≤ h + 2) M N → True → Q none N L) : Wp d 30 0 [.ref h, .int g, .null] [] M L Q := by
  refine (show ∀ N : Mt, N = M → St (fun i _ => h ≤ i ∧ i ≤ h + 2) M N → Wp d 30 0 [.ref h, .int g, .null] [] N L Q from ?_) M rfl (St.rf hI)
  intro N hNM hS
  refine w_load (.aload_n 0) 1 (by decide +kernel) rfl rfl ?_
  refine w_load (.iload_n 1) 2 (by decide +kernel) rfl rfl ?_
  refine w_callV1 11 1 2 5 (by decide +kernel) hh.1.1 (Nat.le_of_ble_eq_true rfl) rfl (by decide) (by omega) ?_
  refine k_11 hS.1 hh (by omega) (fun r1 hr1 => ?_)
  dsimp only [Option.toList, List.cons_append, List.nil_append]
  rcases hr1 with ⟨rfl, k2, hk2, rfl⟩ | rfl
  · skip
    refine w_ine 9 8 (by decide +kernel) (fun _ => ?_) (fun hz => absurd hz (by decide))
    refine w_load (.aload_n 0) 10 (by decide +kernel) rfl rfl ?_
    refine w_getR (k := 0) (r := h + 1) 13 (by decide +kernel) hh.1.1 rfl ?_
    refine w_pushN 10 15 (by decide +kernel) ?_
    refine w_load (.iload_n 1) 16 (by decide +kernel) rfl rfl ?_
    refine w_addN (10 + k2) 17 (by decide +kernel) (by omega) ?_
    refine w_ialdN 18 (by decide +kernel) hh.1.2.1 (by omega) (by omega) ?_
    refine w_topi (fun v4 ev4 => ?_)
    refine w_store (ls' := [.ref h, .int (nI k2), .int v4]) (.istore_n 2) 19 (by decide +kernel) rfl rfl ?_
    refine w_load (.aload_n 0) 20 (by decide +kernel) rfl rfl ?_
    refine w_load (.iload_n 2) 21 (by decide +kernel) rfl rfl ?_
    refine w_callV1 11 1 2 24 (by decide +kernel) hh.1.1 (Nat.le_of_ble_eq_true rfl) rfl (by decide) (by omega) ?_
    refine k_11 hS.1 hh (by omega) (fun r5 hr5 => ?_)
    dsimp only [Option.toList, List.cons_append, List.nil_append]
    rcases hr5 with ⟨rfl, k6, hk6, rfl⟩ | rfl
    · skip
      refine w_ieq 38 27 (by decide +kernel) (fun hz => absurd hz (by decide)) (fun _ => ?_)
      refine w_load (.aload_n 0) 28 (by decide +kernel) rfl rfl ?_
      refine w_getR (k := 0) (r := h + 1) 31 (by decide +kernel) hh.1.1 rfl ?_
      refine w_pushN 10 33 (by decide +kernel) ?_
      refine w_load (.iload_n 2) 34 (by decide +kernel) rfl rfl ?_
      refine w_addN (10 + k6) 35 (by decide +kernel) (by omega) ?_
      refine w_push (-9) 37 (by decide +kernel) ?_
      refine w_iastW 38 (by decide +kernel) hh.1.2.1 (by omega) (by omega) hS (Rg.free (by simp only [Hs, Tl, Sc, isScr, isHs, isTs] at *; omega)) (by first | exact rfl | omega | (dsimp only; omega) | (simp only [Hs, Tl, Sc, isHs, isScr, isTs] at *; omega)) (fun N hS hq8 oq8 => ?_)
      refine w_load (.aload_n 0) 39 (by decide +kernel) rfl rfl ?_
      refine w_getR (k := 0) (r := h + 1) 42 (by decide +kernel) hh.1.1 rfl ?_
      refine w_pushN 10 44 (by decide +kernel) ?_
      refine w_load (.iload_n 1) 45 (by decide +kernel) rfl rfl ?_
      refine w_addN (10 + k2) 46 (by decide +kernel) (by omega) ?_
      refine w_push (-9) 48 (by decide +kernel) ?_
      refine w_iastW 49 (by decide +kernel) hh.1.2.1 (by omega) (by omega) hS (Rg.free (by simp only [Hs, Tl, Sc, isScr, isHs, isTs] at *; omega)) (by first | exact rfl | omega | (dsimp only; omega) | (simp only [Hs, Tl, Sc, isHs, isScr, isTs] at *; omega)) (fun N hS hq9 oq9 => ?_)
      refine w_load (.aload_n 0) 50 (by decide +kernel) rfl rfl ?_
      refine w_getR (k := 0) (r := h + 1) 53 (by decide +kernel) hh.1.1 rfl ?_
      refine w_pushN 15 55 (by decide +kernel) ?_
      refine w_pure .dup2 56 (by decide +kernel) rfl rfl ?_
      refine w_ialdN 57 (by decide +kernel) hh.1.2.1 (by omega) (by omega) ?_
      refine w_pushN 1 58 (by decide +kernel) ?_
      refine w_load (.iload_n 1) 59 (by decide +kernel) rfl rfl ?_
      refine w_pure .ishl 60 (by decide +kernel) rfl rfl ?_
      refine w_push (-1) 61 (by decide +kernel) ?_
      refine w_pure .ixor 62 (by decide +kernel) rfl rfl ?_
      refine w_pure .iand 63 (by decide +kernel) rfl rfl ?_
      refine w_iastW 64 (by decide +kernel) hh.1.2.1 (by omega) (by omega) hS (Rg.free (by simp only [Hs, Tl, Sc, isScr, isHs, isTs] at *; omega)) (by first | exact rfl | omega | (dsimp only; omega) | (simp only [Hs, Tl, Sc, isHs, isScr, isTs] at *; omega)) (fun N hS hq10 oq10 => ?_)
      exact w_retV (by decide +kernel) (hq N hS trivial)
    · skip
      refine w_ieq 38 27 (by decide +kernel) (fun _ => ?_) (fun hz => absurd hz (by decide))
      refine w_load (.aload_n 0) 39 (by decide +kernel) rfl rfl ?_
      refine w_getR (k := 0) (r := h + 1) 42 (by decide +kernel) hh.1.1 rfl ?_
      refine w_pushN 10 44 (by decide +kernel) ?_
      refine w_load (.iload_n 1) 45 (by decide +kernel) rfl rfl ?_
      refine w_addN (10 + k2) 46 (by decide +kernel) (by omega) ?_
      refine w_push (-9) 48 (by decide +kernel) ?_
      refine w_iastW 49 (by decide +kernel) hh.1.2.1 (by omega) (by omega) hS (Rg.free (by simp only [Hs, Tl, Sc, isScr, isHs, isTs] at *; omega)) (by first | exact rfl | omega | (dsimp only; omega) | (simp only [Hs, Tl, Sc, isHs, isScr, isTs] at *; omega)) (fun N hS hq12 oq12 => ?_)
      refine w_load (.aload_n 0) 50 (by decide +kernel) rfl rfl ?_
      refine w_getR (k := 0) (r := h + 1) 53 (by decide +kernel) hh.1.1 rfl ?_
      refine w_pushN 15 55 (by decide +kernel) ?_
      refine w_pure .dup2 56 (by decide +kernel) rfl rfl ?_
      refine w_ialdN 57 (by decide +kernel) hh.1.2.1 (by omega) (by omega) ?_
      refine w_pushN 1 58 (by decide +kernel) ?_
      refine w_load (.iload_n 1) 59 (by decide +kernel) rfl rfl ?_
      refine w_pure .ishl 60 (by decide +kernel) rfl rfl ?_
      refine w_push (-1) 61 (by decide +kernel) ?_
      refine w_pure .ixor 62 (by decide +kernel) rfl rfl ?_
      refine w_pure .iand 63 (by decide +kernel) rfl rfl ?_
      refine w_iastW 64 (by decide +kernel) hh.1.2.1 (by omega) (by omega) hS (Rg.free (by simp only [Hs, Tl, Sc, isScr, isHs, isTs] at *; omega)) (by first | exact rfl | omega | (dsimp only; omega) | (simp only [Hs, Tl, Sc, isHs, isScr, isTs] at *; omega)) (fun N hS hq13 oq13 => ?_)
      exact w_retV (by decide +kernel) (hq N hS trivial)
  · skip
    refine w_ine 9 8 (by decide +kernel) (fun hz => absurd hz (by decide)) (fun _ => ?_)
    exact w_retV (by decide +kernel) (hq N hS trivial)
end
section
-- X1_copyFrom
set_option maxRecDepth 10000 in
theorem k_8 {d : Nat} {M : Mt} {L : Lt} {Q : Option Value → Mt → Lt → Prop} {h o : Nat} (hI : Inv M) (hh : Hs h) (ho : Hs o) (hd : 0 ≤ d) (hq : ∀ (N : Mt), St (fun i _ => h ≤ i ∧ i ≤ h + 2) M N → True → Q none N L) : Wp d 8 0 [.ref h, .ref o] [] M L Q := by
  refine (show ∀ N : Mt, N = M → St (fun i _ => h ≤ i ∧ i ≤ h + 2) M N → Wp d 8 0 [.ref h, .ref o] [] N L Q from ?_) M rfl (St.rf hI)
  intro N hNM hS
  refine w_load (.aload_n 1) 1 (by decide +kernel) rfl rfl ?_
  refine w_getR (k := 0) (r := o + 1) 4 (by decide +kernel) ho.1.1 rfl ?_
  refine w_pushN 0 5 (by decide +kernel) ?_
  refine w_load (.aload_n 0) 6 (by decide +kernel) rfl rfl ?_
  refine w_getR (k := 0) (r := h + 1) 9 (by decide +kernel) hh.1.1 rfl ?_
  refine w_pushN 0 10 (by decide +kernel) ?_
  refine w_pushN 17 12 (by decide +kernel) ?_
  refine w_acpyW 15 (by decide +kernel) ho.1.2.1 hh.1.2.1 (by omega) (by omega) (by omega) (by omega) (Nat.le_of_ble_eq_true rfl) hS (fun z hz1 hz2 => Rg.free (by simp only [Hs, Tl, Sc, isScr, isHs, isTs] at *; omega)) (by intro z hz1 hz2; first | exact rfl | omega | (dsimp only; omega) | (simp only [Hs, Tl, Sc, isHs, isScr, isTs] at *; omega)) (fun N hS hc0 => ?_)
  refine w_load (.aload_n 1) 16 (by decide +kernel) rfl rfl ?_
  refine w_getR (k := 1) (r := o + 2) 19 (by decide +kernel) ho.1.1 rfl ?_
  refine w_pushN 0 20 (by decide +kernel) ?_
  refine w_load (.aload_n 0) 21 (by decide +kernel) rfl rfl ?_
  refine w_getR (k := 1) (r := h + 2) 24 (by decide +kernel) hh.1.1 rfl ?_
  refine w_pushN 0 25 (by decide +kernel) ?_
  refine w_pushN 5 26 (by decide +kernel) ?_
  refine w_acpyW 29 (by decide +kernel) ho.1.2.2 hh.1.2.2 (by omega) (by omega) (by omega) (by omega) (Nat.le_of_ble_eq_true rfl) hS (fun z hz1 hz2 => Rg.free (by simp only [Hs, Tl, Sc, isScr, isHs, isTs] at *; omega)) (by intro z hz1 hz2; first | exact rfl | omega | (dsimp only; omega) | (simp only [Hs, Tl, Sc, isHs, isScr, isTs] at *; omega)) (fun N hS hc1 => ?_)
  refine w_load (.aload_n 0) 30 (by decide +kernel) rfl rfl ?_
  refine w_load (.aload_n 1) 31 (by decide +kernel) rfl rfl ?_
  refine w_getN (B := 5) (k := 2) 34 (by decide +kernel) ho.1.1 rfl (inv_h hS.1 ho) (fun n3 hn3 en3 => ?_)
  refine w_putW (k := 2) 37 (by decide +kernel) hh.1.1 rfl hS (rg_h hh (by omega)) (by first | exact rfl | omega | (dsimp only; omega) | (simp only [Hs, Tl, Sc, isHs, isScr, isTs] at *; omega)) (fun N hS hq4 oq4 => ?_)
  exact w_retV (by decide +kernel) (hq N hS trivial)
-- X1_becomeDawnOf
set_option maxRecDepth 10000 in
theorem k_9 {d : Nat} {M : Mt} {L : Lt} {Q : Option Value → Mt → Lt → Prop} {h o : Nat} (hI : Inv M) (hh : Hs h) (ho : Hs o) (hd : 1 ≤ d) (hq : ∀ (N : Mt), St (fun i _ => h ≤ i ∧ i ≤ h + 2) M N → True → Q none N L) : Wp d 9 0 [.ref h, .ref o] [] M L Q := by
  refine (show ∀ N : Mt, N = M → St (fun i _ => h ≤ i ∧ i ≤ h + 2) M N → Wp d 9 0 [.ref h, .ref o] [] N L Q from ?_) M rfl (St.rf hI)
  intro N hNM hS
  refine w_load (.aload_n 0) 1 (by decide +kernel) rfl rfl ?_
  refine w_load (.aload_n 1) 2 (by decide +kernel) rfl rfl ?_
  refine w_callV1 8 1 2 5 (by decide +kernel) hh.1.1 (Nat.le_of_ble_eq_true rfl) rfl (by decide) (by omega) ?_
  refine k_8 hS.1 hh ho (by omega) (fun N hT hr1 => ?_)
  have hS := hS.tr hT (by intro i k; first | exact rfl | omega | (dsimp only; omega) | (simp only [Hs, Tl, Sc, isHs, isScr, isTs] at *; omega))
  dsimp only [Option.toList, List.nil_append]
  refine w_load (.aload_n 0) 6 (by decide +kernel) rfl rfl ?_
  refine w_getR (k := 0) (r := h + 1) 9 (by decide +kernel) hh.1.1 rfl ?_
  refine w_pushN 16 11 (by decide +kernel) ?_
  refine w_pure .dup2 12 (by decide +kernel) rfl rfl ?_
  refine w_ialdN 13 (by decide +kernel) hh.1.2.1 (by omega) (by omega) ?_
  refine w_pushN 1 14 (by decide +kernel) ?_
  refine w_pure .iadd 15 (by decide +kernel) rfl rfl ?_
  refine w_iastW 16 (by decide +kernel) hh.1.2.1 (by omega) (by omega) hS (Rg.free (by simp only [Hs, Tl, Sc, isScr, isHs, isTs] at *; omega)) (by first | exact rfl | omega | (dsimp only; omega) | (simp only [Hs, Tl, Sc, isHs, isScr, isTs] at *; omega)) (fun N hS hq2 oq2 => ?_)
  exact w_retV (by decide +kernel) (hq N hS trivial)
-- X1_isLikeRow
set_option maxRecDepth 10000 in
theorem k_32 {d : Nat} {M : Mt} {L : Lt} {Q : Option Value → Mt → Lt → Prop} {h a n : Nat} {f : Int32} (hI : Inv M) (hh : Hs h) (ha : shp[a]? = some (100, List.replicate n 0)) (hn : 17 ≤ n ∧ n < 2 ^ 31) (hd : 0 ≤ d) (hq : ∀ (r : Int32), (r = 0 ∨ r = 1) → Q (some (.int r)) M L) : Wp d 32 0 [.ref h, .ref a, .int f, .null] [] M L Q := by
  refine w_load (.iload_n 2) 1 (by decide +kernel) rfl rfl ?_
  refine w_ilt 13 4 (by decide +kernel) (fun h1 => ?_) (fun h1 => ?_)
  · skip
    refine w_pushN 0 14 (by decide +kernel) ?_
    exact w_retZ (by decide +kernel) (Or.inl rfl) (hq _ (Or.inl rfl))
  · skip
    refine w_load (.iload_n 2) 5 (by decide +kernel) rfl rfl ?_
    refine w_load (.aload_n 1) 6 (by decide +kernel) rfl rfl ?_
    refine w_alen (nI n) 7 (by decide +kernel) ha (by decide) (by first | rfl | simp [nI]) ?_
    refine w_pushN 17 9 (by decide +kernel) ?_
    refine w_subN (n - 17) 10 (by decide +kernel) (by omega) rfl ?_
    refine w_cle 15 13 (by decide +kernel) (fun h2 => ?_) (fun h2 => ?_)
    · skip
      obtain ⟨k3, hk3, rfl⟩ := rng_le (by assumption) (Or.inl h2) (by omega)
      refine w_pushN 0 16 (by decide +kernel) ?_
      refine w_store (ls' := [.ref h, .ref a, .int (nI k3), .int (nI 0)]) (.istore_n 3) 17 (by decide +kernel) rfl rfl ?_
      have LP_17 : ∀ (kk : Nat) (g3 : Nat), g3 ≤ 5 → 5 - g3 < kk → Wp d 32 17 [.ref h, .ref a, .int (nI k3), .int (nI g3)] [] M L Q := by
        intro kk
        induction kk with
        | zero => intro g3 hi0_17 hm_17; exact absurd hm_17 (Nat.not_lt_zero _)
        | succ kk ih_17 =>
          intro g3 hi0_17 hm_17
          refine w_load (.iload_n 3) 18 (by decide +kernel) rfl rfl ?_
          refine w_load (.aload_n 0) 19 (by decide +kernel) rfl rfl ?_
          refine w_getN (B := 5) (k := 2) 22 (by decide +kernel) hh.1.1 rfl (inv_h hI hh) (fun n4 hn4 en4 => ?_)
          refine w_cgeN 89 25 (by decide +kernel) (by omega) (by omega) (fun h5 => ?_) (fun h5 => ?_)
          · skip
            refine w_load (.aload_n 0) 90 (by decide +kernel) rfl rfl ?_
            refine w_getR (k := 0) (r := h + 1) 93 (by decide +kernel) hh.1.1 rfl ?_
            refine w_pushN 15 95 (by decide +kernel) ?_
            refine w_ialdN 96 (by decide +kernel) hh.1.2.1 (by omega) (by omega) ?_
            refine w_load (.aload_n 1) 97 (by decide +kernel) rfl rfl ?_
            refine w_load (.iload_n 2) 98 (by decide +kernel) rfl rfl ?_
            refine w_pushN 15 100 (by decide +kernel) ?_
            refine w_addN (k3 + 15) 101 (by decide +kernel) (by omega) ?_
            refine w_ialdN 102 (by decide +kernel) ha (by omega) (by omega) ?_
            refine w_cne 109 105 (by decide +kernel) (fun h6 => ?_) (fun h6 => ?_)
            · skip
              refine w_pushN 0 110 (by decide +kernel) ?_
              exact w_retZ (by decide +kernel) (Or.inl rfl) (hq _ (Or.inl rfl))
            · skip
              refine w_pushN 1 106 (by decide +kernel) ?_
              refine w_goto 110 (by decide +kernel) ?_
              exact w_retZ (by decide +kernel) (Or.inr rfl) (hq _ (Or.inr rfl))
          · skip
            refine w_load (.aload_n 0) 26 (by decide +kernel) rfl rfl ?_
            refine w_getR (k := 0) (r := h + 1) 29 (by decide +kernel) hh.1.1 rfl ?_
            refine w_pushN 0 30 (by decide +kernel) ?_
            refine w_load (.iload_n 3) 31 (by decide +kernel) rfl rfl ?_
            refine w_addN g3 32 (by decide +kernel) (by omega) ?_
            refine w_ialdN 33 (by decide +kernel) hh.1.2.1 (by omega) (by omega) ?_
            refine w_load (.aload_n 1) 34 (by decide +kernel) rfl rfl ?_
            refine w_load (.iload_n 2) 35 (by decide +kernel) rfl rfl ?_
            refine w_pushN 0 36 (by decide +kernel) ?_
            refine w_addN k3 37 (by decide +kernel) (by omega) ?_
            refine w_load (.iload_n 3) 38 (by decide +kernel) rfl rfl ?_
            refine w_addN (k3 + g3) 39 (by decide +kernel) (by omega) ?_
            refine w_ialdN 40 (by decide +kernel) ha (by omega) (by omega) ?_
            refine w_cne 81 43 (by decide +kernel) (fun h7 => ?_) (fun h7 => ?_)
            · skip
              refine w_pushN 0 82 (by decide +kernel) ?_
              exact w_retZ (by decide +kernel) (Or.inl rfl) (hq _ (Or.inl rfl))
            · skip
              refine w_load (.aload_n 0) 44 (by decide +kernel) rfl rfl ?_
              refine w_getR (k := 0) (r := h + 1) 47 (by decide +kernel) hh.1.1 rfl ?_
              refine w_pushN 5 48 (by decide +kernel) ?_
              refine w_load (.iload_n 3) 49 (by decide +kernel) rfl rfl ?_
              refine w_addN (5 + g3) 50 (by decide +kernel) (by omega) ?_
              refine w_ialdN 51 (by decide +kernel) hh.1.2.1 (by omega) (by omega) ?_
              refine w_load (.aload_n 1) 52 (by decide +kernel) rfl rfl ?_
              refine w_load (.iload_n 2) 53 (by decide +kernel) rfl rfl ?_
              refine w_pushN 5 54 (by decide +kernel) ?_
              refine w_addN (k3 + 5) 55 (by decide +kernel) (by omega) ?_
              refine w_load (.iload_n 3) 56 (by decide +kernel) rfl rfl ?_
              refine w_addN (k3 + 5 + g3) 57 (by decide +kernel) (by omega) ?_
              refine w_ialdN 58 (by decide +kernel) ha (by omega) (by omega) ?_
              refine w_cne 81 61 (by decide +kernel) (fun h8 => ?_) (fun h8 => ?_)
              · skip
                refine w_pushN 0 82 (by decide +kernel) ?_
                exact w_retZ (by decide +kernel) (Or.inl rfl) (hq _ (Or.inl rfl))
              · skip
                refine w_load (.aload_n 0) 62 (by decide +kernel) rfl rfl ?_
                refine w_getR (k := 0) (r := h + 1) 65 (by decide +kernel) hh.1.1 rfl ?_
                refine w_pushN 10 67 (by decide +kernel) ?_
                refine w_load (.iload_n 3) 68 (by decide +kernel) rfl rfl ?_
                refine w_addN (10 + g3) 69 (by decide +kernel) (by omega) ?_
                refine w_ialdN 70 (by decide +kernel) hh.1.2.1 (by omega) (by omega) ?_
                refine w_load (.aload_n 1) 71 (by decide +kernel) rfl rfl ?_
                refine w_load (.iload_n 2) 72 (by decide +kernel) rfl rfl ?_
                refine w_pushN 10 74 (by decide +kernel) ?_
                refine w_addN (k3 + 10) 75 (by decide +kernel) (by omega) ?_
                refine w_load (.iload_n 3) 76 (by decide +kernel) rfl rfl ?_
                refine w_addN (k3 + 10 + g3) 77 (by decide +kernel) (by omega) ?_
                refine w_ialdN 78 (by decide +kernel) ha (by omega) (by omega) ?_
                refine w_ceq 83 81 (by decide +kernel) (fun h9 => ?_) (fun h9 => ?_)
                · skip
                  refine w_iincN (z := 3) (g3 + 1) 86 (by decide +kernel) rfl (Nat.le_of_ble_eq_true rfl) rfl rfl ?_
                  show Wp _ _ _ [.ref h, .ref a, .int (nI k3), .int (nI (g3 + 1))] _ _ _ _
                  refine w_goto 17 (by decide +kernel) ?_
                  exact ih_17 (g3 + 1) (by omega) (by omega)
                · skip
                  refine w_pushN 0 82 (by decide +kernel) ?_
                  exact w_retZ (by decide +kernel) (Or.inl rfl) (hq _ (Or.inl rfl))
      exact LP_17 _ 0 (by omega) (Nat.lt_succ_self _)
    · skip
      refine w_pushN 0 14 (by decide +kernel) ?_
      exact w_retZ (by decide +kernel) (Or.inl rfl) (hq _ (Or.inl rfl))
-- X1_isLike
set_option maxRecDepth 10000 in
theorem k_31 {d : Nat} {M : Mt} {L : Lt} {Q : Option Value → Mt → Lt → Prop} {h o : Nat} (hI : Inv M) (hh : Hs h) (ho : Hs o) (hd : 1 ≤ d) (hq : ∀ (r : Int32), (r = 0 ∨ r = 1) → Q (some (.int r)) M L) : Wp d 31 0 [.ref h, .ref o] [] M L Q := by
  refine w_load (.aload_n 0) 1 (by decide +kernel) rfl rfl ?_
  refine w_getN (B := 5) (k := 2) 4 (by decide +kernel) hh.1.1 rfl (inv_h hI hh) (fun n1 hn1 en1 => ?_)
  refine w_load (.aload_n 1) 5 (by decide +kernel) rfl rfl ?_
  refine w_getN (B := 5) (k := 2) 8 (by decide +kernel) ho.1.1 rfl (inv_h hI ho) (fun n2 hn2 en2 => ?_)
  refine w_cneN 27 11 (by decide +kernel) (by omega) (by omega) (fun h3 => ?_) (fun h3 => ?_)
  · skip
    refine w_pushN 0 28 (by decide +kernel) ?_
    exact w_retZ (by decide +kernel) (Or.inl rfl) (hq _ (Or.inl rfl))
  · skip
    refine w_load (.aload_n 0) 12 (by decide +kernel) rfl rfl ?_
    refine w_load (.aload_n 1) 13 (by decide +kernel) rfl rfl ?_
    refine w_getR (k := 0) (r := o + 1) 16 (by decide +kernel) ho.1.1 rfl ?_
    refine w_pushN 0 17 (by decide +kernel) ?_
    refine w_callV2 32 1 4 20 (by decide +kernel) hh.1.1 (Nat.le_of_ble_eq_true rfl) rfl rfl (by decide) (by omega) ?_
    refine k_32 hI hh ho.1.2.1 (by omega) (by omega) (fun r4 hr4 => ?_)
    dsimp only [Option.toList, List.cons_append, List.nil_append]
    refine w_ieq 27 23 (by decide +kernel) (fun h5 => ?_) (fun h5 => ?_)
    · skip
      refine w_pushN 0 28 (by decide +kernel) ?_
      exact w_retZ (by decide +kernel) (Or.inl rfl) (hq _ (Or.inl rfl))
    · skip
      refine w_pushN 1 24 (by decide +kernel) ?_
      refine w_goto 28 (by decide +kernel) ?_
      exact w_retZ (by decide +kernel) (Or.inr rfl) (hq _ (Or.inr rfl))
-- X1_copyToRow
set_option maxRecDepth 10000 in
theorem k_33 {d : Nat} {M : Mt} {L : Lt} {Q : Option Value → Mt → Lt → Prop} {h a n : Nat} {f : Int32} (hI : Inv M) (hh : Hs h) (ha : shp[a]? = some (100, List.replicate n 0)) (hn : 17 ≤ n ∧ n < 2 ^ 31) (hfr : ∀ z x, Rg a z x) (hd : 0 ≤ d) (hq : ∀ (N : Mt), St (fun i _ => i = a) M N → True → Q none N L) : Wp d 33 0 [.ref h, .ref a, .int f] [] M L Q := by
  refine (show ∀ N : Mt, N = M → St (fun i _ => i = a) M N → Wp d 33 0 [.ref h, .ref a, .int f] [] N L Q from ?_) M rfl (St.rf hI)
  intro N hNM hS
  refine w_load (.iload_n 2) 1 (by decide +kernel) rfl rfl ?_
  refine w_ilt 25 4 (by decide +kernel) (fun h1 => ?_) (fun h1 => ?_)
  · skip
    exact w_retV (by decide +kernel) (hq N hS trivial)
  · skip
    refine w_load (.iload_n 2) 5 (by decide +kernel) rfl rfl ?_
    refine w_load (.aload_n 1) 6 (by decide +kernel) rfl rfl ?_
    refine w_alen (nI n) 7 (by decide +kernel) ha (by decide) (by first | rfl | simp [nI]) ?_
    refine w_pushN 17 9 (by decide +kernel) ?_
    refine w_subN (n - 17) 10 (by decide +kernel) (by omega) rfl ?_
    refine w_cgt 25 13 (by decide +kernel) (fun h2 => ?_) (fun h2 => ?_)
    · skip
      exact w_retV (by decide +kernel) (hq N hS trivial)
    · skip
      obtain ⟨k3, hk3, rfl⟩ := rng_le (by assumption) (Or.inr h2) (by omega)
      refine w_load (.aload_n 0) 14 (by decide +kernel) rfl rfl ?_
      refine w_getR (k := 0) (r := h + 1) 17 (by decide +kernel) hh.1.1 rfl ?_
      refine w_pushN 0 18 (by decide +kernel) ?_
      refine w_load (.aload_n 1) 19 (by decide +kernel) rfl rfl ?_
      refine w_load (.iload_n 2) 20 (by decide +kernel) rfl rfl ?_
      refine w_pushN 17 22 (by decide +kernel) ?_
      refine w_acpyW 25 (by decide +kernel) hh.1.2.1 ha (by omega) (by omega) (by omega) (by omega) (Nat.le_of_ble_eq_true rfl) hS (fun z _ _ => hfr z _) (by intro z hz1 hz2; first | exact rfl | omega | (dsimp only; omega) | (simp only [Hs, Tl, Sc, isHs, isScr, isTs] at *; omega)) (fun N hS hc3 => ?_)
      exact w_retV (by decide +kernel) (hq N hS trivial)
-- X1_copyFromRow
set_option maxRecDepth 10000 in
theorem k_34 {d : Nat} {M : Mt} {L : Lt} {Q : Option Value → Mt → Lt → Prop} {h a n : Nat} {f : Int32} (hI : Inv M) (hh : Hs h) (ha : shp[a]? = some (100, List.replicate n 0)) (hn : 17 ≤ n ∧ n < 2 ^ 31) (hd : 0 ≤ d) (hq : ∀ (N : Mt), St (fun i _ => h ≤ i ∧ i ≤ h + 2) M N → True → Q none N L) : Wp d 34 0 [.ref h, .ref a, .int f] [] M L Q := by
  refine (show ∀ N : Mt, N = M → St (fun i _ => h ≤ i ∧ i ≤ h + 2) M N → Wp d 34 0 [.ref h, .ref a, .int f] [] N L Q from ?_) M rfl (St.rf hI)
  intro N hNM hS
  refine w_load (.iload_n 2) 1 (by decide +kernel) rfl rfl ?_
  refine w_ilt 25 4 (by decide +kernel) (fun h1 => ?_) (fun h1 => ?_)
  · skip
    exact w_retV (by decide +kernel) (hq N hS trivial)
  · skip
    refine w_load (.iload_n 2) 5 (by decide +kernel) rfl rfl ?_
    refine w_load (.aload_n 1) 6 (by decide +kernel) rfl rfl ?_
    refine w_alen (nI n) 7 (by decide +kernel) ha (by decide) (by first | rfl | simp [nI]) ?_
    refine w_pushN 17 9 (by decide +kernel) ?_
    refine w_subN (n - 17) 10 (by decide +kernel) (by omega) rfl ?_
    refine w_cgt 25 13 (by decide +kernel) (fun h2 => ?_) (fun h2 => ?_)
    · skip
      exact w_retV (by decide +kernel) (hq N hS trivial)
    · skip
      obtain ⟨k3, hk3, rfl⟩ := rng_le (by assumption) (Or.inr h2) (by omega)
      refine w_load (.aload_n 1) 14 (by decide +kernel) rfl rfl ?_
      refine w_load (.iload_n 2) 15 (by decide +kernel) rfl rfl ?_
      refine w_load (.aload_n 0) 16 (by decide +kernel) rfl rfl ?_
      refine w_getR (k := 0) (r := h + 1) 19 (by decide +kernel) hh.1.1 rfl ?_
      refine w_pushN 0 20 (by decide +kernel) ?_
      refine w_pushN 17 22 (by decide +kernel) ?_
      refine w_acpyW 25 (by decide +kernel) ha hh.1.2.1 (by omega) (by omega) (by omega) (by omega) (Nat.le_of_ble_eq_true rfl) hS (fun z hz1 hz2 => Rg.free (by simp only [Hs, Tl, Sc, isScr, isHs, isTs] at *; omega)) (by intro z hz1 hz2; first | exact rfl | omega | (dsimp only; omega) | (simp only [Hs, Tl, Sc, isHs, isScr, isTs] at *; omega)) (fun N hS hc3 => ?_)
      exact w_retV (by decide +kernel) (hq N hS trivial)
end
section
theorem rng_lt {f : Int32} {m : Nat} (h1 : ¬ f < 0) (h2 : ¬ nI m ≤ f) (hm : m < 2 ^ 31) : ∃ k, k < m ∧ f = nI k := by
  obtain ⟨k, hk, rfl⟩ := nI_of h1
  have h3 : ¬ m ≤ k := fun e => h2 ((nI_leI hm hk).mpr e)
  exact ⟨k, by omega, rfl⟩
theorem nI_m9 {n : Nat} (h : n < 2 ^ 31) : ¬ nI n = -9 := by
  intro e
  have h1 := nI_toInt h
  rw [e] at h1
  have h2 : (-9 : Int32).toInt = -9 := by decide
  omega
theorem same_n {x : Int32} {a b : Nat} (h1 : x = nI a) (h2 : x = nI b) (ha : a < 2 ^ 31) (hb : b < 2 ^ 31) : a = b := (nI_eq ha hb).mp (h1.symm.trans h2)
-- X2_kindOfLetter
theorem k_49 {d : Nat} {M : Mt} {L : Lt} {Q : Option Value → Mt → Lt → Prop} {a : Int32} (hI : Inv M) (hd : 0 ≤ d) (hq : ∀ (r : Int32), True → Q (some (.int r)) M L) : Wp d 49 0 [.int a] [] M L Q := by
  refine w_load (.iload_n 0) 1 (by decide +kernel) rfl rfl ?_
  refine w_look (show insAt 49 1 = some (.lookupswitch 51 #[(103, 47), (107, 43), (116, 49), (119, 45)]) by decide +kernel) (by decide) ?_
  simp only [Op.lookupswitch.offset_cons]
  split
  · refine ⟨48, rfl, ?_⟩
    refine w_pushN 2 49 (by decide +kernel) ?_
    exact w_ret (by decide +kernel) (hq _ trivial)
  · split
    · refine ⟨44, rfl, ?_⟩
      refine w_pushN 0 45 (by decide +kernel) ?_
      exact w_ret (by decide +kernel) (hq _ trivial)
    · split
      · refine ⟨50, rfl, ?_⟩
        refine w_pushN 3 51 (by decide +kernel) ?_
        exact w_ret (by decide +kernel) (hq _ trivial)
      · split
        · refine ⟨46, rfl, ?_⟩
          refine w_pushN 1 47 (by decide +kernel) ?_
          exact w_ret (by decide +kernel) (hq _ trivial)
        · refine ⟨52, rfl, ?_⟩
          refine w_push (-9) 54 (by decide +kernel) ?_
          exact w_ret (by decide +kernel) (hq _ trivial)
-- X2_length
set_option maxRecDepth 10000 in
theorem k_36 {d : Nat} {M : Mt} {L : Lt} {Q : Option Value → Mt → Lt → Prop} {s n : Nat} (hI : Inv M) (hc : Sc s) (hn : n ≤ 24) (en : M s 1 = nI n) (hd : 0 ≤ d) (hq : ∀ (r : Int32), (r = nI n) → Q (some (.int r)) M L) : Wp d 36 0 [.ref s] [] M L Q := by
  refine w_load (.aload_n 0) 1 (by decide +kernel) rfl rfl ?_
  refine w_getK (k := 1) 4 (by decide +kernel) hc.1.1 rfl en ?_
  exact w_ret (by decide +kernel) (hq _ rfl)
-- X2_isFull
set_option maxRecDepth 10000 in
theorem k_37 {d : Nat} {M : Mt} {L : Lt} {Q : Option Value → Mt → Lt → Prop} {s n : Nat} (hI : Inv M) (hc : Sc s) (hn : n ≤ 24) (en : M s 1 = nI n) (hd : 0 ≤ d) (hq : ∀ (r : Int32), ((r = 1 ∧ n = 24) ∨ (r = 0 ∧ n < 24)) → Q (some (.int r)) M L) : Wp d 37 0 [.ref s] [] M L Q := by
  refine w_load (.aload_n 0) 1 (by decide +kernel) rfl rfl ?_
  refine w_getK (k := 1) 4 (by decide +kernel) hc.1.1 rfl en ?_
  refine w_load (.aload_n 0) 5 (by decide +kernel) rfl rfl ?_
  refine w_getR (k := 0) (r := s + 1) 8 (by decide +kernel) hc.1.1 rfl ?_
  refine w_alen (nI 24) 9 (by decide +kernel) hc.1.2 (by decide) (by first | rfl | simp [nI]) ?_
  refine w_cltN 16 12 (by decide +kernel) (by omega) (by omega) (fun h1 => ?_) (fun h1 => ?_)
  · skip
    refine w_pushN 0 17 (by decide +kernel) ?_
    exact w_retZ (by decide +kernel) (Or.inl rfl) (hq _ (Or.inr ⟨rfl, by omega⟩))
  · skip
    refine w_pushN 1 13 (by decide +kernel) ?_
    refine w_goto 17 (by decide +kernel) ?_
    exact w_retZ (by decide +kernel) (Or.inr rfl) (hq _ (Or.inl ⟨rfl, by omega⟩))
-- X2_add
set_option maxRecDepth 10000 in
theorem k_38 {d : Nat} {M : Mt} {L : Lt} {Q : Option Value → Mt → Lt → Prop} {s n : Nat} {a : Int32} (hI : Inv M) (hc : Sc s) (hn : n < 24) (en : M s 1 = nI n) (hd : 1 ≤ d) (hq : ∀ (r : Int32) (N : Mt), St (fun i _ => s ≤ i ∧ i ≤ s + 1) M N → (r = nI (n + 1) ∧ N s 1 = nI (n + 1)) → Q (some (.int r)) N L) : Wp d 38 0 [.ref s, .int a] [] M L Q := by
  refine (show ∀ N : Mt, N = M → St (fun i _ => s ≤ i ∧ i ≤ s + 1) M N → Wp d 38 0 [.ref s, .int a] [] N L Q from ?_) M rfl (St.rf hI)
  intro N hNM hS
  have kz0 : N (s) 1 = nI n := by rw [hNM]; exact en
  refine w_load (.aload_n 0) 1 (by decide +kernel) rfl rfl ?_
  refine w_callV0 37 2 1 4 (by decide +kernel) hc.1.1 (Nat.le_of_ble_eq_true rfl)  (by decide) (by omega) ?_
  refine k_37 hS.1 hc (by omega) kz0 (by omega) (fun r1 hr1 => ?_)
  dsimp only [Option.toList, List.cons_append, List.nil_append]
  rcases hr1 with ⟨rfl, hfull⟩ | ⟨rfl, hfull⟩
  · skip
    refine w_ine 27 7 (by decide +kernel) (fun _ => ?_) (fun hz => absurd hz (by decide))
    refine w_load (.aload_n 0) 28 (by decide +kernel) rfl rfl ?_
    refine w_getK (k := 1) 31 (by decide +kernel) hc.1.1 rfl kz0 ?_
    exact w_ret (by decide +kernel) (hq _ N hS (by first | exact ⟨rfl, by assumption⟩ | exact absurd hfull (by omega)))
  · skip
    refine w_ine 27 7 (by decide +kernel) (fun hz => absurd hz (by decide)) (fun _ => ?_)
    refine w_load (.aload_n 0) 8 (by decide +kernel) rfl rfl ?_
    refine w_getR (k := 0) (r := s + 1) 11 (by decide +kernel) hc.1.1 rfl ?_
    refine w_load (.aload_n 0) 12 (by decide +kernel) rfl rfl ?_
    refine w_getK (k := 1) 15 (by decide +kernel) hc.1.1 rfl kz0 ?_
    refine w_load (.iload_n 1) 16 (by decide +kernel) rfl rfl ?_
    refine w_iastW 17 (by decide +kernel) hc.1.2 (by omega) (by omega) hS (Rg.free (by simp only [Hs, Tl, Sc, isScr, isHs, isTs] at *; omega)) (by first | exact rfl | omega | (dsimp only; omega) | (simp only [Hs, Tl, Sc, isHs, isScr, isTs] at *; omega)) (fun N hS hq4 oq4 => ?_)
    have kn5 := (oq4 (s) 1 (by first | omega | (simp only [Hs, Tl, Sc, isHs, isScr, isTs] at *; omega))).trans kz0
    refine w_load (.aload_n 0) 18 (by decide +kernel) rfl rfl ?_
    refine w_pure .dup 19 (by decide +kernel) rfl rfl ?_
    refine w_getK (k := 1) 22 (by decide +kernel) hc.1.1 rfl kn5 ?_
    refine w_pushN 1 23 (by decide +kernel) ?_
    refine w_addN (n + 1) 24 (by decide +kernel) (by omega) ?_
    refine w_putW (k := 1) 27 (by decide +kernel) hc.1.1 rfl hS (rg_s hc (by omega)) (by first | exact rfl | omega | (dsimp only; omega) | (simp only [Hs, Tl, Sc, isHs, isScr, isTs] at *; omega)) (fun N hS hq6 oq6 => ?_)
    refine w_load (.aload_n 0) 28 (by decide +kernel) rfl rfl ?_
    refine w_getK (k := 1) 31 (by decide +kernel) hc.1.1 rfl hq6 ?_
    exact w_ret (by decide +kernel) (hq _ N hS (by first | exact ⟨rfl, by assumption⟩ | exact absurd hfull (by omega)))
-- X2_empty
set_option maxRecDepth 10000 in
theorem k_39 {d : Nat} {M : Mt} {L : Lt} {Q : Option Value → Mt → Lt → Prop} {s n : Nat} (hI : Inv M) (hc : Sc s) (hn : n ≤ 24) (en : M s 1 = nI n) (hd : 0 ≤ d) (hq : ∀ (r : Int32) (N : Mt), St (fun i _ => i = s) M N → (r = nI n ∧ N s 1 = nI 0) → Q (some (.int r)) N L) : Wp d 39 0 [.ref s, .null] [] M L Q := by
  refine (show ∀ N : Mt, N = M → St (fun i _ => i = s) M N → Wp d 39 0 [.ref s, .null] [] N L Q from ?_) M rfl (St.rf hI)
  intro N hNM hS
  have kz0 : N (s) 1 = nI n := by rw [hNM]; exact en
  refine w_load (.aload_n 0) 1 (by decide +kernel) rfl rfl ?_
  refine w_getK (k := 1) 4 (by decide +kernel) hc.1.1 rfl kz0 ?_
  refine w_store (ls' := [.ref s, .int (nI n)]) (.istore_n 1) 5 (by decide +kernel) rfl rfl ?_
  refine w_load (.aload_n 0) 6 (by decide +kernel) rfl rfl ?_
  refine w_pushN 0 7 (by decide +kernel) ?_
  refine w_putW (k := 1) 10 (by decide +kernel) hc.1.1 rfl hS (rg_s hc (by omega)) (by first | exact rfl | omega | (dsimp only; omega) | (simp only [Hs, Tl, Sc, isHs, isScr, isTs] at *; omega)) (fun N hS hq1 oq1 => ?_)
  refine w_load (.iload_n 1) 11 (by decide +kernel) rfl rfl ?_
  exact w_ret (by decide +kernel) (hq _ N hS ⟨rfl, by assumption⟩)
-- X2_letterAt
set_option maxRecDepth 10000 in
theorem k_40 {d : Nat} {M : Mt} {L : Lt} {Q : Option Value → Mt → Lt → Prop} {s : Nat} {a : Int32} (hI : Inv M) (hc : Sc s) (hd : 0 ≤ d) (hq : ∀ (r : Int32), True → Q (some (.int r)) M L) : Wp d 40 0 [.ref s, .int a] [] M L Q := by
  refine w_load (.iload_n 1) 1 (by decide +kernel) rfl rfl ?_
  refine w_ilt 21 4 (by decide +kernel) (fun h1 => ?_) (fun h1 => ?_)
  · skip
    refine w_push (-9) 23 (by decide +kernel) ?_
    exact w_ret (by decide +kernel) (hq _ trivial)
  · skip
    refine w_load (.iload_n 1) 5 (by decide +kernel) rfl rfl ?_
    refine w_load (.aload_n 0) 6 (by decide +kernel) rfl rfl ?_
    refine w_getN (B := 24) (k := 1) 9 (by decide +kernel) hc.1.1 rfl (inv_s hI hc) (fun n2 hn2 en2 => ?_)
    refine w_cge 21 12 (by decide +kernel) (fun h3 => ?_) (fun h3 => ?_)
    · skip
      refine w_push (-9) 23 (by decide +kernel) ?_
      exact w_ret (by decide +kernel) (hq _ trivial)
    · skip
      obtain ⟨k4, hk4, rfl⟩ := rng_lt (by assumption) h3 (by omega)
      refine w_load (.aload_n 0) 13 (by decide +kernel) rfl rfl ?_
      refine w_getR (k := 0) (r := s + 1) 16 (by decide +kernel) hc.1.1 rfl ?_
      refine w_load (.iload_n 1) 17 (by decide +kernel) rfl rfl ?_
      refine w_ialdN 18 (by decide +kernel) hc.1.2 (by omega) (by omega) ?_
      refine w_goto 23 (by decide +kernel) ?_
      exact w_ret (by decide +kernel) (hq _ trivial)
-- X2_isNameLetter
set_option maxRecDepth 10000 in
theorem k_48 {d : Nat} {M : Mt} {L : Lt} {Q : Option Value → Mt → Lt → Prop} {a : Int32} (hI : Inv M)  (hd : 0 ≤ d) (hq : ∀ (r : Int32), (r = 0 ∨ r = 1) → Q (some (.int r)) M L) : Wp d 48 0 [.int a] [] M L Q := by
  refine w_load (.iload_n 0) 1 (by decide +kernel) rfl rfl ?_
  refine w_pushN 97 3 (by decide +kernel) ?_
  refine w_clt 16 6 (by decide +kernel) (fun h1 => ?_) (fun h1 => ?_)
  · skip
    refine w_pushN 0 17 (by decide +kernel) ?_
    exact w_retZ (by decide +kernel) (Or.inl rfl) (hq _ (Or.inl rfl))
  · skip
    refine w_load (.iload_n 0) 7 (by decide +kernel) rfl rfl ?_
    refine w_pushN 100 9 (by decide +kernel) ?_
    refine w_cgt 16 12 (by decide +kernel) (fun h2 => ?_) (fun h2 => ?_)
    · skip
      refine w_pushN 0 17 (by decide +kernel) ?_
      exact w_retZ (by decide +kernel) (Or.inl rfl) (hq _ (Or.inl rfl))
    · skip
      refine w_pushN 1 13 (by decide +kernel) ?_
      refine w_goto 17 (by decide +kernel) ?_
      exact w_retZ (by decide +kernel) (Or.inr rfl) (hq _ (Or.inr rfl))
-- X2_fitsTale
set_option maxRecDepth 10000 in
theorem k_47 {d : Nat} {M : Mt} {L : Lt} {Q : Option Value → Mt → Lt → Prop} {a : Int32} {b : Int32} (hI : Inv M)  (hd : 1 ≤ d) (hq : ∀ (r : Int32), (r = 0 ∨ r = 1) → Q (some (.int r)) M L) : Wp d 47 0 [.int a, .int b] [] M L Q := by
  refine w_load (.iload_n 0) 1 (by decide +kernel) rfl rfl ?_
  refine w_pushN 3 2 (by decide +kernel) ?_
  refine w_rem 3 (by decide +kernel) (by decide) ?_
  refine w_ine 23 6 (by decide +kernel) (fun h1 => ?_) (fun h1 => ?_)
  · skip
    refine w_load (.iload_n 1) 24 (by decide +kernel) rfl rfl ?_
    refine w_callS1 48 1 27 (by decide +kernel) (Nat.le_of_ble_eq_true rfl) rfl (by decide) (by omega) ?_
    refine k_48 hI  (by omega) (fun r2 hr2 => ?_)
    dsimp only [Option.toList, List.cons_append, List.nil_append]
    exact w_retZ (by decide +kernel) (by assumption) (hq _ (by assumption))
  · skip
    refine w_load (.iload_n 1) 7 (by decide +kernel) rfl rfl ?_
    refine w_callS1 49 1 10 (by decide +kernel) (Nat.le_of_ble_eq_true rfl) rfl (by decide) (by omega) ?_
    refine k_49 hI  (by omega) (fun r3 hr3 => ?_)
    dsimp only [Option.toList, List.cons_append, List.nil_append]
    refine w_push (-9) 12 (by decide +kernel) ?_
    refine w_ceq 19 15 (by decide +kernel) (fun h4 => ?_) (fun h4 => ?_)
    · skip
      refine w_pushN 0 20 (by decide +kernel) ?_
      refine w_goto 27 (by decide +kernel) ?_
      exact w_retZ (by decide +kernel) (Or.inl rfl) (hq _ (Or.inl rfl))
    · skip
      refine w_pushN 1 16 (by decide +kernel) ?_
      refine w_goto 27 (by decide +kernel) ?_
      exact w_retZ (by decide +kernel) (Or.inr rfl) (hq _ (Or.inr rfl))
-- X2_fitsInn
set_option maxRecDepth 10000 in
theorem k_46 {d : Nat} {M : Mt} {L : Lt} {Q : Option Value → Mt → Lt → Prop} {a : Int32} {b : Int32} (hI : Inv M)  (hd : 1 ≤ d) (hq : ∀ (r : Int32), (r = 0 ∨ r = 1) → Q (some (.int r)) M L) : Wp d 46 0 [.int a, .int b] [] M L Q := by
  refine w_load (.iload_n 0) 1 (by decide +kernel) rfl rfl ?_
  refine w_ine 16 4 (by decide +kernel) (fun h1 => ?_) (fun h1 => ?_)
  · skip
    refine w_load (.iload_n 0) 17 (by decide +kernel) rfl rfl ?_
    refine w_pushN 20 19 (by decide +kernel) ?_
    refine w_cle 24 22 (by decide +kernel) (fun h2 => ?_) (fun h2 => ?_)
    · skip
      refine w_load (.iload_n 0) 25 (by decide +kernel) rfl rfl ?_
      refine w_pushN 4 26 (by decide +kernel) ?_
      refine w_rem 27 (by decide +kernel) (by decide) ?_
      refine w_tab (show insAt 46 27 = some (.tableswitch 60 1 3 #[25, 37, 42]) by decide +kernel) (fun h3 => ⟨87, rfl, ?_⟩) (fun z4 h3 h3b => ?_)
      · skip
        refine w_load (.iload_n 1) 88 (by decide +kernel) rfl rfl ?_
        refine w_pushN 48 90 (by decide +kernel) ?_
        refine w_clt 103 93 (by decide +kernel) (fun h5 => ?_) (fun h5 => ?_)
        · skip
          refine w_pushN 0 104 (by decide +kernel) ?_
          exact w_retZ (by decide +kernel) (Or.inl rfl) (hq _ (Or.inl rfl))
        · skip
          refine w_load (.iload_n 1) 94 (by decide +kernel) rfl rfl ?_
          refine w_pushN 51 96 (by decide +kernel) ?_
          refine w_cgt 103 99 (by decide +kernel) (fun h6 => ?_) (fun h6 => ?_)
          · skip
            refine w_pushN 0 104 (by decide +kernel) ?_
            exact w_retZ (by decide +kernel) (Or.inl rfl) (hq _ (Or.inl rfl))
          · skip
            refine w_pushN 1 100 (by decide +kernel) ?_
            refine w_goto 104 (by decide +kernel) ?_
            exact w_retZ (by decide +kernel) (Or.inr rfl) (hq _ (Or.inr rfl))
      · rcases (by omega : z4 = 0 ∨ z4 = 1 ∨ z4 = 2) with rfl | rfl | rfl
        · refine ⟨_, 52, rfl, rfl, ?_⟩
          refine w_load (.iload_n 1) 53 (by decide +kernel) rfl rfl ?_
          refine w_pushN 71 55 (by decide +kernel) ?_
          refine w_cne 62 58 (by decide +kernel) (fun h7 => ?_) (fun h7 => ?_)
          · skip
            refine w_pushN 0 63 (by decide +kernel) ?_
            exact w_retZ (by decide +kernel) (Or.inl rfl) (hq _ (Or.inl rfl))
          · skip
            refine w_pushN 1 59 (by decide +kernel) ?_
            refine w_goto 63 (by decide +kernel) ?_
            exact w_retZ (by decide +kernel) (Or.inr rfl) (hq _ (Or.inr rfl))
        · refine ⟨_, 64, rfl, rfl, ?_⟩
          refine w_load (.iload_n 1) 65 (by decide +kernel) rfl rfl ?_
          refine w_callS1 48 1 68 (by decide +kernel) (Nat.le_of_ble_eq_true rfl) rfl (by decide) (by omega) ?_
          refine k_48 hI  (by omega) (fun r8 hr8 => ?_)
          dsimp only [Option.toList, List.cons_append, List.nil_append]
          exact w_retZ (by decide +kernel) (by assumption) (hq _ (by assumption))
        · refine ⟨_, 69, rfl, rfl, ?_⟩
          refine w_load (.iload_n 1) 70 (by decide +kernel) rfl rfl ?_
          refine w_pushN 48 72 (by decide +kernel) ?_
          refine w_clt 85 75 (by decide +kernel) (fun h9 => ?_) (fun h9 => ?_)
          · skip
            refine w_pushN 0 86 (by decide +kernel) ?_
            exact w_retZ (by decide +kernel) (Or.inl rfl) (hq _ (Or.inl rfl))
          · skip
            refine w_load (.iload_n 1) 76 (by decide +kernel) rfl rfl ?_
            refine w_pushN 57 78 (by decide +kernel) ?_
            refine w_cgt 85 81 (by decide +kernel) (fun h10 => ?_) (fun h10 => ?_)
            · skip
              refine w_pushN 0 86 (by decide +kernel) ?_
              exact w_retZ (by decide +kernel) (Or.inl rfl) (hq _ (Or.inl rfl))
            · skip
              refine w_pushN 1 82 (by decide +kernel) ?_
              refine w_goto 86 (by decide +kernel) ?_
              exact w_retZ (by decide +kernel) (Or.inr rfl) (hq _ (Or.inr rfl))
    · skip
      refine w_pushN 0 23 (by decide +kernel) ?_
      exact w_retZ (by decide +kernel) (Or.inl rfl) (hq _ (Or.inl rfl))
  · skip
    refine w_load (.iload_n 1) 5 (by decide +kernel) rfl rfl ?_
    refine w_pushN 73 7 (by decide +kernel) ?_
    refine w_cne 14 10 (by decide +kernel) (fun h11 => ?_) (fun h11 => ?_)
    · skip
      refine w_pushN 0 15 (by decide +kernel) ?_
      exact w_retZ (by decide +kernel) (Or.inl rfl) (hq _ (Or.inl rfl))
    · skip
      refine w_pushN 1 11 (by decide +kernel) ?_
      refine w_goto 15 (by decide +kernel) ?_
      exact w_retZ (by decide +kernel) (Or.inr rfl) (hq _ (Or.inr rfl))
-- X2_innFault
set_option maxRecDepth 10000 in
theorem k_41 {d : Nat} {M : Mt} {L : Lt} {Q : Option Value → Mt → Lt → Prop} {s : Nat}  (hI : Inv M) (hc : Sc s) (hd : 2 ≤ d) (hq : ∀ (r : Int32), (r = -9 → ∃ n, n ≤ 24 ∧ n % 4 = 1 ∧ M s 1 = nI n) → Q (some (.int r)) M L) : Wp d 41 0 [.ref s, .null] [] M L Q := by
  refine w_pushN 0 1 (by decide +kernel) ?_
  refine w_store (ls' := [.ref s, .int (nI 0)]) (.istore_n 1) 2 (by decide +kernel) rfl rfl ?_
  have LP_2 : ∀ (kk : Nat) (g1 : Nat), g1 ≤ 24 → 24 - g1 < kk → Wp d 41 2 [.ref s, .int (nI g1)] [] M L Q := by
    intro kk
    induction kk with
    | zero => intro g1 hi0_2 hm_2; exact absurd hm_2 (Nat.not_lt_zero _)
    | succ kk ih_2 =>
      intro g1 hi0_2 hm_2
      refine w_load (.iload_n 1) 3 (by decide +kernel) rfl rfl ?_
      refine w_load (.aload_n 0) 4 (by decide +kernel) rfl rfl ?_
      refine w_getN (B := 24) (k := 1) 7 (by decide +kernel) hc.1.1 rfl (inv_s hI hc) (fun n1 hn1 en1 => ?_)
      refine w_cgeN 30 10 (by decide +kernel) (by omega) (by omega) (fun h2 => ?_) (fun h2 => ?_)
      · skip
        refine w_load (.aload_n 0) 31 (by decide +kernel) rfl rfl ?_
        refine w_getK (k := 1) 34 (by decide +kernel) hc.1.1 rfl en1 ?_
        refine w_pushN 4 35 (by decide +kernel) ?_
        refine w_remN (n1 % 4) 36 (by decide +kernel) (by decide) (by decide) (by omega) rfl ?_
        refine w_pushN 1 37 (by decide +kernel) ?_
        refine w_cneN 45 40 (by decide +kernel) (by omega) (by omega) (fun h3 => ?_) (fun h3 => ?_)
        · skip
          refine w_load (.aload_n 0) 46 (by decide +kernel) rfl rfl ?_
          refine w_getK (k := 1) 49 (by decide +kernel) hc.1.1 rfl en1 ?_
          exact w_ret (by decide +kernel) (hq _ (fun h => absurd h (nI_m9 (by omega))))
        · skip
          refine w_push (-9) 42 (by decide +kernel) ?_
          refine w_goto 49 (by decide +kernel) ?_
          exact w_ret (by decide +kernel) (hq _ (fun _ => ⟨_, by assumption, by assumption, by assumption⟩))
      · skip
        refine w_load (.iload_n 1) 11 (by decide +kernel) rfl rfl ?_
        refine w_load (.aload_n 0) 12 (by decide +kernel) rfl rfl ?_
        refine w_load (.iload_n 1) 13 (by decide +kernel) rfl rfl ?_
        refine w_callV1 40 2 2 16 (by decide +kernel) hc.1.1 (Nat.le_of_ble_eq_true rfl) rfl (by decide) (by omega) ?_
        refine k_40 hI hc (by omega) (fun r4 hr4 => ?_)
        dsimp only [Option.toList, List.cons_append, List.nil_append]
        refine w_callS2 46 2 19 (by decide +kernel) (Nat.le_of_ble_eq_true rfl) rfl rfl (by decide) (by omega) ?_
        refine k_46 hI  (by omega) (fun r5 hr5 => ?_)
        dsimp only [Option.toList, List.cons_append, List.nil_append]
        refine w_ine 24 22 (by decide +kernel) (fun h6 => ?_) (fun h6 => ?_)
        · skip
          refine w_iincN (z := 1) (g1 + 1) 27 (by decide +kernel) rfl (Nat.le_of_ble_eq_true rfl) rfl rfl ?_
          show Wp _ _ _ [.ref s, .int (nI (g1 + 1))] _ _ _ _
          refine w_goto 2 (by decide +kernel) ?_
          exact ih_2 (g1 + 1) (by omega) (by omega)
        · skip
          refine w_load (.iload_n 1) 23 (by decide +kernel) rfl rfl ?_
          exact w_ret (by decide +kernel) (hq _ (fun h => absurd h (nI_m9 (by omega))))
  exact LP_2 _ 0 (by omega) (Nat.lt_succ_self _)
-- X2_soundInTale
set_option maxRecDepth 10000 in
theorem k_45 {d : Nat} {M : Mt} {L : Lt} {Q : Option Value → Mt → Lt → Prop} {s : Nat}  (hI : Inv M) (hc : Sc s) (hd : 2 ≤ d) (hq : ∀ (r : Int32), (∃ n, n ≤ 24 ∧ r = nI n) → Q (some (.int r)) M L) : Wp d 45 0 [.ref s, .null] [] M L Q := by
  refine w_pushN 0 1 (by decide +kernel) ?_
  refine w_store (ls' := [.ref s, .int (nI 0)]) (.istore_n 1) 2 (by decide +kernel) rfl rfl ?_
  have LP_2 : ∀ (kk : Nat) (g1 : Nat), g1 ≤ 24 → 24 - g1 < kk → Wp d 45 2 [.ref s, .int (nI g1)] [] M L Q := by
    intro kk
    induction kk with
    | zero => intro g1 hi0_2 hm_2; exact absurd hm_2 (Nat.not_lt_zero _)
    | succ kk ih_2 =>
      intro g1 hi0_2 hm_2
      refine w_load (.iload_n 1) 3 (by decide +kernel) rfl rfl ?_
      refine w_load (.aload_n 0) 4 (by decide +kernel) rfl rfl ?_
      refine w_getN (B := 24) (k := 1) 7 (by decide +kernel) hc.1.1 rfl (inv_s hI hc) (fun n1 hn1 en1 => ?_)
      refine w_cgeN 30 10 (by decide +kernel) (by omega) (by omega) (fun h2 => ?_) (fun h2 => ?_)
      · skip
        refine w_load (.aload_n 0) 31 (by decide +kernel) rfl rfl ?_
        refine w_getK (k := 1) 34 (by decide +kernel) hc.1.1 rfl en1 ?_
        exact w_ret (by decide +kernel) (hq _ ⟨_, by omega, rfl⟩)
      · skip
        refine w_load (.iload_n 1) 11 (by decide +kernel) rfl rfl ?_
        refine w_load (.aload_n 0) 12 (by decide +kernel) rfl rfl ?_
        refine w_load (.iload_n 1) 13 (by decide +kernel) rfl rfl ?_
        refine w_callV1 40 2 2 16 (by decide +kernel) hc.1.1 (Nat.le_of_ble_eq_true rfl) rfl (by decide) (by omega) ?_
        refine k_40 hI hc (by omega) (fun r3 hr3 => ?_)
        dsimp only [Option.toList, List.cons_append, List.nil_append]
        refine w_callS2 47 2 19 (by decide +kernel) (Nat.le_of_ble_eq_true rfl) rfl rfl (by decide) (by omega) ?_
        refine k_47 hI  (by omega) (fun r4 hr4 => ?_)
        dsimp only [Option.toList, List.cons_append, List.nil_append]
        refine w_ine 24 22 (by decide +kernel) (fun h5 => ?_) (fun h5 => ?_)
        · skip
          refine w_iincN (z := 1) (g1 + 1) 27 (by decide +kernel) rfl (Nat.le_of_ble_eq_true rfl) rfl rfl ?_
          show Wp _ _ _ [.ref s, .int (nI (g1 + 1))] _ _ _ _
          refine w_goto 2 (by decide +kernel) ?_
          exact ih_2 (g1 + 1) (by omega) (by omega)
        · skip
          refine w_load (.iload_n 1) 23 (by decide +kernel) rfl rfl ?_
          exact w_ret (by decide +kernel) (hq _ ⟨_, by omega, rfl⟩)
  exact LP_2 _ 0 (by omega) (Nat.lt_succ_self _)
-- X2_taleFault
set_option maxRecDepth 10000 in
theorem k_42 {d : Nat} {M : Mt} {L : Lt} {Q : Option Value → Mt → Lt → Prop} {s : Nat}  (hI : Inv M) (hc : Sc s) (hd : 3 ≤ d) (hq : ∀ (r : Int32), True → Q (some (.int r)) M L) : Wp d 42 0 [.ref s, .null] [] M L Q := by
  refine w_load (.aload_n 0) 1 (by decide +kernel) rfl rfl ?_
  refine w_callV0 45 2 2 4 (by decide +kernel) hc.1.1 (Nat.le_of_ble_eq_true rfl)  (by decide) (by omega) ?_
  refine k_45 hI hc (by omega) (fun r1 hr1 => ?_)
  dsimp only [Option.toList, List.cons_append, List.nil_append]
  rcases hr1 with ⟨n2, hn2, rfl⟩
  · skip
    refine w_store (ls' := [.ref s, .int (nI n2)]) (.istore_n 1) 5 (by decide +kernel) rfl rfl ?_
    refine w_load (.iload_n 1) 6 (by decide +kernel) rfl rfl ?_
    refine w_load (.aload_n 0) 7 (by decide +kernel) rfl rfl ?_
    refine w_getN (B := 24) (k := 1) 10 (by decide +kernel) hc.1.1 rfl (inv_s hI hc) (fun n3 hn3 en3 => ?_)
    refine w_cneN 27 13 (by decide +kernel) (by omega) (by omega) (fun h4 => ?_) (fun h4 => ?_)
    · skip
      refine w_load (.iload_n 1) 28 (by decide +kernel) rfl rfl ?_
      exact w_ret (by decide +kernel) (hq _ trivial)
    · skip
      refine w_load (.aload_n 0) 14 (by decide +kernel) rfl rfl ?_
      refine w_getK (k := 1) 17 (by decide +kernel) hc.1.1 rfl en3 ?_
      refine w_pushN 3 18 (by decide +kernel) ?_
      refine w_remN (n3 % 3) 19 (by decide +kernel) (by decide) (by decide) (by omega) rfl ?_
      refine w_ineN 27 22 (by decide +kernel) (by omega) (fun h5 => ?_) (fun h5 => ?_)
      · skip
        refine w_load (.iload_n 1) 28 (by decide +kernel) rfl rfl ?_
        exact w_ret (by decide +kernel) (hq _ trivial)
      · skip
        refine w_push (-9) 24 (by decide +kernel) ?_
        refine w_goto 28 (by decide +kernel) ?_
        exact w_ret (by decide +kernel) (hq _ trivial)
-- X2_wholeDeeds
set_option maxRecDepth 10000 in
theorem k_43 {d : Nat} {M : Mt} {L : Lt} {Q : Option Value → Mt → Lt → Prop} {s : Nat}  (hI : Inv M) (hc : Sc s) (hd : 3 ≤ d) (hq : ∀ (r : Int32), (∃ n, n ≤ 8 ∧ r = nI n) → Q (some (.int r)) M L) : Wp d 43 0 [.ref s] [] M L Q := by
  refine w_load (.aload_n 0) 1 (by decide +kernel) rfl rfl ?_
  refine w_callV0 45 2 2 4 (by decide +kernel) hc.1.1 (Nat.le_of_ble_eq_true rfl)  (by decide) (by omega) ?_
  refine k_45 hI hc (by omega) (fun r1 hr1 => ?_)
  dsimp only [Option.toList, List.cons_append, List.nil_append]
  rcases hr1 with ⟨n2, hn2, rfl⟩
  · skip
    refine w_pushN 3 5 (by decide +kernel) ?_
    refine w_divN (n2 / 3) 6 (by decide +kernel) (by decide) (by decide) (by omega) rfl ?_
    exact w_ret (by decide +kernel) (hq _ ⟨_, by omega, rfl⟩)
-- X2_deedAt
set_option maxRecDepth 10000 in
theorem k_44 {d : Nat} {M : Mt} {L : Lt} {Q : Option Value → Mt → Lt → Prop} {s : Nat} {a : Int32} (hI : Inv M) (hc : Sc s) (hd : 1 ≤ d) (hq : ∀ (r : Int32), True → Q (some (.int r)) M L) : Wp d 44 0 [.ref s, .int a, .null, .null] [] M L Q := by
  refine w_load (.iload_n 1) 1 (by decide +kernel) rfl rfl ?_
  refine w_pushN 3 2 (by decide +kernel) ?_
  refine w_pure .imul 3 (by decide +kernel) rfl rfl ?_
  refine w_topi (fun v1 ev1 => ?_)
  refine w_store (ls' := [.ref s, .int a, .int v1, .null]) (.istore_n 2) 4 (by decide +kernel) rfl rfl ?_
  refine w_load (.aload_n 0) 5 (by decide +kernel) rfl rfl ?_
  refine w_load (.iload_n 2) 6 (by decide +kernel) rfl rfl ?_
  refine w_callV1 40 2 2 9 (by decide +kernel) hc.1.1 (Nat.le_of_ble_eq_true rfl) rfl (by decide) (by omega) ?_
  refine k_40 hI hc (by omega) (fun r2 hr2 => ?_)
  dsimp only [Option.toList, List.cons_append, List.nil_append]
  refine w_callS1 49 1 12 (by decide +kernel) (Nat.le_of_ble_eq_true rfl) rfl (by decide) (by omega) ?_
  refine k_49 hI  (by omega) (fun r3 hr3 => ?_)
  dsimp only [Option.toList, List.cons_append, List.nil_append]
  refine w_store (ls' := [.ref s, .int a, .int v1, .int r3]) (.istore_n 3) 13 (by decide +kernel) rfl rfl ?_
  refine w_load (.iload_n 3) 14 (by decide +kernel) rfl rfl ?_
  refine w_pushN 16 16 (by decide +kernel) ?_
  refine w_pure .imul 17 (by decide +kernel) rfl rfl ?_
  refine w_load (.aload_n 0) 18 (by decide +kernel) rfl rfl ?_
  refine w_load (.iload_n 2) 19 (by decide +kernel) rfl rfl ?_
  refine w_pushN 1 20 (by decide +kernel) ?_
  refine w_pure .iadd 21 (by decide +kernel) rfl rfl ?_
  refine w_callV1 40 2 2 24 (by decide +kernel) hc.1.1 (Nat.le_of_ble_eq_true rfl) rfl (by decide) (by omega) ?_
  refine k_40 hI hc (by omega) (fun r4 hr4 => ?_)
  dsimp only [Option.toList, List.cons_append, List.nil_append]
  refine w_pushN 97 26 (by decide +kernel) ?_
  refine w_pure .isub 27 (by decide +kernel) rfl rfl ?_
  refine w_pushN 4 28 (by decide +kernel) ?_
  refine w_pure .imul 29 (by decide +kernel) rfl rfl ?_
  refine w_pure .iadd 30 (by decide +kernel) rfl rfl ?_
  refine w_load (.aload_n 0) 31 (by decide +kernel) rfl rfl ?_
  refine w_load (.iload_n 2) 32 (by decide +kernel) rfl rfl ?_
  refine w_pushN 2 33 (by decide +kernel) ?_
  refine w_pure .iadd 34 (by decide +kernel) rfl rfl ?_
  refine w_callV1 40 2 2 37 (by decide +kernel) hc.1.1 (Nat.le_of_ble_eq_true rfl) rfl (by decide) (by omega) ?_
  refine k_40 hI hc (by omega) (fun r5 hr5 => ?_)
  dsimp only [Option.toList, List.cons_append, List.nil_append]
  refine w_pure .iadd 38 (by decide +kernel) rfl rfl ?_
  refine w_pushN 97 40 (by decide +kernel) ?_
  refine w_pure .isub 41 (by decide +kernel) rfl rfl ?_
  exact w_ret (by decide +kernel) (hq _ trivial)
end
section
-- X1_settle
set_option maxRecDepth 10000 in
theorem k_7 {d : Nat} {M : Mt} {L : Lt} {Q : Option Value → Mt → Lt → Prop} {h s n : Nat} (hI : Inv M) (hh : Hs h) (hc : Sc s) (hn1 : 1 ≤ n ∧ n ≤ 24) (en0 : M s 1 = nI n) (hd : 1 ≤ d) (hq : ∀ (N : Mt), St (fun i _ => h ≤ i ∧ i ≤ h + 2) M N → True → Q none N L) : Wp d 7 0 [.ref h, .ref s, .null, .null] [] M L Q := by
  refine (show ∀ N : Mt, N = M → St (fun i _ => h ≤ i ∧ i ≤ h + 2) M N → Wp d 7 0 [.ref h, .ref s, .null, .null] [] N L Q from ?_) M rfl (St.rf hI)
  intro N hNM hS
  have kz0 : N (s) 1 = nI n := by rw [hNM]; exact en0
  refine w_load (.aload_n 0) 1 (by decide +kernel) rfl rfl ?_
  refine w_load (.aload_n 1) 2 (by decide +kernel) rfl rfl ?_
  refine w_callV0 36 2 1 5 (by decide +kernel) hc.1.1 (Nat.le_of_ble_eq_true rfl)  (by decide) (by omega) ?_
  refine k_36 hS.1 hc (by omega) kz0 (by omega) (fun r1 hr1 => ?_)
  dsimp only [Option.toList, List.cons_append, List.nil_append]
  rcases hr1 with rfl
  · skip
    refine w_pushN 1 6 (by decide +kernel) ?_
    refine w_subN (n - 1) 7 (by decide +kernel) (by omega) rfl ?_
    refine w_pushN 4 8 (by decide +kernel) ?_
    refine w_divN ((n - 1) / 4) 9 (by decide +kernel) (by decide) (by decide) (by omega) rfl ?_
    refine w_pushN 5 10 (by decide +kernel) ?_
    refine w_minN (min 5 (((n - 1) / 4))) 13 (by decide +kernel) (Nat.le_of_ble_eq_true rfl) (Nat.le_of_ble_eq_true rfl) (by omega) (by omega) rfl ?_
    refine w_putW (k := 2) 16 (by decide +kernel) hh.1.1 rfl hS (rg_h hh (by omega)) (by first | exact rfl | omega | (dsimp only; omega) | (simp only [Hs, Tl, Sc, isHs, isScr, isTs] at *; omega)) (fun N hS hq2 oq2 => ?_)
    have kn3 := (oq2 (s) 1 (by first | omega | (simp only [Hs, Tl, Sc, isHs, isScr, isTs] at *; omega))).trans kz0
    refine w_pushN 0 17 (by decide +kernel) ?_
    refine w_store (ls' := [.ref h, .ref s, .int (nI 0), .null]) (.istore_n 2) 18 (by decide +kernel) rfl rfl ?_
    have LP_18 : ∀ (kk : Nat) (N : Mt) (g2 : Nat), St (fun i _ => h ≤ i ∧ i ≤ h + 2) M N → g2 ≤ 5 → 5 - g2 < kk → Wp d 7 18 [.ref h, .ref s, .int (nI g2), .null] [] N L Q := by
      intro kk
      induction kk with
      | zero => intro N g2 hS hi0_18 hm_18; exact absurd hm_18 (Nat.not_lt_zero _)
      | succ kk ih_18 =>
        intro N g2 hS hi0_18 hm_18
        refine w_load (.iload_n 2) 19 (by decide +kernel) rfl rfl ?_
        refine w_load (.aload_n 0) 20 (by decide +kernel) rfl rfl ?_
        refine w_getN (B := 5) (k := 2) 23 (by decide +kernel) hh.1.1 rfl (inv_h hS.1 hh) (fun n4 hn4 en4 => ?_)
        refine w_cgeN 101 26 (by decide +kernel) (by omega) (by omega) (fun h5 => ?_) (fun h5 => ?_)
        · skip
          refine w_load (.aload_n 0) 102 (by decide +kernel) rfl rfl ?_
          refine w_getR (k := 0) (r := h + 1) 105 (by decide +kernel) hh.1.1 rfl ?_
          refine w_pushN 15 107 (by decide +kernel) ?_
          refine w_load (.aload_n 0) 108 (by decide +kernel) rfl rfl ?_
          refine w_callV0 18 1 1 111 (by decide +kernel) hh.1.1 (Nat.le_of_ble_eq_true rfl)  (by decide) (by omega) ?_
          refine k_18 hS.1 hh (by omega) (fun r6 hr6 => ?_)
          dsimp only [Option.toList, List.cons_append, List.nil_append]
          refine w_iastW 112 (by decide +kernel) hh.1.2.1 (by omega) (by omega) hS (Rg.free (by simp only [Hs, Tl, Sc, isScr, isHs, isTs] at *; omega)) (by first | exact rfl | omega | (dsimp only; omega) | (simp only [Hs, Tl, Sc, isHs, isScr, isTs] at *; omega)) (fun N hS hq7 oq7 => ?_)
          have kn8 := (oq7 (h) 2 (by first | omega | (simp only [Hs, Tl, Sc, isHs, isScr, isTs] at *; omega))).trans en4
          refine w_load (.aload_n 0) 113 (by decide +kernel) rfl rfl ?_
          refine w_getR (k := 0) (r := h + 1) 116 (by decide +kernel) hh.1.1 rfl ?_
          refine w_pushN 16 118 (by decide +kernel) ?_
          refine w_pushN 0 119 (by decide +kernel) ?_
          refine w_iastW 120 (by decide +kernel) hh.1.2.1 (by omega) (by omega) hS (Rg.free (by simp only [Hs, Tl, Sc, isScr, isHs, isTs] at *; omega)) (by first | exact rfl | omega | (dsimp only; omega) | (simp only [Hs, Tl, Sc, isHs, isScr, isTs] at *; omega)) (fun N hS hq9 oq9 => ?_)
          have kn10 := (oq9 (h) 2 (by first | omega | (simp only [Hs, Tl, Sc, isHs, isScr, isTs] at *; omega))).trans kn8
          exact w_retV (by decide +kernel) (hq N hS trivial)
        · skip
          refine w_load (.iload_n 2) 27 (by decide +kernel) rfl rfl ?_
          refine w_pushN 4 28 (by decide +kernel) ?_
          refine w_mulN (g2 * 4) 29 (by decide +kernel) rfl ?_
          refine w_pushN 1 30 (by decide +kernel) ?_
          refine w_addN (g2 * 4 + 1) 31 (by decide +kernel) (by omega) ?_
          refine w_store (ls' := [.ref h, .ref s, .int (nI g2), .int (nI (g2 * 4 + 1))]) (.istore_n 3) 32 (by decide +kernel) rfl rfl ?_
          refine w_load (.aload_n 0) 33 (by decide +kernel) rfl rfl ?_
          refine w_getR (k := 0) (r := h + 1) 36 (by decide +kernel) hh.1.1 rfl ?_
          refine w_pushN 0 37 (by decide +kernel) ?_
          refine w_load (.iload_n 2) 38 (by decide +kernel) rfl rfl ?_
          refine w_addN g2 39 (by decide +kernel) (by omega) ?_
          refine w_load (.aload_n 1) 40 (by decide +kernel) rfl rfl ?_
          refine w_load (.iload_n 3) 41 (by decide +kernel) rfl rfl ?_
          refine w_pushN 1 42 (by decide +kernel) ?_
          refine w_addN (g2 * 4 + 1 + 1) 43 (by decide +kernel) (by omega) ?_
          refine w_callV1 40 2 2 46 (by decide +kernel) hc.1.1 (Nat.le_of_ble_eq_true rfl) rfl (by decide) (by omega) ?_
          refine k_40 hS.1 hc (by omega) (fun r11 hr11 => ?_)
          dsimp only [Option.toList, List.cons_append, List.nil_append]
          refine w_pushN 97 48 (by decide +kernel) ?_
          refine w_pure .isub 49 (by decide +kernel) rfl rfl ?_
          refine w_iastW 50 (by decide +kernel) hh.1.2.1 (by omega) (by omega) hS (Rg.free (by simp only [Hs, Tl, Sc, isScr, isHs, isTs] at *; omega)) (by first | exact rfl | omega | (dsimp only; omega) | (simp only [Hs, Tl, Sc, isHs, isScr, isTs] at *; omega)) (fun N hS hq12 oq12 => ?_)
          have kn13 := (oq12 (h) 2 (by first | omega | (simp only [Hs, Tl, Sc, isHs, isScr, isTs] at *; omega))).trans en4
          refine w_load (.aload_n 0) 51 (by decide +kernel) rfl rfl ?_
          refine w_getR (k := 0) (r := h + 1) 54 (by decide +kernel) hh.1.1 rfl ?_
          refine w_pushN 5 55 (by decide +kernel) ?_
          refine w_load (.iload_n 2) 56 (by decide +kernel) rfl rfl ?_
          refine w_addN (5 + g2) 57 (by decide +kernel) (by omega) ?_
          refine w_load (.aload_n 1) 58 (by decide +kernel) rfl rfl ?_
          refine w_load (.iload_n 3) 59 (by decide +kernel) rfl rfl ?_
          refine w_pushN 2 60 (by decide +kernel) ?_
          refine w_addN (g2 * 4 + 1 + 2) 61 (by decide +kernel) (by omega) ?_
          refine w_callV1 40 2 2 64 (by decide +kernel) hc.1.1 (Nat.le_of_ble_eq_true rfl) rfl (by decide) (by omega) ?_
          refine k_40 hS.1 hc (by omega) (fun r14 hr14 => ?_)
          dsimp only [Option.toList, List.cons_append, List.nil_append]
          refine w_pushN 48 66 (by decide +kernel) ?_
          refine w_pure .isub 67 (by decide +kernel) rfl rfl ?_
          refine w_iastW 68 (by decide +kernel) hh.1.2.1 (by omega) (by omega) hS (Rg.free (by simp only [Hs, Tl, Sc, isScr, isHs, isTs] at *; omega)) (by first | exact rfl | omega | (dsimp only; omega) | (simp only [Hs, Tl, Sc, isHs, isScr, isTs] at *; omega)) (fun N hS hq15 oq15 => ?_)
          have kn16 := (oq15 (h) 2 (by first | omega | (simp only [Hs, Tl, Sc, isHs, isScr, isTs] at *; omega))).trans kn13
          refine w_load (.aload_n 0) 69 (by decide +kernel) rfl rfl ?_
          refine w_getR (k := 0) (r := h + 1) 72 (by decide +kernel) hh.1.1 rfl ?_
          refine w_pushN 10 74 (by decide +kernel) ?_
          refine w_load (.iload_n 2) 75 (by decide +kernel) rfl rfl ?_
          refine w_addN (10 + g2) 76 (by decide +kernel) (by omega) ?_
          refine w_push (-9) 78 (by decide +kernel) ?_
          refine w_iastW 79 (by decide +kernel) hh.1.2.1 (by omega) (by omega) hS (Rg.free (by simp only [Hs, Tl, Sc, isScr, isHs, isTs] at *; omega)) (by first | exact rfl | omega | (dsimp only; omega) | (simp only [Hs, Tl, Sc, isHs, isScr, isTs] at *; omega)) (fun N hS hq17 oq17 => ?_)
          have kn18 := (oq17 (h) 2 (by first | omega | (simp only [Hs, Tl, Sc, isHs, isScr, isTs] at *; omega))).trans kn16
          refine w_load (.aload_n 0) 80 (by decide +kernel) rfl rfl ?_
          refine w_getR (k := 1) (r := h + 2) 83 (by decide +kernel) hh.1.1 rfl ?_
          refine w_load (.iload_n 2) 84 (by decide +kernel) rfl rfl ?_
          refine w_load (.aload_n 1) 85 (by decide +kernel) rfl rfl ?_
          refine w_load (.iload_n 3) 86 (by decide +kernel) rfl rfl ?_
          refine w_pushN 3 87 (by decide +kernel) ?_
          refine w_addN (g2 * 4 + 1 + 3) 88 (by decide +kernel) (by omega) ?_
          refine w_callV1 40 2 2 91 (by decide +kernel) hc.1.1 (Nat.le_of_ble_eq_true rfl) rfl (by decide) (by omega) ?_
          refine k_40 hS.1 hc (by omega) (fun r19 hr19 => ?_)
          dsimp only [Option.toList, List.cons_append, List.nil_append]
          refine w_pushN 48 93 (by decide +kernel) ?_
          refine w_pure .isub 94 (by decide +kernel) rfl rfl ?_
          refine w_iastW 95 (by decide +kernel) hh.1.2.2 (by omega) (by omega) hS (Rg.free (by simp only [Hs, Tl, Sc, isScr, isHs, isTs] at *; omega)) (by first | exact rfl | omega | (dsimp only; omega) | (simp only [Hs, Tl, Sc, isHs, isScr, isTs] at *; omega)) (fun N hS hq20 oq20 => ?_)
          have kn21 := (oq20 (h) 2 (by first | omega | (simp only [Hs, Tl, Sc, isHs, isScr, isTs] at *; omega))).trans kn18
          refine w_iincN (z := 2) (g2 + 1) 98 (by decide +kernel) rfl (Nat.le_of_ble_eq_true rfl) rfl rfl ?_
          show Wp _ _ _ [.ref h, .ref s, .int (nI (g2 + 1)), .int (nI (g2 * 4 + 1))] _ _ _ _
          refine w_goto 18 (by decide +kernel) ?_
          refine Wp.forget (ls := [.ref h, .ref s, .int (nI (g2 + 1)), .null]) ⟨Or.inl rfl, Or.inl rfl, Or.inl rfl, Or.inr ⟨rfl, rfl⟩, trivial⟩ ?_
          exact ih_18 N (g2 + 1) hS (by omega) (by omega)
    exact LP_18 _ N 0 hS (by omega) (Nat.lt_succ_self _)
-- X4_put
set_option maxRecDepth 10000 in
theorem k_55 {d : Nat} {M : Mt} {L : Lt} {Q : Option Value → Mt → Lt → Prop} {s n : Nat} {h : Nat} {p : Int32} (hI : Inv M) (hf : isShelf s n) (hn : 17 ≤ n ∧ n < 2 ^ 31) (hs3 : s = 58 ∨ s = 60 ∨ s = 62) (hh : Hs h) (hd : 1 ≤ d) (hq : ∀ (N : Mt), St (fun i _ => i = s + 1) M N → True → Q none N L) : Wp d 55 0 [.ref s, .int p, .ref h] [] M L Q := by
  refine (show ∀ N : Mt, N = M → St (fun i _ => i = s + 1) M N → Wp d 55 0 [.ref s, .int p, .ref h] [] N L Q from ?_) M rfl (St.rf hI)
  intro N hNM hS
  refine w_load (.aload_n 2) 1 (by decide +kernel) rfl rfl ?_
  refine w_load (.aload_n 0) 2 (by decide +kernel) rfl rfl ?_
  refine w_getR (k := 0) (r := s + 1) 5 (by decide +kernel) hf.1 rfl ?_
  refine w_load (.iload_n 1) 6 (by decide +kernel) rfl rfl ?_
  refine w_pushN 17 8 (by decide +kernel) ?_
  refine w_pure .imul 9 (by decide +kernel) rfl rfl ?_
  refine w_callV2 33 1 3 12 (by decide +kernel) hh.1.1 (Nat.le_of_ble_eq_true rfl) rfl rfl (by decide) (by omega) ?_
  refine k_33 hS.1 hh hf.2 (by omega) (fun _ _ => Rg.free (by simp only [isScr, isHs, isTs] at *; omega)) (by omega) (fun N hT hr1 => ?_)
  have hS := hS.tr hT (by intro i k; first | exact rfl | omega | (dsimp only; omega) | (simp only [Hs, Tl, Sc, isHs, isScr, isTs] at *; omega))
  dsimp only [Option.toList, List.nil_append]
  exact w_retV (by decide +kernel) (hq N hS trivial)
-- X4_fetch
set_option maxRecDepth 10000 in
theorem k_56 {d : Nat} {M : Mt} {L : Lt} {Q : Option Value → Mt → Lt → Prop} {s n : Nat} {h : Nat} {p : Int32} (hI : Inv M) (hf : isShelf s n) (hn : 17 ≤ n ∧ n < 2 ^ 31) (hs3 : s = 58 ∨ s = 60 ∨ s = 62) (hh : Hs h) (hd : 1 ≤ d) (hq : ∀ (N : Mt), St (fun i _ => h ≤ i ∧ i ≤ h + 2) M N → True → Q none N L) : Wp d 56 0 [.ref s, .int p, .ref h] [] M L Q := by
  refine (show ∀ N : Mt, N = M → St (fun i _ => h ≤ i ∧ i ≤ h + 2) M N → Wp d 56 0 [.ref s, .int p, .ref h] [] N L Q from ?_) M rfl (St.rf hI)
  intro N hNM hS
  refine w_load (.aload_n 2) 1 (by decide +kernel) rfl rfl ?_
  refine w_load (.aload_n 0) 2 (by decide +kernel) rfl rfl ?_
  refine w_getR (k := 0) (r := s + 1) 5 (by decide +kernel) hf.1 rfl ?_
  refine w_load (.iload_n 1) 6 (by decide +kernel) rfl rfl ?_
  refine w_pushN 17 8 (by decide +kernel) ?_
  refine w_pure .imul 9 (by decide +kernel) rfl rfl ?_
  refine w_callV2 34 1 3 12 (by decide +kernel) hh.1.1 (Nat.le_of_ble_eq_true rfl) rfl rfl (by decide) (by omega) ?_
  refine k_34 hS.1 hh hf.2 (by omega) (by omega) (fun N hT hr1 => ?_)
  have hS := hS.tr hT (by intro i k; first | exact rfl | omega | (dsimp only; omega) | (simp only [Hs, Tl, Sc, isHs, isScr, isTs] at *; omega))
  dsimp only [Option.toList, List.nil_append]
  exact w_retV (by decide +kernel) (hq N hS trivial)
-- X4_firstLike
set_option maxRecDepth 10000 in
theorem k_57 {d : Nat} {M : Mt} {L : Lt} {Q : Option Value → Mt → Lt → Prop} {s n : Nat} {h m : Nat} (hI : Inv M) (hf : isShelf s n) (hn : 17 ≤ n ∧ n < 2 ^ 31) (hs3 : s = 58 ∨ s = 60 ∨ s = 62) (hh : Hs h) (hm : m ≤ 60) (hd : 1 ≤ d) (hq : ∀ (r : Int32), True → Q (some (.int r)) M L) : Wp d 57 0 [.ref s, .ref h, .int (nI m), .null] [] M L Q := by
  refine w_pushN 0 1 (by decide +kernel) ?_
  refine w_store (ls' := [.ref s, .ref h, .int (nI m), .int (nI 0)]) (.istore_n 3) 2 (by decide +kernel) rfl rfl ?_
  have LP_2 : ∀ (kk : Nat) (g3 : Nat), g3 ≤ 60 → 60 - g3 < kk → Wp d 57 2 [.ref s, .ref h, .int (nI m), .int (nI g3)] [] M L Q := by
    intro kk
    induction kk with
    | zero => intro g3 hi0_2 hm_2; exact absurd hm_2 (Nat.not_lt_zero _)
    | succ kk ih_2 =>
      intro g3 hi0_2 hm_2
      refine w_load (.iload_n 3) 3 (by decide +kernel) rfl rfl ?_
      refine w_load (.iload_n 2) 4 (by decide +kernel) rfl rfl ?_
      refine w_cgeN 30 7 (by decide +kernel) (by omega) (by omega) (fun h1 => ?_) (fun h1 => ?_)
      · skip
        refine w_push (-9) 32 (by decide +kernel) ?_
        exact w_ret (by decide +kernel) (hq _ trivial)
      · skip
        refine w_load (.aload_n 1) 8 (by decide +kernel) rfl rfl ?_
        refine w_load (.aload_n 0) 9 (by decide +kernel) rfl rfl ?_
        refine w_getR (k := 0) (r := s + 1) 12 (by decide +kernel) hf.1 rfl ?_
        refine w_load (.iload_n 3) 13 (by decide +kernel) rfl rfl ?_
        refine w_pushN 17 15 (by decide +kernel) ?_
        refine w_mulN (g3 * 17) 16 (by decide +kernel) rfl ?_
        refine w_callV2 32 1 4 19 (by decide +kernel) hh.1.1 (Nat.le_of_ble_eq_true rfl) rfl rfl (by decide) (by omega) ?_
        refine k_32 hI hh hf.2 (by omega) (by omega) (fun r2 hr2 => ?_)
        dsimp only [Option.toList, List.cons_append, List.nil_append]
        refine w_ieq 24 22 (by decide +kernel) (fun h3 => ?_) (fun h3 => ?_)
        · skip
          refine w_iincN (z := 3) (g3 + 1) 27 (by decide +kernel) rfl (Nat.le_of_ble_eq_true rfl) rfl rfl ?_
          show Wp _ _ _ [.ref s, .ref h, .int (nI m), .int (nI (g3 + 1))] _ _ _ _
          refine w_goto 2 (by decide +kernel) ?_
          exact ih_2 (g3 + 1) (by omega) (by omega)
        · skip
          refine w_load (.iload_n 3) 23 (by decide +kernel) rfl rfl ?_
          exact w_ret (by decide +kernel) (hq _ trivial)
  exact LP_2 _ 0 (by omega) (Nat.lt_succ_self _)
-- X4_dropFirst
set_option maxRecDepth 10000 in
theorem k_58 {d : Nat} {M : Mt} {L : Lt} {Q : Option Value → Mt → Lt → Prop} {s n : Nat}  (hI : Inv M) (hf : isShelf s n) (hn : 17 ≤ n ∧ n < 2 ^ 31) (hs3 : s = 58 ∨ s = 60 ∨ s = 62) (hd : 0 ≤ d) (hq : ∀ (N : Mt), St (fun i _ => i = s + 1) M N → True → Q none N L) : Wp d 58 0 [.ref s] [] M L Q := by
  refine (show ∀ N : Mt, N = M → St (fun i _ => i = s + 1) M N → Wp d 58 0 [.ref s] [] N L Q from ?_) M rfl (St.rf hI)
  intro N hNM hS
  refine w_load (.aload_n 0) 1 (by decide +kernel) rfl rfl ?_
  refine w_getR (k := 0) (r := s + 1) 4 (by decide +kernel) hf.1 rfl ?_
  refine w_pushN 17 6 (by decide +kernel) ?_
  refine w_load (.aload_n 0) 7 (by decide +kernel) rfl rfl ?_
  refine w_getR (k := 0) (r := s + 1) 10 (by decide +kernel) hf.1 rfl ?_
  refine w_pushN 0 11 (by decide +kernel) ?_
  refine w_load (.aload_n 0) 12 (by decide +kernel) rfl rfl ?_
  refine w_getR (k := 0) (r := s + 1) 15 (by decide +kernel) hf.1 rfl ?_
  refine w_alen (nI n) 16 (by decide +kernel) hf.2 (by decide) (by first | rfl | simp [nI]) ?_
  refine w_pushN 17 18 (by decide +kernel) ?_
  refine w_subN (n - 17) 19 (by decide +kernel) (by omega) rfl ?_
  refine w_acpyW 22 (by decide +kernel) hf.2 hf.2 (by omega) (by omega) (by omega) (by omega) (Nat.le_of_ble_eq_true rfl) hS (fun z hz1 hz2 => Rg.free (by simp only [Hs, Tl, Sc, isScr, isHs, isTs] at *; omega)) (by intro z hz1 hz2; first | exact rfl | omega | (dsimp only; omega) | (simp only [Hs, Tl, Sc, isHs, isScr, isTs] at *; omega)) (fun N hS hc0 => ?_)
  exact w_retV (by decide +kernel) (hq N hS trivial)
end
section
-- X5_isFull
set_option maxRecDepth 10000 in
theorem k_60 {d : Nat} {M : Mt} {L : Lt} {Q : Option Value → Mt → Lt → Prop} {n : Nat}  (hI : Inv M) (hn : n ≤ 6) (en : M 64 2 = nI n) (hd : 0 ≤ d) (hq : ∀ (r : Int32), ((r = 1 ∧ n = 6) ∨ (r = 0 ∧ n < 6)) → Q (some (.int r)) M L) : Wp d 60 0 [.ref 64] [] M L Q := by
  refine w_load (.aload_n 0) 1 (by decide +kernel) rfl rfl ?_
  refine w_getK (k := 2) 4 (by decide +kernel) sh_64 rfl en ?_
  refine w_pushN 6 6 (by decide +kernel) ?_
  refine w_cltN 13 9 (by decide +kernel) (by omega) (by omega) (fun h1 => ?_) (fun h1 => ?_)
  · skip
    refine w_pushN 0 14 (by decide +kernel) ?_
    exact w_retZ (by decide +kernel) (Or.inl rfl) (hq _ (Or.inr ⟨rfl, by omega⟩))
  · skip
    refine w_pushN 1 10 (by decide +kernel) ?_
    refine w_goto 14 (by decide +kernel) ?_
    exact w_retZ (by decide +kernel) (Or.inr rfl) (hq _ (Or.inl ⟨rfl, by omega⟩))
-- X5_add
set_option maxRecDepth 10000 in
theorem k_61 {d : Nat} {M : Mt} {L : Lt} {Q : Option Value → Mt → Lt → Prop} {n : Nat} {g a : Int32} (hI : Inv M) (hn : n < 6) (en : M 64 2 = nI n) (hd : 1 ≤ d) (hq : ∀ (r : Int32) (N : Mt), St (fun i _ => 64 ≤ i ∧ i ≤ 66) M N → (r = nI (n + 1) ∧ N 64 2 = nI (n + 1)) → Q (some (.int r)) N L) : Wp d 61 0 [.ref 64, .int g, .int a] [] M L Q := by
  refine (show ∀ N : Mt, N = M → St (fun i _ => 64 ≤ i ∧ i ≤ 66) M N → Wp d 61 0 [.ref 64, .int g, .int a] [] N L Q from ?_) M rfl (St.rf hI)
  intro N hNM hS
  have kz0 : N (64) 2 = nI n := by rw [hNM]; exact en
  refine w_load (.aload_n 0) 1 (by decide +kernel) rfl rfl ?_
  refine w_callV0 60 5 1 4 (by decide +kernel) sh_64 (Nat.le_of_ble_eq_true rfl)  (by decide) (by omega) ?_
  refine k_60 hS.1 (by omega) kz0 (by omega) (fun r1 hr1 => ?_)
  dsimp only [Option.toList, List.cons_append, List.nil_append]
  rcases hr1 with ⟨rfl, hfull⟩ | ⟨rfl, hfull⟩
  · skip
    refine w_ine 37 7 (by decide +kernel) (fun _ => ?_) (fun hz => absurd hz (by decide))
    refine w_load (.aload_n 0) 38 (by decide +kernel) rfl rfl ?_
    refine w_getK (k := 2) 41 (by decide +kernel) sh_64 rfl kz0 ?_
    exact w_ret (by decide +kernel) (hq _ N hS (by first | exact ⟨rfl, by assumption⟩ | exact absurd hfull (by omega)))
  · skip
    refine w_ine 37 7 (by decide +kernel) (fun hz => absurd hz (by decide)) (fun _ => ?_)
    refine w_load (.aload_n 0) 8 (by decide +kernel) rfl rfl ?_
    refine w_getR (k := 0) (r := 65) 11 (by decide +kernel) sh_64 rfl ?_
    refine w_load (.aload_n 0) 12 (by decide +kernel) rfl rfl ?_
    refine w_getK (k := 2) 15 (by decide +kernel) sh_64 rfl kz0 ?_
    refine w_load (.iload_n 1) 16 (by decide +kernel) rfl rfl ?_
    refine w_iastW 17 (by decide +kernel) sh_65 (by omega) (by omega) hS (Rg.free (by simp only [Hs, Tl, Sc, isScr, isHs, isTs] at *; omega)) (by first | exact rfl | omega | (dsimp only; omega) | (simp only [Hs, Tl, Sc, isHs, isScr, isTs] at *; omega)) (fun N hS hq4 oq4 => ?_)
    have kn5 := (oq4 (64) 2 (by first | omega | (simp only [Hs, Tl, Sc, isHs, isScr, isTs] at *; omega))).trans kz0
    refine w_load (.aload_n 0) 18 (by decide +kernel) rfl rfl ?_
    refine w_getR (k := 1) (r := 66) 21 (by decide +kernel) sh_64 rfl ?_
    refine w_load (.aload_n 0) 22 (by decide +kernel) rfl rfl ?_
    refine w_getK (k := 2) 25 (by decide +kernel) sh_64 rfl kn5 ?_
    refine w_load (.iload_n 2) 26 (by decide +kernel) rfl rfl ?_
    refine w_iastW 27 (by decide +kernel) sh_66 (by omega) (by omega) hS (Rg.free (by simp only [Hs, Tl, Sc, isScr, isHs, isTs] at *; omega)) (by first | exact rfl | omega | (dsimp only; omega) | (simp only [Hs, Tl, Sc, isHs, isScr, isTs] at *; omega)) (fun N hS hq6 oq6 => ?_)
    have kn7 := (oq6 (64) 2 (by first | omega | (simp only [Hs, Tl, Sc, isHs, isScr, isTs] at *; omega))).trans kn5
    refine w_load (.aload_n 0) 28 (by decide +kernel) rfl rfl ?_
    refine w_pure .dup 29 (by decide +kernel) rfl rfl ?_
    refine w_getK (k := 2) 32 (by decide +kernel) sh_64 rfl kn7 ?_
    refine w_pushN 1 33 (by decide +kernel) ?_
    refine w_addN (n + 1) 34 (by decide +kernel) (by omega) ?_
    refine w_putW (k := 2) 37 (by decide +kernel) sh_64 rfl hS (rg_sz (by omega)) (by first | exact rfl | omega | (dsimp only; omega) | (simp only [Hs, Tl, Sc, isHs, isScr, isTs] at *; omega)) (fun N hS hq8 oq8 => ?_)
    refine w_load (.aload_n 0) 38 (by decide +kernel) rfl rfl ?_
    refine w_getK (k := 2) 41 (by decide +kernel) sh_64 rfl hq8 ?_
    exact w_ret (by decide +kernel) (hq _ N hS (by first | exact ⟨rfl, by assumption⟩ | exact absurd hfull (by omega)))
-- X5_empty
set_option maxRecDepth 10000 in
theorem k_62 {d : Nat} {M : Mt} {L : Lt} {Q : Option Value → Mt → Lt → Prop} {n : Nat}  (hI : Inv M) (hn : n ≤ 6) (en : M 64 2 = nI n) (hd : 0 ≤ d) (hq : ∀ (r : Int32) (N : Mt), St (fun i k => i = 64 ∧ k = 2) M N → (r = nI n ∧ N 64 2 = nI 0) → Q (some (.int r)) N L) : Wp d 62 0 [.ref 64, .null] [] M L Q := by
  refine (show ∀ N : Mt, N = M → St (fun i k => i = 64 ∧ k = 2) M N → Wp d 62 0 [.ref 64, .null] [] N L Q from ?_) M rfl (St.rf hI)
  intro N hNM hS
  have kz0 : N (64) 2 = nI n := by rw [hNM]; exact en
  refine w_load (.aload_n 0) 1 (by decide +kernel) rfl rfl ?_
  refine w_getK (k := 2) 4 (by decide +kernel) sh_64 rfl kz0 ?_
  refine w_store (ls' := [.ref 64, .int (nI n)]) (.istore_n 1) 5 (by decide +kernel) rfl rfl ?_
  refine w_load (.aload_n 0) 6 (by decide +kernel) rfl rfl ?_
  refine w_pushN 0 7 (by decide +kernel) ?_
  refine w_putW (k := 2) 10 (by decide +kernel) sh_64 rfl hS (rg_sz (by omega)) (by first | exact rfl | omega | (dsimp only; omega) | (simp only [Hs, Tl, Sc, isHs, isScr, isTs] at *; omega)) (fun N hS hq1 oq1 => ?_)
  refine w_load (.iload_n 1) 11 (by decide +kernel) rfl rfl ?_
  exact w_ret (by decide +kernel) (hq _ N hS ⟨rfl, by assumption⟩)
-- X5_isSo
set_option maxRecDepth 10000 in
theorem k_64 {d : Nat} {M : Mt} {L : Lt} {Q : Option Value → Mt → Lt → Prop} {h : Nat} {g a : Int32} (hI : Inv M) (hh : Hs h) (hd : 2 ≤ d) (hq : ∀ (r : Int32), (r = 0 ∨ r = 1) → Q (some (.int r)) M L) : Wp d 64 0 [.ref h, .int g, .int a] [] M L Q := by
  refine w_load (.iload_n 2) 1 (by decide +kernel) rfl rfl ?_
  refine w_pushN 1000 4 (by decide +kernel) ?_
  refine w_cne 21 7 (by decide +kernel) (fun h1 => ?_) (fun h1 => ?_)
  · skip
    refine w_load (.iload_n 2) 22 (by decide +kernel) rfl rfl ?_
    refine w_pushN 1001 25 (by decide +kernel) ?_
    refine w_cne 34 28 (by decide +kernel) (fun h2 => ?_) (fun h2 => ?_)
    · skip
      refine w_load (.aload_n 0) 35 (by decide +kernel) rfl rfl ?_
      refine w_load (.iload_n 1) 36 (by decide +kernel) rfl rfl ?_
      refine w_callV1 13 1 2 39 (by decide +kernel) hh.1.1 (Nat.le_of_ble_eq_true rfl) rfl (by decide) (by omega) ?_
      refine k_13 hI hh (by omega) (fun r3 hr3 => ?_)
      dsimp only [Option.toList, List.cons_append, List.nil_append]
      refine w_load (.iload_n 2) 40 (by decide +kernel) rfl rfl ?_
      refine w_cne 47 43 (by decide +kernel) (fun h4 => ?_) (fun h4 => ?_)
      · skip
        refine w_pushN 0 48 (by decide +kernel) ?_
        exact w_retZ (by decide +kernel) (Or.inl rfl) (hq _ (Or.inl rfl))
      · skip
        refine w_pushN 1 44 (by decide +kernel) ?_
        refine w_goto 48 (by decide +kernel) ?_
        exact w_retZ (by decide +kernel) (Or.inr rfl) (hq _ (Or.inr rfl))
    · skip
      refine w_load (.aload_n 0) 29 (by decide +kernel) rfl rfl ?_
      refine w_load (.iload_n 1) 30 (by decide +kernel) rfl rfl ?_
      refine w_callV1 16 1 2 33 (by decide +kernel) hh.1.1 (Nat.le_of_ble_eq_true rfl) rfl (by decide) (by omega) ?_
      refine k_16 hI hh (by omega) (fun r5 hr5 => ?_)
      dsimp only [Option.toList, List.cons_append, List.nil_append]
      exact w_retZ (by decide +kernel) (by assumption) (hq _ (by assumption))
  · skip
    refine w_load (.aload_n 0) 8 (by decide +kernel) rfl rfl ?_
    refine w_load (.iload_n 1) 9 (by decide +kernel) rfl rfl ?_
    refine w_callV1 16 1 2 12 (by decide +kernel) hh.1.1 (Nat.le_of_ble_eq_true rfl) rfl (by decide) (by omega) ?_
    refine k_16 hI hh (by omega) (fun r6 hr6 => ?_)
    dsimp only [Option.toList, List.cons_append, List.nil_append]
    refine w_ine 19 15 (by decide +kernel) (fun h7 => ?_) (fun h7 => ?_)
    · skip
      refine w_pushN 0 20 (by decide +kernel) ?_
      exact w_retZ (by decide +kernel) (Or.inl rfl) (hq _ (Or.inl rfl))
    · skip
      refine w_pushN 1 16 (by decide +kernel) ?_
      refine w_goto 20 (by decide +kernel) ?_
      exact w_retZ (by decide +kernel) (Or.inr rfl) (hq _ (Or.inr rfl))
-- X5_fit
set_option maxRecDepth 10000 in
theorem k_63 {d : Nat} {M : Mt} {L : Lt} {Q : Option Value → Mt → Lt → Prop} {h : Nat} (hI : Inv M) (hh : Hs h) (hd : 3 ≤ d) (hq : ∀ (r : Int32), (r = 0 ∨ r = 1) → Q (some (.int r)) M L) : Wp d 63 0 [.ref 64, .ref h, .null] [] M L Q := by
  refine w_pushN 0 1 (by decide +kernel) ?_
  refine w_store (ls' := [.ref 64, .ref h, .int (nI 0)]) (.istore_n 2) 2 (by decide +kernel) rfl rfl ?_
  have LP_2 : ∀ (kk : Nat) (g2 : Nat), g2 ≤ 6 → 6 - g2 < kk → Wp d 63 2 [.ref 64, .ref h, .int (nI g2)] [] M L Q := by
    intro kk
    induction kk with
    | zero => intro g2 hi0_2 hm_2; exact absurd hm_2 (Nat.not_lt_zero _)
    | succ kk ih_2 =>
      intro g2 hi0_2 hm_2
      refine w_load (.iload_n 2) 3 (by decide +kernel) rfl rfl ?_
      refine w_load (.aload_n 0) 4 (by decide +kernel) rfl rfl ?_
      refine w_getN (B := 6) (k := 2) 7 (by decide +kernel) sh_64 rfl (inv_sz hI) (fun n1 hn1 en1 => ?_)
      refine w_cgeN 50 10 (by decide +kernel) (by omega) (by omega) (fun h2 => ?_) (fun h2 => ?_)
      · skip
        refine w_pushN 1 51 (by decide +kernel) ?_
        exact w_retZ (by decide +kernel) (Or.inr rfl) (hq _ (Or.inr rfl))
      · skip
        refine w_load (.aload_n 1) 11 (by decide +kernel) rfl rfl ?_
        refine w_load (.aload_n 0) 12 (by decide +kernel) rfl rfl ?_
        refine w_getR (k := 0) (r := 65) 15 (by decide +kernel) sh_64 rfl ?_
        refine w_load (.iload_n 2) 16 (by decide +kernel) rfl rfl ?_
        refine w_ialdN 17 (by decide +kernel) sh_65 (by omega) (by omega) ?_
        refine w_callV1 11 1 2 20 (by decide +kernel) hh.1.1 (Nat.le_of_ble_eq_true rfl) rfl (by decide) (by omega) ?_
        refine k_11 hI hh (by omega) (fun r3 hr3 => ?_)
        dsimp only [Option.toList, List.cons_append, List.nil_append]
        rcases hr3 with ⟨rfl, k4, hk4, ek4⟩ | rfl
        · skip
          refine w_ieq 44 23 (by decide +kernel) (fun hz => absurd hz (by decide)) (fun _ => ?_)
          refine w_load (.aload_n 1) 24 (by decide +kernel) rfl rfl ?_
          refine w_load (.aload_n 0) 25 (by decide +kernel) rfl rfl ?_
          refine w_getR (k := 0) (r := 65) 28 (by decide +kernel) sh_64 rfl ?_
          refine w_load (.iload_n 2) 29 (by decide +kernel) rfl rfl ?_
          refine w_ialdN 30 (by decide +kernel) sh_65 (by omega) (by omega) ?_
          refine w_load (.aload_n 0) 31 (by decide +kernel) rfl rfl ?_
          refine w_getR (k := 1) (r := 66) 34 (by decide +kernel) sh_64 rfl ?_
          refine w_load (.iload_n 2) 35 (by decide +kernel) rfl rfl ?_
          refine w_ialdN 36 (by decide +kernel) sh_66 (by omega) (by omega) ?_
          refine w_callS3 64 3 39 (by decide +kernel) (Nat.le_of_ble_eq_true rfl) rfl rfl rfl (by decide) (by omega) ?_
          refine k_64 hI hh (by omega) (fun r6 hr6 => ?_)
          dsimp only [Option.toList, List.cons_append, List.nil_append]
          refine w_ine 44 42 (by decide +kernel) (fun h7 => ?_) (fun h7 => ?_)
          · skip
            refine w_iincN (z := 2) (g2 + 1) 47 (by decide +kernel) rfl (Nat.le_of_ble_eq_true rfl) rfl rfl ?_
            show Wp _ _ _ [.ref 64, .ref h, .int (nI (g2 + 1))] _ _ _ _
            refine w_goto 2 (by decide +kernel) ?_
            exact ih_2 (g2 + 1) (by omega) (by omega)
          · skip
            refine w_pushN 0 43 (by decide +kernel) ?_
            exact w_retZ (by decide +kernel) (Or.inl rfl) (hq _ (Or.inl rfl))
        · skip
          refine w_ieq 44 23 (by decide +kernel) (fun _ => ?_) (fun hz => absurd hz (by decide))
          refine w_iincN (z := 2) (g2 + 1) 47 (by decide +kernel) rfl (Nat.le_of_ble_eq_true rfl) rfl rfl ?_
          show Wp _ _ _ [.ref 64, .ref h, .int (nI (g2 + 1))] _ _ _ _
          refine w_goto 2 (by decide +kernel) ?_
          exact ih_2 (g2 + 1) (by omega) (by omega)
  exact LP_2 _ 0 (by omega) (Nat.lt_succ_self _)
-- X7_kindOf
set_option maxRecDepth 10000 in
theorem k_117 {d : Nat} {M : Mt} {L : Lt} {Q : Option Value → Mt → Lt → Prop} {a : Int32} (hI : Inv M)  (hd : 0 ≤ d) (hq : ∀ (r : Int32), True → Q (some (.int r)) M L) : Wp d 117 0 [.int a] [] M L Q := by
  refine w_load (.iload_n 0) 1 (by decide +kernel) rfl rfl ?_
  refine w_pushN 16 3 (by decide +kernel) ?_
  refine w_div 4 (by decide +kernel) (by decide) ?_
  exact w_ret (by decide +kernel) (hq _ trivial)
-- X7_firstNameOf
set_option maxRecDepth 10000 in
theorem k_118 {d : Nat} {M : Mt} {L : Lt} {Q : Option Value → Mt → Lt → Prop} {a : Int32} (hI : Inv M)  (hd : 0 ≤ d) (hq : ∀ (r : Int32), True → Q (some (.int r)) M L) : Wp d 118 0 [.int a] [] M L Q := by
  refine w_load (.iload_n 0) 1 (by decide +kernel) rfl rfl ?_
  refine w_pushN 4 2 (by decide +kernel) ?_
  refine w_div 3 (by decide +kernel) (by decide) ?_
  refine w_pushN 4 4 (by decide +kernel) ?_
  refine w_rem 5 (by decide +kernel) (by decide) ?_
  exact w_ret (by decide +kernel) (hq _ trivial)
-- X7_secondNameOf
set_option maxRecDepth 10000 in
theorem k_119 {d : Nat} {M : Mt} {L : Lt} {Q : Option Value → Mt → Lt → Prop} {a : Int32} (hI : Inv M)  (hd : 0 ≤ d) (hq : ∀ (r : Int32), True → Q (some (.int r)) M L) : Wp d 119 0 [.int a] [] M L Q := by
  refine w_load (.iload_n 0) 1 (by decide +kernel) rfl rfl ?_
  refine w_pushN 4 2 (by decide +kernel) ?_
  refine w_rem 3 (by decide +kernel) (by decide) ?_
  exact w_ret (by decide +kernel) (hq _ trivial)
-- X7_leastOf
set_option maxRecDepth 10000 in
theorem k_116 {d : Nat} {M : Mt} {L : Lt} {Q : Option Value → Mt → Lt → Prop} {a : Int32} (hI : Inv M)  (hd : 1 ≤ d) (hq : ∀ (r : Int32), True → Q (some (.int r)) M L) : Wp d 116 0 [.int a, .null] [] M L Q := by
  refine w_pushN 0 1 (by decide +kernel) ?_
  refine w_store (ls' := [.int a, .int (nI 0)]) (.istore_n 1) 2 (by decide +kernel) rfl rfl ?_
  have LP_2 : ∀ (kk : Nat) (g1 : Nat), g1 ≤ 5 → 5 - g1 < kk → Wp d 116 2 [.int a, .int (nI g1)] [] M L Q := by
    intro kk
    induction kk with
    | zero => intro g1 hi0_2 hm_2; exact absurd hm_2 (Nat.not_lt_zero _)
    | succ kk ih_2 =>
      intro g1 hi0_2 hm_2
      refine w_load (.iload_n 1) 3 (by decide +kernel) rfl rfl ?_
      refine w_pushN 5 4 (by decide +kernel) ?_
      refine w_cgeN 23 7 (by decide +kernel) (by omega) (by omega) (fun h1 => ?_) (fun h1 => ?_)
      · skip
        refine w_push (-9) 25 (by decide +kernel) ?_
        exact w_ret (by decide +kernel) (hq _ trivial)
      · skip
        refine w_load (.iload_n 0) 8 (by decide +kernel) rfl rfl ?_
        refine w_load (.iload_n 1) 9 (by decide +kernel) rfl rfl ?_
        refine w_callS2 115 2 12 (by decide +kernel) (Nat.le_of_ble_eq_true rfl) rfl rfl (by decide) (by omega) ?_
        refine k_115 hI  (by omega) (fun r2 hr2 => ?_)
        dsimp only [Option.toList, List.cons_append, List.nil_append]
        refine w_ieq 17 15 (by decide +kernel) (fun h3 => ?_) (fun h3 => ?_)
        · skip
          refine w_iincN (z := 1) (g1 + 1) 20 (by decide +kernel) rfl (Nat.le_of_ble_eq_true rfl) rfl rfl ?_
          show Wp _ _ _ [.int a, .int (nI (g1 + 1))] _ _ _ _
          refine w_goto 2 (by decide +kernel) ?_
          exact ih_2 (g1 + 1) (by omega) (by omega)
        · skip
          refine w_load (.iload_n 1) 16 (by decide +kernel) rfl rfl ?_
          exact w_ret (by decide +kernel) (hq _ trivial)
  exact LP_2 _ 0 (by omega) (Nat.lt_succ_self _)
-- X6_begin
set_option maxRecDepth 10000 in
theorem k_66 {d : Nat} {M : Mt} {L : Lt} {Q : Option Value → Mt → Lt → Prop} {t : Nat} {h : Nat}  (hI : Inv M) (ht : Tl t) (hh : Hs h) (hd : 2 ≤ d) (hq : ∀ (N : Mt), St (fun i _ => t ≤ i ∧ i ≤ t + 4) M N → True → Q none N L) : Wp d 66 0 [.ref t, .ref h, .null] [] M L Q := by
  refine (show ∀ N : Mt, N = M → St (fun i _ => t ≤ i ∧ i ≤ t + 4) M N → Wp d 66 0 [.ref t, .ref h, .null] [] N L Q from ?_) M rfl (St.rf hI)
  intro N hNM hS
  refine w_load (.aload_n 0) 1 (by decide +kernel) rfl rfl ?_
  refine w_getR (k := 0) (r := t + 1) 4 (by decide +kernel) ht.1.1 rfl ?_
  refine w_load (.aload_n 1) 5 (by decide +kernel) rfl rfl ?_
  refine w_callV1 8 1 2 8 (by decide +kernel) ht.1.2.1.1 (Nat.le_of_ble_eq_true rfl) rfl (by decide) (by omega) ?_
  refine k_8 hS.1 (tl_h ht) hh (by omega) (fun N hT hr1 => ?_)
  have hS := hS.tr hT (by intro i k; first | exact rfl | omega | (dsimp only; omega) | (simp only [Hs, Tl, Sc, isHs, isScr, isTs] at *; omega))
  dsimp only [Option.toList, List.nil_append]
  refine w_pushN 0 9 (by decide +kernel) ?_
  refine w_store (ls' := [.ref t, .ref h, .int (nI 0)]) (.istore_n 2) 10 (by decide +kernel) rfl rfl ?_
  have LP_10 : ∀ (kk : Nat) (N : Mt) (g2 : Nat), St (fun i _ => t ≤ i ∧ i ≤ t + 4) M N → g2 ≤ 5 → 5 - g2 < kk → Wp d 66 10 [.ref t, .ref h, .int (nI g2)] [] N L Q := by
    intro kk
    induction kk with
    | zero => intro N g2 hS hi0_10 hm_10; exact absurd hm_10 (Nat.not_lt_zero _)
    | succ kk ih_10 =>
      intro N g2 hS hi0_10 hm_10
      refine w_load (.iload_n 2) 11 (by decide +kernel) rfl rfl ?_
      refine w_load (.aload_n 0) 12 (by decide +kernel) rfl rfl ?_
      refine w_getR (k := 1) (r := t + 4) 15 (by decide +kernel) ht.1.1 rfl ?_
      refine w_alen (nI 5) 16 (by decide +kernel) ht.1.2.2 (by decide) (by first | rfl | simp [nI]) ?_
      refine w_cgeN 39 19 (by decide +kernel) (by omega) (by omega) (fun h2 => ?_) (fun h2 => ?_)
      · skip
        refine w_load (.aload_n 0) 40 (by decide +kernel) rfl rfl ?_
        refine w_pushN 0 41 (by decide +kernel) ?_
        refine w_putW (k := 2) 44 (by decide +kernel) ht.1.1 rfl hS (Rg.free (by simp only [Hs, Tl, Sc, isScr, isHs, isTs] at *; omega)) (by first | exact rfl | omega | (dsimp only; omega) | (simp only [Hs, Tl, Sc, isHs, isScr, isTs] at *; omega)) (fun N hS hq3 oq3 => ?_)
        refine w_load (.aload_n 0) 45 (by decide +kernel) rfl rfl ?_
        refine w_pushN 0 46 (by decide +kernel) ?_
        refine w_putW (k := 3) 49 (by decide +kernel) ht.1.1 rfl hS (Rg.free (by simp only [Hs, Tl, Sc, isScr, isHs, isTs] at *; omega)) (by first | exact rfl | omega | (dsimp only; omega) | (simp only [Hs, Tl, Sc, isHs, isScr, isTs] at *; omega)) (fun N hS hq4 oq4 => ?_)
        exact w_retV (by decide +kernel) (hq N hS trivial)
      · skip
        refine w_load (.aload_n 0) 20 (by decide +kernel) rfl rfl ?_
        refine w_getR (k := 1) (r := t + 4) 23 (by decide +kernel) ht.1.1 rfl ?_
        refine w_load (.iload_n 2) 24 (by decide +kernel) rfl rfl ?_
        refine w_load (.aload_n 0) 25 (by decide +kernel) rfl rfl ?_
        refine w_getR (k := 0) (r := t + 1) 28 (by decide +kernel) ht.1.1 rfl ?_
        refine w_load (.iload_n 2) 29 (by decide +kernel) rfl rfl ?_
        refine w_callV1 15 1 2 32 (by decide +kernel) ht.1.2.1.1 (Nat.le_of_ble_eq_true rfl) rfl (by decide) (by omega) ?_
        refine k_15 hS.1 (tl_h ht) (by omega) (fun r5 hr5 => ?_)
        dsimp only [Option.toList, List.cons_append, List.nil_append]
        refine w_iastW 33 (by decide +kernel) ht.1.2.2 (by omega) (by omega) hS (Rg.free (by simp only [Hs, Tl, Sc, isScr, isHs, isTs] at *; omega)) (by first | exact rfl | omega | (dsimp only; omega) | (simp only [Hs, Tl, Sc, isHs, isScr, isTs] at *; omega)) (fun N hS hq6 oq6 => ?_)
        refine w_iincN (z := 2) (g2 + 1) 36 (by decide +kernel) rfl (Nat.le_of_ble_eq_true rfl) rfl rfl ?_
        show Wp _ _ _ [.ref t, .ref h, .int (nI (g2 + 1))] _ _ _ _
        refine w_goto 10 (by decide +kernel) ?_
        exact ih_10 N (g2 + 1) hS (by omega) (by omega)
  exact LP_10 _ N 0 hS (by omega) (Nat.lt_succ_self _)
-- X6_copyFrom
set_option maxRecDepth 10000 in
theorem k_67 {d : Nat} {M : Mt} {L : Lt} {Q : Option Value → Mt → Lt → Prop} {t : Nat} {u : Nat}  (hI : Inv M) (ht : Tl t) (hu : Tl u) (hd : 1 ≤ d) (hq : ∀ (N : Mt), St (fun i _ => t ≤ i ∧ i ≤ t + 4) M N → True → Q none N L) : Wp d 67 0 [.ref t, .ref u] [] M L Q := by
  refine (show ∀ N : Mt, N = M → St (fun i _ => t ≤ i ∧ i ≤ t + 4) M N → Wp d 67 0 [.ref t, .ref u] [] N L Q from ?_) M rfl (St.rf hI)
  intro N hNM hS
  refine w_load (.aload_n 0) 1 (by decide +kernel) rfl rfl ?_
  refine w_getR (k := 0) (r := t + 1) 4 (by decide +kernel) ht.1.1 rfl ?_
  refine w_load (.aload_n 1) 5 (by decide +kernel) rfl rfl ?_
  refine w_getR (k := 0) (r := u + 1) 8 (by decide +kernel) hu.1.1 rfl ?_
  refine w_callV1 8 1 2 11 (by decide +kernel) ht.1.2.1.1 (Nat.le_of_ble_eq_true rfl) rfl (by decide) (by omega) ?_
  refine k_8 hS.1 (tl_h ht) (tl_h hu) (by omega) (fun N hT hr1 => ?_)
  have hS := hS.tr hT (by intro i k; first | exact rfl | omega | (dsimp only; omega) | (simp only [Hs, Tl, Sc, isHs, isScr, isTs] at *; omega))
  dsimp only [Option.toList, List.nil_append]
  refine w_load (.aload_n 1) 12 (by decide +kernel) rfl rfl ?_
  refine w_getR (k := 1) (r := u + 4) 15 (by decide +kernel) hu.1.1 rfl ?_
  refine w_pushN 0 16 (by decide +kernel) ?_
  refine w_load (.aload_n 0) 17 (by decide +kernel) rfl rfl ?_
  refine w_getR (k := 1) (r := t + 4) 20 (by decide +kernel) ht.1.1 rfl ?_
  refine w_pushN 0 21 (by decide +kernel) ?_
  refine w_load (.aload_n 0) 22 (by decide +kernel) rfl rfl ?_
  refine w_getR (k := 1) (r := t + 4) 25 (by decide +kernel) ht.1.1 rfl ?_
  refine w_alen (nI 5) 26 (by decide +kernel) ht.1.2.2 (by decide) (by first | rfl | simp [nI]) ?_
  refine w_acpyW 29 (by decide +kernel) hu.1.2.2 ht.1.2.2 (by omega) (by omega) (by omega) (by omega) (Nat.le_of_ble_eq_true rfl) hS (fun z hz1 hz2 => Rg.free (by simp only [Hs, Tl, Sc, isScr, isHs, isTs] at *; omega)) (by intro z hz1 hz2; first | exact rfl | omega | (dsimp only; omega) | (simp only [Hs, Tl, Sc, isHs, isScr, isTs] at *; omega)) (fun N hS hc1 => ?_)
  refine w_load (.aload_n 0) 30 (by decide +kernel) rfl rfl ?_
  refine w_load (.aload_n 1) 31 (by decide +kernel) rfl rfl ?_
  refine w_getI (k := 2) 34 (by decide +kernel) hu.1.1 rfl ?_
  refine w_putW (k := 2) 37 (by decide +kernel) ht.1.1 rfl hS (Rg.free (by simp only [Hs, Tl, Sc, isScr, isHs, isTs] at *; omega)) (by first | exact rfl | omega | (dsimp only; omega) | (simp only [Hs, Tl, Sc, isHs, isScr, isTs] at *; omega)) (fun N hS hq3 oq3 => ?_)
  refine w_load (.aload_n 0) 38 (by decide +kernel) rfl rfl ?_
  refine w_load (.aload_n 1) 39 (by decide +kernel) rfl rfl ?_
  refine w_getI (k := 3) 42 (by decide +kernel) hu.1.1 rfl ?_
  refine w_putW (k := 3) 45 (by decide +kernel) ht.1.1 rfl hS (Rg.free (by simp only [Hs, Tl, Sc, isScr, isHs, isTs] at *; omega)) (by first | exact rfl | omega | (dsimp only; omega) | (simp only [Hs, Tl, Sc, isHs, isScr, isTs] at *; omega)) (fun N hS hq4 oq4 => ?_)
  exact w_retV (by decide +kernel) (hq N hS trivial)
-- X6_fine
set_option maxRecDepth 10000 in
theorem k_74 {d : Nat} {M : Mt} {L : Lt} {Q : Option Value → Mt → Lt → Prop} {t : Nat} {g : Int32} (hI : Inv M) (ht : Tl t) (hd : 2 ≤ d) (hq : ∀ (N : Mt), St (fun i _ => t ≤ i ∧ i ≤ t + 4) M N → True → Q none N L) : Wp d 74 0 [.ref t, .int g] [] M L Q := by
  refine (show ∀ N : Mt, N = M → St (fun i _ => t ≤ i ∧ i ≤ t + 4) M N → Wp d 74 0 [.ref t, .int g] [] N L Q from ?_) M rfl (St.rf hI)
  intro N hNM hS
  refine w_load (.aload_n 0) 1 (by decide +kernel) rfl rfl ?_
  refine w_getR (k := 0) (r := t + 1) 4 (by decide +kernel) ht.1.1 rfl ?_
  refine w_load (.iload_n 1) 5 (by decide +kernel) rfl rfl ?_
  refine w_callV1 27 1 2 8 (by decide +kernel) ht.1.2.1.1 (Nat.le_of_ble_eq_true rfl) rfl (by decide) (by omega) ?_
  refine k_27 hS.1 (tl_h ht) (by omega) (fun N hT hr1 => ?_)
  have hS := hS.tr hT (by intro i k; first | exact rfl | omega | (dsimp only; omega) | (simp only [Hs, Tl, Sc, isHs, isScr, isTs] at *; omega))
  dsimp only [Option.toList, List.nil_append]
  refine w_load (.aload_n 0) 9 (by decide +kernel) rfl rfl ?_
  refine w_pure .dup 10 (by decide +kernel) rfl rfl ?_
  refine w_getI (k := 3) 13 (by decide +kernel) ht.1.1 rfl ?_
  refine w_pushN 1 14 (by decide +kernel) ?_
  refine w_pure .iadd 15 (by decide +kernel) rfl rfl ?_
  refine w_putW (k := 3) 18 (by decide +kernel) ht.1.1 rfl hS (Rg.free (by simp only [Hs, Tl, Sc, isScr, isHs, isTs] at *; omega)) (by first | exact rfl | omega | (dsimp only; omega) | (simp only [Hs, Tl, Sc, isHs, isScr, isTs] at *; omega)) (fun N hS hq2 oq2 => ?_)
  exact w_retV (by decide +kernel) (hq N hS trivial)
-- X6_doersOf
set_option maxRecDepth 10000 in
theorem k_70 {d : Nat} {M : Mt} {L : Lt} {Q : Option Value → Mt → Lt → Prop} {t : Nat} {a : Int32} (hI : Inv M) (ht : Tl t) (hd : 1 ≤ d) (hq : ∀ (r : Int32), True → Q (some (.int r)) M L) : Wp d 70 0 [.ref t, .int a, .null, .null] [] M L Q := by
  refine w_load (.aload_n 0) 1 (by decide +kernel) rfl rfl ?_
  refine w_getR (k := 0) (r := t + 1) 4 (by decide +kernel) ht.1.1 rfl ?_
  refine w_load (.iload_n 1) 5 (by decide +kernel) rfl rfl ?_
  refine w_callS1 118 1 8 (by decide +kernel) (Nat.le_of_ble_eq_true rfl) rfl (by decide) (by omega) ?_
  refine k_118 hI  (by omega) (fun r1 hr1 => ?_)
  dsimp only [Option.toList, List.cons_append, List.nil_append]
  refine w_callV1 24 1 4 11 (by decide +kernel) ht.1.2.1.1 (Nat.le_of_ble_eq_true rfl) rfl (by decide) (by omega) ?_
  refine k_24 hI (tl_h ht) (by omega) (fun r2 hr2 => ?_)
  dsimp only [Option.toList, List.cons_append, List.nil_append]
  refine w_store (ls' := [.ref t, .int a, .int r2, .null]) (.istore_n 2) 12 (by decide +kernel) rfl rfl ?_
  refine w_pushN 0 13 (by decide +kernel) ?_
  refine w_store (ls' := [.ref t, .int a, .int r2, .int (nI 0)]) (.istore_n 3) 14 (by decide +kernel) rfl rfl ?_
  have LP_14 : ∀ (kk : Nat) (x2_14 : Int32) (g3 : Nat), g3 ≤ 5 → 5 - g3 < kk → Wp d 70 14 [.ref t, .int a, .int x2_14, .int (nI g3)] [] M L Q := by
    intro kk
    induction kk with
    | zero => intro x2_14 g3 hi0_14 hm_14; exact absurd hm_14 (Nat.not_lt_zero _)
    | succ kk ih_14 =>
      intro x2_14 g3 hi0_14 hm_14
      refine w_load (.iload_n 3) 15 (by decide +kernel) rfl rfl ?_
      refine w_load (.aload_n 0) 16 (by decide +kernel) rfl rfl ?_
      refine w_getR (k := 1) (r := t + 4) 19 (by decide +kernel) ht.1.1 rfl ?_
      refine w_alen (nI 5) 20 (by decide +kernel) ht.1.2.2 (by decide) (by first | rfl | simp [nI]) ?_
      refine w_cgeN 46 23 (by decide +kernel) (by omega) (by omega) (fun h3 => ?_) (fun h3 => ?_)
      · skip
        refine w_load (.iload_n 2) 47 (by decide +kernel) rfl rfl ?_
        exact w_ret (by decide +kernel) (hq _ trivial)
      · skip
        refine w_load (.aload_n 0) 24 (by decide +kernel) rfl rfl ?_
        refine w_getR (k := 1) (r := t + 4) 27 (by decide +kernel) ht.1.1 rfl ?_
        refine w_load (.iload_n 3) 28 (by decide +kernel) rfl rfl ?_
        refine w_ialdN 29 (by decide +kernel) ht.1.2.2 (by omega) (by omega) ?_
        refine w_igt 40 32 (by decide +kernel) (fun h4 => ?_) (fun h4 => ?_)
        · skip
          refine w_iincN (z := 3) (g3 + 1) 43 (by decide +kernel) rfl (Nat.le_of_ble_eq_true rfl) rfl rfl ?_
          show Wp _ _ _ [.ref t, .int a, .int x2_14, .int (nI (g3 + 1))] _ _ _ _
          refine w_goto 14 (by decide +kernel) ?_
          exact ih_14 _ (g3 + 1) (by omega) (by omega)
        · skip
          refine w_load (.iload_n 2) 33 (by decide +kernel) rfl rfl ?_
          refine w_pushN 1 34 (by decide +kernel) ?_
          refine w_load (.iload_n 3) 35 (by decide +kernel) rfl rfl ?_
          refine w_pure .ishl 36 (by decide +kernel) rfl rfl ?_
          refine w_push (-1) 37 (by decide +kernel) ?_
          refine w_pure .ixor 38 (by decide +kernel) rfl rfl ?_
          refine w_pure .iand 39 (by decide +kernel) rfl rfl ?_
          refine w_topi (fun v5 ev5 => ?_)
          refine w_store (ls' := [.ref t, .int a, .int v5, .int (nI g3)]) (.istore_n 2) 40 (by decide +kernel) rfl rfl ?_
          refine w_iincN (z := 3) (g3 + 1) 43 (by decide +kernel) rfl (Nat.le_of_ble_eq_true rfl) rfl rfl ?_
          show Wp _ _ _ [.ref t, .int a, .int v5, .int (nI (g3 + 1))] _ _ _ _
          refine w_goto 14 (by decide +kernel) ?_
          exact ih_14 _ (g3 + 1) (by omega) (by omega)
  exact LP_14 _ _ 0 (by omega) (Nat.lt_succ_self _)
-- X6_othersOf
set_option maxRecDepth 10000 in
theorem k_71 {d : Nat} {M : Mt} {L : Lt} {Q : Option Value → Mt → Lt → Prop} {t : Nat} {a : Int32} {b : Int32} (hI : Inv M) (ht : Tl t) (hd : 1 ≤ d) (hq : ∀ (r : Int32), True → Q (some (.int r)) M L) : Wp d 71 0 [.ref t, .int a, .int b] [] M L Q := by
  refine w_load (.aload_n 0) 1 (by decide +kernel) rfl rfl ?_
  refine w_getR (k := 0) (r := t + 1) 4 (by decide +kernel) ht.1.1 rfl ?_
  refine w_load (.iload_n 1) 5 (by decide +kernel) rfl rfl ?_
  refine w_callS1 119 1 8 (by decide +kernel) (Nat.le_of_ble_eq_true rfl) rfl (by decide) (by omega) ?_
  refine k_119 hI  (by omega) (fun r1 hr1 => ?_)
  dsimp only [Option.toList, List.cons_append, List.nil_append]
  refine w_callV1 24 1 4 11 (by decide +kernel) ht.1.2.1.1 (Nat.le_of_ble_eq_true rfl) rfl (by decide) (by omega) ?_
  refine k_24 hI (tl_h ht) (by omega) (fun r2 hr2 => ?_)
  dsimp only [Option.toList, List.cons_append, List.nil_append]
  refine w_pushN 1 12 (by decide +kernel) ?_
  refine w_load (.iload_n 2) 13 (by decide +kernel) rfl rfl ?_
  refine w_pure .ishl 14 (by decide +kernel) rfl rfl ?_
  refine w_push (-1) 15 (by decide +kernel) ?_
  refine w_pure .ixor 16 (by decide +kernel) rfl rfl ?_
  refine w_pure .iand 17 (by decide +kernel) rfl rfl ?_
  exact w_ret (by decide +kernel) (hq _ trivial)
-- X6_failWithoutDoer
set_option maxRecDepth 10000 in
theorem k_72 {d : Nat} {M : Mt} {L : Lt} {Q : Option Value → Mt → Lt → Prop} {t : Nat} {a : Int32} (hI : Inv M) (ht : Tl t) (hd : 3 ≤ d) (hq : ∀ (N : Mt), St (fun i _ => t ≤ i ∧ i ≤ t + 4) M N → True → Q none N L) : Wp d 72 0 [.ref t, .int a, .null] [] M L Q := by
  refine (show ∀ N : Mt, N = M → St (fun i _ => t ≤ i ∧ i ≤ t + 4) M N → Wp d 72 0 [.ref t, .int a, .null] [] N L Q from ?_) M rfl (St.rf hI)
  intro N hNM hS
  refine w_load (.aload_n 0) 1 (by decide +kernel) rfl rfl ?_
  refine w_getR (k := 0) (r := t + 1) 4 (by decide +kernel) ht.1.1 rfl ?_
  refine w_load (.iload_n 1) 5 (by decide +kernel) rfl rfl ?_
  refine w_callS1 118 1 8 (by decide +kernel) (Nat.le_of_ble_eq_true rfl) rfl (by decide) (by omega) ?_
  refine k_118 hS.1  (by omega) (fun r1 hr1 => ?_)
  dsimp only [Option.toList, List.cons_append, List.nil_append]
  refine w_callV1 24 1 4 11 (by decide +kernel) ht.1.2.1.1 (Nat.le_of_ble_eq_true rfl) rfl (by decide) (by omega) ?_
  refine k_24 hS.1 (tl_h ht) (by omega) (fun r2 hr2 => ?_)
  dsimp only [Option.toList, List.cons_append, List.nil_append]
  refine w_store (ls' := [.ref t, .int a, .int r2]) (.istore_n 2) 12 (by decide +kernel) rfl rfl ?_
  refine w_load (.iload_n 2) 13 (by decide +kernel) rfl rfl ?_
  refine w_ieq 24 16 (by decide +kernel) (fun h3 => ?_) (fun h3 => ?_)
  · skip
    exact w_retV (by decide +kernel) (hq N hS trivial)
  · skip
    refine w_load (.aload_n 0) 17 (by decide +kernel) rfl rfl ?_
    refine w_load (.iload_n 2) 18 (by decide +kernel) rfl rfl ?_
    refine w_callS1 116 2 21 (by decide +kernel) (Nat.le_of_ble_eq_true rfl) rfl (by decide) (by omega) ?_
    refine k_116 hS.1  (by omega) (fun r4 hr4 => ?_)
    dsimp only [Option.toList, List.cons_append, List.nil_append]
    refine w_callV1 74 6 2 24 (by decide +kernel) ht.1.1 (Nat.le_of_ble_eq_true rfl) rfl (by decide) (by omega) ?_
    refine k_74 hS.1 ht (by omega) (fun N hT hr5 => ?_)
    have hS := hS.tr hT (by intro i k; first | exact rfl | omega | (dsimp only; omega) | (simp only [Hs, Tl, Sc, isHs, isScr, isTs] at *; omega))
    dsimp only [Option.toList, List.nil_append]
    exact w_retV (by decide +kernel) (hq N hS trivial)
-- X6_attempt
set_option maxRecDepth 10000 in
theorem k_73 {d : Nat} {M : Mt} {L : Lt} {Q : Option Value → Mt → Lt → Prop} {t : Nat} {a : Int32} {b : Int32} {g : Int32} {o : Int32} (hI : Inv M) (ht : Tl t) (hd : 3 ≤ d) (hq : ∀ (N : Mt), St (fun i _ => t ≤ i ∧ i ≤ t + 4) M N → True → Q none N L) : Wp d 73 0 [.ref t, .int a, .int b, .int g, .int o, .null] [] M L Q := by
  refine (show ∀ N : Mt, N = M → St (fun i _ => t ≤ i ∧ i ≤ t + 4) M N → Wp d 73 0 [.ref t, .int a, .int b, .int g, .int o, .null] [] N L Q from ?_) M rfl (St.rf hI)
  intro N hNM hS
  refine w_pushN 1 1 (by decide +kernel) ?_
  refine w_store (ls' := [.ref t, .int a, .int b, .int g, .int o, .int (nI 1)]) (.istore 5) 3 (by decide +kernel) rfl rfl ?_
  refine w_load (.iload_n 1) 4 (by decide +kernel) rfl rfl ?_
  refine w_callS1 117 1 7 (by decide +kernel) (Nat.le_of_ble_eq_true rfl) rfl (by decide) (by omega) ?_
  refine k_117 hS.1  (by omega) (fun r1 hr1 => ?_)
  dsimp only [Option.toList, List.cons_append, List.nil_append]
  refine w_tab (show insAt 73 7 = some (.tableswitch 67 0 2 #[25, 37, 52]) by decide +kernel) (fun h2 => ⟨74, rfl, ?_⟩) (fun z3 h2 h2b => ?_)
  · skip
    refine w_load (.aload_n 0) 75 (by decide +kernel) rfl rfl ?_
    refine w_getR (k := 0) (r := t + 1) 78 (by decide +kernel) ht.1.1 rfl ?_
    refine w_load (.iload_n 3) 79 (by decide +kernel) rfl rfl ?_
    refine w_load (.iload_n 1) 80 (by decide +kernel) rfl rfl ?_
    refine w_callS1 119 1 83 (by decide +kernel) (Nat.le_of_ble_eq_true rfl) rfl (by decide) (by omega) ?_
    refine k_119 hS.1  (by omega) (fun r4 hr4 => ?_)
    dsimp only [Option.toList, List.cons_append, List.nil_append]
    refine w_callV2 26 1 3 86 (by decide +kernel) ht.1.2.1.1 (Nat.le_of_ble_eq_true rfl) rfl rfl (by decide) (by omega) ?_
    refine k_26 hS.1 (tl_h ht) (by omega) (fun N hT hr5 => ?_)
    have hS := hS.tr hT (by intro i k; first | exact rfl | omega | (dsimp only; omega) | (simp only [Hs, Tl, Sc, isHs, isScr, isTs] at *; omega))
    dsimp only [Option.toList, List.nil_append]
    refine w_load (.iload 5) 88 (by decide +kernel) rfl rfl ?_
    refine w_ieq 127 91 (by decide +kernel) (fun hz => absurd hz (by decide)) (fun _ => ?_)
    refine w_load (.aload_n 0) 92 (by decide +kernel) rfl rfl ?_
    refine w_getR (k := 0) (r := t + 1) 95 (by decide +kernel) ht.1.1 rfl ?_
    refine w_load (.iload_n 3) 96 (by decide +kernel) rfl rfl ?_
    refine w_callV1 11 1 2 99 (by decide +kernel) ht.1.2.1.1 (Nat.le_of_ble_eq_true rfl) rfl (by decide) (by omega) ?_
    refine k_11 hS.1 (tl_h ht) (by omega) (fun r7 hr7 => ?_)
    dsimp only [Option.toList, List.cons_append, List.nil_append]
    rcases hr7 with ⟨rfl, k8, hk8, rfl⟩ | rfl
    · skip
      refine w_ieq 127 102 (by decide +kernel) (fun hz => absurd hz (by decide)) (fun _ => ?_)
      refine w_load (.aload_n 0) 103 (by decide +kernel) rfl rfl ?_
      refine w_getR (k := 1) (r := t + 4) 106 (by decide +kernel) ht.1.1 rfl ?_
      refine w_load (.iload_n 3) 107 (by decide +kernel) rfl rfl ?_
      refine w_pure .dup2 108 (by decide +kernel) rfl rfl ?_
      refine w_ialdN 109 (by decide +kernel) ht.1.2.2 (by omega) (by omega) ?_
      refine w_pushN 1 110 (by decide +kernel) ?_
      refine w_pure .isub 111 (by decide +kernel) rfl rfl ?_
      refine w_iastW 112 (by decide +kernel) ht.1.2.2 (by omega) (by omega) hS (Rg.free (by simp only [Hs, Tl, Sc, isScr, isHs, isTs] at *; omega)) (by first | exact rfl | omega | (dsimp only; omega) | (simp only [Hs, Tl, Sc, isHs, isScr, isTs] at *; omega)) (fun N hS hq10 oq10 => ?_)
      refine w_load (.aload_n 0) 113 (by decide +kernel) rfl rfl ?_
      refine w_pure .dup 114 (by decide +kernel) rfl rfl ?_
      refine w_getI (k := 2) 117 (by decide +kernel) ht.1.1 rfl ?_
      refine w_pushN 1 118 (by decide +kernel) ?_
      refine w_load (.iload_n 2) 119 (by decide +kernel) rfl rfl ?_
      refine w_pure .ishl 120 (by decide +kernel) rfl rfl ?_
      refine w_pure .ior 121 (by decide +kernel) rfl rfl ?_
      refine w_putW (k := 2) 124 (by decide +kernel) ht.1.1 rfl hS (Rg.free (by simp only [Hs, Tl, Sc, isScr, isHs, isTs] at *; omega)) (by first | exact rfl | omega | (dsimp only; omega) | (simp only [Hs, Tl, Sc, isHs, isScr, isTs] at *; omega)) (fun N hS hq11 oq11 => ?_)
      refine w_goto 132 (by decide +kernel) ?_
      exact w_retV (by decide +kernel) (hq N hS trivial)
    · skip
      refine w_ieq 127 102 (by decide +kernel) (fun _ => ?_) (fun hz => absurd hz (by decide))
      refine w_load (.aload_n 0) 128 (by decide +kernel) rfl rfl ?_
      refine w_load (.iload_n 3) 129 (by decide +kernel) rfl rfl ?_
      refine w_callV1 74 6 2 132 (by decide +kernel) ht.1.1 (Nat.le_of_ble_eq_true rfl) rfl (by decide) (by omega) ?_
      refine k_74 hS.1 ht (by omega) (fun N hT hr13 => ?_)
      have hS := hS.tr hT (by intro i k; first | exact rfl | omega | (dsimp only; omega) | (simp only [Hs, Tl, Sc, isHs, isScr, isTs] at *; omega))
      dsimp only [Option.toList, List.nil_append]
      exact w_retV (by decide +kernel) (hq N hS trivial)
  · rcases (by omega : z3 = 0 ∨ z3 = 1 ∨ z3 = 2) with rfl | rfl | rfl
    · refine ⟨_, 32, rfl, rfl, ?_⟩
      refine w_load (.aload_n 0) 33 (by decide +kernel) rfl rfl ?_
      refine w_getR (k := 0) (r := t + 1) 36 (by decide +kernel) ht.1.1 rfl ?_
      refine w_load (.iload 4) 38 (by decide +kernel) rfl rfl ?_
      refine w_callV1 30 1 3 41 (by decide +kernel) ht.1.2.1.1 (Nat.le_of_ble_eq_true rfl) rfl (by decide) (by omega) ?_
      refine k_30 hS.1 (tl_h ht) (by omega) (fun N hT hr14 => ?_)
      have hS := hS.tr hT (by intro i k; first | exact rfl | omega | (dsimp only; omega) | (simp only [Hs, Tl, Sc, isHs, isScr, isTs] at *; omega))
      dsimp only [Option.toList, List.nil_append]
      refine w_goto 86 (by decide +kernel) ?_
      refine w_load (.iload 5) 88 (by decide +kernel) rfl rfl ?_
      refine w_ieq 127 91 (by decide +kernel) (fun hz => absurd hz (by decide)) (fun _ => ?_)
      refine w_load (.aload_n 0) 92 (by decide +kernel) rfl rfl ?_
      refine w_getR (k := 0) (r := t + 1) 95 (by decide +kernel) ht.1.1 rfl ?_
      refine w_load (.iload_n 3) 96 (by decide +kernel) rfl rfl ?_
      refine w_callV1 11 1 2 99 (by decide +kernel) ht.1.2.1.1 (Nat.le_of_ble_eq_true rfl) rfl (by decide) (by omega) ?_
      refine k_11 hS.1 (tl_h ht) (by omega) (fun r16 hr16 => ?_)
      dsimp only [Option.toList, List.cons_append, List.nil_append]
      rcases hr16 with ⟨rfl, k17, hk17, rfl⟩ | rfl
      · skip
        refine w_ieq 127 102 (by decide +kernel) (fun hz => absurd hz (by decide)) (fun _ => ?_)
        refine w_load (.aload_n 0) 103 (by decide +kernel) rfl rfl ?_
        refine w_getR (k := 1) (r := t + 4) 106 (by decide +kernel) ht.1.1 rfl ?_
        refine w_load (.iload_n 3) 107 (by decide +kernel) rfl rfl ?_
        refine w_pure .dup2 108 (by decide +kernel) rfl rfl ?_
        refine w_ialdN 109 (by decide +kernel) ht.1.2.2 (by omega) (by omega) ?_
        refine w_pushN 1 110 (by decide +kernel) ?_
        refine w_pure .isub 111 (by decide +kernel) rfl rfl ?_
        refine w_iastW 112 (by decide +kernel) ht.1.2.2 (by omega) (by omega) hS (Rg.free (by simp only [Hs, Tl, Sc, isScr, isHs, isTs] at *; omega)) (by first | exact rfl | omega | (dsimp only; omega) | (simp only [Hs, Tl, Sc, isHs, isScr, isTs] at *; omega)) (fun N hS hq19 oq19 => ?_)
        refine w_load (.aload_n 0) 113 (by decide +kernel) rfl rfl ?_
        refine w_pure .dup 114 (by decide +kernel) rfl rfl ?_
        refine w_getI (k := 2) 117 (by decide +kernel) ht.1.1 rfl ?_
        refine w_pushN 1 118 (by decide +kernel) ?_
        refine w_load (.iload_n 2) 119 (by decide +kernel) rfl rfl ?_
        refine w_pure .ishl 120 (by decide +kernel) rfl rfl ?_
        refine w_pure .ior 121 (by decide +kernel) rfl rfl ?_
        refine w_putW (k := 2) 124 (by decide +kernel) ht.1.1 rfl hS (Rg.free (by simp only [Hs, Tl, Sc, isScr, isHs, isTs] at *; omega)) (by first | exact rfl | omega | (dsimp only; omega) | (simp only [Hs, Tl, Sc, isHs, isScr, isTs] at *; omega)) (fun N hS hq20 oq20 => ?_)
        refine w_goto 132 (by decide +kernel) ?_
        exact w_retV (by decide +kernel) (hq N hS trivial)
      · skip
        refine w_ieq 127 102 (by decide +kernel) (fun _ => ?_) (fun hz => absurd hz (by decide))
        refine w_load (.aload_n 0) 128 (by decide +kernel) rfl rfl ?_
        refine w_load (.iload_n 3) 129 (by decide +kernel) rfl rfl ?_
        refine w_callV1 74 6 2 132 (by decide +kernel) ht.1.1 (Nat.le_of_ble_eq_true rfl) rfl (by decide) (by omega) ?_
        refine k_74 hS.1 ht (by omega) (fun N hT hr22 => ?_)
        have hS := hS.tr hT (by intro i k; first | exact rfl | omega | (dsimp only; omega) | (simp only [Hs, Tl, Sc, isHs, isScr, isTs] at *; omega))
        dsimp only [Option.toList, List.nil_append]
        exact w_retV (by decide +kernel) (hq N hS trivial)
    · refine ⟨_, 44, rfl, rfl, ?_⟩
      refine w_load (.aload_n 0) 45 (by decide +kernel) rfl rfl ?_
      refine w_getR (k := 0) (r := t + 1) 48 (by decide +kernel) ht.1.1 rfl ?_
      refine w_load (.iload_n 3) 49 (by decide +kernel) rfl rfl ?_
      refine w_load (.iload 4) 51 (by decide +kernel) rfl rfl ?_
      refine w_callV2 29 1 3 54 (by decide +kernel) ht.1.2.1.1 (Nat.le_of_ble_eq_true rfl) rfl rfl (by decide) (by omega) ?_
      refine k_29 hS.1 (tl_h ht) (by omega) (fun r23 N hT hr23 => ?_)
      have hS := hS.tr hT (by intro i k; first | exact rfl | omega | (dsimp only; omega) | (simp only [Hs, Tl, Sc, isHs, isScr, isTs] at *; omega))
      dsimp only [Option.toList, List.cons_append, List.nil_append]
      refine w_store (ls' := [.ref t, .int a, .int b, .int g, .int o, .int r23]) (.istore 5) 56 (by decide +kernel) rfl rfl ?_
      refine w_goto 86 (by decide +kernel) ?_
      refine w_load (.iload 5) 88 (by decide +kernel) rfl rfl ?_
      refine w_ieq 127 91 (by decide +kernel) (fun h24 => ?_) (fun h24 => ?_)
      · skip
        refine w_load (.aload_n 0) 128 (by decide +kernel) rfl rfl ?_
        refine w_load (.iload_n 3) 129 (by decide +kernel) rfl rfl ?_
        refine w_callV1 74 6 2 132 (by decide +kernel) ht.1.1 (Nat.le_of_ble_eq_true rfl) rfl (by decide) (by omega) ?_
        refine k_74 hS.1 ht (by omega) (fun N hT hr25 => ?_)
        have hS := hS.tr hT (by intro i k; first | exact rfl | omega | (dsimp only; omega) | (simp only [Hs, Tl, Sc, isHs, isScr, isTs] at *; omega))
        dsimp only [Option.toList, List.nil_append]
        exact w_retV (by decide +kernel) (hq N hS trivial)
      · skip
        refine w_load (.aload_n 0) 92 (by decide +kernel) rfl rfl ?_
        refine w_getR (k := 0) (r := t + 1) 95 (by decide +kernel) ht.1.1 rfl ?_
        refine w_load (.iload_n 3) 96 (by decide +kernel) rfl rfl ?_
        refine w_callV1 11 1 2 99 (by decide +kernel) ht.1.2.1.1 (Nat.le_of_ble_eq_true rfl) rfl (by decide) (by omega) ?_
        refine k_11 hS.1 (tl_h ht) (by omega) (fun r26 hr26 => ?_)
        dsimp only [Option.toList, List.cons_append, List.nil_append]
        rcases hr26 with ⟨rfl, k27, hk27, rfl⟩ | rfl
        · skip
          refine w_ieq 127 102 (by decide +kernel) (fun hz => absurd hz (by decide)) (fun _ => ?_)
          refine w_load (.aload_n 0) 103 (by decide +kernel) rfl rfl ?_
          refine w_getR (k := 1) (r := t + 4) 106 (by decide +kernel) ht.1.1 rfl ?_
          refine w_load (.iload_n 3) 107 (by decide +kernel) rfl rfl ?_
          refine w_pure .dup2 108 (by decide +kernel) rfl rfl ?_
          refine w_ialdN 109 (by decide +kernel) ht.1.2.2 (by omega) (by omega) ?_
          refine w_pushN 1 110 (by decide +kernel) ?_
          refine w_pure .isub 111 (by decide +kernel) rfl rfl ?_
          refine w_iastW 112 (by decide +kernel) ht.1.2.2 (by omega) (by omega) hS (Rg.free (by simp only [Hs, Tl, Sc, isScr, isHs, isTs] at *; omega)) (by first | exact rfl | omega | (dsimp only; omega) | (simp only [Hs, Tl, Sc, isHs, isScr, isTs] at *; omega)) (fun N hS hq29 oq29 => ?_)
          refine w_load (.aload_n 0) 113 (by decide +kernel) rfl rfl ?_
          refine w_pure .dup 114 (by decide +kernel) rfl rfl ?_
          refine w_getI (k := 2) 117 (by decide +kernel) ht.1.1 rfl ?_
          refine w_pushN 1 118 (by decide +kernel) ?_
          refine w_load (.iload_n 2) 119 (by decide +kernel) rfl rfl ?_
          refine w_pure .ishl 120 (by decide +kernel) rfl rfl ?_
          refine w_pure .ior 121 (by decide +kernel) rfl rfl ?_
          refine w_putW (k := 2) 124 (by decide +kernel) ht.1.1 rfl hS (Rg.free (by simp only [Hs, Tl, Sc, isScr, isHs, isTs] at *; omega)) (by first | exact rfl | omega | (dsimp only; omega) | (simp only [Hs, Tl, Sc, isHs, isScr, isTs] at *; omega)) (fun N hS hq30 oq30 => ?_)
          refine w_goto 132 (by decide +kernel) ?_
          exact w_retV (by decide +kernel) (hq N hS trivial)
        · skip
          refine w_ieq 127 102 (by decide +kernel) (fun _ => ?_) (fun hz => absurd hz (by decide))
          refine w_load (.aload_n 0) 128 (by decide +kernel) rfl rfl ?_
          refine w_load (.iload_n 3) 129 (by decide +kernel) rfl rfl ?_
          refine w_callV1 74 6 2 132 (by decide +kernel) ht.1.1 (Nat.le_of_ble_eq_true rfl) rfl (by decide) (by omega) ?_
          refine k_74 hS.1 ht (by omega) (fun N hT hr32 => ?_)
          have hS := hS.tr hT (by intro i k; first | exact rfl | omega | (dsimp only; omega) | (simp only [Hs, Tl, Sc, isHs, isScr, isTs] at *; omega))
          dsimp only [Option.toList, List.nil_append]
          exact w_retV (by decide +kernel) (hq N hS trivial)
    · refine ⟨_, 59, rfl, rfl, ?_⟩
      refine w_load (.aload_n 0) 60 (by decide +kernel) rfl rfl ?_
      refine w_getR (k := 0) (r := t + 1) 63 (by decide +kernel) ht.1.1 rfl ?_
      refine w_load (.iload_n 3) 64 (by decide +kernel) rfl rfl ?_
      refine w_load (.iload 4) 66 (by decide +kernel) rfl rfl ?_
      refine w_callV2 28 1 3 69 (by decide +kernel) ht.1.2.1.1 (Nat.le_of_ble_eq_true rfl) rfl rfl (by decide) (by omega) ?_
      refine k_28 hS.1 (tl_h ht) (by omega) (fun r33 N hT hr33 => ?_)
      have hS := hS.tr hT (by intro i k; first | exact rfl | omega | (dsimp only; omega) | (simp only [Hs, Tl, Sc, isHs, isScr, isTs] at *; omega))
      dsimp only [Option.toList, List.cons_append, List.nil_append]
      refine w_store (ls' := [.ref t, .int a, .int b, .int g, .int o, .int r33]) (.istore 5) 71 (by decide +kernel) rfl rfl ?_
      refine w_goto 86 (by decide +kernel) ?_
      refine w_load (.iload 5) 88 (by decide +kernel) rfl rfl ?_
      refine w_ieq 127 91 (by decide +kernel) (fun h34 => ?_) (fun h34 => ?_)
      · skip
        refine w_load (.aload_n 0) 128 (by decide +kernel) rfl rfl ?_
        refine w_load (.iload_n 3) 129 (by decide +kernel) rfl rfl ?_
        refine w_callV1 74 6 2 132 (by decide +kernel) ht.1.1 (Nat.le_of_ble_eq_true rfl) rfl (by decide) (by omega) ?_
        refine k_74 hS.1 ht (by omega) (fun N hT hr35 => ?_)
        have hS := hS.tr hT (by intro i k; first | exact rfl | omega | (dsimp only; omega) | (simp only [Hs, Tl, Sc, isHs, isScr, isTs] at *; omega))
        dsimp only [Option.toList, List.nil_append]
        exact w_retV (by decide +kernel) (hq N hS trivial)
      · skip
        refine w_load (.aload_n 0) 92 (by decide +kernel) rfl rfl ?_
        refine w_getR (k := 0) (r := t + 1) 95 (by decide +kernel) ht.1.1 rfl ?_
        refine w_load (.iload_n 3) 96 (by decide +kernel) rfl rfl ?_
        refine w_callV1 11 1 2 99 (by decide +kernel) ht.1.2.1.1 (Nat.le_of_ble_eq_true rfl) rfl (by decide) (by omega) ?_
        refine k_11 hS.1 (tl_h ht) (by omega) (fun r36 hr36 => ?_)
        dsimp only [Option.toList, List.cons_append, List.nil_append]
        rcases hr36 with ⟨rfl, k37, hk37, rfl⟩ | rfl
        · skip
          refine w_ieq 127 102 (by decide +kernel) (fun hz => absurd hz (by decide)) (fun _ => ?_)
          refine w_load (.aload_n 0) 103 (by decide +kernel) rfl rfl ?_
          refine w_getR (k := 1) (r := t + 4) 106 (by decide +kernel) ht.1.1 rfl ?_
          refine w_load (.iload_n 3) 107 (by decide +kernel) rfl rfl ?_
          refine w_pure .dup2 108 (by decide +kernel) rfl rfl ?_
          refine w_ialdN 109 (by decide +kernel) ht.1.2.2 (by omega) (by omega) ?_
          refine w_pushN 1 110 (by decide +kernel) ?_
          refine w_pure .isub 111 (by decide +kernel) rfl rfl ?_
          refine w_iastW 112 (by decide +kernel) ht.1.2.2 (by omega) (by omega) hS (Rg.free (by simp only [Hs, Tl, Sc, isScr, isHs, isTs] at *; omega)) (by first | exact rfl | omega | (dsimp only; omega) | (simp only [Hs, Tl, Sc, isHs, isScr, isTs] at *; omega)) (fun N hS hq39 oq39 => ?_)
          refine w_load (.aload_n 0) 113 (by decide +kernel) rfl rfl ?_
          refine w_pure .dup 114 (by decide +kernel) rfl rfl ?_
          refine w_getI (k := 2) 117 (by decide +kernel) ht.1.1 rfl ?_
          refine w_pushN 1 118 (by decide +kernel) ?_
          refine w_load (.iload_n 2) 119 (by decide +kernel) rfl rfl ?_
          refine w_pure .ishl 120 (by decide +kernel) rfl rfl ?_
          refine w_pure .ior 121 (by decide +kernel) rfl rfl ?_
          refine w_putW (k := 2) 124 (by decide +kernel) ht.1.1 rfl hS (Rg.free (by simp only [Hs, Tl, Sc, isScr, isHs, isTs] at *; omega)) (by first | exact rfl | omega | (dsimp only; omega) | (simp only [Hs, Tl, Sc, isHs, isScr, isTs] at *; omega)) (fun N hS hq40 oq40 => ?_)
          refine w_goto 132 (by decide +kernel) ?_
          exact w_retV (by decide +kernel) (hq N hS trivial)
        · skip
          refine w_ieq 127 102 (by decide +kernel) (fun _ => ?_) (fun hz => absurd hz (by decide))
          refine w_load (.aload_n 0) 128 (by decide +kernel) rfl rfl ?_
          refine w_load (.iload_n 3) 129 (by decide +kernel) rfl rfl ?_
          refine w_callV1 74 6 2 132 (by decide +kernel) ht.1.1 (Nat.le_of_ble_eq_true rfl) rfl (by decide) (by omega) ?_
          refine k_74 hS.1 ht (by omega) (fun N hT hr42 => ?_)
          have hS := hS.tr hT (by intro i k; first | exact rfl | omega | (dsimp only; omega) | (simp only [Hs, Tl, Sc, isHs, isScr, isTs] at *; omega))
          dsimp only [Option.toList, List.nil_append]
          exact w_retV (by decide +kernel) (hq N hS trivial)
-- X6_hear
set_option maxRecDepth 10000 in
theorem k_69 {d : Nat} {M : Mt} {L : Lt} {Q : Option Value → Mt → Lt → Prop} {t : Nat} {a : Int32} {b : Int32} (hI : Inv M) (ht : Tl t) (hd : 4 ≤ d) (hq : ∀ (N : Mt), St (fun i _ => t ≤ i ∧ i ≤ t + 4) M N → True → Q none N L) : Wp d 69 0 [.ref t, .int a, .int b, .null, .null, .null] [] M L Q := by
  refine (show ∀ N : Mt, N = M → St (fun i _ => t ≤ i ∧ i ≤ t + 4) M N → Wp d 69 0 [.ref t, .int a, .int b, .null, .null, .null] [] N L Q from ?_) M rfl (St.rf hI)
  intro N hNM hS
  refine w_load (.aload_n 0) 1 (by decide +kernel) rfl rfl ?_
  refine w_load (.iload_n 1) 2 (by decide +kernel) rfl rfl ?_
  refine w_callV1 70 6 4 5 (by decide +kernel) ht.1.1 (Nat.le_of_ble_eq_true rfl) rfl (by decide) (by omega) ?_
  refine k_70 hS.1 ht (by omega) (fun r1 hr1 => ?_)
  dsimp only [Option.toList, List.cons_append, List.nil_append]
  refine w_store (ls' := [.ref t, .int a, .int b, .int r1, .null, .null]) (.istore_n 3) 6 (by decide +kernel) rfl rfl ?_
  refine w_load (.iload_n 3) 7 (by decide +kernel) rfl rfl ?_
  refine w_ine 16 10 (by decide +kernel) (fun h2 => ?_) (fun h2 => ?_)
  · skip
    refine w_load (.iload_n 3) 17 (by decide +kernel) rfl rfl ?_
    refine w_callS1 116 2 20 (by decide +kernel) (Nat.le_of_ble_eq_true rfl) rfl (by decide) (by omega) ?_
    refine k_116 hS.1  (by omega) (fun r3 hr3 => ?_)
    dsimp only [Option.toList, List.cons_append, List.nil_append]
    refine w_store (ls' := [.ref t, .int a, .int b, .int r1, .int r3, .null]) (.istore 4) 22 (by decide +kernel) rfl rfl ?_
    refine w_load (.aload_n 0) 23 (by decide +kernel) rfl rfl ?_
    refine w_load (.iload_n 1) 24 (by decide +kernel) rfl rfl ?_
    refine w_load (.iload 4) 26 (by decide +kernel) rfl rfl ?_
    refine w_callV2 71 6 3 29 (by decide +kernel) ht.1.1 (Nat.le_of_ble_eq_true rfl) rfl rfl (by decide) (by omega) ?_
    refine k_71 hS.1 ht (by omega) (fun r4 hr4 => ?_)
    dsimp only [Option.toList, List.cons_append, List.nil_append]
    refine w_store (ls' := [.ref t, .int a, .int b, .int r1, .int r3, .int r4]) (.istore 5) 31 (by decide +kernel) rfl rfl ?_
    refine w_load (.iload 5) 33 (by decide +kernel) rfl rfl ?_
    refine w_ine 45 36 (by decide +kernel) (fun h5 => ?_) (fun h5 => ?_)
    · skip
      refine w_load (.aload_n 0) 46 (by decide +kernel) rfl rfl ?_
      refine w_load (.iload_n 1) 47 (by decide +kernel) rfl rfl ?_
      refine w_load (.iload_n 2) 48 (by decide +kernel) rfl rfl ?_
      refine w_load (.iload 4) 50 (by decide +kernel) rfl rfl ?_
      refine w_load (.iload 5) 52 (by decide +kernel) rfl rfl ?_
      refine w_callS1 116 2 55 (by decide +kernel) (Nat.le_of_ble_eq_true rfl) rfl (by decide) (by omega) ?_
      refine k_116 hS.1  (by omega) (fun r6 hr6 => ?_)
      dsimp only [Option.toList, List.cons_append, List.nil_append]
      refine w_callV4 73 6 6 58 (by decide +kernel) ht.1.1 (Nat.le_of_ble_eq_true rfl) rfl rfl rfl rfl (by decide) (by omega) ?_
      refine k_73 hS.1 ht (by omega) (fun N hT hr7 => ?_)
      have hS := hS.tr hT (by intro i k; first | exact rfl | omega | (dsimp only; omega) | (simp only [Hs, Tl, Sc, isHs, isScr, isTs] at *; omega))
      dsimp only [Option.toList, List.nil_append]
      exact w_retV (by decide +kernel) (hq N hS trivial)
    · skip
      refine w_load (.aload_n 0) 37 (by decide +kernel) rfl rfl ?_
      refine w_load (.iload 4) 39 (by decide +kernel) rfl rfl ?_
      refine w_callV1 74 6 2 42 (by decide +kernel) ht.1.1 (Nat.le_of_ble_eq_true rfl) rfl (by decide) (by omega) ?_
      refine k_74 hS.1 ht (by omega) (fun N hT hr8 => ?_)
      have hS := hS.tr hT (by intro i k; first | exact rfl | omega | (dsimp only; omega) | (simp only [Hs, Tl, Sc, isHs, isScr, isTs] at *; omega))
      dsimp only [Option.toList, List.nil_append]
      refine w_goto 58 (by decide +kernel) ?_
      exact w_retV (by decide +kernel) (hq N hS trivial)
  · skip
    refine w_load (.aload_n 0) 11 (by decide +kernel) rfl rfl ?_
    refine w_load (.iload_n 1) 12 (by decide +kernel) rfl rfl ?_
    refine w_callV1 72 6 3 15 (by decide +kernel) ht.1.1 (Nat.le_of_ble_eq_true rfl) rfl (by decide) (by omega) ?_
    refine k_72 hS.1 ht (by omega) (fun N hT hr9 => ?_)
    have hS := hS.tr hT (by intro i k; first | exact rfl | omega | (dsimp only; omega) | (simp only [Hs, Tl, Sc, isHs, isScr, isTs] at *; omega))
    dsimp only [Option.toList, List.nil_append]
    exact w_retV (by decide +kernel) (hq N hS trivial)
-- X6_hearAll
set_option maxRecDepth 10000 in
theorem k_68 {d : Nat} {M : Mt} {L : Lt} {Q : Option Value → Mt → Lt → Prop} {t : Nat} {h s : Nat}  (hI : Inv M) (ht : Tl t) (hh : Hs h) (hc : Sc s) (hd : 5 ≤ d) (hq : ∀ (N : Mt), St (fun i _ => t ≤ i ∧ i ≤ t + 4) M N → True → Q none N L) : Wp d 68 0 [.ref t, .ref h, .ref s, .null, .null] [] M L Q := by
  refine (show ∀ N : Mt, N = M → St (fun i _ => t ≤ i ∧ i ≤ t + 4) M N → Wp d 68 0 [.ref t, .ref h, .ref s, .null, .null] [] N L Q from ?_) M rfl (St.rf hI)
  intro N hNM hS
  refine w_load (.aload_n 0) 1 (by decide +kernel) rfl rfl ?_
  refine w_load (.aload_n 1) 2 (by decide +kernel) rfl rfl ?_
  refine w_callV1 66 6 3 5 (by decide +kernel) ht.1.1 (Nat.le_of_ble_eq_true rfl) rfl (by decide) (by omega) ?_
  refine k_66 hS.1 ht hh (by omega) (fun N hT hr1 => ?_)
  have hS := hS.tr hT (by intro i k; first | exact rfl | omega | (dsimp only; omega) | (simp only [Hs, Tl, Sc, isHs, isScr, isTs] at *; omega))
  dsimp only [Option.toList, List.nil_append]
  refine w_load (.aload_n 2) 6 (by decide +kernel) rfl rfl ?_
  refine w_callV0 43 2 1 9 (by decide +kernel) hc.1.1 (Nat.le_of_ble_eq_true rfl)  (by decide) (by omega) ?_
  refine k_43 hS.1 hc (by omega) (fun r2 hr2 => ?_)
  dsimp only [Option.toList, List.cons_append, List.nil_append]
  rcases hr2 with ⟨n3, hn3, rfl⟩
  · skip
    refine w_store (ls' := [.ref t, .ref h, .ref s, .int (nI n3), .null]) (.istore_n 3) 10 (by decide +kernel) rfl rfl ?_
    refine w_pushN 0 11 (by decide +kernel) ?_
    refine w_store (ls' := [.ref t, .ref h, .ref s, .int (nI n3), .int (nI 0)]) (.istore 4) 13 (by decide +kernel) rfl rfl ?_
    have LP_13 : ∀ (kk : Nat) (N : Mt) (g4 : Nat), St (fun i _ => t ≤ i ∧ i ≤ t + 4) M N → g4 ≤ 8 → 8 - g4 < kk → Wp d 68 13 [.ref t, .ref h, .ref s, .int (nI n3), .int (nI g4)] [] N L Q := by
      intro kk
      induction kk with
      | zero => intro N g4 hS hi0_13 hm_13; exact absurd hm_13 (Nat.not_lt_zero _)
      | succ kk ih_13 =>
        intro N g4 hS hi0_13 hm_13
        refine w_load (.iload 4) 15 (by decide +kernel) rfl rfl ?_
        refine w_load (.iload_n 3) 16 (by decide +kernel) rfl rfl ?_
        refine w_cgeN 37 19 (by decide +kernel) (by omega) (by omega) (fun h4 => ?_) (fun h4 => ?_)
        · skip
          exact w_retV (by decide +kernel) (hq N hS trivial)
        · skip
          refine w_load (.aload_n 0) 20 (by decide +kernel) rfl rfl ?_
          refine w_load (.aload_n 2) 21 (by decide +kernel) rfl rfl ?_
          refine w_load (.iload 4) 23 (by decide +kernel) rfl rfl ?_
          refine w_callV1 44 2 4 26 (by decide +kernel) hc.1.1 (Nat.le_of_ble_eq_true rfl) rfl (by decide) (by omega) ?_
          refine k_44 hS.1 hc (by omega) (fun r5 hr5 => ?_)
          dsimp only [Option.toList, List.cons_append, List.nil_append]
          refine w_load (.iload 4) 28 (by decide +kernel) rfl rfl ?_
          refine w_callV2 69 6 6 31 (by decide +kernel) ht.1.1 (Nat.le_of_ble_eq_true rfl) rfl rfl (by decide) (by omega) ?_
          refine k_69 hS.1 ht (by omega) (fun N hT hr6 => ?_)
          have hS := hS.tr hT (by intro i k; first | exact rfl | omega | (dsimp only; omega) | (simp only [Hs, Tl, Sc, isHs, isScr, isTs] at *; omega))
          dsimp only [Option.toList, List.nil_append]
          refine w_iincN (z := 4) (g4 + 1) 34 (by decide +kernel) rfl (Nat.le_of_ble_eq_true rfl) rfl rfl ?_
          show Wp _ _ _ [.ref t, .ref h, .ref s, .int (nI n3), .int (nI (g4 + 1))] _ _ _ _
          refine w_goto 13 (by decide +kernel) ?_
          exact ih_13 N (g4 + 1) hS (by omega) (by omega)
    exact LP_13 _ N 0 hS (by omega) (Nat.lt_succ_self _)
end
section
-- X3_isEnd
set_option maxRecDepth 10000 in
theorem k_53 {d : Nat} {M : Mt} {L : Lt} {Q : Option Value → Mt → Lt → Prop} {h : Nat} {g e v : Int32} (hI : Inv M) (hh : Hs h) (hd : 2 ≤ d) (hq : ∀ (r : Int32), (r = 0 ∨ r = 1) → Q (some (.int r)) M L) : Wp d 53 0 [.ref h, .int g, .int e, .int v] [] M L Q := by
  refine w_load (.iload_n 2) 1 (by decide +kernel) rfl rfl ?_
  refine w_tab (show insAt 53 1 = some (.tableswitch 71 0 2 #[27, 41, 56]) by decide +kernel) (fun h1 => ⟨72, rfl, ?_⟩) (fun z2 h1 h1b => ?_)
  · skip
    refine w_load (.aload_n 0) 73 (by decide +kernel) rfl rfl ?_
    refine w_load (.iload_n 1) 74 (by decide +kernel) rfl rfl ?_
    refine w_callV1 12 1 2 77 (by decide +kernel) hh.1.1 (Nat.le_of_ble_eq_true rfl) rfl (by decide) (by omega) ?_
    refine k_12 hI hh (by omega) (fun r3 hr3 => ?_)
    dsimp only [Option.toList, List.cons_append, List.nil_append]
    refine w_load (.iload_n 3) 78 (by decide +kernel) rfl rfl ?_
    refine w_cne 85 81 (by decide +kernel) (fun h4 => ?_) (fun h4 => ?_)
    · skip
      refine w_pushN 0 86 (by decide +kernel) ?_
      exact w_retZ (by decide +kernel) (Or.inl rfl) (hq _ (Or.inl rfl))
    · skip
      refine w_pushN 1 82 (by decide +kernel) ?_
      refine w_goto 86 (by decide +kernel) ?_
      exact w_retZ (by decide +kernel) (Or.inr rfl) (hq _ (Or.inr rfl))
  · rcases (by omega : z2 = 0 ∨ z2 = 1 ∨ z2 = 2) with rfl | rfl | rfl
    · refine ⟨_, 28, rfl, rfl, ?_⟩
      refine w_load (.aload_n 0) 29 (by decide +kernel) rfl rfl ?_
      refine w_load (.iload_n 1) 30 (by decide +kernel) rfl rfl ?_
      refine w_callV1 16 1 2 33 (by decide +kernel) hh.1.1 (Nat.le_of_ble_eq_true rfl) rfl (by decide) (by omega) ?_
      refine k_16 hI hh (by omega) (fun r5 hr5 => ?_)
      dsimp only [Option.toList, List.cons_append, List.nil_append]
      refine w_ine 40 36 (by decide +kernel) (fun h6 => ?_) (fun h6 => ?_)
      · skip
        refine w_pushN 0 41 (by decide +kernel) ?_
        exact w_retZ (by decide +kernel) (Or.inl rfl) (hq _ (Or.inl rfl))
      · skip
        refine w_pushN 1 37 (by decide +kernel) ?_
        refine w_goto 41 (by decide +kernel) ?_
        exact w_retZ (by decide +kernel) (Or.inr rfl) (hq _ (Or.inr rfl))
    · refine ⟨_, 42, rfl, rfl, ?_⟩
      refine w_load (.aload_n 0) 43 (by decide +kernel) rfl rfl ?_
      refine w_load (.iload_n 1) 44 (by decide +kernel) rfl rfl ?_
      refine w_callV1 14 1 2 47 (by decide +kernel) hh.1.1 (Nat.le_of_ble_eq_true rfl) rfl (by decide) (by omega) ?_
      refine k_14 hI hh (by omega) (fun r7 hr7 => ?_)
      dsimp only [Option.toList, List.cons_append, List.nil_append]
      refine w_load (.iload_n 3) 48 (by decide +kernel) rfl rfl ?_
      refine w_cne 55 51 (by decide +kernel) (fun h8 => ?_) (fun h8 => ?_)
      · skip
        refine w_pushN 0 56 (by decide +kernel) ?_
        exact w_retZ (by decide +kernel) (Or.inl rfl) (hq _ (Or.inl rfl))
      · skip
        refine w_pushN 1 52 (by decide +kernel) ?_
        refine w_goto 56 (by decide +kernel) ?_
        exact w_retZ (by decide +kernel) (Or.inr rfl) (hq _ (Or.inr rfl))
    · refine ⟨_, 57, rfl, rfl, ?_⟩
      refine w_load (.aload_n 0) 58 (by decide +kernel) rfl rfl ?_
      refine w_load (.iload_n 1) 59 (by decide +kernel) rfl rfl ?_
      refine w_callV1 13 1 2 62 (by decide +kernel) hh.1.1 (Nat.le_of_ble_eq_true rfl) rfl (by decide) (by omega) ?_
      refine k_13 hI hh (by omega) (fun r9 hr9 => ?_)
      dsimp only [Option.toList, List.cons_append, List.nil_append]
      refine w_load (.iload_n 3) 63 (by decide +kernel) rfl rfl ?_
      refine w_clt 70 66 (by decide +kernel) (fun h10 => ?_) (fun h10 => ?_)
      · skip
        refine w_pushN 0 71 (by decide +kernel) ?_
        exact w_retZ (by decide +kernel) (Or.inl rfl) (hq _ (Or.inl rfl))
      · skip
        refine w_pushN 1 67 (by decide +kernel) ?_
        refine w_goto 71 (by decide +kernel) ?_
        exact w_retZ (by decide +kernel) (Or.inr rfl) (hq _ (Or.inr rfl))
-- X3_lastDeedBehind
set_option maxRecDepth 10000 in
theorem k_52 {d : Nat} {M : Mt} {L : Lt} {Q : Option Value → Mt → Lt → Prop} {t e : Nat} {g v : Int32} (hI : Inv M) (ht : Tl t) (he : e ≤ 3) (hd : 5 ≤ d) (hq : ∀ (r : Int32) (N : Mt), St (fun i _ => 15 ≤ i ∧ i ≤ 30) M N → True → Q (some (.int r)) N L) : Wp d 52 0 [.ref 15, .ref t, .int g, .int (nI e), .int v, .null, .null] [] M L Q := by
  refine (show ∀ N : Mt, N = M → St (fun i _ => 15 ≤ i ∧ i ≤ 30) M N → Wp d 52 0 [.ref 15, .ref t, .int g, .int (nI e), .int v, .null, .null] [] N L Q from ?_) M rfl (St.rf hI)
  intro N hNM hS
  refine w_load (.iload_n 3) 1 (by decide +kernel) rfl rfl ?_
  refine w_pushN 16 3 (by decide +kernel) ?_
  refine w_mulN (e * 16) 4 (by decide +kernel) rfl ?_
  refine w_store (ls' := [.ref 15, .ref t, .int g, .int (nI e), .int v, .int (nI (e * 16)), .null]) (.istore 5) 6 (by decide +kernel) rfl rfl ?_
  refine w_load (.iload 5) 8 (by decide +kernel) rfl rfl ?_
  refine w_store (ls' := [.ref 15, .ref t, .int g, .int (nI e), .int v, .int (nI (e * 16)), .int (nI (e * 16))]) (.istore 6) 10 (by decide +kernel) rfl rfl ?_
  have LP_10 : ∀ (kk : Nat) (N : Mt) (g6 : Nat), St (fun i _ => 15 ≤ i ∧ i ≤ 30) M N → g6 ≤ e * 16 + 16 → e * 16 + 16 - g6 < kk → Wp d 52 10 [.ref 15, .ref t, .int g, .int (nI e), .int v, .int (nI (e * 16)), .int (nI g6)] [] N L Q := by
    intro kk
    induction kk with
    | zero => intro N g6 hS hi0_10 hm_10; exact absurd hm_10 (Nat.not_lt_zero _)
    | succ kk ih_10 =>
      intro N g6 hS hi0_10 hm_10
      refine w_load (.iload 6) 12 (by decide +kernel) rfl rfl ?_
      refine w_load (.iload 5) 14 (by decide +kernel) rfl rfl ?_
      refine w_pushN 16 16 (by decide +kernel) ?_
      refine w_addN (e * 16 + 16) 17 (by decide +kernel) (by omega) ?_
      refine w_cgeN 64 20 (by decide +kernel) (by omega) (by omega) (fun h1 => ?_) (fun h1 => ?_)
      · skip
        refine w_push (-9) 66 (by decide +kernel) ?_
        exact w_ret (by decide +kernel) (hq _ N hS trivial)
      · skip
        refine w_load (.aload_n 0) 21 (by decide +kernel) rfl rfl ?_
        refine w_getR (k := 2) (r := 26) 24 (by decide +kernel) sh_15 rfl ?_
        refine w_load (.aload_n 1) 25 (by decide +kernel) rfl rfl ?_
        refine w_callV1 67 6 2 28 (by decide +kernel) sh_26 (Nat.le_of_ble_eq_true rfl) rfl (by decide) (by omega) ?_
        refine k_67 hS.1 tl_26 ht (by omega) (fun N hT hr2 => ?_)
        have hS := hS.tr hT (by intro i k; first | exact rfl | omega | (dsimp only; omega) | (simp only [Hs, Tl, Sc, isHs, isScr, isTs] at *; omega))
        dsimp only [Option.toList, List.nil_append]
        refine w_load (.aload_n 0) 29 (by decide +kernel) rfl rfl ?_
        refine w_getR (k := 2) (r := 26) 32 (by decide +kernel) sh_15 rfl ?_
        refine w_load (.iload 6) 34 (by decide +kernel) rfl rfl ?_
        refine w_pushN 1 35 (by decide +kernel) ?_
        refine w_callV2 69 6 6 38 (by decide +kernel) sh_26 (Nat.le_of_ble_eq_true rfl) rfl rfl (by decide) (by omega) ?_
        refine k_69 hS.1 tl_26 (by omega) (fun N hT hr3 => ?_)
        have hS := hS.tr hT (by intro i k; first | exact rfl | omega | (dsimp only; omega) | (simp only [Hs, Tl, Sc, isHs, isScr, isTs] at *; omega))
        dsimp only [Option.toList, List.nil_append]
        refine w_load (.aload_n 0) 39 (by decide +kernel) rfl rfl ?_
        refine w_getR (k := 2) (r := 26) 42 (by decide +kernel) sh_15 rfl ?_
        refine w_getR (k := 0) (r := 27) 45 (by decide +kernel) sh_26 rfl ?_
        refine w_load (.iload_n 2) 46 (by decide +kernel) rfl rfl ?_
        refine w_load (.iload_n 3) 47 (by decide +kernel) rfl rfl ?_
        refine w_load (.iload 4) 49 (by decide +kernel) rfl rfl ?_
        refine w_callS4 53 4 52 (by decide +kernel) (Nat.le_of_ble_eq_true rfl) rfl rfl rfl rfl (by decide) (by omega) ?_
        refine k_53 hS.1 hs_27 (by omega) (fun r4 hr4 => ?_)
        dsimp only [Option.toList, List.cons_append, List.nil_append]
        refine w_ieq 58 55 (by decide +kernel) (fun h5 => ?_) (fun h5 => ?_)
        · skip
          refine w_iincN (z := 6) (g6 + 1) 61 (by decide +kernel) rfl (Nat.le_of_ble_eq_true rfl) rfl rfl ?_
          show Wp _ _ _ [.ref 15, .ref t, .int g, .int (nI e), .int v, .int (nI (e * 16)), .int (nI (g6 + 1))] _ _ _ _
          refine w_goto 10 (by decide +kernel) ?_
          exact ih_10 N (g6 + 1) hS (by omega) (by omega)
        · skip
          refine w_load (.iload 6) 57 (by decide +kernel) rfl rfl ?_
          exact w_ret (by decide +kernel) (hq _ N hS trivial)
  exact LP_10 _ N (e * 16) hS (by omega) (Nat.lt_succ_self _)
-- X3_seek
set_option maxRecDepth 10000 in
theorem k_51 {d : Nat} {M : Mt} {L : Lt} {Q : Option Value → Mt → Lt → Prop} {h e : Nat} {g v : Int32} (hI : Inv M) (hh : Hs h) (he : e ≤ 3) (hd : 6 ≤ d) (hq : ∀ (N : Mt), St (fun i _ => 15 ≤ i ∧ i ≤ 30) M N → True → Q none N L) : Wp d 51 0 [.ref 15, .ref h, .int g, .int (nI e), .int v, .null] [] M L Q := by
  refine (show ∀ N : Mt, N = M → St (fun i _ => 15 ≤ i ∧ i ≤ 30) M N → Wp d 51 0 [.ref 15, .ref h, .int g, .int (nI e), .int v, .null] [] N L Q from ?_) M rfl (St.rf hI)
  intro N hNM hS
  refine w_load (.aload_n 0) 1 (by decide +kernel) rfl rfl ?_
  refine w_getR (k := 0) (r := 16) 4 (by decide +kernel) sh_15 rfl ?_
  refine w_load (.aload_n 1) 5 (by decide +kernel) rfl rfl ?_
  refine w_callV1 66 6 3 8 (by decide +kernel) sh_16 (Nat.le_of_ble_eq_true rfl) rfl (by decide) (by omega) ?_
  refine k_66 hS.1 tl_16 hh (by omega) (fun N hT hr1 => ?_)
  have hS := hS.tr hT (by intro i k; first | exact rfl | omega | (dsimp only; omega) | (simp only [Hs, Tl, Sc, isHs, isScr, isTs] at *; omega))
  dsimp only [Option.toList, List.nil_append]
  refine w_load (.aload_n 1) 9 (by decide +kernel) rfl rfl ?_
  refine w_load (.iload_n 2) 10 (by decide +kernel) rfl rfl ?_
  refine w_load (.iload_n 3) 11 (by decide +kernel) rfl rfl ?_
  refine w_load (.iload 4) 13 (by decide +kernel) rfl rfl ?_
  refine w_callS4 53 4 16 (by decide +kernel) (Nat.le_of_ble_eq_true rfl) rfl rfl rfl rfl (by decide) (by omega) ?_
  refine k_53 hS.1 hh (by omega) (fun r2 hr2 => ?_)
  dsimp only [Option.toList, List.cons_append, List.nil_append]
  refine w_ieq 25 19 (by decide +kernel) (fun h3 => ?_) (fun h3 => ?_)
  · skip
    refine w_load (.aload_n 0) 26 (by decide +kernel) rfl rfl ?_
    refine w_load (.aload_n 0) 27 (by decide +kernel) rfl rfl ?_
    refine w_load (.aload_n 0) 28 (by decide +kernel) rfl rfl ?_
    refine w_getR (k := 0) (r := 16) 31 (by decide +kernel) sh_15 rfl ?_
    refine w_load (.iload_n 2) 32 (by decide +kernel) rfl rfl ?_
    refine w_load (.iload_n 3) 33 (by decide +kernel) rfl rfl ?_
    refine w_load (.iload 4) 35 (by decide +kernel) rfl rfl ?_
    refine w_callV4 52 3 7 38 (by decide +kernel) sh_15 (Nat.le_of_ble_eq_true rfl) rfl rfl rfl rfl (by decide) (by omega) ?_
    refine k_52 hS.1 tl_16 (by omega) (by omega) (fun r4 N hT hr4 => ?_)
    have hS := hS.tr hT (by intro i k; first | exact rfl | omega | (dsimp only; omega) | (simp only [Hs, Tl, Sc, isHs, isScr, isTs] at *; omega))
    dsimp only [Option.toList, List.cons_append, List.nil_append]
    refine w_putW (k := 4) 41 (by decide +kernel) sh_15 rfl hS (Rg.free (by simp only [Hs, Tl, Sc, isScr, isHs, isTs] at *; omega)) (by first | exact rfl | omega | (dsimp only; omega) | (simp only [Hs, Tl, Sc, isHs, isScr, isTs] at *; omega)) (fun N hS hq5 oq5 => ?_)
    refine w_load (.aload_n 0) 42 (by decide +kernel) rfl rfl ?_
    refine w_getI (k := 4) 45 (by decide +kernel) sh_15 rfl ?_
    refine w_push (-9) 47 (by decide +kernel) ?_
    refine w_ceq 56 50 (by decide +kernel) (fun h6 => ?_) (fun h6 => ?_)
    · skip
      refine w_pushN 0 57 (by decide +kernel) ?_
      refine w_store (ls' := [.ref 15, .ref h, .int g, .int (nI e), .int v, .int (nI 0)]) (.istore 5) 59 (by decide +kernel) rfl rfl ?_
      have LP_59 : ∀ (kk : Nat) (N : Mt) (g5 : Nat), St (fun i _ => 15 ≤ i ∧ i ≤ 30) M N → g5 ≤ 64 → 64 - g5 < kk → Wp d 51 59 [.ref 15, .ref h, .int g, .int (nI e), .int v, .int (nI g5)] [] N L Q := by
        intro kk
        induction kk with
        | zero => intro N g5 hS hi0_59 hm_59; exact absurd hm_59 (Nat.not_lt_zero _)
        | succ kk ih_59 =>
          intro N g5 hS hi0_59 hm_59
          refine w_load (.iload 5) 61 (by decide +kernel) rfl rfl ?_
          refine w_pushN 64 63 (by decide +kernel) ?_
          refine w_cgeN 130 66 (by decide +kernel) (by omega) (by omega) (fun h7 => ?_) (fun h7 => ?_)
          · skip
            refine w_load (.aload_n 0) 131 (by decide +kernel) rfl rfl ?_
            refine w_push (-9) 133 (by decide +kernel) ?_
            refine w_putW (k := 3) 136 (by decide +kernel) sh_15 rfl hS (Rg.free (by simp only [Hs, Tl, Sc, isScr, isHs, isTs] at *; omega)) (by first | exact rfl | omega | (dsimp only; omega) | (simp only [Hs, Tl, Sc, isHs, isScr, isTs] at *; omega)) (fun N hS hq8 oq8 => ?_)
            exact w_retV (by decide +kernel) (hq N hS trivial)
          · skip
            refine w_load (.aload_n 0) 67 (by decide +kernel) rfl rfl ?_
            refine w_getR (k := 1) (r := 21) 70 (by decide +kernel) sh_15 rfl ?_
            refine w_load (.aload_n 0) 71 (by decide +kernel) rfl rfl ?_
            refine w_getR (k := 0) (r := 16) 74 (by decide +kernel) sh_15 rfl ?_
            refine w_callV1 67 6 2 77 (by decide +kernel) sh_21 (Nat.le_of_ble_eq_true rfl) rfl (by decide) (by omega) ?_
            refine k_67 hS.1 tl_21 tl_16 (by omega) (fun N hT hr9 => ?_)
            have hS := hS.tr hT (by intro i k; first | exact rfl | omega | (dsimp only; omega) | (simp only [Hs, Tl, Sc, isHs, isScr, isTs] at *; omega))
            dsimp only [Option.toList, List.nil_append]
            refine w_load (.aload_n 0) 78 (by decide +kernel) rfl rfl ?_
            refine w_getR (k := 1) (r := 21) 81 (by decide +kernel) sh_15 rfl ?_
            refine w_load (.iload 5) 83 (by decide +kernel) rfl rfl ?_
            refine w_pushN 0 84 (by decide +kernel) ?_
            refine w_callV2 69 6 6 87 (by decide +kernel) sh_21 (Nat.le_of_ble_eq_true rfl) rfl rfl (by decide) (by omega) ?_
            refine k_69 hS.1 tl_21 (by omega) (fun N hT hr10 => ?_)
            have hS := hS.tr hT (by intro i k; first | exact rfl | omega | (dsimp only; omega) | (simp only [Hs, Tl, Sc, isHs, isScr, isTs] at *; omega))
            dsimp only [Option.toList, List.nil_append]
            refine w_load (.aload_n 0) 88 (by decide +kernel) rfl rfl ?_
            refine w_load (.aload_n 0) 89 (by decide +kernel) rfl rfl ?_
            refine w_load (.aload_n 0) 90 (by decide +kernel) rfl rfl ?_
            refine w_getR (k := 1) (r := 21) 93 (by decide +kernel) sh_15 rfl ?_
            refine w_load (.iload_n 2) 94 (by decide +kernel) rfl rfl ?_
            refine w_load (.iload_n 3) 95 (by decide +kernel) rfl rfl ?_
            refine w_load (.iload 4) 97 (by decide +kernel) rfl rfl ?_
            refine w_callV4 52 3 7 100 (by decide +kernel) sh_15 (Nat.le_of_ble_eq_true rfl) rfl rfl rfl rfl (by decide) (by omega) ?_
            refine k_52 hS.1 tl_21 (by omega) (by omega) (fun r11 N hT hr11 => ?_)
            have hS := hS.tr hT (by intro i k; first | exact rfl | omega | (dsimp only; omega) | (simp only [Hs, Tl, Sc, isHs, isScr, isTs] at *; omega))
            dsimp only [Option.toList, List.cons_append, List.nil_append]
            refine w_putW (k := 5) 103 (by decide +kernel) sh_15 rfl hS (Rg.free (by simp only [Hs, Tl, Sc, isScr, isHs, isTs] at *; omega)) (by first | exact rfl | omega | (dsimp only; omega) | (simp only [Hs, Tl, Sc, isHs, isScr, isTs] at *; omega)) (fun N hS hq12 oq12 => ?_)
            refine w_load (.aload_n 0) 104 (by decide +kernel) rfl rfl ?_
            refine w_getI (k := 5) 107 (by decide +kernel) sh_15 rfl ?_
            refine w_push (-9) 109 (by decide +kernel) ?_
            refine w_ceq 124 112 (by decide +kernel) (fun h13 => ?_) (fun h13 => ?_)
            · skip
              refine w_iincN (z := 5) (g5 + 1) 127 (by decide +kernel) rfl (Nat.le_of_ble_eq_true rfl) rfl rfl ?_
              show Wp _ _ _ [.ref 15, .ref h, .int g, .int (nI e), .int v, .int (nI (g5 + 1))] _ _ _ _
              refine w_goto 59 (by decide +kernel) ?_
              exact ih_59 N (g5 + 1) hS (by omega) (by omega)
            · skip
              refine w_load (.aload_n 0) 113 (by decide +kernel) rfl rfl ?_
              refine w_load (.iload 5) 115 (by decide +kernel) rfl rfl ?_
              refine w_putW (k := 4) 118 (by decide +kernel) sh_15 rfl hS (Rg.free (by simp only [Hs, Tl, Sc, isScr, isHs, isTs] at *; omega)) (by first | exact rfl | omega | (dsimp only; omega) | (simp only [Hs, Tl, Sc, isHs, isScr, isTs] at *; omega)) (fun N hS hq14 oq14 => ?_)
              refine w_load (.aload_n 0) 119 (by decide +kernel) rfl rfl ?_
              refine w_pushN 2 120 (by decide +kernel) ?_
              refine w_putW (k := 3) 123 (by decide +kernel) sh_15 rfl hS (Rg.free (by simp only [Hs, Tl, Sc, isScr, isHs, isTs] at *; omega)) (by first | exact rfl | omega | (dsimp only; omega) | (simp only [Hs, Tl, Sc, isHs, isScr, isTs] at *; omega)) (fun N hS hq15 oq15 => ?_)
              exact w_retV (by decide +kernel) (hq N hS trivial)
      exact LP_59 _ N 0 hS (by omega) (Nat.lt_succ_self _)
    · skip
      refine w_load (.aload_n 0) 51 (by decide +kernel) rfl rfl ?_
      refine w_pushN 1 52 (by decide +kernel) ?_
      refine w_putW (k := 3) 55 (by decide +kernel) sh_15 rfl hS (Rg.free (by simp only [Hs, Tl, Sc, isScr, isHs, isTs] at *; omega)) (by first | exact rfl | omega | (dsimp only; omega) | (simp only [Hs, Tl, Sc, isHs, isScr, isTs] at *; omega)) (fun N hS hq16 oq16 => ?_)
      exact w_retV (by decide +kernel) (hq N hS trivial)
  · skip
    refine w_load (.aload_n 0) 20 (by decide +kernel) rfl rfl ?_
    refine w_pushN 0 21 (by decide +kernel) ?_
    refine w_putW (k := 3) 24 (by decide +kernel) sh_15 rfl hS (Rg.free (by simp only [Hs, Tl, Sc, isScr, isHs, isTs] at *; omega)) (by first | exact rfl | omega | (dsimp only; omega) | (simp only [Hs, Tl, Sc, isHs, isScr, isTs] at *; omega)) (fun N hS hq17 oq17 => ?_)
    exact w_retV (by decide +kernel) (hq N hS trivial)
end
section
-- X0_isSettled
set_option maxRecDepth 10000 in
theorem k_3 {d : Nat} {M : Mt} {L : Lt} {Q : Option Value → Mt → Lt → Prop}  (hI : Inv M)  (hd : 1 ≤ d) (hq : ∀ (r : Int32), (r = 0 ∨ r = 1) → Q (some (.int r)) M L) : Wp d 3 0 [.ref 31] [] M L Q := by
  refine w_load (.aload_n 0) 1 (by decide +kernel) rfl rfl ?_
  refine w_getI (k := 1) 4 (by decide +kernel) sh_31 rfl ?_
  refine w_ieq 26 7 (by decide +kernel) (fun h1 => ?_) (fun h1 => ?_)
  · skip
    refine w_load (.aload_n 0) 27 (by decide +kernel) rfl rfl ?_
    refine w_getI (k := 2) 30 (by decide +kernel) sh_31 rfl ?_
    refine w_load (.aload_n 0) 31 (by decide +kernel) rfl rfl ?_
    refine w_getR (k := 0) (r := 32) 34 (by decide +kernel) sh_31 rfl ?_
    refine w_pushN 0 35 (by decide +kernel) ?_
    refine w_step5 36 (by decide +kernel) (by omega) ?_
    show Wp _ _ _ _ (.ref 33 :: _) _ _ _
    refine w_getR (k := 0) (r := 34) 39 (by decide +kernel) sh_33 rfl ?_
    refine w_callV0 18 1 1 42 (by decide +kernel) sh_34 (Nat.le_of_ble_eq_true rfl)  (by decide) (by omega) ?_
    refine k_18 hI hs_34 (by omega) (fun r2 hr2 => ?_)
    dsimp only [Option.toList, List.cons_append, List.nil_append]
    refine w_cne 49 45 (by decide +kernel) (fun h3 => ?_) (fun h3 => ?_)
    · skip
      refine w_pushN 0 50 (by decide +kernel) ?_
      exact w_retZ (by decide +kernel) (Or.inl rfl) (hq _ (Or.inl rfl))
    · skip
      refine w_pushN 1 46 (by decide +kernel) ?_
      refine w_goto 50 (by decide +kernel) ?_
      exact w_retZ (by decide +kernel) (Or.inr rfl) (hq _ (Or.inr rfl))
  · skip
    refine w_load (.aload_n 0) 8 (by decide +kernel) rfl rfl ?_
    refine w_getI (k := 3) 11 (by decide +kernel) sh_31 rfl ?_
    refine w_load (.aload_n 0) 12 (by decide +kernel) rfl rfl ?_
    refine w_getI (k := 4) 15 (by decide +kernel) sh_31 rfl ?_
    refine w_cne 22 18 (by decide +kernel) (fun h4 => ?_) (fun h4 => ?_)
    · skip
      refine w_pushN 0 23 (by decide +kernel) ?_
      refine w_goto 50 (by decide +kernel) ?_
      exact w_retZ (by decide +kernel) (Or.inl rfl) (hq _ (Or.inl rfl))
    · skip
      refine w_pushN 1 19 (by decide +kernel) ?_
      refine w_goto 50 (by decide +kernel) ?_
      exact w_retZ (by decide +kernel) (Or.inr rfl) (hq _ (Or.inr rfl))
-- X0_deedsToLastKilling
set_option maxRecDepth 10000 in
theorem k_2 {d : Nat} {M : Mt} {L : Lt} {Q : Option Value → Mt → Lt → Prop} {s : Nat} (hI : Inv M) (hc : Sc s) (hd : 4 ≤ d) (hq : ∀ (r : Int32), True → Q (some (.int r)) M L) : Wp d 2 0 [.ref s, .null, .null, .null] [] M L Q := by
  refine w_load (.aload_n 0) 1 (by decide +kernel) rfl rfl ?_
  refine w_callV0 43 2 1 4 (by decide +kernel) hc.1.1 (Nat.le_of_ble_eq_true rfl)  (by decide) (by omega) ?_
  refine k_43 hI hc (by omega) (fun r1 hr1 => ?_)
  dsimp only [Option.toList, List.cons_append, List.nil_append]
  rcases hr1 with ⟨n2, hn2, rfl⟩
  · skip
    refine w_pushN 4 5 (by decide +kernel) ?_
    refine w_minN (min 4 n2) 8 (by decide +kernel) (Nat.le_of_ble_eq_true rfl) (Nat.le_of_ble_eq_true rfl) (by omega) (by omega) rfl ?_
    refine w_store (ls' := [.ref s, .int (nI ((min 4 n2))), .null, .null]) (.istore_n 1) 9 (by decide +kernel) rfl rfl ?_
    refine w_pushN 0 10 (by decide +kernel) ?_
    refine w_store (ls' := [.ref s, .int (nI ((min 4 n2))), .int (nI 0), .null]) (.istore_n 2) 11 (by decide +kernel) rfl rfl ?_
    refine w_pushN 0 12 (by decide +kernel) ?_
    refine w_store (ls' := [.ref s, .int (nI ((min 4 n2))), .int (nI 0), .int (nI 0)]) (.istore_n 3) 13 (by decide +kernel) rfl rfl ?_
    have LP_13 : ∀ (kk : Nat) (x2_13 : Int32) (g3 : Nat), g3 ≤ 4 → 4 - g3 < kk → Wp d 2 13 [.ref s, .int (nI ((min 4 n2))), .int x2_13, .int (nI g3)] [] M L Q := by
      intro kk
      induction kk with
      | zero => intro x2_13 g3 hi0_13 hm_13; exact absurd hm_13 (Nat.not_lt_zero _)
      | succ kk ih_13 =>
        intro x2_13 g3 hi0_13 hm_13
        refine w_load (.iload_n 3) 14 (by decide +kernel) rfl rfl ?_
        refine w_load (.iload_n 1) 15 (by decide +kernel) rfl rfl ?_
        refine w_cgeN 39 18 (by decide +kernel) (by omega) (by omega) (fun h3 => ?_) (fun h3 => ?_)
        · skip
          refine w_load (.iload_n 2) 40 (by decide +kernel) rfl rfl ?_
          exact w_ret (by decide +kernel) (hq _ trivial)
        · skip
          refine w_load (.aload_n 0) 19 (by decide +kernel) rfl rfl ?_
          refine w_load (.iload_n 3) 20 (by decide +kernel) rfl rfl ?_
          refine w_callV1 44 2 4 23 (by decide +kernel) hc.1.1 (Nat.le_of_ble_eq_true rfl) rfl (by decide) (by omega) ?_
          refine k_44 hI hc (by omega) (fun r4 hr4 => ?_)
          dsimp only [Option.toList, List.cons_append, List.nil_append]
          refine w_callS1 117 1 26 (by decide +kernel) (Nat.le_of_ble_eq_true rfl) rfl (by decide) (by omega) ?_
          refine k_117 hI  (by omega) (fun r5 hr5 => ?_)
          dsimp only [Option.toList, List.cons_append, List.nil_append]
          refine w_ine 33 29 (by decide +kernel) (fun h6 => ?_) (fun h6 => ?_)
          · skip
            refine w_iincN (z := 3) (g3 + 1) 36 (by decide +kernel) rfl (Nat.le_of_ble_eq_true rfl) rfl rfl ?_
            show Wp _ _ _ [.ref s, .int (nI ((min 4 n2))), .int x2_13, .int (nI (g3 + 1))] _ _ _ _
            refine w_goto 13 (by decide +kernel) ?_
            exact ih_13 _ (g3 + 1) (by omega) (by omega)
          · skip
            refine w_load (.iload_n 3) 30 (by decide +kernel) rfl rfl ?_
            refine w_pushN 1 31 (by decide +kernel) ?_
            refine w_addN (g3 + 1) 32 (by decide +kernel) (by omega) ?_
            refine w_store (ls' := [.ref s, .int (nI ((min 4 n2))), .int (nI (g3 + 1)), .int (nI g3)]) (.istore_n 2) 33 (by decide +kernel) rfl rfl ?_
            refine w_iincN (z := 3) (g3 + 1) 36 (by decide +kernel) rfl (Nat.le_of_ble_eq_true rfl) rfl rfl ?_
            show Wp _ _ _ [.ref s, .int (nI ((min 4 n2))), .int (nI (g3 + 1)), .int (nI (g3 + 1))] _ _ _ _
            refine w_goto 13 (by decide +kernel) ?_
            exact ih_13 _ (g3 + 1) (by omega) (by omega)
    exact LP_13 _ _ 0 (by omega) (Nat.lt_succ_self _)
-- X0_followDoer
set_option maxRecDepth 10000 in
theorem k_5 {d : Nat} {M : Mt} {L : Lt} {Q : Option Value → Mt → Lt → Prop} {s k : Nat} {m g : Int32} (hI : Inv M) (hc : Sc s) (hk : k ≤ 3) (hrec : (∀ (d : Nat) (N0 : Mt) (L : Lt) (Q : Option Value → Mt → Lt → Prop), Inv N0 → 2 * (4 - (k + 1)) + 8 ≤ d → (∀ N : Mt, St (fun i _ => 31 ≤ i ∧ i ≤ 57) N0 N → True → Q none N L) → Wp d 4 0 [.ref 31, .ref s, .int m, .int (nI (k + 1)), .null, .null, .null] [] N0 L Q)) (hd : 2 * (4 - k) + 7 ≤ d) (hq : ∀ (N : Mt), St (fun i _ => 31 ≤ i ∧ i ≤ 57) M N → True → Q none N L) : Wp d 5 0 [.ref 31, .ref s, .int m, .int (nI k), .int g, .null, .null, .null, .null] [] M L Q := by
  refine (show ∀ N : Mt, N = M → St (fun i _ => 31 ≤ i ∧ i ≤ 57) M N → Wp d 5 0 [.ref 31, .ref s, .int m, .int (nI k), .int g, .null, .null, .null, .null] [] N L Q from ?_) M rfl (St.rf hI)
  intro N hNM hS
  refine w_load (.aload_n 1) 1 (by decide +kernel) rfl rfl ?_
  refine w_load (.iload_n 3) 2 (by decide +kernel) rfl rfl ?_
  refine w_callV1 44 2 4 5 (by decide +kernel) hc.1.1 (Nat.le_of_ble_eq_true rfl) rfl (by decide) (by omega) ?_
  refine k_44 hS.1 hc (by omega) (fun r1 hr1 => ?_)
  dsimp only [Option.toList, List.cons_append, List.nil_append]
  refine w_store (ls' := [.ref 31, .ref s, .int m, .int (nI k), .int g, .int r1, .null, .null, .null]) (.istore 5) 7 (by decide +kernel) rfl rfl ?_
  refine w_load (.aload_n 0) 8 (by decide +kernel) rfl rfl ?_
  refine w_getR (k := 0) (r := 32) 11 (by decide +kernel) sh_31 rfl ?_
  refine w_load (.iload_n 3) 12 (by decide +kernel) rfl rfl ?_
  refine w_pushN 1 13 (by decide +kernel) ?_
  refine w_addN (k + 1) 14 (by decide +kernel) (by omega) ?_
  refine w_step5 15 (by decide +kernel) (by omega) ?_
  refine w_store (ls' := [.ref 31, .ref s, .int m, .int (nI k), .int g, .int r1, .ref (33 + 5 * (k + 1)), .null, .null]) (.astore 6) 17 (by decide +kernel) rfl rfl ?_
  refine w_load (.aload_n 0) 18 (by decide +kernel) rfl rfl ?_
  refine w_getR (k := 0) (r := 32) 21 (by decide +kernel) sh_31 rfl ?_
  refine w_load (.iload_n 3) 22 (by decide +kernel) rfl rfl ?_
  refine w_step5 23 (by decide +kernel) (by omega) ?_
  refine w_load (.iload 5) 25 (by decide +kernel) rfl rfl ?_
  refine w_load (.iload 4) 27 (by decide +kernel) rfl rfl ?_
  refine w_callV2 71 6 3 30 (by decide +kernel) (tl_step k (by omega)).1.1 (Nat.le_of_ble_eq_true rfl) rfl rfl (by decide) (by omega) ?_
  refine k_71 hS.1 (tl_step k (by omega)) (by omega) (fun r2 hr2 => ?_)
  dsimp only [Option.toList, List.cons_append, List.nil_append]
  refine w_store (ls' := [.ref 31, .ref s, .int m, .int (nI k), .int g, .int r1, .ref (33 + 5 * (k + 1)), .int r2, .null]) (.istore 7) 32 (by decide +kernel) rfl rfl ?_
  refine w_load (.iload 7) 34 (by decide +kernel) rfl rfl ?_
  refine w_ine 64 37 (by decide +kernel) (fun h3 => ?_) (fun h3 => ?_)
  · skip
    refine w_pushN 0 65 (by decide +kernel) ?_
    refine w_store (ls' := [.ref 31, .ref s, .int m, .int (nI k), .int g, .int r1, .ref (33 + 5 * (k + 1)), .int r2, .int (nI 0)]) (.istore 8) 67 (by decide +kernel) rfl rfl ?_
    have LP_67 : ∀ (kk : Nat) (N : Mt) (g8 : Nat), St (fun i _ => 31 ≤ i ∧ i ≤ 57) M N → g8 ≤ 5 → 5 - g8 < kk → Wp d 5 67 [.ref 31, .ref s, .int m, .int (nI k), .int g, .int r1, .ref (33 + 5 * (k + 1)), .int r2, .int (nI g8)] [] N L Q := by
      intro kk
      induction kk with
      | zero => intro N g8 hS hi0_67 hm_67; exact absurd hm_67 (Nat.not_lt_zero _)
      | succ kk ih_67 =>
        intro N g8 hS hi0_67 hm_67
        refine w_load (.iload 8) 69 (by decide +kernel) rfl rfl ?_
        refine w_pushN 5 70 (by decide +kernel) ?_
        refine w_cgeN 128 73 (by decide +kernel) (by omega) (by omega) (fun h4 => ?_) (fun h4 => ?_)
        · skip
          exact w_retV (by decide +kernel) (hq N hS trivial)
        · skip
          refine w_load (.aload_n 0) 74 (by decide +kernel) rfl rfl ?_
          refine w_callV0 3 0 1 77 (by decide +kernel) sh_31 (Nat.le_of_ble_eq_true rfl)  (by decide) (by omega) ?_
          refine k_3 hS.1  (by omega) (fun r5 hr5 => ?_)
          dsimp only [Option.toList, List.cons_append, List.nil_append]
          refine w_ine 128 80 (by decide +kernel) (fun h6 => ?_) (fun h6 => ?_)
          · skip
            exact w_retV (by decide +kernel) (hq N hS trivial)
          · skip
            refine w_load (.iload 7) 82 (by decide +kernel) rfl rfl ?_
            refine w_load (.iload 8) 84 (by decide +kernel) rfl rfl ?_
            refine w_callS2 115 2 87 (by decide +kernel) (Nat.le_of_ble_eq_true rfl) rfl rfl (by decide) (by omega) ?_
            refine k_115 hS.1  (by omega) (fun r7 hr7 => ?_)
            dsimp only [Option.toList, List.cons_append, List.nil_append]
            refine w_ieq 122 90 (by decide +kernel) (fun h8 => ?_) (fun h8 => ?_)
            · skip
              refine w_iincN (z := 8) (g8 + 1) 125 (by decide +kernel) rfl (Nat.le_of_ble_eq_true rfl) rfl rfl ?_
              show Wp _ _ _ [.ref 31, .ref s, .int m, .int (nI k), .int g, .int r1, .ref (33 + 5 * (k + 1)), .int r2, .int (nI (g8 + 1))] _ _ _ _
              refine w_goto 67 (by decide +kernel) ?_
              exact ih_67 N (g8 + 1) hS (by omega) (by omega)
            · skip
              refine w_load (.aload 6) 92 (by decide +kernel) rfl rfl ?_
              refine w_load (.aload_n 0) 93 (by decide +kernel) rfl rfl ?_
              refine w_getR (k := 0) (r := 32) 96 (by decide +kernel) sh_31 rfl ?_
              refine w_load (.iload_n 3) 97 (by decide +kernel) rfl rfl ?_
              refine w_step5 98 (by decide +kernel) (by omega) ?_
              refine w_callV1 67 6 2 101 (by decide +kernel) (tl_step (k + 1) (by omega)).1.1 (Nat.le_of_ble_eq_true rfl) rfl (by decide) (by omega) ?_
              refine k_67 hS.1 (tl_step (k + 1) (by omega)) (tl_step k (by omega)) (by omega) (fun N hT hr9 => ?_)
              have hS := hS.tr hT (by intro i k; first | exact rfl | omega | (dsimp only; omega) | (simp only [Hs, Tl, Sc, isHs, isScr, isTs] at *; omega))
              dsimp only [Option.toList, List.nil_append]
              refine w_load (.aload 6) 103 (by decide +kernel) rfl rfl ?_
              refine w_load (.iload 5) 105 (by decide +kernel) rfl rfl ?_
              refine w_load (.iload_n 3) 106 (by decide +kernel) rfl rfl ?_
              refine w_load (.iload 4) 108 (by decide +kernel) rfl rfl ?_
              refine w_load (.iload 8) 110 (by decide +kernel) rfl rfl ?_
              refine w_callV4 73 6 6 113 (by decide +kernel) (tl_step (k + 1) (by omega)).1.1 (Nat.le_of_ble_eq_true rfl) rfl rfl rfl rfl (by decide) (by omega) ?_
              refine k_73 hS.1 (tl_step (k + 1) (by omega)) (by omega) (fun N hT hr10 => ?_)
              have hS := hS.tr hT (by intro i k; first | exact rfl | omega | (dsimp only; omega) | (simp only [Hs, Tl, Sc, isHs, isScr, isTs] at *; omega))
              dsimp only [Option.toList, List.nil_append]
              refine w_load (.aload_n 0) 114 (by decide +kernel) rfl rfl ?_
              refine w_load (.aload_n 1) 115 (by decide +kernel) rfl rfl ?_
              refine w_load (.iload_n 2) 116 (by decide +kernel) rfl rfl ?_
              refine w_load (.iload_n 3) 117 (by decide +kernel) rfl rfl ?_
              refine w_pushN 1 118 (by decide +kernel) ?_
              refine w_addN (k + 1) 119 (by decide +kernel) (by omega) ?_
              refine w_callV3 4 0 7 122 (by decide +kernel) sh_31 (Nat.le_of_ble_eq_true rfl) rfl rfl rfl (by decide) (by omega) ?_
              refine hrec _ _ _ _ hS.1 (by omega) (fun N hT hr11 => ?_)
              have hS := hS.tr hT (by intro i k; first | exact rfl | omega | (dsimp only; omega) | (simp only [Hs, Tl, Sc, isHs, isScr, isTs] at *; omega))
              dsimp only [Option.toList, List.nil_append]
              refine w_iincN (z := 8) (g8 + 1) 125 (by decide +kernel) rfl (Nat.le_of_ble_eq_true rfl) rfl rfl ?_
              show Wp _ _ _ [.ref 31, .ref s, .int m, .int (nI k), .int g, .int r1, .ref (33 + 5 * (k + 1)), .int r2, .int (nI (g8 + 1))] _ _ _ _
              refine w_goto 67 (by decide +kernel) ?_
              exact ih_67 N (g8 + 1) hS (by omega) (by omega)
    exact LP_67 _ N 0 hS (by omega) (Nat.lt_succ_self _)
  · skip
    refine w_load (.aload 6) 39 (by decide +kernel) rfl rfl ?_
    refine w_load (.aload_n 0) 40 (by decide +kernel) rfl rfl ?_
    refine w_getR (k := 0) (r := 32) 43 (by decide +kernel) sh_31 rfl ?_
    refine w_load (.iload_n 3) 44 (by decide +kernel) rfl rfl ?_
    refine w_step5 45 (by decide +kernel) (by omega) ?_
    refine w_callV1 67 6 2 48 (by decide +kernel) (tl_step (k + 1) (by omega)).1.1 (Nat.le_of_ble_eq_true rfl) rfl (by decide) (by omega) ?_
    refine k_67 hS.1 (tl_step (k + 1) (by omega)) (tl_step k (by omega)) (by omega) (fun N hT hr12 => ?_)
    have hS := hS.tr hT (by intro i k; first | exact rfl | omega | (dsimp only; omega) | (simp only [Hs, Tl, Sc, isHs, isScr, isTs] at *; omega))
    dsimp only [Option.toList, List.nil_append]
    refine w_load (.aload 6) 50 (by decide +kernel) rfl rfl ?_
    refine w_load (.iload 4) 52 (by decide +kernel) rfl rfl ?_
    refine w_callV1 74 6 2 55 (by decide +kernel) (tl_step (k + 1) (by omega)).1.1 (Nat.le_of_ble_eq_true rfl) rfl (by decide) (by omega) ?_
    refine k_74 hS.1 (tl_step (k + 1) (by omega)) (by omega) (fun N hT hr13 => ?_)
    have hS := hS.tr hT (by intro i k; first | exact rfl | omega | (dsimp only; omega) | (simp only [Hs, Tl, Sc, isHs, isScr, isTs] at *; omega))
    dsimp only [Option.toList, List.nil_append]
    refine w_load (.aload_n 0) 56 (by decide +kernel) rfl rfl ?_
    refine w_load (.aload_n 1) 57 (by decide +kernel) rfl rfl ?_
    refine w_load (.iload_n 2) 58 (by decide +kernel) rfl rfl ?_
    refine w_load (.iload_n 3) 59 (by decide +kernel) rfl rfl ?_
    refine w_pushN 1 60 (by decide +kernel) ?_
    refine w_addN (k + 1) 61 (by decide +kernel) (by omega) ?_
    refine w_callV3 4 0 7 64 (by decide +kernel) sh_31 (Nat.le_of_ble_eq_true rfl) rfl rfl rfl (by decide) (by omega) ?_
    refine hrec _ _ _ _ hS.1 (by omega) (fun N hT hr14 => ?_)
    have hS := hS.tr hT (by intro i k; first | exact rfl | omega | (dsimp only; omega) | (simp only [Hs, Tl, Sc, isHs, isScr, isTs] at *; omega))
    dsimp only [Option.toList, List.nil_append]
    refine w_pushN 0 65 (by decide +kernel) ?_
    refine w_store (ls' := [.ref 31, .ref s, .int m, .int (nI k), .int g, .int r1, .ref (33 + 5 * (k + 1)), .int r2, .int (nI 0)]) (.istore 8) 67 (by decide +kernel) rfl rfl ?_
    have LP_67 : ∀ (kk : Nat) (N : Mt) (g8 : Nat), St (fun i _ => 31 ≤ i ∧ i ≤ 57) M N → g8 ≤ 5 → 5 - g8 < kk → Wp d 5 67 [.ref 31, .ref s, .int m, .int (nI k), .int g, .int r1, .ref (33 + 5 * (k + 1)), .int r2, .int (nI g8)] [] N L Q := by
      intro kk
      induction kk with
      | zero => intro N g8 hS hi0_67 hm_67; exact absurd hm_67 (Nat.not_lt_zero _)
      | succ kk ih_67 =>
        intro N g8 hS hi0_67 hm_67
        refine w_load (.iload 8) 69 (by decide +kernel) rfl rfl ?_
        refine w_pushN 5 70 (by decide +kernel) ?_
        refine w_cgeN 128 73 (by decide +kernel) (by omega) (by omega) (fun h15 => ?_) (fun h15 => ?_)
        · skip
          exact w_retV (by decide +kernel) (hq N hS trivial)
        · skip
          refine w_load (.aload_n 0) 74 (by decide +kernel) rfl rfl ?_
          refine w_callV0 3 0 1 77 (by decide +kernel) sh_31 (Nat.le_of_ble_eq_true rfl)  (by decide) (by omega) ?_
          refine k_3 hS.1  (by omega) (fun r16 hr16 => ?_)
          dsimp only [Option.toList, List.cons_append, List.nil_append]
          refine w_ine 128 80 (by decide +kernel) (fun h17 => ?_) (fun h17 => ?_)
          · skip
            exact w_retV (by decide +kernel) (hq N hS trivial)
          · skip
            refine w_load (.iload 7) 82 (by decide +kernel) rfl rfl ?_
            refine w_load (.iload 8) 84 (by decide +kernel) rfl rfl ?_
            refine w_callS2 115 2 87 (by decide +kernel) (Nat.le_of_ble_eq_true rfl) rfl rfl (by decide) (by omega) ?_
            refine k_115 hS.1  (by omega) (fun r18 hr18 => ?_)
            dsimp only [Option.toList, List.cons_append, List.nil_append]
            refine w_ieq 122 90 (by decide +kernel) (fun h19 => ?_) (fun h19 => ?_)
            · skip
              refine w_iincN (z := 8) (g8 + 1) 125 (by decide +kernel) rfl (Nat.le_of_ble_eq_true rfl) rfl rfl ?_
              show Wp _ _ _ [.ref 31, .ref s, .int m, .int (nI k), .int g, .int r1, .ref (33 + 5 * (k + 1)), .int r2, .int (nI (g8 + 1))] _ _ _ _
              refine w_goto 67 (by decide +kernel) ?_
              exact ih_67 N (g8 + 1) hS (by omega) (by omega)
            · skip
              refine w_load (.aload 6) 92 (by decide +kernel) rfl rfl ?_
              refine w_load (.aload_n 0) 93 (by decide +kernel) rfl rfl ?_
              refine w_getR (k := 0) (r := 32) 96 (by decide +kernel) sh_31 rfl ?_
              refine w_load (.iload_n 3) 97 (by decide +kernel) rfl rfl ?_
              refine w_step5 98 (by decide +kernel) (by omega) ?_
              refine w_callV1 67 6 2 101 (by decide +kernel) (tl_step (k + 1) (by omega)).1.1 (Nat.le_of_ble_eq_true rfl) rfl (by decide) (by omega) ?_
              refine k_67 hS.1 (tl_step (k + 1) (by omega)) (tl_step k (by omega)) (by omega) (fun N hT hr20 => ?_)
              have hS := hS.tr hT (by intro i k; first | exact rfl | omega | (dsimp only; omega) | (simp only [Hs, Tl, Sc, isHs, isScr, isTs] at *; omega))
              dsimp only [Option.toList, List.nil_append]
              refine w_load (.aload 6) 103 (by decide +kernel) rfl rfl ?_
              refine w_load (.iload 5) 105 (by decide +kernel) rfl rfl ?_
              refine w_load (.iload_n 3) 106 (by decide +kernel) rfl rfl ?_
              refine w_load (.iload 4) 108 (by decide +kernel) rfl rfl ?_
              refine w_load (.iload 8) 110 (by decide +kernel) rfl rfl ?_
              refine w_callV4 73 6 6 113 (by decide +kernel) (tl_step (k + 1) (by omega)).1.1 (Nat.le_of_ble_eq_true rfl) rfl rfl rfl rfl (by decide) (by omega) ?_
              refine k_73 hS.1 (tl_step (k + 1) (by omega)) (by omega) (fun N hT hr21 => ?_)
              have hS := hS.tr hT (by intro i k; first | exact rfl | omega | (dsimp only; omega) | (simp only [Hs, Tl, Sc, isHs, isScr, isTs] at *; omega))
              dsimp only [Option.toList, List.nil_append]
              refine w_load (.aload_n 0) 114 (by decide +kernel) rfl rfl ?_
              refine w_load (.aload_n 1) 115 (by decide +kernel) rfl rfl ?_
              refine w_load (.iload_n 2) 116 (by decide +kernel) rfl rfl ?_
              refine w_load (.iload_n 3) 117 (by decide +kernel) rfl rfl ?_
              refine w_pushN 1 118 (by decide +kernel) ?_
              refine w_addN (k + 1) 119 (by decide +kernel) (by omega) ?_
              refine w_callV3 4 0 7 122 (by decide +kernel) sh_31 (Nat.le_of_ble_eq_true rfl) rfl rfl rfl (by decide) (by omega) ?_
              refine hrec _ _ _ _ hS.1 (by omega) (fun N hT hr22 => ?_)
              have hS := hS.tr hT (by intro i k; first | exact rfl | omega | (dsimp only; omega) | (simp only [Hs, Tl, Sc, isHs, isScr, isTs] at *; omega))
              dsimp only [Option.toList, List.nil_append]
              refine w_iincN (z := 8) (g8 + 1) 125 (by decide +kernel) rfl (Nat.le_of_ble_eq_true rfl) rfl rfl ?_
              show Wp _ _ _ [.ref 31, .ref s, .int m, .int (nI k), .int g, .int r1, .ref (33 + 5 * (k + 1)), .int r2, .int (nI (g8 + 1))] _ _ _ _
              refine w_goto 67 (by decide +kernel) ?_
              exact ih_67 N (g8 + 1) hS (by omega) (by omega)
    exact LP_67 _ N 0 hS (by omega) (Nat.lt_succ_self _)
-- X0_follow
set_option maxRecDepth 10000 in
theorem k_4 {d : Nat} {M : Mt} {L : Lt} {Q : Option Value → Mt → Lt → Prop} {s k : Nat} {m : Int32} (hI : Inv M) (hc : Sc s) (hk : k ≤ 4) (hrec : k ≤ 3 → (∀ (d : Nat) (N0 : Mt) (L : Lt) (Q : Option Value → Mt → Lt → Prop), Inv N0 → 2 * (4 - (k + 1)) + 8 ≤ d → (∀ N : Mt, St (fun i _ => 31 ≤ i ∧ i ≤ 57) N0 N → True → Q none N L) → Wp d 4 0 [.ref 31, .ref s, .int m, .int (nI (k + 1)), .null, .null, .null] [] N0 L Q)) (hd : 2 * (4 - k) + 8 ≤ d) (hq : ∀ (N : Mt), St (fun i _ => 31 ≤ i ∧ i ≤ 57) M N → True → Q none N L) : Wp d 4 0 [.ref 31, .ref s, .int m, .int (nI k), .null, .null, .null] [] M L Q := by
  refine (show ∀ N : Mt, N = M → St (fun i _ => 31 ≤ i ∧ i ≤ 57) M N → Wp d 4 0 [.ref 31, .ref s, .int m, .int (nI k), .null, .null, .null] [] N L Q from ?_) M rfl (St.rf hI)
  intro N hNM hS
  refine w_load (.iload_n 3) 1 (by decide +kernel) rfl rfl ?_
  refine w_load (.iload_n 2) 2 (by decide +kernel) rfl rfl ?_
  refine w_cge 16 5 (by decide +kernel) (fun h1 => ?_) (fun h1 => ?_)
  · skip
    refine w_load (.aload_n 0) 17 (by decide +kernel) rfl rfl ?_
    refine w_pure .dup 18 (by decide +kernel) rfl rfl ?_
    refine w_getI (k := 2) 21 (by decide +kernel) sh_31 rfl ?_
    refine w_load (.aload_n 0) 22 (by decide +kernel) rfl rfl ?_
    refine w_getR (k := 0) (r := 32) 25 (by decide +kernel) sh_31 rfl ?_
    refine w_load (.iload_n 3) 26 (by decide +kernel) rfl rfl ?_
    refine w_step5 27 (by decide +kernel) (by omega) ?_
    refine w_getR (k := 0) (r := 33 + 5 * k + 1) 30 (by decide +kernel) (tl_step k (by omega)).1.1 rfl ?_
    refine w_callV0 20 1 1 33 (by decide +kernel) (tl_step k (by omega)).1.2.1.1 (Nat.le_of_ble_eq_true rfl)  (by decide) (by omega) ?_
    refine k_20 hS.1 (tl_h (tl_step k (by omega))) (by omega) (fun r2 hr2 => ?_)
    dsimp only [Option.toList, List.cons_append, List.nil_append]
    refine w_pure .ior 34 (by decide +kernel) rfl rfl ?_
    refine w_putW (k := 2) 37 (by decide +kernel) sh_31 rfl hS (Rg.free (by simp only [Hs, Tl, Sc, isScr, isHs, isTs] at *; omega)) (by first | exact rfl | omega | (dsimp only; omega) | (simp only [Hs, Tl, Sc, isHs, isScr, isTs] at *; omega)) (fun N hS hq3 oq3 => ?_)
    refine w_load (.aload_n 0) 38 (by decide +kernel) rfl rfl ?_
    refine w_pure .dup 39 (by decide +kernel) rfl rfl ?_
    refine w_getI (k := 3) 42 (by decide +kernel) sh_31 rfl ?_
    refine w_load (.aload_n 0) 43 (by decide +kernel) rfl rfl ?_
    refine w_getR (k := 0) (r := 32) 46 (by decide +kernel) sh_31 rfl ?_
    refine w_load (.iload_n 3) 47 (by decide +kernel) rfl rfl ?_
    refine w_step5 48 (by decide +kernel) (by omega) ?_
    refine w_getR (k := 0) (r := 33 + 5 * k + 1) 51 (by decide +kernel) (tl_step k (by omega)).1.1 rfl ?_
    refine w_callV0 20 1 1 54 (by decide +kernel) (tl_step k (by omega)).1.2.1.1 (Nat.le_of_ble_eq_true rfl)  (by decide) (by omega) ?_
    refine k_20 hS.1 (tl_h (tl_step k (by omega))) (by omega) (fun r4 hr4 => ?_)
    dsimp only [Option.toList, List.cons_append, List.nil_append]
    refine w_pure .iand 55 (by decide +kernel) rfl rfl ?_
    refine w_putW (k := 3) 58 (by decide +kernel) sh_31 rfl hS (Rg.free (by simp only [Hs, Tl, Sc, isScr, isHs, isTs] at *; omega)) (by first | exact rfl | omega | (dsimp only; omega) | (simp only [Hs, Tl, Sc, isHs, isScr, isTs] at *; omega)) (fun N hS hq5 oq5 => ?_)
    exact w_retV (by decide +kernel) (hq N hS trivial)
  · skip
    refine w_load (.iload_n 3) 6 (by decide +kernel) rfl rfl ?_
    refine w_pushN 1 7 (by decide +kernel) ?_
    refine w_addN (k + 1) 8 (by decide +kernel) (by omega) ?_
    refine w_load (.aload_n 0) 9 (by decide +kernel) rfl rfl ?_
    refine w_getR (k := 0) (r := 32) 12 (by decide +kernel) sh_31 rfl ?_
    refine w_alen (nI 5) 13 (by decide +kernel) sh_32 (by decide) (by first | rfl | simp [nI]) ?_
    refine w_cltN 59 16 (by decide +kernel) (by omega) (by omega) (fun h6 => ?_) (fun h6 => ?_)
    · skip
      refine w_load (.aload_n 1) 60 (by decide +kernel) rfl rfl ?_
      refine w_load (.iload_n 3) 61 (by decide +kernel) rfl rfl ?_
      refine w_callV1 44 2 4 64 (by decide +kernel) hc.1.1 (Nat.le_of_ble_eq_true rfl) rfl (by decide) (by omega) ?_
      refine k_44 hS.1 hc (by omega) (fun r7 hr7 => ?_)
      dsimp only [Option.toList, List.cons_append, List.nil_append]
      refine w_store (ls' := [.ref 31, .ref s, .int m, .int (nI k), .int r7, .null, .null]) (.istore 4) 66 (by decide +kernel) rfl rfl ?_
      refine w_load (.aload_n 0) 67 (by decide +kernel) rfl rfl ?_
      refine w_getR (k := 0) (r := 32) 70 (by decide +kernel) sh_31 rfl ?_
      refine w_load (.iload_n 3) 71 (by decide +kernel) rfl rfl ?_
      refine w_step5 72 (by decide +kernel) (by omega) ?_
      refine w_load (.iload 4) 74 (by decide +kernel) rfl rfl ?_
      refine w_callV1 70 6 4 77 (by decide +kernel) (tl_step k (by omega)).1.1 (Nat.le_of_ble_eq_true rfl) rfl (by decide) (by omega) ?_
      refine k_70 hS.1 (tl_step k (by omega)) (by omega) (fun r8 hr8 => ?_)
      dsimp only [Option.toList, List.cons_append, List.nil_append]
      refine w_store (ls' := [.ref 31, .ref s, .int m, .int (nI k), .int r7, .int r8, .null]) (.istore 5) 79 (by decide +kernel) rfl rfl ?_
      refine w_load (.iload 5) 81 (by decide +kernel) rfl rfl ?_
      refine w_ine 123 84 (by decide +kernel) (fun h9 => ?_) (fun h9 => ?_)
      · skip
        refine w_pushN 0 124 (by decide +kernel) ?_
        refine w_store (ls' := [.ref 31, .ref s, .int m, .int (nI k), .int r7, .int r8, .int (nI 0)]) (.istore 6) 126 (by decide +kernel) rfl rfl ?_
        have LP_126 : ∀ (kk : Nat) (N : Mt) (g6 : Nat), St (fun i _ => 31 ≤ i ∧ i ≤ 57) M N → g6 ≤ 5 → 5 - g6 < kk → Wp d 4 126 [.ref 31, .ref s, .int m, .int (nI k), .int r7, .int r8, .int (nI g6)] [] N L Q := by
          intro kk
          induction kk with
          | zero => intro N g6 hS hi0_126 hm_126; exact absurd hm_126 (Nat.not_lt_zero _)
          | succ kk ih_126 =>
            intro N g6 hS hi0_126 hm_126
            refine w_load (.iload 6) 128 (by decide +kernel) rfl rfl ?_
            refine w_pushN 5 129 (by decide +kernel) ?_
            refine w_cgeN 164 132 (by decide +kernel) (by omega) (by omega) (fun h10 => ?_) (fun h10 => ?_)
            · skip
              exact w_retV (by decide +kernel) (hq N hS trivial)
            · skip
              refine w_load (.aload_n 0) 133 (by decide +kernel) rfl rfl ?_
              refine w_callV0 3 0 1 136 (by decide +kernel) sh_31 (Nat.le_of_ble_eq_true rfl)  (by decide) (by omega) ?_
              refine k_3 hS.1  (by omega) (fun r11 hr11 => ?_)
              dsimp only [Option.toList, List.cons_append, List.nil_append]
              refine w_ine 164 139 (by decide +kernel) (fun h12 => ?_) (fun h12 => ?_)
              · skip
                exact w_retV (by decide +kernel) (hq N hS trivial)
              · skip
                refine w_load (.iload 5) 141 (by decide +kernel) rfl rfl ?_
                refine w_load (.iload 6) 143 (by decide +kernel) rfl rfl ?_
                refine w_callS2 115 2 146 (by decide +kernel) (Nat.le_of_ble_eq_true rfl) rfl rfl (by decide) (by omega) ?_
                refine k_115 hS.1  (by omega) (fun r13 hr13 => ?_)
                dsimp only [Option.toList, List.cons_append, List.nil_append]
                refine w_ieq 158 149 (by decide +kernel) (fun h14 => ?_) (fun h14 => ?_)
                · skip
                  refine w_iincN (z := 6) (g6 + 1) 161 (by decide +kernel) rfl (Nat.le_of_ble_eq_true rfl) rfl rfl ?_
                  show Wp _ _ _ [.ref 31, .ref s, .int m, .int (nI k), .int r7, .int r8, .int (nI (g6 + 1))] _ _ _ _
                  refine w_goto 126 (by decide +kernel) ?_
                  exact ih_126 N (g6 + 1) hS (by omega) (by omega)
                · skip
                  refine w_load (.aload_n 0) 150 (by decide +kernel) rfl rfl ?_
                  refine w_load (.aload_n 1) 151 (by decide +kernel) rfl rfl ?_
                  refine w_load (.iload_n 2) 152 (by decide +kernel) rfl rfl ?_
                  refine w_load (.iload_n 3) 153 (by decide +kernel) rfl rfl ?_
                  refine w_load (.iload 6) 155 (by decide +kernel) rfl rfl ?_
                  refine w_callV4 5 0 9 158 (by decide +kernel) sh_31 (Nat.le_of_ble_eq_true rfl) rfl rfl rfl rfl (by decide) (by omega) ?_
                  refine k_5 hS.1 hc (by omega) (hrec (by omega)) (by omega) (fun N hT hr15 => ?_)
                  have hS := hS.tr hT (by intro i k; first | exact rfl | omega | (dsimp only; omega) | (simp only [Hs, Tl, Sc, isHs, isScr, isTs] at *; omega))
                  dsimp only [Option.toList, List.nil_append]
                  refine w_iincN (z := 6) (g6 + 1) 161 (by decide +kernel) rfl (Nat.le_of_ble_eq_true rfl) rfl rfl ?_
                  show Wp _ _ _ [.ref 31, .ref s, .int m, .int (nI k), .int r7, .int r8, .int (nI (g6 + 1))] _ _ _ _
                  refine w_goto 126 (by decide +kernel) ?_
                  exact ih_126 N (g6 + 1) hS (by omega) (by omega)
        exact LP_126 _ N 0 hS (by omega) (Nat.lt_succ_self _)
      · skip
        refine w_load (.aload_n 0) 85 (by decide +kernel) rfl rfl ?_
        refine w_getR (k := 0) (r := 32) 88 (by decide +kernel) sh_31 rfl ?_
        refine w_load (.iload_n 3) 89 (by decide +kernel) rfl rfl ?_
        refine w_pushN 1 90 (by decide +kernel) ?_
        refine w_addN (k + 1) 91 (by decide +kernel) (by omega) ?_
        refine w_step5 92 (by decide +kernel) (by omega) ?_
        refine w_load (.aload_n 0) 93 (by decide +kernel) rfl rfl ?_
        refine w_getR (k := 0) (r := 32) 96 (by decide +kernel) sh_31 rfl ?_
        refine w_load (.iload_n 3) 97 (by decide +kernel) rfl rfl ?_
        refine w_step5 98 (by decide +kernel) (by omega) ?_
        refine w_callV1 67 6 2 101 (by decide +kernel) (tl_step (k + 1) (by omega)).1.1 (Nat.le_of_ble_eq_true rfl) rfl (by decide) (by omega) ?_
        refine k_67 hS.1 (tl_step (k + 1) (by omega)) (tl_step k (by omega)) (by omega) (fun N hT hr16 => ?_)
        have hS := hS.tr hT (by intro i k; first | exact rfl | omega | (dsimp only; omega) | (simp only [Hs, Tl, Sc, isHs, isScr, isTs] at *; omega))
        dsimp only [Option.toList, List.nil_append]
        refine w_load (.aload_n 0) 102 (by decide +kernel) rfl rfl ?_
        refine w_getR (k := 0) (r := 32) 105 (by decide +kernel) sh_31 rfl ?_
        refine w_load (.iload_n 3) 106 (by decide +kernel) rfl rfl ?_
        refine w_pushN 1 107 (by decide +kernel) ?_
        refine w_addN (k + 1) 108 (by decide +kernel) (by omega) ?_
        refine w_step5 109 (by decide +kernel) (by omega) ?_
        refine w_load (.iload 4) 111 (by decide +kernel) rfl rfl ?_
        refine w_callV1 72 6 3 114 (by decide +kernel) (tl_step (k + 1) (by omega)).1.1 (Nat.le_of_ble_eq_true rfl) rfl (by decide) (by omega) ?_
        refine k_72 hS.1 (tl_step (k + 1) (by omega)) (by omega) (fun N hT hr17 => ?_)
        have hS := hS.tr hT (by intro i k; first | exact rfl | omega | (dsimp only; omega) | (simp only [Hs, Tl, Sc, isHs, isScr, isTs] at *; omega))
        dsimp only [Option.toList, List.nil_append]
        refine w_load (.aload_n 0) 115 (by decide +kernel) rfl rfl ?_
        refine w_load (.aload_n 1) 116 (by decide +kernel) rfl rfl ?_
        refine w_load (.iload_n 2) 117 (by decide +kernel) rfl rfl ?_
        refine w_load (.iload_n 3) 118 (by decide +kernel) rfl rfl ?_
        refine w_pushN 1 119 (by decide +kernel) ?_
        refine w_addN (k + 1) 120 (by decide +kernel) (by omega) ?_
        refine w_callV3 4 0 7 123 (by decide +kernel) sh_31 (Nat.le_of_ble_eq_true rfl) rfl rfl rfl (by decide) (by omega) ?_
        refine hrec (by omega) _ _ _ _ hS.1 (by omega) (fun N hT hr18 => ?_)
        have hS := hS.tr hT (by intro i k; first | exact rfl | omega | (dsimp only; omega) | (simp only [Hs, Tl, Sc, isHs, isScr, isTs] at *; omega))
        dsimp only [Option.toList, List.nil_append]
        refine w_pushN 0 124 (by decide +kernel) ?_
        refine w_store (ls' := [.ref 31, .ref s, .int m, .int (nI k), .int r7, .int r8, .int (nI 0)]) (.istore 6) 126 (by decide +kernel) rfl rfl ?_
        have LP_126 : ∀ (kk : Nat) (N : Mt) (g6 : Nat), St (fun i _ => 31 ≤ i ∧ i ≤ 57) M N → g6 ≤ 5 → 5 - g6 < kk → Wp d 4 126 [.ref 31, .ref s, .int m, .int (nI k), .int r7, .int r8, .int (nI g6)] [] N L Q := by
          intro kk
          induction kk with
          | zero => intro N g6 hS hi0_126 hm_126; exact absurd hm_126 (Nat.not_lt_zero _)
          | succ kk ih_126 =>
            intro N g6 hS hi0_126 hm_126
            refine w_load (.iload 6) 128 (by decide +kernel) rfl rfl ?_
            refine w_pushN 5 129 (by decide +kernel) ?_
            refine w_cgeN 164 132 (by decide +kernel) (by omega) (by omega) (fun h19 => ?_) (fun h19 => ?_)
            · skip
              exact w_retV (by decide +kernel) (hq N hS trivial)
            · skip
              refine w_load (.aload_n 0) 133 (by decide +kernel) rfl rfl ?_
              refine w_callV0 3 0 1 136 (by decide +kernel) sh_31 (Nat.le_of_ble_eq_true rfl)  (by decide) (by omega) ?_
              refine k_3 hS.1  (by omega) (fun r20 hr20 => ?_)
              dsimp only [Option.toList, List.cons_append, List.nil_append]
              refine w_ine 164 139 (by decide +kernel) (fun h21 => ?_) (fun h21 => ?_)
              · skip
                exact w_retV (by decide +kernel) (hq N hS trivial)
              · skip
                refine w_load (.iload 5) 141 (by decide +kernel) rfl rfl ?_
                refine w_load (.iload 6) 143 (by decide +kernel) rfl rfl ?_
                refine w_callS2 115 2 146 (by decide +kernel) (Nat.le_of_ble_eq_true rfl) rfl rfl (by decide) (by omega) ?_
                refine k_115 hS.1  (by omega) (fun r22 hr22 => ?_)
                dsimp only [Option.toList, List.cons_append, List.nil_append]
                refine w_ieq 158 149 (by decide +kernel) (fun h23 => ?_) (fun h23 => ?_)
                · skip
                  refine w_iincN (z := 6) (g6 + 1) 161 (by decide +kernel) rfl (Nat.le_of_ble_eq_true rfl) rfl rfl ?_
                  show Wp _ _ _ [.ref 31, .ref s, .int m, .int (nI k), .int r7, .int r8, .int (nI (g6 + 1))] _ _ _ _
                  refine w_goto 126 (by decide +kernel) ?_
                  exact ih_126 N (g6 + 1) hS (by omega) (by omega)
                · skip
                  refine w_load (.aload_n 0) 150 (by decide +kernel) rfl rfl ?_
                  refine w_load (.aload_n 1) 151 (by decide +kernel) rfl rfl ?_
                  refine w_load (.iload_n 2) 152 (by decide +kernel) rfl rfl ?_
                  refine w_load (.iload_n 3) 153 (by decide +kernel) rfl rfl ?_
                  refine w_load (.iload 6) 155 (by decide +kernel) rfl rfl ?_
                  refine w_callV4 5 0 9 158 (by decide +kernel) sh_31 (Nat.le_of_ble_eq_true rfl) rfl rfl rfl rfl (by decide) (by omega) ?_
                  refine k_5 hS.1 hc (by omega) (hrec (by omega)) (by omega) (fun N hT hr24 => ?_)
                  have hS := hS.tr hT (by intro i k; first | exact rfl | omega | (dsimp only; omega) | (simp only [Hs, Tl, Sc, isHs, isScr, isTs] at *; omega))
                  dsimp only [Option.toList, List.nil_append]
                  refine w_iincN (z := 6) (g6 + 1) 161 (by decide +kernel) rfl (Nat.le_of_ble_eq_true rfl) rfl rfl ?_
                  show Wp _ _ _ [.ref 31, .ref s, .int m, .int (nI k), .int r7, .int r8, .int (nI (g6 + 1))] _ _ _ _
                  refine w_goto 126 (by decide +kernel) ?_
                  exact ih_126 N (g6 + 1) hS (by omega) (by omega)
        exact LP_126 _ N 0 hS (by omega) (Nat.lt_succ_self _)
    · skip
      refine w_load (.aload_n 0) 17 (by decide +kernel) rfl rfl ?_
      refine w_pure .dup 18 (by decide +kernel) rfl rfl ?_
      refine w_getI (k := 2) 21 (by decide +kernel) sh_31 rfl ?_
      refine w_load (.aload_n 0) 22 (by decide +kernel) rfl rfl ?_
      refine w_getR (k := 0) (r := 32) 25 (by decide +kernel) sh_31 rfl ?_
      refine w_load (.iload_n 3) 26 (by decide +kernel) rfl rfl ?_
      refine w_step5 27 (by decide +kernel) (by omega) ?_
      refine w_getR (k := 0) (r := 33 + 5 * k + 1) 30 (by decide +kernel) (tl_step k (by omega)).1.1 rfl ?_
      refine w_callV0 20 1 1 33 (by decide +kernel) (tl_step k (by omega)).1.2.1.1 (Nat.le_of_ble_eq_true rfl)  (by decide) (by omega) ?_
      refine k_20 hS.1 (tl_h (tl_step k (by omega))) (by omega) (fun r25 hr25 => ?_)
      dsimp only [Option.toList, List.cons_append, List.nil_append]
      refine w_pure .ior 34 (by decide +kernel) rfl rfl ?_
      refine w_putW (k := 2) 37 (by decide +kernel) sh_31 rfl hS (Rg.free (by simp only [Hs, Tl, Sc, isScr, isHs, isTs] at *; omega)) (by first | exact rfl | omega | (dsimp only; omega) | (simp only [Hs, Tl, Sc, isHs, isScr, isTs] at *; omega)) (fun N hS hq26 oq26 => ?_)
      refine w_load (.aload_n 0) 38 (by decide +kernel) rfl rfl ?_
      refine w_pure .dup 39 (by decide +kernel) rfl rfl ?_
      refine w_getI (k := 3) 42 (by decide +kernel) sh_31 rfl ?_
      refine w_load (.aload_n 0) 43 (by decide +kernel) rfl rfl ?_
      refine w_getR (k := 0) (r := 32) 46 (by decide +kernel) sh_31 rfl ?_
      refine w_load (.iload_n 3) 47 (by decide +kernel) rfl rfl ?_
      refine w_step5 48 (by decide +kernel) (by omega) ?_
      refine w_getR (k := 0) (r := 33 + 5 * k + 1) 51 (by decide +kernel) (tl_step k (by omega)).1.1 rfl ?_
      refine w_callV0 20 1 1 54 (by decide +kernel) (tl_step k (by omega)).1.2.1.1 (Nat.le_of_ble_eq_true rfl)  (by decide) (by omega) ?_
      refine k_20 hS.1 (tl_h (tl_step k (by omega))) (by omega) (fun r27 hr27 => ?_)
      dsimp only [Option.toList, List.cons_append, List.nil_append]
      refine w_pure .iand 55 (by decide +kernel) rfl rfl ?_
      refine w_putW (k := 3) 58 (by decide +kernel) sh_31 rfl hS (Rg.free (by simp only [Hs, Tl, Sc, isScr, isHs, isTs] at *; omega)) (by first | exact rfl | omega | (dsimp only; omega) | (simp only [Hs, Tl, Sc, isHs, isScr, isTs] at *; omega)) (fun N hS hq28 oq28 => ?_)
      exact w_retV (by decide +kernel) (hq N hS trivial)

/-- follow, by how many deeds are left -/
theorem k_4r {d : Nat} {M : Mt} {L : Lt} {Q : Option Value → Mt → Lt → Prop} {s k : Nat} {m : Int32} (hI : Inv M) (hc : Sc s) (hk : k ≤ 4) (hd : 2 * (4 - k) + 8 ≤ d) (hq : ∀ (N : Mt), St (fun i _ => 31 ≤ i ∧ i ≤ 57) M N → True → Q none N L) : Wp d 4 0 [.ref 31, .ref s, .int m, .int (nI k), .null, .null, .null] [] M L Q := by
  have key : ∀ f k : Nat, k ≤ 4 → 4 - k ≤ f → ∀ (d : Nat) (M : Mt) (L : Lt) (Q : Option Value → Mt → Lt → Prop), Inv M → 2 * (4 - k) + 8 ≤ d → (∀ (N : Mt), St (fun i _ => 31 ≤ i ∧ i ≤ 57) M N → True → Q none N L) → Wp d 4 0 [.ref 31, .ref s, .int m, .int (nI k), .null, .null, .null] [] M L Q := by
    intro f
    induction f with
    | zero => intro k hk hf d M L Q hI hd hq; exact k_4 hI hc hk (fun h => absurd h (by omega)) hd hq
    | succ f ih => intro k hk hf d M L Q hI hd hq; exact k_4 hI hc hk (fun h d N0 L Q hI hd hq => ih (k + 1) (by omega) (by omega) d N0 L Q hI hd hq) hd hq
  exact key (4 - k) k hk (Nat.le_refl _) d M L Q hI hd hq
-- X0_deadBy
set_option maxRecDepth 10000 in
theorem k_1 {d : Nat} {M : Mt} {L : Lt} {Q : Option Value → Mt → Lt → Prop} {h s : Nat} {b : Int32} (hI : Inv M) (hh : Hs h) (hc : Sc s) (hb : b = 0 ∨ b = 1) (hd : 17 ≤ d) (hq : ∀ (r : Int32) (N : Mt), St (fun i _ => 31 ≤ i ∧ i ≤ 57) M N → True → Q (some (.int r)) N L) : Wp d 1 0 [.ref 31, .ref h, .ref s, .int b] [] M L Q := by
  refine (show ∀ N : Mt, N = M → St (fun i _ => 31 ≤ i ∧ i ≤ 57) M N → Wp d 1 0 [.ref 31, .ref h, .ref s, .int b] [] N L Q from ?_) M rfl (St.rf hI)
  intro N hNM hS
  refine w_load (.aload_n 0) 1 (by decide +kernel) rfl rfl ?_
  refine w_load (.iload_n 3) 2 (by decide +kernel) rfl rfl ?_
  refine w_putZW (k := 1) 5 (by decide +kernel) sh_31 rfl hb hS (Rg.free (by simp only [Hs, Tl, Sc, isScr, isHs, isTs] at *; omega)) (by first | exact rfl | omega | (dsimp only; omega) | (simp only [Hs, Tl, Sc, isHs, isScr, isTs] at *; omega)) (fun N hS hq1 oq1 => ?_)
  refine w_load (.aload_n 0) 6 (by decide +kernel) rfl rfl ?_
  refine w_load (.aload_n 1) 7 (by decide +kernel) rfl rfl ?_
  refine w_callV0 20 1 1 10 (by decide +kernel) hh.1.1 (Nat.le_of_ble_eq_true rfl)  (by decide) (by omega) ?_
  refine k_20 hS.1 hh (by omega) (fun r2 hr2 => ?_)
  dsimp only [Option.toList, List.cons_append, List.nil_append]
  refine w_putW (k := 4) 13 (by decide +kernel) sh_31 rfl hS (Rg.free (by simp only [Hs, Tl, Sc, isScr, isHs, isTs] at *; omega)) (by first | exact rfl | omega | (dsimp only; omega) | (simp only [Hs, Tl, Sc, isHs, isScr, isTs] at *; omega)) (fun N hS hq3 oq3 => ?_)
  refine w_load (.aload_n 0) 14 (by decide +kernel) rfl rfl ?_
  refine w_load (.aload_n 0) 15 (by decide +kernel) rfl rfl ?_
  refine w_getI (k := 4) 18 (by decide +kernel) sh_31 rfl ?_
  refine w_putW (k := 2) 21 (by decide +kernel) sh_31 rfl hS (Rg.free (by simp only [Hs, Tl, Sc, isScr, isHs, isTs] at *; omega)) (by first | exact rfl | omega | (dsimp only; omega) | (simp only [Hs, Tl, Sc, isHs, isScr, isTs] at *; omega)) (fun N hS hq4 oq4 => ?_)
  refine w_load (.aload_n 0) 22 (by decide +kernel) rfl rfl ?_
  refine w_load (.aload_n 1) 23 (by decide +kernel) rfl rfl ?_
  refine w_callV0 18 1 1 26 (by decide +kernel) hh.1.1 (Nat.le_of_ble_eq_true rfl)  (by decide) (by omega) ?_
  refine k_18 hS.1 hh (by omega) (fun r5 hr5 => ?_)
  dsimp only [Option.toList, List.cons_append, List.nil_append]
  refine w_putW (k := 3) 29 (by decide +kernel) sh_31 rfl hS (Rg.free (by simp only [Hs, Tl, Sc, isScr, isHs, isTs] at *; omega)) (by first | exact rfl | omega | (dsimp only; omega) | (simp only [Hs, Tl, Sc, isHs, isScr, isTs] at *; omega)) (fun N hS hq6 oq6 => ?_)
  refine w_load (.aload_n 0) 30 (by decide +kernel) rfl rfl ?_
  refine w_getR (k := 0) (r := 32) 33 (by decide +kernel) sh_31 rfl ?_
  refine w_pushN 0 34 (by decide +kernel) ?_
  refine w_step5 35 (by decide +kernel) (by omega) ?_
  show Wp _ _ _ _ (.ref 33 :: _) _ _ _
  refine w_load (.aload_n 1) 36 (by decide +kernel) rfl rfl ?_
  refine w_callV1 66 6 3 39 (by decide +kernel) sh_33 (Nat.le_of_ble_eq_true rfl) rfl (by decide) (by omega) ?_
  refine k_66 hS.1 tl_33 hh (by omega) (fun N hT hr7 => ?_)
  have hS := hS.tr hT (by intro i k; first | exact rfl | omega | (dsimp only; omega) | (simp only [Hs, Tl, Sc, isHs, isScr, isTs] at *; omega))
  dsimp only [Option.toList, List.nil_append]
  refine w_load (.aload_n 0) 40 (by decide +kernel) rfl rfl ?_
  refine w_load (.aload_n 2) 41 (by decide +kernel) rfl rfl ?_
  refine w_load (.aload_n 2) 42 (by decide +kernel) rfl rfl ?_
  refine w_callS1 2 4 45 (by decide +kernel) (Nat.le_of_ble_eq_true rfl) rfl (by decide) (by omega) ?_
  refine k_2 hS.1 hc (by omega) (fun r8 hr8 => ?_)
  dsimp only [Option.toList, List.cons_append, List.nil_append]
  refine w_pushN 0 46 (by decide +kernel) ?_
  refine w_callV3 4 0 7 49 (by decide +kernel) sh_31 (Nat.le_of_ble_eq_true rfl) rfl rfl rfl (by decide) (by omega) ?_
  refine k_4r hS.1 hc (by omega) (by omega) (fun N hT hr9 => ?_)
  have hS := hS.tr hT (by intro i k; first | exact rfl | omega | (dsimp only; omega) | (simp only [Hs, Tl, Sc, isHs, isScr, isTs] at *; omega))
  dsimp only [Option.toList, List.nil_append]
  refine w_load (.aload_n 0) 50 (by decide +kernel) rfl rfl ?_
  refine w_getI (k := 1) 53 (by decide +kernel) sh_31 rfl ?_
  refine w_ieq 63 56 (by decide +kernel) (fun h10 => ?_) (fun h10 => ?_)
  · skip
    refine w_load (.aload_n 0) 64 (by decide +kernel) rfl rfl ?_
    refine w_getI (k := 2) 67 (by decide +kernel) sh_31 rfl ?_
    exact w_ret (by decide +kernel) (hq _ N hS trivial)
  · skip
    refine w_load (.aload_n 0) 57 (by decide +kernel) rfl rfl ?_
    refine w_getI (k := 3) 60 (by decide +kernel) sh_31 rfl ?_
    refine w_goto 67 (by decide +kernel) ?_
    exact w_ret (by decide +kernel) (hq _ N hS trivial)
end
section
-- J6_bitCount_0f7a4
set_option maxRecDepth 10000 in
theorem k_200 {d : Nat} {M : Mt} {L : Lt} {Q : Option Value → Mt → Lt → Prop} {a : Int32} (hI : Inv M)  (hd : 0 ≤ d) (hq : ∀ (r : Int32), True → Q (some (.int r)) M L) : Wp d 200 0 [.int a] [] M L Q := by
  refine w_load (.iload_n 0) 1 (by decide +kernel) rfl rfl ?_
  refine w_load (.iload_n 0) 2 (by decide +kernel) rfl rfl ?_
  refine w_pushN 1 3 (by decide +kernel) ?_
  refine w_pure .iushr 4 (by decide +kernel) rfl rfl ?_
  refine w_pushN 1431655765 7 (by decide +kernel) ?_
  refine w_pure .iand 8 (by decide +kernel) rfl rfl ?_
  refine w_pure .isub 9 (by decide +kernel) rfl rfl ?_
  refine w_topi (fun v1 ev1 => ?_)
  refine w_store (ls' := [.int v1]) (.istore_n 0) 10 (by decide +kernel) rfl rfl ?_
  refine w_load (.iload_n 0) 11 (by decide +kernel) rfl rfl ?_
  refine w_pushN 858993459 14 (by decide +kernel) ?_
  refine w_pure .iand 15 (by decide +kernel) rfl rfl ?_
  refine w_load (.iload_n 0) 16 (by decide +kernel) rfl rfl ?_
  refine w_pushN 2 17 (by decide +kernel) ?_
  refine w_pure .iushr 18 (by decide +kernel) rfl rfl ?_
  refine w_pushN 858993459 21 (by decide +kernel) ?_
  refine w_pure .iand 22 (by decide +kernel) rfl rfl ?_
  refine w_pure .iadd 23 (by decide +kernel) rfl rfl ?_
  refine w_topi (fun v2 ev2 => ?_)
  refine w_store (ls' := [.int v2]) (.istore_n 0) 24 (by decide +kernel) rfl rfl ?_
  refine w_load (.iload_n 0) 25 (by decide +kernel) rfl rfl ?_
  refine w_load (.iload_n 0) 26 (by decide +kernel) rfl rfl ?_
  refine w_pushN 4 27 (by decide +kernel) ?_
  refine w_pure .iushr 28 (by decide +kernel) rfl rfl ?_
  refine w_pure .iadd 29 (by decide +kernel) rfl rfl ?_
  refine w_pushN 252645135 32 (by decide +kernel) ?_
  refine w_pure .iand 33 (by decide +kernel) rfl rfl ?_
  refine w_topi (fun v3 ev3 => ?_)
  refine w_store (ls' := [.int v3]) (.istore_n 0) 34 (by decide +kernel) rfl rfl ?_
  refine w_load (.iload_n 0) 35 (by decide +kernel) rfl rfl ?_
  refine w_load (.iload_n 0) 36 (by decide +kernel) rfl rfl ?_
  refine w_pushN 8 38 (by decide +kernel) ?_
  refine w_pure .iushr 39 (by decide +kernel) rfl rfl ?_
  refine w_pure .iadd 40 (by decide +kernel) rfl rfl ?_
  refine w_topi (fun v4 ev4 => ?_)
  refine w_store (ls' := [.int v4]) (.istore_n 0) 41 (by decide +kernel) rfl rfl ?_
  refine w_load (.iload_n 0) 42 (by decide +kernel) rfl rfl ?_
  refine w_load (.iload_n 0) 43 (by decide +kernel) rfl rfl ?_
  refine w_pushN 16 45 (by decide +kernel) ?_
  refine w_pure .iushr 46 (by decide +kernel) rfl rfl ?_
  refine w_pure .iadd 47 (by decide +kernel) rfl rfl ?_
  refine w_topi (fun v5 ev5 => ?_)
  refine w_store (ls' := [.int v5]) (.istore_n 0) 48 (by decide +kernel) rfl rfl ?_
  refine w_load (.iload_n 0) 49 (by decide +kernel) rfl rfl ?_
  refine w_pushN 63 51 (by decide +kernel) ?_
  refine w_pure .iand 52 (by decide +kernel) rfl rfl ?_
  exact w_ret (by decide +kernel) (hq _ trivial)
-- X7_inLeastTerms
set_option maxRecDepth 10000 in
theorem k_120 {d : Nat} {M : Mt} {L : Lt} {Q : Option Value → Mt → Lt → Prop} {a : Int32} {b : Int32} {c : Int32} (hI : Inv M)  (hd : 0 ≤ d) (hq : ∀ (r : Int32), True → Q (some (.int r)) M L) : Wp d 120 0 [.int a, .int b, .int c, .null] [] M L Q := by
  refine w_load (.iload_n 2) 1 (by decide +kernel) rfl rfl ?_
  refine w_store (ls' := [.int a, .int b, .int c, .int c]) (.istore_n 3) 2 (by decide +kernel) rfl rfl ?_
  have LP_2 : ∀ (kk : Nat) (x3_2 : Int32), x3_2.toInt.toNat < kk → Wp d 120 2 [.int a, .int b, .int c, .int x3_2] [] M L Q := by
    intro kk
    induction kk with
    | zero => intro x3_2 hm_2; exact absurd hm_2 (Nat.not_lt_zero _)
    | succ kk ih_2 =>
      intro x3_2 hm_2
      refine w_load (.iload_n 3) 3 (by decide +kernel) rfl rfl ?_
      refine w_pushN 1 4 (by decide +kernel) ?_
      refine w_cle 29 7 (by decide +kernel) (fun h1 => ?_) (fun h1 => ?_)
      · skip
        refine w_load (.iload_n 0) 30 (by decide +kernel) rfl rfl ?_
        exact w_ret (by decide +kernel) (hq _ trivial)
      · skip
        refine w_load (.iload_n 1) 8 (by decide +kernel) rfl rfl ?_
        refine w_load (.iload_n 3) 9 (by decide +kernel) rfl rfl ?_
        refine w_rem 10 (by decide +kernel) (ne_gt1 (by assumption)) ?_
        refine w_ine 23 13 (by decide +kernel) (fun h2 => ?_) (fun h2 => ?_)
        · skip
          obtain ⟨v3, ev3⟩ : ∃ y : Int32, y = x3_2 + Int32.ofInt (-1) := ⟨_, rfl⟩
          refine w_store (ls' := [.int a, .int b, .int c, .int v3]) (.iinc 3 (-1)) 26 (by decide +kernel) rfl (by rw [ev3]; rfl) ?_
          refine w_goto 2 (by decide +kernel) ?_
          exact ih_2 _  (by have hdm := dec_mu (by assumption); subst_vars; omega)
        · skip
          refine w_load (.iload_n 2) 14 (by decide +kernel) rfl rfl ?_
          refine w_load (.iload_n 3) 15 (by decide +kernel) rfl rfl ?_
          refine w_rem 16 (by decide +kernel) (ne_gt1 (by assumption)) ?_
          refine w_ine 23 19 (by decide +kernel) (fun h4 => ?_) (fun h4 => ?_)
          · skip
            obtain ⟨v5, ev5⟩ : ∃ y : Int32, y = x3_2 + Int32.ofInt (-1) := ⟨_, rfl⟩
            refine w_store (ls' := [.int a, .int b, .int c, .int v5]) (.iinc 3 (-1)) 26 (by decide +kernel) rfl (by rw [ev5]; rfl) ?_
            refine w_goto 2 (by decide +kernel) ?_
            exact ih_2 _  (by have hdm := dec_mu (by assumption); subst_vars; omega)
          · skip
            refine w_load (.iload_n 0) 20 (by decide +kernel) rfl rfl ?_
            refine w_load (.iload_n 3) 21 (by decide +kernel) rfl rfl ?_
            refine w_div 22 (by decide +kernel) (ne_gt1 (by assumption)) ?_
            exact w_ret (by decide +kernel) (hq _ trivial)
  exact LP_2 _ _  (Nat.lt_succ_self _)
-- X7_write
set_option maxRecDepth 10000 in
theorem k_76 {d : Nat} {M : Mt} {L : Lt} {Q : Option Value → Mt → Lt → Prop} {n : Nat} {a : Int32} (hI : Inv M) (hn : n ≤ 24) (en : M 1 1 = nI n) (hd : 2 ≤ d) (hq : ∀ (r : Int32) (N : Mt), St (fun i _ => 1 ≤ i ∧ i ≤ 2) M N → ((r = -2 ∧ (¬ ∃ k, k < 256 ∧ a = nI k) ∧ N 1 1 = nI n) ∨ ((∃ k, k < 256 ∧ a = nI k) ∧ ((r = -4 ∧ n = 24 ∧ N 1 1 = nI n) ∨ (r = nI (n + 1) ∧ n < 24 ∧ N 1 1 = nI (n + 1))))) → Q (some (.int r)) N L) : Wp d 76 0 [.ref 0, .int a] [] M L Q := by
  refine (show ∀ N : Mt, N = M → St (fun i _ => 1 ≤ i ∧ i ≤ 2) M N → Wp d 76 0 [.ref 0, .int a] [] N L Q from ?_) M rfl (St.rf hI)
  intro N hNM hS
  have kz0 : N (1) 1 = nI n := by rw [hNM]; exact en
  refine w_load (.iload_n 1) 1 (by decide +kernel) rfl rfl ?_
  refine w_callS1 110 1 4 (by decide +kernel) (Nat.le_of_ble_eq_true rfl) rfl (by decide) (by omega) ?_
  refine k_110 hS.1  (by omega) (fun r1 hr1 => ?_)
  dsimp only [Option.toList, List.cons_append, List.nil_append]
  rcases hr1 with ⟨rfl, k2, hk2, rfl⟩ | ⟨rfl, hnok2⟩
  · skip
    refine w_ine 10 7 (by decide +kernel) (fun _ => ?_) (fun hz => absurd hz (by decide))
    refine w_load (.aload_n 0) 11 (by decide +kernel) rfl rfl ?_
    refine w_getR (k := 0) (r := 1) 14 (by decide +kernel) sh_0 rfl ?_
    refine w_callV0 37 2 1 17 (by decide +kernel) sh_1 (Nat.le_of_ble_eq_true rfl)  (by decide) (by omega) ?_
    refine k_37 hS.1 sc_1 (by omega) kz0 (by omega) (fun r4 hr4 => ?_)
    dsimp only [Option.toList, List.cons_append, List.nil_append]
    rcases hr4 with ⟨rfl, hfull⟩ | ⟨rfl, hfull⟩
    · skip
      refine w_ieq 25 20 (by decide +kernel) (fun hz => absurd hz (by decide)) (fun _ => ?_)
      refine w_push (-4) 22 (by decide +kernel) ?_
      refine w_goto 33 (by decide +kernel) ?_
      exact w_ret (by decide +kernel) (hq _ N hS (by first | exact Or.inl ⟨rfl, by assumption, by assumption⟩ | exact Or.inr ⟨⟨_, by assumption, rfl⟩, Or.inl ⟨rfl, by omega, by assumption⟩⟩ | exact Or.inr ⟨⟨_, by assumption, rfl⟩, Or.inr ⟨rfl, by omega, by assumption⟩⟩))
    · skip
      refine w_ieq 25 20 (by decide +kernel) (fun _ => ?_) (fun hz => absurd hz (by decide))
      refine w_load (.aload_n 0) 26 (by decide +kernel) rfl rfl ?_
      refine w_getR (k := 0) (r := 1) 29 (by decide +kernel) sh_0 rfl ?_
      refine w_load (.iload_n 1) 30 (by decide +kernel) rfl rfl ?_
      refine w_callV1 38 2 2 33 (by decide +kernel) sh_1 (Nat.le_of_ble_eq_true rfl) rfl (by decide) (by omega) ?_
      refine k_38 hS.1 sc_1 (by omega) kz0 (by omega) (fun r7 N hT hr7 => ?_)
      have hS := hS.tr hT (by intro i k; first | exact rfl | omega | (dsimp only; omega) | (simp only [Hs, Tl, Sc, isHs, isScr, isTs] at *; omega))
      dsimp only [Option.toList, List.cons_append, List.nil_append]
      rcases hr7 with ⟨rfl, eadd⟩
      · skip
        exact w_ret (by decide +kernel) (hq _ N hS (by first | exact Or.inl ⟨rfl, by assumption, by assumption⟩ | exact Or.inr ⟨⟨_, by assumption, rfl⟩, Or.inl ⟨rfl, by omega, by assumption⟩⟩ | exact Or.inr ⟨⟨_, by assumption, rfl⟩, Or.inr ⟨rfl, by omega, by assumption⟩⟩))
  · skip
    refine w_ine 10 7 (by decide +kernel) (fun hz => absurd hz (by decide)) (fun _ => ?_)
    refine w_push (-2) 9 (by decide +kernel) ?_
    exact w_ret (by decide +kernel) (hq _ N hS (by first | exact Or.inl ⟨rfl, by assumption, by assumption⟩ | exact Or.inr ⟨⟨_, by assumption, rfl⟩, Or.inl ⟨rfl, by omega, by assumption⟩⟩ | exact Or.inr ⟨⟨_, by assumption, rfl⟩, Or.inr ⟨rfl, by omega, by assumption⟩⟩))
-- X7_wipe
set_option maxRecDepth 10000 in
theorem k_77 {d : Nat} {M : Mt} {L : Lt} {Q : Option Value → Mt → Lt → Prop} {n : Nat}  (hI : Inv M) (hn : n ≤ 24) (en : M 1 1 = nI n) (hd : 1 ≤ d) (hq : ∀ (r : Int32) (N : Mt), St (fun i _ => 1 ≤ i ∧ i ≤ 2) M N → (r = nI n ∧ N 1 1 = nI 0) → Q (some (.int r)) N L) : Wp d 77 0 [.ref 0] [] M L Q := by
  refine (show ∀ N : Mt, N = M → St (fun i _ => 1 ≤ i ∧ i ≤ 2) M N → Wp d 77 0 [.ref 0] [] N L Q from ?_) M rfl (St.rf hI)
  intro N hNM hS
  have kz0 : N (1) 1 = nI n := by rw [hNM]; exact en
  refine w_load (.aload_n 0) 1 (by decide +kernel) rfl rfl ?_
  refine w_getR (k := 0) (r := 1) 4 (by decide +kernel) sh_0 rfl ?_
  refine w_callV0 39 2 2 7 (by decide +kernel) sh_1 (Nat.le_of_ble_eq_true rfl)  (by decide) (by omega) ?_
  refine k_39 hS.1 sc_1 (by omega) kz0 (by omega) (fun r1 N hT hr1 => ?_)
  have hS := hS.tr hT (by intro i k; first | exact rfl | omega | (dsimp only; omega) | (simp only [Hs, Tl, Sc, isHs, isScr, isTs] at *; omega))
  dsimp only [Option.toList, List.cons_append, List.nil_append]
  rcases hr1 with ⟨rfl, eemp⟩
  · skip
    exact w_ret (by decide +kernel) (hq _ N hS ⟨rfl, by assumption⟩)
-- X7_fault
set_option maxRecDepth 10000 in
theorem k_78 {d : Nat} {M : Mt} {L : Lt} {Q : Option Value → Mt → Lt → Prop}  (hI : Inv M)  (hd : 3 ≤ d) (hq : ∀ (r : Int32), True → Q (some (.int r)) M L) : Wp d 78 0 [.ref 0] [] M L Q := by
  refine w_load (.aload_n 0) 1 (by decide +kernel) rfl rfl ?_
  refine w_getR (k := 0) (r := 1) 4 (by decide +kernel) sh_0 rfl ?_
  refine w_callV0 41 2 2 7 (by decide +kernel) sh_1 (Nat.le_of_ble_eq_true rfl)  (by decide) (by omega) ?_
  refine k_41 hI sc_1 (by omega) (fun r1 hr1 => ?_)
  dsimp only [Option.toList, List.cons_append, List.nil_append]
  exact w_ret (by decide +kernel) (hq _ trivial)
-- X7_inn
set_option maxRecDepth 10000 in
theorem k_79 {d : Nat} {M : Mt} {L : Lt} {Q : Option Value → Mt → Lt → Prop}  (hI : Inv M)  (hd : 3 ≤ d) (hq : ∀ (r : Int32) (N : Mt), St (fun i k => (4 ≤ i ∧ i ≤ 63) ∨ i = 68 ∨ i = 69 ∨ (i = 0 ∧ (k = 14 ∨ k = 15))) M N → True → Q (some (.int r)) N L) : Wp d 79 0 [.ref 0] [] M L Q := by
  refine (show ∀ N : Mt, N = M → St (fun i k => (4 ≤ i ∧ i ≤ 63) ∨ i = 68 ∨ i = 69 ∨ (i = 0 ∧ (k = 14 ∨ k = 15))) M N → Wp d 79 0 [.ref 0] [] N L Q from ?_) M rfl (St.rf hI)
  intro N hNM hS
  refine w_load (.aload_n 0) 1 (by decide +kernel) rfl rfl ?_
  refine w_getR (k := 0) (r := 1) 4 (by decide +kernel) sh_0 rfl ?_
  refine w_callV0 41 2 2 7 (by decide +kernel) sh_1 (Nat.le_of_ble_eq_true rfl)  (by decide) (by omega) ?_
  refine k_41 hS.1 sc_1 (by omega) (fun r1 hr1 => ?_)
  dsimp only [Option.toList, List.cons_append, List.nil_append]
  refine w_push (-9) 9 (by decide +kernel) ?_
  refine w_ceq 15 12 (by decide +kernel) (fun h2 => ?_) (fun h2 => ?_)
  · skip
    obtain ⟨nn, hnn, hnm, enn⟩ := hr1 h2
    refine w_load (.aload_n 0) 16 (by decide +kernel) rfl rfl ?_
    refine w_getR (k := 2) (r := 4) 19 (by decide +kernel) sh_0 rfl ?_
    refine w_load (.aload_n 0) 20 (by decide +kernel) rfl rfl ?_
    refine w_getR (k := 0) (r := 1) 23 (by decide +kernel) sh_0 rfl ?_
    refine w_callV1 7 1 4 26 (by decide +kernel) sh_4 (Nat.le_of_ble_eq_true rfl) rfl (by decide) (by omega) ?_
    refine k_7 hS.1 hs_4 sc_1 (by omega) enn (by omega) (fun N hT hr3 => ?_)
    have hS := hS.tr hT (by intro i k; first | exact rfl | omega | (dsimp only; omega) | (simp only [Hs, Tl, Sc, isHs, isScr, isTs] at *; omega))
    dsimp only [Option.toList, List.nil_append]
    refine w_load (.aload_n 0) 27 (by decide +kernel) rfl rfl ?_
    refine w_pushN 0 28 (by decide +kernel) ?_
    refine w_putW (k := 14) 31 (by decide +kernel) sh_0 rfl hS (rg_acts (by omega)) (by first | exact rfl | omega | (dsimp only; omega) | (simp only [Hs, Tl, Sc, isHs, isScr, isTs] at *; omega)) (fun N hS hq4 oq4 => ?_)
    refine w_load (.aload_n 0) 32 (by decide +kernel) rfl rfl ?_
    refine w_pushN 0 33 (by decide +kernel) ?_
    refine w_putW (k := 15) 36 (by decide +kernel) sh_0 rfl hS (rg_0 (by decide)) (by first | exact rfl | omega | (dsimp only; omega) | (simp only [Hs, Tl, Sc, isHs, isScr, isTs] at *; omega)) (fun N hS hq5 oq5 => ?_)
    have kn6 := (oq5 (0) 14 (by first | omega | (simp only [Hs, Tl, Sc, isHs, isScr, isTs] at *; omega))).trans hq4
    refine w_load (.aload_n 0) 37 (by decide +kernel) rfl rfl ?_
    refine w_getR (k := 2) (r := 4) 40 (by decide +kernel) sh_0 rfl ?_
    refine w_callV0 10 1 1 43 (by decide +kernel) sh_4 (Nat.le_of_ble_eq_true rfl)  (by decide) (by omega) ?_
    refine k_10 hS.1 hs_4 (by omega) (fun r7 hr7 => ?_)
    dsimp only [Option.toList, List.cons_append, List.nil_append]
    exact w_ret (by decide +kernel) (hq _ N hS trivial)
  · skip
    refine w_push (-3) 14 (by decide +kernel) ?_
    exact w_ret (by decide +kernel) (hq _ N hS trivial)
-- X7_quill
set_option maxRecDepth 10000 in
theorem k_80 {d : Nat} {M : Mt} {L : Lt} {Q : Option Value → Mt → Lt → Prop} {a : Int32} {b : Int32} (hI : Inv M)  (hd : 2 ≤ d) (hq : ∀ (r : Int32) (N : Mt), St (fun i _ => 70 ≤ i ∧ i ≤ 75) M N → True → Q (some (.int r)) N L) : Wp d 80 0 [.ref 0, .int a, .int b] [] M L Q := by
  refine (show ∀ N : Mt, N = M → St (fun i _ => 70 ≤ i ∧ i ≤ 75) M N → Wp d 80 0 [.ref 0, .int a, .int b] [] N L Q from ?_) M rfl (St.rf hI)
  intro N hNM hS
  refine w_load (.iload_n 1) 1 (by decide +kernel) rfl rfl ?_
  refine w_callS1 111 1 4 (by decide +kernel) (Nat.le_of_ble_eq_true rfl) rfl (by decide) (by omega) ?_
  refine k_111 hS.1  (by omega) (fun r1 hr1 => ?_)
  dsimp only [Option.toList, List.cons_append, List.nil_append]
  rcases hr1 with ⟨rfl, k2, hk2, rfl⟩ | ⟨rfl, hnok2⟩
  · skip
    refine w_ine 9 7 (by decide +kernel) (fun _ => ?_) (fun hz => absurd hz (by decide))
    refine w_load (.iload_n 2) 10 (by decide +kernel) rfl rfl ?_
    refine w_callS1 110 1 13 (by decide +kernel) (Nat.le_of_ble_eq_true rfl) rfl (by decide) (by omega) ?_
    refine k_110 hS.1  (by omega) (fun r4 hr4 => ?_)
    dsimp only [Option.toList, List.cons_append, List.nil_append]
    rcases hr4 with ⟨rfl, k5, hk5, rfl⟩ | ⟨rfl, hnok5⟩
    · skip
      refine w_ine 19 16 (by decide +kernel) (fun _ => ?_) (fun hz => absurd hz (by decide))
      refine w_load (.aload_n 0) 20 (by decide +kernel) rfl rfl ?_
      refine w_getR (k := 1) (r := 3) 23 (by decide +kernel) sh_0 rfl ?_
      refine w_load (.iload_n 1) 24 (by decide +kernel) rfl rfl ?_
      refine w_tale 25 (by decide +kernel) (by omega) ?_
      refine w_callV0 37 2 1 28 (by decide +kernel) (sc_tale k2 (by omega)).1.1 (Nat.le_of_ble_eq_true rfl)  (by decide) (by omega) ?_
      obtain ⟨n7, hn7, en7⟩ := inv_s hS.1 (sc_tale k2 (by omega))
      refine k_37 hS.1 (sc_tale k2 (by omega)) (by omega) en7 (by omega) (fun r8 hr8 => ?_)
      dsimp only [Option.toList, List.cons_append, List.nil_append]
      rcases hr8 with ⟨rfl, hfull⟩ | ⟨rfl, hfull⟩
      · skip
        refine w_ieq 36 31 (by decide +kernel) (fun hz => absurd hz (by decide)) (fun _ => ?_)
        refine w_push (-4) 33 (by decide +kernel) ?_
        refine w_goto 46 (by decide +kernel) ?_
        exact w_ret (by decide +kernel) (hq _ N hS trivial)
      · skip
        refine w_ieq 36 31 (by decide +kernel) (fun _ => ?_) (fun hz => absurd hz (by decide))
        refine w_load (.aload_n 0) 37 (by decide +kernel) rfl rfl ?_
        refine w_getR (k := 1) (r := 3) 40 (by decide +kernel) sh_0 rfl ?_
        refine w_load (.iload_n 1) 41 (by decide +kernel) rfl rfl ?_
        refine w_tale 42 (by decide +kernel) (by omega) ?_
        refine w_load (.iload_n 2) 43 (by decide +kernel) rfl rfl ?_
        refine w_callV1 38 2 2 46 (by decide +kernel) (sc_tale k2 (by omega)).1.1 (Nat.le_of_ble_eq_true rfl) rfl (by decide) (by omega) ?_
        refine k_38 hS.1 (sc_tale k2 (by omega)) (by omega) en7 (by omega) (fun r11 N hT hr11 => ?_)
        have hS := hS.tr hT (by intro i k; first | exact rfl | omega | (dsimp only; omega) | (simp only [Hs, Tl, Sc, isHs, isScr, isTs] at *; omega))
        dsimp only [Option.toList, List.cons_append, List.nil_append]
        rcases hr11 with ⟨rfl, eadd⟩
        · skip
          exact w_ret (by decide +kernel) (hq _ N hS trivial)
    · skip
      refine w_ine 19 16 (by decide +kernel) (fun hz => absurd hz (by decide)) (fun _ => ?_)
      refine w_push (-2) 18 (by decide +kernel) ?_
      exact w_ret (by decide +kernel) (hq _ N hS trivial)
  · skip
    refine w_ine 9 7 (by decide +kernel) (fun hz => absurd hz (by decide)) (fun _ => ?_)
    refine w_push (-1) 8 (by decide +kernel) ?_
    exact w_ret (by decide +kernel) (hq _ N hS trivial)
-- X7_blot
set_option maxRecDepth 10000 in
theorem k_81 {d : Nat} {M : Mt} {L : Lt} {Q : Option Value → Mt → Lt → Prop} {a : Int32} (hI : Inv M)  (hd : 1 ≤ d) (hq : ∀ (r : Int32) (N : Mt), St (fun i _ => 70 ≤ i ∧ i ≤ 75) M N → True → Q (some (.int r)) N L) : Wp d 81 0 [.ref 0, .int a] [] M L Q := by
  refine (show ∀ N : Mt, N = M → St (fun i _ => 70 ≤ i ∧ i ≤ 75) M N → Wp d 81 0 [.ref 0, .int a] [] N L Q from ?_) M rfl (St.rf hI)
  intro N hNM hS
  refine w_load (.iload_n 1) 1 (by decide +kernel) rfl rfl ?_
  refine w_callS1 111 1 4 (by decide +kernel) (Nat.le_of_ble_eq_true rfl) rfl (by decide) (by omega) ?_
  refine k_111 hS.1  (by omega) (fun r1 hr1 => ?_)
  dsimp only [Option.toList, List.cons_append, List.nil_append]
  rcases hr1 with ⟨rfl, k2, hk2, rfl⟩ | ⟨rfl, hnok2⟩
  · skip
    refine w_ieq 19 7 (by decide +kernel) (fun hz => absurd hz (by decide)) (fun _ => ?_)
    refine w_load (.aload_n 0) 8 (by decide +kernel) rfl rfl ?_
    refine w_getR (k := 1) (r := 3) 11 (by decide +kernel) sh_0 rfl ?_
    refine w_load (.iload_n 1) 12 (by decide +kernel) rfl rfl ?_
    refine w_tale 13 (by decide +kernel) (by omega) ?_
    refine w_callV0 39 2 2 16 (by decide +kernel) (sc_tale k2 (by omega)).1.1 (Nat.le_of_ble_eq_true rfl)  (by decide) (by omega) ?_
    obtain ⟨n4, hn4, en4⟩ := inv_s hS.1 (sc_tale k2 (by omega))
    refine k_39 hS.1 (sc_tale k2 (by omega)) (by omega) en4 (by omega) (fun r5 N hT hr5 => ?_)
    have hS := hS.tr hT (by intro i k; first | exact rfl | omega | (dsimp only; omega) | (simp only [Hs, Tl, Sc, isHs, isScr, isTs] at *; omega))
    dsimp only [Option.toList, List.cons_append, List.nil_append]
    rcases hr5 with ⟨rfl, eemp⟩
    · skip
      refine w_goto 20 (by decide +kernel) ?_
      exact w_ret (by decide +kernel) (hq _ N hS trivial)
  · skip
    refine w_ieq 19 7 (by decide +kernel) (fun _ => ?_) (fun hz => absurd hz (by decide))
    refine w_push (-1) 20 (by decide +kernel) ?_
    exact w_ret (by decide +kernel) (hq _ N hS trivial)
-- X7_slip
set_option maxRecDepth 10000 in
theorem k_82 {d : Nat} {M : Mt} {L : Lt} {Q : Option Value → Mt → Lt → Prop} {a : Int32} (hI : Inv M)  (hd : 4 ≤ d) (hq : ∀ (r : Int32), True → Q (some (.int r)) M L) : Wp d 82 0 [.ref 0, .int a] [] M L Q := by
  refine w_load (.iload_n 1) 1 (by decide +kernel) rfl rfl ?_
  refine w_callS1 111 1 4 (by decide +kernel) (Nat.le_of_ble_eq_true rfl) rfl (by decide) (by omega) ?_
  refine k_111 hI  (by omega) (fun r1 hr1 => ?_)
  dsimp only [Option.toList, List.cons_append, List.nil_append]
  rcases hr1 with ⟨rfl, k2, hk2, rfl⟩ | ⟨rfl, hnok2⟩
  · skip
    refine w_ieq 19 7 (by decide +kernel) (fun hz => absurd hz (by decide)) (fun _ => ?_)
    refine w_load (.aload_n 0) 8 (by decide +kernel) rfl rfl ?_
    refine w_getR (k := 1) (r := 3) 11 (by decide +kernel) sh_0 rfl ?_
    refine w_load (.iload_n 1) 12 (by decide +kernel) rfl rfl ?_
    refine w_tale 13 (by decide +kernel) (by omega) ?_
    refine w_callV0 42 2 2 16 (by decide +kernel) (sc_tale k2 (by omega)).1.1 (Nat.le_of_ble_eq_true rfl)  (by decide) (by omega) ?_
    refine k_42 hI (sc_tale k2 (by omega)) (by omega) (fun r4 hr4 => ?_)
    dsimp only [Option.toList, List.cons_append, List.nil_append]
    refine w_goto 20 (by decide +kernel) ?_
    exact w_ret (by decide +kernel) (hq _ trivial)
  · skip
    refine w_ieq 19 7 (by decide +kernel) (fun _ => ?_) (fun hz => absurd hz (by decide))
    refine w_push (-1) 20 (by decide +kernel) ?_
    exact w_ret (by decide +kernel) (hq _ trivial)
-- X7_guest
set_option maxRecDepth 10000 in
theorem k_83 {d : Nat} {M : Mt} {L : Lt} {Q : Option Value → Mt → Lt → Prop} {g : Int32} {a : Int32} (hI : Inv M)  (hd : 2 ≤ d) (hq : ∀ (r : Int32), True → Q (some (.int r)) M L) : Wp d 83 0 [.ref 0, .int g, .int a] [] M L Q := by
  refine w_load (.aload_n 0) 1 (by decide +kernel) rfl rfl ?_
  refine w_getR (k := 2) (r := 4) 4 (by decide +kernel) sh_0 rfl ?_
  refine w_load (.iload_n 1) 5 (by decide +kernel) rfl rfl ?_
  refine w_callV1 11 1 2 8 (by decide +kernel) sh_4 (Nat.le_of_ble_eq_true rfl) rfl (by decide) (by omega) ?_
  refine k_11 hI hs_4 (by omega) (fun r1 hr1 => ?_)
  dsimp only [Option.toList, List.cons_append, List.nil_append]
  rcases hr1 with ⟨rfl, k2, hk2, rfl⟩ | rfl
  · skip
    refine w_ine 13 11 (by decide +kernel) (fun _ => ?_) (fun hz => absurd hz (by decide))
    refine w_load (.iload_n 2) 14 (by decide +kernel) rfl rfl ?_
    refine w_tab (show insAt 83 14 = some (.tableswitch 90 0 4 #[34, 43, 55, 64, 81]) by decide +kernel) (fun h4 => ⟨104, rfl, ?_⟩) (fun z5 h4 h4b => ?_)
    · skip
      refine w_push (-2) 106 (by decide +kernel) ?_
      exact w_ret (by decide +kernel) (hq _ trivial)
    · rcases (by omega : z5 = 0 ∨ z5 = 1 ∨ z5 = 2 ∨ z5 = 3 ∨ z5 = 4) with rfl | rfl | rfl | rfl | rfl
      · refine ⟨_, 48, rfl, rfl, ?_⟩
        refine w_load (.aload_n 0) 49 (by decide +kernel) rfl rfl ?_
        refine w_getR (k := 2) (r := 4) 52 (by decide +kernel) sh_0 rfl ?_
        refine w_load (.iload_n 1) 53 (by decide +kernel) rfl rfl ?_
        refine w_callV1 12 1 2 56 (by decide +kernel) sh_4 (Nat.le_of_ble_eq_true rfl) rfl (by decide) (by omega) ?_
        refine k_12 hI hs_4 (by omega) (fun r6 hr6 => ?_)
        dsimp only [Option.toList, List.cons_append, List.nil_append]
        exact w_ret (by decide +kernel) (hq _ trivial)
      · refine ⟨_, 57, rfl, rfl, ?_⟩
        refine w_load (.aload_n 0) 58 (by decide +kernel) rfl rfl ?_
        refine w_getR (k := 2) (r := 4) 61 (by decide +kernel) sh_0 rfl ?_
        refine w_load (.iload_n 1) 62 (by decide +kernel) rfl rfl ?_
        refine w_callV1 13 1 2 65 (by decide +kernel) sh_4 (Nat.le_of_ble_eq_true rfl) rfl (by decide) (by omega) ?_
        refine k_13 hI hs_4 (by omega) (fun r7 hr7 => ?_)
        dsimp only [Option.toList, List.cons_append, List.nil_append]
        refine w_pushN 100 67 (by decide +kernel) ?_
        refine w_pure .iadd 68 (by decide +kernel) rfl rfl ?_
        exact w_ret (by decide +kernel) (hq _ trivial)
      · refine ⟨_, 69, rfl, rfl, ?_⟩
        refine w_load (.aload_n 0) 70 (by decide +kernel) rfl rfl ?_
        refine w_getR (k := 2) (r := 4) 73 (by decide +kernel) sh_0 rfl ?_
        refine w_load (.iload_n 1) 74 (by decide +kernel) rfl rfl ?_
        refine w_callV1 15 1 2 77 (by decide +kernel) sh_4 (Nat.le_of_ble_eq_true rfl) rfl (by decide) (by omega) ?_
        refine k_15 hI hs_4 (by omega) (fun r8 hr8 => ?_)
        dsimp only [Option.toList, List.cons_append, List.nil_append]
        exact w_ret (by decide +kernel) (hq _ trivial)
      · refine ⟨_, 78, rfl, rfl, ?_⟩
        refine w_load (.aload_n 0) 79 (by decide +kernel) rfl rfl ?_
        refine w_getR (k := 2) (r := 4) 82 (by decide +kernel) sh_0 rfl ?_
        refine w_load (.iload_n 1) 83 (by decide +kernel) rfl rfl ?_
        refine w_callV1 16 1 2 86 (by decide +kernel) sh_4 (Nat.le_of_ble_eq_true rfl) rfl (by decide) (by omega) ?_
        refine k_16 hI hs_4 (by omega) (fun r9 hr9 => ?_)
        dsimp only [Option.toList, List.cons_append, List.nil_append]
        refine w_ieq 93 89 (by decide +kernel) (fun h10 => ?_) (fun h10 => ?_)
        · skip
          refine w_pushN 0 94 (by decide +kernel) ?_
          exact w_ret (by decide +kernel) (hq _ trivial)
        · skip
          refine w_pushN 1 90 (by decide +kernel) ?_
          refine w_goto 94 (by decide +kernel) ?_
          exact w_ret (by decide +kernel) (hq _ trivial)
      · refine ⟨_, 95, rfl, rfl, ?_⟩
        refine w_load (.aload_n 0) 96 (by decide +kernel) rfl rfl ?_
        refine w_getR (k := 2) (r := 4) 99 (by decide +kernel) sh_0 rfl ?_
        refine w_load (.iload_n 1) 100 (by decide +kernel) rfl rfl ?_
        refine w_callV1 14 1 2 103 (by decide +kernel) sh_4 (Nat.le_of_ble_eq_true rfl) rfl (by decide) (by omega) ?_
        refine k_14 hI hs_4 (by omega) (fun r11 hr11 => ?_)
        dsimp only [Option.toList, List.cons_append, List.nil_append]
        exact w_ret (by decide +kernel) (hq _ trivial)
  · skip
    refine w_ine 13 11 (by decide +kernel) (fun hz => absurd hz (by decide)) (fun _ => ?_)
    refine w_push (-1) 12 (by decide +kernel) ?_
    exact w_ret (by decide +kernel) (hq _ trivial)
-- X7_bears
set_option maxRecDepth 10000 in
theorem k_84 {d : Nat} {M : Mt} {L : Lt} {Q : Option Value → Mt → Lt → Prop} {a : Int32} (hI : Inv M)  (hd : 1 ≤ d) (hq : ∀ (r : Int32), True → Q (some (.int r)) M L) : Wp d 84 0 [.ref 0, .int a] [] M L Q := by
  refine w_load (.iload_n 1) 1 (by decide +kernel) rfl rfl ?_
  refine w_callS1 113 1 4 (by decide +kernel) (Nat.le_of_ble_eq_true rfl) rfl (by decide) (by omega) ?_
  refine k_113 hI  (by omega) (fun r1 hr1 => ?_)
  dsimp only [Option.toList, List.cons_append, List.nil_append]
  rcases hr1 with ⟨rfl, k2, hk2, rfl⟩ | ⟨rfl, hnok2⟩
  · skip
    refine w_ieq 18 7 (by decide +kernel) (fun hz => absurd hz (by decide)) (fun _ => ?_)
    refine w_load (.aload_n 0) 8 (by decide +kernel) rfl rfl ?_
    refine w_getR (k := 2) (r := 4) 11 (by decide +kernel) sh_0 rfl ?_
    refine w_load (.iload_n 1) 12 (by decide +kernel) rfl rfl ?_
    refine w_callV1 24 1 4 15 (by decide +kernel) sh_4 (Nat.le_of_ble_eq_true rfl) rfl (by decide) (by omega) ?_
    refine k_24 hI hs_4 (by omega) (fun r4 hr4 => ?_)
    dsimp only [Option.toList, List.cons_append, List.nil_append]
    refine w_goto 20 (by decide +kernel) ?_
    exact w_ret (by decide +kernel) (hq _ trivial)
  · skip
    refine w_ieq 18 7 (by decide +kernel) (fun _ => ?_) (fun hz => absurd hz (by decide))
    refine w_push (-2) 20 (by decide +kernel) ?_
    exact w_ret (by decide +kernel) (hq _ trivial)
-- X7_holdAct
set_option maxRecDepth 10000 in
theorem k_121 {d : Nat} {M : Mt} {L : Lt} {Q : Option Value → Mt → Lt → Prop}  (hI : Inv M)  (hd : 2 ≤ d) (hq : ∀ (N : Mt), St (fun i k => (4 ≤ i ∧ i ≤ 63) ∨ i = 68 ∨ i = 69 ∨ (i = 0 ∧ (k = 14 ∨ k = 15))) M N → True → Q none N L) : Wp d 121 0 [.ref 0] [] M L Q := by
  refine (show ∀ N : Mt, N = M → St (fun i k => (4 ≤ i ∧ i ≤ 63) ∨ i = 68 ∨ i = 69 ∨ (i = 0 ∧ (k = 14 ∨ k = 15))) M N → Wp d 121 0 [.ref 0] [] N L Q from ?_) M rfl (St.rf hI)
  intro N hNM hS
  refine w_load (.aload_n 0) 1 (by decide +kernel) rfl rfl ?_
  refine w_getN (B := 12) (k := 14) 4 (by decide +kernel) sh_0 rfl (inv_acts hS.1) (fun n1 hn1 en1 => ?_)
  refine w_pushN 12 6 (by decide +kernel) ?_
  refine w_cneN 26 9 (by decide +kernel) (by omega) (by omega) (fun h2 => ?_) (fun h2 => ?_)
  · skip
    refine w_load (.aload_n 0) 27 (by decide +kernel) rfl rfl ?_
    refine w_getR (k := 7) (r := 58) 30 (by decide +kernel) sh_0 rfl ?_
    refine w_load (.aload_n 0) 31 (by decide +kernel) rfl rfl ?_
    refine w_getK (k := 14) 34 (by decide +kernel) sh_0 rfl en1 ?_
    refine w_load (.aload_n 0) 35 (by decide +kernel) rfl rfl ?_
    refine w_getR (k := 2) (r := 4) 38 (by decide +kernel) sh_0 rfl ?_
    refine w_callV2 55 4 3 41 (by decide +kernel) sh_58 (Nat.le_of_ble_eq_true rfl) rfl rfl (by decide) (by omega) ?_
    refine k_55 hS.1 shf_58 (by decide) (by omega) hs_4 (by omega) (fun N hT hr3 => ?_)
    have kn4 := (hT.2 (0) 14 (by (try dsimp only); omega)).trans en1
    have hS := hS.tr hT (by intro i k; first | exact rfl | omega | (dsimp only; omega) | (simp only [Hs, Tl, Sc, isHs, isScr, isTs] at *; omega))
    dsimp only [Option.toList, List.nil_append]
    refine w_load (.aload_n 0) 42 (by decide +kernel) rfl rfl ?_
    refine w_pure .dup 43 (by decide +kernel) rfl rfl ?_
    refine w_getK (k := 14) 46 (by decide +kernel) sh_0 rfl kn4 ?_
    refine w_pushN 1 47 (by decide +kernel) ?_
    refine w_addN (n1 + 1) 48 (by decide +kernel) (by omega) ?_
    refine w_putW (k := 14) 51 (by decide +kernel) sh_0 rfl hS (rg_acts (by omega)) (by first | exact rfl | omega | (dsimp only; omega) | (simp only [Hs, Tl, Sc, isHs, isScr, isTs] at *; omega)) (fun N hS hq5 oq5 => ?_)
    exact w_retV (by decide +kernel) (hq N hS trivial)
  · skip
    refine w_load (.aload_n 0) 10 (by decide +kernel) rfl rfl ?_
    refine w_getR (k := 7) (r := 58) 13 (by decide +kernel) sh_0 rfl ?_
    refine w_callV0 58 4 1 16 (by decide +kernel) sh_58 (Nat.le_of_ble_eq_true rfl)  (by decide) (by omega) ?_
    refine k_58 hS.1 shf_58 (by decide) (by omega) (by omega) (fun N hT hr6 => ?_)
    have kn7 := (hT.2 (0) 14 (by (try dsimp only); omega)).trans en1
    have hS := hS.tr hT (by intro i k; first | exact rfl | omega | (dsimp only; omega) | (simp only [Hs, Tl, Sc, isHs, isScr, isTs] at *; omega))
    dsimp only [Option.toList, List.nil_append]
    refine w_load (.aload_n 0) 17 (by decide +kernel) rfl rfl ?_
    refine w_pure .dup 18 (by decide +kernel) rfl rfl ?_
    refine w_getK (k := 14) 21 (by decide +kernel) sh_0 rfl kn7 ?_
    refine w_pushN 1 22 (by decide +kernel) ?_
    refine w_subN (n1 - 1) 23 (by decide +kernel) (by omega) rfl ?_
    refine w_putW (k := 14) 26 (by decide +kernel) sh_0 rfl hS (rg_acts (by omega)) (by first | exact rfl | omega | (dsimp only; omega) | (simp only [Hs, Tl, Sc, isHs, isScr, isTs] at *; omega)) (fun N hS hq8 oq8 => ?_)
    refine w_load (.aload_n 0) 27 (by decide +kernel) rfl rfl ?_
    refine w_getR (k := 7) (r := 58) 30 (by decide +kernel) sh_0 rfl ?_
    refine w_load (.aload_n 0) 31 (by decide +kernel) rfl rfl ?_
    refine w_getK (k := 14) 34 (by decide +kernel) sh_0 rfl hq8 ?_
    refine w_load (.aload_n 0) 35 (by decide +kernel) rfl rfl ?_
    refine w_getR (k := 2) (r := 4) 38 (by decide +kernel) sh_0 rfl ?_
    refine w_callV2 55 4 3 41 (by decide +kernel) sh_58 (Nat.le_of_ble_eq_true rfl) rfl rfl (by decide) (by omega) ?_
    refine k_55 hS.1 shf_58 (by decide) (by omega) hs_4 (by omega) (fun N hT hr9 => ?_)
    have kn10 := (hT.2 (0) 14 (by (try dsimp only); omega)).trans hq8
    have hS := hS.tr hT (by intro i k; first | exact rfl | omega | (dsimp only; omega) | (simp only [Hs, Tl, Sc, isHs, isScr, isTs] at *; omega))
    dsimp only [Option.toList, List.nil_append]
    refine w_load (.aload_n 0) 42 (by decide +kernel) rfl rfl ?_
    refine w_pure .dup 43 (by decide +kernel) rfl rfl ?_
    refine w_getK (k := 14) 46 (by decide +kernel) sh_0 rfl kn10 ?_
    refine w_pushN 1 47 (by decide +kernel) ?_
    refine w_addN ((n1 - 1) + 1) 48 (by decide +kernel) (by omega) ?_
    refine w_putW (k := 14) 51 (by decide +kernel) sh_0 rfl hS (rg_acts (by omega)) (by first | exact rfl | omega | (dsimp only; omega) | (simp only [Hs, Tl, Sc, isHs, isScr, isTs] at *; omega)) (fun N hS hq11 oq11 => ?_)
    exact w_retV (by decide +kernel) (hq N hS trivial)
-- X7_tell
set_option maxRecDepth 10000 in
theorem k_85 {d : Nat} {M : Mt} {L : Lt} {Q : Option Value → Mt → Lt → Prop} {a : Int32} (hI : Inv M)  (hd : 6 ≤ d) (hq : ∀ (r : Int32) (N : Mt), St (fun i k => (4 ≤ i ∧ i ≤ 63) ∨ i = 68 ∨ i = 69 ∨ (i = 0 ∧ (k = 14 ∨ k = 15))) M N → True → Q (some (.int r)) N L) : Wp d 85 0 [.ref 0, .int a] [] M L Q := by
  refine (show ∀ N : Mt, N = M → St (fun i k => (4 ≤ i ∧ i ≤ 63) ∨ i = 68 ∨ i = 69 ∨ (i = 0 ∧ (k = 14 ∨ k = 15))) M N → Wp d 85 0 [.ref 0, .int a] [] N L Q from ?_) M rfl (St.rf hI)
  intro N hNM hS
  refine w_load (.iload_n 1) 1 (by decide +kernel) rfl rfl ?_
  refine w_callS1 111 1 4 (by decide +kernel) (Nat.le_of_ble_eq_true rfl) rfl (by decide) (by omega) ?_
  refine k_111 hS.1  (by omega) (fun r1 hr1 => ?_)
  dsimp only [Option.toList, List.cons_append, List.nil_append]
  rcases hr1 with ⟨rfl, k2, hk2, rfl⟩ | ⟨rfl, hnok2⟩
  · skip
    refine w_ine 9 7 (by decide +kernel) (fun _ => ?_) (fun hz => absurd hz (by decide))
    refine w_load (.aload_n 0) 10 (by decide +kernel) rfl rfl ?_
    refine w_callV0 121 7 1 13 (by decide +kernel) sh_0 (Nat.le_of_ble_eq_true rfl)  (by decide) (by omega) ?_
    refine k_121 hS.1  (by omega) (fun N hT hr4 => ?_)
    have hS := hS.tr hT (by intro i k; first | exact rfl | omega | (dsimp only; omega) | (simp only [Hs, Tl, Sc, isHs, isScr, isTs] at *; omega))
    dsimp only [Option.toList, List.nil_append]
    refine w_load (.aload_n 0) 14 (by decide +kernel) rfl rfl ?_
    refine w_getR (k := 4) (r := 10) 17 (by decide +kernel) sh_0 rfl ?_
    refine w_load (.aload_n 0) 18 (by decide +kernel) rfl rfl ?_
    refine w_getR (k := 2) (r := 4) 21 (by decide +kernel) sh_0 rfl ?_
    refine w_load (.aload_n 0) 22 (by decide +kernel) rfl rfl ?_
    refine w_getR (k := 1) (r := 3) 25 (by decide +kernel) sh_0 rfl ?_
    refine w_load (.iload_n 1) 26 (by decide +kernel) rfl rfl ?_
    refine w_tale 27 (by decide +kernel) (by omega) ?_
    refine w_callV2 68 6 5 30 (by decide +kernel) sh_10 (Nat.le_of_ble_eq_true rfl) rfl rfl (by decide) (by omega) ?_
    refine k_68 hS.1 tl_10 hs_4 (sc_tale k2 (by omega)) (by omega) (fun N hT hr5 => ?_)
    have hS := hS.tr hT (by intro i k; first | exact rfl | omega | (dsimp only; omega) | (simp only [Hs, Tl, Sc, isHs, isScr, isTs] at *; omega))
    dsimp only [Option.toList, List.nil_append]
    refine w_load (.aload_n 0) 31 (by decide +kernel) rfl rfl ?_
    refine w_getR (k := 2) (r := 4) 34 (by decide +kernel) sh_0 rfl ?_
    refine w_load (.aload_n 0) 35 (by decide +kernel) rfl rfl ?_
    refine w_getR (k := 4) (r := 10) 38 (by decide +kernel) sh_0 rfl ?_
    refine w_getR (k := 0) (r := 11) 41 (by decide +kernel) sh_10 rfl ?_
    refine w_callV1 9 1 2 44 (by decide +kernel) sh_4 (Nat.le_of_ble_eq_true rfl) rfl (by decide) (by omega) ?_
    refine k_9 hS.1 hs_4 hs_11 (by omega) (fun N hT hr6 => ?_)
    have hS := hS.tr hT (by intro i k; first | exact rfl | omega | (dsimp only; omega) | (simp only [Hs, Tl, Sc, isHs, isScr, isTs] at *; omega))
    dsimp only [Option.toList, List.nil_append]
    refine w_load (.aload_n 0) 45 (by decide +kernel) rfl rfl ?_
    refine w_getR (k := 4) (r := 10) 48 (by decide +kernel) sh_0 rfl ?_
    refine w_getI (k := 2) 51 (by decide +kernel) sh_10 rfl ?_
    exact w_ret (by decide +kernel) (hq _ N hS trivial)
  · skip
    refine w_ine 9 7 (by decide +kernel) (fun hz => absurd hz (by decide)) (fun _ => ?_)
    refine w_push (-1) 8 (by decide +kernel) ?_
    exact w_ret (by decide +kernel) (hq _ N hS trivial)
-- X7_give
set_option maxRecDepth 10000 in
theorem k_86 {d : Nat} {M : Mt} {L : Lt} {Q : Option Value → Mt → Lt → Prop} {g : Int32} {a : Int32} (hI : Inv M)  (hd : 3 ≤ d) (hq : ∀ (r : Int32) (N : Mt), St (fun i k => (4 ≤ i ∧ i ≤ 63) ∨ i = 68 ∨ i = 69 ∨ (i = 0 ∧ (k = 14 ∨ k = 15))) M N → True → Q (some (.int r)) N L) : Wp d 86 0 [.ref 0, .int g, .int a, .null] [] M L Q := by
  refine (show ∀ N : Mt, N = M → St (fun i k => (4 ≤ i ∧ i ≤ 63) ∨ i = 68 ∨ i = 69 ∨ (i = 0 ∧ (k = 14 ∨ k = 15))) M N → Wp d 86 0 [.ref 0, .int g, .int a, .null] [] N L Q from ?_) M rfl (St.rf hI)
  intro N hNM hS
  refine w_load (.aload_n 0) 1 (by decide +kernel) rfl rfl ?_
  refine w_getR (k := 2) (r := 4) 4 (by decide +kernel) sh_0 rfl ?_
  refine w_load (.iload_n 1) 5 (by decide +kernel) rfl rfl ?_
  refine w_callV1 11 1 2 8 (by decide +kernel) sh_4 (Nat.le_of_ble_eq_true rfl) rfl (by decide) (by omega) ?_
  refine k_11 hS.1 hs_4 (by omega) (fun r1 hr1 => ?_)
  dsimp only [Option.toList, List.cons_append, List.nil_append]
  rcases hr1 with ⟨rfl, k2, hk2, rfl⟩ | rfl
  · skip
    refine w_ine 13 11 (by decide +kernel) (fun _ => ?_) (fun hz => absurd hz (by decide))
    refine w_load (.iload_n 2) 14 (by decide +kernel) rfl rfl ?_
    refine w_callS1 113 1 17 (by decide +kernel) (Nat.le_of_ble_eq_true rfl) rfl (by decide) (by omega) ?_
    refine k_113 hS.1  (by omega) (fun r4 hr4 => ?_)
    dsimp only [Option.toList, List.cons_append, List.nil_append]
    rcases hr4 with ⟨rfl, k5, hk5, rfl⟩ | ⟨rfl, hnok5⟩
    · skip
      refine w_ine 23 20 (by decide +kernel) (fun _ => ?_) (fun hz => absurd hz (by decide))
      refine w_load (.aload_n 0) 24 (by decide +kernel) rfl rfl ?_
      refine w_getR (k := 2) (r := 4) 27 (by decide +kernel) sh_0 rfl ?_
      refine w_load (.iload_n 1) 28 (by decide +kernel) rfl rfl ?_
      refine w_callV1 12 1 2 31 (by decide +kernel) sh_4 (Nat.le_of_ble_eq_true rfl) rfl (by decide) (by omega) ?_
      refine k_12 hS.1 hs_4 (by omega) (fun r7 hr7 => ?_)
      dsimp only [Option.toList, List.cons_append, List.nil_append]
      refine w_store (ls' := [.ref 0, .int (nI k2), .int (nI k5), .int r7]) (.istore_n 3) 32 (by decide +kernel) rfl rfl ?_
      refine w_load (.aload_n 0) 33 (by decide +kernel) rfl rfl ?_
      refine w_getR (k := 2) (r := 4) 36 (by decide +kernel) sh_0 rfl ?_
      refine w_load (.iload_n 1) 37 (by decide +kernel) rfl rfl ?_
      refine w_callV1 16 1 2 40 (by decide +kernel) sh_4 (Nat.le_of_ble_eq_true rfl) rfl (by decide) (by omega) ?_
      refine k_16 hS.1 hs_4 (by omega) (fun r8 hr8 => ?_)
      dsimp only [Option.toList, List.cons_append, List.nil_append]
      refine w_ieq 48 43 (by decide +kernel) (fun h9 => ?_) (fun h9 => ?_)
      · skip
        refine w_push (-3) 50 (by decide +kernel) ?_
        exact w_ret (by decide +kernel) (hq _ N hS trivial)
      · skip
        refine w_load (.iload_n 3) 44 (by decide +kernel) rfl rfl ?_
        refine w_load (.iload_n 2) 45 (by decide +kernel) rfl rfl ?_
        refine w_cne 51 48 (by decide +kernel) (fun h10 => ?_) (fun h10 => ?_)
        · skip
          refine w_load (.aload_n 0) 52 (by decide +kernel) rfl rfl ?_
          refine w_callV0 121 7 1 55 (by decide +kernel) sh_0 (Nat.le_of_ble_eq_true rfl)  (by decide) (by omega) ?_
          refine k_121 hS.1  (by omega) (fun N hT hr11 => ?_)
          have hS := hS.tr hT (by intro i k; first | exact rfl | omega | (dsimp only; omega) | (simp only [Hs, Tl, Sc, isHs, isScr, isTs] at *; omega))
          dsimp only [Option.toList, List.nil_append]
          refine w_load (.aload_n 0) 56 (by decide +kernel) rfl rfl ?_
          refine w_getR (k := 2) (r := 4) 59 (by decide +kernel) sh_0 rfl ?_
          refine w_load (.iload_n 1) 60 (by decide +kernel) rfl rfl ?_
          refine w_load (.iload_n 2) 61 (by decide +kernel) rfl rfl ?_
          refine w_callV2 26 1 3 64 (by decide +kernel) sh_4 (Nat.le_of_ble_eq_true rfl) rfl rfl (by decide) (by omega) ?_
          refine k_26 hS.1 hs_4 (by omega) (fun N hT hr12 => ?_)
          have hS := hS.tr hT (by intro i k; first | exact rfl | omega | (dsimp only; omega) | (simp only [Hs, Tl, Sc, isHs, isScr, isTs] at *; omega))
          dsimp only [Option.toList, List.nil_append]
          refine w_load (.iload_n 3) 65 (by decide +kernel) rfl rfl ?_
          exact w_ret (by decide +kernel) (hq _ N hS trivial)
        · skip
          refine w_push (-3) 50 (by decide +kernel) ?_
          exact w_ret (by decide +kernel) (hq _ N hS trivial)
    · skip
      refine w_ine 23 20 (by decide +kernel) (fun hz => absurd hz (by decide)) (fun _ => ?_)
      refine w_push (-2) 22 (by decide +kernel) ?_
      exact w_ret (by decide +kernel) (hq _ N hS trivial)
  · skip
    refine w_ine 13 11 (by decide +kernel) (fun hz => absurd hz (by decide)) (fun _ => ?_)
    refine w_push (-1) 12 (by decide +kernel) ?_
    exact w_ret (by decide +kernel) (hq _ N hS trivial)
-- X7_undo
set_option maxRecDepth 10000 in
theorem k_87 {d : Nat} {M : Mt} {L : Lt} {Q : Option Value → Mt → Lt → Prop}  (hI : Inv M)  (hd : 2 ≤ d) (hq : ∀ (r : Int32) (N : Mt), St (fun i k => (4 ≤ i ∧ i ≤ 63) ∨ i = 68 ∨ i = 69 ∨ (i = 0 ∧ (k = 14 ∨ k = 15))) M N → True → Q (some (.int r)) N L) : Wp d 87 0 [.ref 0] [] M L Q := by
  refine (show ∀ N : Mt, N = M → St (fun i k => (4 ≤ i ∧ i ≤ 63) ∨ i = 68 ∨ i = 69 ∨ (i = 0 ∧ (k = 14 ∨ k = 15))) M N → Wp d 87 0 [.ref 0] [] N L Q from ?_) M rfl (St.rf hI)
  intro N hNM hS
  refine w_load (.aload_n 0) 1 (by decide +kernel) rfl rfl ?_
  refine w_getN (B := 12) (k := 14) 4 (by decide +kernel) sh_0 rfl (inv_acts hS.1) (fun n1 hn1 en1 => ?_)
  refine w_ineN 10 7 (by decide +kernel) (by omega) (fun h2 => ?_) (fun h2 => ?_)
  · skip
    refine w_load (.aload_n 0) 11 (by decide +kernel) rfl rfl ?_
    refine w_pure .dup 12 (by decide +kernel) rfl rfl ?_
    refine w_getK (k := 14) 15 (by decide +kernel) sh_0 rfl en1 ?_
    refine w_pushN 1 16 (by decide +kernel) ?_
    refine w_subN (n1 - 1) 17 (by decide +kernel) (by omega) rfl ?_
    refine w_putW (k := 14) 20 (by decide +kernel) sh_0 rfl hS (rg_acts (by omega)) (by first | exact rfl | omega | (dsimp only; omega) | (simp only [Hs, Tl, Sc, isHs, isScr, isTs] at *; omega)) (fun N hS hq3 oq3 => ?_)
    refine w_load (.aload_n 0) 21 (by decide +kernel) rfl rfl ?_
    refine w_getR (k := 7) (r := 58) 24 (by decide +kernel) sh_0 rfl ?_
    refine w_load (.aload_n 0) 25 (by decide +kernel) rfl rfl ?_
    refine w_getK (k := 14) 28 (by decide +kernel) sh_0 rfl hq3 ?_
    refine w_load (.aload_n 0) 29 (by decide +kernel) rfl rfl ?_
    refine w_getR (k := 2) (r := 4) 32 (by decide +kernel) sh_0 rfl ?_
    refine w_callV2 56 4 3 35 (by decide +kernel) sh_58 (Nat.le_of_ble_eq_true rfl) rfl rfl (by decide) (by omega) ?_
    refine k_56 hS.1 shf_58 (by decide) (by omega) hs_4 (by omega) (fun N hT hr4 => ?_)
    have kn5 := (hT.2 (0) 14 (by (try dsimp only); omega)).trans hq3
    have hS := hS.tr hT (by intro i k; first | exact rfl | omega | (dsimp only; omega) | (simp only [Hs, Tl, Sc, isHs, isScr, isTs] at *; omega))
    dsimp only [Option.toList, List.nil_append]
    refine w_load (.aload_n 0) 36 (by decide +kernel) rfl rfl ?_
    refine w_getK (k := 14) 39 (by decide +kernel) sh_0 rfl kn5 ?_
    exact w_ret (by decide +kernel) (hq _ N hS trivial)
  · skip
    refine w_push (-3) 9 (by decide +kernel) ?_
    exact w_ret (by decide +kernel) (hq _ N hS trivial)
-- X7_would
set_option maxRecDepth 10000 in
theorem k_88 {d : Nat} {M : Mt} {L : Lt} {Q : Option Value → Mt → Lt → Prop} {a : Int32} {b : Int32} (hI : Inv M)  (hd : 6 ≤ d) (hq : ∀ (r : Int32) (N : Mt), St (fun i k => (4 ≤ i ∧ i ≤ 63) ∨ i = 68 ∨ i = 69 ∨ (i = 0 ∧ (k = 14 ∨ k = 15))) M N → True → Q (some (.int r)) N L) : Wp d 88 0 [.ref 0, .int a, .int b] [] M L Q := by
  refine (show ∀ N : Mt, N = M → St (fun i k => (4 ≤ i ∧ i ≤ 63) ∨ i = 68 ∨ i = 69 ∨ (i = 0 ∧ (k = 14 ∨ k = 15))) M N → Wp d 88 0 [.ref 0, .int a, .int b] [] N L Q from ?_) M rfl (St.rf hI)
  intro N hNM hS
  refine w_load (.iload_n 1) 1 (by decide +kernel) rfl rfl ?_
  refine w_callS1 111 1 4 (by decide +kernel) (Nat.le_of_ble_eq_true rfl) rfl (by decide) (by omega) ?_
  refine k_111 hS.1  (by omega) (fun r1 hr1 => ?_)
  dsimp only [Option.toList, List.cons_append, List.nil_append]
  rcases hr1 with ⟨rfl, k2, hk2, rfl⟩ | ⟨rfl, hnok2⟩
  · skip
    refine w_ine 9 7 (by decide +kernel) (fun _ => ?_) (fun hz => absurd hz (by decide))
    refine w_load (.iload_n 2) 10 (by decide +kernel) rfl rfl ?_
    refine w_ilt 18 13 (by decide +kernel) (fun h4 => ?_) (fun h4 => ?_)
    · skip
      refine w_push (-2) 20 (by decide +kernel) ?_
      exact w_ret (by decide +kernel) (hq _ N hS trivial)
    · skip
      refine w_load (.iload_n 2) 14 (by decide +kernel) rfl rfl ?_
      refine w_pushN 3 15 (by decide +kernel) ?_
      refine w_cle 21 18 (by decide +kernel) (fun h5 => ?_) (fun h5 => ?_)
      · skip
        refine w_load (.aload_n 0) 22 (by decide +kernel) rfl rfl ?_
        refine w_getR (k := 4) (r := 10) 25 (by decide +kernel) sh_0 rfl ?_
        refine w_load (.aload_n 0) 26 (by decide +kernel) rfl rfl ?_
        refine w_getR (k := 2) (r := 4) 29 (by decide +kernel) sh_0 rfl ?_
        refine w_load (.aload_n 0) 30 (by decide +kernel) rfl rfl ?_
        refine w_getR (k := 1) (r := 3) 33 (by decide +kernel) sh_0 rfl ?_
        refine w_load (.iload_n 1) 34 (by decide +kernel) rfl rfl ?_
        refine w_tale 35 (by decide +kernel) (by omega) ?_
        refine w_callV2 68 6 5 38 (by decide +kernel) sh_10 (Nat.le_of_ble_eq_true rfl) rfl rfl (by decide) (by omega) ?_
        refine k_68 hS.1 tl_10 hs_4 (sc_tale k2 (by omega)) (by omega) (fun N hT hr6 => ?_)
        have hS := hS.tr hT (by intro i k; first | exact rfl | omega | (dsimp only; omega) | (simp only [Hs, Tl, Sc, isHs, isScr, isTs] at *; omega))
        dsimp only [Option.toList, List.nil_append]
        refine w_load (.iload_n 2) 39 (by decide +kernel) rfl rfl ?_
        refine w_tab (show insAt 88 39 = some (.tableswitch 52 0 2 #[25, 33, 41]) by decide +kernel) (fun h7 => ⟨91, rfl, ?_⟩) (fun z8 h7 h7b => ?_)
        · skip
          refine w_load (.aload_n 0) 92 (by decide +kernel) rfl rfl ?_
          refine w_getR (k := 4) (r := 10) 95 (by decide +kernel) sh_0 rfl ?_
          refine w_getR (k := 0) (r := 11) 98 (by decide +kernel) sh_10 rfl ?_
          refine w_callV0 23 1 3 101 (by decide +kernel) sh_11 (Nat.le_of_ble_eq_true rfl)  (by decide) (by omega) ?_
          refine k_23 hS.1 hs_11 (by omega) (fun r9 hr9 => ?_)
          dsimp only [Option.toList, List.cons_append, List.nil_append]
          refine w_pushN 1000 104 (by decide +kernel) ?_
          refine w_pure .iadd 105 (by decide +kernel) rfl rfl ?_
          exact w_ret (by decide +kernel) (hq _ N hS trivial)
        · rcases (by omega : z8 = 0 ∨ z8 = 1 ∨ z8 = 2) with rfl | rfl | rfl
          · refine ⟨_, 64, rfl, rfl, ?_⟩
            refine w_load (.aload_n 0) 65 (by decide +kernel) rfl rfl ?_
            refine w_getR (k := 4) (r := 10) 68 (by decide +kernel) sh_0 rfl ?_
            refine w_getI (k := 2) 71 (by decide +kernel) sh_10 rfl ?_
            exact w_ret (by decide +kernel) (hq _ N hS trivial)
          · refine ⟨_, 72, rfl, rfl, ?_⟩
            refine w_load (.aload_n 0) 73 (by decide +kernel) rfl rfl ?_
            refine w_getR (k := 4) (r := 10) 76 (by decide +kernel) sh_0 rfl ?_
            refine w_getI (k := 3) 79 (by decide +kernel) sh_10 rfl ?_
            exact w_ret (by decide +kernel) (hq _ N hS trivial)
          · refine ⟨_, 80, rfl, rfl, ?_⟩
            refine w_load (.aload_n 0) 81 (by decide +kernel) rfl rfl ?_
            refine w_getR (k := 4) (r := 10) 84 (by decide +kernel) sh_0 rfl ?_
            refine w_getR (k := 0) (r := 11) 87 (by decide +kernel) sh_10 rfl ?_
            refine w_callV0 20 1 1 90 (by decide +kernel) sh_11 (Nat.le_of_ble_eq_true rfl)  (by decide) (by omega) ?_
            refine k_20 hS.1 hs_11 (by omega) (fun r10 hr10 => ?_)
            dsimp only [Option.toList, List.cons_append, List.nil_append]
            exact w_ret (by decide +kernel) (hq _ N hS trivial)
      · skip
        refine w_push (-2) 20 (by decide +kernel) ?_
        exact w_ret (by decide +kernel) (hq _ N hS trivial)
  · skip
    refine w_ine 9 7 (by decide +kernel) (fun hz => absurd hz (by decide)) (fun _ => ?_)
    refine w_push (-1) 8 (by decide +kernel) ?_
    exact w_ret (by decide +kernel) (hq _ N hS trivial)
-- X7_coins
set_option maxRecDepth 10000 in
theorem k_89 {d : Nat} {M : Mt} {L : Lt} {Q : Option Value → Mt → Lt → Prop} {a : Int32} {g : Int32} (hI : Inv M)  (hd : 6 ≤ d) (hq : ∀ (r : Int32) (N : Mt), St (fun i k => (4 ≤ i ∧ i ≤ 63) ∨ i = 68 ∨ i = 69 ∨ (i = 0 ∧ (k = 14 ∨ k = 15))) M N → True → Q (some (.int r)) N L) : Wp d 89 0 [.ref 0, .int a, .int g] [] M L Q := by
  refine (show ∀ N : Mt, N = M → St (fun i k => (4 ≤ i ∧ i ≤ 63) ∨ i = 68 ∨ i = 69 ∨ (i = 0 ∧ (k = 14 ∨ k = 15))) M N → Wp d 89 0 [.ref 0, .int a, .int g] [] N L Q from ?_) M rfl (St.rf hI)
  intro N hNM hS
  refine w_load (.iload_n 1) 1 (by decide +kernel) rfl rfl ?_
  refine w_callS1 111 1 4 (by decide +kernel) (Nat.le_of_ble_eq_true rfl) rfl (by decide) (by omega) ?_
  refine k_111 hS.1  (by omega) (fun r1 hr1 => ?_)
  dsimp only [Option.toList, List.cons_append, List.nil_append]
  rcases hr1 with ⟨rfl, k2, hk2, rfl⟩ | ⟨rfl, hnok2⟩
  · skip
    refine w_ieq 18 7 (by decide +kernel) (fun hz => absurd hz (by decide)) (fun _ => ?_)
    refine w_load (.aload_n 0) 8 (by decide +kernel) rfl rfl ?_
    refine w_getR (k := 2) (r := 4) 11 (by decide +kernel) sh_0 rfl ?_
    refine w_load (.iload_n 2) 12 (by decide +kernel) rfl rfl ?_
    refine w_callV1 11 1 2 15 (by decide +kernel) sh_4 (Nat.le_of_ble_eq_true rfl) rfl (by decide) (by omega) ?_
    refine k_11 hS.1 hs_4 (by omega) (fun r4 hr4 => ?_)
    dsimp only [Option.toList, List.cons_append, List.nil_append]
    rcases hr4 with ⟨rfl, k5, hk5, rfl⟩ | rfl
    · skip
      refine w_ine 20 18 (by decide +kernel) (fun _ => ?_) (fun hz => absurd hz (by decide))
      refine w_load (.aload_n 0) 21 (by decide +kernel) rfl rfl ?_
      refine w_getR (k := 4) (r := 10) 24 (by decide +kernel) sh_0 rfl ?_
      refine w_load (.aload_n 0) 25 (by decide +kernel) rfl rfl ?_
      refine w_getR (k := 2) (r := 4) 28 (by decide +kernel) sh_0 rfl ?_
      refine w_load (.aload_n 0) 29 (by decide +kernel) rfl rfl ?_
      refine w_getR (k := 1) (r := 3) 32 (by decide +kernel) sh_0 rfl ?_
      refine w_load (.iload_n 1) 33 (by decide +kernel) rfl rfl ?_
      refine w_tale 34 (by decide +kernel) (by omega) ?_
      refine w_callV2 68 6 5 37 (by decide +kernel) sh_10 (Nat.le_of_ble_eq_true rfl) rfl rfl (by decide) (by omega) ?_
      refine k_68 hS.1 tl_10 hs_4 (sc_tale k2 (by omega)) (by omega) (fun N hT hr7 => ?_)
      have hS := hS.tr hT (by intro i k; first | exact rfl | omega | (dsimp only; omega) | (simp only [Hs, Tl, Sc, isHs, isScr, isTs] at *; omega))
      dsimp only [Option.toList, List.nil_append]
      refine w_load (.aload_n 0) 38 (by decide +kernel) rfl rfl ?_
      refine w_getR (k := 4) (r := 10) 41 (by decide +kernel) sh_0 rfl ?_
      refine w_getR (k := 0) (r := 11) 44 (by decide +kernel) sh_10 rfl ?_
      refine w_load (.iload_n 2) 45 (by decide +kernel) rfl rfl ?_
      refine w_callV1 13 1 2 48 (by decide +kernel) sh_11 (Nat.le_of_ble_eq_true rfl) rfl (by decide) (by omega) ?_
      refine k_13 hS.1 hs_11 (by omega) (fun r8 hr8 => ?_)
      dsimp only [Option.toList, List.cons_append, List.nil_append]
      refine w_pushN 100 50 (by decide +kernel) ?_
      refine w_pure .iadd 51 (by decide +kernel) rfl rfl ?_
      exact w_ret (by decide +kernel) (hq _ N hS trivial)
    · skip
      refine w_ine 20 18 (by decide +kernel) (fun hz => absurd hz (by decide)) (fun _ => ?_)
      refine w_push (-1) 19 (by decide +kernel) ?_
      exact w_ret (by decide +kernel) (hq _ N hS trivial)
  · skip
    refine w_ieq 18 7 (by decide +kernel) (fun _ => ?_) (fun hz => absurd hz (by decide))
    refine w_push (-1) 19 (by decide +kernel) ?_
    exact w_ret (by decide +kernel) (hq _ N hS trivial)
end
section
theorem sw_nI {x : Int32} {lo : Int} {n k : Nat} (h : x.toInt = lo + n) (hk : lo + n = k ∧ k < 2 ^ 31) : x = nI k := by
  apply Int32.toInt_inj.mp
  rw [h, nI_toInt hk.2, hk.1]
theorem sw_le {x : Int32} {lo : Int} {n m : Nat} (h : x.toInt = lo + n) (hk : 0 ≤ lo ∧ lo + n ≤ m ∧ m < 2 ^ 31) : ∃ k, k ≤ m ∧ x = nI k := by
  refine ⟨(lo + n).toNat, by omega, ?_⟩
  apply Int32.toInt_inj.mp
  rw [h, nI_toInt (by omega)]
  omega
-- X7_isEndTold
set_option maxRecDepth 10000 in
theorem k_123 {d : Nat} {M : Mt} {L : Lt} {Q : Option Value → Mt → Lt → Prop} {e : Int32} {v : Int32} (hI : Inv M)  (hd : 1 ≤ d) (hq : ∀ (r : Int32), ((r = 1 ∧ ∃ k, k ≤ 3 ∧ e = nI k) ∨ r = 0) → Q (some (.int r)) M L) : Wp d 123 0 [.ref 0, .int e, .int v] [] M L Q := by
  refine w_load (.iload_n 1) 1 (by decide +kernel) rfl rfl ?_
  refine w_tab (show insAt 123 1 = some (.tableswitch 63 0 3 #[31, 33, 42, 58]) by decide +kernel) (fun h1 => ⟨64, rfl, ?_⟩) (fun z2 h1 h1b => ?_)
  · skip
    refine w_pushN 0 65 (by decide +kernel) ?_
    exact w_retZ (by decide +kernel) (Or.inl rfl) (hq _ (Or.inr rfl))
  · rcases (by omega : z2 = 0 ∨ z2 = 1 ∨ z2 = 2 ∨ z2 = 3) with rfl | rfl | rfl | rfl
    · refine ⟨_, 32, rfl, rfl, ?_⟩
      refine w_pushN 1 33 (by decide +kernel) ?_
      exact w_retZ (by decide +kernel) (Or.inr rfl) (hq _ (Or.inl ⟨rfl, sw_le (by assumption) (by decide)⟩))
    · refine ⟨_, 34, rfl, rfl, ?_⟩
      refine w_load (.aload_n 0) 35 (by decide +kernel) rfl rfl ?_
      refine w_getR (k := 2) (r := 4) 38 (by decide +kernel) sh_0 rfl ?_
      refine w_load (.iload_n 2) 39 (by decide +kernel) rfl rfl ?_
      refine w_callV1 11 1 2 42 (by decide +kernel) sh_4 (Nat.le_of_ble_eq_true rfl) rfl (by decide) (by omega) ?_
      refine k_11 hI hs_4 (by omega) (fun r3 hr3 => ?_)
      dsimp only [Option.toList, List.cons_append, List.nil_append]
      rcases hr3 with ⟨rfl, k4, hk4, rfl⟩ | rfl
      · skip
        exact w_retZ (by decide +kernel) (Or.inr rfl) (hq _ (Or.inl ⟨rfl, sw_le (by assumption) (by decide)⟩))
      · skip
        exact w_retZ (by decide +kernel) (Or.inl rfl) (hq _ (Or.inr rfl))
    · refine ⟨_, 43, rfl, rfl, ?_⟩
      refine w_load (.iload_n 2) 44 (by decide +kernel) rfl rfl ?_
      refine w_ilt 57 47 (by decide +kernel) (fun h5 => ?_) (fun h5 => ?_)
      · skip
        refine w_pushN 0 58 (by decide +kernel) ?_
        exact w_retZ (by decide +kernel) (Or.inl rfl) (hq _ (Or.inr rfl))
      · skip
        refine w_load (.iload_n 2) 48 (by decide +kernel) rfl rfl ?_
        refine w_pushN 20 50 (by decide +kernel) ?_
        refine w_cgt 57 53 (by decide +kernel) (fun h6 => ?_) (fun h6 => ?_)
        · skip
          refine w_pushN 0 58 (by decide +kernel) ?_
          exact w_retZ (by decide +kernel) (Or.inl rfl) (hq _ (Or.inr rfl))
        · skip
          refine w_pushN 1 54 (by decide +kernel) ?_
          refine w_goto 58 (by decide +kernel) ?_
          exact w_retZ (by decide +kernel) (Or.inr rfl) (hq _ (Or.inl ⟨rfl, sw_le (by assumption) (by decide)⟩))
    · refine ⟨_, 59, rfl, rfl, ?_⟩
      refine w_load (.iload_n 2) 60 (by decide +kernel) rfl rfl ?_
      refine w_callS1 113 1 63 (by decide +kernel) (Nat.le_of_ble_eq_true rfl) rfl (by decide) (by omega) ?_
      refine k_113 hI  (by omega) (fun r7 hr7 => ?_)
      dsimp only [Option.toList, List.cons_append, List.nil_append]
      rcases hr7 with ⟨rfl, k8, hk8, rfl⟩ | ⟨rfl, hnok8⟩
      · skip
        exact w_retZ (by decide +kernel) (Or.inr rfl) (hq _ (Or.inl ⟨rfl, sw_le (by assumption) (by decide)⟩))
      · skip
        exact w_retZ (by decide +kernel) (Or.inl rfl) (hq _ (Or.inr rfl))
-- X7_refusalOfEnd
set_option maxRecDepth 10000 in
theorem k_122 {d : Nat} {M : Mt} {L : Lt} {Q : Option Value → Mt → Lt → Prop} {g : Int32} {e : Int32} {v : Int32} (hI : Inv M)  (hd : 2 ≤ d) (hq : ∀ (r : Int32), ((r = 0 ∧ ∃ k, k ≤ 3 ∧ e = nI k) ∨ ¬ r = 0) → Q (some (.int r)) M L) : Wp d 122 0 [.ref 0, .int g, .int e, .int v] [] M L Q := by
  refine w_load (.aload_n 0) 1 (by decide +kernel) rfl rfl ?_
  refine w_load (.iload_n 2) 2 (by decide +kernel) rfl rfl ?_
  refine w_load (.iload_n 3) 3 (by decide +kernel) rfl rfl ?_
  refine w_callV2 123 7 3 6 (by decide +kernel) sh_0 (Nat.le_of_ble_eq_true rfl) rfl rfl (by decide) (by omega) ?_
  refine k_123 hI  (by omega) (fun r1 hr1 => ?_)
  dsimp only [Option.toList, List.cons_append, List.nil_append]
  rcases hr1 with ⟨rfl, hek⟩ | rfl
  · skip
    refine w_ine 12 9 (by decide +kernel) (fun _ => ?_) (fun hz => absurd hz (by decide))
    refine w_load (.aload_n 0) 13 (by decide +kernel) rfl rfl ?_
    refine w_getR (k := 2) (r := 4) 16 (by decide +kernel) sh_0 rfl ?_
    refine w_load (.iload_n 1) 17 (by decide +kernel) rfl rfl ?_
    refine w_callV1 11 1 2 20 (by decide +kernel) sh_4 (Nat.le_of_ble_eq_true rfl) rfl (by decide) (by omega) ?_
    refine k_11 hI hs_4 (by omega) (fun r3 hr3 => ?_)
    dsimp only [Option.toList, List.cons_append, List.nil_append]
    rcases hr3 with ⟨rfl, k4, hk4, rfl⟩ | rfl
    · skip
      refine w_ieq 27 23 (by decide +kernel) (fun hz => absurd hz (by decide)) (fun _ => ?_)
      refine w_pushN 0 24 (by decide +kernel) ?_
      refine w_goto 28 (by decide +kernel) ?_
      exact w_ret (by decide +kernel) (hq _ (Or.inl ⟨rfl, by assumption⟩))
    · skip
      refine w_ieq 27 23 (by decide +kernel) (fun _ => ?_) (fun hz => absurd hz (by decide))
      refine w_push (-1) 28 (by decide +kernel) ?_
      exact w_ret (by decide +kernel) (hq _ (Or.inr (by decide)))
  · skip
    refine w_ine 12 9 (by decide +kernel) (fun hz => absurd hz (by decide)) (fun _ => ?_)
    refine w_push (-2) 11 (by decide +kernel) ?_
    exact w_ret (by decide +kernel) (hq _ (Or.inr (by decide)))
-- X7_shortest
set_option maxRecDepth 10000 in
theorem k_90 {d : Nat} {M : Mt} {L : Lt} {Q : Option Value → Mt → Lt → Prop} {g : Int32} {e : Int32} {v : Int32} (hI : Inv M)  (hd : 7 ≤ d) (hq : ∀ (r : Int32) (N : Mt), St (fun i k => (4 ≤ i ∧ i ≤ 63) ∨ i = 68 ∨ i = 69 ∨ (i = 0 ∧ (k = 14 ∨ k = 15))) M N → True → Q (some (.int r)) N L) : Wp d 90 0 [.ref 0, .int g, .int e, .int v, .null] [] M L Q := by
  refine (show ∀ N : Mt, N = M → St (fun i k => (4 ≤ i ∧ i ≤ 63) ∨ i = 68 ∨ i = 69 ∨ (i = 0 ∧ (k = 14 ∨ k = 15))) M N → Wp d 90 0 [.ref 0, .int g, .int e, .int v, .null] [] N L Q from ?_) M rfl (St.rf hI)
  intro N hNM hS
  refine w_load (.aload_n 0) 1 (by decide +kernel) rfl rfl ?_
  refine w_load (.iload_n 1) 2 (by decide +kernel) rfl rfl ?_
  refine w_load (.iload_n 2) 3 (by decide +kernel) rfl rfl ?_
  refine w_load (.iload_n 3) 4 (by decide +kernel) rfl rfl ?_
  refine w_callV3 122 7 4 7 (by decide +kernel) sh_0 (Nat.le_of_ble_eq_true rfl) rfl rfl rfl (by decide) (by omega) ?_
  refine k_122 hS.1  (by omega) (fun r1 hr1 => ?_)
  dsimp only [Option.toList, List.cons_append, List.nil_append]
  rcases hr1 with ⟨rfl, ke, hke, rfl⟩ | hno
  · skip
    refine w_store (ls' := [.ref 0, .int g, .int (nI ke), .int v, .int (0)]) (.istore 4) 9 (by decide +kernel) rfl rfl ?_
    refine w_load (.iload 4) 11 (by decide +kernel) rfl rfl ?_
    refine w_ieq 17 14 (by decide +kernel) (fun _ => ?_) (fun hz => absurd hz (by decide))
    refine w_load (.aload_n 0) 18 (by decide +kernel) rfl rfl ?_
    refine w_getR (k := 5) (r := 15) 21 (by decide +kernel) sh_0 rfl ?_
    refine w_load (.aload_n 0) 22 (by decide +kernel) rfl rfl ?_
    refine w_getR (k := 2) (r := 4) 25 (by decide +kernel) sh_0 rfl ?_
    refine w_load (.iload_n 1) 26 (by decide +kernel) rfl rfl ?_
    refine w_load (.iload_n 2) 27 (by decide +kernel) rfl rfl ?_
    refine w_load (.iload_n 3) 28 (by decide +kernel) rfl rfl ?_
    refine w_callV4 51 3 6 31 (by decide +kernel) sh_15 (Nat.le_of_ble_eq_true rfl) rfl rfl rfl rfl (by decide) (by omega) ?_
    refine k_51 hS.1 hs_4 (by omega) (by omega) (fun N hT hr3 => ?_)
    have hS := hS.tr hT (by intro i k; first | exact rfl | omega | (dsimp only; omega) | (simp only [Hs, Tl, Sc, isHs, isScr, isTs] at *; omega))
    dsimp only [Option.toList, List.nil_append]
    refine w_load (.aload_n 0) 32 (by decide +kernel) rfl rfl ?_
    refine w_getR (k := 5) (r := 15) 35 (by decide +kernel) sh_0 rfl ?_
    refine w_getI (k := 3) 38 (by decide +kernel) sh_15 rfl ?_
    exact w_ret (by decide +kernel) (hq _ N hS trivial)
  · skip
    refine w_store (ls' := [.ref 0, .int g, .int e, .int v, .int r1]) (.istore 4) 9 (by decide +kernel) rfl rfl ?_
    refine w_load (.iload 4) 11 (by decide +kernel) rfl rfl ?_
    refine w_ieq 17 14 (by decide +kernel) (fun hz => absurd hz hno) (fun _ => ?_)
    refine w_load (.iload 4) 16 (by decide +kernel) rfl rfl ?_
    exact w_ret (by decide +kernel) (hq _ N hS trivial)
-- X7_shortestAt
set_option maxRecDepth 10000 in
theorem k_91 {d : Nat} {M : Mt} {L : Lt} {Q : Option Value → Mt → Lt → Prop} {g : Int32} {e : Int32} {v : Int32} {i : Int32} (hI : Inv M)  (hd : 7 ≤ d) (hq : ∀ (r : Int32) (N : Mt), St (fun i k => (4 ≤ i ∧ i ≤ 63) ∨ i = 68 ∨ i = 69 ∨ (i = 0 ∧ (k = 14 ∨ k = 15))) M N → True → Q (some (.int r)) N L) : Wp d 91 0 [.ref 0, .int g, .int e, .int v, .int i, .null, .null] [] M L Q := by
  refine (show ∀ N : Mt, N = M → St (fun i k => (4 ≤ i ∧ i ≤ 63) ∨ i = 68 ∨ i = 69 ∨ (i = 0 ∧ (k = 14 ∨ k = 15))) M N → Wp d 91 0 [.ref 0, .int g, .int e, .int v, .int i, .null, .null] [] N L Q from ?_) M rfl (St.rf hI)
  intro N hNM hS
  refine w_load (.iload 4) 2 (by decide +kernel) rfl rfl ?_
  refine w_ige 8 5 (by decide +kernel) (fun h1 => ?_) (fun h1 => ?_)
  · skip
    refine w_load (.aload_n 0) 9 (by decide +kernel) rfl rfl ?_
    refine w_load (.iload_n 1) 10 (by decide +kernel) rfl rfl ?_
    refine w_load (.iload_n 2) 11 (by decide +kernel) rfl rfl ?_
    refine w_load (.iload_n 3) 12 (by decide +kernel) rfl rfl ?_
    refine w_callV3 122 7 4 15 (by decide +kernel) sh_0 (Nat.le_of_ble_eq_true rfl) rfl rfl rfl (by decide) (by omega) ?_
    refine k_122 hS.1  (by omega) (fun r2 hr2 => ?_)
    dsimp only [Option.toList, List.cons_append, List.nil_append]
    rcases hr2 with ⟨rfl, ke, hke, rfl⟩ | hno
    · skip
      refine w_store (ls' := [.ref 0, .int g, .int (nI ke), .int v, .int i, .int (0), .null]) (.istore 5) 17 (by decide +kernel) rfl rfl ?_
      refine w_load (.iload 5) 19 (by decide +kernel) rfl rfl ?_
      refine w_ieq 25 22 (by decide +kernel) (fun _ => ?_) (fun hz => absurd hz (by decide))
      refine w_load (.aload_n 0) 26 (by decide +kernel) rfl rfl ?_
      refine w_getR (k := 5) (r := 15) 29 (by decide +kernel) sh_0 rfl ?_
      refine w_load (.aload_n 0) 30 (by decide +kernel) rfl rfl ?_
      refine w_getR (k := 2) (r := 4) 33 (by decide +kernel) sh_0 rfl ?_
      refine w_load (.iload_n 1) 34 (by decide +kernel) rfl rfl ?_
      refine w_load (.iload_n 2) 35 (by decide +kernel) rfl rfl ?_
      refine w_load (.iload_n 3) 36 (by decide +kernel) rfl rfl ?_
      refine w_callV4 51 3 6 39 (by decide +kernel) sh_15 (Nat.le_of_ble_eq_true rfl) rfl rfl rfl rfl (by decide) (by omega) ?_
      refine k_51 hS.1 hs_4 (by omega) (by omega) (fun N hT hr4 => ?_)
      have hS := hS.tr hT (by intro i k; first | exact rfl | omega | (dsimp only; omega) | (simp only [Hs, Tl, Sc, isHs, isScr, isTs] at *; omega))
      dsimp only [Option.toList, List.nil_append]
      refine w_load (.iload 4) 41 (by decide +kernel) rfl rfl ?_
      refine w_load (.aload_n 0) 42 (by decide +kernel) rfl rfl ?_
      refine w_getR (k := 5) (r := 15) 45 (by decide +kernel) sh_0 rfl ?_
      refine w_getI (k := 3) 48 (by decide +kernel) sh_15 rfl ?_
      refine w_clt 54 51 (by decide +kernel) (fun h5 => ?_) (fun h5 => ?_)
      · skip
        refine w_load (.iload 4) 56 (by decide +kernel) rfl rfl ?_
        refine w_ine 69 59 (by decide +kernel) (fun h6 => ?_) (fun h6 => ?_)
        · skip
          refine w_load (.aload_n 0) 70 (by decide +kernel) rfl rfl ?_
          refine w_getR (k := 5) (r := 15) 73 (by decide +kernel) sh_0 rfl ?_
          refine w_getI (k := 5) 76 (by decide +kernel) sh_15 rfl ?_
          refine w_topi (fun v7 ev7 => ?_)
          refine w_store (ls' := [.ref 0, .int g, .int (nI ke), .int v, .int i, .int (0), .int v7]) (.istore 6) 78 (by decide +kernel) rfl rfl ?_
          refine w_pushN 100 80 (by decide +kernel) ?_
          refine w_load (.iload 6) 82 (by decide +kernel) rfl rfl ?_
          refine w_callS1 117 1 85 (by decide +kernel) (Nat.le_of_ble_eq_true rfl) rfl (by decide) (by omega) ?_
          refine k_117 hS.1  (by omega) (fun r8 hr8 => ?_)
          dsimp only [Option.toList, List.cons_append, List.nil_append]
          refine w_pure .imul 86 (by decide +kernel) rfl rfl ?_
          refine w_pushN 10 88 (by decide +kernel) ?_
          refine w_load (.iload 6) 90 (by decide +kernel) rfl rfl ?_
          refine w_callS1 118 1 93 (by decide +kernel) (Nat.le_of_ble_eq_true rfl) rfl (by decide) (by omega) ?_
          refine k_118 hS.1  (by omega) (fun r9 hr9 => ?_)
          dsimp only [Option.toList, List.cons_append, List.nil_append]
          refine w_pure .imul 94 (by decide +kernel) rfl rfl ?_
          refine w_pure .iadd 95 (by decide +kernel) rfl rfl ?_
          refine w_load (.iload 6) 97 (by decide +kernel) rfl rfl ?_
          refine w_callS1 119 1 100 (by decide +kernel) (Nat.le_of_ble_eq_true rfl) rfl (by decide) (by omega) ?_
          refine k_119 hS.1  (by omega) (fun r10 hr10 => ?_)
          dsimp only [Option.toList, List.cons_append, List.nil_append]
          refine w_pure .iadd 101 (by decide +kernel) rfl rfl ?_
          exact w_ret (by decide +kernel) (hq _ N hS trivial)
        · skip
          refine w_load (.aload_n 0) 60 (by decide +kernel) rfl rfl ?_
          refine w_getR (k := 5) (r := 15) 63 (by decide +kernel) sh_0 rfl ?_
          refine w_getI (k := 4) 66 (by decide +kernel) sh_15 rfl ?_
          refine w_goto 76 (by decide +kernel) ?_
          refine w_topi (fun v11 ev11 => ?_)
          refine w_store (ls' := [.ref 0, .int g, .int (nI ke), .int v, .int i, .int (0), .int v11]) (.istore 6) 78 (by decide +kernel) rfl rfl ?_
          refine w_pushN 100 80 (by decide +kernel) ?_
          refine w_load (.iload 6) 82 (by decide +kernel) rfl rfl ?_
          refine w_callS1 117 1 85 (by decide +kernel) (Nat.le_of_ble_eq_true rfl) rfl (by decide) (by omega) ?_
          refine k_117 hS.1  (by omega) (fun r12 hr12 => ?_)
          dsimp only [Option.toList, List.cons_append, List.nil_append]
          refine w_pure .imul 86 (by decide +kernel) rfl rfl ?_
          refine w_pushN 10 88 (by decide +kernel) ?_
          refine w_load (.iload 6) 90 (by decide +kernel) rfl rfl ?_
          refine w_callS1 118 1 93 (by decide +kernel) (Nat.le_of_ble_eq_true rfl) rfl (by decide) (by omega) ?_
          refine k_118 hS.1  (by omega) (fun r13 hr13 => ?_)
          dsimp only [Option.toList, List.cons_append, List.nil_append]
          refine w_pure .imul 94 (by decide +kernel) rfl rfl ?_
          refine w_pure .iadd 95 (by decide +kernel) rfl rfl ?_
          refine w_load (.iload 6) 97 (by decide +kernel) rfl rfl ?_
          refine w_callS1 119 1 100 (by decide +kernel) (Nat.le_of_ble_eq_true rfl) rfl (by decide) (by omega) ?_
          refine k_119 hS.1  (by omega) (fun r14 hr14 => ?_)
          dsimp only [Option.toList, List.cons_append, List.nil_append]
          refine w_pure .iadd 101 (by decide +kernel) rfl rfl ?_
          exact w_ret (by decide +kernel) (hq _ N hS trivial)
      · skip
        refine w_push (-9) 53 (by decide +kernel) ?_
        exact w_ret (by decide +kernel) (hq _ N hS trivial)
    · skip
      refine w_store (ls' := [.ref 0, .int g, .int e, .int v, .int i, .int r2, .null]) (.istore 5) 17 (by decide +kernel) rfl rfl ?_
      refine w_load (.iload 5) 19 (by decide +kernel) rfl rfl ?_
      refine w_ieq 25 22 (by decide +kernel) (fun hz => absurd hz hno) (fun _ => ?_)
      refine w_load (.iload 5) 24 (by decide +kernel) rfl rfl ?_
      exact w_ret (by decide +kernel) (hq _ N hS trivial)
  · skip
    refine w_push (-2) 7 (by decide +kernel) ?_
    exact w_ret (by decide +kernel) (hq _ N hS trivial)
-- X7_isDoneWithout
set_option maxRecDepth 10000 in
theorem k_124 {d : Nat} {M : Mt} {L : Lt} {Q : Option Value → Mt → Lt → Prop} {s : Nat} {a : Int32} (hI : Inv M) (hc : Sc s) (hd : 5 ≤ d) (hq : ∀ (r : Int32) (N : Mt), St (fun i k => (4 ≤ i ∧ i ≤ 63) ∨ i = 68 ∨ i = 69 ∨ (i = 0 ∧ (k = 14 ∨ k = 15))) M N → (r = 0 ∨ r = 1) → Q (some (.int r)) N L) : Wp d 124 0 [.ref 0, .ref s, .int a, .null, .null, .null] [] M L Q := by
  refine (show ∀ N : Mt, N = M → St (fun i k => (4 ≤ i ∧ i ≤ 63) ∨ i = 68 ∨ i = 69 ∨ (i = 0 ∧ (k = 14 ∨ k = 15))) M N → Wp d 124 0 [.ref 0, .ref s, .int a, .null, .null, .null] [] N L Q from ?_) M rfl (St.rf hI)
  intro N hNM hS
  refine w_load (.aload_n 0) 1 (by decide +kernel) rfl rfl ?_
  refine w_getR (k := 4) (r := 10) 4 (by decide +kernel) sh_0 rfl ?_
  refine w_load (.aload_n 0) 5 (by decide +kernel) rfl rfl ?_
  refine w_getR (k := 2) (r := 4) 8 (by decide +kernel) sh_0 rfl ?_
  refine w_callV1 66 6 3 11 (by decide +kernel) sh_10 (Nat.le_of_ble_eq_true rfl) rfl (by decide) (by omega) ?_
  refine k_66 hS.1 tl_10 hs_4 (by omega) (fun N hT hr1 => ?_)
  have hS := hS.tr hT (by intro i k; first | exact rfl | omega | (dsimp only; omega) | (simp only [Hs, Tl, Sc, isHs, isScr, isTs] at *; omega))
  dsimp only [Option.toList, List.nil_append]
  refine w_load (.aload_n 1) 12 (by decide +kernel) rfl rfl ?_
  refine w_callV0 43 2 1 15 (by decide +kernel) hc.1.1 (Nat.le_of_ble_eq_true rfl)  (by decide) (by omega) ?_
  refine k_43 hS.1 hc (by omega) (fun r2 hr2 => ?_)
  dsimp only [Option.toList, List.cons_append, List.nil_append]
  rcases hr2 with ⟨n3, hn3, rfl⟩
  · skip
    refine w_store (ls' := [.ref 0, .ref s, .int a, .int (nI n3), .null, .null]) (.istore_n 3) 16 (by decide +kernel) rfl rfl ?_
    refine w_pushN 0 17 (by decide +kernel) ?_
    refine w_store (ls' := [.ref 0, .ref s, .int a, .int (nI n3), .int (nI 0), .null]) (.istore 4) 19 (by decide +kernel) rfl rfl ?_
    refine w_pushN 0 20 (by decide +kernel) ?_
    refine w_store (ls' := [.ref 0, .ref s, .int a, .int (nI n3), .int (nI 0), .int (nI 0)]) (.istore 5) 22 (by decide +kernel) rfl rfl ?_
    have LP_22 : ∀ (kk : Nat) (N : Mt) (x4_22 : Int32) (g5 : Nat), St (fun i k => (4 ≤ i ∧ i ≤ 63) ∨ i = 68 ∨ i = 69 ∨ (i = 0 ∧ (k = 14 ∨ k = 15))) M N → g5 ≤ 8 → 8 - g5 < kk → Wp d 124 22 [.ref 0, .ref s, .int a, .int (nI n3), .int x4_22, .int (nI g5)] [] N L Q := by
      intro kk
      induction kk with
      | zero => intro N x4_22 g5 hS hi0_22 hm_22; exact absurd hm_22 (Nat.not_lt_zero _)
      | succ kk ih_22 =>
        intro N x4_22 g5 hS hi0_22 hm_22
        refine w_load (.iload 5) 24 (by decide +kernel) rfl rfl ?_
        refine w_load (.iload_n 3) 25 (by decide +kernel) rfl rfl ?_
        refine w_cgeN 67 28 (by decide +kernel) (by omega) (by omega) (fun h4 => ?_) (fun h4 => ?_)
        · skip
          refine w_load (.aload_n 0) 68 (by decide +kernel) rfl rfl ?_
          refine w_getR (k := 4) (r := 10) 71 (by decide +kernel) sh_0 rfl ?_
          refine w_getI (k := 2) 74 (by decide +kernel) sh_10 rfl ?_
          refine w_load (.iload 4) 76 (by decide +kernel) rfl rfl ?_
          refine w_cne 83 79 (by decide +kernel) (fun h5 => ?_) (fun h5 => ?_)
          · skip
            refine w_pushN 0 84 (by decide +kernel) ?_
            exact w_retZ (by decide +kernel) (Or.inl rfl) (hq _ N hS (Or.inl rfl))
          · skip
            refine w_pushN 1 80 (by decide +kernel) ?_
            refine w_goto 84 (by decide +kernel) ?_
            exact w_retZ (by decide +kernel) (Or.inr rfl) (hq _ N hS (Or.inr rfl))
        · skip
          refine w_load (.iload_n 2) 29 (by decide +kernel) rfl rfl ?_
          refine w_load (.iload 5) 31 (by decide +kernel) rfl rfl ?_
          refine w_callS2 115 2 34 (by decide +kernel) (Nat.le_of_ble_eq_true rfl) rfl rfl (by decide) (by omega) ?_
          refine k_115 hS.1  (by omega) (fun r6 hr6 => ?_)
          dsimp only [Option.toList, List.cons_append, List.nil_append]
          refine w_ine 61 37 (by decide +kernel) (fun h7 => ?_) (fun h7 => ?_)
          · skip
            refine w_iincN (z := 5) (g5 + 1) 64 (by decide +kernel) rfl (Nat.le_of_ble_eq_true rfl) rfl rfl ?_
            show Wp _ _ _ [.ref 0, .ref s, .int a, .int (nI n3), .int x4_22, .int (nI (g5 + 1))] _ _ _ _
            refine w_goto 22 (by decide +kernel) ?_
            exact ih_22 N _ (g5 + 1) hS (by omega) (by omega)
          · skip
            refine w_load (.aload_n 0) 38 (by decide +kernel) rfl rfl ?_
            refine w_getR (k := 4) (r := 10) 41 (by decide +kernel) sh_0 rfl ?_
            refine w_load (.aload_n 1) 42 (by decide +kernel) rfl rfl ?_
            refine w_load (.iload 5) 44 (by decide +kernel) rfl rfl ?_
            refine w_callV1 44 2 4 47 (by decide +kernel) hc.1.1 (Nat.le_of_ble_eq_true rfl) rfl (by decide) (by omega) ?_
            refine k_44 hS.1 hc (by omega) (fun r8 hr8 => ?_)
            dsimp only [Option.toList, List.cons_append, List.nil_append]
            refine w_load (.iload 5) 49 (by decide +kernel) rfl rfl ?_
            refine w_callV2 69 6 6 52 (by decide +kernel) sh_10 (Nat.le_of_ble_eq_true rfl) rfl rfl (by decide) (by omega) ?_
            refine k_69 hS.1 tl_10 (by omega) (fun N hT hr9 => ?_)
            have hS := hS.tr hT (by intro i k; first | exact rfl | omega | (dsimp only; omega) | (simp only [Hs, Tl, Sc, isHs, isScr, isTs] at *; omega))
            dsimp only [Option.toList, List.nil_append]
            refine w_load (.iload 4) 54 (by decide +kernel) rfl rfl ?_
            refine w_pushN 1 55 (by decide +kernel) ?_
            refine w_load (.iload 5) 57 (by decide +kernel) rfl rfl ?_
            refine w_pure .ishl 58 (by decide +kernel) rfl rfl ?_
            refine w_pure .ior 59 (by decide +kernel) rfl rfl ?_
            refine w_topi (fun v10 ev10 => ?_)
            refine w_store (ls' := [.ref 0, .ref s, .int a, .int (nI n3), .int v10, .int (nI g5)]) (.istore 4) 61 (by decide +kernel) rfl rfl ?_
            refine w_iincN (z := 5) (g5 + 1) 64 (by decide +kernel) rfl (Nat.le_of_ble_eq_true rfl) rfl rfl ?_
            show Wp _ _ _ [.ref 0, .ref s, .int a, .int (nI n3), .int v10, .int (nI (g5 + 1))] _ _ _ _
            refine w_goto 22 (by decide +kernel) ?_
            exact ih_22 N _ (g5 + 1) hS (by omega) (by omega)
    exact LP_22 _ N _ 0 hS (by omega) (Nat.lt_succ_self _)
-- X7_isProverb
set_option maxRecDepth 10000 in
theorem k_125 {d : Nat} {M : Mt} {L : Lt} {Q : Option Value → Mt → Lt → Prop} {s : Nat}  (hI : Inv M) (hc : Sc s) (hd : 4 ≤ d) (hq : ∀ (r : Int32), (r = 0 ∨ r = 1) → Q (some (.int r)) M L) : Wp d 125 0 [.ref 0, .ref s, .null, .null, .null, .null] [] M L Q := by
  refine w_load (.aload_n 0) 1 (by decide +kernel) rfl rfl ?_
  refine w_getR (k := 2) (r := 4) 4 (by decide +kernel) sh_0 rfl ?_
  refine w_callV0 25 1 3 7 (by decide +kernel) sh_4 (Nat.le_of_ble_eq_true rfl)  (by decide) (by omega) ?_
  refine k_25 hI hs_4 (by omega) (fun r1 hr1 => ?_)
  dsimp only [Option.toList, List.cons_append, List.nil_append]
  refine w_store (ls' := [.ref 0, .ref s, .int r1, .null, .null, .null]) (.istore_n 2) 8 (by decide +kernel) rfl rfl ?_
  refine w_load (.aload_n 1) 9 (by decide +kernel) rfl rfl ?_
  refine w_callV0 43 2 1 12 (by decide +kernel) hc.1.1 (Nat.le_of_ble_eq_true rfl)  (by decide) (by omega) ?_
  refine k_43 hI hc (by omega) (fun r2 hr2 => ?_)
  dsimp only [Option.toList, List.cons_append, List.nil_append]
  rcases hr2 with ⟨n3, hn3, rfl⟩
  · skip
    refine w_store (ls' := [.ref 0, .ref s, .int r1, .int (nI n3), .null, .null]) (.istore_n 3) 13 (by decide +kernel) rfl rfl ?_
    refine w_pushN 0 14 (by decide +kernel) ?_
    refine w_store (ls' := [.ref 0, .ref s, .int r1, .int (nI n3), .int (nI 0), .null]) (.istore 4) 16 (by decide +kernel) rfl rfl ?_
    have LP_16 : ∀ (kk : Nat) (g4 : Nat), g4 ≤ 8 → 8 - g4 < kk → Wp d 125 16 [.ref 0, .ref s, .int r1, .int (nI n3), .int (nI g4), .null] [] M L Q := by
      intro kk
      induction kk with
      | zero => intro g4 hi0_16 hm_16; exact absurd hm_16 (Nat.not_lt_zero _)
      | succ kk ih_16 =>
        intro g4 hi0_16 hm_16
        refine w_load (.iload 4) 18 (by decide +kernel) rfl rfl ?_
        refine w_load (.iload_n 3) 19 (by decide +kernel) rfl rfl ?_
        refine w_cgeN 62 22 (by decide +kernel) (by omega) (by omega) (fun h4 => ?_) (fun h4 => ?_)
        · skip
          refine w_pushN 1 63 (by decide +kernel) ?_
          exact w_retZ (by decide +kernel) (Or.inr rfl) (hq _ (Or.inr rfl))
        · skip
          refine w_load (.aload_n 1) 23 (by decide +kernel) rfl rfl ?_
          refine w_load (.iload 4) 25 (by decide +kernel) rfl rfl ?_
          refine w_callV1 44 2 4 28 (by decide +kernel) hc.1.1 (Nat.le_of_ble_eq_true rfl) rfl (by decide) (by omega) ?_
          refine k_44 hI hc (by omega) (fun r5 hr5 => ?_)
          dsimp only [Option.toList, List.cons_append, List.nil_append]
          refine w_store (ls' := [.ref 0, .ref s, .int r1, .int (nI n3), .int (nI g4), .int r5]) (.istore 5) 30 (by decide +kernel) rfl rfl ?_
          refine w_load (.iload_n 2) 31 (by decide +kernel) rfl rfl ?_
          refine w_load (.iload 5) 33 (by decide +kernel) rfl rfl ?_
          refine w_callS1 118 1 36 (by decide +kernel) (Nat.le_of_ble_eq_true rfl) rfl (by decide) (by omega) ?_
          refine k_118 hI  (by omega) (fun r6 hr6 => ?_)
          dsimp only [Option.toList, List.cons_append, List.nil_append]
          refine w_callS2 115 2 39 (by decide +kernel) (Nat.le_of_ble_eq_true rfl) rfl rfl (by decide) (by omega) ?_
          refine k_115 hI  (by omega) (fun r7 hr7 => ?_)
          dsimp only [Option.toList, List.cons_append, List.nil_append]
          refine w_ine 54 42 (by decide +kernel) (fun h8 => ?_) (fun h8 => ?_)
          · skip
            refine w_pushN 0 55 (by decide +kernel) ?_
            exact w_retZ (by decide +kernel) (Or.inl rfl) (hq _ (Or.inl rfl))
          · skip
            refine w_load (.iload_n 2) 43 (by decide +kernel) rfl rfl ?_
            refine w_load (.iload 5) 45 (by decide +kernel) rfl rfl ?_
            refine w_callS1 119 1 48 (by decide +kernel) (Nat.le_of_ble_eq_true rfl) rfl (by decide) (by omega) ?_
            refine k_119 hI  (by omega) (fun r9 hr9 => ?_)
            dsimp only [Option.toList, List.cons_append, List.nil_append]
            refine w_callS2 115 2 51 (by decide +kernel) (Nat.le_of_ble_eq_true rfl) rfl rfl (by decide) (by omega) ?_
            refine k_115 hI  (by omega) (fun r10 hr10 => ?_)
            dsimp only [Option.toList, List.cons_append, List.nil_append]
            refine w_ieq 56 54 (by decide +kernel) (fun h11 => ?_) (fun h11 => ?_)
            · skip
              refine w_iincN (z := 4) (g4 + 1) 59 (by decide +kernel) rfl (Nat.le_of_ble_eq_true rfl) rfl rfl ?_
              show Wp _ _ _ [.ref 0, .ref s, .int r1, .int (nI n3), .int (nI (g4 + 1)), .int r5] _ _ _ _
              refine w_goto 16 (by decide +kernel) ?_
              refine Wp.forget (ls := [.ref 0, .ref s, .int r1, .int (nI n3), .int (nI (g4 + 1)), .null]) ⟨Or.inl rfl, Or.inl rfl, Or.inl rfl, Or.inl rfl, Or.inl rfl, Or.inr ⟨rfl, rfl⟩, trivial⟩ ?_
              exact ih_16 (g4 + 1) (by omega) (by omega)
            · skip
              refine w_pushN 0 55 (by decide +kernel) ?_
              exact w_retZ (by decide +kernel) (Or.inl rfl) (hq _ (Or.inl rfl))
    exact LP_16 _ 0 (by omega) (Nat.lt_succ_self _)
-- X7_cut
set_option maxRecDepth 10000 in
theorem k_92 {d : Nat} {M : Mt} {L : Lt} {Q : Option Value → Mt → Lt → Prop} {a : Int32} (hI : Inv M)  (hd : 6 ≤ d) (hq : ∀ (r : Int32) (N : Mt), St (fun i k => (4 ≤ i ∧ i ≤ 63) ∨ i = 68 ∨ i = 69 ∨ (i = 0 ∧ (k = 14 ∨ k = 15))) M N → True → Q (some (.int r)) N L) : Wp d 92 0 [.ref 0, .int a, .null, .null, .null, .null] [] M L Q := by
  refine (show ∀ N : Mt, N = M → St (fun i k => (4 ≤ i ∧ i ≤ 63) ∨ i = 68 ∨ i = 69 ∨ (i = 0 ∧ (k = 14 ∨ k = 15))) M N → Wp d 92 0 [.ref 0, .int a, .null, .null, .null, .null] [] N L Q from ?_) M rfl (St.rf hI)
  intro N hNM hS
  refine w_load (.iload_n 1) 1 (by decide +kernel) rfl rfl ?_
  refine w_callS1 111 1 4 (by decide +kernel) (Nat.le_of_ble_eq_true rfl) rfl (by decide) (by omega) ?_
  refine k_111 hS.1  (by omega) (fun r1 hr1 => ?_)
  dsimp only [Option.toList, List.cons_append, List.nil_append]
  rcases hr1 with ⟨rfl, k2, hk2, rfl⟩ | ⟨rfl, hnok2⟩
  · skip
    refine w_ine 9 7 (by decide +kernel) (fun _ => ?_) (fun hz => absurd hz (by decide))
    refine w_load (.aload_n 0) 10 (by decide +kernel) rfl rfl ?_
    refine w_getR (k := 1) (r := 3) 13 (by decide +kernel) sh_0 rfl ?_
    refine w_load (.iload_n 1) 14 (by decide +kernel) rfl rfl ?_
    refine w_tale 15 (by decide +kernel) (by omega) ?_
    refine w_callV0 43 2 1 18 (by decide +kernel) (sc_tale k2 (by omega)).1.1 (Nat.le_of_ble_eq_true rfl)  (by decide) (by omega) ?_
    refine k_43 hS.1 (sc_tale k2 (by omega)) (by omega) (fun r4 hr4 => ?_)
    dsimp only [Option.toList, List.cons_append, List.nil_append]
    rcases hr4 with ⟨n5, hn5, rfl⟩
    · skip
      refine w_store (ls' := [.ref 0, .int (nI k2), .int (nI n5), .null, .null, .null]) (.istore_n 2) 19 (by decide +kernel) rfl rfl ?_
      refine w_pushN 1 20 (by decide +kernel) ?_
      refine w_load (.iload_n 2) 21 (by decide +kernel) rfl rfl ?_
      refine w_shl1 22 (by decide +kernel) (by omega) (fun p6 hp6 => ?_)
      refine w_pushN 1 23 (by decide +kernel) ?_
      refine w_subN (p6 - 1) 24 (by decide +kernel) (by omega) rfl ?_
      refine w_store (ls' := [.ref 0, .int (nI k2), .int (nI n5), .int (nI ((p6 - 1))), .null, .null]) (.istore_n 3) 25 (by decide +kernel) rfl rfl ?_
      refine w_load (.iload_n 3) 26 (by decide +kernel) rfl rfl ?_
      refine w_store (ls' := [.ref 0, .int (nI k2), .int (nI n5), .int (nI ((p6 - 1))), .int (nI ((p6 - 1))), .null]) (.istore 4) 28 (by decide +kernel) rfl rfl ?_
      refine w_pushN 0 29 (by decide +kernel) ?_
      refine w_store (ls' := [.ref 0, .int (nI k2), .int (nI n5), .int (nI ((p6 - 1))), .int (nI ((p6 - 1))), .int (nI 0)]) (.istore 5) 31 (by decide +kernel) rfl rfl ?_
      have LP_31 : ∀ (kk : Nat) (N : Mt) (x4_31 : Int32) (g5 : Nat), St (fun i k => (4 ≤ i ∧ i ≤ 63) ∨ i = 68 ∨ i = 69 ∨ (i = 0 ∧ (k = 14 ∨ k = 15))) M N → g5 ≤ 256 → 256 - g5 < kk → Wp d 92 31 [.ref 0, .int (nI k2), .int (nI n5), .int (nI ((p6 - 1))), .int x4_31, .int (nI g5)] [] N L Q := by
        intro kk
        induction kk with
        | zero => intro N x4_31 g5 hS hi0_31 hm_31; exact absurd hm_31 (Nat.not_lt_zero _)
        | succ kk ih_31 =>
          intro N x4_31 g5 hS hi0_31 hm_31
          refine w_load (.iload 5) 33 (by decide +kernel) rfl rfl ?_
          refine w_load (.iload_n 3) 34 (by decide +kernel) rfl rfl ?_
          refine w_cgtN 75 37 (by decide +kernel) (by omega) (by omega) (fun h7 => ?_) (fun h7 => ?_)
          · skip
            refine w_load (.iload 4) 77 (by decide +kernel) rfl rfl ?_
            exact w_ret (by decide +kernel) (hq _ N hS trivial)
          · skip
            refine w_load (.iload 5) 39 (by decide +kernel) rfl rfl ?_
            refine w_callS1 200 1 42 (by decide +kernel) (Nat.le_of_ble_eq_true rfl) rfl (by decide) (by omega) ?_
            refine k_200 hS.1  (by omega) (fun r8 hr8 => ?_)
            dsimp only [Option.toList, List.cons_append, List.nil_append]
            refine w_load (.iload 4) 44 (by decide +kernel) rfl rfl ?_
            refine w_callS1 200 1 47 (by decide +kernel) (Nat.le_of_ble_eq_true rfl) rfl (by decide) (by omega) ?_
            refine k_200 hS.1  (by omega) (fun r9 hr9 => ?_)
            dsimp only [Option.toList, List.cons_append, List.nil_append]
            refine w_cge 69 50 (by decide +kernel) (fun h10 => ?_) (fun h10 => ?_)
            · skip
              refine w_iincN (z := 5) (g5 + 1) 72 (by decide +kernel) rfl (Nat.le_of_ble_eq_true rfl) rfl rfl ?_
              show Wp _ _ _ [.ref 0, .int (nI k2), .int (nI n5), .int (nI ((p6 - 1))), .int x4_31, .int (nI (g5 + 1))] _ _ _ _
              refine w_goto 31 (by decide +kernel) ?_
              exact ih_31 N _ (g5 + 1) hS (by omega) (by omega)
            · skip
              refine w_load (.aload_n 0) 51 (by decide +kernel) rfl rfl ?_
              refine w_load (.aload_n 0) 52 (by decide +kernel) rfl rfl ?_
              refine w_getR (k := 1) (r := 3) 55 (by decide +kernel) sh_0 rfl ?_
              refine w_load (.iload_n 1) 56 (by decide +kernel) rfl rfl ?_
              refine w_tale 57 (by decide +kernel) (by omega) ?_
              refine w_load (.iload 5) 59 (by decide +kernel) rfl rfl ?_
              refine w_callV2 124 7 6 62 (by decide +kernel) sh_0 (Nat.le_of_ble_eq_true rfl) rfl rfl (by decide) (by omega) ?_
              refine k_124 hS.1 (sc_tale k2 (by omega)) (by omega) (fun r11 N hT hr11 => ?_)
              have hS := hS.tr hT (by intro i k; first | exact rfl | omega | (dsimp only; omega) | (simp only [Hs, Tl, Sc, isHs, isScr, isTs] at *; omega))
              dsimp only [Option.toList, List.cons_append, List.nil_append]
              refine w_ieq 69 65 (by decide +kernel) (fun h12 => ?_) (fun h12 => ?_)
              · skip
                refine w_iincN (z := 5) (g5 + 1) 72 (by decide +kernel) rfl (Nat.le_of_ble_eq_true rfl) rfl rfl ?_
                show Wp _ _ _ [.ref 0, .int (nI k2), .int (nI n5), .int (nI ((p6 - 1))), .int x4_31, .int (nI (g5 + 1))] _ _ _ _
                refine w_goto 31 (by decide +kernel) ?_
                exact ih_31 N _ (g5 + 1) hS (by omega) (by omega)
              · skip
                refine w_load (.iload 5) 67 (by decide +kernel) rfl rfl ?_
                refine w_store (ls' := [.ref 0, .int (nI k2), .int (nI n5), .int (nI ((p6 - 1))), .int (nI g5), .int (nI g5)]) (.istore 4) 69 (by decide +kernel) rfl rfl ?_
                refine w_iincN (z := 5) (g5 + 1) 72 (by decide +kernel) rfl (Nat.le_of_ble_eq_true rfl) rfl rfl ?_
                show Wp _ _ _ [.ref 0, .int (nI k2), .int (nI n5), .int (nI ((p6 - 1))), .int (nI g5), .int (nI (g5 + 1))] _ _ _ _
                refine w_goto 31 (by decide +kernel) ?_
                exact ih_31 N _ (g5 + 1) hS (by omega) (by omega)
      exact LP_31 _ N _ 0 hS (by omega) (Nat.lt_succ_self _)
  · skip
    refine w_ine 9 7 (by decide +kernel) (fun hz => absurd hz (by decide)) (fun _ => ?_)
    refine w_push (-1) 8 (by decide +kernel) ?_
    exact w_ret (by decide +kernel) (hq _ N hS trivial)
-- X7_chosen
set_option maxRecDepth 10000 in
theorem k_93 {d : Nat} {M : Mt} {L : Lt} {Q : Option Value → Mt → Lt → Prop} {a : Int32} {b : Int32} (hI : Inv M) (hb : b = 0 ∨ b = 1) (hd : 18 ≤ d) (hq : ∀ (r : Int32) (N : Mt), St (fun i k => (4 ≤ i ∧ i ≤ 63) ∨ i = 68 ∨ i = 69 ∨ (i = 0 ∧ (k = 14 ∨ k = 15))) M N → True → Q (some (.int r)) N L) : Wp d 93 0 [.ref 0, .int a, .int b] [] M L Q := by
  refine (show ∀ N : Mt, N = M → St (fun i k => (4 ≤ i ∧ i ≤ 63) ∨ i = 68 ∨ i = 69 ∨ (i = 0 ∧ (k = 14 ∨ k = 15))) M N → Wp d 93 0 [.ref 0, .int a, .int b] [] N L Q from ?_) M rfl (St.rf hI)
  intro N hNM hS
  refine w_load (.iload_n 1) 1 (by decide +kernel) rfl rfl ?_
  refine w_callS1 111 1 4 (by decide +kernel) (Nat.le_of_ble_eq_true rfl) rfl (by decide) (by omega) ?_
  refine k_111 hS.1  (by omega) (fun r1 hr1 => ?_)
  dsimp only [Option.toList, List.cons_append, List.nil_append]
  rcases hr1 with ⟨rfl, k2, hk2, rfl⟩ | ⟨rfl, hnok2⟩
  · skip
    refine w_ine 9 7 (by decide +kernel) (fun _ => ?_) (fun hz => absurd hz (by decide))
    refine w_load (.aload_n 0) 10 (by decide +kernel) rfl rfl ?_
    refine w_getR (k := 1) (r := 3) 13 (by decide +kernel) sh_0 rfl ?_
    refine w_load (.iload_n 1) 14 (by decide +kernel) rfl rfl ?_
    refine w_tale 15 (by decide +kernel) (by omega) ?_
    refine w_callV0 43 2 1 18 (by decide +kernel) (sc_tale k2 (by omega)).1.1 (Nat.le_of_ble_eq_true rfl)  (by decide) (by omega) ?_
    refine k_43 hS.1 (sc_tale k2 (by omega)) (by omega) (fun r4 hr4 => ?_)
    dsimp only [Option.toList, List.cons_append, List.nil_append]
    rcases hr4 with ⟨n5, hn5, rfl⟩
    · skip
      refine w_pushN 4 19 (by decide +kernel) ?_
      refine w_cleN 25 22 (by decide +kernel) (by omega) (by omega) (fun h6 => ?_) (fun h6 => ?_)
      · skip
        refine w_load (.aload_n 0) 26 (by decide +kernel) rfl rfl ?_
        refine w_getR (k := 6) (r := 31) 29 (by decide +kernel) sh_0 rfl ?_
        refine w_load (.aload_n 0) 30 (by decide +kernel) rfl rfl ?_
        refine w_getR (k := 2) (r := 4) 33 (by decide +kernel) sh_0 rfl ?_
        refine w_load (.aload_n 0) 34 (by decide +kernel) rfl rfl ?_
        refine w_getR (k := 1) (r := 3) 37 (by decide +kernel) sh_0 rfl ?_
        refine w_load (.iload_n 1) 38 (by decide +kernel) rfl rfl ?_
        refine w_tale 39 (by decide +kernel) (by omega) ?_
        refine w_load (.iload_n 2) 40 (by decide +kernel) rfl rfl ?_
        refine w_callV3 1 0 4 43 (by decide +kernel) sh_31 (Nat.le_of_ble_eq_true rfl) rfl rfl rfl (by decide) (by omega) ?_
        refine k_1 hS.1 hs_4 (sc_tale k2 (by omega)) (by assumption) (by omega) (fun r7 N hT hr7 => ?_)
        have hS := hS.tr hT (by intro i k; first | exact rfl | omega | (dsimp only; omega) | (simp only [Hs, Tl, Sc, isHs, isScr, isTs] at *; omega))
        dsimp only [Option.toList, List.cons_append, List.nil_append]
        exact w_ret (by decide +kernel) (hq _ N hS trivial)
      · skip
        refine w_push (-3) 24 (by decide +kernel) ?_
        exact w_ret (by decide +kernel) (hq _ N hS trivial)
  · skip
    refine w_ine 9 7 (by decide +kernel) (fun hz => absurd hz (by decide)) (fun _ => ?_)
    refine w_push (-1) 8 (by decide +kernel) ?_
    exact w_ret (by decide +kernel) (hq _ N hS trivial)
-- X7_round
set_option maxRecDepth 10000 in
theorem k_94 {d : Nat} {M : Mt} {L : Lt} {Q : Option Value → Mt → Lt → Prop} {a : Int32} (hI : Inv M)  (hd : 6 ≤ d) (hq : ∀ (r : Int32) (N : Mt), St (fun i k => (4 ≤ i ∧ i ≤ 63) ∨ i = 68 ∨ i = 69 ∨ (i = 0 ∧ (k = 14 ∨ k = 15))) M N → True → Q (some (.int r)) N L) : Wp d 94 0 [.ref 0, .int a, .null, .null] [] M L Q := by
  refine (show ∀ N : Mt, N = M → St (fun i k => (4 ≤ i ∧ i ≤ 63) ∨ i = 68 ∨ i = 69 ∨ (i = 0 ∧ (k = 14 ∨ k = 15))) M N → Wp d 94 0 [.ref 0, .int a, .null, .null] [] N L Q from ?_) M rfl (St.rf hI)
  intro N hNM hS
  refine w_load (.iload_n 1) 1 (by decide +kernel) rfl rfl ?_
  refine w_callS1 111 1 4 (by decide +kernel) (Nat.le_of_ble_eq_true rfl) rfl (by decide) (by omega) ?_
  refine k_111 hS.1  (by omega) (fun r1 hr1 => ?_)
  dsimp only [Option.toList, List.cons_append, List.nil_append]
  rcases hr1 with ⟨rfl, k2, hk2, rfl⟩ | ⟨rfl, hnok2⟩
  · skip
    refine w_ine 9 7 (by decide +kernel) (fun _ => ?_) (fun hz => absurd hz (by decide))
    refine w_load (.aload_n 0) 10 (by decide +kernel) rfl rfl ?_
    refine w_getR (k := 3) (r := 7) 13 (by decide +kernel) sh_0 rfl ?_
    refine w_load (.aload_n 0) 14 (by decide +kernel) rfl rfl ?_
    refine w_getR (k := 2) (r := 4) 17 (by decide +kernel) sh_0 rfl ?_
    refine w_callV1 8 1 2 20 (by decide +kernel) sh_7 (Nat.le_of_ble_eq_true rfl) rfl (by decide) (by omega) ?_
    refine k_8 hS.1 hs_7 hs_4 (by omega) (fun N hT hr4 => ?_)
    have hS := hS.tr hT (by intro i k; first | exact rfl | omega | (dsimp only; omega) | (simp only [Hs, Tl, Sc, isHs, isScr, isTs] at *; omega))
    dsimp only [Option.toList, List.nil_append]
    refine w_pushN 1 21 (by decide +kernel) ?_
    refine w_store (ls' := [.ref 0, .int (nI k2), .int (nI 1), .null]) (.istore_n 2) 22 (by decide +kernel) rfl rfl ?_
    have LP_22 : ∀ (kk : Nat) (N : Mt) (g2 : Nat), St (fun i k => (4 ≤ i ∧ i ≤ 63) ∨ i = 68 ∨ i = 69 ∨ (i = 0 ∧ (k = 14 ∨ k = 15))) M N → g2 ≤ 61 → 1 ≤ g2 → 61 - g2 < kk → Wp d 94 22 [.ref 0, .int (nI k2), .int (nI g2), .null] [] N L Q := by
      intro kk
      induction kk with
      | zero => intro N g2 hS hi0_22 hi1_22 hm_22; exact absurd hm_22 (Nat.not_lt_zero _)
      | succ kk ih_22 =>
        intro N g2 hS hi0_22 hi1_22 hm_22
        refine w_load (.iload_n 2) 23 (by decide +kernel) rfl rfl ?_
        refine w_pushN 60 25 (by decide +kernel) ?_
        refine w_cgtN 105 28 (by decide +kernel) (by omega) (by omega) (fun h5 => ?_) (fun h5 => ?_)
        · skip
          refine w_push (-9) 107 (by decide +kernel) ?_
          exact w_ret (by decide +kernel) (hq _ N hS trivial)
        · skip
          refine w_load (.aload_n 0) 29 (by decide +kernel) rfl rfl ?_
          refine w_getR (k := 9) (r := 62) 32 (by decide +kernel) sh_0 rfl ?_
          refine w_load (.iload_n 2) 33 (by decide +kernel) rfl rfl ?_
          refine w_pushN 1 34 (by decide +kernel) ?_
          refine w_subN (g2 - 1) 35 (by decide +kernel) (by omega) rfl ?_
          refine w_load (.aload_n 0) 36 (by decide +kernel) rfl rfl ?_
          refine w_getR (k := 3) (r := 7) 39 (by decide +kernel) sh_0 rfl ?_
          refine w_callV2 55 4 3 42 (by decide +kernel) sh_62 (Nat.le_of_ble_eq_true rfl) rfl rfl (by decide) (by omega) ?_
          refine k_55 hS.1 shf_62 (by decide) (by omega) hs_7 (by omega) (fun N hT hr6 => ?_)
          have hS := hS.tr hT (by intro i k; first | exact rfl | omega | (dsimp only; omega) | (simp only [Hs, Tl, Sc, isHs, isScr, isTs] at *; omega))
          dsimp only [Option.toList, List.nil_append]
          refine w_load (.aload_n 0) 43 (by decide +kernel) rfl rfl ?_
          refine w_getR (k := 4) (r := 10) 46 (by decide +kernel) sh_0 rfl ?_
          refine w_load (.aload_n 0) 47 (by decide +kernel) rfl rfl ?_
          refine w_getR (k := 3) (r := 7) 50 (by decide +kernel) sh_0 rfl ?_
          refine w_load (.aload_n 0) 51 (by decide +kernel) rfl rfl ?_
          refine w_getR (k := 1) (r := 3) 54 (by decide +kernel) sh_0 rfl ?_
          refine w_load (.iload_n 1) 55 (by decide +kernel) rfl rfl ?_
          refine w_tale 56 (by decide +kernel) (by omega) ?_
          refine w_callV2 68 6 5 59 (by decide +kernel) sh_10 (Nat.le_of_ble_eq_true rfl) rfl rfl (by decide) (by omega) ?_
          refine k_68 hS.1 tl_10 hs_7 (sc_tale k2 (by omega)) (by omega) (fun N hT hr7 => ?_)
          have hS := hS.tr hT (by intro i k; first | exact rfl | omega | (dsimp only; omega) | (simp only [Hs, Tl, Sc, isHs, isScr, isTs] at *; omega))
          dsimp only [Option.toList, List.nil_append]
          refine w_load (.aload_n 0) 60 (by decide +kernel) rfl rfl ?_
          refine w_getR (k := 3) (r := 7) 63 (by decide +kernel) sh_0 rfl ?_
          refine w_load (.aload_n 0) 64 (by decide +kernel) rfl rfl ?_
          refine w_getR (k := 4) (r := 10) 67 (by decide +kernel) sh_0 rfl ?_
          refine w_getR (k := 0) (r := 11) 70 (by decide +kernel) sh_10 rfl ?_
          refine w_callV1 9 1 2 73 (by decide +kernel) sh_7 (Nat.le_of_ble_eq_true rfl) rfl (by decide) (by omega) ?_
          refine k_9 hS.1 hs_7 hs_11 (by omega) (fun N hT hr8 => ?_)
          have hS := hS.tr hT (by intro i k; first | exact rfl | omega | (dsimp only; omega) | (simp only [Hs, Tl, Sc, isHs, isScr, isTs] at *; omega))
          dsimp only [Option.toList, List.nil_append]
          refine w_load (.aload_n 0) 74 (by decide +kernel) rfl rfl ?_
          refine w_getR (k := 9) (r := 62) 77 (by decide +kernel) sh_0 rfl ?_
          refine w_load (.aload_n 0) 78 (by decide +kernel) rfl rfl ?_
          refine w_getR (k := 3) (r := 7) 81 (by decide +kernel) sh_0 rfl ?_
          refine w_load (.iload_n 2) 82 (by decide +kernel) rfl rfl ?_
          refine w_callV2 57 4 4 85 (by decide +kernel) sh_62 (Nat.le_of_ble_eq_true rfl) rfl rfl (by decide) (by omega) ?_
          refine k_57 hS.1 shf_62 (by decide) (by omega) hs_7 (by omega) (by omega) (fun r9 hr9 => ?_)
          dsimp only [Option.toList, List.cons_append, List.nil_append]
          refine w_store (ls' := [.ref 0, .int (nI k2), .int (nI g2), .int r9]) (.istore_n 3) 86 (by decide +kernel) rfl rfl ?_
          refine w_load (.iload_n 3) 87 (by decide +kernel) rfl rfl ?_
          refine w_push (-9) 89 (by decide +kernel) ?_
          refine w_ceq 99 92 (by decide +kernel) (fun h10 => ?_) (fun h10 => ?_)
          · skip
            refine w_iincN (z := 2) (g2 + 1) 102 (by decide +kernel) rfl (Nat.le_of_ble_eq_true rfl) rfl rfl ?_
            show Wp _ _ _ [.ref 0, .int (nI k2), .int (nI (g2 + 1)), .int r9] _ _ _ _
            refine w_goto 22 (by decide +kernel) ?_
            refine Wp.forget (ls := [.ref 0, .int (nI k2), .int (nI (g2 + 1)), .null]) ⟨Or.inl rfl, Or.inl rfl, Or.inl rfl, Or.inr ⟨rfl, rfl⟩, trivial⟩ ?_
            exact ih_22 N (g2 + 1) hS (by omega) (by omega) (by omega)
          · skip
            refine w_pushN 100 94 (by decide +kernel) ?_
            refine w_load (.iload_n 3) 95 (by decide +kernel) rfl rfl ?_
            refine w_pure .imul 96 (by decide +kernel) rfl rfl ?_
            refine w_load (.iload_n 2) 97 (by decide +kernel) rfl rfl ?_
            refine w_pure .iadd 98 (by decide +kernel) rfl rfl ?_
            exact w_ret (by decide +kernel) (hq _ N hS trivial)
    exact LP_22 _ N 1 hS (by omega) (by omega) (Nat.lt_succ_self _)
  · skip
    refine w_ine 9 7 (by decide +kernel) (fun hz => absurd hz (by decide)) (fun _ => ?_)
    refine w_push (-1) 8 (by decide +kernel) ?_
    exact w_ret (by decide +kernel) (hq _ N hS trivial)
-- X7_kinds
set_option maxRecDepth 10000 in
theorem k_95 {d : Nat} {M : Mt} {L : Lt} {Q : Option Value → Mt → Lt → Prop} {a : Int32} (hI : Inv M)  (hd : 6 ≤ d) (hq : ∀ (r : Int32) (N : Mt), St (fun i k => (4 ≤ i ∧ i ≤ 63) ∨ i = 68 ∨ i = 69 ∨ (i = 0 ∧ (k = 14 ∨ k = 15))) M N → True → Q (some (.int r)) N L) : Wp d 95 0 [.ref 0, .int a, .null, .null] [] M L Q := by
  refine (show ∀ N : Mt, N = M → St (fun i k => (4 ≤ i ∧ i ≤ 63) ∨ i = 68 ∨ i = 69 ∨ (i = 0 ∧ (k = 14 ∨ k = 15))) M N → Wp d 95 0 [.ref 0, .int a, .null, .null] [] N L Q from ?_) M rfl (St.rf hI)
  intro N hNM hS
  refine w_load (.iload_n 1) 1 (by decide +kernel) rfl rfl ?_
  refine w_callS1 111 1 4 (by decide +kernel) (Nat.le_of_ble_eq_true rfl) rfl (by decide) (by omega) ?_
  refine k_111 hS.1  (by omega) (fun r1 hr1 => ?_)
  dsimp only [Option.toList, List.cons_append, List.nil_append]
  rcases hr1 with ⟨rfl, k2, hk2, rfl⟩ | ⟨rfl, hnok2⟩
  · skip
    refine w_ine 9 7 (by decide +kernel) (fun _ => ?_) (fun hz => absurd hz (by decide))
    refine w_load (.aload_n 0) 10 (by decide +kernel) rfl rfl ?_
    refine w_getR (k := 1) (r := 3) 13 (by decide +kernel) sh_0 rfl ?_
    refine w_load (.iload_n 1) 14 (by decide +kernel) rfl rfl ?_
    refine w_tale 15 (by decide +kernel) (by omega) ?_
    refine w_store (ls' := [.ref 0, .int (nI k2), .ref (70 + 2 * k2), .null]) (.astore_n 2) 16 (by decide +kernel) rfl rfl ?_
    refine w_load (.aload_n 0) 17 (by decide +kernel) rfl rfl ?_
    refine w_getR (k := 4) (r := 10) 20 (by decide +kernel) sh_0 rfl ?_
    refine w_load (.aload_n 0) 21 (by decide +kernel) rfl rfl ?_
    refine w_getR (k := 2) (r := 4) 24 (by decide +kernel) sh_0 rfl ?_
    refine w_load (.aload_n 2) 25 (by decide +kernel) rfl rfl ?_
    refine w_callV2 68 6 5 28 (by decide +kernel) sh_10 (Nat.le_of_ble_eq_true rfl) rfl rfl (by decide) (by omega) ?_
    refine k_68 hS.1 tl_10 hs_4 (sc_tale k2 (by omega)) (by omega) (fun N hT hr4 => ?_)
    have hS := hS.tr hT (by intro i k; first | exact rfl | omega | (dsimp only; omega) | (simp only [Hs, Tl, Sc, isHs, isScr, isTs] at *; omega))
    dsimp only [Option.toList, List.nil_append]
    refine w_load (.aload_n 0) 29 (by decide +kernel) rfl rfl ?_
    refine w_load (.aload_n 2) 30 (by decide +kernel) rfl rfl ?_
    refine w_callV1 125 7 6 33 (by decide +kernel) sh_0 (Nat.le_of_ble_eq_true rfl) rfl (by decide) (by omega) ?_
    refine k_125 hS.1 (sc_tale k2 (by omega)) (by omega) (fun r5 hr5 => ?_)
    dsimp only [Option.toList, List.cons_append, List.nil_append]
    refine w_ieq 40 36 (by decide +kernel) (fun h6 => ?_) (fun h6 => ?_)
    · skip
      refine w_pushN 0 41 (by decide +kernel) ?_
      refine w_store (ls' := [.ref 0, .int (nI k2), .ref (70 + 2 * k2), .int (nI 0)]) (.istore_n 3) 42 (by decide +kernel) rfl rfl ?_
      refine w_load (.iload_n 3) 43 (by decide +kernel) rfl rfl ?_
      refine w_load (.aload_n 2) 44 (by decide +kernel) rfl rfl ?_
      refine w_callV0 42 2 2 47 (by decide +kernel) (sc_tale k2 (by omega)).1.1 (Nat.le_of_ble_eq_true rfl)  (by decide) (by omega) ?_
      refine k_42 hS.1 (sc_tale k2 (by omega)) (by omega) (fun r7 hr7 => ?_)
      dsimp only [Option.toList, List.cons_append, List.nil_append]
      refine w_load (.aload_n 2) 48 (by decide +kernel) rfl rfl ?_
      refine w_callV0 36 2 1 51 (by decide +kernel) (sc_tale k2 (by omega)).1.1 (Nat.le_of_ble_eq_true rfl)  (by decide) (by omega) ?_
      obtain ⟨n8, hn8, en8⟩ := inv_s hS.1 (sc_tale k2 (by omega))
      refine k_36 hS.1 (sc_tale k2 (by omega)) (by omega) en8 (by omega) (fun r9 hr9 => ?_)
      dsimp only [Option.toList, List.cons_append, List.nil_append]
      rcases hr9 with rfl
      · skip
        refine w_cne 58 54 (by decide +kernel) (fun h10 => ?_) (fun h10 => ?_)
        · skip
          refine w_pushN 0 59 (by decide +kernel) ?_
          refine w_pure .ior 60 (by decide +kernel) rfl rfl ?_
          refine w_topi (fun v11 ev11 => ?_)
          refine w_store (ls' := [.ref 0, .int (nI k2), .ref (70 + 2 * k2), .int v11]) (.istore_n 3) 61 (by decide +kernel) rfl rfl ?_
          refine w_load (.iload_n 3) 62 (by decide +kernel) rfl rfl ?_
          refine w_load (.aload_n 0) 63 (by decide +kernel) rfl rfl ?_
          refine w_getR (k := 4) (r := 10) 66 (by decide +kernel) sh_0 rfl ?_
          refine w_getR (k := 0) (r := 11) 69 (by decide +kernel) sh_10 rfl ?_
          refine w_load (.aload_n 0) 70 (by decide +kernel) rfl rfl ?_
          refine w_getR (k := 2) (r := 4) 73 (by decide +kernel) sh_0 rfl ?_
          refine w_callV1 31 1 2 76 (by decide +kernel) sh_11 (Nat.le_of_ble_eq_true rfl) rfl (by decide) (by omega) ?_
          refine k_31 hS.1 hs_11 hs_4 (by omega) (fun r12 hr12 => ?_)
          dsimp only [Option.toList, List.cons_append, List.nil_append]
          refine w_ieq 83 79 (by decide +kernel) (fun h13 => ?_) (fun h13 => ?_)
          · skip
            refine w_pushN 0 84 (by decide +kernel) ?_
            refine w_pure .ior 85 (by decide +kernel) rfl rfl ?_
            refine w_topi (fun v14 ev14 => ?_)
            refine w_store (ls' := [.ref 0, .int (nI k2), .ref (70 + 2 * k2), .int v14]) (.istore_n 3) 86 (by decide +kernel) rfl rfl ?_
            refine w_load (.iload_n 3) 87 (by decide +kernel) rfl rfl ?_
            refine w_load (.aload_n 0) 88 (by decide +kernel) rfl rfl ?_
            refine w_getR (k := 4) (r := 10) 91 (by decide +kernel) sh_0 rfl ?_
            refine w_getR (k := 0) (r := 11) 94 (by decide +kernel) sh_10 rfl ?_
            refine w_callV0 20 1 1 97 (by decide +kernel) sh_11 (Nat.le_of_ble_eq_true rfl)  (by decide) (by omega) ?_
            refine k_20 hS.1 hs_11 (by omega) (fun r15 hr15 => ?_)
            dsimp only [Option.toList, List.cons_append, List.nil_append]
            refine w_load (.aload_n 0) 98 (by decide +kernel) rfl rfl ?_
            refine w_getR (k := 2) (r := 4) 101 (by decide +kernel) sh_0 rfl ?_
            refine w_callV0 20 1 1 104 (by decide +kernel) sh_4 (Nat.le_of_ble_eq_true rfl)  (by decide) (by omega) ?_
            refine k_20 hS.1 hs_4 (by omega) (fun r16 hr16 => ?_)
            dsimp only [Option.toList, List.cons_append, List.nil_append]
            refine w_ceq 112 107 (by decide +kernel) (fun h17 => ?_) (fun h17 => ?_)
            · skip
              refine w_pushN 0 113 (by decide +kernel) ?_
              refine w_pure .ior 114 (by decide +kernel) rfl rfl ?_
              refine w_topi (fun v18 ev18 => ?_)
              refine w_store (ls' := [.ref 0, .int (nI k2), .ref (70 + 2 * k2), .int v18]) (.istore_n 3) 115 (by decide +kernel) rfl rfl ?_
              refine w_load (.iload_n 3) 116 (by decide +kernel) rfl rfl ?_
              refine w_load (.aload_n 0) 117 (by decide +kernel) rfl rfl ?_
              refine w_getR (k := 4) (r := 10) 120 (by decide +kernel) sh_0 rfl ?_
              refine w_getI (k := 3) 123 (by decide +kernel) sh_10 rfl ?_
              refine w_ile 131 126 (by decide +kernel) (fun h19 => ?_) (fun h19 => ?_)
              · skip
                refine w_pushN 0 132 (by decide +kernel) ?_
                refine w_pure .ior 133 (by decide +kernel) rfl rfl ?_
                refine w_topi (fun v20 ev20 => ?_)
                refine w_store (ls' := [.ref 0, .int (nI k2), .ref (70 + 2 * k2), .int v20]) (.istore_n 3) 134 (by decide +kernel) rfl rfl ?_
                refine w_load (.iload_n 3) 135 (by decide +kernel) rfl rfl ?_
                exact w_ret (by decide +kernel) (hq _ N hS trivial)
              · skip
                refine w_pushN 16 128 (by decide +kernel) ?_
                refine w_goto 132 (by decide +kernel) ?_
                refine w_pure .ior 133 (by decide +kernel) rfl rfl ?_
                refine w_topi (fun v21 ev21 => ?_)
                refine w_store (ls' := [.ref 0, .int (nI k2), .ref (70 + 2 * k2), .int v21]) (.istore_n 3) 134 (by decide +kernel) rfl rfl ?_
                refine w_load (.iload_n 3) 135 (by decide +kernel) rfl rfl ?_
                exact w_ret (by decide +kernel) (hq _ N hS trivial)
            · skip
              refine w_pushN 8 109 (by decide +kernel) ?_
              refine w_goto 113 (by decide +kernel) ?_
              refine w_pure .ior 114 (by decide +kernel) rfl rfl ?_
              refine w_topi (fun v22 ev22 => ?_)
              refine w_store (ls' := [.ref 0, .int (nI k2), .ref (70 + 2 * k2), .int v22]) (.istore_n 3) 115 (by decide +kernel) rfl rfl ?_
              refine w_load (.iload_n 3) 116 (by decide +kernel) rfl rfl ?_
              refine w_load (.aload_n 0) 117 (by decide +kernel) rfl rfl ?_
              refine w_getR (k := 4) (r := 10) 120 (by decide +kernel) sh_0 rfl ?_
              refine w_getI (k := 3) 123 (by decide +kernel) sh_10 rfl ?_
              refine w_ile 131 126 (by decide +kernel) (fun h23 => ?_) (fun h23 => ?_)
              · skip
                refine w_pushN 0 132 (by decide +kernel) ?_
                refine w_pure .ior 133 (by decide +kernel) rfl rfl ?_
                refine w_topi (fun v24 ev24 => ?_)
                refine w_store (ls' := [.ref 0, .int (nI k2), .ref (70 + 2 * k2), .int v24]) (.istore_n 3) 134 (by decide +kernel) rfl rfl ?_
                refine w_load (.iload_n 3) 135 (by decide +kernel) rfl rfl ?_
                exact w_ret (by decide +kernel) (hq _ N hS trivial)
              · skip
                refine w_pushN 16 128 (by decide +kernel) ?_
                refine w_goto 132 (by decide +kernel) ?_
                refine w_pure .ior 133 (by decide +kernel) rfl rfl ?_
                refine w_topi (fun v25 ev25 => ?_)
                refine w_store (ls' := [.ref 0, .int (nI k2), .ref (70 + 2 * k2), .int v25]) (.istore_n 3) 134 (by decide +kernel) rfl rfl ?_
                refine w_load (.iload_n 3) 135 (by decide +kernel) rfl rfl ?_
                exact w_ret (by decide +kernel) (hq _ N hS trivial)
          · skip
            refine w_pushN 4 80 (by decide +kernel) ?_
            refine w_goto 84 (by decide +kernel) ?_
            refine w_pure .ior 85 (by decide +kernel) rfl rfl ?_
            refine w_topi (fun v26 ev26 => ?_)
            refine w_store (ls' := [.ref 0, .int (nI k2), .ref (70 + 2 * k2), .int v26]) (.istore_n 3) 86 (by decide +kernel) rfl rfl ?_
            refine w_load (.iload_n 3) 87 (by decide +kernel) rfl rfl ?_
            refine w_load (.aload_n 0) 88 (by decide +kernel) rfl rfl ?_
            refine w_getR (k := 4) (r := 10) 91 (by decide +kernel) sh_0 rfl ?_
            refine w_getR (k := 0) (r := 11) 94 (by decide +kernel) sh_10 rfl ?_
            refine w_callV0 20 1 1 97 (by decide +kernel) sh_11 (Nat.le_of_ble_eq_true rfl)  (by decide) (by omega) ?_
            refine k_20 hS.1 hs_11 (by omega) (fun r27 hr27 => ?_)
            dsimp only [Option.toList, List.cons_append, List.nil_append]
            refine w_load (.aload_n 0) 98 (by decide +kernel) rfl rfl ?_
            refine w_getR (k := 2) (r := 4) 101 (by decide +kernel) sh_0 rfl ?_
            refine w_callV0 20 1 1 104 (by decide +kernel) sh_4 (Nat.le_of_ble_eq_true rfl)  (by decide) (by omega) ?_
            refine k_20 hS.1 hs_4 (by omega) (fun r28 hr28 => ?_)
            dsimp only [Option.toList, List.cons_append, List.nil_append]
            refine w_ceq 112 107 (by decide +kernel) (fun h29 => ?_) (fun h29 => ?_)
            · skip
              refine w_pushN 0 113 (by decide +kernel) ?_
              refine w_pure .ior 114 (by decide +kernel) rfl rfl ?_
              refine w_topi (fun v30 ev30 => ?_)
              refine w_store (ls' := [.ref 0, .int (nI k2), .ref (70 + 2 * k2), .int v30]) (.istore_n 3) 115 (by decide +kernel) rfl rfl ?_
              refine w_load (.iload_n 3) 116 (by decide +kernel) rfl rfl ?_
              refine w_load (.aload_n 0) 117 (by decide +kernel) rfl rfl ?_
              refine w_getR (k := 4) (r := 10) 120 (by decide +kernel) sh_0 rfl ?_
              refine w_getI (k := 3) 123 (by decide +kernel) sh_10 rfl ?_
              refine w_ile 131 126 (by decide +kernel) (fun h31 => ?_) (fun h31 => ?_)
              · skip
                refine w_pushN 0 132 (by decide +kernel) ?_
                refine w_pure .ior 133 (by decide +kernel) rfl rfl ?_
                refine w_topi (fun v32 ev32 => ?_)
                refine w_store (ls' := [.ref 0, .int (nI k2), .ref (70 + 2 * k2), .int v32]) (.istore_n 3) 134 (by decide +kernel) rfl rfl ?_
                refine w_load (.iload_n 3) 135 (by decide +kernel) rfl rfl ?_
                exact w_ret (by decide +kernel) (hq _ N hS trivial)
              · skip
                refine w_pushN 16 128 (by decide +kernel) ?_
                refine w_goto 132 (by decide +kernel) ?_
                refine w_pure .ior 133 (by decide +kernel) rfl rfl ?_
                refine w_topi (fun v33 ev33 => ?_)
                refine w_store (ls' := [.ref 0, .int (nI k2), .ref (70 + 2 * k2), .int v33]) (.istore_n 3) 134 (by decide +kernel) rfl rfl ?_
                refine w_load (.iload_n 3) 135 (by decide +kernel) rfl rfl ?_
                exact w_ret (by decide +kernel) (hq _ N hS trivial)
            · skip
              refine w_pushN 8 109 (by decide +kernel) ?_
              refine w_goto 113 (by decide +kernel) ?_
              refine w_pure .ior 114 (by decide +kernel) rfl rfl ?_
              refine w_topi (fun v34 ev34 => ?_)
              refine w_store (ls' := [.ref 0, .int (nI k2), .ref (70 + 2 * k2), .int v34]) (.istore_n 3) 115 (by decide +kernel) rfl rfl ?_
              refine w_load (.iload_n 3) 116 (by decide +kernel) rfl rfl ?_
              refine w_load (.aload_n 0) 117 (by decide +kernel) rfl rfl ?_
              refine w_getR (k := 4) (r := 10) 120 (by decide +kernel) sh_0 rfl ?_
              refine w_getI (k := 3) 123 (by decide +kernel) sh_10 rfl ?_
              refine w_ile 131 126 (by decide +kernel) (fun h35 => ?_) (fun h35 => ?_)
              · skip
                refine w_pushN 0 132 (by decide +kernel) ?_
                refine w_pure .ior 133 (by decide +kernel) rfl rfl ?_
                refine w_topi (fun v36 ev36 => ?_)
                refine w_store (ls' := [.ref 0, .int (nI k2), .ref (70 + 2 * k2), .int v36]) (.istore_n 3) 134 (by decide +kernel) rfl rfl ?_
                refine w_load (.iload_n 3) 135 (by decide +kernel) rfl rfl ?_
                exact w_ret (by decide +kernel) (hq _ N hS trivial)
              · skip
                refine w_pushN 16 128 (by decide +kernel) ?_
                refine w_goto 132 (by decide +kernel) ?_
                refine w_pure .ior 133 (by decide +kernel) rfl rfl ?_
                refine w_topi (fun v37 ev37 => ?_)
                refine w_store (ls' := [.ref 0, .int (nI k2), .ref (70 + 2 * k2), .int v37]) (.istore_n 3) 134 (by decide +kernel) rfl rfl ?_
                refine w_load (.iload_n 3) 135 (by decide +kernel) rfl rfl ?_
                exact w_ret (by decide +kernel) (hq _ N hS trivial)
        · skip
          refine w_pushN 2 55 (by decide +kernel) ?_
          refine w_goto 59 (by decide +kernel) ?_
          refine w_pure .ior 60 (by decide +kernel) rfl rfl ?_
          refine w_topi (fun v38 ev38 => ?_)
          refine w_store (ls' := [.ref 0, .int (nI k2), .ref (70 + 2 * k2), .int v38]) (.istore_n 3) 61 (by decide +kernel) rfl rfl ?_
          refine w_load (.iload_n 3) 62 (by decide +kernel) rfl rfl ?_
          refine w_load (.aload_n 0) 63 (by decide +kernel) rfl rfl ?_
          refine w_getR (k := 4) (r := 10) 66 (by decide +kernel) sh_0 rfl ?_
          refine w_getR (k := 0) (r := 11) 69 (by decide +kernel) sh_10 rfl ?_
          refine w_load (.aload_n 0) 70 (by decide +kernel) rfl rfl ?_
          refine w_getR (k := 2) (r := 4) 73 (by decide +kernel) sh_0 rfl ?_
          refine w_callV1 31 1 2 76 (by decide +kernel) sh_11 (Nat.le_of_ble_eq_true rfl) rfl (by decide) (by omega) ?_
          refine k_31 hS.1 hs_11 hs_4 (by omega) (fun r39 hr39 => ?_)
          dsimp only [Option.toList, List.cons_append, List.nil_append]
          refine w_ieq 83 79 (by decide +kernel) (fun h40 => ?_) (fun h40 => ?_)
          · skip
            refine w_pushN 0 84 (by decide +kernel) ?_
            refine w_pure .ior 85 (by decide +kernel) rfl rfl ?_
            refine w_topi (fun v41 ev41 => ?_)
            refine w_store (ls' := [.ref 0, .int (nI k2), .ref (70 + 2 * k2), .int v41]) (.istore_n 3) 86 (by decide +kernel) rfl rfl ?_
            refine w_load (.iload_n 3) 87 (by decide +kernel) rfl rfl ?_
            refine w_load (.aload_n 0) 88 (by decide +kernel) rfl rfl ?_
            refine w_getR (k := 4) (r := 10) 91 (by decide +kernel) sh_0 rfl ?_
            refine w_getR (k := 0) (r := 11) 94 (by decide +kernel) sh_10 rfl ?_
            refine w_callV0 20 1 1 97 (by decide +kernel) sh_11 (Nat.le_of_ble_eq_true rfl)  (by decide) (by omega) ?_
            refine k_20 hS.1 hs_11 (by omega) (fun r42 hr42 => ?_)
            dsimp only [Option.toList, List.cons_append, List.nil_append]
            refine w_load (.aload_n 0) 98 (by decide +kernel) rfl rfl ?_
            refine w_getR (k := 2) (r := 4) 101 (by decide +kernel) sh_0 rfl ?_
            refine w_callV0 20 1 1 104 (by decide +kernel) sh_4 (Nat.le_of_ble_eq_true rfl)  (by decide) (by omega) ?_
            refine k_20 hS.1 hs_4 (by omega) (fun r43 hr43 => ?_)
            dsimp only [Option.toList, List.cons_append, List.nil_append]
            refine w_ceq 112 107 (by decide +kernel) (fun h44 => ?_) (fun h44 => ?_)
            · skip
              refine w_pushN 0 113 (by decide +kernel) ?_
              refine w_pure .ior 114 (by decide +kernel) rfl rfl ?_
              refine w_topi (fun v45 ev45 => ?_)
              refine w_store (ls' := [.ref 0, .int (nI k2), .ref (70 + 2 * k2), .int v45]) (.istore_n 3) 115 (by decide +kernel) rfl rfl ?_
              refine w_load (.iload_n 3) 116 (by decide +kernel) rfl rfl ?_
              refine w_load (.aload_n 0) 117 (by decide +kernel) rfl rfl ?_
              refine w_getR (k := 4) (r := 10) 120 (by decide +kernel) sh_0 rfl ?_
              refine w_getI (k := 3) 123 (by decide +kernel) sh_10 rfl ?_
              refine w_ile 131 126 (by decide +kernel) (fun h46 => ?_) (fun h46 => ?_)
              · skip
                refine w_pushN 0 132 (by decide +kernel) ?_
                refine w_pure .ior 133 (by decide +kernel) rfl rfl ?_
                refine w_topi (fun v47 ev47 => ?_)
                refine w_store (ls' := [.ref 0, .int (nI k2), .ref (70 + 2 * k2), .int v47]) (.istore_n 3) 134 (by decide +kernel) rfl rfl ?_
                refine w_load (.iload_n 3) 135 (by decide +kernel) rfl rfl ?_
                exact w_ret (by decide +kernel) (hq _ N hS trivial)
              · skip
                refine w_pushN 16 128 (by decide +kernel) ?_
                refine w_goto 132 (by decide +kernel) ?_
                refine w_pure .ior 133 (by decide +kernel) rfl rfl ?_
                refine w_topi (fun v48 ev48 => ?_)
                refine w_store (ls' := [.ref 0, .int (nI k2), .ref (70 + 2 * k2), .int v48]) (.istore_n 3) 134 (by decide +kernel) rfl rfl ?_
                refine w_load (.iload_n 3) 135 (by decide +kernel) rfl rfl ?_
                exact w_ret (by decide +kernel) (hq _ N hS trivial)
            · skip
              refine w_pushN 8 109 (by decide +kernel) ?_
              refine w_goto 113 (by decide +kernel) ?_
              refine w_pure .ior 114 (by decide +kernel) rfl rfl ?_
              refine w_topi (fun v49 ev49 => ?_)
              refine w_store (ls' := [.ref 0, .int (nI k2), .ref (70 + 2 * k2), .int v49]) (.istore_n 3) 115 (by decide +kernel) rfl rfl ?_
              refine w_load (.iload_n 3) 116 (by decide +kernel) rfl rfl ?_
              refine w_load (.aload_n 0) 117 (by decide +kernel) rfl rfl ?_
              refine w_getR (k := 4) (r := 10) 120 (by decide +kernel) sh_0 rfl ?_
              refine w_getI (k := 3) 123 (by decide +kernel) sh_10 rfl ?_
              refine w_ile 131 126 (by decide +kernel) (fun h50 => ?_) (fun h50 => ?_)
              · skip
                refine w_pushN 0 132 (by decide +kernel) ?_
                refine w_pure .ior 133 (by decide +kernel) rfl rfl ?_
                refine w_topi (fun v51 ev51 => ?_)
                refine w_store (ls' := [.ref 0, .int (nI k2), .ref (70 + 2 * k2), .int v51]) (.istore_n 3) 134 (by decide +kernel) rfl rfl ?_
                refine w_load (.iload_n 3) 135 (by decide +kernel) rfl rfl ?_
                exact w_ret (by decide +kernel) (hq _ N hS trivial)
              · skip
                refine w_pushN 16 128 (by decide +kernel) ?_
                refine w_goto 132 (by decide +kernel) ?_
                refine w_pure .ior 133 (by decide +kernel) rfl rfl ?_
                refine w_topi (fun v52 ev52 => ?_)
                refine w_store (ls' := [.ref 0, .int (nI k2), .ref (70 + 2 * k2), .int v52]) (.istore_n 3) 134 (by decide +kernel) rfl rfl ?_
                refine w_load (.iload_n 3) 135 (by decide +kernel) rfl rfl ?_
                exact w_ret (by decide +kernel) (hq _ N hS trivial)
          · skip
            refine w_pushN 4 80 (by decide +kernel) ?_
            refine w_goto 84 (by decide +kernel) ?_
            refine w_pure .ior 85 (by decide +kernel) rfl rfl ?_
            refine w_topi (fun v53 ev53 => ?_)
            refine w_store (ls' := [.ref 0, .int (nI k2), .ref (70 + 2 * k2), .int v53]) (.istore_n 3) 86 (by decide +kernel) rfl rfl ?_
            refine w_load (.iload_n 3) 87 (by decide +kernel) rfl rfl ?_
            refine w_load (.aload_n 0) 88 (by decide +kernel) rfl rfl ?_
            refine w_getR (k := 4) (r := 10) 91 (by decide +kernel) sh_0 rfl ?_
            refine w_getR (k := 0) (r := 11) 94 (by decide +kernel) sh_10 rfl ?_
            refine w_callV0 20 1 1 97 (by decide +kernel) sh_11 (Nat.le_of_ble_eq_true rfl)  (by decide) (by omega) ?_
            refine k_20 hS.1 hs_11 (by omega) (fun r54 hr54 => ?_)
            dsimp only [Option.toList, List.cons_append, List.nil_append]
            refine w_load (.aload_n 0) 98 (by decide +kernel) rfl rfl ?_
            refine w_getR (k := 2) (r := 4) 101 (by decide +kernel) sh_0 rfl ?_
            refine w_callV0 20 1 1 104 (by decide +kernel) sh_4 (Nat.le_of_ble_eq_true rfl)  (by decide) (by omega) ?_
            refine k_20 hS.1 hs_4 (by omega) (fun r55 hr55 => ?_)
            dsimp only [Option.toList, List.cons_append, List.nil_append]
            refine w_ceq 112 107 (by decide +kernel) (fun h56 => ?_) (fun h56 => ?_)
            · skip
              refine w_pushN 0 113 (by decide +kernel) ?_
              refine w_pure .ior 114 (by decide +kernel) rfl rfl ?_
              refine w_topi (fun v57 ev57 => ?_)
              refine w_store (ls' := [.ref 0, .int (nI k2), .ref (70 + 2 * k2), .int v57]) (.istore_n 3) 115 (by decide +kernel) rfl rfl ?_
              refine w_load (.iload_n 3) 116 (by decide +kernel) rfl rfl ?_
              refine w_load (.aload_n 0) 117 (by decide +kernel) rfl rfl ?_
              refine w_getR (k := 4) (r := 10) 120 (by decide +kernel) sh_0 rfl ?_
              refine w_getI (k := 3) 123 (by decide +kernel) sh_10 rfl ?_
              refine w_ile 131 126 (by decide +kernel) (fun h58 => ?_) (fun h58 => ?_)
              · skip
                refine w_pushN 0 132 (by decide +kernel) ?_
                refine w_pure .ior 133 (by decide +kernel) rfl rfl ?_
                refine w_topi (fun v59 ev59 => ?_)
                refine w_store (ls' := [.ref 0, .int (nI k2), .ref (70 + 2 * k2), .int v59]) (.istore_n 3) 134 (by decide +kernel) rfl rfl ?_
                refine w_load (.iload_n 3) 135 (by decide +kernel) rfl rfl ?_
                exact w_ret (by decide +kernel) (hq _ N hS trivial)
              · skip
                refine w_pushN 16 128 (by decide +kernel) ?_
                refine w_goto 132 (by decide +kernel) ?_
                refine w_pure .ior 133 (by decide +kernel) rfl rfl ?_
                refine w_topi (fun v60 ev60 => ?_)
                refine w_store (ls' := [.ref 0, .int (nI k2), .ref (70 + 2 * k2), .int v60]) (.istore_n 3) 134 (by decide +kernel) rfl rfl ?_
                refine w_load (.iload_n 3) 135 (by decide +kernel) rfl rfl ?_
                exact w_ret (by decide +kernel) (hq _ N hS trivial)
            · skip
              refine w_pushN 8 109 (by decide +kernel) ?_
              refine w_goto 113 (by decide +kernel) ?_
              refine w_pure .ior 114 (by decide +kernel) rfl rfl ?_
              refine w_topi (fun v61 ev61 => ?_)
              refine w_store (ls' := [.ref 0, .int (nI k2), .ref (70 + 2 * k2), .int v61]) (.istore_n 3) 115 (by decide +kernel) rfl rfl ?_
              refine w_load (.iload_n 3) 116 (by decide +kernel) rfl rfl ?_
              refine w_load (.aload_n 0) 117 (by decide +kernel) rfl rfl ?_
              refine w_getR (k := 4) (r := 10) 120 (by decide +kernel) sh_0 rfl ?_
              refine w_getI (k := 3) 123 (by decide +kernel) sh_10 rfl ?_
              refine w_ile 131 126 (by decide +kernel) (fun h62 => ?_) (fun h62 => ?_)
              · skip
                refine w_pushN 0 132 (by decide +kernel) ?_
                refine w_pure .ior 133 (by decide +kernel) rfl rfl ?_
                refine w_topi (fun v63 ev63 => ?_)
                refine w_store (ls' := [.ref 0, .int (nI k2), .ref (70 + 2 * k2), .int v63]) (.istore_n 3) 134 (by decide +kernel) rfl rfl ?_
                refine w_load (.iload_n 3) 135 (by decide +kernel) rfl rfl ?_
                exact w_ret (by decide +kernel) (hq _ N hS trivial)
              · skip
                refine w_pushN 16 128 (by decide +kernel) ?_
                refine w_goto 132 (by decide +kernel) ?_
                refine w_pure .ior 133 (by decide +kernel) rfl rfl ?_
                refine w_topi (fun v64 ev64 => ?_)
                refine w_store (ls' := [.ref 0, .int (nI k2), .ref (70 + 2 * k2), .int v64]) (.istore_n 3) 134 (by decide +kernel) rfl rfl ?_
                refine w_load (.iload_n 3) 135 (by decide +kernel) rfl rfl ?_
                exact w_ret (by decide +kernel) (hq _ N hS trivial)
    · skip
      refine w_pushN 1 37 (by decide +kernel) ?_
      refine w_goto 41 (by decide +kernel) ?_
      refine w_store (ls' := [.ref 0, .int (nI k2), .ref (70 + 2 * k2), .int (nI 1)]) (.istore_n 3) 42 (by decide +kernel) rfl rfl ?_
      refine w_load (.iload_n 3) 43 (by decide +kernel) rfl rfl ?_
      refine w_load (.aload_n 2) 44 (by decide +kernel) rfl rfl ?_
      refine w_callV0 42 2 2 47 (by decide +kernel) (sc_tale k2 (by omega)).1.1 (Nat.le_of_ble_eq_true rfl)  (by decide) (by omega) ?_
      refine k_42 hS.1 (sc_tale k2 (by omega)) (by omega) (fun r65 hr65 => ?_)
      dsimp only [Option.toList, List.cons_append, List.nil_append]
      refine w_load (.aload_n 2) 48 (by decide +kernel) rfl rfl ?_
      refine w_callV0 36 2 1 51 (by decide +kernel) (sc_tale k2 (by omega)).1.1 (Nat.le_of_ble_eq_true rfl)  (by decide) (by omega) ?_
      obtain ⟨n66, hn66, en66⟩ := inv_s hS.1 (sc_tale k2 (by omega))
      refine k_36 hS.1 (sc_tale k2 (by omega)) (by omega) en66 (by omega) (fun r67 hr67 => ?_)
      dsimp only [Option.toList, List.cons_append, List.nil_append]
      rcases hr67 with rfl
      · skip
        refine w_cne 58 54 (by decide +kernel) (fun h68 => ?_) (fun h68 => ?_)
        · skip
          refine w_pushN 0 59 (by decide +kernel) ?_
          refine w_pure .ior 60 (by decide +kernel) rfl rfl ?_
          refine w_topi (fun v69 ev69 => ?_)
          refine w_store (ls' := [.ref 0, .int (nI k2), .ref (70 + 2 * k2), .int v69]) (.istore_n 3) 61 (by decide +kernel) rfl rfl ?_
          refine w_load (.iload_n 3) 62 (by decide +kernel) rfl rfl ?_
          refine w_load (.aload_n 0) 63 (by decide +kernel) rfl rfl ?_
          refine w_getR (k := 4) (r := 10) 66 (by decide +kernel) sh_0 rfl ?_
          refine w_getR (k := 0) (r := 11) 69 (by decide +kernel) sh_10 rfl ?_
          refine w_load (.aload_n 0) 70 (by decide +kernel) rfl rfl ?_
          refine w_getR (k := 2) (r := 4) 73 (by decide +kernel) sh_0 rfl ?_
          refine w_callV1 31 1 2 76 (by decide +kernel) sh_11 (Nat.le_of_ble_eq_true rfl) rfl (by decide) (by omega) ?_
          refine k_31 hS.1 hs_11 hs_4 (by omega) (fun r70 hr70 => ?_)
          dsimp only [Option.toList, List.cons_append, List.nil_append]
          refine w_ieq 83 79 (by decide +kernel) (fun h71 => ?_) (fun h71 => ?_)
          · skip
            refine w_pushN 0 84 (by decide +kernel) ?_
            refine w_pure .ior 85 (by decide +kernel) rfl rfl ?_
            refine w_topi (fun v72 ev72 => ?_)
            refine w_store (ls' := [.ref 0, .int (nI k2), .ref (70 + 2 * k2), .int v72]) (.istore_n 3) 86 (by decide +kernel) rfl rfl ?_
            refine w_load (.iload_n 3) 87 (by decide +kernel) rfl rfl ?_
            refine w_load (.aload_n 0) 88 (by decide +kernel) rfl rfl ?_
            refine w_getR (k := 4) (r := 10) 91 (by decide +kernel) sh_0 rfl ?_
            refine w_getR (k := 0) (r := 11) 94 (by decide +kernel) sh_10 rfl ?_
            refine w_callV0 20 1 1 97 (by decide +kernel) sh_11 (Nat.le_of_ble_eq_true rfl)  (by decide) (by omega) ?_
            refine k_20 hS.1 hs_11 (by omega) (fun r73 hr73 => ?_)
            dsimp only [Option.toList, List.cons_append, List.nil_append]
            refine w_load (.aload_n 0) 98 (by decide +kernel) rfl rfl ?_
            refine w_getR (k := 2) (r := 4) 101 (by decide +kernel) sh_0 rfl ?_
            refine w_callV0 20 1 1 104 (by decide +kernel) sh_4 (Nat.le_of_ble_eq_true rfl)  (by decide) (by omega) ?_
            refine k_20 hS.1 hs_4 (by omega) (fun r74 hr74 => ?_)
            dsimp only [Option.toList, List.cons_append, List.nil_append]
            refine w_ceq 112 107 (by decide +kernel) (fun h75 => ?_) (fun h75 => ?_)
            · skip
              refine w_pushN 0 113 (by decide +kernel) ?_
              refine w_pure .ior 114 (by decide +kernel) rfl rfl ?_
              refine w_topi (fun v76 ev76 => ?_)
              refine w_store (ls' := [.ref 0, .int (nI k2), .ref (70 + 2 * k2), .int v76]) (.istore_n 3) 115 (by decide +kernel) rfl rfl ?_
              refine w_load (.iload_n 3) 116 (by decide +kernel) rfl rfl ?_
              refine w_load (.aload_n 0) 117 (by decide +kernel) rfl rfl ?_
              refine w_getR (k := 4) (r := 10) 120 (by decide +kernel) sh_0 rfl ?_
              refine w_getI (k := 3) 123 (by decide +kernel) sh_10 rfl ?_
              refine w_ile 131 126 (by decide +kernel) (fun h77 => ?_) (fun h77 => ?_)
              · skip
                refine w_pushN 0 132 (by decide +kernel) ?_
                refine w_pure .ior 133 (by decide +kernel) rfl rfl ?_
                refine w_topi (fun v78 ev78 => ?_)
                refine w_store (ls' := [.ref 0, .int (nI k2), .ref (70 + 2 * k2), .int v78]) (.istore_n 3) 134 (by decide +kernel) rfl rfl ?_
                refine w_load (.iload_n 3) 135 (by decide +kernel) rfl rfl ?_
                exact w_ret (by decide +kernel) (hq _ N hS trivial)
              · skip
                refine w_pushN 16 128 (by decide +kernel) ?_
                refine w_goto 132 (by decide +kernel) ?_
                refine w_pure .ior 133 (by decide +kernel) rfl rfl ?_
                refine w_topi (fun v79 ev79 => ?_)
                refine w_store (ls' := [.ref 0, .int (nI k2), .ref (70 + 2 * k2), .int v79]) (.istore_n 3) 134 (by decide +kernel) rfl rfl ?_
                refine w_load (.iload_n 3) 135 (by decide +kernel) rfl rfl ?_
                exact w_ret (by decide +kernel) (hq _ N hS trivial)
            · skip
              refine w_pushN 8 109 (by decide +kernel) ?_
              refine w_goto 113 (by decide +kernel) ?_
              refine w_pure .ior 114 (by decide +kernel) rfl rfl ?_
              refine w_topi (fun v80 ev80 => ?_)
              refine w_store (ls' := [.ref 0, .int (nI k2), .ref (70 + 2 * k2), .int v80]) (.istore_n 3) 115 (by decide +kernel) rfl rfl ?_
              refine w_load (.iload_n 3) 116 (by decide +kernel) rfl rfl ?_
              refine w_load (.aload_n 0) 117 (by decide +kernel) rfl rfl ?_
              refine w_getR (k := 4) (r := 10) 120 (by decide +kernel) sh_0 rfl ?_
              refine w_getI (k := 3) 123 (by decide +kernel) sh_10 rfl ?_
              refine w_ile 131 126 (by decide +kernel) (fun h81 => ?_) (fun h81 => ?_)
              · skip
                refine w_pushN 0 132 (by decide +kernel) ?_
                refine w_pure .ior 133 (by decide +kernel) rfl rfl ?_
                refine w_topi (fun v82 ev82 => ?_)
                refine w_store (ls' := [.ref 0, .int (nI k2), .ref (70 + 2 * k2), .int v82]) (.istore_n 3) 134 (by decide +kernel) rfl rfl ?_
                refine w_load (.iload_n 3) 135 (by decide +kernel) rfl rfl ?_
                exact w_ret (by decide +kernel) (hq _ N hS trivial)
              · skip
                refine w_pushN 16 128 (by decide +kernel) ?_
                refine w_goto 132 (by decide +kernel) ?_
                refine w_pure .ior 133 (by decide +kernel) rfl rfl ?_
                refine w_topi (fun v83 ev83 => ?_)
                refine w_store (ls' := [.ref 0, .int (nI k2), .ref (70 + 2 * k2), .int v83]) (.istore_n 3) 134 (by decide +kernel) rfl rfl ?_
                refine w_load (.iload_n 3) 135 (by decide +kernel) rfl rfl ?_
                exact w_ret (by decide +kernel) (hq _ N hS trivial)
          · skip
            refine w_pushN 4 80 (by decide +kernel) ?_
            refine w_goto 84 (by decide +kernel) ?_
            refine w_pure .ior 85 (by decide +kernel) rfl rfl ?_
            refine w_topi (fun v84 ev84 => ?_)
            refine w_store (ls' := [.ref 0, .int (nI k2), .ref (70 + 2 * k2), .int v84]) (.istore_n 3) 86 (by decide +kernel) rfl rfl ?_
            refine w_load (.iload_n 3) 87 (by decide +kernel) rfl rfl ?_
            refine w_load (.aload_n 0) 88 (by decide +kernel) rfl rfl ?_
            refine w_getR (k := 4) (r := 10) 91 (by decide +kernel) sh_0 rfl ?_
            refine w_getR (k := 0) (r := 11) 94 (by decide +kernel) sh_10 rfl ?_
            refine w_callV0 20 1 1 97 (by decide +kernel) sh_11 (Nat.le_of_ble_eq_true rfl)  (by decide) (by omega) ?_
            refine k_20 hS.1 hs_11 (by omega) (fun r85 hr85 => ?_)
            dsimp only [Option.toList, List.cons_append, List.nil_append]
            refine w_load (.aload_n 0) 98 (by decide +kernel) rfl rfl ?_
            refine w_getR (k := 2) (r := 4) 101 (by decide +kernel) sh_0 rfl ?_
            refine w_callV0 20 1 1 104 (by decide +kernel) sh_4 (Nat.le_of_ble_eq_true rfl)  (by decide) (by omega) ?_
            refine k_20 hS.1 hs_4 (by omega) (fun r86 hr86 => ?_)
            dsimp only [Option.toList, List.cons_append, List.nil_append]
            refine w_ceq 112 107 (by decide +kernel) (fun h87 => ?_) (fun h87 => ?_)
            · skip
              refine w_pushN 0 113 (by decide +kernel) ?_
              refine w_pure .ior 114 (by decide +kernel) rfl rfl ?_
              refine w_topi (fun v88 ev88 => ?_)
              refine w_store (ls' := [.ref 0, .int (nI k2), .ref (70 + 2 * k2), .int v88]) (.istore_n 3) 115 (by decide +kernel) rfl rfl ?_
              refine w_load (.iload_n 3) 116 (by decide +kernel) rfl rfl ?_
              refine w_load (.aload_n 0) 117 (by decide +kernel) rfl rfl ?_
              refine w_getR (k := 4) (r := 10) 120 (by decide +kernel) sh_0 rfl ?_
              refine w_getI (k := 3) 123 (by decide +kernel) sh_10 rfl ?_
              refine w_ile 131 126 (by decide +kernel) (fun h89 => ?_) (fun h89 => ?_)
              · skip
                refine w_pushN 0 132 (by decide +kernel) ?_
                refine w_pure .ior 133 (by decide +kernel) rfl rfl ?_
                refine w_topi (fun v90 ev90 => ?_)
                refine w_store (ls' := [.ref 0, .int (nI k2), .ref (70 + 2 * k2), .int v90]) (.istore_n 3) 134 (by decide +kernel) rfl rfl ?_
                refine w_load (.iload_n 3) 135 (by decide +kernel) rfl rfl ?_
                exact w_ret (by decide +kernel) (hq _ N hS trivial)
              · skip
                refine w_pushN 16 128 (by decide +kernel) ?_
                refine w_goto 132 (by decide +kernel) ?_
                refine w_pure .ior 133 (by decide +kernel) rfl rfl ?_
                refine w_topi (fun v91 ev91 => ?_)
                refine w_store (ls' := [.ref 0, .int (nI k2), .ref (70 + 2 * k2), .int v91]) (.istore_n 3) 134 (by decide +kernel) rfl rfl ?_
                refine w_load (.iload_n 3) 135 (by decide +kernel) rfl rfl ?_
                exact w_ret (by decide +kernel) (hq _ N hS trivial)
            · skip
              refine w_pushN 8 109 (by decide +kernel) ?_
              refine w_goto 113 (by decide +kernel) ?_
              refine w_pure .ior 114 (by decide +kernel) rfl rfl ?_
              refine w_topi (fun v92 ev92 => ?_)
              refine w_store (ls' := [.ref 0, .int (nI k2), .ref (70 + 2 * k2), .int v92]) (.istore_n 3) 115 (by decide +kernel) rfl rfl ?_
              refine w_load (.iload_n 3) 116 (by decide +kernel) rfl rfl ?_
              refine w_load (.aload_n 0) 117 (by decide +kernel) rfl rfl ?_
              refine w_getR (k := 4) (r := 10) 120 (by decide +kernel) sh_0 rfl ?_
              refine w_getI (k := 3) 123 (by decide +kernel) sh_10 rfl ?_
              refine w_ile 131 126 (by decide +kernel) (fun h93 => ?_) (fun h93 => ?_)
              · skip
                refine w_pushN 0 132 (by decide +kernel) ?_
                refine w_pure .ior 133 (by decide +kernel) rfl rfl ?_
                refine w_topi (fun v94 ev94 => ?_)
                refine w_store (ls' := [.ref 0, .int (nI k2), .ref (70 + 2 * k2), .int v94]) (.istore_n 3) 134 (by decide +kernel) rfl rfl ?_
                refine w_load (.iload_n 3) 135 (by decide +kernel) rfl rfl ?_
                exact w_ret (by decide +kernel) (hq _ N hS trivial)
              · skip
                refine w_pushN 16 128 (by decide +kernel) ?_
                refine w_goto 132 (by decide +kernel) ?_
                refine w_pure .ior 133 (by decide +kernel) rfl rfl ?_
                refine w_topi (fun v95 ev95 => ?_)
                refine w_store (ls' := [.ref 0, .int (nI k2), .ref (70 + 2 * k2), .int v95]) (.istore_n 3) 134 (by decide +kernel) rfl rfl ?_
                refine w_load (.iload_n 3) 135 (by decide +kernel) rfl rfl ?_
                exact w_ret (by decide +kernel) (hq _ N hS trivial)
        · skip
          refine w_pushN 2 55 (by decide +kernel) ?_
          refine w_goto 59 (by decide +kernel) ?_
          refine w_pure .ior 60 (by decide +kernel) rfl rfl ?_
          refine w_topi (fun v96 ev96 => ?_)
          refine w_store (ls' := [.ref 0, .int (nI k2), .ref (70 + 2 * k2), .int v96]) (.istore_n 3) 61 (by decide +kernel) rfl rfl ?_
          refine w_load (.iload_n 3) 62 (by decide +kernel) rfl rfl ?_
          refine w_load (.aload_n 0) 63 (by decide +kernel) rfl rfl ?_
          refine w_getR (k := 4) (r := 10) 66 (by decide +kernel) sh_0 rfl ?_
          refine w_getR (k := 0) (r := 11) 69 (by decide +kernel) sh_10 rfl ?_
          refine w_load (.aload_n 0) 70 (by decide +kernel) rfl rfl ?_
          refine w_getR (k := 2) (r := 4) 73 (by decide +kernel) sh_0 rfl ?_
          refine w_callV1 31 1 2 76 (by decide +kernel) sh_11 (Nat.le_of_ble_eq_true rfl) rfl (by decide) (by omega) ?_
          refine k_31 hS.1 hs_11 hs_4 (by omega) (fun r97 hr97 => ?_)
          dsimp only [Option.toList, List.cons_append, List.nil_append]
          refine w_ieq 83 79 (by decide +kernel) (fun h98 => ?_) (fun h98 => ?_)
          · skip
            refine w_pushN 0 84 (by decide +kernel) ?_
            refine w_pure .ior 85 (by decide +kernel) rfl rfl ?_
            refine w_topi (fun v99 ev99 => ?_)
            refine w_store (ls' := [.ref 0, .int (nI k2), .ref (70 + 2 * k2), .int v99]) (.istore_n 3) 86 (by decide +kernel) rfl rfl ?_
            refine w_load (.iload_n 3) 87 (by decide +kernel) rfl rfl ?_
            refine w_load (.aload_n 0) 88 (by decide +kernel) rfl rfl ?_
            refine w_getR (k := 4) (r := 10) 91 (by decide +kernel) sh_0 rfl ?_
            refine w_getR (k := 0) (r := 11) 94 (by decide +kernel) sh_10 rfl ?_
            refine w_callV0 20 1 1 97 (by decide +kernel) sh_11 (Nat.le_of_ble_eq_true rfl)  (by decide) (by omega) ?_
            refine k_20 hS.1 hs_11 (by omega) (fun r100 hr100 => ?_)
            dsimp only [Option.toList, List.cons_append, List.nil_append]
            refine w_load (.aload_n 0) 98 (by decide +kernel) rfl rfl ?_
            refine w_getR (k := 2) (r := 4) 101 (by decide +kernel) sh_0 rfl ?_
            refine w_callV0 20 1 1 104 (by decide +kernel) sh_4 (Nat.le_of_ble_eq_true rfl)  (by decide) (by omega) ?_
            refine k_20 hS.1 hs_4 (by omega) (fun r101 hr101 => ?_)
            dsimp only [Option.toList, List.cons_append, List.nil_append]
            refine w_ceq 112 107 (by decide +kernel) (fun h102 => ?_) (fun h102 => ?_)
            · skip
              refine w_pushN 0 113 (by decide +kernel) ?_
              refine w_pure .ior 114 (by decide +kernel) rfl rfl ?_
              refine w_topi (fun v103 ev103 => ?_)
              refine w_store (ls' := [.ref 0, .int (nI k2), .ref (70 + 2 * k2), .int v103]) (.istore_n 3) 115 (by decide +kernel) rfl rfl ?_
              refine w_load (.iload_n 3) 116 (by decide +kernel) rfl rfl ?_
              refine w_load (.aload_n 0) 117 (by decide +kernel) rfl rfl ?_
              refine w_getR (k := 4) (r := 10) 120 (by decide +kernel) sh_0 rfl ?_
              refine w_getI (k := 3) 123 (by decide +kernel) sh_10 rfl ?_
              refine w_ile 131 126 (by decide +kernel) (fun h104 => ?_) (fun h104 => ?_)
              · skip
                refine w_pushN 0 132 (by decide +kernel) ?_
                refine w_pure .ior 133 (by decide +kernel) rfl rfl ?_
                refine w_topi (fun v105 ev105 => ?_)
                refine w_store (ls' := [.ref 0, .int (nI k2), .ref (70 + 2 * k2), .int v105]) (.istore_n 3) 134 (by decide +kernel) rfl rfl ?_
                refine w_load (.iload_n 3) 135 (by decide +kernel) rfl rfl ?_
                exact w_ret (by decide +kernel) (hq _ N hS trivial)
              · skip
                refine w_pushN 16 128 (by decide +kernel) ?_
                refine w_goto 132 (by decide +kernel) ?_
                refine w_pure .ior 133 (by decide +kernel) rfl rfl ?_
                refine w_topi (fun v106 ev106 => ?_)
                refine w_store (ls' := [.ref 0, .int (nI k2), .ref (70 + 2 * k2), .int v106]) (.istore_n 3) 134 (by decide +kernel) rfl rfl ?_
                refine w_load (.iload_n 3) 135 (by decide +kernel) rfl rfl ?_
                exact w_ret (by decide +kernel) (hq _ N hS trivial)
            · skip
              refine w_pushN 8 109 (by decide +kernel) ?_
              refine w_goto 113 (by decide +kernel) ?_
              refine w_pure .ior 114 (by decide +kernel) rfl rfl ?_
              refine w_topi (fun v107 ev107 => ?_)
              refine w_store (ls' := [.ref 0, .int (nI k2), .ref (70 + 2 * k2), .int v107]) (.istore_n 3) 115 (by decide +kernel) rfl rfl ?_
              refine w_load (.iload_n 3) 116 (by decide +kernel) rfl rfl ?_
              refine w_load (.aload_n 0) 117 (by decide +kernel) rfl rfl ?_
              refine w_getR (k := 4) (r := 10) 120 (by decide +kernel) sh_0 rfl ?_
              refine w_getI (k := 3) 123 (by decide +kernel) sh_10 rfl ?_
              refine w_ile 131 126 (by decide +kernel) (fun h108 => ?_) (fun h108 => ?_)
              · skip
                refine w_pushN 0 132 (by decide +kernel) ?_
                refine w_pure .ior 133 (by decide +kernel) rfl rfl ?_
                refine w_topi (fun v109 ev109 => ?_)
                refine w_store (ls' := [.ref 0, .int (nI k2), .ref (70 + 2 * k2), .int v109]) (.istore_n 3) 134 (by decide +kernel) rfl rfl ?_
                refine w_load (.iload_n 3) 135 (by decide +kernel) rfl rfl ?_
                exact w_ret (by decide +kernel) (hq _ N hS trivial)
              · skip
                refine w_pushN 16 128 (by decide +kernel) ?_
                refine w_goto 132 (by decide +kernel) ?_
                refine w_pure .ior 133 (by decide +kernel) rfl rfl ?_
                refine w_topi (fun v110 ev110 => ?_)
                refine w_store (ls' := [.ref 0, .int (nI k2), .ref (70 + 2 * k2), .int v110]) (.istore_n 3) 134 (by decide +kernel) rfl rfl ?_
                refine w_load (.iload_n 3) 135 (by decide +kernel) rfl rfl ?_
                exact w_ret (by decide +kernel) (hq _ N hS trivial)
          · skip
            refine w_pushN 4 80 (by decide +kernel) ?_
            refine w_goto 84 (by decide +kernel) ?_
            refine w_pure .ior 85 (by decide +kernel) rfl rfl ?_
            refine w_topi (fun v111 ev111 => ?_)
            refine w_store (ls' := [.ref 0, .int (nI k2), .ref (70 + 2 * k2), .int v111]) (.istore_n 3) 86 (by decide +kernel) rfl rfl ?_
            refine w_load (.iload_n 3) 87 (by decide +kernel) rfl rfl ?_
            refine w_load (.aload_n 0) 88 (by decide +kernel) rfl rfl ?_
            refine w_getR (k := 4) (r := 10) 91 (by decide +kernel) sh_0 rfl ?_
            refine w_getR (k := 0) (r := 11) 94 (by decide +kernel) sh_10 rfl ?_
            refine w_callV0 20 1 1 97 (by decide +kernel) sh_11 (Nat.le_of_ble_eq_true rfl)  (by decide) (by omega) ?_
            refine k_20 hS.1 hs_11 (by omega) (fun r112 hr112 => ?_)
            dsimp only [Option.toList, List.cons_append, List.nil_append]
            refine w_load (.aload_n 0) 98 (by decide +kernel) rfl rfl ?_
            refine w_getR (k := 2) (r := 4) 101 (by decide +kernel) sh_0 rfl ?_
            refine w_callV0 20 1 1 104 (by decide +kernel) sh_4 (Nat.le_of_ble_eq_true rfl)  (by decide) (by omega) ?_
            refine k_20 hS.1 hs_4 (by omega) (fun r113 hr113 => ?_)
            dsimp only [Option.toList, List.cons_append, List.nil_append]
            refine w_ceq 112 107 (by decide +kernel) (fun h114 => ?_) (fun h114 => ?_)
            · skip
              refine w_pushN 0 113 (by decide +kernel) ?_
              refine w_pure .ior 114 (by decide +kernel) rfl rfl ?_
              refine w_topi (fun v115 ev115 => ?_)
              refine w_store (ls' := [.ref 0, .int (nI k2), .ref (70 + 2 * k2), .int v115]) (.istore_n 3) 115 (by decide +kernel) rfl rfl ?_
              refine w_load (.iload_n 3) 116 (by decide +kernel) rfl rfl ?_
              refine w_load (.aload_n 0) 117 (by decide +kernel) rfl rfl ?_
              refine w_getR (k := 4) (r := 10) 120 (by decide +kernel) sh_0 rfl ?_
              refine w_getI (k := 3) 123 (by decide +kernel) sh_10 rfl ?_
              refine w_ile 131 126 (by decide +kernel) (fun h116 => ?_) (fun h116 => ?_)
              · skip
                refine w_pushN 0 132 (by decide +kernel) ?_
                refine w_pure .ior 133 (by decide +kernel) rfl rfl ?_
                refine w_topi (fun v117 ev117 => ?_)
                refine w_store (ls' := [.ref 0, .int (nI k2), .ref (70 + 2 * k2), .int v117]) (.istore_n 3) 134 (by decide +kernel) rfl rfl ?_
                refine w_load (.iload_n 3) 135 (by decide +kernel) rfl rfl ?_
                exact w_ret (by decide +kernel) (hq _ N hS trivial)
              · skip
                refine w_pushN 16 128 (by decide +kernel) ?_
                refine w_goto 132 (by decide +kernel) ?_
                refine w_pure .ior 133 (by decide +kernel) rfl rfl ?_
                refine w_topi (fun v118 ev118 => ?_)
                refine w_store (ls' := [.ref 0, .int (nI k2), .ref (70 + 2 * k2), .int v118]) (.istore_n 3) 134 (by decide +kernel) rfl rfl ?_
                refine w_load (.iload_n 3) 135 (by decide +kernel) rfl rfl ?_
                exact w_ret (by decide +kernel) (hq _ N hS trivial)
            · skip
              refine w_pushN 8 109 (by decide +kernel) ?_
              refine w_goto 113 (by decide +kernel) ?_
              refine w_pure .ior 114 (by decide +kernel) rfl rfl ?_
              refine w_topi (fun v119 ev119 => ?_)
              refine w_store (ls' := [.ref 0, .int (nI k2), .ref (70 + 2 * k2), .int v119]) (.istore_n 3) 115 (by decide +kernel) rfl rfl ?_
              refine w_load (.iload_n 3) 116 (by decide +kernel) rfl rfl ?_
              refine w_load (.aload_n 0) 117 (by decide +kernel) rfl rfl ?_
              refine w_getR (k := 4) (r := 10) 120 (by decide +kernel) sh_0 rfl ?_
              refine w_getI (k := 3) 123 (by decide +kernel) sh_10 rfl ?_
              refine w_ile 131 126 (by decide +kernel) (fun h120 => ?_) (fun h120 => ?_)
              · skip
                refine w_pushN 0 132 (by decide +kernel) ?_
                refine w_pure .ior 133 (by decide +kernel) rfl rfl ?_
                refine w_topi (fun v121 ev121 => ?_)
                refine w_store (ls' := [.ref 0, .int (nI k2), .ref (70 + 2 * k2), .int v121]) (.istore_n 3) 134 (by decide +kernel) rfl rfl ?_
                refine w_load (.iload_n 3) 135 (by decide +kernel) rfl rfl ?_
                exact w_ret (by decide +kernel) (hq _ N hS trivial)
              · skip
                refine w_pushN 16 128 (by decide +kernel) ?_
                refine w_goto 132 (by decide +kernel) ?_
                refine w_pure .ior 133 (by decide +kernel) rfl rfl ?_
                refine w_topi (fun v122 ev122 => ?_)
                refine w_store (ls' := [.ref 0, .int (nI k2), .ref (70 + 2 * k2), .int v122]) (.istore_n 3) 134 (by decide +kernel) rfl rfl ?_
                refine w_load (.iload_n 3) 135 (by decide +kernel) rfl rfl ?_
                exact w_ret (by decide +kernel) (hq _ N hS trivial)
  · skip
    refine w_ine 9 7 (by decide +kernel) (fun hz => absurd hz (by decide)) (fun _ => ?_)
    refine w_push (-1) 8 (by decide +kernel) ?_
    exact w_ret (by decide +kernel) (hq _ N hS trivial)
-- X7_odds
set_option maxRecDepth 10000 in
theorem k_96 {d : Nat} {M : Mt} {L : Lt} {Q : Option Value → Mt → Lt → Prop} {a : Int32} {b : Int32} {c : Int32} (hI : Inv M)  (hd : 1 ≤ d) (hq : ∀ (r : Int32) (N : Mt), St (fun i _ => i = 67) M N → True → Q (some (.int r)) N L) : Wp d 96 0 [.ref 0, .int a, .int b, .int c, .null] [] M L Q := by
  refine (show ∀ N : Mt, N = M → St (fun i _ => i = 67) M N → Wp d 96 0 [.ref 0, .int a, .int b, .int c, .null] [] N L Q from ?_) M rfl (St.rf hI)
  intro N hNM hS
  refine w_load (.iload_n 1) 1 (by decide +kernel) rfl rfl ?_
  refine w_callS1 114 1 4 (by decide +kernel) (Nat.le_of_ble_eq_true rfl) rfl (by decide) (by omega) ?_
  refine k_114 hS.1  (by omega) (fun r1 hr1 => ?_)
  dsimp only [Option.toList, List.cons_append, List.nil_append]
  rcases hr1 with ⟨rfl, k2, hk2, rfl⟩ | ⟨rfl, hnok2⟩
  · skip
    refine w_ieq 31 7 (by decide +kernel) (fun hz => absurd hz (by decide)) (fun _ => ?_)
    refine w_load (.iload_n 2) 8 (by decide +kernel) rfl rfl ?_
    refine w_callS1 114 1 11 (by decide +kernel) (Nat.le_of_ble_eq_true rfl) rfl (by decide) (by omega) ?_
    refine k_114 hS.1  (by omega) (fun r4 hr4 => ?_)
    dsimp only [Option.toList, List.cons_append, List.nil_append]
    rcases hr4 with ⟨rfl, k5, hk5, rfl⟩ | ⟨rfl, hnok5⟩
    · skip
      refine w_ieq 31 14 (by decide +kernel) (fun hz => absurd hz (by decide)) (fun _ => ?_)
      refine w_load (.iload_n 3) 15 (by decide +kernel) rfl rfl ?_
      refine w_callS1 114 1 18 (by decide +kernel) (Nat.le_of_ble_eq_true rfl) rfl (by decide) (by omega) ?_
      refine k_114 hS.1  (by omega) (fun r7 hr7 => ?_)
      dsimp only [Option.toList, List.cons_append, List.nil_append]
      rcases hr7 with ⟨rfl, k8, hk8, rfl⟩ | ⟨rfl, hnok8⟩
      · skip
        refine w_ieq 31 21 (by decide +kernel) (fun hz => absurd hz (by decide)) (fun _ => ?_)
        refine w_load (.iload_n 1) 22 (by decide +kernel) rfl rfl ?_
        refine w_load (.iload_n 2) 23 (by decide +kernel) rfl rfl ?_
        refine w_addN (k2 + k5) 24 (by decide +kernel) (by omega) ?_
        refine w_load (.iload_n 3) 25 (by decide +kernel) rfl rfl ?_
        refine w_addN (k2 + k5 + k8) 26 (by decide +kernel) (by omega) ?_
        refine w_pushN 10 28 (by decide +kernel) ?_
        refine w_ceqN 34 31 (by decide +kernel) (by omega) (by omega) (fun h10 => ?_) (fun h10 => ?_)
        · skip
          refine w_load (.aload_n 0) 35 (by decide +kernel) rfl rfl ?_
          refine w_getR (k := 11) (r := 67) 38 (by decide +kernel) sh_0 rfl ?_
          refine w_pushN 0 39 (by decide +kernel) ?_
          refine w_ialdN 40 (by decide +kernel) sh_67 (by omega) (by omega) ?_
          refine w_topi (fun v11 ev11 => ?_)
          refine w_store (ls' := [.ref 0, .int (nI k2), .int (nI k5), .int (nI k8), .int v11]) (.istore 4) 42 (by decide +kernel) rfl rfl ?_
          refine w_load (.aload_n 0) 43 (by decide +kernel) rfl rfl ?_
          refine w_getR (k := 11) (r := 67) 46 (by decide +kernel) sh_0 rfl ?_
          refine w_pushN 0 47 (by decide +kernel) ?_
          refine w_load (.iload_n 1) 48 (by decide +kernel) rfl rfl ?_
          refine w_iastW 49 (by decide +kernel) sh_67 (by omega) (by omega) hS (Rg.free (by simp only [Hs, Tl, Sc, isScr, isHs, isTs] at *; omega)) (by first | exact rfl | omega | (dsimp only; omega) | (simp only [Hs, Tl, Sc, isHs, isScr, isTs] at *; omega)) (fun N hS hq12 oq12 => ?_)
          refine w_load (.aload_n 0) 50 (by decide +kernel) rfl rfl ?_
          refine w_getR (k := 11) (r := 67) 53 (by decide +kernel) sh_0 rfl ?_
          refine w_pushN 1 54 (by decide +kernel) ?_
          refine w_load (.iload_n 2) 55 (by decide +kernel) rfl rfl ?_
          refine w_iastW 56 (by decide +kernel) sh_67 (by omega) (by omega) hS (Rg.free (by simp only [Hs, Tl, Sc, isScr, isHs, isTs] at *; omega)) (by first | exact rfl | omega | (dsimp only; omega) | (simp only [Hs, Tl, Sc, isHs, isScr, isTs] at *; omega)) (fun N hS hq13 oq13 => ?_)
          refine w_load (.aload_n 0) 57 (by decide +kernel) rfl rfl ?_
          refine w_getR (k := 11) (r := 67) 60 (by decide +kernel) sh_0 rfl ?_
          refine w_pushN 2 61 (by decide +kernel) ?_
          refine w_load (.iload_n 3) 62 (by decide +kernel) rfl rfl ?_
          refine w_iastW 63 (by decide +kernel) sh_67 (by omega) (by omega) hS (Rg.free (by simp only [Hs, Tl, Sc, isScr, isHs, isTs] at *; omega)) (by first | exact rfl | omega | (dsimp only; omega) | (simp only [Hs, Tl, Sc, isHs, isScr, isTs] at *; omega)) (fun N hS hq14 oq14 => ?_)
          refine w_load (.iload 4) 65 (by decide +kernel) rfl rfl ?_
          exact w_ret (by decide +kernel) (hq _ N hS trivial)
        · skip
          refine w_push (-2) 33 (by decide +kernel) ?_
          exact w_ret (by decide +kernel) (hq _ N hS trivial)
      · skip
        refine w_ieq 31 21 (by decide +kernel) (fun _ => ?_) (fun hz => absurd hz (by decide))
        refine w_push (-2) 33 (by decide +kernel) ?_
        exact w_ret (by decide +kernel) (hq _ N hS trivial)
    · skip
      refine w_ieq 31 14 (by decide +kernel) (fun _ => ?_) (fun hz => absurd hz (by decide))
      refine w_push (-2) 33 (by decide +kernel) ?_
      exact w_ret (by decide +kernel) (hq _ N hS trivial)
  · skip
    refine w_ieq 31 7 (by decide +kernel) (fun _ => ?_) (fun hz => absurd hz (by decide))
    refine w_push (-2) 33 (by decide +kernel) ?_
    exact w_ret (by decide +kernel) (hq _ N hS trivial)
end
section
theorem only0 : ∀ z, ([3, 5, 6, 9, 12, 17, 33, 60, 62, 64, 66, 69, 70, 71, 0, 0, 1] : List Nat)[z]? = some 1 → z = 16 := fun z hz => (by decide : ∀ z, z < 17 → ([3, 5, 6, 9, 12, 17, 33, 60, 62, 64, 66, 69, 70, 71, 0, 0, 1] : List Nat)[z]? = some 1 → z = 16) z (List.getElem?_eq_some_iff.mp hz).1 hz
theorem only76 : ∀ z, ([0, 79, 80, 81, 0, 82, 83, 0, 0, 0, 84, 0, 85, 86, 87, 0, 88, 89, 1, 90, 91] : List Nat)[z]? = some 1 → z = 18 := fun z hz => (by decide : ∀ z, z < 21 → ([0, 79, 80, 81, 0, 82, 83, 0, 0, 0, 84, 0, 85, 86, 87, 0, 88, 89, 1, 90, 91] : List Nat)[z]? = some 1 → z = 18) z (List.getElem?_eq_some_iff.mp hz).1 hz
-- X7_meanAsSupposed
set_option maxRecDepth 10000 in
theorem k_126 {d : Nat} {M : Mt} {L : Lt} {Q : Option Value → Mt → Lt → Prop} {g : Int32} (hI : Inv M)  (hd : 6 ≤ d) (hq : ∀ (r : Int32) (N : Mt), St (fun i k => (4 ≤ i ∧ i ≤ 63) ∨ i = 68 ∨ i = 69 ∨ (i = 0 ∧ (k = 14 ∨ k = 15))) M N → True → Q (some (.int r)) N L) : Wp d 126 0 [.ref 0, .int g, .null, .null] [] M L Q := by
  refine (show ∀ N : Mt, N = M → St (fun i k => (4 ≤ i ∧ i ≤ 63) ∨ i = 68 ∨ i = 69 ∨ (i = 0 ∧ (k = 14 ∨ k = 15))) M N → Wp d 126 0 [.ref 0, .int g, .null, .null] [] N L Q from ?_) M rfl (St.rf hI)
  intro N hNM hS
  refine w_pushN 0 1 (by decide +kernel) ?_
  refine w_store (ls' := [.ref 0, .int g, .int (nI 0), .null]) (.istore_n 2) 2 (by decide +kernel) rfl rfl ?_
  refine w_pushN 0 3 (by decide +kernel) ?_
  refine w_store (ls' := [.ref 0, .int g, .int (nI 0), .int (nI 0)]) (.istore_n 3) 4 (by decide +kernel) rfl rfl ?_
  have LP_4 : ∀ (kk : Nat) (N : Mt) (x2_4 : Int32) (g3 : Nat), St (fun i k => (4 ≤ i ∧ i ≤ 63) ∨ i = 68 ∨ i = 69 ∨ (i = 0 ∧ (k = 14 ∨ k = 15))) M N → g3 ≤ 3 → 3 - g3 < kk → Wp d 126 4 [.ref 0, .int g, .int x2_4, .int (nI g3)] [] N L Q := by
    intro kk
    induction kk with
    | zero => intro N x2_4 g3 hS hi0_4 hm_4; exact absurd hm_4 (Nat.not_lt_zero _)
    | succ kk ih_4 =>
      intro N x2_4 g3 hS hi0_4 hm_4
      refine w_load (.iload_n 3) 5 (by decide +kernel) rfl rfl ?_
      refine w_pushN 3 6 (by decide +kernel) ?_
      refine w_cgeN 53 9 (by decide +kernel) (by omega) (by omega) (fun h1 => ?_) (fun h1 => ?_)
      · skip
        refine w_load (.iload_n 2) 54 (by decide +kernel) rfl rfl ?_
        exact w_ret (by decide +kernel) (hq _ N hS trivial)
      · skip
        refine w_load (.aload_n 0) 10 (by decide +kernel) rfl rfl ?_
        refine w_getR (k := 4) (r := 10) 13 (by decide +kernel) sh_0 rfl ?_
        refine w_load (.aload_n 0) 14 (by decide +kernel) rfl rfl ?_
        refine w_getR (k := 3) (r := 7) 17 (by decide +kernel) sh_0 rfl ?_
        refine w_load (.aload_n 0) 18 (by decide +kernel) rfl rfl ?_
        refine w_getR (k := 1) (r := 3) 21 (by decide +kernel) sh_0 rfl ?_
        refine w_load (.iload_n 3) 22 (by decide +kernel) rfl rfl ?_
        refine w_tale 23 (by decide +kernel) (by omega) ?_
        refine w_callV2 68 6 5 26 (by decide +kernel) sh_10 (Nat.le_of_ble_eq_true rfl) rfl rfl (by decide) (by omega) ?_
        refine k_68 hS.1 tl_10 hs_7 (sc_tale g3 (by omega)) (by omega) (fun N hT hr2 => ?_)
        have hS := hS.tr hT (by intro i k; first | exact rfl | omega | (dsimp only; omega) | (simp only [Hs, Tl, Sc, isHs, isScr, isTs] at *; omega))
        dsimp only [Option.toList, List.nil_append]
        refine w_load (.iload_n 2) 27 (by decide +kernel) rfl rfl ?_
        refine w_load (.aload_n 0) 28 (by decide +kernel) rfl rfl ?_
        refine w_getR (k := 11) (r := 67) 31 (by decide +kernel) sh_0 rfl ?_
        refine w_load (.iload_n 3) 32 (by decide +kernel) rfl rfl ?_
        refine w_ialdN 33 (by decide +kernel) sh_67 (by omega) (by omega) ?_
        refine w_load (.aload_n 0) 34 (by decide +kernel) rfl rfl ?_
        refine w_getR (k := 4) (r := 10) 37 (by decide +kernel) sh_0 rfl ?_
        refine w_getR (k := 0) (r := 11) 40 (by decide +kernel) sh_10 rfl ?_
        refine w_load (.iload_n 1) 41 (by decide +kernel) rfl rfl ?_
        refine w_callV1 17 1 2 44 (by decide +kernel) sh_11 (Nat.le_of_ble_eq_true rfl) rfl (by decide) (by omega) ?_
        refine k_17 hS.1 hs_11 (by omega) (fun r3 hr3 => ?_)
        dsimp only [Option.toList, List.cons_append, List.nil_append]
        refine w_pure .imul 45 (by decide +kernel) rfl rfl ?_
        refine w_pure .iadd 46 (by decide +kernel) rfl rfl ?_
        refine w_topi (fun v4 ev4 => ?_)
        refine w_store (ls' := [.ref 0, .int g, .int v4, .int (nI g3)]) (.istore_n 2) 47 (by decide +kernel) rfl rfl ?_
        refine w_iincN (z := 3) (g3 + 1) 50 (by decide +kernel) rfl (Nat.le_of_ble_eq_true rfl) rfl rfl ?_
        show Wp _ _ _ [.ref 0, .int g, .int v4, .int (nI (g3 + 1))] _ _ _ _
        refine w_goto 4 (by decide +kernel) ?_
        exact ih_4 N _ (g3 + 1) hS (by omega) (by omega)
  exact LP_4 _ N _ 0 hS (by omega) (Nat.lt_succ_self _)
-- X7_mean
set_option maxRecDepth 10000 in
theorem k_97 {d : Nat} {M : Mt} {L : Lt} {Q : Option Value → Mt → Lt → Prop} {g : Int32} {a : Int32} (hI : Inv M)  (hd : 7 ≤ d) (hq : ∀ (r : Int32) (N : Mt), St (fun i k => (4 ≤ i ∧ i ≤ 63) ∨ i = 68 ∨ i = 69 ∨ (i = 0 ∧ (k = 14 ∨ k = 15))) M N → True → Q (some (.int r)) N L) : Wp d 97 0 [.ref 0, .int g, .int a] [] M L Q := by
  refine (show ∀ N : Mt, N = M → St (fun i k => (4 ≤ i ∧ i ≤ 63) ∨ i = 68 ∨ i = 69 ∨ (i = 0 ∧ (k = 14 ∨ k = 15))) M N → Wp d 97 0 [.ref 0, .int g, .int a] [] N L Q from ?_) M rfl (St.rf hI)
  intro N hNM hS
  refine w_load (.aload_n 0) 1 (by decide +kernel) rfl rfl ?_
  refine w_getR (k := 2) (r := 4) 4 (by decide +kernel) sh_0 rfl ?_
  refine w_load (.iload_n 1) 5 (by decide +kernel) rfl rfl ?_
  refine w_callV1 11 1 2 8 (by decide +kernel) sh_4 (Nat.le_of_ble_eq_true rfl) rfl (by decide) (by omega) ?_
  refine k_11 hS.1 hs_4 (by omega) (fun r1 hr1 => ?_)
  dsimp only [Option.toList, List.cons_append, List.nil_append]
  rcases hr1 with ⟨rfl, k2, hk2, rfl⟩ | rfl
  · skip
    refine w_ine 13 11 (by decide +kernel) (fun _ => ?_) (fun hz => absurd hz (by decide))
    refine w_load (.iload_n 2) 14 (by decide +kernel) rfl rfl ?_
    refine w_callS1 113 1 17 (by decide +kernel) (Nat.le_of_ble_eq_true rfl) rfl (by decide) (by omega) ?_
    refine k_113 hS.1  (by omega) (fun r4 hr4 => ?_)
    dsimp only [Option.toList, List.cons_append, List.nil_append]
    rcases hr4 with ⟨rfl, k5, hk5, rfl⟩ | ⟨rfl, hnok5⟩
    · skip
      refine w_ine 23 20 (by decide +kernel) (fun _ => ?_) (fun hz => absurd hz (by decide))
      refine w_load (.aload_n 0) 24 (by decide +kernel) rfl rfl ?_
      refine w_getR (k := 2) (r := 4) 27 (by decide +kernel) sh_0 rfl ?_
      refine w_load (.iload_n 1) 28 (by decide +kernel) rfl rfl ?_
      refine w_callV1 16 1 2 31 (by decide +kernel) sh_4 (Nat.le_of_ble_eq_true rfl) rfl (by decide) (by omega) ?_
      refine k_16 hS.1 hs_4 (by omega) (fun r7 hr7 => ?_)
      dsimp only [Option.toList, List.cons_append, List.nil_append]
      refine w_ine 37 34 (by decide +kernel) (fun h8 => ?_) (fun h8 => ?_)
      · skip
        refine w_load (.aload_n 0) 38 (by decide +kernel) rfl rfl ?_
        refine w_getR (k := 3) (r := 7) 41 (by decide +kernel) sh_0 rfl ?_
        refine w_load (.aload_n 0) 42 (by decide +kernel) rfl rfl ?_
        refine w_getR (k := 2) (r := 4) 45 (by decide +kernel) sh_0 rfl ?_
        refine w_callV1 8 1 2 48 (by decide +kernel) sh_7 (Nat.le_of_ble_eq_true rfl) rfl (by decide) (by omega) ?_
        refine k_8 hS.1 hs_7 hs_4 (by omega) (fun N hT hr9 => ?_)
        have hS := hS.tr hT (by intro i k; first | exact rfl | omega | (dsimp only; omega) | (simp only [Hs, Tl, Sc, isHs, isScr, isTs] at *; omega))
        dsimp only [Option.toList, List.nil_append]
        refine w_load (.aload_n 0) 49 (by decide +kernel) rfl rfl ?_
        refine w_getR (k := 3) (r := 7) 52 (by decide +kernel) sh_0 rfl ?_
        refine w_load (.iload_n 1) 53 (by decide +kernel) rfl rfl ?_
        refine w_load (.iload_n 2) 54 (by decide +kernel) rfl rfl ?_
        refine w_callV2 26 1 3 57 (by decide +kernel) sh_7 (Nat.le_of_ble_eq_true rfl) rfl rfl (by decide) (by omega) ?_
        refine k_26 hS.1 hs_7 (by omega) (fun N hT hr10 => ?_)
        have hS := hS.tr hT (by intro i k; first | exact rfl | omega | (dsimp only; omega) | (simp only [Hs, Tl, Sc, isHs, isScr, isTs] at *; omega))
        dsimp only [Option.toList, List.nil_append]
        refine w_load (.aload_n 0) 58 (by decide +kernel) rfl rfl ?_
        refine w_load (.iload_n 1) 59 (by decide +kernel) rfl rfl ?_
        refine w_callV1 126 7 4 62 (by decide +kernel) sh_0 (Nat.le_of_ble_eq_true rfl) rfl (by decide) (by omega) ?_
        refine k_126 hS.1  (by omega) (fun r11 N hT hr11 => ?_)
        have hS := hS.tr hT (by intro i k; first | exact rfl | omega | (dsimp only; omega) | (simp only [Hs, Tl, Sc, isHs, isScr, isTs] at *; omega))
        dsimp only [Option.toList, List.cons_append, List.nil_append]
        refine w_pushN 1000 65 (by decide +kernel) ?_
        refine w_pure .iadd 66 (by decide +kernel) rfl rfl ?_
        exact w_ret (by decide +kernel) (hq _ N hS trivial)
      · skip
        refine w_push (-3) 36 (by decide +kernel) ?_
        exact w_ret (by decide +kernel) (hq _ N hS trivial)
    · skip
      refine w_ine 23 20 (by decide +kernel) (fun hz => absurd hz (by decide)) (fun _ => ?_)
      refine w_push (-2) 22 (by decide +kernel) ?_
      exact w_ret (by decide +kernel) (hq _ N hS trivial)
  · skip
    refine w_ine 13 11 (by decide +kernel) (fun hz => absurd hz (by decide)) (fun _ => ?_)
    refine w_push (-1) 12 (by decide +kernel) ?_
    exact w_ret (by decide +kernel) (hq _ N hS trivial)
-- X7_toGive
set_option maxRecDepth 10000 in
theorem k_98 {d : Nat} {M : Mt} {L : Lt} {Q : Option Value → Mt → Lt → Prop} {g : Int32} (hI : Inv M)  (hd : 7 ≤ d) (hq : ∀ (r : Int32) (N : Mt), St (fun i k => (4 ≤ i ∧ i ≤ 63) ∨ i = 68 ∨ i = 69 ∨ (i = 0 ∧ (k = 14 ∨ k = 15))) M N → True → Q (some (.int r)) N L) : Wp d 98 0 [.ref 0, .int g, .null, .null, .null, .null] [] M L Q := by
  refine (show ∀ N : Mt, N = M → St (fun i k => (4 ≤ i ∧ i ≤ 63) ∨ i = 68 ∨ i = 69 ∨ (i = 0 ∧ (k = 14 ∨ k = 15))) M N → Wp d 98 0 [.ref 0, .int g, .null, .null, .null, .null] [] N L Q from ?_) M rfl (St.rf hI)
  intro N hNM hS
  refine w_load (.aload_n 0) 1 (by decide +kernel) rfl rfl ?_
  refine w_getR (k := 2) (r := 4) 4 (by decide +kernel) sh_0 rfl ?_
  refine w_load (.iload_n 1) 5 (by decide +kernel) rfl rfl ?_
  refine w_callV1 11 1 2 8 (by decide +kernel) sh_4 (Nat.le_of_ble_eq_true rfl) rfl (by decide) (by omega) ?_
  refine k_11 hS.1 hs_4 (by omega) (fun r1 hr1 => ?_)
  dsimp only [Option.toList, List.cons_append, List.nil_append]
  rcases hr1 with ⟨rfl, k2, hk2, rfl⟩ | rfl
  · skip
    refine w_ine 13 11 (by decide +kernel) (fun _ => ?_) (fun hz => absurd hz (by decide))
    refine w_load (.aload_n 0) 14 (by decide +kernel) rfl rfl ?_
    refine w_getR (k := 2) (r := 4) 17 (by decide +kernel) sh_0 rfl ?_
    refine w_load (.iload_n 1) 18 (by decide +kernel) rfl rfl ?_
    refine w_callV1 16 1 2 21 (by decide +kernel) sh_4 (Nat.le_of_ble_eq_true rfl) rfl (by decide) (by omega) ?_
    refine k_16 hS.1 hs_4 (by omega) (fun r4 hr4 => ?_)
    dsimp only [Option.toList, List.cons_append, List.nil_append]
    refine w_ine 27 24 (by decide +kernel) (fun h5 => ?_) (fun h5 => ?_)
    · skip
      refine w_load (.aload_n 0) 28 (by decide +kernel) rfl rfl ?_
      refine w_getR (k := 3) (r := 7) 31 (by decide +kernel) sh_0 rfl ?_
      refine w_load (.aload_n 0) 32 (by decide +kernel) rfl rfl ?_
      refine w_getR (k := 2) (r := 4) 35 (by decide +kernel) sh_0 rfl ?_
      refine w_callV1 8 1 2 38 (by decide +kernel) sh_7 (Nat.le_of_ble_eq_true rfl) rfl (by decide) (by omega) ?_
      refine k_8 hS.1 hs_7 hs_4 (by omega) (fun N hT hr6 => ?_)
      have hS := hS.tr hT (by intro i k; first | exact rfl | omega | (dsimp only; omega) | (simp only [Hs, Tl, Sc, isHs, isScr, isTs] at *; omega))
      dsimp only [Option.toList, List.nil_append]
      refine w_push (-9) 40 (by decide +kernel) ?_
      refine w_store (ls' := [.ref 0, .int (nI k2), .int (-9), .null, .null, .null]) (.istore_n 2) 41 (by decide +kernel) rfl rfl ?_
      refine w_pushN 0 42 (by decide +kernel) ?_
      refine w_store (ls' := [.ref 0, .int (nI k2), .int (-9), .int (nI 0), .null, .null]) (.istore_n 3) 43 (by decide +kernel) rfl rfl ?_
      refine w_pushN 0 44 (by decide +kernel) ?_
      refine w_store (ls' := [.ref 0, .int (nI k2), .int (-9), .int (nI 0), .int (nI 0), .null]) (.istore 4) 46 (by decide +kernel) rfl rfl ?_
      have LP_46 : ∀ (kk : Nat) (N : Mt) (x2_46 : Int32) (x3_46 : Int32) (g4 : Nat), St (fun i k => (4 ≤ i ∧ i ≤ 63) ∨ i = 68 ∨ i = 69 ∨ (i = 0 ∧ (k = 14 ∨ k = 15))) M N → g4 ≤ 4 → 4 - g4 < kk → Wp d 98 46 [.ref 0, .int (nI k2), .int x2_46, .int x3_46, .int (nI g4), .null] [] N L Q := by
        intro kk
        induction kk with
        | zero => intro N x2_46 x3_46 g4 hS hi0_46 hm_46; exact absurd hm_46 (Nat.not_lt_zero _)
        | succ kk ih_46 =>
          intro N x2_46 x3_46 g4 hS hi0_46 hm_46
          refine w_load (.iload 4) 48 (by decide +kernel) rfl rfl ?_
          refine w_pushN 4 49 (by decide +kernel) ?_
          refine w_cgeN 93 52 (by decide +kernel) (by omega) (by omega) (fun h7 => ?_) (fun h7 => ?_)
          · skip
            refine w_load (.iload_n 2) 94 (by decide +kernel) rfl rfl ?_
            exact w_ret (by decide +kernel) (hq _ N hS trivial)
          · skip
            refine w_load (.aload_n 0) 53 (by decide +kernel) rfl rfl ?_
            refine w_getR (k := 3) (r := 7) 56 (by decide +kernel) sh_0 rfl ?_
            refine w_load (.iload_n 1) 57 (by decide +kernel) rfl rfl ?_
            refine w_load (.iload 4) 59 (by decide +kernel) rfl rfl ?_
            refine w_callV2 26 1 3 62 (by decide +kernel) sh_7 (Nat.le_of_ble_eq_true rfl) rfl rfl (by decide) (by omega) ?_
            refine k_26 hS.1 hs_7 (by omega) (fun N hT hr8 => ?_)
            have hS := hS.tr hT (by intro i k; first | exact rfl | omega | (dsimp only; omega) | (simp only [Hs, Tl, Sc, isHs, isScr, isTs] at *; omega))
            dsimp only [Option.toList, List.nil_append]
            refine w_load (.aload_n 0) 63 (by decide +kernel) rfl rfl ?_
            refine w_load (.iload_n 1) 64 (by decide +kernel) rfl rfl ?_
            refine w_callV1 126 7 4 67 (by decide +kernel) sh_0 (Nat.le_of_ble_eq_true rfl) rfl (by decide) (by omega) ?_
            refine k_126 hS.1  (by omega) (fun r9 N hT hr9 => ?_)
            have hS := hS.tr hT (by intro i k; first | exact rfl | omega | (dsimp only; omega) | (simp only [Hs, Tl, Sc, isHs, isScr, isTs] at *; omega))
            dsimp only [Option.toList, List.cons_append, List.nil_append]
            refine w_store (ls' := [.ref 0, .int (nI k2), .int x2_46, .int x3_46, .int (nI g4), .int r9]) (.istore 5) 69 (by decide +kernel) rfl rfl ?_
            refine w_load (.iload_n 2) 70 (by decide +kernel) rfl rfl ?_
            refine w_push (-9) 72 (by decide +kernel) ?_
            refine w_ceq 81 75 (by decide +kernel) (fun h10 => ?_) (fun h10 => ?_)
            · skip
              refine w_load (.iload 4) 83 (by decide +kernel) rfl rfl ?_
              refine w_store (ls' := [.ref 0, .int (nI k2), .int (nI g4), .int x3_46, .int (nI g4), .int r9]) (.istore_n 2) 84 (by decide +kernel) rfl rfl ?_
              refine w_load (.iload 5) 86 (by decide +kernel) rfl rfl ?_
              refine w_store (ls' := [.ref 0, .int (nI k2), .int (nI g4), .int r9, .int (nI g4), .int r9]) (.istore_n 3) 87 (by decide +kernel) rfl rfl ?_
              refine w_iincN (z := 4) (g4 + 1) 90 (by decide +kernel) rfl (Nat.le_of_ble_eq_true rfl) rfl rfl ?_
              show Wp _ _ _ [.ref 0, .int (nI k2), .int (nI g4), .int r9, .int (nI (g4 + 1)), .int r9] _ _ _ _
              refine w_goto 46 (by decide +kernel) ?_
              refine Wp.forget (ls := [.ref 0, .int (nI k2), .int (nI g4), .int r9, .int (nI (g4 + 1)), .null]) ⟨Or.inl rfl, Or.inl rfl, Or.inl rfl, Or.inl rfl, Or.inl rfl, Or.inr ⟨rfl, rfl⟩, trivial⟩ ?_
              exact ih_46 N _ _ (g4 + 1) hS (by omega) (by omega)
            · skip
              refine w_load (.iload 5) 77 (by decide +kernel) rfl rfl ?_
              refine w_load (.iload_n 3) 78 (by decide +kernel) rfl rfl ?_
              refine w_cle 87 81 (by decide +kernel) (fun h11 => ?_) (fun h11 => ?_)
              · skip
                refine w_iincN (z := 4) (g4 + 1) 90 (by decide +kernel) rfl (Nat.le_of_ble_eq_true rfl) rfl rfl ?_
                show Wp _ _ _ [.ref 0, .int (nI k2), .int x2_46, .int x3_46, .int (nI (g4 + 1)), .int r9] _ _ _ _
                refine w_goto 46 (by decide +kernel) ?_
                refine Wp.forget (ls := [.ref 0, .int (nI k2), .int x2_46, .int x3_46, .int (nI (g4 + 1)), .null]) ⟨Or.inl rfl, Or.inl rfl, Or.inl rfl, Or.inl rfl, Or.inl rfl, Or.inr ⟨rfl, rfl⟩, trivial⟩ ?_
                exact ih_46 N _ _ (g4 + 1) hS (by omega) (by omega)
              · skip
                refine w_load (.iload 4) 83 (by decide +kernel) rfl rfl ?_
                refine w_store (ls' := [.ref 0, .int (nI k2), .int (nI g4), .int x3_46, .int (nI g4), .int r9]) (.istore_n 2) 84 (by decide +kernel) rfl rfl ?_
                refine w_load (.iload 5) 86 (by decide +kernel) rfl rfl ?_
                refine w_store (ls' := [.ref 0, .int (nI k2), .int (nI g4), .int r9, .int (nI g4), .int r9]) (.istore_n 3) 87 (by decide +kernel) rfl rfl ?_
                refine w_iincN (z := 4) (g4 + 1) 90 (by decide +kernel) rfl (Nat.le_of_ble_eq_true rfl) rfl rfl ?_
                show Wp _ _ _ [.ref 0, .int (nI k2), .int (nI g4), .int r9, .int (nI (g4 + 1)), .int r9] _ _ _ _
                refine w_goto 46 (by decide +kernel) ?_
                refine Wp.forget (ls := [.ref 0, .int (nI k2), .int (nI g4), .int r9, .int (nI (g4 + 1)), .null]) ⟨Or.inl rfl, Or.inl rfl, Or.inl rfl, Or.inl rfl, Or.inl rfl, Or.inr ⟨rfl, rfl⟩, trivial⟩ ?_
                exact ih_46 N _ _ (g4 + 1) hS (by omega) (by omega)
      exact LP_46 _ N _ _ 0 hS (by omega) (Nat.lt_succ_self _)
    · skip
      refine w_push (-3) 26 (by decide +kernel) ?_
      exact w_ret (by decide +kernel) (hq _ N hS trivial)
  · skip
    refine w_ine 13 11 (by decide +kernel) (fun hz => absurd hz (by decide)) (fun _ => ?_)
    refine w_push (-1) 12 (by decide +kernel) ?_
    exact w_ret (by decide +kernel) (hq _ N hS trivial)
-- X7_isRest
set_option maxRecDepth 10000 in
theorem k_127 {d : Nat} {M : Mt} {L : Lt} {Q : Option Value → Mt → Lt → Prop} {a b : Nat}  (hI : Inv M) (ha : a < 4) (hb : b < 4) (hd : 0 ≤ d) (hq : ∀ (r : Int32), (r = 0 ∨ r = 1) → Q (some (.int r)) M L) : Wp d 127 0 [.ref 0, .int (nI a), .int (nI b), .null, .null, .null, .null] [] M L Q := by
  refine w_load (.iload_n 1) 1 (by decide +kernel) rfl rfl ?_
  refine w_pushN 4 2 (by decide +kernel) ?_
  refine w_mulN (a * 4) 3 (by decide +kernel) rfl ?_
  refine w_load (.iload_n 2) 4 (by decide +kernel) rfl rfl ?_
  refine w_addN (a * 4 + b) 5 (by decide +kernel) (by omega) ?_
  refine w_store (ls' := [.ref 0, .int (nI a), .int (nI b), .int (nI (a * 4 + b)), .null, .null, .null]) (.istore_n 3) 6 (by decide +kernel) rfl rfl ?_
  refine w_pushN 0 7 (by decide +kernel) ?_
  refine w_store (ls' := [.ref 0, .int (nI a), .int (nI b), .int (nI (a * 4 + b)), .int (nI 0), .null, .null]) (.istore 4) 9 (by decide +kernel) rfl rfl ?_
  have LP_9 : ∀ (kk : Nat) (g4 : Nat), g4 ≤ 4 → 4 - g4 < kk → Wp d 127 9 [.ref 0, .int (nI a), .int (nI b), .int (nI (a * 4 + b)), .int (nI g4), .null, .null] [] M L Q := by
    intro kk
    induction kk with
    | zero => intro g4 hi0_9 hm_9; exact absurd hm_9 (Nat.not_lt_zero _)
    | succ kk ih_9 =>
      intro g4 hi0_9 hm_9
      refine w_load (.iload 4) 11 (by decide +kernel) rfl rfl ?_
      refine w_pushN 4 12 (by decide +kernel) ?_
      refine w_cgeN 87 15 (by decide +kernel) (by omega) (by omega) (fun h1 => ?_) (fun h1 => ?_)
      · skip
        refine w_pushN 1 88 (by decide +kernel) ?_
        exact w_retZ (by decide +kernel) (Or.inr rfl) (hq _ (Or.inr rfl))
      · skip
        refine w_load (.aload_n 0) 16 (by decide +kernel) rfl rfl ?_
        refine w_getR (k := 12) (r := 68) 19 (by decide +kernel) sh_0 rfl ?_
        refine w_load (.iload 4) 21 (by decide +kernel) rfl rfl ?_
        refine w_pushN 4 22 (by decide +kernel) ?_
        refine w_mulN (g4 * 4) 23 (by decide +kernel) rfl ?_
        refine w_load (.iload_n 2) 24 (by decide +kernel) rfl rfl ?_
        refine w_addN (g4 * 4 + b) 25 (by decide +kernel) (by omega) ?_
        refine w_ialdN 26 (by decide +kernel) sh_68 (by omega) (by omega) ?_
        refine w_load (.aload_n 0) 27 (by decide +kernel) rfl rfl ?_
        refine w_getR (k := 12) (r := 68) 30 (by decide +kernel) sh_0 rfl ?_
        refine w_load (.iload_n 3) 31 (by decide +kernel) rfl rfl ?_
        refine w_ialdN 32 (by decide +kernel) sh_68 (by omega) (by omega) ?_
        refine w_cgt 39 35 (by decide +kernel) (fun h2 => ?_) (fun h2 => ?_)
        · skip
          refine w_pushN 0 40 (by decide +kernel) ?_
          refine w_store (ls' := [.ref 0, .int (nI a), .int (nI b), .int (nI (a * 4 + b)), .int (nI g4), .int (nI 0), .null]) (.istore 5) 42 (by decide +kernel) rfl rfl ?_
          refine w_load (.aload_n 0) 43 (by decide +kernel) rfl rfl ?_
          refine w_getR (k := 13) (r := 69) 46 (by decide +kernel) sh_0 rfl ?_
          refine w_load (.iload_n 1) 47 (by decide +kernel) rfl rfl ?_
          refine w_pushN 4 48 (by decide +kernel) ?_
          refine w_mulN (a * 4) 49 (by decide +kernel) rfl ?_
          refine w_load (.iload 4) 51 (by decide +kernel) rfl rfl ?_
          refine w_addN (a * 4 + g4) 52 (by decide +kernel) (by omega) ?_
          refine w_ialdN 53 (by decide +kernel) sh_69 (by omega) (by omega) ?_
          refine w_load (.aload_n 0) 54 (by decide +kernel) rfl rfl ?_
          refine w_getR (k := 13) (r := 69) 57 (by decide +kernel) sh_0 rfl ?_
          refine w_load (.iload_n 3) 58 (by decide +kernel) rfl rfl ?_
          refine w_ialdN 59 (by decide +kernel) sh_69 (by omega) (by omega) ?_
          refine w_cgt 66 62 (by decide +kernel) (fun h3 => ?_) (fun h3 => ?_)
          · skip
            refine w_pushN 0 67 (by decide +kernel) ?_
            refine w_store (ls' := [.ref 0, .int (nI a), .int (nI b), .int (nI (a * 4 + b)), .int (nI g4), .int (nI 0), .int (nI 0)]) (.istore 6) 69 (by decide +kernel) rfl rfl ?_
            refine w_load (.iload 5) 71 (by decide +kernel) rfl rfl ?_
            refine w_ieq 79 74 (by decide +kernel) (fun _ => ?_) (fun hz => absurd hz (by decide))
            refine w_pushN 0 80 (by decide +kernel) ?_
            exact w_retZ (by decide +kernel) (Or.inl rfl) (hq _ (Or.inl rfl))
          · skip
            refine w_pushN 1 63 (by decide +kernel) ?_
            refine w_goto 67 (by decide +kernel) ?_
            refine w_store (ls' := [.ref 0, .int (nI a), .int (nI b), .int (nI (a * 4 + b)), .int (nI g4), .int (nI 0), .int (nI 1)]) (.istore 6) 69 (by decide +kernel) rfl rfl ?_
            refine w_load (.iload 5) 71 (by decide +kernel) rfl rfl ?_
            refine w_ieq 79 74 (by decide +kernel) (fun _ => ?_) (fun hz => absurd hz (by decide))
            refine w_pushN 0 80 (by decide +kernel) ?_
            exact w_retZ (by decide +kernel) (Or.inl rfl) (hq _ (Or.inl rfl))
        · skip
          refine w_pushN 1 36 (by decide +kernel) ?_
          refine w_goto 40 (by decide +kernel) ?_
          refine w_store (ls' := [.ref 0, .int (nI a), .int (nI b), .int (nI (a * 4 + b)), .int (nI g4), .int (nI 1), .null]) (.istore 5) 42 (by decide +kernel) rfl rfl ?_
          refine w_load (.aload_n 0) 43 (by decide +kernel) rfl rfl ?_
          refine w_getR (k := 13) (r := 69) 46 (by decide +kernel) sh_0 rfl ?_
          refine w_load (.iload_n 1) 47 (by decide +kernel) rfl rfl ?_
          refine w_pushN 4 48 (by decide +kernel) ?_
          refine w_mulN (a * 4) 49 (by decide +kernel) rfl ?_
          refine w_load (.iload 4) 51 (by decide +kernel) rfl rfl ?_
          refine w_addN (a * 4 + g4) 52 (by decide +kernel) (by omega) ?_
          refine w_ialdN 53 (by decide +kernel) sh_69 (by omega) (by omega) ?_
          refine w_load (.aload_n 0) 54 (by decide +kernel) rfl rfl ?_
          refine w_getR (k := 13) (r := 69) 57 (by decide +kernel) sh_0 rfl ?_
          refine w_load (.iload_n 3) 58 (by decide +kernel) rfl rfl ?_
          refine w_ialdN 59 (by decide +kernel) sh_69 (by omega) (by omega) ?_
          refine w_cgt 66 62 (by decide +kernel) (fun h6 => ?_) (fun h6 => ?_)
          · skip
            refine w_pushN 0 67 (by decide +kernel) ?_
            refine w_store (ls' := [.ref 0, .int (nI a), .int (nI b), .int (nI (a * 4 + b)), .int (nI g4), .int (nI 1), .int (nI 0)]) (.istore 6) 69 (by decide +kernel) rfl rfl ?_
            refine w_load (.iload 5) 71 (by decide +kernel) rfl rfl ?_
            refine w_ieq 79 74 (by decide +kernel) (fun hz => absurd hz (by decide)) (fun _ => ?_)
            refine w_load (.iload 6) 76 (by decide +kernel) rfl rfl ?_
            refine w_ine 81 79 (by decide +kernel) (fun hz => absurd hz (by decide)) (fun _ => ?_)
            refine w_pushN 0 80 (by decide +kernel) ?_
            exact w_retZ (by decide +kernel) (Or.inl rfl) (hq _ (Or.inl rfl))
          · skip
            refine w_pushN 1 63 (by decide +kernel) ?_
            refine w_goto 67 (by decide +kernel) ?_
            refine w_store (ls' := [.ref 0, .int (nI a), .int (nI b), .int (nI (a * 4 + b)), .int (nI g4), .int (nI 1), .int (nI 1)]) (.istore 6) 69 (by decide +kernel) rfl rfl ?_
            refine w_load (.iload 5) 71 (by decide +kernel) rfl rfl ?_
            refine w_ieq 79 74 (by decide +kernel) (fun hz => absurd hz (by decide)) (fun _ => ?_)
            refine w_load (.iload 6) 76 (by decide +kernel) rfl rfl ?_
            refine w_ine 81 79 (by decide +kernel) (fun _ => ?_) (fun hz => absurd hz (by decide))
            refine w_iincN (z := 4) (g4 + 1) 84 (by decide +kernel) rfl (Nat.le_of_ble_eq_true rfl) rfl rfl ?_
            show Wp _ _ _ [.ref 0, .int (nI a), .int (nI b), .int (nI (a * 4 + b)), .int (nI (g4 + 1)), .int (nI 1), .int (nI 1)] _ _ _ _
            refine w_goto 9 (by decide +kernel) ?_
            refine Wp.forget (ls := [.ref 0, .int (nI a), .int (nI b), .int (nI (a * 4 + b)), .int (nI (g4 + 1)), .null, .null]) ⟨Or.inl rfl, Or.inl rfl, Or.inl rfl, Or.inl rfl, Or.inl rfl, Or.inr ⟨rfl, rfl⟩, Or.inr ⟨rfl, rfl⟩, trivial⟩ ?_
            exact ih_9 (g4 + 1) (by omega) (by omega)
  exact LP_9 _ 0 (by omega) (Nat.lt_succ_self _)
-- X7_restsInAll
set_option maxRecDepth 10000 in
theorem k_128 {d : Nat} {M : Mt} {L : Lt} {Q : Option Value → Mt → Lt → Prop}  (hI : Inv M)  (hd : 1 ≤ d) (hq : ∀ (r : Int32), True → Q (some (.int r)) M L) : Wp d 128 0 [.ref 0, .null, .null] [] M L Q := by
  refine w_pushN 0 1 (by decide +kernel) ?_
  refine w_store (ls' := [.ref 0, .int (nI 0), .null]) (.istore_n 1) 2 (by decide +kernel) rfl rfl ?_
  refine w_pushN 0 3 (by decide +kernel) ?_
  refine w_store (ls' := [.ref 0, .int (nI 0), .int (nI 0)]) (.istore_n 2) 4 (by decide +kernel) rfl rfl ?_
  have LP_4 : ∀ (kk : Nat) (x1_4 : Int32) (g2 : Nat), g2 ≤ 16 → 16 - g2 < kk → Wp d 128 4 [.ref 0, .int x1_4, .int (nI g2)] [] M L Q := by
    intro kk
    induction kk with
    | zero => intro x1_4 g2 hi0_4 hm_4; exact absurd hm_4 (Nat.not_lt_zero _)
    | succ kk ih_4 =>
      intro x1_4 g2 hi0_4 hm_4
      refine w_load (.iload_n 2) 5 (by decide +kernel) rfl rfl ?_
      refine w_pushN 16 7 (by decide +kernel) ?_
      refine w_cgeN 37 10 (by decide +kernel) (by omega) (by omega) (fun h1 => ?_) (fun h1 => ?_)
      · skip
        refine w_load (.iload_n 1) 38 (by decide +kernel) rfl rfl ?_
        exact w_ret (by decide +kernel) (hq _ trivial)
      · skip
        refine w_load (.iload_n 1) 11 (by decide +kernel) rfl rfl ?_
        refine w_load (.aload_n 0) 12 (by decide +kernel) rfl rfl ?_
        refine w_load (.iload_n 2) 13 (by decide +kernel) rfl rfl ?_
        refine w_pushN 4 14 (by decide +kernel) ?_
        refine w_divN (g2 / 4) 15 (by decide +kernel) (by decide) (by decide) (by omega) rfl ?_
        refine w_load (.iload_n 2) 16 (by decide +kernel) rfl rfl ?_
        refine w_pushN 4 17 (by decide +kernel) ?_
        refine w_remN (g2 % 4) 18 (by decide +kernel) (by decide) (by decide) (by omega) rfl ?_
        refine w_callV2 127 7 7 21 (by decide +kernel) sh_0 (Nat.le_of_ble_eq_true rfl) rfl rfl (by decide) (by omega) ?_
        refine k_127 hI (by omega) (by omega) (by omega) (fun r2 hr2 => ?_)
        dsimp only [Option.toList, List.cons_append, List.nil_append]
        refine w_ieq 28 24 (by decide +kernel) (fun h3 => ?_) (fun h3 => ?_)
        · skip
          refine w_pushN 0 29 (by decide +kernel) ?_
          refine w_pure .iadd 30 (by decide +kernel) rfl rfl ?_
          refine w_topi (fun v4 ev4 => ?_)
          refine w_store (ls' := [.ref 0, .int v4, .int (nI g2)]) (.istore_n 1) 31 (by decide +kernel) rfl rfl ?_
          refine w_iincN (z := 2) (g2 + 1) 34 (by decide +kernel) rfl (Nat.le_of_ble_eq_true rfl) rfl rfl ?_
          show Wp _ _ _ [.ref 0, .int v4, .int (nI (g2 + 1))] _ _ _ _
          refine w_goto 4 (by decide +kernel) ?_
          exact ih_4 _ (g2 + 1) (by omega) (by omega)
        · skip
          refine w_pushN 1 25 (by decide +kernel) ?_
          refine w_goto 29 (by decide +kernel) ?_
          refine w_pure .iadd 30 (by decide +kernel) rfl rfl ?_
          refine w_topi (fun v5 ev5 => ?_)
          refine w_store (ls' := [.ref 0, .int v5, .int (nI g2)]) (.istore_n 1) 31 (by decide +kernel) rfl rfl ?_
          refine w_iincN (z := 2) (g2 + 1) 34 (by decide +kernel) rfl (Nat.le_of_ble_eq_true rfl) rfl rfl ?_
          show Wp _ _ _ [.ref 0, .int v5, .int (nI (g2 + 1))] _ _ _ _
          refine w_goto 4 (by decide +kernel) ?_
          exact ih_4 _ (g2 + 1) (by omega) (by omega)
  exact LP_4 _ _ 0 (by omega) (Nat.lt_succ_self _)
-- X7_firstRest
set_option maxRecDepth 10000 in
theorem k_129 {d : Nat} {M : Mt} {L : Lt} {Q : Option Value → Mt → Lt → Prop}  (hI : Inv M)  (hd : 1 ≤ d) (hq : ∀ (r : Int32), True → Q (some (.int r)) M L) : Wp d 129 0 [.ref 0, .null] [] M L Q := by
  refine w_pushN 0 1 (by decide +kernel) ?_
  refine w_store (ls' := [.ref 0, .int (nI 0)]) (.istore_n 1) 2 (by decide +kernel) rfl rfl ?_
  have LP_2 : ∀ (kk : Nat) (g1 : Nat), g1 ≤ 16 → 16 - g1 < kk → Wp d 129 2 [.ref 0, .int (nI g1)] [] M L Q := by
    intro kk
    induction kk with
    | zero => intro g1 hi0_2 hm_2; exact absurd hm_2 (Nat.not_lt_zero _)
    | succ kk ih_2 =>
      intro g1 hi0_2 hm_2
      refine w_load (.iload_n 1) 3 (by decide +kernel) rfl rfl ?_
      refine w_pushN 16 5 (by decide +kernel) ?_
      refine w_cgeN 38 8 (by decide +kernel) (by omega) (by omega) (fun h1 => ?_) (fun h1 => ?_)
      · skip
        refine w_push (-9) 40 (by decide +kernel) ?_
        exact w_ret (by decide +kernel) (hq _ trivial)
      · skip
        refine w_load (.aload_n 0) 9 (by decide +kernel) rfl rfl ?_
        refine w_load (.iload_n 1) 10 (by decide +kernel) rfl rfl ?_
        refine w_pushN 4 11 (by decide +kernel) ?_
        refine w_divN (g1 / 4) 12 (by decide +kernel) (by decide) (by decide) (by omega) rfl ?_
        refine w_load (.iload_n 1) 13 (by decide +kernel) rfl rfl ?_
        refine w_pushN 4 14 (by decide +kernel) ?_
        refine w_remN (g1 % 4) 15 (by decide +kernel) (by decide) (by decide) (by omega) rfl ?_
        refine w_callV2 127 7 7 18 (by decide +kernel) sh_0 (Nat.le_of_ble_eq_true rfl) rfl rfl (by decide) (by omega) ?_
        refine k_127 hI (by omega) (by omega) (by omega) (fun r2 hr2 => ?_)
        dsimp only [Option.toList, List.cons_append, List.nil_append]
        refine w_ieq 32 21 (by decide +kernel) (fun h3 => ?_) (fun h3 => ?_)
        · skip
          refine w_iincN (z := 1) (g1 + 1) 35 (by decide +kernel) rfl (Nat.le_of_ble_eq_true rfl) rfl rfl ?_
          show Wp _ _ _ [.ref 0, .int (nI (g1 + 1))] _ _ _ _
          refine w_goto 2 (by decide +kernel) ?_
          exact ih_2 (g1 + 1) (by omega) (by omega)
        · skip
          refine w_pushN 10 23 (by decide +kernel) ?_
          refine w_load (.iload_n 1) 24 (by decide +kernel) rfl rfl ?_
          refine w_pushN 4 25 (by decide +kernel) ?_
          refine w_divN (g1 / 4) 26 (by decide +kernel) (by decide) (by decide) (by omega) rfl ?_
          refine w_mulN (10 * ((g1 / 4))) 27 (by decide +kernel) rfl ?_
          refine w_load (.iload_n 1) 28 (by decide +kernel) rfl rfl ?_
          refine w_pushN 4 29 (by decide +kernel) ?_
          refine w_remN (g1 % 4) 30 (by decide +kernel) (by decide) (by decide) (by omega) rfl ?_
          refine w_addN (10 * ((g1 / 4)) + (g1 % 4)) 31 (by decide +kernel) (by omega) ?_
          exact w_ret (by decide +kernel) (hq _ trivial)
  exact LP_2 _ 0 (by omega) (Nat.lt_succ_self _)
-- X7_rests
set_option maxRecDepth 10000 in
theorem k_99 {d : Nat} {M : Mt} {L : Lt} {Q : Option Value → Mt → Lt → Prop} {g : Int32} {o : Int32} {a : Int32} (hI : Inv M)  (hd : 7 ≤ d) (hq : ∀ (r : Int32) (N : Mt), St (fun i k => (4 ≤ i ∧ i ≤ 63) ∨ i = 68 ∨ i = 69 ∨ (i = 0 ∧ (k = 14 ∨ k = 15))) M N → True → Q (some (.int r)) N L) : Wp d 99 0 [.ref 0, .int g, .int o, .int a, .null] [] M L Q := by
  refine (show ∀ N : Mt, N = M → St (fun i k => (4 ≤ i ∧ i ≤ 63) ∨ i = 68 ∨ i = 69 ∨ (i = 0 ∧ (k = 14 ∨ k = 15))) M N → Wp d 99 0 [.ref 0, .int g, .int o, .int a, .null] [] N L Q from ?_) M rfl (St.rf hI)
  intro N hNM hS
  refine w_load (.aload_n 0) 1 (by decide +kernel) rfl rfl ?_
  refine w_getR (k := 2) (r := 4) 4 (by decide +kernel) sh_0 rfl ?_
  refine w_load (.iload_n 1) 5 (by decide +kernel) rfl rfl ?_
  refine w_callV1 11 1 2 8 (by decide +kernel) sh_4 (Nat.le_of_ble_eq_true rfl) rfl (by decide) (by omega) ?_
  refine k_11 hS.1 hs_4 (by omega) (fun r1 hr1 => ?_)
  dsimp only [Option.toList, List.cons_append, List.nil_append]
  rcases hr1 with ⟨rfl, k2, hk2, rfl⟩ | rfl
  · skip
    refine w_ieq 22 11 (by decide +kernel) (fun hz => absurd hz (by decide)) (fun _ => ?_)
    refine w_load (.aload_n 0) 12 (by decide +kernel) rfl rfl ?_
    refine w_getR (k := 2) (r := 4) 15 (by decide +kernel) sh_0 rfl ?_
    refine w_load (.iload_n 2) 16 (by decide +kernel) rfl rfl ?_
    refine w_callV1 11 1 2 19 (by decide +kernel) sh_4 (Nat.le_of_ble_eq_true rfl) rfl (by decide) (by omega) ?_
    refine k_11 hS.1 hs_4 (by omega) (fun r4 hr4 => ?_)
    dsimp only [Option.toList, List.cons_append, List.nil_append]
    rcases hr4 with ⟨rfl, k5, hk5, rfl⟩ | rfl
    · skip
      refine w_ine 24 22 (by decide +kernel) (fun _ => ?_) (fun hz => absurd hz (by decide))
      refine w_load (.iload_n 1) 25 (by decide +kernel) rfl rfl ?_
      refine w_load (.iload_n 2) 26 (by decide +kernel) rfl rfl ?_
      refine w_ceqN 38 29 (by decide +kernel) (by omega) (by omega) (fun h7 => ?_) (fun h7 => ?_)
      · skip
        refine w_push (-2) 40 (by decide +kernel) ?_
        exact w_ret (by decide +kernel) (hq _ N hS trivial)
      · skip
        refine w_load (.iload_n 3) 30 (by decide +kernel) rfl rfl ?_
        refine w_ilt 38 33 (by decide +kernel) (fun h8 => ?_) (fun h8 => ?_)
        · skip
          refine w_push (-2) 40 (by decide +kernel) ?_
          exact w_ret (by decide +kernel) (hq _ N hS trivial)
        · skip
          refine w_load (.iload_n 3) 34 (by decide +kernel) rfl rfl ?_
          refine w_pushN 1 35 (by decide +kernel) ?_
          refine w_cle 41 38 (by decide +kernel) (fun h9 => ?_) (fun h9 => ?_)
          · skip
            refine w_load (.aload_n 0) 42 (by decide +kernel) rfl rfl ?_
            refine w_getR (k := 2) (r := 4) 45 (by decide +kernel) sh_0 rfl ?_
            refine w_load (.iload_n 1) 46 (by decide +kernel) rfl rfl ?_
            refine w_callV1 16 1 2 49 (by decide +kernel) sh_4 (Nat.le_of_ble_eq_true rfl) rfl (by decide) (by omega) ?_
            refine k_16 hS.1 hs_4 (by omega) (fun r10 hr10 => ?_)
            dsimp only [Option.toList, List.cons_append, List.nil_append]
            refine w_ieq 63 52 (by decide +kernel) (fun h11 => ?_) (fun h11 => ?_)
            · skip
              refine w_push (-3) 65 (by decide +kernel) ?_
              exact w_ret (by decide +kernel) (hq _ N hS trivial)
            · skip
              refine w_load (.aload_n 0) 53 (by decide +kernel) rfl rfl ?_
              refine w_getR (k := 2) (r := 4) 56 (by decide +kernel) sh_0 rfl ?_
              refine w_load (.iload_n 2) 57 (by decide +kernel) rfl rfl ?_
              refine w_callV1 16 1 2 60 (by decide +kernel) sh_4 (Nat.le_of_ble_eq_true rfl) rfl (by decide) (by omega) ?_
              refine k_16 hS.1 hs_4 (by omega) (fun r12 hr12 => ?_)
              dsimp only [Option.toList, List.cons_append, List.nil_append]
              refine w_ine 66 63 (by decide +kernel) (fun h13 => ?_) (fun h13 => ?_)
              · skip
                refine w_load (.aload_n 0) 67 (by decide +kernel) rfl rfl ?_
                refine w_getR (k := 3) (r := 7) 70 (by decide +kernel) sh_0 rfl ?_
                refine w_load (.aload_n 0) 71 (by decide +kernel) rfl rfl ?_
                refine w_getR (k := 2) (r := 4) 74 (by decide +kernel) sh_0 rfl ?_
                refine w_callV1 8 1 2 77 (by decide +kernel) sh_7 (Nat.le_of_ble_eq_true rfl) rfl (by decide) (by omega) ?_
                refine k_8 hS.1 hs_7 hs_4 (by omega) (fun N hT hr14 => ?_)
                have hS := hS.tr hT (by intro i k; first | exact rfl | omega | (dsimp only; omega) | (simp only [Hs, Tl, Sc, isHs, isScr, isTs] at *; omega))
                dsimp only [Option.toList, List.nil_append]
                refine w_pushN 0 78 (by decide +kernel) ?_
                refine w_store (ls' := [.ref 0, .int (nI k2), .int (nI k5), .int a, .int (nI 0)]) (.istore 4) 80 (by decide +kernel) rfl rfl ?_
                have LP_80 : ∀ (kk : Nat) (N : Mt) (g4 : Nat), St (fun i k => (4 ≤ i ∧ i ≤ 63) ∨ i = 68 ∨ i = 69 ∨ (i = 0 ∧ (k = 14 ∨ k = 15))) M N → g4 ≤ 16 → 16 - g4 < kk → Wp d 99 80 [.ref 0, .int (nI k2), .int (nI k5), .int a, .int (nI g4)] [] N L Q := by
                  intro kk
                  induction kk with
                  | zero => intro N g4 hS hi0_80 hm_80; exact absurd hm_80 (Nat.not_lt_zero _)
                  | succ kk ih_80 =>
                    intro N g4 hS hi0_80 hm_80
                    refine w_load (.iload 4) 82 (by decide +kernel) rfl rfl ?_
                    refine w_load (.aload_n 0) 83 (by decide +kernel) rfl rfl ?_
                    refine w_getR (k := 12) (r := 68) 86 (by decide +kernel) sh_0 rfl ?_
                    refine w_alen (nI 16) 87 (by decide +kernel) sh_68 (by decide) (by first | rfl | simp [nI]) ?_
                    refine w_cgeN 144 90 (by decide +kernel) (by omega) (by omega) (fun h15 => ?_) (fun h15 => ?_)
                    · skip
                      refine w_load (.iload_n 3) 145 (by decide +kernel) rfl rfl ?_
                      refine w_ine 155 148 (by decide +kernel) (fun h16 => ?_) (fun h16 => ?_)
                      · skip
                        refine w_load (.aload_n 0) 156 (by decide +kernel) rfl rfl ?_
                        refine w_callV0 129 7 2 159 (by decide +kernel) sh_0 (Nat.le_of_ble_eq_true rfl)  (by decide) (by omega) ?_
                        refine k_129 hS.1  (by omega) (fun r17 hr17 => ?_)
                        dsimp only [Option.toList, List.cons_append, List.nil_append]
                        exact w_ret (by decide +kernel) (hq _ N hS trivial)
                      · skip
                        refine w_load (.aload_n 0) 149 (by decide +kernel) rfl rfl ?_
                        refine w_callV0 128 7 3 152 (by decide +kernel) sh_0 (Nat.le_of_ble_eq_true rfl)  (by decide) (by omega) ?_
                        refine k_128 hS.1  (by omega) (fun r18 hr18 => ?_)
                        dsimp only [Option.toList, List.cons_append, List.nil_append]
                        refine w_goto 159 (by decide +kernel) ?_
                        exact w_ret (by decide +kernel) (hq _ N hS trivial)
                    · skip
                      refine w_load (.aload_n 0) 91 (by decide +kernel) rfl rfl ?_
                      refine w_getR (k := 3) (r := 7) 94 (by decide +kernel) sh_0 rfl ?_
                      refine w_load (.iload_n 1) 95 (by decide +kernel) rfl rfl ?_
                      refine w_load (.iload 4) 97 (by decide +kernel) rfl rfl ?_
                      refine w_pushN 4 98 (by decide +kernel) ?_
                      refine w_divN (g4 / 4) 99 (by decide +kernel) (by decide) (by decide) (by omega) rfl ?_
                      refine w_callV2 26 1 3 102 (by decide +kernel) sh_7 (Nat.le_of_ble_eq_true rfl) rfl rfl (by decide) (by omega) ?_
                      refine k_26 hS.1 hs_7 (by omega) (fun N hT hr19 => ?_)
                      have hS := hS.tr hT (by intro i k; first | exact rfl | omega | (dsimp only; omega) | (simp only [Hs, Tl, Sc, isHs, isScr, isTs] at *; omega))
                      dsimp only [Option.toList, List.nil_append]
                      refine w_load (.aload_n 0) 103 (by decide +kernel) rfl rfl ?_
                      refine w_getR (k := 3) (r := 7) 106 (by decide +kernel) sh_0 rfl ?_
                      refine w_load (.iload_n 2) 107 (by decide +kernel) rfl rfl ?_
                      refine w_load (.iload 4) 109 (by decide +kernel) rfl rfl ?_
                      refine w_pushN 4 110 (by decide +kernel) ?_
                      refine w_remN (g4 % 4) 111 (by decide +kernel) (by decide) (by decide) (by omega) rfl ?_
                      refine w_callV2 26 1 3 114 (by decide +kernel) sh_7 (Nat.le_of_ble_eq_true rfl) rfl rfl (by decide) (by omega) ?_
                      refine k_26 hS.1 hs_7 (by omega) (fun N hT hr20 => ?_)
                      have hS := hS.tr hT (by intro i k; first | exact rfl | omega | (dsimp only; omega) | (simp only [Hs, Tl, Sc, isHs, isScr, isTs] at *; omega))
                      dsimp only [Option.toList, List.nil_append]
                      refine w_load (.aload_n 0) 115 (by decide +kernel) rfl rfl ?_
                      refine w_getR (k := 12) (r := 68) 118 (by decide +kernel) sh_0 rfl ?_
                      refine w_load (.iload 4) 120 (by decide +kernel) rfl rfl ?_
                      refine w_load (.aload_n 0) 121 (by decide +kernel) rfl rfl ?_
                      refine w_load (.iload_n 1) 122 (by decide +kernel) rfl rfl ?_
                      refine w_callV1 126 7 4 125 (by decide +kernel) sh_0 (Nat.le_of_ble_eq_true rfl) rfl (by decide) (by omega) ?_
                      refine k_126 hS.1  (by omega) (fun r21 N hT hr21 => ?_)
                      have hS := hS.tr hT (by intro i k; first | exact rfl | omega | (dsimp only; omega) | (simp only [Hs, Tl, Sc, isHs, isScr, isTs] at *; omega))
                      dsimp only [Option.toList, List.cons_append, List.nil_append]
                      refine w_iastW 126 (by decide +kernel) sh_68 (by omega) (by omega) hS (Rg.free (by simp only [Hs, Tl, Sc, isScr, isHs, isTs] at *; omega)) (by first | exact rfl | omega | (dsimp only; omega) | (simp only [Hs, Tl, Sc, isHs, isScr, isTs] at *; omega)) (fun N hS hq22 oq22 => ?_)
                      refine w_load (.aload_n 0) 127 (by decide +kernel) rfl rfl ?_
                      refine w_getR (k := 13) (r := 69) 130 (by decide +kernel) sh_0 rfl ?_
                      refine w_load (.iload 4) 132 (by decide +kernel) rfl rfl ?_
                      refine w_load (.aload_n 0) 133 (by decide +kernel) rfl rfl ?_
                      refine w_load (.iload_n 2) 134 (by decide +kernel) rfl rfl ?_
                      refine w_callV1 126 7 4 137 (by decide +kernel) sh_0 (Nat.le_of_ble_eq_true rfl) rfl (by decide) (by omega) ?_
                      refine k_126 hS.1  (by omega) (fun r23 N hT hr23 => ?_)
                      have hS := hS.tr hT (by intro i k; first | exact rfl | omega | (dsimp only; omega) | (simp only [Hs, Tl, Sc, isHs, isScr, isTs] at *; omega))
                      dsimp only [Option.toList, List.cons_append, List.nil_append]
                      refine w_iastW 138 (by decide +kernel) sh_69 (by omega) (by omega) hS (Rg.free (by simp only [Hs, Tl, Sc, isScr, isHs, isTs] at *; omega)) (by first | exact rfl | omega | (dsimp only; omega) | (simp only [Hs, Tl, Sc, isHs, isScr, isTs] at *; omega)) (fun N hS hq24 oq24 => ?_)
                      refine w_iincN (z := 4) (g4 + 1) 141 (by decide +kernel) rfl (Nat.le_of_ble_eq_true rfl) rfl rfl ?_
                      show Wp _ _ _ [.ref 0, .int (nI k2), .int (nI k5), .int a, .int (nI (g4 + 1))] _ _ _ _
                      refine w_goto 80 (by decide +kernel) ?_
                      exact ih_80 N (g4 + 1) hS (by omega) (by omega)
                exact LP_80 _ N 0 hS (by omega) (Nat.lt_succ_self _)
              · skip
                refine w_push (-3) 65 (by decide +kernel) ?_
                exact w_ret (by decide +kernel) (hq _ N hS trivial)
          · skip
            refine w_push (-2) 40 (by decide +kernel) ?_
            exact w_ret (by decide +kernel) (hq _ N hS trivial)
    · skip
      refine w_ine 24 22 (by decide +kernel) (fun hz => absurd hz (by decide)) (fun _ => ?_)
      refine w_push (-1) 23 (by decide +kernel) ?_
      exact w_ret (by decide +kernel) (hq _ N hS trivial)
  · skip
    refine w_ieq 22 11 (by decide +kernel) (fun _ => ?_) (fun hz => absurd hz (by decide))
    refine w_push (-1) 23 (by decide +kernel) ?_
    exact w_ret (by decide +kernel) (hq _ N hS trivial)
-- X7_see
set_option maxRecDepth 10000 in
theorem k_100 {d : Nat} {M : Mt} {L : Lt} {Q : Option Value → Mt → Lt → Prop} {g : Int32} {b : Int32} (hI : Inv M)  (hd : 2 ≤ d) (hq : ∀ (r : Int32) (N : Mt), St (fun i _ => 64 ≤ i ∧ i ≤ 66) M N → True → Q (some (.int r)) N L) : Wp d 100 0 [.ref 0, .int g, .int b] [] M L Q := by
  refine (show ∀ N : Mt, N = M → St (fun i _ => 64 ≤ i ∧ i ≤ 66) M N → Wp d 100 0 [.ref 0, .int g, .int b] [] N L Q from ?_) M rfl (St.rf hI)
  intro N hNM hS
  refine w_load (.aload_n 0) 1 (by decide +kernel) rfl rfl ?_
  refine w_getR (k := 2) (r := 4) 4 (by decide +kernel) sh_0 rfl ?_
  refine w_load (.iload_n 1) 5 (by decide +kernel) rfl rfl ?_
  refine w_callV1 11 1 2 8 (by decide +kernel) sh_4 (Nat.le_of_ble_eq_true rfl) rfl (by decide) (by omega) ?_
  refine k_11 hS.1 hs_4 (by omega) (fun r1 hr1 => ?_)
  dsimp only [Option.toList, List.cons_append, List.nil_append]
  rcases hr1 with ⟨rfl, k2, hk2, rfl⟩ | rfl
  · skip
    refine w_ine 13 11 (by decide +kernel) (fun _ => ?_) (fun hz => absurd hz (by decide))
    refine w_load (.aload_n 0) 14 (by decide +kernel) rfl rfl ?_
    refine w_getR (k := 10) (r := 64) 17 (by decide +kernel) sh_0 rfl ?_
    refine w_callV0 60 5 1 20 (by decide +kernel) sh_64 (Nat.le_of_ble_eq_true rfl)  (by decide) (by omega) ?_
    obtain ⟨n4, hn4, en4⟩ := inv_sz hS.1
    refine k_60 hS.1 (by omega) en4 (by omega) (fun r5 hr5 => ?_)
    dsimp only [Option.toList, List.cons_append, List.nil_append]
    rcases hr5 with ⟨rfl, hfull⟩ | ⟨rfl, hfull⟩
    · skip
      refine w_ieq 28 23 (by decide +kernel) (fun hz => absurd hz (by decide)) (fun _ => ?_)
      refine w_push (-4) 25 (by decide +kernel) ?_
      refine w_goto 49 (by decide +kernel) ?_
      exact w_ret (by decide +kernel) (hq _ N hS trivial)
    · skip
      refine w_ieq 28 23 (by decide +kernel) (fun _ => ?_) (fun hz => absurd hz (by decide))
      refine w_load (.aload_n 0) 29 (by decide +kernel) rfl rfl ?_
      refine w_getR (k := 10) (r := 64) 32 (by decide +kernel) sh_0 rfl ?_
      refine w_load (.iload_n 1) 33 (by decide +kernel) rfl rfl ?_
      refine w_load (.iload_n 2) 34 (by decide +kernel) rfl rfl ?_
      refine w_ieq 43 37 (by decide +kernel) (fun h8 => ?_) (fun h8 => ?_)
      · skip
        refine w_pushN 1001 46 (by decide +kernel) ?_
        refine w_callV2 61 5 3 49 (by decide +kernel) sh_64 (Nat.le_of_ble_eq_true rfl) rfl rfl (by decide) (by omega) ?_
        refine k_61 hS.1 (by omega) en4 (by omega) (fun r9 N hT hr9 => ?_)
        have hS := hS.tr hT (by intro i k; first | exact rfl | omega | (dsimp only; omega) | (simp only [Hs, Tl, Sc, isHs, isScr, isTs] at *; omega))
        dsimp only [Option.toList, List.cons_append, List.nil_append]
        exact w_ret (by decide +kernel) (hq _ N hS trivial)
      · skip
        refine w_pushN 1000 40 (by decide +kernel) ?_
        refine w_goto 46 (by decide +kernel) ?_
        refine w_callV2 61 5 3 49 (by decide +kernel) sh_64 (Nat.le_of_ble_eq_true rfl) rfl rfl (by decide) (by omega) ?_
        refine k_61 hS.1 (by omega) en4 (by omega) (fun r10 N hT hr10 => ?_)
        have hS := hS.tr hT (by intro i k; first | exact rfl | omega | (dsimp only; omega) | (simp only [Hs, Tl, Sc, isHs, isScr, isTs] at *; omega))
        dsimp only [Option.toList, List.cons_append, List.nil_append]
        exact w_ret (by decide +kernel) (hq _ N hS trivial)
  · skip
    refine w_ine 13 11 (by decide +kernel) (fun hz => absurd hz (by decide)) (fun _ => ?_)
    refine w_push (-1) 12 (by decide +kernel) ?_
    exact w_ret (by decide +kernel) (hq _ N hS trivial)
-- X7_seeCoins
set_option maxRecDepth 10000 in
theorem k_101 {d : Nat} {M : Mt} {L : Lt} {Q : Option Value → Mt → Lt → Prop} {g : Int32} {a : Int32} (hI : Inv M)  (hd : 2 ≤ d) (hq : ∀ (r : Int32) (N : Mt), St (fun i _ => 64 ≤ i ∧ i ≤ 66) M N → True → Q (some (.int r)) N L) : Wp d 101 0 [.ref 0, .int g, .int a] [] M L Q := by
  refine (show ∀ N : Mt, N = M → St (fun i _ => 64 ≤ i ∧ i ≤ 66) M N → Wp d 101 0 [.ref 0, .int g, .int a] [] N L Q from ?_) M rfl (St.rf hI)
  intro N hNM hS
  refine w_load (.aload_n 0) 1 (by decide +kernel) rfl rfl ?_
  refine w_getR (k := 2) (r := 4) 4 (by decide +kernel) sh_0 rfl ?_
  refine w_load (.iload_n 1) 5 (by decide +kernel) rfl rfl ?_
  refine w_callV1 11 1 2 8 (by decide +kernel) sh_4 (Nat.le_of_ble_eq_true rfl) rfl (by decide) (by omega) ?_
  refine k_11 hS.1 hs_4 (by omega) (fun r1 hr1 => ?_)
  dsimp only [Option.toList, List.cons_append, List.nil_append]
  rcases hr1 with ⟨rfl, k2, hk2, rfl⟩ | rfl
  · skip
    refine w_ine 13 11 (by decide +kernel) (fun _ => ?_) (fun hz => absurd hz (by decide))
    refine w_load (.iload_n 2) 14 (by decide +kernel) rfl rfl ?_
    refine w_push (-50) 16 (by decide +kernel) ?_
    refine w_clt 25 19 (by decide +kernel) (fun h4 => ?_) (fun h4 => ?_)
    · skip
      refine w_push (-2) 27 (by decide +kernel) ?_
      exact w_ret (by decide +kernel) (hq _ N hS trivial)
    · skip
      refine w_load (.iload_n 2) 20 (by decide +kernel) rfl rfl ?_
      refine w_pushN 50 22 (by decide +kernel) ?_
      refine w_cle 28 25 (by decide +kernel) (fun h5 => ?_) (fun h5 => ?_)
      · skip
        refine w_load (.aload_n 0) 29 (by decide +kernel) rfl rfl ?_
        refine w_getR (k := 10) (r := 64) 32 (by decide +kernel) sh_0 rfl ?_
        refine w_callV0 60 5 1 35 (by decide +kernel) sh_64 (Nat.le_of_ble_eq_true rfl)  (by decide) (by omega) ?_
        obtain ⟨n6, hn6, en6⟩ := inv_sz hS.1
        refine k_60 hS.1 (by omega) en6 (by omega) (fun r7 hr7 => ?_)
        dsimp only [Option.toList, List.cons_append, List.nil_append]
        rcases hr7 with ⟨rfl, hfull⟩ | ⟨rfl, hfull⟩
        · skip
          refine w_ieq 43 38 (by decide +kernel) (fun hz => absurd hz (by decide)) (fun _ => ?_)
          refine w_push (-4) 40 (by decide +kernel) ?_
          refine w_goto 52 (by decide +kernel) ?_
          exact w_ret (by decide +kernel) (hq _ N hS trivial)
        · skip
          refine w_ieq 43 38 (by decide +kernel) (fun _ => ?_) (fun hz => absurd hz (by decide))
          refine w_load (.aload_n 0) 44 (by decide +kernel) rfl rfl ?_
          refine w_getR (k := 10) (r := 64) 47 (by decide +kernel) sh_0 rfl ?_
          refine w_load (.iload_n 1) 48 (by decide +kernel) rfl rfl ?_
          refine w_load (.iload_n 2) 49 (by decide +kernel) rfl rfl ?_
          refine w_callV2 61 5 3 52 (by decide +kernel) sh_64 (Nat.le_of_ble_eq_true rfl) rfl rfl (by decide) (by omega) ?_
          refine k_61 hS.1 (by omega) en6 (by omega) (fun r10 N hT hr10 => ?_)
          have hS := hS.tr hT (by intro i k; first | exact rfl | omega | (dsimp only; omega) | (simp only [Hs, Tl, Sc, isHs, isScr, isTs] at *; omega))
          dsimp only [Option.toList, List.cons_append, List.nil_append]
          exact w_ret (by decide +kernel) (hq _ N hS trivial)
      · skip
        refine w_push (-2) 27 (by decide +kernel) ?_
        exact w_ret (by decide +kernel) (hq _ N hS trivial)
  · skip
    refine w_ine 13 11 (by decide +kernel) (fun hz => absurd hz (by decide)) (fun _ => ?_)
    refine w_push (-1) 12 (by decide +kernel) ?_
    exact w_ret (by decide +kernel) (hq _ N hS trivial)
-- X7_unsee
set_option maxRecDepth 10000 in
theorem k_102 {d : Nat} {M : Mt} {L : Lt} {Q : Option Value → Mt → Lt → Prop}  (hI : Inv M)  (hd : 1 ≤ d) (hq : ∀ (r : Int32) (N : Mt), St (fun i _ => 64 ≤ i ∧ i ≤ 66) M N → True → Q (some (.int r)) N L) : Wp d 102 0 [.ref 0] [] M L Q := by
  refine (show ∀ N : Mt, N = M → St (fun i _ => 64 ≤ i ∧ i ≤ 66) M N → Wp d 102 0 [.ref 0] [] N L Q from ?_) M rfl (St.rf hI)
  intro N hNM hS
  refine w_load (.aload_n 0) 1 (by decide +kernel) rfl rfl ?_
  refine w_getR (k := 10) (r := 64) 4 (by decide +kernel) sh_0 rfl ?_
  refine w_callV0 62 5 2 7 (by decide +kernel) sh_64 (Nat.le_of_ble_eq_true rfl)  (by decide) (by omega) ?_
  obtain ⟨n1, hn1, en1⟩ := inv_sz hS.1
  refine k_62 hS.1 (by omega) en1 (by omega) (fun r2 N hT hr2 => ?_)
  have hS := hS.tr hT (by intro i k; first | exact rfl | omega | (dsimp only; omega) | (simp only [Hs, Tl, Sc, isHs, isScr, isTs] at *; omega))
  dsimp only [Option.toList, List.cons_append, List.nil_append]
  exact w_ret (by decide +kernel) (hq _ N hS trivial)
-- X7_talesThatFit
set_option maxRecDepth 10000 in
theorem k_130 {d : Nat} {M : Mt} {L : Lt} {Q : Option Value → Mt → Lt → Prop}  (hI : Inv M)  (hd : 6 ≤ d) (hq : ∀ (r : Int32) (N : Mt), St (fun i k => (4 ≤ i ∧ i ≤ 63) ∨ i = 68 ∨ i = 69 ∨ (i = 0 ∧ (k = 14 ∨ k = 15))) M N → True → Q (some (.int r)) N L) : Wp d 130 0 [.ref 0, .null, .null] [] M L Q := by
  refine (show ∀ N : Mt, N = M → St (fun i k => (4 ≤ i ∧ i ≤ 63) ∨ i = 68 ∨ i = 69 ∨ (i = 0 ∧ (k = 14 ∨ k = 15))) M N → Wp d 130 0 [.ref 0, .null, .null] [] N L Q from ?_) M rfl (St.rf hI)
  intro N hNM hS
  refine w_pushN 0 1 (by decide +kernel) ?_
  refine w_store (ls' := [.ref 0, .int (nI 0), .null]) (.istore_n 1) 2 (by decide +kernel) rfl rfl ?_
  refine w_pushN 0 3 (by decide +kernel) ?_
  refine w_store (ls' := [.ref 0, .int (nI 0), .int (nI 0)]) (.istore_n 2) 4 (by decide +kernel) rfl rfl ?_
  have LP_4 : ∀ (kk : Nat) (N : Mt) (x1_4 : Int32) (g2 : Nat), St (fun i k => (4 ≤ i ∧ i ≤ 63) ∨ i = 68 ∨ i = 69 ∨ (i = 0 ∧ (k = 14 ∨ k = 15))) M N → g2 ≤ 3 → 3 - g2 < kk → Wp d 130 4 [.ref 0, .int x1_4, .int (nI g2)] [] N L Q := by
    intro kk
    induction kk with
    | zero => intro N x1_4 g2 hS hi0_4 hm_4; exact absurd hm_4 (Nat.not_lt_zero _)
    | succ kk ih_4 =>
      intro N x1_4 g2 hS hi0_4 hm_4
      refine w_load (.iload_n 2) 5 (by decide +kernel) rfl rfl ?_
      refine w_pushN 3 6 (by decide +kernel) ?_
      refine w_cgeN 59 9 (by decide +kernel) (by omega) (by omega) (fun h1 => ?_) (fun h1 => ?_)
      · skip
        refine w_load (.iload_n 1) 60 (by decide +kernel) rfl rfl ?_
        exact w_ret (by decide +kernel) (hq _ N hS trivial)
      · skip
        refine w_load (.aload_n 0) 10 (by decide +kernel) rfl rfl ?_
        refine w_getR (k := 4) (r := 10) 13 (by decide +kernel) sh_0 rfl ?_
        refine w_load (.aload_n 0) 14 (by decide +kernel) rfl rfl ?_
        refine w_getR (k := 2) (r := 4) 17 (by decide +kernel) sh_0 rfl ?_
        refine w_load (.aload_n 0) 18 (by decide +kernel) rfl rfl ?_
        refine w_getR (k := 1) (r := 3) 21 (by decide +kernel) sh_0 rfl ?_
        refine w_load (.iload_n 2) 22 (by decide +kernel) rfl rfl ?_
        refine w_tale 23 (by decide +kernel) (by omega) ?_
        refine w_callV2 68 6 5 26 (by decide +kernel) sh_10 (Nat.le_of_ble_eq_true rfl) rfl rfl (by decide) (by omega) ?_
        refine k_68 hS.1 tl_10 hs_4 (sc_tale g2 (by omega)) (by omega) (fun N hT hr2 => ?_)
        have hS := hS.tr hT (by intro i k; first | exact rfl | omega | (dsimp only; omega) | (simp only [Hs, Tl, Sc, isHs, isScr, isTs] at *; omega))
        dsimp only [Option.toList, List.nil_append]
        refine w_load (.iload_n 1) 27 (by decide +kernel) rfl rfl ?_
        refine w_load (.aload_n 0) 28 (by decide +kernel) rfl rfl ?_
        refine w_getR (k := 10) (r := 64) 31 (by decide +kernel) sh_0 rfl ?_
        refine w_load (.aload_n 0) 32 (by decide +kernel) rfl rfl ?_
        refine w_getR (k := 4) (r := 10) 35 (by decide +kernel) sh_0 rfl ?_
        refine w_getR (k := 0) (r := 11) 38 (by decide +kernel) sh_10 rfl ?_
        refine w_callV1 63 5 3 41 (by decide +kernel) sh_64 (Nat.le_of_ble_eq_true rfl) rfl (by decide) (by omega) ?_
        refine k_63 hS.1 hs_11 (by omega) (fun r3 hr3 => ?_)
        dsimp only [Option.toList, List.cons_append, List.nil_append]
        refine w_ieq 50 44 (by decide +kernel) (fun h4 => ?_) (fun h4 => ?_)
        · skip
          refine w_pushN 0 51 (by decide +kernel) ?_
          refine w_pure .ior 52 (by decide +kernel) rfl rfl ?_
          refine w_topi (fun v5 ev5 => ?_)
          refine w_store (ls' := [.ref 0, .int v5, .int (nI g2)]) (.istore_n 1) 53 (by decide +kernel) rfl rfl ?_
          refine w_iincN (z := 2) (g2 + 1) 56 (by decide +kernel) rfl (Nat.le_of_ble_eq_true rfl) rfl rfl ?_
          show Wp _ _ _ [.ref 0, .int v5, .int (nI (g2 + 1))] _ _ _ _
          refine w_goto 4 (by decide +kernel) ?_
          exact ih_4 N _ (g2 + 1) hS (by omega) (by omega)
        · skip
          refine w_pushN 1 45 (by decide +kernel) ?_
          refine w_load (.iload_n 2) 46 (by decide +kernel) rfl rfl ?_
          refine w_pure .ishl 47 (by decide +kernel) rfl rfl ?_
          refine w_goto 51 (by decide +kernel) ?_
          refine w_pure .ior 52 (by decide +kernel) rfl rfl ?_
          refine w_topi (fun v6 ev6 => ?_)
          refine w_store (ls' := [.ref 0, .int v6, .int (nI g2)]) (.istore_n 1) 53 (by decide +kernel) rfl rfl ?_
          refine w_iincN (z := 2) (g2 + 1) 56 (by decide +kernel) rfl (Nat.le_of_ble_eq_true rfl) rfl rfl ?_
          show Wp _ _ _ [.ref 0, .int v6, .int (nI (g2 + 1))] _ _ _ _
          refine w_goto 4 (by decide +kernel) ?_
          exact ih_4 N _ (g2 + 1) hS (by omega) (by omega)
  exact LP_4 _ N _ 0 hS (by omega) (Nat.lt_succ_self _)
-- X7_which
set_option maxRecDepth 10000 in
theorem k_103 {d : Nat} {M : Mt} {L : Lt} {Q : Option Value → Mt → Lt → Prop}  (hI : Inv M)  (hd : 7 ≤ d) (hq : ∀ (r : Int32) (N : Mt), St (fun i k => (4 ≤ i ∧ i ≤ 63) ∨ i = 68 ∨ i = 69 ∨ (i = 0 ∧ (k = 14 ∨ k = 15))) M N → True → Q (some (.int r)) N L) : Wp d 103 0 [.ref 0] [] M L Q := by
  refine (show ∀ N : Mt, N = M → St (fun i k => (4 ≤ i ∧ i ≤ 63) ∨ i = 68 ∨ i = 69 ∨ (i = 0 ∧ (k = 14 ∨ k = 15))) M N → Wp d 103 0 [.ref 0] [] N L Q from ?_) M rfl (St.rf hI)
  intro N hNM hS
  refine w_load (.aload_n 0) 1 (by decide +kernel) rfl rfl ?_
  refine w_callV0 130 7 3 4 (by decide +kernel) sh_0 (Nat.le_of_ble_eq_true rfl)  (by decide) (by omega) ?_
  refine k_130 hS.1  (by omega) (fun r1 N hT hr1 => ?_)
  have hS := hS.tr hT (by intro i k; first | exact rfl | omega | (dsimp only; omega) | (simp only [Hs, Tl, Sc, isHs, isScr, isTs] at *; omega))
  dsimp only [Option.toList, List.cons_append, List.nil_append]
  exact w_ret (by decide +kernel) (hq _ N hS trivial)
-- X7_likely
set_option maxRecDepth 10000 in
theorem k_104 {d : Nat} {M : Mt} {L : Lt} {Q : Option Value → Mt → Lt → Prop} {a : Int32} {b : Int32} (hI : Inv M)  (hd : 7 ≤ d) (hq : ∀ (r : Int32) (N : Mt), St (fun i k => (4 ≤ i ∧ i ≤ 63) ∨ i = 68 ∨ i = 69 ∨ (i = 0 ∧ (k = 14 ∨ k = 15))) M N → True → Q (some (.int r)) N L) : Wp d 104 0 [.ref 0, .int a, .int b, .null, .null, .null] [] M L Q := by
  refine (show ∀ N : Mt, N = M → St (fun i k => (4 ≤ i ∧ i ≤ 63) ∨ i = 68 ∨ i = 69 ∨ (i = 0 ∧ (k = 14 ∨ k = 15))) M N → Wp d 104 0 [.ref 0, .int a, .int b, .null, .null, .null] [] N L Q from ?_) M rfl (St.rf hI)
  intro N hNM hS
  refine w_load (.iload_n 1) 1 (by decide +kernel) rfl rfl ?_
  refine w_callS1 111 1 4 (by decide +kernel) (Nat.le_of_ble_eq_true rfl) rfl (by decide) (by omega) ?_
  refine k_111 hS.1  (by omega) (fun r1 hr1 => ?_)
  dsimp only [Option.toList, List.cons_append, List.nil_append]
  rcases hr1 with ⟨rfl, k2, hk2, rfl⟩ | ⟨rfl, hnok2⟩
  · skip
    refine w_ine 9 7 (by decide +kernel) (fun _ => ?_) (fun hz => absurd hz (by decide))
    refine w_load (.aload_n 0) 10 (by decide +kernel) rfl rfl ?_
    refine w_callV0 130 7 3 13 (by decide +kernel) sh_0 (Nat.le_of_ble_eq_true rfl)  (by decide) (by omega) ?_
    refine k_130 hS.1  (by omega) (fun r4 N hT hr4 => ?_)
    have hS := hS.tr hT (by intro i k; first | exact rfl | omega | (dsimp only; omega) | (simp only [Hs, Tl, Sc, isHs, isScr, isTs] at *; omega))
    dsimp only [Option.toList, List.cons_append, List.nil_append]
    refine w_store (ls' := [.ref 0, .int (nI k2), .int b, .int r4, .null, .null]) (.istore_n 3) 14 (by decide +kernel) rfl rfl ?_
    refine w_pushN 0 15 (by decide +kernel) ?_
    refine w_store (ls' := [.ref 0, .int (nI k2), .int b, .int r4, .int (nI 0), .null]) (.istore 4) 17 (by decide +kernel) rfl rfl ?_
    refine w_pushN 0 18 (by decide +kernel) ?_
    refine w_store (ls' := [.ref 0, .int (nI k2), .int b, .int r4, .int (nI 0), .int (nI 0)]) (.istore 5) 20 (by decide +kernel) rfl rfl ?_
    have LP_20 : ∀ (kk : Nat) (N : Mt) (x4_20 : Int32) (g5 : Nat), St (fun i k => (4 ≤ i ∧ i ≤ 63) ∨ i = 68 ∨ i = 69 ∨ (i = 0 ∧ (k = 14 ∨ k = 15))) M N → g5 ≤ 3 → 3 - g5 < kk → Wp d 104 20 [.ref 0, .int (nI k2), .int b, .int r4, .int x4_20, .int (nI g5)] [] N L Q := by
      intro kk
      induction kk with
      | zero => intro N x4_20 g5 hS hi0_20 hm_20; exact absurd hm_20 (Nat.not_lt_zero _)
      | succ kk ih_20 =>
        intro N x4_20 g5 hS hi0_20 hm_20
        refine w_load (.iload 5) 22 (by decide +kernel) rfl rfl ?_
        refine w_pushN 3 23 (by decide +kernel) ?_
        refine w_cgeN 57 26 (by decide +kernel) (by omega) (by omega) (fun h5 => ?_) (fun h5 => ?_)
        · skip
          refine w_load (.iload 4) 59 (by decide +kernel) rfl rfl ?_
          refine w_igt 65 62 (by decide +kernel) (fun h6 => ?_) (fun h6 => ?_)
          · skip
            refine w_load (.iload_n 3) 66 (by decide +kernel) rfl rfl ?_
            refine w_load (.iload_n 1) 67 (by decide +kernel) rfl rfl ?_
            refine w_callS2 115 2 70 (by decide +kernel) (Nat.le_of_ble_eq_true rfl) rfl rfl (by decide) (by omega) ?_
            refine k_115 hS.1  (by omega) (fun r7 hr7 => ?_)
            dsimp only [Option.toList, List.cons_append, List.nil_append]
            refine w_ieq 82 73 (by decide +kernel) (fun h8 => ?_) (fun h8 => ?_)
            · skip
              refine w_pushN 0 83 (by decide +kernel) ?_
              refine w_store (ls' := [.ref 0, .int (nI k2), .int b, .int r4, .int x4_20, .int (nI 0)]) (.istore 5) 85 (by decide +kernel) rfl rfl ?_
              refine w_load (.iload_n 2) 86 (by decide +kernel) rfl rfl ?_
              refine w_ieq 94 89 (by decide +kernel) (fun h9 => ?_) (fun h9 => ?_)
              · skip
                refine w_load (.iload 4) 96 (by decide +kernel) rfl rfl ?_
                refine w_load (.iload 5) 98 (by decide +kernel) rfl rfl ?_
                refine w_load (.iload 4) 100 (by decide +kernel) rfl rfl ?_
                refine w_callS3 120 4 103 (by decide +kernel) (Nat.le_of_ble_eq_true rfl) rfl rfl rfl (by decide) (by omega) ?_
                refine k_120 hS.1  (by omega) (fun r10 hr10 => ?_)
                dsimp only [Option.toList, List.cons_append, List.nil_append]
                exact w_ret (by decide +kernel) (hq _ N hS trivial)
              · skip
                refine w_load (.iload 5) 91 (by decide +kernel) rfl rfl ?_
                refine w_goto 96 (by decide +kernel) ?_
                refine w_load (.iload 5) 98 (by decide +kernel) rfl rfl ?_
                refine w_load (.iload 4) 100 (by decide +kernel) rfl rfl ?_
                refine w_callS3 120 4 103 (by decide +kernel) (Nat.le_of_ble_eq_true rfl) rfl rfl rfl (by decide) (by omega) ?_
                refine k_120 hS.1  (by omega) (fun r11 hr11 => ?_)
                dsimp only [Option.toList, List.cons_append, List.nil_append]
                exact w_ret (by decide +kernel) (hq _ N hS trivial)
            · skip
              refine w_load (.aload_n 0) 74 (by decide +kernel) rfl rfl ?_
              refine w_getR (k := 11) (r := 67) 77 (by decide +kernel) sh_0 rfl ?_
              refine w_load (.iload_n 1) 78 (by decide +kernel) rfl rfl ?_
              refine w_ialdN 79 (by decide +kernel) sh_67 (by omega) (by omega) ?_
              refine w_goto 83 (by decide +kernel) ?_
              refine w_topi (fun v12 ev12 => ?_)
              refine w_store (ls' := [.ref 0, .int (nI k2), .int b, .int r4, .int x4_20, .int v12]) (.istore 5) 85 (by decide +kernel) rfl rfl ?_
              refine w_load (.iload_n 2) 86 (by decide +kernel) rfl rfl ?_
              refine w_ieq 94 89 (by decide +kernel) (fun h13 => ?_) (fun h13 => ?_)
              · skip
                refine w_load (.iload 4) 96 (by decide +kernel) rfl rfl ?_
                refine w_load (.iload 5) 98 (by decide +kernel) rfl rfl ?_
                refine w_load (.iload 4) 100 (by decide +kernel) rfl rfl ?_
                refine w_callS3 120 4 103 (by decide +kernel) (Nat.le_of_ble_eq_true rfl) rfl rfl rfl (by decide) (by omega) ?_
                refine k_120 hS.1  (by omega) (fun r14 hr14 => ?_)
                dsimp only [Option.toList, List.cons_append, List.nil_append]
                exact w_ret (by decide +kernel) (hq _ N hS trivial)
              · skip
                refine w_load (.iload 5) 91 (by decide +kernel) rfl rfl ?_
                refine w_goto 96 (by decide +kernel) ?_
                refine w_load (.iload 5) 98 (by decide +kernel) rfl rfl ?_
                refine w_load (.iload 4) 100 (by decide +kernel) rfl rfl ?_
                refine w_callS3 120 4 103 (by decide +kernel) (Nat.le_of_ble_eq_true rfl) rfl rfl rfl (by decide) (by omega) ?_
                refine k_120 hS.1  (by omega) (fun r15 hr15 => ?_)
                dsimp only [Option.toList, List.cons_append, List.nil_append]
                exact w_ret (by decide +kernel) (hq _ N hS trivial)
          · skip
            refine w_push (-3) 64 (by decide +kernel) ?_
            exact w_ret (by decide +kernel) (hq _ N hS trivial)
        · skip
          refine w_load (.iload 4) 28 (by decide +kernel) rfl rfl ?_
          refine w_load (.iload_n 3) 29 (by decide +kernel) rfl rfl ?_
          refine w_load (.iload 5) 31 (by decide +kernel) rfl rfl ?_
          refine w_callS2 115 2 34 (by decide +kernel) (Nat.le_of_ble_eq_true rfl) rfl rfl (by decide) (by omega) ?_
          refine k_115 hS.1  (by omega) (fun r16 hr16 => ?_)
          dsimp only [Option.toList, List.cons_append, List.nil_append]
          refine w_ieq 47 37 (by decide +kernel) (fun h17 => ?_) (fun h17 => ?_)
          · skip
            refine w_pushN 0 48 (by decide +kernel) ?_
            refine w_pure .iadd 49 (by decide +kernel) rfl rfl ?_
            refine w_topi (fun v18 ev18 => ?_)
            refine w_store (ls' := [.ref 0, .int (nI k2), .int b, .int r4, .int v18, .int (nI g5)]) (.istore 4) 51 (by decide +kernel) rfl rfl ?_
            refine w_iincN (z := 5) (g5 + 1) 54 (by decide +kernel) rfl (Nat.le_of_ble_eq_true rfl) rfl rfl ?_
            show Wp _ _ _ [.ref 0, .int (nI k2), .int b, .int r4, .int v18, .int (nI (g5 + 1))] _ _ _ _
            refine w_goto 20 (by decide +kernel) ?_
            exact ih_20 N _ (g5 + 1) hS (by omega) (by omega)
          · skip
            refine w_load (.aload_n 0) 38 (by decide +kernel) rfl rfl ?_
            refine w_getR (k := 11) (r := 67) 41 (by decide +kernel) sh_0 rfl ?_
            refine w_load (.iload 5) 43 (by decide +kernel) rfl rfl ?_
            refine w_ialdN 44 (by decide +kernel) sh_67 (by omega) (by omega) ?_
            refine w_goto 48 (by decide +kernel) ?_
            refine w_pure .iadd 49 (by decide +kernel) rfl rfl ?_
            refine w_topi (fun v19 ev19 => ?_)
            refine w_store (ls' := [.ref 0, .int (nI k2), .int b, .int r4, .int v19, .int (nI g5)]) (.istore 4) 51 (by decide +kernel) rfl rfl ?_
            refine w_iincN (z := 5) (g5 + 1) 54 (by decide +kernel) rfl (Nat.le_of_ble_eq_true rfl) rfl rfl ?_
            show Wp _ _ _ [.ref 0, .int (nI k2), .int b, .int r4, .int v19, .int (nI (g5 + 1))] _ _ _ _
            refine w_goto 20 (by decide +kernel) ?_
            exact ih_20 N _ (g5 + 1) hS (by omega) (by omega)
    exact LP_20 _ N _ 0 hS (by omega) (Nat.lt_succ_self _)
  · skip
    refine w_ine 9 7 (by decide +kernel) (fun hz => absurd hz (by decide)) (fun _ => ?_)
    refine w_push (-1) 8 (by decide +kernel) ?_
    exact w_ret (by decide +kernel) (hq _ N hS trivial)
-- X7_drawTale
set_option maxRecDepth 10000 in
theorem k_131 {d : Nat} {M : Mt} {L : Lt} {Q : Option Value → Mt → Lt → Prop}  (hI : Inv M)  (hd : 0 ≤ d) (hq : ∀ (r : Int32) (N : Mt) (L' : Lt), St (fun i k => (4 ≤ i ∧ i ≤ 63) ∨ i = 68 ∨ i = 69 ∨ (i = 0 ∧ (k = 14 ∨ k = 15))) M N → (∃ n, n < 3 ∧ r = nI n) → Q (some (.int r)) N L') : Wp d 131 0 [.ref 0, .null] [] M L Q := by
  refine (show ∀ (N : Mt) (L : Lt), N = M → St (fun i k => (4 ≤ i ∧ i ≤ 63) ∨ i = 68 ∨ i = 69 ∨ (i = 0 ∧ (k = 14 ∨ k = 15))) M N → Wp d 131 0 [.ref 0, .null] [] N L Q from ?_) M L rfl (St.rf hI)
  intro N L hNM hS
  refine w_load (.aload_n 0) 1 (by decide +kernel) rfl rfl ?_
  refine w_load (.aload_n 0) 2 (by decide +kernel) rfl rfl ?_
  refine w_getL (k := 16) 5 (by decide +kernel) sh_0 rfl ?_
  refine w_pushL (6364136223846793005) 8 (by decide +kernel) ?_
  refine w_pure .lmul 9 (by decide +kernel) rfl rfl ?_
  refine w_pushL (1442695040888963407) 12 (by decide +kernel) ?_
  refine w_pure .ladd 13 (by decide +kernel) rfl rfl ?_
  refine w_putLW (k := 16) 16 (by decide +kernel) sh_0 rfl only0 (fun L => ?_)
  refine w_load (.aload_n 0) 17 (by decide +kernel) rfl rfl ?_
  refine w_getL (k := 16) 20 (by decide +kernel) sh_0 rfl ?_
  refine w_pushN 33 22 (by decide +kernel) ?_
  refine w_pure .lushr 23 (by decide +kernel) rfl rfl ?_
  refine w_pushL (10) 26 (by decide +kernel) ?_
  refine w_lrem 27 (by decide +kernel) (by decide) ?_
  refine w_pure .l2i 28 (by decide +kernel) rfl rfl ?_
  refine w_topi (fun v2 ev2 => ?_)
  refine w_store (ls' := [.ref 0, .int v2]) (.istore_n 1) 29 (by decide +kernel) rfl rfl ?_
  refine w_load (.iload_n 1) 30 (by decide +kernel) rfl rfl ?_
  refine w_load (.aload_n 0) 31 (by decide +kernel) rfl rfl ?_
  refine w_getR (k := 11) (r := 67) 34 (by decide +kernel) sh_0 rfl ?_
  refine w_pushN 0 35 (by decide +kernel) ?_
  refine w_ialdN 36 (by decide +kernel) sh_67 (by omega) (by omega) ?_
  refine w_cge 41 39 (by decide +kernel) (fun h3 => ?_) (fun h3 => ?_)
  · skip
    refine w_load (.iload_n 1) 42 (by decide +kernel) rfl rfl ?_
    refine w_load (.aload_n 0) 43 (by decide +kernel) rfl rfl ?_
    refine w_getR (k := 11) (r := 67) 46 (by decide +kernel) sh_0 rfl ?_
    refine w_pushN 0 47 (by decide +kernel) ?_
    refine w_ialdN 48 (by decide +kernel) sh_67 (by omega) (by omega) ?_
    refine w_load (.aload_n 0) 49 (by decide +kernel) rfl rfl ?_
    refine w_getR (k := 11) (r := 67) 52 (by decide +kernel) sh_0 rfl ?_
    refine w_pushN 1 53 (by decide +kernel) ?_
    refine w_ialdN 54 (by decide +kernel) sh_67 (by omega) (by omega) ?_
    refine w_pure .iadd 55 (by decide +kernel) rfl rfl ?_
    refine w_cge 62 58 (by decide +kernel) (fun h4 => ?_) (fun h4 => ?_)
    · skip
      refine w_pushN 2 63 (by decide +kernel) ?_
      exact w_ret (by decide +kernel) (hq _ N _ hS ⟨_, by decide, rfl⟩)
    · skip
      refine w_pushN 1 59 (by decide +kernel) ?_
      refine w_goto 63 (by decide +kernel) ?_
      exact w_ret (by decide +kernel) (hq _ N _ hS ⟨_, by decide, rfl⟩)
  · skip
    refine w_pushN 0 40 (by decide +kernel) ?_
    exact w_ret (by decide +kernel) (hq _ N _ hS ⟨_, by decide, rfl⟩)
-- X7_nights
set_option maxRecDepth 10000 in
theorem k_106 {d : Nat} {M : Mt} {L : Lt} {Q : Option Value → Mt → Lt → Prop} {a : Int32} (hI : Inv M)  (hd : 6 ≤ d) (hq : ∀ (r : Int32) (N : Mt) (L' : Lt), St (fun i k => (4 ≤ i ∧ i ≤ 63) ∨ i = 68 ∨ i = 69 ∨ (i = 0 ∧ (k = 14 ∨ k = 15))) M N → True → Q (some (.int r)) N L') : Wp d 106 0 [.ref 0, .int a, .null] [] M L Q := by
  refine (show ∀ (N : Mt) (L : Lt), N = M → St (fun i k => (4 ≤ i ∧ i ≤ 63) ∨ i = 68 ∨ i = 69 ∨ (i = 0 ∧ (k = 14 ∨ k = 15))) M N → Wp d 106 0 [.ref 0, .int a, .null] [] N L Q from ?_) M L rfl (St.rf hI)
  intro N L hNM hS
  refine w_load (.iload_n 1) 1 (by decide +kernel) rfl rfl ?_
  refine w_pushN 1 2 (by decide +kernel) ?_
  refine w_clt 11 5 (by decide +kernel) (fun h1 => ?_) (fun h1 => ?_)
  · skip
    refine w_push (-2) 13 (by decide +kernel) ?_
    exact w_ret (by decide +kernel) (hq _ N _ hS trivial)
  · skip
    refine w_load (.iload_n 1) 6 (by decide +kernel) rfl rfl ?_
    refine w_pushN 40 8 (by decide +kernel) ?_
    refine w_cle 14 11 (by decide +kernel) (fun h2 => ?_) (fun h2 => ?_)
    · skip
      obtain ⟨k3, hk3, rfl⟩ := rng_le1 (by assumption) h2 (by decide)
      refine w_load (.aload_n 0) 15 (by decide +kernel) rfl rfl ?_
      refine w_getR (k := 3) (r := 7) 18 (by decide +kernel) sh_0 rfl ?_
      refine w_load (.aload_n 0) 19 (by decide +kernel) rfl rfl ?_
      refine w_getR (k := 2) (r := 4) 22 (by decide +kernel) sh_0 rfl ?_
      refine w_callV1 8 1 2 25 (by decide +kernel) sh_7 (Nat.le_of_ble_eq_true rfl) rfl (by decide) (by omega) ?_
      refine k_8 hS.1 hs_7 hs_4 (by omega) (fun N hT hr4 => ?_)
      have hS := hS.tr hT (by intro i k; first | exact rfl | omega | (dsimp only; omega) | (simp only [Hs, Tl, Sc, isHs, isScr, isTs] at *; omega))
      dsimp only [Option.toList, List.nil_append]
      refine w_pushN 0 26 (by decide +kernel) ?_
      refine w_store (ls' := [.ref 0, .int (nI k3), .int (nI 0)]) (.istore_n 2) 27 (by decide +kernel) rfl rfl ?_
      have LP_27 : ∀ (kk : Nat) (N : Mt) (L : Lt) (g2 : Nat), St (fun i k => (4 ≤ i ∧ i ≤ 63) ∨ i = 68 ∨ i = 69 ∨ (i = 0 ∧ (k = 14 ∨ k = 15))) M N → g2 ≤ 40 → 40 - g2 < kk → Wp d 106 27 [.ref 0, .int (nI k3), .int (nI g2)] [] N L Q := by
        intro kk
        induction kk with
        | zero => intro N L g2 hS hi0_27 hm_27; exact absurd hm_27 (Nat.not_lt_zero _)
        | succ kk ih_27 =>
          intro N L g2 hS hi0_27 hm_27
          refine w_load (.iload_n 2) 28 (by decide +kernel) rfl rfl ?_
          refine w_load (.iload_n 1) 29 (by decide +kernel) rfl rfl ?_
          refine w_cgeN 72 32 (by decide +kernel) (by omega) (by omega) (fun h5 => ?_) (fun h5 => ?_)
          · skip
            refine w_load (.aload_n 0) 73 (by decide +kernel) rfl rfl ?_
            refine w_getR (k := 3) (r := 7) 76 (by decide +kernel) sh_0 rfl ?_
            refine w_callV0 19 1 1 79 (by decide +kernel) sh_7 (Nat.le_of_ble_eq_true rfl)  (by decide) (by omega) ?_
            refine k_19 hS.1 hs_7 (by omega) (fun r6 hr6 => ?_)
            dsimp only [Option.toList, List.cons_append, List.nil_append]
            exact w_ret (by decide +kernel) (hq _ N _ hS trivial)
          · skip
            refine w_load (.aload_n 0) 33 (by decide +kernel) rfl rfl ?_
            refine w_getR (k := 4) (r := 10) 36 (by decide +kernel) sh_0 rfl ?_
            refine w_load (.aload_n 0) 37 (by decide +kernel) rfl rfl ?_
            refine w_getR (k := 3) (r := 7) 40 (by decide +kernel) sh_0 rfl ?_
            refine w_load (.aload_n 0) 41 (by decide +kernel) rfl rfl ?_
            refine w_getR (k := 1) (r := 3) 44 (by decide +kernel) sh_0 rfl ?_
            refine w_load (.aload_n 0) 45 (by decide +kernel) rfl rfl ?_
            refine w_callV0 131 7 2 48 (by decide +kernel) sh_0 (Nat.le_of_ble_eq_true rfl)  (by decide) (by omega) ?_
            refine k_131 hS.1  (by omega) (fun r7 N L hT hr7 => ?_)
            have hS := hS.tr hT (by intro i k; first | exact rfl | omega | (dsimp only; omega) | (simp only [Hs, Tl, Sc, isHs, isScr, isTs] at *; omega))
            dsimp only [Option.toList, List.cons_append, List.nil_append]
            rcases hr7 with ⟨n8, hn8, rfl⟩
            · skip
              refine w_tale 49 (by decide +kernel) (by omega) ?_
              refine w_callV2 68 6 5 52 (by decide +kernel) sh_10 (Nat.le_of_ble_eq_true rfl) rfl rfl (by decide) (by omega) ?_
              refine k_68 hS.1 tl_10 hs_7 (sc_tale n8 (by omega)) (by omega) (fun N hT hr9 => ?_)
              have hS := hS.tr hT (by intro i k; first | exact rfl | omega | (dsimp only; omega) | (simp only [Hs, Tl, Sc, isHs, isScr, isTs] at *; omega))
              dsimp only [Option.toList, List.nil_append]
              refine w_load (.aload_n 0) 53 (by decide +kernel) rfl rfl ?_
              refine w_getR (k := 3) (r := 7) 56 (by decide +kernel) sh_0 rfl ?_
              refine w_load (.aload_n 0) 57 (by decide +kernel) rfl rfl ?_
              refine w_getR (k := 4) (r := 10) 60 (by decide +kernel) sh_0 rfl ?_
              refine w_getR (k := 0) (r := 11) 63 (by decide +kernel) sh_10 rfl ?_
              refine w_callV1 9 1 2 66 (by decide +kernel) sh_7 (Nat.le_of_ble_eq_true rfl) rfl (by decide) (by omega) ?_
              refine k_9 hS.1 hs_7 hs_11 (by omega) (fun N hT hr10 => ?_)
              have hS := hS.tr hT (by intro i k; first | exact rfl | omega | (dsimp only; omega) | (simp only [Hs, Tl, Sc, isHs, isScr, isTs] at *; omega))
              dsimp only [Option.toList, List.nil_append]
              refine w_iincN (z := 2) (g2 + 1) 69 (by decide +kernel) rfl (Nat.le_of_ble_eq_true rfl) rfl rfl ?_
              show Wp _ _ _ [.ref 0, .int (nI k3), .int (nI (g2 + 1))] _ _ _ _
              refine w_goto 27 (by decide +kernel) ?_
              exact ih_27 N _ (g2 + 1) hS (by omega) (by omega)
      exact LP_27 _ N _ 0 hS (by omega) (Nat.lt_succ_self _)
    · skip
      refine w_push (-2) 13 (by decide +kernel) ?_
      exact w_ret (by decide +kernel) (hq _ N _ hS trivial)
-- X7_keep
set_option maxRecDepth 10000 in
theorem k_107 {d : Nat} {M : Mt} {L : Lt} {Q : Option Value → Mt → Lt → Prop} {a : Int32} (hI : Inv M)  (hd : 2 ≤ d) (hq : ∀ (r : Int32) (N : Mt), St (fun i k => (4 ≤ i ∧ i ≤ 63) ∨ i = 68 ∨ i = 69 ∨ (i = 0 ∧ (k = 14 ∨ k = 15))) M N → True → Q (some (.int r)) N L) : Wp d 107 0 [.ref 0, .int a] [] M L Q := by
  refine (show ∀ N : Mt, N = M → St (fun i k => (4 ≤ i ∧ i ≤ 63) ∨ i = 68 ∨ i = 69 ∨ (i = 0 ∧ (k = 14 ∨ k = 15))) M N → Wp d 107 0 [.ref 0, .int a] [] N L Q from ?_) M rfl (St.rf hI)
  intro N hNM hS
  refine w_load (.iload_n 1) 1 (by decide +kernel) rfl rfl ?_
  refine w_callS1 112 1 4 (by decide +kernel) (Nat.le_of_ble_eq_true rfl) rfl (by decide) (by omega) ?_
  refine k_112 hS.1  (by omega) (fun r1 hr1 => ?_)
  dsimp only [Option.toList, List.cons_append, List.nil_append]
  rcases hr1 with ⟨rfl, k2, hk2, rfl⟩ | ⟨rfl, hnok2⟩
  · skip
    refine w_ine 9 7 (by decide +kernel) (fun _ => ?_) (fun hz => absurd hz (by decide))
    refine w_load (.aload_n 0) 10 (by decide +kernel) rfl rfl ?_
    refine w_getR (k := 8) (r := 60) 13 (by decide +kernel) sh_0 rfl ?_
    refine w_load (.iload_n 1) 14 (by decide +kernel) rfl rfl ?_
    refine w_load (.aload_n 0) 15 (by decide +kernel) rfl rfl ?_
    refine w_getR (k := 2) (r := 4) 18 (by decide +kernel) sh_0 rfl ?_
    refine w_callV2 55 4 3 21 (by decide +kernel) sh_60 (Nat.le_of_ble_eq_true rfl) rfl rfl (by decide) (by omega) ?_
    refine k_55 hS.1 shf_60 (by decide) (by omega) hs_4 (by omega) (fun N hT hr4 => ?_)
    have hS := hS.tr hT (by intro i k; first | exact rfl | omega | (dsimp only; omega) | (simp only [Hs, Tl, Sc, isHs, isScr, isTs] at *; omega))
    dsimp only [Option.toList, List.nil_append]
    refine w_load (.aload_n 0) 22 (by decide +kernel) rfl rfl ?_
    refine w_pure .dup 23 (by decide +kernel) rfl rfl ?_
    refine w_getI (k := 15) 26 (by decide +kernel) sh_0 rfl ?_
    refine w_pushN 1 27 (by decide +kernel) ?_
    refine w_load (.iload_n 1) 28 (by decide +kernel) rfl rfl ?_
    refine w_pure .ishl 29 (by decide +kernel) rfl rfl ?_
    refine w_pure .ior 30 (by decide +kernel) rfl rfl ?_
    refine w_putW (k := 15) 33 (by decide +kernel) sh_0 rfl hS (rg_0 (by decide)) (by first | exact rfl | omega | (dsimp only; omega) | (simp only [Hs, Tl, Sc, isHs, isScr, isTs] at *; omega)) (fun N hS hq5 oq5 => ?_)
    refine w_load (.aload_n 0) 34 (by decide +kernel) rfl rfl ?_
    refine w_getR (k := 2) (r := 4) 37 (by decide +kernel) sh_0 rfl ?_
    refine w_callV0 19 1 1 40 (by decide +kernel) sh_4 (Nat.le_of_ble_eq_true rfl)  (by decide) (by omega) ?_
    refine k_19 hS.1 hs_4 (by omega) (fun r6 hr6 => ?_)
    dsimp only [Option.toList, List.cons_append, List.nil_append]
    refine w_callS1 200 1 43 (by decide +kernel) (Nat.le_of_ble_eq_true rfl) rfl (by decide) (by omega) ?_
    refine k_200 hS.1  (by omega) (fun r7 hr7 => ?_)
    dsimp only [Option.toList, List.cons_append, List.nil_append]
    exact w_ret (by decide +kernel) (hq _ N hS trivial)
  · skip
    refine w_ine 9 7 (by decide +kernel) (fun hz => absurd hz (by decide)) (fun _ => ?_)
    refine w_push (-1) 8 (by decide +kernel) ?_
    exact w_ret (by decide +kernel) (hq _ N hS trivial)
-- X7_again
set_option maxRecDepth 10000 in
theorem k_108 {d : Nat} {M : Mt} {L : Lt} {Q : Option Value → Mt → Lt → Prop} {a : Int32} (hI : Inv M)  (hd : 2 ≤ d) (hq : ∀ (r : Int32) (N : Mt), St (fun i k => (4 ≤ i ∧ i ≤ 63) ∨ i = 68 ∨ i = 69 ∨ (i = 0 ∧ (k = 14 ∨ k = 15))) M N → True → Q (some (.int r)) N L) : Wp d 108 0 [.ref 0, .int a] [] M L Q := by
  refine (show ∀ N : Mt, N = M → St (fun i k => (4 ≤ i ∧ i ≤ 63) ∨ i = 68 ∨ i = 69 ∨ (i = 0 ∧ (k = 14 ∨ k = 15))) M N → Wp d 108 0 [.ref 0, .int a] [] N L Q from ?_) M rfl (St.rf hI)
  intro N hNM hS
  refine w_load (.iload_n 1) 1 (by decide +kernel) rfl rfl ?_
  refine w_callS1 112 1 4 (by decide +kernel) (Nat.le_of_ble_eq_true rfl) rfl (by decide) (by omega) ?_
  refine k_112 hS.1  (by omega) (fun r1 hr1 => ?_)
  dsimp only [Option.toList, List.cons_append, List.nil_append]
  rcases hr1 with ⟨rfl, k2, hk2, rfl⟩ | ⟨rfl, hnok2⟩
  · skip
    refine w_ine 9 7 (by decide +kernel) (fun _ => ?_) (fun hz => absurd hz (by decide))
    refine w_load (.aload_n 0) 10 (by decide +kernel) rfl rfl ?_
    refine w_getI (k := 15) 13 (by decide +kernel) sh_0 rfl ?_
    refine w_load (.iload_n 1) 14 (by decide +kernel) rfl rfl ?_
    refine w_callS2 115 2 17 (by decide +kernel) (Nat.le_of_ble_eq_true rfl) rfl rfl (by decide) (by omega) ?_
    refine k_115 hS.1  (by omega) (fun r4 hr4 => ?_)
    dsimp only [Option.toList, List.cons_append, List.nil_append]
    refine w_ine 23 20 (by decide +kernel) (fun h5 => ?_) (fun h5 => ?_)
    · skip
      refine w_load (.aload_n 0) 24 (by decide +kernel) rfl rfl ?_
      refine w_getR (k := 8) (r := 60) 27 (by decide +kernel) sh_0 rfl ?_
      refine w_load (.iload_n 1) 28 (by decide +kernel) rfl rfl ?_
      refine w_load (.aload_n 0) 29 (by decide +kernel) rfl rfl ?_
      refine w_getR (k := 2) (r := 4) 32 (by decide +kernel) sh_0 rfl ?_
      refine w_callV2 56 4 3 35 (by decide +kernel) sh_60 (Nat.le_of_ble_eq_true rfl) rfl rfl (by decide) (by omega) ?_
      refine k_56 hS.1 shf_60 (by decide) (by omega) hs_4 (by omega) (fun N hT hr6 => ?_)
      have hS := hS.tr hT (by intro i k; first | exact rfl | omega | (dsimp only; omega) | (simp only [Hs, Tl, Sc, isHs, isScr, isTs] at *; omega))
      dsimp only [Option.toList, List.nil_append]
      refine w_load (.aload_n 0) 36 (by decide +kernel) rfl rfl ?_
      refine w_pushN 0 37 (by decide +kernel) ?_
      refine w_putW (k := 14) 40 (by decide +kernel) sh_0 rfl hS (rg_acts (by omega)) (by first | exact rfl | omega | (dsimp only; omega) | (simp only [Hs, Tl, Sc, isHs, isScr, isTs] at *; omega)) (fun N hS hq7 oq7 => ?_)
      refine w_load (.aload_n 0) 41 (by decide +kernel) rfl rfl ?_
      refine w_getR (k := 2) (r := 4) 44 (by decide +kernel) sh_0 rfl ?_
      refine w_callV0 19 1 1 47 (by decide +kernel) sh_4 (Nat.le_of_ble_eq_true rfl)  (by decide) (by omega) ?_
      refine k_19 hS.1 hs_4 (by omega) (fun r8 hr8 => ?_)
      dsimp only [Option.toList, List.cons_append, List.nil_append]
      refine w_callS1 200 1 50 (by decide +kernel) (Nat.le_of_ble_eq_true rfl) rfl (by decide) (by omega) ?_
      refine k_200 hS.1  (by omega) (fun r9 hr9 => ?_)
      dsimp only [Option.toList, List.cons_append, List.nil_append]
      exact w_ret (by decide +kernel) (hq _ N hS trivial)
    · skip
      refine w_push (-3) 22 (by decide +kernel) ?_
      exact w_ret (by decide +kernel) (hq _ N hS trivial)
  · skip
    refine w_ine 9 7 (by decide +kernel) (fun hz => absurd hz (by decide)) (fun _ => ?_)
    refine w_push (-1) 8 (by decide +kernel) ?_
    exact w_ret (by decide +kernel) (hq _ N hS trivial)
-- X7_lettersOfTales
set_option maxRecDepth 10000 in
theorem k_132 {d : Nat} {M : Mt} {L : Lt} {Q : Option Value → Mt → Lt → Prop}  (hI : Inv M)  (hd : 1 ≤ d) (hq : ∀ (r : Int32), True → Q (some (.int r)) M L) : Wp d 132 0 [.ref 0, .null, .null] [] M L Q := by
  refine w_pushN 0 1 (by decide +kernel) ?_
  refine w_store (ls' := [.ref 0, .int (nI 0), .null]) (.istore_n 1) 2 (by decide +kernel) rfl rfl ?_
  refine w_pushN 0 3 (by decide +kernel) ?_
  refine w_store (ls' := [.ref 0, .int (nI 0), .int (nI 0)]) (.istore_n 2) 4 (by decide +kernel) rfl rfl ?_
  have LP_4 : ∀ (kk : Nat) (x1_4 : Int32) (g2 : Nat), g2 ≤ 3 → 3 - g2 < kk → Wp d 132 4 [.ref 0, .int x1_4, .int (nI g2)] [] M L Q := by
    intro kk
    induction kk with
    | zero => intro x1_4 g2 hi0_4 hm_4; exact absurd hm_4 (Nat.not_lt_zero _)
    | succ kk ih_4 =>
      intro x1_4 g2 hi0_4 hm_4
      refine w_load (.iload_n 2) 5 (by decide +kernel) rfl rfl ?_
      refine w_load (.aload_n 0) 6 (by decide +kernel) rfl rfl ?_
      refine w_getR (k := 1) (r := 3) 9 (by decide +kernel) sh_0 rfl ?_
      refine w_alen (nI 3) 10 (by decide +kernel) sh_3 (by decide) (by first | rfl | simp [nI]) ?_
      refine w_cgeN 31 13 (by decide +kernel) (by omega) (by omega) (fun h1 => ?_) (fun h1 => ?_)
      · skip
        refine w_load (.iload_n 1) 32 (by decide +kernel) rfl rfl ?_
        exact w_ret (by decide +kernel) (hq _ trivial)
      · skip
        refine w_load (.iload_n 1) 14 (by decide +kernel) rfl rfl ?_
        refine w_load (.aload_n 0) 15 (by decide +kernel) rfl rfl ?_
        refine w_getR (k := 1) (r := 3) 18 (by decide +kernel) sh_0 rfl ?_
        refine w_load (.iload_n 2) 19 (by decide +kernel) rfl rfl ?_
        refine w_tale 20 (by decide +kernel) (by omega) ?_
        refine w_callV0 36 2 1 23 (by decide +kernel) (sc_tale g2 (by omega)).1.1 (Nat.le_of_ble_eq_true rfl)  (by decide) (by omega) ?_
        obtain ⟨n2, hn2, en2⟩ := inv_s hI (sc_tale g2 (by omega))
        refine k_36 hI (sc_tale g2 (by omega)) (by omega) en2 (by omega) (fun r3 hr3 => ?_)
        dsimp only [Option.toList, List.cons_append, List.nil_append]
        rcases hr3 with rfl
        · skip
          refine w_pure .iadd 24 (by decide +kernel) rfl rfl ?_
          refine w_topi (fun v4 ev4 => ?_)
          refine w_store (ls' := [.ref 0, .int v4, .int (nI g2)]) (.istore_n 1) 25 (by decide +kernel) rfl rfl ?_
          refine w_iincN (z := 2) (g2 + 1) 28 (by decide +kernel) rfl (Nat.le_of_ble_eq_true rfl) rfl rfl ?_
          show Wp _ _ _ [.ref 0, .int v4, .int (nI (g2 + 1))] _ _ _ _
          refine w_goto 4 (by decide +kernel) ?_
          exact ih_4 _ (g2 + 1) (by omega) (by omega)
  exact LP_4 _ _ 0 (by omega) (Nat.lt_succ_self _)
-- X7_count
set_option maxRecDepth 10000 in
theorem k_109 {d : Nat} {M : Mt} {L : Lt} {Q : Option Value → Mt → Lt → Prop} {a : Int32} (hI : Inv M)  (hd : 2 ≤ d) (hq : ∀ (r : Int32), True → Q (some (.int r)) M L) : Wp d 109 0 [.ref 0, .int a] [] M L Q := by
  refine w_load (.iload_n 1) 1 (by decide +kernel) rfl rfl ?_
  refine w_tab (show insAt 109 1 = some (.tableswitch 133 0 9 #[55, 63, 71, 79, 87, 95, 107, 112, 120, 128]) by decide +kernel) (fun h1 => ⟨134, rfl, ?_⟩) (fun z2 h1 h1b => ?_)
  · skip
    refine w_push (-2) 136 (by decide +kernel) ?_
    exact w_ret (by decide +kernel) (hq _ trivial)
  · rcases (by omega : z2 = 0 ∨ z2 = 1 ∨ z2 = 2 ∨ z2 = 3 ∨ z2 = 4 ∨ z2 = 5 ∨ z2 = 6 ∨ z2 = 7 ∨ z2 = 8 ∨ z2 = 9) with rfl | rfl | rfl | rfl | rfl | rfl | rfl | rfl | rfl | rfl
    · refine ⟨_, 56, rfl, rfl, ?_⟩
      refine w_load (.aload_n 0) 57 (by decide +kernel) rfl rfl ?_
      refine w_getR (k := 0) (r := 1) 60 (by decide +kernel) sh_0 rfl ?_
      refine w_callV0 36 2 1 63 (by decide +kernel) sh_1 (Nat.le_of_ble_eq_true rfl)  (by decide) (by omega) ?_
      obtain ⟨n3, hn3, en3⟩ := inv_s hI sc_1
      refine k_36 hI sc_1 (by omega) en3 (by omega) (fun r4 hr4 => ?_)
      dsimp only [Option.toList, List.cons_append, List.nil_append]
      rcases hr4 with rfl
      · skip
        exact w_ret (by decide +kernel) (hq _ trivial)
    · refine ⟨_, 64, rfl, rfl, ?_⟩
      refine w_load (.aload_n 0) 65 (by decide +kernel) rfl rfl ?_
      refine w_getR (k := 2) (r := 4) 68 (by decide +kernel) sh_0 rfl ?_
      refine w_callV0 10 1 1 71 (by decide +kernel) sh_4 (Nat.le_of_ble_eq_true rfl)  (by decide) (by omega) ?_
      refine k_10 hI hs_4 (by omega) (fun r5 hr5 => ?_)
      dsimp only [Option.toList, List.cons_append, List.nil_append]
      exact w_ret (by decide +kernel) (hq _ trivial)
    · refine ⟨_, 72, rfl, rfl, ?_⟩
      refine w_load (.aload_n 0) 73 (by decide +kernel) rfl rfl ?_
      refine w_getR (k := 2) (r := 4) 76 (by decide +kernel) sh_0 rfl ?_
      refine w_callV0 21 1 1 79 (by decide +kernel) sh_4 (Nat.le_of_ble_eq_true rfl)  (by decide) (by omega) ?_
      refine k_21 hI hs_4 (by omega) (fun r6 hr6 => ?_)
      dsimp only [Option.toList, List.cons_append, List.nil_append]
      exact w_ret (by decide +kernel) (hq _ trivial)
    · refine ⟨_, 80, rfl, rfl, ?_⟩
      refine w_load (.aload_n 0) 81 (by decide +kernel) rfl rfl ?_
      refine w_getR (k := 2) (r := 4) 84 (by decide +kernel) sh_0 rfl ?_
      refine w_callV0 19 1 1 87 (by decide +kernel) sh_4 (Nat.le_of_ble_eq_true rfl)  (by decide) (by omega) ?_
      refine k_19 hI hs_4 (by omega) (fun r7 hr7 => ?_)
      dsimp only [Option.toList, List.cons_append, List.nil_append]
      exact w_ret (by decide +kernel) (hq _ trivial)
    · refine ⟨_, 88, rfl, rfl, ?_⟩
      refine w_load (.aload_n 0) 89 (by decide +kernel) rfl rfl ?_
      refine w_getR (k := 2) (r := 4) 92 (by decide +kernel) sh_0 rfl ?_
      refine w_callV0 22 1 3 95 (by decide +kernel) sh_4 (Nat.le_of_ble_eq_true rfl)  (by decide) (by omega) ?_
      refine k_22 hI hs_4 (by omega) (fun r8 hr8 => ?_)
      dsimp only [Option.toList, List.cons_append, List.nil_append]
      exact w_ret (by decide +kernel) (hq _ trivial)
    · refine ⟨_, 96, rfl, rfl, ?_⟩
      refine w_load (.aload_n 0) 97 (by decide +kernel) rfl rfl ?_
      refine w_getR (k := 2) (r := 4) 100 (by decide +kernel) sh_0 rfl ?_
      refine w_callV0 23 1 3 103 (by decide +kernel) sh_4 (Nat.le_of_ble_eq_true rfl)  (by decide) (by omega) ?_
      refine k_23 hI hs_4 (by omega) (fun r9 hr9 => ?_)
      dsimp only [Option.toList, List.cons_append, List.nil_append]
      refine w_pushN 1000 106 (by decide +kernel) ?_
      refine w_pure .iadd 107 (by decide +kernel) rfl rfl ?_
      exact w_ret (by decide +kernel) (hq _ trivial)
    · refine ⟨_, 108, rfl, rfl, ?_⟩
      refine w_load (.aload_n 0) 109 (by decide +kernel) rfl rfl ?_
      refine w_getN (B := 12) (k := 14) 112 (by decide +kernel) sh_0 rfl (inv_acts hI) (fun n10 hn10 en10 => ?_)
      exact w_ret (by decide +kernel) (hq _ trivial)
    · refine ⟨_, 113, rfl, rfl, ?_⟩
      refine w_load (.aload_n 0) 114 (by decide +kernel) rfl rfl ?_
      refine w_getR (k := 10) (r := 64) 117 (by decide +kernel) sh_0 rfl ?_
      refine w_getN (B := 6) (k := 2) 120 (by decide +kernel) sh_64 rfl (inv_sz hI) (fun n11 hn11 en11 => ?_)
      exact w_ret (by decide +kernel) (hq _ trivial)
    · refine ⟨_, 121, rfl, rfl, ?_⟩
      refine w_load (.aload_n 0) 122 (by decide +kernel) rfl rfl ?_
      refine w_getR (k := 2) (r := 4) 125 (by decide +kernel) sh_0 rfl ?_
      refine w_callV0 25 1 3 128 (by decide +kernel) sh_4 (Nat.le_of_ble_eq_true rfl)  (by decide) (by omega) ?_
      refine k_25 hI hs_4 (by omega) (fun r12 hr12 => ?_)
      dsimp only [Option.toList, List.cons_append, List.nil_append]
      exact w_ret (by decide +kernel) (hq _ trivial)
    · refine ⟨_, 129, rfl, rfl, ?_⟩
      refine w_load (.aload_n 0) 130 (by decide +kernel) rfl rfl ?_
      refine w_callV0 132 7 3 133 (by decide +kernel) sh_0 (Nat.le_of_ble_eq_true rfl)  (by decide) (by omega) ?_
      refine k_132 hI  (by omega) (fun r13 hr13 => ?_)
      dsimp only [Option.toList, List.cons_append, List.nil_append]
      exact w_ret (by decide +kernel) (hq _ trivial)
-- X7_seed
set_option maxRecDepth 10000 in
theorem k_105 {d : Nat} {M : Mt} {L : Lt} {Q : Option Value → Mt → Lt → Prop} {v : Int64} (hI : Inv M)  (hd : 0 ≤ d) (hq : ∀ (r : Int64) (N : Mt) (L' : Lt), St (fun i k => (4 ≤ i ∧ i ≤ 63) ∨ i = 68 ∨ i = 69 ∨ (i = 0 ∧ (k = 14 ∨ k = 15))) M N → True → Q (some (.long r)) N L') : Wp d 105 0 [.ref 0, .long v, .null, .null, .null] [] M L Q := by
  refine (show ∀ (N : Mt) (L : Lt), N = M → St (fun i k => (4 ≤ i ∧ i ≤ 63) ∨ i = 68 ∨ i = 69 ∨ (i = 0 ∧ (k = 14 ∨ k = 15))) M N → Wp d 105 0 [.ref 0, .long v, .null, .null, .null] [] N L Q from ?_) M L rfl (St.rf hI)
  intro N L hNM hS
  refine w_load (.aload_n 0) 1 (by decide +kernel) rfl rfl ?_
  refine w_getL (k := 16) 4 (by decide +kernel) sh_0 rfl ?_
  refine w_topl (fun v1 ev1 => ?_)
  refine w_store (ls' := [.ref 0, .long v, .null, .long v1, .null]) (.lstore_n 3) 5 (by decide +kernel) rfl rfl ?_
  refine w_load (.aload_n 0) 6 (by decide +kernel) rfl rfl ?_
  refine w_load (.lload_n 1) 7 (by decide +kernel) rfl rfl ?_
  refine w_putLW (k := 16) 10 (by decide +kernel) sh_0 rfl only0 (fun L => ?_)
  refine w_load (.lload_n 3) 11 (by decide +kernel) rfl rfl ?_
  exact w_retL (by decide +kernel) (hq _ N _ hS trivial)
end
section
/-! what the reference's walks need -/
theorem rg_76 {k : Nat} {x : Int32} (hk : k ≠ 0 ∧ k ≠ 4 ∧ k ≠ 9 ∧ k ≠ 15) : Rg 76 k x := by
  refine ⟨fun a => ?_, fun a => ?_, fun a => ?_, fun a => ?_, fun _ => ⟨fun a => absurd a hk.1, fun a => absurd a hk.2.1, fun a => absurd a hk.2.2.1, fun a => absurd a hk.2.2.2⟩, fun a => ?_, fun a => ?_, fun a => ?_, fun a => ?_, fun a => ?_, fun a => ?_⟩ <;> (exfalso; (try unfold isHs at a); (try unfold isScr at a); omega)
theorem rg_76n {k n B : Nat} (hn : n ≤ B) (hk : (k = 0 ∧ B = 5) ∨ (k = 4 ∧ B = 24) ∨ (k = 9 ∧ B = 11) ∨ (k = 15 ∧ B = 6)) : Rg 76 k (nI n) := by
  refine ⟨fun a => ?_, fun a => ?_, fun a => ?_, fun a => ?_, fun _ => ⟨fun a => ⟨n, by omega, rfl⟩, fun a => ⟨n, by omega, rfl⟩, fun a => ⟨n, by omega, rfl⟩, fun a => ⟨n, by omega, rfl⟩⟩, fun a => ?_, fun a => ?_, fun a => ?_, fun a => ?_, fun a => ?_, fun a => ?_⟩ <;> (exfalso; (try unfold isHs at a); (try unfold isScr at a); omega)
theorem rg_81 {k n : Nat} (hn : n ≤ 24) : Rg 81 k (nI n) := by
  refine ⟨fun a => ?_, fun a => ?_, fun a => ?_, fun a => ?_, fun a => ?_, fun _ => ⟨n, hn, rfl⟩, fun a => ?_, fun a => ?_, fun a => ?_, fun a => ?_, fun a => ?_⟩ <;> (exfalso; (try unfold isHs at a); (try unfold isScr at a); omega)
theorem rg_86 {k n : Nat} (hn : n ≤ 4) : Rg 86 k (nI n) := by
  refine ⟨fun a => ?_, fun a => ?_, fun a => ?_, fun a => ?_, fun a => ?_, fun a => ?_, fun _ => ⟨n, hn, rfl⟩, fun a => ?_, fun a => ?_, fun a => ?_, fun a => ?_⟩ <;> (exfalso; (try unfold isHs at a); (try unfold isScr at a); omega)
theorem rg_85 {k n : Nat} (hn : n ≤ 10) : Rg 85 k (nI n) := by
  refine ⟨fun a => ?_, fun a => ?_, fun a => ?_, fun a => ?_, fun a => ?_, fun a => ?_, fun a => ?_, fun _ => ⟨n, hn, rfl⟩, fun a => ?_, fun a => ?_, fun a => ?_⟩ <;> (exfalso; (try unfold isHs at a); (try unfold isScr at a); omega)
theorem rg_78 {k : Nat} {x : Int32} (h : 10 ≤ k % 22 → k % 22 ≤ 14 → wedv x) : Rg 78 k x := by
  refine ⟨fun a => ?_, fun a => ?_, fun a => ?_, fun a => ?_, fun a => ?_, fun a => ?_, fun a => ?_, fun a => ?_, fun _ => h, fun a => ?_, fun a => ?_⟩ <;> (exfalso; (try unfold isHs at a); (try unfold isScr at a); omega)
theorem rg_82 {k : Nat} {x : Int32} (h : 10 ≤ k % 17 → k % 17 ≤ 14 → wedv x) : Rg 82 k x := by
  refine ⟨fun a => ?_, fun a => ?_, fun a => ?_, fun a => ?_, fun a => ?_, fun a => ?_, fun a => ?_, fun a => ?_, fun a => ?_, fun _ => h, fun a => ?_⟩ <;> (exfalso; (try unfold isHs at a); (try unfold isScr at a); omega)
theorem rg_89 {k : Nat} {x : Int32} (h : 10 ≤ k % 17 → k % 17 ≤ 14 → wedv x) : Rg 89 k x := by
  refine ⟨fun a => ?_, fun a => ?_, fun a => ?_, fun a => ?_, fun a => ?_, fun a => ?_, fun a => ?_, fun a => ?_, fun a => ?_, fun a => ?_, fun _ => h⟩ <;> (exfalso; (try unfold isHs at a); (try unfold isScr at a); omega)
theorem inv_82 {M : Mt} (hI : Inv M) (k : Nat) (h1 : 10 ≤ k % 17) (h2 : k % 17 ≤ 14) : wedv (M 82 k) := (hI 82 k).2.2.2.2.2.2.2.2.2.1 rfl h1 h2
theorem inv_89 {M : Mt} (hI : Inv M) (k : Nat) (h1 : 10 ≤ k % 17) (h2 : k % 17 ≤ 14) : wedv (M 89 k) := (hI 89 k).2.2.2.2.2.2.2.2.2.2 rfl h1 h2
/-- bit k of a -/
def hb (a : Int32) (k : Nat) : Prop := (a >>> (nI k &&& 31)) &&& nI 1 = nI 1
theorem and1 (x : Int32) : x &&& nI 1 = nI 0 ∨ x &&& nI 1 = nI 1 := by
  obtain ⟨j, h1, h2⟩ := pk_andE x (m := nI 1) 1 (by decide)
  rw [h2]
  rcases (by omega : j = 0 ∨ j = 1) with rfl | rfl
  · exact Or.inl rfl
  · exact Or.inr rfl
theorem or_0 (x : Int32) : x ||| nI 0 = x := by
  have : nI 0 = 0 := rfl
  rw [this]
  exact Int32.or_zero
def tb (x : Int32) (i : Nat) : Bool := x.toBitVec.getLsbD i
theorem hb_iff (a : Int32) {k : Nat} (hk : k < 32) : hb a k ↔ tb a k = true := by
  have key : ((a >>> (nI k &&& 31)) &&& nI 1).toBitVec = (BitVec.ofBool (tb a k)).setWidth 32 := by
    apply BitVec.eq_of_getLsbD_eq
    intro i hi
    have hs : ((nI k &&& 31).toBitVec.smod 32).toNat = k := (by decide +kernel : ∀ k, k < 32 → ((nI k &&& 31).toBitVec.smod 32).toNat = k) k hk
    have h1 : (nI 1).toBitVec.getLsbD i = decide (i = 0) := by
      match i with
      | 0 => rfl
      | i + 1 =>
        have : (nI 1).toBitVec = 1#32 := rfl
        rw [this]
        simp
    rw [Int32.toBitVec_and, BitVec.getLsbD_and, h1]
    have h2 : (a >>> (nI k &&& 31)).toBitVec = a.toBitVec.sshiftRight k := by
      show a.toBitVec.sshiftRight' ((nI k &&& 31).toBitVec.smod 32) = _
      rw [BitVec.sshiftRight', hs]
    rw [h2]
    by_cases hi0 : i = 0
    · subst hi0
      have h3 : (a.toBitVec.sshiftRight k).getLsbD 0 = tb a k := by
        rw [BitVec.getLsbD_sshiftRight]
        simp [tb, hk]
      rw [h3]
      cases tb a k <;> rfl
    · simp [hi0]
  unfold hb
  constructor
  · intro h
    rw [h] at key
    cases hc : tb a k with
    | true => rfl
    | false =>
      rw [hc] at key
      exact absurd key (by decide)
  · intro h
    rw [h] at key
    apply Int32.toBitVec_inj.mp
    rw [key]
    decide
theorem hb_bit (a : Int32) {g : Nat} (hg : g < 5) : hb (a ||| (nI 1 <<< (nI g &&& 31))) g := by
  rw [hb_iff _ (by omega)]
  unfold tb
  rw [Int32.toBitVec_or, BitVec.getLsbD_or]
  have : (nI 1 <<< (nI g &&& 31)).toBitVec.getLsbD g = true := by
    rcases (by omega : g = 0 ∨ g = 1 ∨ g = 2 ∨ g = 3 ∨ g = 4) with rfl | rfl | rfl | rfl | rfl <;> decide
  rw [this, Bool.or_true]
/-- no bit, or one of the first five -/
def bits5 (x : Int32) : Prop := x = 0 ∨ ∃ k, k < 5 ∧ hb x k
theorem bits5_or {x : Int32} {g : Nat} (hg : g < 5) : bits5 (x ||| (nI 1 <<< (nI g &&& 31))) := Or.inr ⟨g, hg, hb_bit x hg⟩
theorem no_least {x : Int32} (h1 : bits5 x) (h2 : ¬ x = 0) (h3 : ∀ k, k < 5 → ¬ hb x k) : False := by
  rcases h1 with h | ⟨k, hk, h⟩
  · exact h2 h
  · exact h3 k hk h
theorem cmp_lt {x y : Int64} (h : ¬ lg_cmp x y < 0) : y ≤ x := by
  unfold lg_cmp at h
  by_cases h1 : x > y
  · exact Int64.le_of_lt h1
  · rw [if_neg h1] at h
    by_cases h2 : x = y
    · rw [h2]; exact Int64.le_refl _
    · rw [if_neg h2] at h
      exact absurd (by decide : (-1 : Int32) < 0) h
theorem cmp_gt {x y : Int64} (h : ¬ 0 < lg_cmp x y) : x ≤ y := by
  unfold lg_cmp at h
  by_cases h1 : x > y
  · rw [if_pos h1] at h
    exact absurd (by decide : (0 : Int32) < 1) h
  · exact Int64.not_lt.mp h1
theorem cmp_lt' {x y : Int64} (h : lg_cmp x y < 0) : ¬ y ≤ x := by
  unfold lg_cmp at h
  by_cases h1 : x > y
  · rw [if_pos h1] at h
    exact absurd h (by decide)
  · rw [if_neg h1] at h
    by_cases h2 : x = y
    · rw [if_pos h2] at h
      exact absurd h (by decide)
    · intro h3
      have a1 := Int64.le_iff_toInt_le.mp h3
      have a2 := Int64.le_iff_toInt_le.mp (Int64.not_lt.mp h1)
      exact h2 (Int64.toInt_inj.mp (by omega))
theorem cmp_gt' {x y : Int64} (h : 0 < lg_cmp x y) : ¬ x ≤ y := by
  unfold lg_cmp at h
  by_cases h1 : x > y
  · exact Int64.not_le.mpr h1
  · rw [if_neg h1] at h
    by_cases h2 : x = y
    · rw [if_pos h2] at h
      exact absurd h (by decide)
    · rw [if_neg h2] at h
      exact absurd h (by decide)
theorem in_k {x : Int32} {y z : Int64} {lo hi : Nat} (h1 : y ≤ x.toInt64) (h2 : x.toInt64 ≤ z) (hk : y.toInt = lo ∧ z.toInt = hi ∧ hi < 2 ^ 31) : ∃ k, lo ≤ k ∧ k ≤ hi ∧ x = nI k := by
  have a1 := Int64.le_iff_toInt_le.mp h1
  have a2 := Int64.le_iff_toInt_le.mp h2
  rw [Int32.toInt_toInt64] at a1 a2
  refine ⟨x.toInt.toNat, by omega, by omega, ?_⟩
  apply Int32.toInt_inj.mp
  rw [nI_toInt (by omega)]
  omega
theorem in_no {x : Int32} {y z : Int64} {B : Nat} (h : ¬ (y ≤ x.toInt64 ∧ x.toInt64 ≤ z)) (hk : y.toInt = 0 ∧ z.toInt + 1 = B ∧ B < 2 ^ 31) : ¬ ∃ k, k < B ∧ x = nI k := by
  rintro ⟨k, hk2, rfl⟩
  apply h
  have e := nI_toInt (show k < 2 ^ 31 by omega)
  constructor
  · apply Int64.le_iff_toInt_le.mpr
    rw [Int32.toInt_toInt64]; omega
  · apply Int64.le_iff_toInt_le.mpr
    rw [Int32.toInt_toInt64]; omega
theorem isg_k {x : Int32} {n : Nat} {y : Int64} (h1 : y ≤ x.toInt64) (h2 : x.toInt64 ≤ (nI n - nI 1).toInt64) (hn : n ≤ 5) (hy : y.toInt = 0) : ∃ k, k < 5 ∧ x = nI k := by
  have a1 := Int64.le_iff_toInt_le.mp h1
  have a2 := Int64.le_iff_toInt_le.mp h2
  rw [Int32.toInt_toInt64] at a1 a2
  rw [Int32.toInt_toInt64, pk_sub_toInt (by omega) (by omega)] at a2
  refine ⟨x.toInt.toNat, by omega, ?_⟩
  apply Int32.toInt_inj.mp
  rw [nI_toInt (by omega)]
  omega
theorem lt_ext {P : Nat → Prop} {g : Nat} (h : ∀ z, z < g → P z) (h2 : P g) : ∀ z, z < g + 1 → P z := by
  intro z hz
  by_cases hz2 : z < g
  · exact h z hz2
  · have : z = g := by omega
    rw [this]; exact h2
theorem nI_nz {n : Nat} (h : 0 < n) (h2 : n < 2 ^ 31) : ¬ nI n = 0 := by
  intro e
  have h3 := nI_toInt h2
  rw [e] at h3
  have h4 : (0 : Int32).toInt = 0 := by decide
  omega
theorem dec_mu0 {y : Int32} (h : ¬ y < 0) : ((y + Int32.ofInt (-1)).toInt + 1).toNat < (y.toInt + 1).toNat := by
  have h1 : 0 ≤ y.toInt := by
    have h2 := Int32.not_lt.mp h
    have h3 := Int32.le_iff_toInt_le.mp h2
    have h4 : (0 : Int32).toInt = 0 := by decide
    omega
  have h5 : (y + Int32.ofInt (-1)).toInt = y.toInt - 1 := by
    rw [Int32.toInt_add]
    have h6 : (Int32.ofInt (-1)).toInt = -1 := by decide
    have h7 := Int32.toInt_lt y
    have h8 := Int32.le_toInt y
    rw [h6]
    rw [Int.bmod_eq_of_le] <;> omega
  omega
section WpM
variable {d j pc : Nat} {ls st : List Value} {M : Mt} {L : Lt} {Q : Option Value → Mt → Lt → Prop}
theorem w_and1 {x : Int32} (pc' : Nat) (h : isI j pc .iand pc' = true) (kk : ∀ b : Nat, b ≤ 1 → Wp d j pc' ls (.int (nI b) :: st) M L Q) : Wp d j pc ls (.int (nI 1) :: .int x :: st) M L Q := by
  refine w_pure .iand pc' h rfl rfl ?_
  rcases and1 x with e | e
  · rw [e]; exact kk 0 (by decide)
  · rw [e]; exact kk 1 (by decide)
theorem w_ialdK {a n k v : Nat} (pc' : Nat) (h : isI j pc .iaload pc' = true) (hs : shp[a]? = some (100, List.replicate n 0)) (hn : n < 2 ^ 31) (hk : k < n) (hv : M a k = nI v) (kk : Wp d j pc' ls (.int (nI v) :: st) M L Q) : Wp d j pc ls (.int (nI k) :: .ref a :: st) M L Q := by
  refine w_ialdN pc' h hs hn hk ?_
  rw [hv]; exact kk
end WpM
end
section
-- X8_in
set_option maxRecDepth 10000 in
theorem k_134 {d : Nat} {M : Mt} {L : Lt} {Q : Option Value → Mt → Lt → Prop} {x y z : Int64} (hI : Inv M)  (hd : 0 ≤ d) (hq : ∀ (r : Int32), ((r = 1 ∧ y ≤ x ∧ x ≤ z) ∨ (r = 0 ∧ ¬ (y ≤ x ∧ x ≤ z))) → Q (some (.int r)) M L) : Wp d 134 0 [.long x, .null, .long y, .null, .long z, .null] [] M L Q := by
  refine w_load (.lload_n 0) 1 (by decide +kernel) rfl rfl ?_
  refine w_load (.lload_n 2) 2 (by decide +kernel) rfl rfl ?_
  refine w_pure .lcmp 3 (by decide +kernel) rfl rfl ?_
  refine w_ilt 17 6 (by decide +kernel) (fun h1 => ?_) (fun h1 => ?_)
  · skip
    refine w_pushN 0 18 (by decide +kernel) ?_
    exact w_retZ (by decide +kernel) (Or.inl rfl) (hq _ (Or.inr ⟨rfl, by first | exact fun hz => cmp_lt' (by assumption) hz.1 | exact fun hz => cmp_gt' (by assumption) hz.2⟩))
  · skip
    refine w_load (.lload_n 0) 7 (by decide +kernel) rfl rfl ?_
    refine w_load (.lload 4) 9 (by decide +kernel) rfl rfl ?_
    refine w_pure .lcmp 10 (by decide +kernel) rfl rfl ?_
    refine w_igt 17 13 (by decide +kernel) (fun h2 => ?_) (fun h2 => ?_)
    · skip
      refine w_pushN 0 18 (by decide +kernel) ?_
      exact w_retZ (by decide +kernel) (Or.inl rfl) (hq _ (Or.inr ⟨rfl, by first | exact fun hz => cmp_lt' (by assumption) hz.1 | exact fun hz => cmp_gt' (by assumption) hz.2⟩))
    · skip
      refine w_pushN 1 14 (by decide +kernel) ?_
      refine w_goto 18 (by decide +kernel) ?_
      exact w_retZ (by decide +kernel) (Or.inr rfl) (hq _ (Or.inl ⟨rfl, cmp_lt (by assumption), cmp_gt (by assumption)⟩))
-- X8_has
set_option maxRecDepth 10000 in
theorem k_135 {d : Nat} {M : Mt} {L : Lt} {Q : Option Value → Mt → Lt → Prop} {a : Int32} {k : Nat} (hI : Inv M)  (hd : 0 ≤ d) (hq : ∀ (r : Int32), ((r = 1 ∧ hb a k) ∨ (r = 0 ∧ ¬ hb a k)) → Q (some (.int r)) M L) : Wp d 135 0 [.int a, .int (nI k)] [] M L Q := by
  refine w_load (.iload_n 0) 1 (by decide +kernel) rfl rfl ?_
  refine w_load (.iload_n 1) 2 (by decide +kernel) rfl rfl ?_
  refine w_pure .ishr 3 (by decide +kernel) rfl rfl ?_
  refine w_pushN 1 4 (by decide +kernel) ?_
  refine w_pure .iand 5 (by decide +kernel) rfl rfl ?_
  refine w_pushN 1 6 (by decide +kernel) ?_
  refine w_cne 13 9 (by decide +kernel) (fun h1 => ?_) (fun h1 => ?_)
  · skip
    refine w_pushN 0 14 (by decide +kernel) ?_
    exact w_retZ (by decide +kernel) (Or.inl rfl) (hq _ (Or.inr ⟨rfl, h1⟩))
  · skip
    refine w_pushN 1 10 (by decide +kernel) ?_
    refine w_goto 14 (by decide +kernel) ?_
    exact w_retZ (by decide +kernel) (Or.inr rfl) (hq _ (Or.inl ⟨rfl, h1⟩))
-- X8_ones
set_option maxRecDepth 10000 in
theorem k_136 {d : Nat} {M : Mt} {L : Lt} {Q : Option Value → Mt → Lt → Prop} {a : Int32} (hI : Inv M)  (hd : 0 ≤ d) (hq : ∀ (r : Int32), (∃ n, n ≤ 8 ∧ r = nI n) → Q (some (.int r)) M L) : Wp d 136 0 [.int a, .null, .null] [] M L Q := by
  refine w_pushN 0 1 (by decide +kernel) ?_
  refine w_store (ls' := [.int a, .int (nI 0), .null]) (.istore_n 1) 2 (by decide +kernel) rfl rfl ?_
  refine w_pushN 0 3 (by decide +kernel) ?_
  refine w_store (ls' := [.int a, .int (nI 0), .int (nI 0)]) (.istore_n 2) 4 (by decide +kernel) rfl rfl ?_
  have LP_4 : ∀ (kk : Nat) (g1 : Nat) (g2 : Nat), g2 ≤ 8 → g1 ≤ g2 → 8 - g2 < kk → Wp d 136 4 [.int a, .int (nI g1), .int (nI g2)] [] M L Q := by
    intro kk
    induction kk with
    | zero => intro g1 g2 hi0_4 hi1_4 hm_4; exact absurd hm_4 (Nat.not_lt_zero _)
    | succ kk ih_4 =>
      intro g1 g2 hi0_4 hi1_4 hm_4
      refine w_load (.iload_n 2) 5 (by decide +kernel) rfl rfl ?_
      refine w_pushN 8 7 (by decide +kernel) ?_
      refine w_cgeN 24 10 (by decide +kernel) (by omega) (by omega) (fun h1 => ?_) (fun h1 => ?_)
      · skip
        refine w_load (.iload_n 1) 25 (by decide +kernel) rfl rfl ?_
        exact w_ret (by decide +kernel) (hq _ ⟨_, by omega, rfl⟩)
      · skip
        refine w_load (.iload_n 1) 11 (by decide +kernel) rfl rfl ?_
        refine w_load (.iload_n 0) 12 (by decide +kernel) rfl rfl ?_
        refine w_load (.iload_n 2) 13 (by decide +kernel) rfl rfl ?_
        refine w_pure .ishr 14 (by decide +kernel) rfl rfl ?_
        refine w_pushN 1 15 (by decide +kernel) ?_
        refine w_and1 16 (by decide +kernel) (fun b2 hb2 => ?_)
        refine w_addN (g1 + b2) 17 (by decide +kernel) (by omega) ?_
        refine w_store (ls' := [.int a, .int (nI (g1 + b2)), .int (nI g2)]) (.istore_n 1) 18 (by decide +kernel) rfl rfl ?_
        refine w_iincN (z := 2) (g2 + 1) 21 (by decide +kernel) rfl (Nat.le_of_ble_eq_true rfl) rfl rfl ?_
        show Wp _ _ _ [.int a, .int (nI (g1 + b2)), .int (nI (g2 + 1))] _ _ _ _
        refine w_goto 4 (by decide +kernel) ?_
        exact ih_4 (g1 + b2) (g2 + 1) (by omega) (by omega) (by omega)
  exact LP_4 _ 0 0 (by omega) (by omega) (Nat.lt_succ_self _)
-- X8_write
set_option maxRecDepth 10000 in
theorem k_137 {d : Nat} {M : Mt} {L : Lt} {Q : Option Value → Mt → Lt → Prop} {n : Nat} {a : Int32} (hI : Inv M) (hn : n ≤ 24) (en : M 76 4 = nI n) (hd : 1 ≤ d) (hq : ∀ (r : Int32) (N : Mt), St (fun i k => i = 79 ∨ (i = 76 ∧ k = 4)) M N → ((r = -2 ∧ (¬ ∃ k, k < 256 ∧ a = nI k) ∧ N 76 4 = nI n) ∨ ((∃ k, k < 256 ∧ a = nI k) ∧ ((r = -4 ∧ n = 24 ∧ N 76 4 = nI n) ∨ (r = nI (n + 1) ∧ n < 24 ∧ N 76 4 = nI (n + 1))))) → Q (some (.int r)) N L) : Wp d 137 0 [.ref 76, .int a] [] M L Q := by
  refine (show ∀ N : Mt, N = M → St (fun i k => i = 79 ∨ (i = 76 ∧ k = 4)) M N → Wp d 137 0 [.ref 76, .int a] [] N L Q from ?_) M rfl (St.rf hI)
  intro N hNM hS
  have kz0 : N (76) 4 = nI n := by rw [hNM]; exact en
  refine w_load (.iload_n 1) 1 (by decide +kernel) rfl rfl ?_
  refine w_pure .i2l 2 (by decide +kernel) rfl rfl ?_
  refine w_pushL (0) 3 (by decide +kernel) ?_
  refine w_pushL (255) 6 (by decide +kernel) ?_
  refine w_callSL 134 6 9 (by decide +kernel) (Nat.le_of_ble_eq_true rfl) rfl (by omega) ?_
  refine k_134 hS.1  (by omega) (fun r1 hr1 => ?_)
  dsimp only [Option.toList, List.cons_append, List.nil_append]
  rcases hr1 with ⟨rfl, hlok2, hhik2⟩ | ⟨rfl, hnok2⟩
  · skip
    obtain ⟨k2, hlk2, hhk2, rfl⟩ := in_k (lo := 0) (hi := 255) hlok2 hhik2 (by decide)
    refine w_ine 15 12 (by decide +kernel) (fun _ => ?_) (fun hz => absurd hz (by decide))
    refine w_load (.aload_n 0) 16 (by decide +kernel) rfl rfl ?_
    refine w_getK (k := 4) 19 (by decide +kernel) sh_76 rfl kz0 ?_
    refine w_pushN 24 21 (by decide +kernel) ?_
    refine w_cneN 27 24 (by decide +kernel) (by omega) (by omega) (fun h4 => ?_) (fun h4 => ?_)
    · skip
      refine w_load (.aload_n 0) 28 (by decide +kernel) rfl rfl ?_
      refine w_getR (k := 3) (r := 79) 31 (by decide +kernel) sh_76 rfl ?_
      refine w_load (.aload_n 0) 32 (by decide +kernel) rfl rfl ?_
      refine w_getK (k := 4) 35 (by decide +kernel) sh_76 rfl kz0 ?_
      refine w_load (.iload_n 1) 36 (by decide +kernel) rfl rfl ?_
      refine w_iastW 37 (by decide +kernel) sh_79 (by omega) (by omega) hS (Rg.free (by simp only [Hs, Tl, Sc, isScr, isHs, isTs] at *; omega)) (by first | exact rfl | omega | (dsimp only; omega) | (simp only [Hs, Tl, Sc, isHs, isScr, isTs] at *; omega)) (fun N hS hq5 oq5 => ?_)
      have kn6 := (oq5 (76) 4 (by first | omega | (simp only [Hs, Tl, Sc, isHs, isScr, isTs] at *; omega))).trans kz0
      refine w_load (.aload_n 0) 38 (by decide +kernel) rfl rfl ?_
      refine w_pure .dup 39 (by decide +kernel) rfl rfl ?_
      refine w_getK (k := 4) 42 (by decide +kernel) sh_76 rfl kn6 ?_
      refine w_pushN 1 43 (by decide +kernel) ?_
      refine w_addN (n + 1) 44 (by decide +kernel) (by omega) ?_
      refine w_putW (k := 4) 47 (by decide +kernel) sh_76 rfl hS (rg_76n (B := 24) (by omega) (by decide)) (by first | exact rfl | omega | (dsimp only; omega) | (simp only [Hs, Tl, Sc, isHs, isScr, isTs] at *; omega)) (fun N hS hq7 oq7 => ?_)
      refine w_load (.aload_n 0) 48 (by decide +kernel) rfl rfl ?_
      refine w_getK (k := 4) 51 (by decide +kernel) sh_76 rfl hq7 ?_
      exact w_ret (by decide +kernel) (hq _ N hS (by first | exact Or.inl ⟨rfl, in_no (by assumption) (by decide), by assumption⟩ | exact Or.inr ⟨⟨_, by omega, rfl⟩, Or.inl ⟨rfl, by omega, by assumption⟩⟩ | exact Or.inr ⟨⟨_, Nat.lt_succ_of_le (by assumption), rfl⟩, Or.inl ⟨rfl, by omega, by assumption⟩⟩ | exact Or.inr ⟨⟨_, Nat.lt_succ_of_le (by assumption), rfl⟩, Or.inr ⟨rfl, by omega, by assumption⟩⟩))
    · skip
      refine w_push (-4) 26 (by decide +kernel) ?_
      exact w_ret (by decide +kernel) (hq _ N hS (by first | exact Or.inl ⟨rfl, in_no (by assumption) (by decide), by assumption⟩ | exact Or.inr ⟨⟨_, by omega, rfl⟩, Or.inl ⟨rfl, by omega, by assumption⟩⟩ | exact Or.inr ⟨⟨_, Nat.lt_succ_of_le (by assumption), rfl⟩, Or.inl ⟨rfl, by omega, by assumption⟩⟩ | exact Or.inr ⟨⟨_, Nat.lt_succ_of_le (by assumption), rfl⟩, Or.inr ⟨rfl, by omega, by assumption⟩⟩))
  · skip
    refine w_ine 15 12 (by decide +kernel) (fun hz => absurd hz (by decide)) (fun _ => ?_)
    refine w_push (-2) 14 (by decide +kernel) ?_
    exact w_ret (by decide +kernel) (hq _ N hS (by first | exact Or.inl ⟨rfl, in_no (by assumption) (by decide), by assumption⟩ | exact Or.inr ⟨⟨_, by omega, rfl⟩, Or.inl ⟨rfl, by omega, by assumption⟩⟩ | exact Or.inr ⟨⟨_, Nat.lt_succ_of_le (by assumption), rfl⟩, Or.inl ⟨rfl, by omega, by assumption⟩⟩ | exact Or.inr ⟨⟨_, Nat.lt_succ_of_le (by assumption), rfl⟩, Or.inr ⟨rfl, by omega, by assumption⟩⟩))
-- X8_wipe
set_option maxRecDepth 10000 in
theorem k_138 {d : Nat} {M : Mt} {L : Lt} {Q : Option Value → Mt → Lt → Prop} {n : Nat}  (hI : Inv M) (hn : n ≤ 24) (en : M 76 4 = nI n) (hd : 0 ≤ d) (hq : ∀ (r : Int32) (N : Mt), St (fun i k => i = 76 ∧ k = 4) M N → (r = nI n ∧ N 76 4 = nI 0) → Q (some (.int r)) N L) : Wp d 138 0 [.ref 76, .null] [] M L Q := by
  refine (show ∀ N : Mt, N = M → St (fun i k => i = 76 ∧ k = 4) M N → Wp d 138 0 [.ref 76, .null] [] N L Q from ?_) M rfl (St.rf hI)
  intro N hNM hS
  have kz0 : N (76) 4 = nI n := by rw [hNM]; exact en
  refine w_load (.aload_n 0) 1 (by decide +kernel) rfl rfl ?_
  refine w_getK (k := 4) 4 (by decide +kernel) sh_76 rfl kz0 ?_
  refine w_store (ls' := [.ref 76, .int (nI n)]) (.istore_n 1) 5 (by decide +kernel) rfl rfl ?_
  refine w_load (.aload_n 0) 6 (by decide +kernel) rfl rfl ?_
  refine w_pushN 0 7 (by decide +kernel) ?_
  refine w_putW (k := 4) 10 (by decide +kernel) sh_76 rfl hS (rg_76n (B := 24) (by omega) (by decide)) (by first | exact rfl | omega | (dsimp only; omega) | (simp only [Hs, Tl, Sc, isHs, isScr, isTs] at *; omega)) (fun N hS hq1 oq1 => ?_)
  refine w_load (.iload_n 1) 11 (by decide +kernel) rfl rfl ?_
  exact w_ret (by decide +kernel) (hq _ N hS ⟨rfl, by assumption⟩)
-- X8_fits
set_option maxRecDepth 10000 in
theorem k_139 {d : Nat} {M : Mt} {L : Lt} {Q : Option Value → Mt → Lt → Prop} {p : Nat}  (hI : Inv M) (hp : p < 24) (hd : 1 ≤ d) (hq : ∀ (r : Int32), ((r = 1 ∧ p ≤ 20) ∨ r = 0) → Q (some (.int r)) M L) : Wp d 139 0 [.ref 76, .int (nI p), .null] [] M L Q := by
  refine w_load (.aload_n 0) 1 (by decide +kernel) rfl rfl ?_
  refine w_getR (k := 3) (r := 79) 4 (by decide +kernel) sh_76 rfl ?_
  refine w_load (.iload_n 1) 5 (by decide +kernel) rfl rfl ?_
  refine w_ialdN 6 (by decide +kernel) sh_79 (by omega) (by omega) ?_
  refine w_topi (fun v1 ev1 => ?_)
  refine w_store (ls' := [.ref 76, .int (nI p), .int v1]) (.istore_n 2) 7 (by decide +kernel) rfl rfl ?_
  refine w_load (.iload_n 1) 8 (by decide +kernel) rfl rfl ?_
  refine w_ineN 23 11 (by decide +kernel) (by omega) (fun h2 => ?_) (fun h2 => ?_)
  · skip
    refine w_load (.iload_n 1) 24 (by decide +kernel) rfl rfl ?_
    refine w_pushN 20 26 (by decide +kernel) ?_
    refine w_cleN 31 29 (by decide +kernel) (by omega) (by omega) (fun h3 => ?_) (fun h3 => ?_)
    · skip
      refine w_load (.iload_n 1) 32 (by decide +kernel) rfl rfl ?_
      refine w_pushN 1 33 (by decide +kernel) ?_
      refine w_subN (p - 1) 34 (by decide +kernel) (by omega) rfl ?_
      refine w_pushN 4 35 (by decide +kernel) ?_
      refine w_remN ((p - 1) % 4) 36 (by decide +kernel) (by decide) (by decide) (by omega) rfl ?_
      refine w_tab (show insAt 139 36 = some (.tableswitch 64 0 2 #[28, 40, 52]) by decide +kernel) (fun h4 => ⟨100, rfl, ?_⟩) (fun z5 h4 h4b => ?_)
      · skip
        refine w_load (.iload_n 2) 101 (by decide +kernel) rfl rfl ?_
        refine w_pure .i2l 102 (by decide +kernel) rfl rfl ?_
        refine w_pushL (48) 105 (by decide +kernel) ?_
        refine w_pushL (51) 108 (by decide +kernel) ?_
        refine w_callSL 134 6 111 (by decide +kernel) (Nat.le_of_ble_eq_true rfl) rfl (by omega) ?_
        refine k_134 hI  (by omega) (fun r6 hr6 => ?_)
        dsimp only [Option.toList, List.cons_append, List.nil_append]
        rcases hr6 with ⟨rfl, hlok7, hhik7⟩ | ⟨rfl, hnok7⟩
        · skip
          obtain ⟨k7, hlk7, hhk7, rfl⟩ := in_k (lo := 48) (hi := 51) hlok7 hhik7 (by decide)
          exact w_retZ (by decide +kernel) (Or.inr rfl) (hq _ (Or.inl ⟨rfl, by omega⟩))
        · skip
          exact w_retZ (by decide +kernel) (Or.inl rfl) (hq _ (Or.inr rfl))
      · rcases (by omega : z5 = 0 ∨ z5 = 1 ∨ z5 = 2) with rfl | rfl | rfl
        · refine ⟨_, 64, rfl, rfl, ?_⟩
          refine w_load (.iload_n 2) 65 (by decide +kernel) rfl rfl ?_
          refine w_pushN 71 67 (by decide +kernel) ?_
          refine w_cne 74 70 (by decide +kernel) (fun h8 => ?_) (fun h8 => ?_)
          · skip
            refine w_pushN 0 75 (by decide +kernel) ?_
            exact w_retZ (by decide +kernel) (Or.inl rfl) (hq _ (Or.inr rfl))
          · skip
            refine w_pushN 1 71 (by decide +kernel) ?_
            refine w_goto 75 (by decide +kernel) ?_
            exact w_retZ (by decide +kernel) (Or.inr rfl) (hq _ (Or.inl ⟨rfl, by omega⟩))
        · refine ⟨_, 76, rfl, rfl, ?_⟩
          refine w_load (.iload_n 2) 77 (by decide +kernel) rfl rfl ?_
          refine w_pure .i2l 78 (by decide +kernel) rfl rfl ?_
          refine w_pushL (97) 81 (by decide +kernel) ?_
          refine w_pushL (100) 84 (by decide +kernel) ?_
          refine w_callSL 134 6 87 (by decide +kernel) (Nat.le_of_ble_eq_true rfl) rfl (by omega) ?_
          refine k_134 hI  (by omega) (fun r9 hr9 => ?_)
          dsimp only [Option.toList, List.cons_append, List.nil_append]
          rcases hr9 with ⟨rfl, hlok10, hhik10⟩ | ⟨rfl, hnok10⟩
          · skip
            obtain ⟨k10, hlk10, hhk10, rfl⟩ := in_k (lo := 97) (hi := 100) hlok10 hhik10 (by decide)
            exact w_retZ (by decide +kernel) (Or.inr rfl) (hq _ (Or.inl ⟨rfl, by omega⟩))
          · skip
            exact w_retZ (by decide +kernel) (Or.inl rfl) (hq _ (Or.inr rfl))
        · refine ⟨_, 88, rfl, rfl, ?_⟩
          refine w_load (.iload_n 2) 89 (by decide +kernel) rfl rfl ?_
          refine w_pure .i2l 90 (by decide +kernel) rfl rfl ?_
          refine w_pushL (48) 93 (by decide +kernel) ?_
          refine w_pushL (57) 96 (by decide +kernel) ?_
          refine w_callSL 134 6 99 (by decide +kernel) (Nat.le_of_ble_eq_true rfl) rfl (by omega) ?_
          refine k_134 hI  (by omega) (fun r11 hr11 => ?_)
          dsimp only [Option.toList, List.cons_append, List.nil_append]
          rcases hr11 with ⟨rfl, hlok12, hhik12⟩ | ⟨rfl, hnok12⟩
          · skip
            obtain ⟨k12, hlk12, hhk12, rfl⟩ := in_k (lo := 48) (hi := 57) hlok12 hhik12 (by decide)
            exact w_retZ (by decide +kernel) (Or.inr rfl) (hq _ (Or.inl ⟨rfl, by omega⟩))
          · skip
            exact w_retZ (by decide +kernel) (Or.inl rfl) (hq _ (Or.inr rfl))
    · skip
      refine w_pushN 0 30 (by decide +kernel) ?_
      exact w_retZ (by decide +kernel) (Or.inl rfl) (hq _ (Or.inr rfl))
  · skip
    refine w_load (.iload_n 2) 12 (by decide +kernel) rfl rfl ?_
    refine w_pushN 73 14 (by decide +kernel) ?_
    refine w_cne 21 17 (by decide +kernel) (fun h13 => ?_) (fun h13 => ?_)
    · skip
      refine w_pushN 0 22 (by decide +kernel) ?_
      exact w_retZ (by decide +kernel) (Or.inl rfl) (hq _ (Or.inr rfl))
    · skip
      refine w_pushN 1 18 (by decide +kernel) ?_
      refine w_goto 22 (by decide +kernel) ?_
      exact w_retZ (by decide +kernel) (Or.inr rfl) (hq _ (Or.inl ⟨rfl, by omega⟩))
-- X8_fault
set_option maxRecDepth 10000 in
theorem k_140 {d : Nat} {M : Mt} {L : Lt} {Q : Option Value → Mt → Lt → Prop}  (hI : Inv M)  (hd : 2 ≤ d) (hq : ∀ (r : Int32), (r = -9 → ∃ n, 1 ≤ n ∧ n ≤ 21 ∧ M 76 4 = nI n) → Q (some (.int r)) M L) : Wp d 140 0 [.ref 76, .null] [] M L Q := by
  refine w_pushN 0 1 (by decide +kernel) ?_
  refine w_store (ls' := [.ref 76, .int (nI 0)]) (.istore_n 1) 2 (by decide +kernel) rfl rfl ?_
  have LP_2 : ∀ (kk : Nat) (g1 : Nat), g1 ≤ 21 → 21 - g1 < kk → Wp d 140 2 [.ref 76, .int (nI g1)] [] M L Q := by
    intro kk
    induction kk with
    | zero => intro g1 hi0_2 hm_2; exact absurd hm_2 (Nat.not_lt_zero _)
    | succ kk ih_2 =>
      intro g1 hi0_2 hm_2
      refine w_load (.iload_n 1) 3 (by decide +kernel) rfl rfl ?_
      refine w_load (.aload_n 0) 4 (by decide +kernel) rfl rfl ?_
      refine w_getN (B := 24) (k := 4) 7 (by decide +kernel) sh_76 rfl (inv_len hI) (fun n1 hn1 en1 => ?_)
      refine w_cgeN 26 10 (by decide +kernel) (by omega) (by omega) (fun h2 => ?_) (fun h2 => ?_)
      · skip
        refine w_load (.aload_n 0) 27 (by decide +kernel) rfl rfl ?_
        refine w_getK (k := 4) 30 (by decide +kernel) sh_76 rfl en1 ?_
        refine w_ileN 49 33 (by decide +kernel) (by omega) (fun h3 => ?_) (fun h3 => ?_)
        · skip
          refine w_load (.aload_n 0) 50 (by decide +kernel) rfl rfl ?_
          refine w_getK (k := 4) 53 (by decide +kernel) sh_76 rfl en1 ?_
          exact w_ret (by decide +kernel) (hq _ (fun h => absurd h (nI_m9 (by omega))))
        · skip
          refine w_load (.aload_n 0) 34 (by decide +kernel) rfl rfl ?_
          refine w_getK (k := 4) 37 (by decide +kernel) sh_76 rfl en1 ?_
          refine w_pushN 1 38 (by decide +kernel) ?_
          refine w_subN (n1 - 1) 39 (by decide +kernel) (by omega) rfl ?_
          refine w_pushN 4 40 (by decide +kernel) ?_
          refine w_remN ((n1 - 1) % 4) 41 (by decide +kernel) (by decide) (by decide) (by omega) rfl ?_
          refine w_ineN 49 44 (by decide +kernel) (by omega) (fun h4 => ?_) (fun h4 => ?_)
          · skip
            refine w_load (.aload_n 0) 50 (by decide +kernel) rfl rfl ?_
            refine w_getK (k := 4) 53 (by decide +kernel) sh_76 rfl en1 ?_
            exact w_ret (by decide +kernel) (hq _ (fun h => absurd h (nI_m9 (by omega))))
          · skip
            refine w_push (-9) 46 (by decide +kernel) ?_
            refine w_goto 53 (by decide +kernel) ?_
            exact w_ret (by decide +kernel) (hq _ (fun _ => ⟨n1, by omega, by omega, en1⟩))
      · skip
        refine w_load (.aload_n 0) 11 (by decide +kernel) rfl rfl ?_
        refine w_load (.iload_n 1) 12 (by decide +kernel) rfl rfl ?_
        refine w_callV1 139 8 3 15 (by decide +kernel) sh_76 (Nat.le_of_ble_eq_true rfl) rfl (by decide) (by omega) ?_
        refine k_139 hI (by omega) (by omega) (fun r5 hr5 => ?_)
        dsimp only [Option.toList, List.cons_append, List.nil_append]
        rcases hr5 with ⟨rfl, hfr5⟩ | rfl
        · skip
          refine w_ine 20 18 (by decide +kernel) (fun _ => ?_) (fun hz => absurd hz (by decide))
          refine w_iincN (z := 1) (g1 + 1) 23 (by decide +kernel) rfl (Nat.le_of_ble_eq_true rfl) rfl rfl ?_
          show Wp _ _ _ [.ref 76, .int (nI (g1 + 1))] _ _ _ _
          refine w_goto 2 (by decide +kernel) ?_
          exact ih_2 (g1 + 1) (by omega) (by omega)
        · skip
          refine w_ine 20 18 (by decide +kernel) (fun hz => absurd hz (by decide)) (fun _ => ?_)
          refine w_load (.iload_n 1) 19 (by decide +kernel) rfl rfl ?_
          exact w_ret (by decide +kernel) (hq _ (fun h => absurd h (nI_m9 (by omega))))
  exact LP_2 _ 0 (by omega) (Nat.lt_succ_self _)
-- X8_inn
set_option maxRecDepth 10000 in
theorem k_141 {d : Nat} {M : Mt} {L : Lt} {Q : Option Value → Mt → Lt → Prop}  (hI : Inv M)  (hd : 3 ≤ d) (hq : ∀ (r : Int32) (N : Mt), St (fun i k => i = 77 ∨ i = 78 ∨ i = 88 ∨ (i = 76 ∧ (k = 0 ∨ k = 8))) M N → True → Q (some (.int r)) N L) : Wp d 141 0 [.ref 76, .null] [] M L Q := by
  refine (show ∀ N : Mt, N = M → St (fun i k => i = 77 ∨ i = 78 ∨ i = 88 ∨ (i = 76 ∧ (k = 0 ∨ k = 8))) M N → Wp d 141 0 [.ref 76, .null] [] N L Q from ?_) M rfl (St.rf hI)
  intro N hNM hS
  refine w_load (.aload_n 0) 1 (by decide +kernel) rfl rfl ?_
  refine w_callV0 140 8 2 4 (by decide +kernel) sh_76 (Nat.le_of_ble_eq_true rfl)  (by decide) (by omega) ?_
  refine k_140 hS.1  (by omega) (fun r1 hr1 => ?_)
  dsimp only [Option.toList, List.cons_append, List.nil_append]
  refine w_push (-9) 6 (by decide +kernel) ?_
  refine w_ceq 12 9 (by decide +kernel) (fun h2 => ?_) (fun h2 => ?_)
  · skip
    obtain ⟨nn, hn1, hnn, enn⟩ := hr1 h2
    refine w_load (.aload_n 0) 13 (by decide +kernel) rfl rfl ?_
    refine w_load (.aload_n 0) 14 (by decide +kernel) rfl rfl ?_
    refine w_getK (k := 4) 17 (by decide +kernel) sh_76 rfl enn ?_
    refine w_pushN 1 18 (by decide +kernel) ?_
    refine w_subN (nn - 1) 19 (by decide +kernel) (by omega) rfl ?_
    refine w_pushN 4 20 (by decide +kernel) ?_
    refine w_divN ((nn - 1) / 4) 21 (by decide +kernel) (by decide) (by decide) (by omega) rfl ?_
    refine w_putW (k := 0) 24 (by decide +kernel) sh_76 rfl hS (rg_76n (B := 5) (by omega) (by decide)) (by first | exact rfl | omega | (dsimp only; omega) | (simp only [Hs, Tl, Sc, isHs, isScr, isTs] at *; omega)) (fun N hS hq3 oq3 => ?_)
    have kn4 := (oq3 (76) 4 (by first | omega | (simp only [Hs, Tl, Sc, isHs, isScr, isTs] at *; omega))).trans enn
    refine w_pushN 0 25 (by decide +kernel) ?_
    refine w_store (ls' := [.ref 76, .int (nI 0)]) (.istore_n 1) 26 (by decide +kernel) rfl rfl ?_
    have LP_26 : ∀ (kk : Nat) (N : Mt) (g1 : Nat), St (fun i k => i = 77 ∨ i = 78 ∨ i = 88 ∨ (i = 76 ∧ (k = 0 ∨ k = 8))) M N → g1 ≤ 22 → 22 - g1 < kk → Wp d 141 26 [.ref 76, .int (nI g1)] [] N L Q := by
      intro kk
      induction kk with
      | zero => intro N g1 hS hi0_26 hm_26; exact absurd hm_26 (Nat.not_lt_zero _)
      | succ kk ih_26 =>
        intro N g1 hS hi0_26 hm_26
        refine w_load (.iload_n 1) 27 (by decide +kernel) rfl rfl ?_
        refine w_pushN 22 29 (by decide +kernel) ?_
        refine w_cgeN 45 32 (by decide +kernel) (by omega) (by omega) (fun h5 => ?_) (fun h5 => ?_)
        · skip
          refine w_load (.aload_n 0) 46 (by decide +kernel) rfl rfl ?_
          refine w_getR (k := 2) (r := 78) 49 (by decide +kernel) sh_76 rfl ?_
          refine w_pushN 15 51 (by decide +kernel) ?_
          refine w_pushN 1 52 (by decide +kernel) ?_
          refine w_load (.aload_n 0) 53 (by decide +kernel) rfl rfl ?_
          refine w_getN (B := 5) (k := 0) 56 (by decide +kernel) sh_76 rfl (inv_g hS.1) (fun n6 hn6 en6 => ?_)
          refine w_pure .ishl 57 (by decide +kernel) rfl rfl ?_
          refine w_pushN 1 58 (by decide +kernel) ?_
          refine w_pure .isub 59 (by decide +kernel) rfl rfl ?_
          refine w_iastW 60 (by decide +kernel) sh_78 (by omega) (by omega) hS (rg_78 (fun h1 h2 => by first | omega | exact Or.inl rfl | exact Or.inr ⟨_, by omega, rfl⟩ | exact inv_78 hS.1 _ (by omega) (by omega) | exact inv_82 hS.1 _ (by omega) (by omega) | exact inv_89 hS.1 _ (by omega) (by omega))) (by first | exact rfl | omega | (dsimp only; omega) | (simp only [Hs, Tl, Sc, isHs, isScr, isTs] at *; omega)) (fun N hS hq7 oq7 => ?_)
          have kn8 := (oq7 (76) 0 (by first | omega | (simp only [Hs, Tl, Sc, isHs, isScr, isTs] at *; omega))).trans en6
          refine w_pushN 0 61 (by decide +kernel) ?_
          refine w_store (ls' := [.ref 76, .int (nI 0)]) (.istore_n 1) 62 (by decide +kernel) rfl rfl ?_
          have LP_62 : ∀ (kk : Nat) (N : Mt) (g1 : Nat), St (fun i k => i = 77 ∨ i = 78 ∨ i = 88 ∨ (i = 76 ∧ (k = 0 ∨ k = 8))) M N → g1 ≤ 5 → 5 - g1 < kk → Wp d 141 62 [.ref 76, .int (nI g1)] [] N L Q := by
            intro kk
            induction kk with
            | zero => intro N g1 hS hi0_62 hm_62; exact absurd hm_62 (Nat.not_lt_zero _)
            | succ kk ih_62 =>
              intro N g1 hS hi0_62 hm_62
              refine w_load (.iload_n 1) 63 (by decide +kernel) rfl rfl ?_
              refine w_pushN 5 64 (by decide +kernel) ?_
              refine w_cgeN 91 67 (by decide +kernel) (by omega) (by omega) (fun h9 => ?_) (fun h9 => ?_)
              · skip
                refine w_pushN 0 92 (by decide +kernel) ?_
                refine w_store (ls' := [.ref 76, .int (nI 0)]) (.istore_n 1) 93 (by decide +kernel) rfl rfl ?_
                have LP_93 : ∀ (kk : Nat) (N : Mt) (g1 : Nat), St (fun i k => i = 77 ∨ i = 78 ∨ i = 88 ∨ (i = 76 ∧ (k = 0 ∨ k = 8))) M N → g1 ≤ 5 → 5 - g1 < kk → Wp d 141 93 [.ref 76, .int (nI g1)] [] N L Q := by
                  intro kk
                  induction kk with
                  | zero => intro N g1 hS hi0_93 hm_93; exact absurd hm_93 (Nat.not_lt_zero _)
                  | succ kk ih_93 =>
                    intro N g1 hS hi0_93 hm_93
                    refine w_load (.iload_n 1) 94 (by decide +kernel) rfl rfl ?_
                    refine w_load (.aload_n 0) 95 (by decide +kernel) rfl rfl ?_
                    refine w_getN (B := 5) (k := 0) 98 (by decide +kernel) sh_76 rfl (inv_g hS.1) (fun n10 hn10 en10 => ?_)
                    refine w_cgeN 166 101 (by decide +kernel) (by omega) (by omega) (fun h11 => ?_) (fun h11 => ?_)
                    · skip
                      refine w_load (.aload_n 0) 167 (by decide +kernel) rfl rfl ?_
                      refine w_pushN 0 168 (by decide +kernel) ?_
                      refine w_putW (k := 8) 171 (by decide +kernel) sh_76 rfl hS (rg_76 (by decide)) (by first | exact rfl | omega | (dsimp only; omega) | (simp only [Hs, Tl, Sc, isHs, isScr, isTs] at *; omega)) (fun N hS hq12 oq12 => ?_)
                      have kn13 := (oq12 (76) 0 (by first | omega | (simp only [Hs, Tl, Sc, isHs, isScr, isTs] at *; omega))).trans en10
                      refine w_load (.aload_n 0) 172 (by decide +kernel) rfl rfl ?_
                      refine w_getR (k := 19) (r := 88) 175 (by decide +kernel) sh_76 rfl ?_
                      refine w_pushN 0 176 (by decide +kernel) ?_
                      refine w_pushN 0 177 (by decide +kernel) ?_
                      refine w_bastW 178 (by decide +kernel) sh_88 (by omega) (by omega) (Or.inl rfl) hS (Rg.free (by simp only [Hs, Tl, Sc, isScr, isHs, isTs] at *; omega)) (by first | exact rfl | omega | (dsimp only; omega) | (simp only [Hs, Tl, Sc, isHs, isScr, isTs] at *; omega)) (fun N hS hq14 oq14 => ?_)
                      have kn15 := (oq14 (76) 0 (by first | omega | (simp only [Hs, Tl, Sc, isHs, isScr, isTs] at *; omega))).trans kn13
                      refine w_load (.aload_n 0) 179 (by decide +kernel) rfl rfl ?_
                      refine w_getR (k := 19) (r := 88) 182 (by decide +kernel) sh_76 rfl ?_
                      refine w_pushN 1 183 (by decide +kernel) ?_
                      refine w_pushN 0 184 (by decide +kernel) ?_
                      refine w_bastW 185 (by decide +kernel) sh_88 (by omega) (by omega) (Or.inl rfl) hS (Rg.free (by simp only [Hs, Tl, Sc, isScr, isHs, isTs] at *; omega)) (by first | exact rfl | omega | (dsimp only; omega) | (simp only [Hs, Tl, Sc, isHs, isScr, isTs] at *; omega)) (fun N hS hq16 oq16 => ?_)
                      have kn17 := (oq16 (76) 0 (by first | omega | (simp only [Hs, Tl, Sc, isHs, isScr, isTs] at *; omega))).trans kn15
                      refine w_load (.aload_n 0) 186 (by decide +kernel) rfl rfl ?_
                      refine w_getK (k := 0) 189 (by decide +kernel) sh_76 rfl kn17 ?_
                      exact w_ret (by decide +kernel) (hq _ N hS trivial)
                    · skip
                      refine w_load (.aload_n 0) 102 (by decide +kernel) rfl rfl ?_
                      refine w_getR (k := 2) (r := 78) 105 (by decide +kernel) sh_76 rfl ?_
                      refine w_load (.iload_n 1) 106 (by decide +kernel) rfl rfl ?_
                      refine w_load (.aload_n 0) 107 (by decide +kernel) rfl rfl ?_
                      refine w_getR (k := 3) (r := 79) 110 (by decide +kernel) sh_76 rfl ?_
                      refine w_pushN 2 111 (by decide +kernel) ?_
                      refine w_pushN 4 112 (by decide +kernel) ?_
                      refine w_load (.iload_n 1) 113 (by decide +kernel) rfl rfl ?_
                      refine w_mulN (4 * g1) 114 (by decide +kernel) rfl ?_
                      refine w_addN (2 + 4 * g1) 115 (by decide +kernel) (by omega) ?_
                      refine w_ialdN 116 (by decide +kernel) sh_79 (by omega) (by omega) ?_
                      refine w_pushN 97 118 (by decide +kernel) ?_
                      refine w_pure .isub 119 (by decide +kernel) rfl rfl ?_
                      refine w_iastW 120 (by decide +kernel) sh_78 (by omega) (by omega) hS (rg_78 (fun h1 h2 => by first | omega | exact Or.inl rfl | exact Or.inr ⟨_, by omega, rfl⟩ | exact inv_78 hS.1 _ (by omega) (by omega) | exact inv_82 hS.1 _ (by omega) (by omega) | exact inv_89 hS.1 _ (by omega) (by omega))) (by first | exact rfl | omega | (dsimp only; omega) | (simp only [Hs, Tl, Sc, isHs, isScr, isTs] at *; omega)) (fun N hS hq18 oq18 => ?_)
                      have kn19 := (oq18 (76) 0 (by first | omega | (simp only [Hs, Tl, Sc, isHs, isScr, isTs] at *; omega))).trans en10
                      refine w_load (.aload_n 0) 121 (by decide +kernel) rfl rfl ?_
                      refine w_getR (k := 2) (r := 78) 124 (by decide +kernel) sh_76 rfl ?_
                      refine w_pushN 5 125 (by decide +kernel) ?_
                      refine w_load (.iload_n 1) 126 (by decide +kernel) rfl rfl ?_
                      refine w_addN (5 + g1) 127 (by decide +kernel) (by omega) ?_
                      refine w_load (.aload_n 0) 128 (by decide +kernel) rfl rfl ?_
                      refine w_getR (k := 3) (r := 79) 131 (by decide +kernel) sh_76 rfl ?_
                      refine w_pushN 3 132 (by decide +kernel) ?_
                      refine w_pushN 4 133 (by decide +kernel) ?_
                      refine w_load (.iload_n 1) 134 (by decide +kernel) rfl rfl ?_
                      refine w_mulN (4 * g1) 135 (by decide +kernel) rfl ?_
                      refine w_addN (3 + 4 * g1) 136 (by decide +kernel) (by omega) ?_
                      refine w_ialdN 137 (by decide +kernel) sh_79 (by omega) (by omega) ?_
                      refine w_pushN 48 139 (by decide +kernel) ?_
                      refine w_pure .isub 140 (by decide +kernel) rfl rfl ?_
                      refine w_iastW 141 (by decide +kernel) sh_78 (by omega) (by omega) hS (rg_78 (fun h1 h2 => by first | omega | exact Or.inl rfl | exact Or.inr ⟨_, by omega, rfl⟩ | exact inv_78 hS.1 _ (by omega) (by omega) | exact inv_82 hS.1 _ (by omega) (by omega) | exact inv_89 hS.1 _ (by omega) (by omega))) (by first | exact rfl | omega | (dsimp only; omega) | (simp only [Hs, Tl, Sc, isHs, isScr, isTs] at *; omega)) (fun N hS hq20 oq20 => ?_)
                      have kn21 := (oq20 (76) 0 (by first | omega | (simp only [Hs, Tl, Sc, isHs, isScr, isTs] at *; omega))).trans kn19
                      refine w_load (.aload_n 0) 142 (by decide +kernel) rfl rfl ?_
                      refine w_getR (k := 1) (r := 77) 145 (by decide +kernel) sh_76 rfl ?_
                      refine w_load (.iload_n 1) 146 (by decide +kernel) rfl rfl ?_
                      refine w_load (.aload_n 0) 147 (by decide +kernel) rfl rfl ?_
                      refine w_getR (k := 3) (r := 79) 150 (by decide +kernel) sh_76 rfl ?_
                      refine w_pushN 4 151 (by decide +kernel) ?_
                      refine w_pushN 4 152 (by decide +kernel) ?_
                      refine w_load (.iload_n 1) 153 (by decide +kernel) rfl rfl ?_
                      refine w_mulN (4 * g1) 154 (by decide +kernel) rfl ?_
                      refine w_addN (4 + 4 * g1) 155 (by decide +kernel) (by omega) ?_
                      refine w_ialdN 156 (by decide +kernel) sh_79 (by omega) (by omega) ?_
                      refine w_pushN 48 158 (by decide +kernel) ?_
                      refine w_pure .isub 159 (by decide +kernel) rfl rfl ?_
                      refine w_iastW 160 (by decide +kernel) sh_77 (by omega) (by omega) hS (Rg.free (by simp only [Hs, Tl, Sc, isScr, isHs, isTs] at *; omega)) (by first | exact rfl | omega | (dsimp only; omega) | (simp only [Hs, Tl, Sc, isHs, isScr, isTs] at *; omega)) (fun N hS hq22 oq22 => ?_)
                      have kn23 := (oq22 (76) 0 (by first | omega | (simp only [Hs, Tl, Sc, isHs, isScr, isTs] at *; omega))).trans kn21
                      refine w_iincN (z := 1) (g1 + 1) 163 (by decide +kernel) rfl (Nat.le_of_ble_eq_true rfl) rfl rfl ?_
                      show Wp _ _ _ [.ref 76, .int (nI (g1 + 1))] _ _ _ _
                      refine w_goto 93 (by decide +kernel) ?_
                      exact ih_93 N (g1 + 1) hS (by omega) (by omega)
                exact LP_93 _ N 0 hS (by omega) (Nat.lt_succ_self _)
              · skip
                refine w_load (.aload_n 0) 68 (by decide +kernel) rfl rfl ?_
                refine w_getR (k := 2) (r := 78) 71 (by decide +kernel) sh_76 rfl ?_
                refine w_pushN 10 73 (by decide +kernel) ?_
                refine w_load (.iload_n 1) 74 (by decide +kernel) rfl rfl ?_
                refine w_addN (10 + g1) 75 (by decide +kernel) (by omega) ?_
                refine w_push (-9) 77 (by decide +kernel) ?_
                refine w_iastW 78 (by decide +kernel) sh_78 (by omega) (by omega) hS (rg_78 (fun h1 h2 => by first | omega | exact Or.inl rfl | exact Or.inr ⟨_, by omega, rfl⟩ | exact inv_78 hS.1 _ (by omega) (by omega) | exact inv_82 hS.1 _ (by omega) (by omega) | exact inv_89 hS.1 _ (by omega) (by omega))) (by first | exact rfl | omega | (dsimp only; omega) | (simp only [Hs, Tl, Sc, isHs, isScr, isTs] at *; omega)) (fun N hS hq24 oq24 => ?_)
                refine w_load (.aload_n 0) 79 (by decide +kernel) rfl rfl ?_
                refine w_getR (k := 1) (r := 77) 82 (by decide +kernel) sh_76 rfl ?_
                refine w_load (.iload_n 1) 83 (by decide +kernel) rfl rfl ?_
                refine w_pushN 0 84 (by decide +kernel) ?_
                refine w_iastW 85 (by decide +kernel) sh_77 (by omega) (by omega) hS (Rg.free (by simp only [Hs, Tl, Sc, isScr, isHs, isTs] at *; omega)) (by first | exact rfl | omega | (dsimp only; omega) | (simp only [Hs, Tl, Sc, isHs, isScr, isTs] at *; omega)) (fun N hS hq25 oq25 => ?_)
                refine w_iincN (z := 1) (g1 + 1) 88 (by decide +kernel) rfl (Nat.le_of_ble_eq_true rfl) rfl rfl ?_
                show Wp _ _ _ [.ref 76, .int (nI (g1 + 1))] _ _ _ _
                refine w_goto 62 (by decide +kernel) ?_
                exact ih_62 N (g1 + 1) hS (by omega) (by omega)
          exact LP_62 _ N 0 hS (by omega) (Nat.lt_succ_self _)
        · skip
          refine w_load (.aload_n 0) 33 (by decide +kernel) rfl rfl ?_
          refine w_getR (k := 2) (r := 78) 36 (by decide +kernel) sh_76 rfl ?_
          refine w_load (.iload_n 1) 37 (by decide +kernel) rfl rfl ?_
          refine w_pushN 0 38 (by decide +kernel) ?_
          refine w_iastW 39 (by decide +kernel) sh_78 (by omega) (by omega) hS (rg_78 (fun h1 h2 => by first | omega | exact Or.inl rfl | exact Or.inr ⟨_, by omega, rfl⟩ | exact inv_78 hS.1 _ (by omega) (by omega) | exact inv_82 hS.1 _ (by omega) (by omega) | exact inv_89 hS.1 _ (by omega) (by omega))) (by first | exact rfl | omega | (dsimp only; omega) | (simp only [Hs, Tl, Sc, isHs, isScr, isTs] at *; omega)) (fun N hS hq26 oq26 => ?_)
          refine w_iincN (z := 1) (g1 + 1) 42 (by decide +kernel) rfl (Nat.le_of_ble_eq_true rfl) rfl rfl ?_
          show Wp _ _ _ [.ref 76, .int (nI (g1 + 1))] _ _ _ _
          refine w_goto 26 (by decide +kernel) ?_
          exact ih_26 N (g1 + 1) hS (by omega) (by omega)
    exact LP_26 _ N 0 hS (by omega) (Nat.lt_succ_self _)
  · skip
    refine w_push (-3) 11 (by decide +kernel) ?_
    exact w_ret (by decide +kernel) (hq _ N hS trivial)
-- X8_isTale
set_option maxRecDepth 10000 in
theorem k_142 {d : Nat} {M : Mt} {L : Lt} {Q : Option Value → Mt → Lt → Prop} {a : Int32} (hI : Inv M)  (hd : 1 ≤ d) (hq : ∀ (r : Int32), ((r = 1 ∧ ∃ k, k < 3 ∧ a = nI k) ∨ (r = 0 ∧ ¬ ∃ k, k < 3 ∧ a = nI k)) → Q (some (.int r)) M L) : Wp d 142 0 [.int a] [] M L Q := by
  refine w_load (.iload_n 0) 1 (by decide +kernel) rfl rfl ?_
  refine w_pure .i2l 2 (by decide +kernel) rfl rfl ?_
  refine w_pushL (0) 3 (by decide +kernel) ?_
  refine w_pushL (2) 6 (by decide +kernel) ?_
  refine w_callSL 134 6 9 (by decide +kernel) (Nat.le_of_ble_eq_true rfl) rfl (by omega) ?_
  refine k_134 hI  (by omega) (fun r1 hr1 => ?_)
  dsimp only [Option.toList, List.cons_append, List.nil_append]
  rcases hr1 with ⟨rfl, hlok2, hhik2⟩ | ⟨rfl, hnok2⟩
  · skip
    obtain ⟨k2, hlk2, hhk2, rfl⟩ := in_k (lo := 0) (hi := 2) hlok2 hhik2 (by decide)
    exact w_retZ (by decide +kernel) (Or.inr rfl) (hq _ (Or.inl ⟨rfl, _, Nat.lt_succ_of_le (by assumption), rfl⟩))
  · skip
    exact w_retZ (by decide +kernel) (Or.inl rfl) (hq _ (Or.inr ⟨rfl, in_no (by assumption) (by decide)⟩))
-- X8_quill
set_option maxRecDepth 10000 in
theorem k_143 {d : Nat} {M : Mt} {L : Lt} {Q : Option Value → Mt → Lt → Prop} {a : Int32} {b : Int32} (hI : Inv M)  (hd : 2 ≤ d) (hq : ∀ (r : Int32) (N : Mt), St (fun i _ => i = 80 ∨ i = 81) M N → True → Q (some (.int r)) N L) : Wp d 143 0 [.ref 76, .int a, .int b] [] M L Q := by
  refine (show ∀ N : Mt, N = M → St (fun i _ => i = 80 ∨ i = 81) M N → Wp d 143 0 [.ref 76, .int a, .int b] [] N L Q from ?_) M rfl (St.rf hI)
  intro N hNM hS
  refine w_load (.iload_n 1) 1 (by decide +kernel) rfl rfl ?_
  refine w_callS1 142 1 4 (by decide +kernel) (Nat.le_of_ble_eq_true rfl) rfl (by decide) (by omega) ?_
  refine k_142 hS.1  (by omega) (fun r1 hr1 => ?_)
  dsimp only [Option.toList, List.cons_append, List.nil_append]
  rcases hr1 with ⟨rfl, k2, hk2, rfl⟩ | ⟨rfl, hnok2⟩
  · skip
    refine w_ine 9 7 (by decide +kernel) (fun _ => ?_) (fun hz => absurd hz (by decide))
    refine w_load (.iload_n 2) 10 (by decide +kernel) rfl rfl ?_
    refine w_pure .i2l 11 (by decide +kernel) rfl rfl ?_
    refine w_pushL (0) 12 (by decide +kernel) ?_
    refine w_pushL (255) 15 (by decide +kernel) ?_
    refine w_callSL 134 6 18 (by decide +kernel) (Nat.le_of_ble_eq_true rfl) rfl (by omega) ?_
    refine k_134 hS.1  (by omega) (fun r4 hr4 => ?_)
    dsimp only [Option.toList, List.cons_append, List.nil_append]
    rcases hr4 with ⟨rfl, hlok5, hhik5⟩ | ⟨rfl, hnok5⟩
    · skip
      obtain ⟨k5, hlk5, hhk5, rfl⟩ := in_k (lo := 0) (hi := 255) hlok5 hhik5 (by decide)
      refine w_ine 24 21 (by decide +kernel) (fun _ => ?_) (fun hz => absurd hz (by decide))
      refine w_load (.aload_n 0) 25 (by decide +kernel) rfl rfl ?_
      refine w_getR (k := 6) (r := 81) 28 (by decide +kernel) sh_76 rfl ?_
      refine w_load (.iload_n 1) 29 (by decide +kernel) rfl rfl ?_
      refine w_ialdC (B := 24) 30 (by decide +kernel) sh_81 (by decide) (by omega) (inv_81 hS.1 _) (fun n7 hn7 en7 => ?_)
      refine w_pushN 24 32 (by decide +kernel) ?_
      refine w_cneN 38 35 (by decide +kernel) (by omega) (by omega) (fun h8 => ?_) (fun h8 => ?_)
      · skip
        refine w_load (.aload_n 0) 39 (by decide +kernel) rfl rfl ?_
        refine w_getR (k := 5) (r := 80) 42 (by decide +kernel) sh_76 rfl ?_
        refine w_pushN 24 44 (by decide +kernel) ?_
        refine w_load (.iload_n 1) 45 (by decide +kernel) rfl rfl ?_
        refine w_mulN (24 * k2) 46 (by decide +kernel) rfl ?_
        refine w_load (.aload_n 0) 47 (by decide +kernel) rfl rfl ?_
        refine w_getR (k := 6) (r := 81) 50 (by decide +kernel) sh_76 rfl ?_
        refine w_load (.iload_n 1) 51 (by decide +kernel) rfl rfl ?_
        refine w_ialdK 52 (by decide +kernel) sh_81 (by decide) (by omega) en7 ?_
        refine w_addN (24 * k2 + n7) 53 (by decide +kernel) (by omega) ?_
        refine w_load (.iload_n 2) 54 (by decide +kernel) rfl rfl ?_
        refine w_iastW 55 (by decide +kernel) sh_80 (by omega) (by omega) hS (Rg.free (by simp only [Hs, Tl, Sc, isScr, isHs, isTs] at *; omega)) (by first | exact rfl | omega | (dsimp only; omega) | (simp only [Hs, Tl, Sc, isHs, isScr, isTs] at *; omega)) (fun N hS hq9 oq9 => ?_)
        have kn10 := (oq9 (81) k2 (by first | omega | (simp only [Hs, Tl, Sc, isHs, isScr, isTs] at *; omega))).trans en7
        refine w_load (.aload_n 0) 56 (by decide +kernel) rfl rfl ?_
        refine w_getR (k := 6) (r := 81) 59 (by decide +kernel) sh_76 rfl ?_
        refine w_load (.iload_n 1) 60 (by decide +kernel) rfl rfl ?_
        refine w_pure .dup2 61 (by decide +kernel) rfl rfl ?_
        refine w_ialdK 62 (by decide +kernel) sh_81 (by decide) (by omega) kn10 ?_
        refine w_pushN 1 63 (by decide +kernel) ?_
        refine w_addN (n7 + 1) 64 (by decide +kernel) (by omega) ?_
        refine w_iastW 65 (by decide +kernel) sh_81 (by omega) (by omega) hS (rg_81 (by omega)) (by first | exact rfl | omega | (dsimp only; omega) | (simp only [Hs, Tl, Sc, isHs, isScr, isTs] at *; omega)) (fun N hS hq11 oq11 => ?_)
        refine w_load (.aload_n 0) 66 (by decide +kernel) rfl rfl ?_
        refine w_getR (k := 6) (r := 81) 69 (by decide +kernel) sh_76 rfl ?_
        refine w_load (.iload_n 1) 70 (by decide +kernel) rfl rfl ?_
        refine w_ialdK 71 (by decide +kernel) sh_81 (by decide) (by omega) hq11 ?_
        exact w_ret (by decide +kernel) (hq _ N hS trivial)
      · skip
        refine w_push (-4) 37 (by decide +kernel) ?_
        exact w_ret (by decide +kernel) (hq _ N hS trivial)
    · skip
      refine w_ine 24 21 (by decide +kernel) (fun hz => absurd hz (by decide)) (fun _ => ?_)
      refine w_push (-2) 23 (by decide +kernel) ?_
      exact w_ret (by decide +kernel) (hq _ N hS trivial)
  · skip
    refine w_ine 9 7 (by decide +kernel) (fun hz => absurd hz (by decide)) (fun _ => ?_)
    refine w_push (-1) 8 (by decide +kernel) ?_
    exact w_ret (by decide +kernel) (hq _ N hS trivial)
-- X8_blot
set_option maxRecDepth 10000 in
theorem k_144 {d : Nat} {M : Mt} {L : Lt} {Q : Option Value → Mt → Lt → Prop} {a : Int32} (hI : Inv M)  (hd : 2 ≤ d) (hq : ∀ (r : Int32) (N : Mt), St (fun i _ => i = 80 ∨ i = 81) M N → True → Q (some (.int r)) N L) : Wp d 144 0 [.ref 76, .int a, .null] [] M L Q := by
  refine (show ∀ N : Mt, N = M → St (fun i _ => i = 80 ∨ i = 81) M N → Wp d 144 0 [.ref 76, .int a, .null] [] N L Q from ?_) M rfl (St.rf hI)
  intro N hNM hS
  refine w_load (.iload_n 1) 1 (by decide +kernel) rfl rfl ?_
  refine w_callS1 142 1 4 (by decide +kernel) (Nat.le_of_ble_eq_true rfl) rfl (by decide) (by omega) ?_
  refine k_142 hS.1  (by omega) (fun r1 hr1 => ?_)
  dsimp only [Option.toList, List.cons_append, List.nil_append]
  rcases hr1 with ⟨rfl, k2, hk2, rfl⟩ | ⟨rfl, hnok2⟩
  · skip
    refine w_ine 9 7 (by decide +kernel) (fun _ => ?_) (fun hz => absurd hz (by decide))
    refine w_load (.aload_n 0) 10 (by decide +kernel) rfl rfl ?_
    refine w_getR (k := 6) (r := 81) 13 (by decide +kernel) sh_76 rfl ?_
    refine w_load (.iload_n 1) 14 (by decide +kernel) rfl rfl ?_
    refine w_ialdC (B := 24) 15 (by decide +kernel) sh_81 (by decide) (by omega) (inv_81 hS.1 _) (fun n4 hn4 en4 => ?_)
    refine w_store (ls' := [.ref 76, .int (nI k2), .int (nI n4)]) (.istore_n 2) 16 (by decide +kernel) rfl rfl ?_
    refine w_load (.aload_n 0) 17 (by decide +kernel) rfl rfl ?_
    refine w_getR (k := 6) (r := 81) 20 (by decide +kernel) sh_76 rfl ?_
    refine w_load (.iload_n 1) 21 (by decide +kernel) rfl rfl ?_
    refine w_pushN 0 22 (by decide +kernel) ?_
    refine w_iastW 23 (by decide +kernel) sh_81 (by omega) (by omega) hS (rg_81 (by omega)) (by first | exact rfl | omega | (dsimp only; omega) | (simp only [Hs, Tl, Sc, isHs, isScr, isTs] at *; omega)) (fun N hS hq5 oq5 => ?_)
    refine w_load (.iload_n 2) 24 (by decide +kernel) rfl rfl ?_
    exact w_ret (by decide +kernel) (hq _ N hS trivial)
  · skip
    refine w_ine 9 7 (by decide +kernel) (fun hz => absurd hz (by decide)) (fun _ => ?_)
    refine w_push (-1) 8 (by decide +kernel) ?_
    exact w_ret (by decide +kernel) (hq _ N hS trivial)
-- X8_kindOf
set_option maxRecDepth 10000 in
theorem k_145 {d : Nat} {M : Mt} {L : Lt} {Q : Option Value → Mt → Lt → Prop} {a : Int32} (hI : Inv M)  (hd : 0 ≤ d) (hq : ∀ (r : Int32), True → Q (some (.int r)) M L) : Wp d 145 0 [.int a] [] M L Q := by
  refine w_load (.iload_n 0) 1 (by decide +kernel) rfl rfl ?_
  refine w_pushN 107 3 (by decide +kernel) ?_
  refine w_cne 10 6 (by decide +kernel) (fun h1 => ?_) (fun h1 => ?_)
  · skip
    refine w_load (.iload_n 0) 11 (by decide +kernel) rfl rfl ?_
    refine w_pushN 119 13 (by decide +kernel) ?_
    refine w_cne 20 16 (by decide +kernel) (fun h2 => ?_) (fun h2 => ?_)
    · skip
      refine w_load (.iload_n 0) 21 (by decide +kernel) rfl rfl ?_
      refine w_pushN 103 23 (by decide +kernel) ?_
      refine w_cne 30 26 (by decide +kernel) (fun h3 => ?_) (fun h3 => ?_)
      · skip
        refine w_load (.iload_n 0) 31 (by decide +kernel) rfl rfl ?_
        refine w_pushN 116 33 (by decide +kernel) ?_
        refine w_cne 40 36 (by decide +kernel) (fun h4 => ?_) (fun h4 => ?_)
        · skip
          refine w_push (-9) 42 (by decide +kernel) ?_
          exact w_ret (by decide +kernel) (hq _ trivial)
        · skip
          refine w_pushN 3 37 (by decide +kernel) ?_
          refine w_goto 42 (by decide +kernel) ?_
          exact w_ret (by decide +kernel) (hq _ trivial)
      · skip
        refine w_pushN 2 27 (by decide +kernel) ?_
        refine w_goto 42 (by decide +kernel) ?_
        exact w_ret (by decide +kernel) (hq _ trivial)
    · skip
      refine w_pushN 1 17 (by decide +kernel) ?_
      refine w_goto 42 (by decide +kernel) ?_
      exact w_ret (by decide +kernel) (hq _ trivial)
  · skip
    refine w_pushN 0 7 (by decide +kernel) ?_
    refine w_goto 42 (by decide +kernel) ?_
    exact w_ret (by decide +kernel) (hq _ trivial)
-- X8_slipOf
set_option maxRecDepth 10000 in
theorem k_146 {d : Nat} {M : Mt} {L : Lt} {Q : Option Value → Mt → Lt → Prop} {t : Nat}  (hI : Inv M) (ht : t < 3) (hd : 1 ≤ d) (hq : ∀ (r : Int32), (r = -9 ∨ ∃ n, n ≤ 24 ∧ r = nI n) → Q (some (.int r)) M L) : Wp d 146 0 [.ref 76, .int (nI t), .null, .null, .null] [] M L Q := by
  refine w_pushN 0 1 (by decide +kernel) ?_
  refine w_store (ls' := [.ref 76, .int (nI t), .int (nI 0), .null, .null]) (.istore_n 2) 2 (by decide +kernel) rfl rfl ?_
  have LP_2 : ∀ (kk : Nat) (g2 : Nat), g2 ≤ 24 → 24 - g2 < kk → Wp d 146 2 [.ref 76, .int (nI t), .int (nI g2), .null, .null] [] M L Q := by
    intro kk
    induction kk with
    | zero => intro g2 hi0_2 hm_2; exact absurd hm_2 (Nat.not_lt_zero _)
    | succ kk ih_2 =>
      intro g2 hi0_2 hm_2
      refine w_load (.iload_n 2) 3 (by decide +kernel) rfl rfl ?_
      refine w_load (.aload_n 0) 4 (by decide +kernel) rfl rfl ?_
      refine w_getR (k := 6) (r := 81) 7 (by decide +kernel) sh_76 rfl ?_
      refine w_load (.iload_n 1) 8 (by decide +kernel) rfl rfl ?_
      refine w_ialdC (B := 24) 9 (by decide +kernel) sh_81 (by decide) (by omega) (inv_81 hI _) (fun n1 hn1 en1 => ?_)
      refine w_cgeN 73 12 (by decide +kernel) (by omega) (by omega) (fun h2 => ?_) (fun h2 => ?_)
      · skip
        refine w_load (.aload_n 0) 74 (by decide +kernel) rfl rfl ?_
        refine w_getR (k := 6) (r := 81) 77 (by decide +kernel) sh_76 rfl ?_
        refine w_load (.iload_n 1) 78 (by decide +kernel) rfl rfl ?_
        refine w_ialdK 79 (by decide +kernel) sh_81 (by decide) (by omega) en1 ?_
        refine w_pushN 3 80 (by decide +kernel) ?_
        refine w_remN (n1 % 3) 81 (by decide +kernel) (by decide) (by decide) (by omega) rfl ?_
        refine w_ineN 89 84 (by decide +kernel) (by omega) (fun h3 => ?_) (fun h3 => ?_)
        · skip
          refine w_load (.aload_n 0) 90 (by decide +kernel) rfl rfl ?_
          refine w_getR (k := 6) (r := 81) 93 (by decide +kernel) sh_76 rfl ?_
          refine w_load (.iload_n 1) 94 (by decide +kernel) rfl rfl ?_
          refine w_ialdK 95 (by decide +kernel) sh_81 (by decide) (by omega) en1 ?_
          exact w_ret (by decide +kernel) (hq _ (Or.inr ⟨_, by omega, rfl⟩))
        · skip
          refine w_push (-9) 86 (by decide +kernel) ?_
          refine w_goto 95 (by decide +kernel) ?_
          exact w_ret (by decide +kernel) (hq _ (Or.inl rfl))
      · skip
        refine w_load (.aload_n 0) 13 (by decide +kernel) rfl rfl ?_
        refine w_getR (k := 5) (r := 80) 16 (by decide +kernel) sh_76 rfl ?_
        refine w_pushN 24 18 (by decide +kernel) ?_
        refine w_load (.iload_n 1) 19 (by decide +kernel) rfl rfl ?_
        refine w_mulN (24 * t) 20 (by decide +kernel) rfl ?_
        refine w_load (.iload_n 2) 21 (by decide +kernel) rfl rfl ?_
        refine w_addN (24 * t + g2) 22 (by decide +kernel) (by omega) ?_
        refine w_ialdN 23 (by decide +kernel) sh_80 (by omega) (by omega) ?_
        refine w_topi (fun v4 ev4 => ?_)
        refine w_store (ls' := [.ref 76, .int (nI t), .int (nI g2), .int v4, .null]) (.istore_n 3) 24 (by decide +kernel) rfl rfl ?_
        refine w_load (.iload_n 2) 25 (by decide +kernel) rfl rfl ?_
        refine w_pushN 3 26 (by decide +kernel) ?_
        refine w_remN (g2 % 3) 27 (by decide +kernel) (by decide) (by decide) (by omega) rfl ?_
        refine w_ineN 47 30 (by decide +kernel) (by omega) (fun h5 => ?_) (fun h5 => ?_)
        · skip
          refine w_load (.iload_n 3) 48 (by decide +kernel) rfl rfl ?_
          refine w_pure .i2l 49 (by decide +kernel) rfl rfl ?_
          refine w_pushL (97) 52 (by decide +kernel) ?_
          refine w_pushL (100) 55 (by decide +kernel) ?_
          refine w_callSL 134 6 58 (by decide +kernel) (Nat.le_of_ble_eq_true rfl) rfl (by omega) ?_
          refine k_134 hI  (by omega) (fun r6 hr6 => ?_)
          dsimp only [Option.toList, List.cons_append, List.nil_append]
          rcases hr6 with ⟨rfl, hlok7, hhik7⟩ | ⟨rfl, hnok7⟩
          · skip
            obtain ⟨k7, hlk7, hhk7, rfl⟩ := in_k (lo := 97) (hi := 100) hlok7 hhik7 (by decide)
            refine w_store (ls' := [.ref 76, .int (nI t), .int (nI g2), .int (nI k7), .int (1)]) (.istore 4) 60 (by decide +kernel) rfl rfl ?_
            refine w_load (.iload 4) 62 (by decide +kernel) rfl rfl ?_
            refine w_ine 67 65 (by decide +kernel) (fun _ => ?_) (fun hz => absurd hz (by decide))
            refine w_iincN (z := 2) (g2 + 1) 70 (by decide +kernel) rfl (Nat.le_of_ble_eq_true rfl) rfl rfl ?_
            show Wp _ _ _ [.ref 76, .int (nI t), .int (nI (g2 + 1)), .int (nI k7), .int (1)] _ _ _ _
            refine w_goto 2 (by decide +kernel) ?_
            refine Wp.forget (ls := [.ref 76, .int (nI t), .int (nI (g2 + 1)), .null, .null]) ⟨Or.inl rfl, Or.inl rfl, Or.inl rfl, Or.inr ⟨rfl, rfl⟩, Or.inr ⟨rfl, rfl⟩, trivial⟩ ?_
            exact ih_2 (g2 + 1) (by omega) (by omega)
          · skip
            refine w_store (ls' := [.ref 76, .int (nI t), .int (nI g2), .int v4, .int (0)]) (.istore 4) 60 (by decide +kernel) rfl rfl ?_
            refine w_load (.iload 4) 62 (by decide +kernel) rfl rfl ?_
            refine w_ine 67 65 (by decide +kernel) (fun hz => absurd hz (by decide)) (fun _ => ?_)
            refine w_load (.iload_n 2) 66 (by decide +kernel) rfl rfl ?_
            exact w_ret (by decide +kernel) (hq _ (Or.inr ⟨_, by omega, rfl⟩))
        · skip
          refine w_load (.iload_n 3) 31 (by decide +kernel) rfl rfl ?_
          refine w_callS1 145 1 34 (by decide +kernel) (Nat.le_of_ble_eq_true rfl) rfl (by decide) (by omega) ?_
          refine k_145 hI  (by omega) (fun r10 hr10 => ?_)
          dsimp only [Option.toList, List.cons_append, List.nil_append]
          refine w_push (-9) 36 (by decide +kernel) ?_
          refine w_ceq 43 39 (by decide +kernel) (fun h11 => ?_) (fun h11 => ?_)
          · skip
            refine w_pushN 0 44 (by decide +kernel) ?_
            refine w_goto 58 (by decide +kernel) ?_
            refine w_store (ls' := [.ref 76, .int (nI t), .int (nI g2), .int v4, .int (nI 0)]) (.istore 4) 60 (by decide +kernel) rfl rfl ?_
            refine w_load (.iload 4) 62 (by decide +kernel) rfl rfl ?_
            refine w_ine 67 65 (by decide +kernel) (fun hz => absurd hz (by decide)) (fun _ => ?_)
            refine w_load (.iload_n 2) 66 (by decide +kernel) rfl rfl ?_
            exact w_ret (by decide +kernel) (hq _ (Or.inr ⟨_, by omega, rfl⟩))
          · skip
            refine w_pushN 1 40 (by decide +kernel) ?_
            refine w_goto 58 (by decide +kernel) ?_
            refine w_store (ls' := [.ref 76, .int (nI t), .int (nI g2), .int v4, .int (nI 1)]) (.istore 4) 60 (by decide +kernel) rfl rfl ?_
            refine w_load (.iload 4) 62 (by decide +kernel) rfl rfl ?_
            refine w_ine 67 65 (by decide +kernel) (fun _ => ?_) (fun hz => absurd hz (by decide))
            refine w_iincN (z := 2) (g2 + 1) 70 (by decide +kernel) rfl (Nat.le_of_ble_eq_true rfl) rfl rfl ?_
            show Wp _ _ _ [.ref 76, .int (nI t), .int (nI (g2 + 1)), .int v4, .int (nI 1)] _ _ _ _
            refine w_goto 2 (by decide +kernel) ?_
            refine Wp.forget (ls := [.ref 76, .int (nI t), .int (nI (g2 + 1)), .null, .null]) ⟨Or.inl rfl, Or.inl rfl, Or.inl rfl, Or.inr ⟨rfl, rfl⟩, Or.inr ⟨rfl, rfl⟩, trivial⟩ ?_
            exact ih_2 (g2 + 1) (by omega) (by omega)
  exact LP_2 _ 0 (by omega) (Nat.lt_succ_self _)
-- X8_slip
set_option maxRecDepth 10000 in
theorem k_147 {d : Nat} {M : Mt} {L : Lt} {Q : Option Value → Mt → Lt → Prop} {a : Int32} (hI : Inv M)  (hd : 2 ≤ d) (hq : ∀ (r : Int32), True → Q (some (.int r)) M L) : Wp d 147 0 [.ref 76, .int a] [] M L Q := by
  refine w_load (.iload_n 1) 1 (by decide +kernel) rfl rfl ?_
  refine w_callS1 142 1 4 (by decide +kernel) (Nat.le_of_ble_eq_true rfl) rfl (by decide) (by omega) ?_
  refine k_142 hI  (by omega) (fun r1 hr1 => ?_)
  dsimp only [Option.toList, List.cons_append, List.nil_append]
  rcases hr1 with ⟨rfl, k2, hk2, rfl⟩ | ⟨rfl, hnok2⟩
  · skip
    refine w_ieq 15 7 (by decide +kernel) (fun hz => absurd hz (by decide)) (fun _ => ?_)
    refine w_load (.aload_n 0) 8 (by decide +kernel) rfl rfl ?_
    refine w_load (.iload_n 1) 9 (by decide +kernel) rfl rfl ?_
    refine w_callV1 146 8 5 12 (by decide +kernel) sh_76 (Nat.le_of_ble_eq_true rfl) rfl (by decide) (by omega) ?_
    refine k_146 hI (by omega) (by omega) (fun r4 hr4 => ?_)
    dsimp only [Option.toList, List.cons_append, List.nil_append]
    rcases hr4 with rfl | ⟨nr4, hnr4, rfl⟩
    · skip
      refine w_goto 16 (by decide +kernel) ?_
      exact w_ret (by decide +kernel) (hq _ trivial)
    · skip
      refine w_goto 16 (by decide +kernel) ?_
      exact w_ret (by decide +kernel) (hq _ trivial)
  · skip
    refine w_ieq 15 7 (by decide +kernel) (fun _ => ?_) (fun hz => absurd hz (by decide))
    refine w_push (-1) 16 (by decide +kernel) ?_
    exact w_ret (by decide +kernel) (hq _ trivial)
-- X8_deeds
set_option maxRecDepth 10000 in
theorem k_148 {d : Nat} {M : Mt} {L : Lt} {Q : Option Value → Mt → Lt → Prop} {t : Nat}  (hI : Inv M) (ht : t < 3) (hd : 2 ≤ d) (hq : ∀ (r : Int32), (∃ n, n ≤ 8 ∧ r = nI n) → Q (some (.int r)) M L) : Wp d 148 0 [.ref 76, .int (nI t), .null] [] M L Q := by
  refine w_load (.aload_n 0) 1 (by decide +kernel) rfl rfl ?_
  refine w_load (.iload_n 1) 2 (by decide +kernel) rfl rfl ?_
  refine w_callV1 146 8 5 5 (by decide +kernel) sh_76 (Nat.le_of_ble_eq_true rfl) rfl (by decide) (by omega) ?_
  refine k_146 hI (by omega) (by omega) (fun r1 hr1 => ?_)
  dsimp only [Option.toList, List.cons_append, List.nil_append]
  rcases hr1 with rfl | ⟨nr1, hnr1, rfl⟩
  · skip
    refine w_store (ls' := [.ref 76, .int (nI t), .int (-9)]) (.istore_n 2) 6 (by decide +kernel) rfl rfl ?_
    refine w_load (.iload_n 2) 7 (by decide +kernel) rfl rfl ?_
    refine w_push (-9) 9 (by decide +kernel) ?_
    refine w_cne 21 12 (by decide +kernel) (fun hz => absurd hz (by decide)) (fun _ => ?_)
    refine w_load (.aload_n 0) 13 (by decide +kernel) rfl rfl ?_
    refine w_getR (k := 6) (r := 81) 16 (by decide +kernel) sh_76 rfl ?_
    refine w_load (.iload_n 1) 17 (by decide +kernel) rfl rfl ?_
    refine w_ialdC (B := 24) 18 (by decide +kernel) sh_81 (by decide) (by omega) (inv_81 hI _) (fun n3 hn3 en3 => ?_)
    refine w_goto 22 (by decide +kernel) ?_
    refine w_pushN 3 23 (by decide +kernel) ?_
    refine w_divN (n3 / 3) 24 (by decide +kernel) (by decide) (by decide) (by omega) rfl ?_
    exact w_ret (by decide +kernel) (hq _ ⟨_, by omega, rfl⟩)
  · skip
    refine w_store (ls' := [.ref 76, .int (nI t), .int (nI nr1)]) (.istore_n 2) 6 (by decide +kernel) rfl rfl ?_
    refine w_load (.iload_n 2) 7 (by decide +kernel) rfl rfl ?_
    refine w_push (-9) 9 (by decide +kernel) ?_
    refine w_cne 21 12 (by decide +kernel) (fun h4 => ?_) (fun h4 => ?_)
    · skip
      refine w_load (.iload_n 2) 22 (by decide +kernel) rfl rfl ?_
      refine w_pushN 3 23 (by decide +kernel) ?_
      refine w_divN (nr1 / 3) 24 (by decide +kernel) (by decide) (by decide) (by omega) rfl ?_
      exact w_ret (by decide +kernel) (hq _ ⟨_, by omega, rfl⟩)
    · skip
      refine w_load (.aload_n 0) 13 (by decide +kernel) rfl rfl ?_
      refine w_getR (k := 6) (r := 81) 16 (by decide +kernel) sh_76 rfl ?_
      refine w_load (.iload_n 1) 17 (by decide +kernel) rfl rfl ?_
      refine w_ialdC (B := 24) 18 (by decide +kernel) sh_81 (by decide) (by omega) (inv_81 hI _) (fun n5 hn5 en5 => ?_)
      refine w_goto 22 (by decide +kernel) ?_
      refine w_pushN 3 23 (by decide +kernel) ?_
      refine w_divN (n5 / 3) 24 (by decide +kernel) (by decide) (by decide) (by omega) rfl ?_
      exact w_ret (by decide +kernel) (hq _ ⟨_, by omega, rfl⟩)
-- X8_deedOf
set_option maxRecDepth 10000 in
theorem k_149 {d : Nat} {M : Mt} {L : Lt} {Q : Option Value → Mt → Lt → Prop} {t k : Nat}  (hI : Inv M) (ht : t < 3) (hk : k < 8) (hd : 1 ≤ d) (hq : ∀ (r : Int32), True → Q (some (.int r)) M L) : Wp d 149 0 [.ref 76, .int (nI t), .int (nI k), .null] [] M L Q := by
  refine w_pushN 24 2 (by decide +kernel) ?_
  refine w_load (.iload_n 1) 3 (by decide +kernel) rfl rfl ?_
  refine w_mulN (24 * t) 4 (by decide +kernel) rfl ?_
  refine w_pushN 3 5 (by decide +kernel) ?_
  refine w_load (.iload_n 2) 6 (by decide +kernel) rfl rfl ?_
  refine w_mulN (3 * k) 7 (by decide +kernel) rfl ?_
  refine w_addN (24 * t + 3 * k) 8 (by decide +kernel) (by omega) ?_
  refine w_store (ls' := [.ref 76, .int (nI t), .int (nI k), .int (nI (24 * t + 3 * k))]) (.istore_n 3) 9 (by decide +kernel) rfl rfl ?_
  refine w_pushN 16 11 (by decide +kernel) ?_
  refine w_load (.aload_n 0) 12 (by decide +kernel) rfl rfl ?_
  refine w_getR (k := 5) (r := 80) 15 (by decide +kernel) sh_76 rfl ?_
  refine w_load (.iload_n 3) 16 (by decide +kernel) rfl rfl ?_
  refine w_ialdN 17 (by decide +kernel) sh_80 (by omega) (by omega) ?_
  refine w_callS1 145 1 20 (by decide +kernel) (Nat.le_of_ble_eq_true rfl) rfl (by decide) (by omega) ?_
  refine k_145 hI  (by omega) (fun r1 hr1 => ?_)
  dsimp only [Option.toList, List.cons_append, List.nil_append]
  refine w_pure .imul 21 (by decide +kernel) rfl rfl ?_
  refine w_pushN 4 22 (by decide +kernel) ?_
  refine w_load (.aload_n 0) 23 (by decide +kernel) rfl rfl ?_
  refine w_getR (k := 5) (r := 80) 26 (by decide +kernel) sh_76 rfl ?_
  refine w_load (.iload_n 3) 27 (by decide +kernel) rfl rfl ?_
  refine w_pushN 1 28 (by decide +kernel) ?_
  refine w_addN (24 * t + 3 * k + 1) 29 (by decide +kernel) (by omega) ?_
  refine w_ialdN 30 (by decide +kernel) sh_80 (by omega) (by omega) ?_
  refine w_pushN 97 32 (by decide +kernel) ?_
  refine w_pure .isub 33 (by decide +kernel) rfl rfl ?_
  refine w_pure .imul 34 (by decide +kernel) rfl rfl ?_
  refine w_pure .iadd 35 (by decide +kernel) rfl rfl ?_
  refine w_load (.aload_n 0) 36 (by decide +kernel) rfl rfl ?_
  refine w_getR (k := 5) (r := 80) 39 (by decide +kernel) sh_76 rfl ?_
  refine w_load (.iload_n 3) 40 (by decide +kernel) rfl rfl ?_
  refine w_pushN 2 41 (by decide +kernel) ?_
  refine w_addN (24 * t + 3 * k + 2) 42 (by decide +kernel) (by omega) ?_
  refine w_ialdN 43 (by decide +kernel) sh_80 (by omega) (by omega) ?_
  refine w_pure .iadd 44 (by decide +kernel) rfl rfl ?_
  refine w_pushN 97 46 (by decide +kernel) ?_
  refine w_pure .isub 47 (by decide +kernel) rfl rfl ?_
  exact w_ret (by decide +kernel) (hq _ trivial)
-- X8_isGuest
set_option maxRecDepth 10000 in
theorem k_150 {d : Nat} {M : Mt} {L : Lt} {Q : Option Value → Mt → Lt → Prop} {g : Int32} (hI : Inv M)  (hd : 1 ≤ d) (hq : ∀ (r : Int32), ((r = 1 ∧ ∃ k, k < 5 ∧ g = nI k) ∨ r = 0) → Q (some (.int r)) M L) : Wp d 150 0 [.ref 76, .int g] [] M L Q := by
  refine w_load (.iload_n 1) 1 (by decide +kernel) rfl rfl ?_
  refine w_pure .i2l 2 (by decide +kernel) rfl rfl ?_
  refine w_pushL (0) 3 (by decide +kernel) ?_
  refine w_load (.aload_n 0) 4 (by decide +kernel) rfl rfl ?_
  refine w_getN (B := 5) (k := 0) 7 (by decide +kernel) sh_76 rfl (inv_g hI) (fun n1 hn1 en1 => ?_)
  refine w_pushN 1 8 (by decide +kernel) ?_
  refine w_pure .isub 9 (by decide +kernel) rfl rfl ?_
  refine w_pure .i2l 10 (by decide +kernel) rfl rfl ?_
  refine w_callSL 134 6 13 (by decide +kernel) (Nat.le_of_ble_eq_true rfl) rfl (by omega) ?_
  refine k_134 hI  (by omega) (fun r2 hr2 => ?_)
  dsimp only [Option.toList, List.cons_append, List.nil_append]
  rcases hr2 with ⟨rfl, hlok3, hhik3⟩ | ⟨rfl, hnok3⟩
  · skip
    exact w_retZ (by decide +kernel) (Or.inr rfl) (hq _ (Or.inl ⟨rfl, isg_k (by assumption) (by assumption) (by assumption) (by decide)⟩))
  · skip
    exact w_retZ (by decide +kernel) (Or.inl rfl) (hq _ (Or.inr rfl))
-- X8_guest
set_option maxRecDepth 10000 in
theorem k_151 {d : Nat} {M : Mt} {L : Lt} {Q : Option Value → Mt → Lt → Prop} {g : Int32} {a : Int32} (hI : Inv M)  (hd : 2 ≤ d) (hq : ∀ (r : Int32), True → Q (some (.int r)) M L) : Wp d 151 0 [.ref 76, .int g, .int a] [] M L Q := by
  refine w_load (.aload_n 0) 1 (by decide +kernel) rfl rfl ?_
  refine w_load (.iload_n 1) 2 (by decide +kernel) rfl rfl ?_
  refine w_callV1 150 8 2 5 (by decide +kernel) sh_76 (Nat.le_of_ble_eq_true rfl) rfl (by decide) (by omega) ?_
  refine k_150 hI  (by omega) (fun r1 hr1 => ?_)
  dsimp only [Option.toList, List.cons_append, List.nil_append]
  rcases hr1 with ⟨rfl, k2, hk2, rfl⟩ | rfl
  · skip
    refine w_ine 10 8 (by decide +kernel) (fun _ => ?_) (fun hz => absurd hz (by decide))
    refine w_load (.iload_n 2) 11 (by decide +kernel) rfl rfl ?_
    refine w_tab (show insAt 151 11 = some (.tableswitch 81 0 4 #[33, 40, 52, 59, 71]) by decide +kernel) (fun h4 => ⟨92, rfl, ?_⟩) (fun z5 h4 h4b => ?_)
    · skip
      refine w_push (-2) 94 (by decide +kernel) ?_
      exact w_ret (by decide +kernel) (hq _ trivial)
    · rcases (by omega : z5 = 0 ∨ z5 = 1 ∨ z5 = 2 ∨ z5 = 3 ∨ z5 = 4) with rfl | rfl | rfl | rfl | rfl
      · refine ⟨_, 44, rfl, rfl, ?_⟩
        refine w_load (.aload_n 0) 45 (by decide +kernel) rfl rfl ?_
        refine w_getR (k := 2) (r := 78) 48 (by decide +kernel) sh_76 rfl ?_
        refine w_load (.iload_n 1) 49 (by decide +kernel) rfl rfl ?_
        refine w_ialdN 50 (by decide +kernel) sh_78 (by omega) (by omega) ?_
        exact w_ret (by decide +kernel) (hq _ trivial)
      · refine ⟨_, 51, rfl, rfl, ?_⟩
        refine w_pushN 100 53 (by decide +kernel) ?_
        refine w_load (.aload_n 0) 54 (by decide +kernel) rfl rfl ?_
        refine w_getR (k := 2) (r := 78) 57 (by decide +kernel) sh_76 rfl ?_
        refine w_pushN 5 58 (by decide +kernel) ?_
        refine w_load (.iload_n 1) 59 (by decide +kernel) rfl rfl ?_
        refine w_addN (5 + k2) 60 (by decide +kernel) (by omega) ?_
        refine w_ialdN 61 (by decide +kernel) sh_78 (by omega) (by omega) ?_
        refine w_pure .iadd 62 (by decide +kernel) rfl rfl ?_
        exact w_ret (by decide +kernel) (hq _ trivial)
      · refine ⟨_, 63, rfl, rfl, ?_⟩
        refine w_load (.aload_n 0) 64 (by decide +kernel) rfl rfl ?_
        refine w_getR (k := 1) (r := 77) 67 (by decide +kernel) sh_76 rfl ?_
        refine w_load (.iload_n 1) 68 (by decide +kernel) rfl rfl ?_
        refine w_ialdN 69 (by decide +kernel) sh_77 (by omega) (by omega) ?_
        exact w_ret (by decide +kernel) (hq _ trivial)
      · refine ⟨_, 70, rfl, rfl, ?_⟩
        refine w_load (.aload_n 0) 71 (by decide +kernel) rfl rfl ?_
        refine w_getR (k := 2) (r := 78) 74 (by decide +kernel) sh_76 rfl ?_
        refine w_pushN 15 76 (by decide +kernel) ?_
        refine w_ialdN 77 (by decide +kernel) sh_78 (by omega) (by omega) ?_
        refine w_load (.iload_n 1) 78 (by decide +kernel) rfl rfl ?_
        refine w_pure .ishr 79 (by decide +kernel) rfl rfl ?_
        refine w_pushN 1 80 (by decide +kernel) ?_
        refine w_pure .iand 81 (by decide +kernel) rfl rfl ?_
        exact w_ret (by decide +kernel) (hq _ trivial)
      · refine ⟨_, 82, rfl, rfl, ?_⟩
        refine w_load (.aload_n 0) 83 (by decide +kernel) rfl rfl ?_
        refine w_getR (k := 2) (r := 78) 86 (by decide +kernel) sh_76 rfl ?_
        refine w_pushN 10 88 (by decide +kernel) ?_
        refine w_load (.iload_n 1) 89 (by decide +kernel) rfl rfl ?_
        refine w_addN (10 + k2) 90 (by decide +kernel) (by omega) ?_
        refine w_ialdN 91 (by decide +kernel) sh_78 (by omega) (by omega) ?_
        exact w_ret (by decide +kernel) (hq _ trivial)
  · skip
    refine w_ine 10 8 (by decide +kernel) (fun hz => absurd hz (by decide)) (fun _ => ?_)
    refine w_push (-1) 9 (by decide +kernel) ?_
    exact w_ret (by decide +kernel) (hq _ trivial)
-- X8_bearsAt
set_option maxRecDepth 10000 in
theorem k_152 {d : Nat} {M : Mt} {L : Lt} {Q : Option Value → Mt → Lt → Prop} {lv : Nat} {a : Int32} (hI : Inv M) (hlv : lv ≤ 7) (hd : 1 ≤ d) (hq : ∀ (r : Int32), bits5 r → Q (some (.int r)) M L) : Wp d 152 0 [.ref 76, .int (nI lv), .int a, .null, .null, .null] [] M L Q := by
  refine w_pushN 22 2 (by decide +kernel) ?_
  refine w_load (.iload_n 1) 3 (by decide +kernel) rfl rfl ?_
  refine w_mulN (22 * lv) 4 (by decide +kernel) rfl ?_
  refine w_store (ls' := [.ref 76, .int (nI lv), .int a, .int (nI (22 * lv)), .null, .null]) (.istore_n 3) 5 (by decide +kernel) rfl rfl ?_
  refine w_pushN 0 6 (by decide +kernel) ?_
  refine w_store (ls' := [.ref 76, .int (nI lv), .int a, .int (nI (22 * lv)), .int (nI 0), .null]) (.istore 4) 8 (by decide +kernel) rfl rfl ?_
  refine w_pushN 0 9 (by decide +kernel) ?_
  refine w_store (ls' := [.ref 76, .int (nI lv), .int a, .int (nI (22 * lv)), .int (nI 0), .int (nI 0)]) (.istore 5) 11 (by decide +kernel) rfl rfl ?_
  have LP_11 : ∀ (kk : Nat) (x4_11 : Int32) (g5 : Nat), g5 ≤ 5 → bits5 x4_11 → 5 - g5 < kk → Wp d 152 11 [.ref 76, .int (nI lv), .int a, .int (nI (22 * lv)), .int x4_11, .int (nI g5)] [] M L Q := by
    intro kk
    induction kk with
    | zero => intro x4_11 g5 hi0_11 hi1_11 hm_11; exact absurd hm_11 (Nat.not_lt_zero _)
    | succ kk ih_11 =>
      intro x4_11 g5 hi0_11 hi1_11 hm_11
      refine w_load (.iload 5) 13 (by decide +kernel) rfl rfl ?_
      refine w_load (.aload_n 0) 14 (by decide +kernel) rfl rfl ?_
      refine w_getN (B := 5) (k := 0) 17 (by decide +kernel) sh_76 rfl (inv_g hI) (fun n1 hn1 en1 => ?_)
      refine w_cgeN 69 20 (by decide +kernel) (by omega) (by omega) (fun h2 => ?_) (fun h2 => ?_)
      · skip
        refine w_load (.iload 4) 71 (by decide +kernel) rfl rfl ?_
        exact w_ret (by decide +kernel) (hq _ (by assumption))
      · skip
        refine w_load (.iload 4) 22 (by decide +kernel) rfl rfl ?_
        refine w_load (.aload_n 0) 23 (by decide +kernel) rfl rfl ?_
        refine w_getR (k := 2) (r := 78) 26 (by decide +kernel) sh_76 rfl ?_
        refine w_load (.iload_n 3) 27 (by decide +kernel) rfl rfl ?_
        refine w_pushN 15 29 (by decide +kernel) ?_
        refine w_addN (22 * lv + 15) 30 (by decide +kernel) (by omega) ?_
        refine w_ialdN 31 (by decide +kernel) sh_78 (by omega) (by omega) ?_
        refine w_load (.iload 5) 33 (by decide +kernel) rfl rfl ?_
        refine w_callS2 135 2 36 (by decide +kernel) (Nat.le_of_ble_eq_true rfl) rfl rfl (by decide) (by omega) ?_
        refine k_135 hI  (by omega) (fun r3 hr3 => ?_)
        dsimp only [Option.toList, List.cons_append, List.nil_append]
        rcases hr3 with ⟨rfl, hbr3⟩ | ⟨rfl, hbr3⟩
        · skip
          refine w_ieq 59 39 (by decide +kernel) (fun hz => absurd hz (by decide)) (fun _ => ?_)
          refine w_load (.aload_n 0) 40 (by decide +kernel) rfl rfl ?_
          refine w_getR (k := 2) (r := 78) 43 (by decide +kernel) sh_76 rfl ?_
          refine w_load (.iload_n 3) 44 (by decide +kernel) rfl rfl ?_
          refine w_load (.iload 5) 46 (by decide +kernel) rfl rfl ?_
          refine w_addN (22 * lv + g5) 47 (by decide +kernel) (by omega) ?_
          refine w_ialdN 48 (by decide +kernel) sh_78 (by omega) (by omega) ?_
          refine w_load (.iload_n 2) 49 (by decide +kernel) rfl rfl ?_
          refine w_cne 59 52 (by decide +kernel) (fun h5 => ?_) (fun h5 => ?_)
          · skip
            refine w_pushN 0 60 (by decide +kernel) ?_
            refine w_pure .ior 61 (by decide +kernel) rfl rfl ?_
            refine w_topi (fun v6 ev6 => ?_)
            refine w_store (ls' := [.ref 76, .int (nI lv), .int a, .int (nI (22 * lv)), .int v6, .int (nI g5)]) (.istore 4) 63 (by decide +kernel) rfl rfl ?_
            refine w_iincN (z := 5) (g5 + 1) 66 (by decide +kernel) rfl (Nat.le_of_ble_eq_true rfl) rfl rfl ?_
            show Wp _ _ _ [.ref 76, .int (nI lv), .int a, .int (nI (22 * lv)), .int v6, .int (nI (g5 + 1))] _ _ _ _
            refine w_goto 11 (by decide +kernel) ?_
            exact ih_11 _ (g5 + 1) (by first | omega | (subst_vars; first | exact bits5_or (by omega) | (rw [or_0]; assumption))) (by first | omega | (subst_vars; first | exact bits5_or (by omega) | (rw [or_0]; assumption))) (by omega)
          · skip
            refine w_pushN 1 53 (by decide +kernel) ?_
            refine w_load (.iload 5) 55 (by decide +kernel) rfl rfl ?_
            refine w_pure .ishl 56 (by decide +kernel) rfl rfl ?_
            refine w_goto 60 (by decide +kernel) ?_
            refine w_pure .ior 61 (by decide +kernel) rfl rfl ?_
            refine w_topi (fun v7 ev7 => ?_)
            refine w_store (ls' := [.ref 76, .int (nI lv), .int a, .int (nI (22 * lv)), .int v7, .int (nI g5)]) (.istore 4) 63 (by decide +kernel) rfl rfl ?_
            refine w_iincN (z := 5) (g5 + 1) 66 (by decide +kernel) rfl (Nat.le_of_ble_eq_true rfl) rfl rfl ?_
            show Wp _ _ _ [.ref 76, .int (nI lv), .int a, .int (nI (22 * lv)), .int v7, .int (nI (g5 + 1))] _ _ _ _
            refine w_goto 11 (by decide +kernel) ?_
            exact ih_11 _ (g5 + 1) (by first | omega | (subst_vars; first | exact bits5_or (by omega) | (rw [or_0]; assumption))) (by first | omega | (subst_vars; first | exact bits5_or (by omega) | (rw [or_0]; assumption))) (by omega)
        · skip
          refine w_ieq 59 39 (by decide +kernel) (fun _ => ?_) (fun hz => absurd hz (by decide))
          refine w_pushN 0 60 (by decide +kernel) ?_
          refine w_pure .ior 61 (by decide +kernel) rfl rfl ?_
          refine w_topi (fun v9 ev9 => ?_)
          refine w_store (ls' := [.ref 76, .int (nI lv), .int a, .int (nI (22 * lv)), .int v9, .int (nI g5)]) (.istore 4) 63 (by decide +kernel) rfl rfl ?_
          refine w_iincN (z := 5) (g5 + 1) 66 (by decide +kernel) rfl (Nat.le_of_ble_eq_true rfl) rfl rfl ?_
          show Wp _ _ _ [.ref 76, .int (nI lv), .int a, .int (nI (22 * lv)), .int v9, .int (nI (g5 + 1))] _ _ _ _
          refine w_goto 11 (by decide +kernel) ?_
          exact ih_11 _ (g5 + 1) (by first | omega | (subst_vars; first | exact bits5_or (by omega) | (rw [or_0]; assumption))) (by first | omega | (subst_vars; first | exact bits5_or (by omega) | (rw [or_0]; assumption))) (by omega)
  exact LP_11 _ _ 0 (by first | omega | exact Or.inl rfl) (by first | omega | exact Or.inl rfl) (Nat.lt_succ_self _)
-- X8_bears
set_option maxRecDepth 10000 in
theorem k_153 {d : Nat} {M : Mt} {L : Lt} {Q : Option Value → Mt → Lt → Prop} {a : Int32} (hI : Inv M)  (hd : 2 ≤ d) (hq : ∀ (r : Int32), True → Q (some (.int r)) M L) : Wp d 153 0 [.ref 76, .int a] [] M L Q := by
  refine w_load (.iload_n 1) 1 (by decide +kernel) rfl rfl ?_
  refine w_pure .i2l 2 (by decide +kernel) rfl rfl ?_
  refine w_pushL (0) 3 (by decide +kernel) ?_
  refine w_pushL (3) 6 (by decide +kernel) ?_
  refine w_callSL 134 6 9 (by decide +kernel) (Nat.le_of_ble_eq_true rfl) rfl (by omega) ?_
  refine k_134 hI  (by omega) (fun r1 hr1 => ?_)
  dsimp only [Option.toList, List.cons_append, List.nil_append]
  rcases hr1 with ⟨rfl, hlok2, hhik2⟩ | ⟨rfl, hnok2⟩
  · skip
    obtain ⟨k2, hlk2, hhk2, rfl⟩ := in_k (lo := 0) (hi := 3) hlok2 hhik2 (by decide)
    refine w_ieq 21 12 (by decide +kernel) (fun hz => absurd hz (by decide)) (fun _ => ?_)
    refine w_load (.aload_n 0) 13 (by decide +kernel) rfl rfl ?_
    refine w_pushN 0 14 (by decide +kernel) ?_
    refine w_load (.iload_n 1) 15 (by decide +kernel) rfl rfl ?_
    refine w_callV2 152 8 6 18 (by decide +kernel) sh_76 (Nat.le_of_ble_eq_true rfl) rfl rfl (by decide) (by omega) ?_
    refine k_152 hI (by omega) (by omega) (fun r4 hr4 => ?_)
    dsimp only [Option.toList, List.cons_append, List.nil_append]
    refine w_goto 23 (by decide +kernel) ?_
    exact w_ret (by decide +kernel) (hq _ trivial)
  · skip
    refine w_ieq 21 12 (by decide +kernel) (fun _ => ?_) (fun hz => absurd hz (by decide))
    refine w_push (-2) 23 (by decide +kernel) ?_
    exact w_ret (by decide +kernel) (hq _ trivial)
-- X8_least
set_option maxRecDepth 10000 in
theorem k_154 {d : Nat} {M : Mt} {L : Lt} {Q : Option Value → Mt → Lt → Prop} {a : Int32} (hI : Inv M)  (hd : 1 ≤ d) (hq : ∀ (r : Int32), ((∃ k, k < 5 ∧ r = nI k) ∨ (r = -9 ∧ ∀ k, k < 5 → ¬ hb a k)) → Q (some (.int r)) M L) : Wp d 154 0 [.int a, .null] [] M L Q := by
  refine w_pushN 0 1 (by decide +kernel) ?_
  refine w_store (ls' := [.int a, .int (nI 0)]) (.istore_n 1) 2 (by decide +kernel) rfl rfl ?_
  have LP_2 : ∀ (kk : Nat) (g1 : Nat), g1 ≤ 5 → (∀ z, z < g1 → ¬ hb a z) → 5 - g1 < kk → Wp d 154 2 [.int a, .int (nI g1)] [] M L Q := by
    intro kk
    induction kk with
    | zero => intro g1 hi0_2 hi1_2 hm_2; exact absurd hm_2 (Nat.not_lt_zero _)
    | succ kk ih_2 =>
      intro g1 hi0_2 hi1_2 hm_2
      refine w_load (.iload_n 1) 3 (by decide +kernel) rfl rfl ?_
      refine w_pushN 5 4 (by decide +kernel) ?_
      refine w_cgeN 23 7 (by decide +kernel) (by omega) (by omega) (fun h1 => ?_) (fun h1 => ?_)
      · skip
        refine w_push (-9) 25 (by decide +kernel) ?_
        exact w_ret (by decide +kernel) (hq _ (Or.inr ⟨rfl, fun z hz => hi1_2 z (by omega)⟩))
      · skip
        refine w_load (.iload_n 0) 8 (by decide +kernel) rfl rfl ?_
        refine w_load (.iload_n 1) 9 (by decide +kernel) rfl rfl ?_
        refine w_callS2 135 2 12 (by decide +kernel) (Nat.le_of_ble_eq_true rfl) rfl rfl (by decide) (by omega) ?_
        refine k_135 hI  (by omega) (fun r2 hr2 => ?_)
        dsimp only [Option.toList, List.cons_append, List.nil_append]
        rcases hr2 with ⟨rfl, hbr2⟩ | ⟨rfl, hbr2⟩
        · skip
          refine w_ieq 17 15 (by decide +kernel) (fun hz => absurd hz (by decide)) (fun _ => ?_)
          refine w_load (.iload_n 1) 16 (by decide +kernel) rfl rfl ?_
          exact w_ret (by decide +kernel) (hq _ (Or.inl ⟨_, by omega, rfl⟩))
        · skip
          refine w_ieq 17 15 (by decide +kernel) (fun _ => ?_) (fun hz => absurd hz (by decide))
          refine w_iincN (z := 1) (g1 + 1) 20 (by decide +kernel) rfl (Nat.le_of_ble_eq_true rfl) rfl rfl ?_
          show Wp _ _ _ [.int a, .int (nI (g1 + 1))] _ _ _ _
          refine w_goto 2 (by decide +kernel) ?_
          exact ih_2 (g1 + 1) (by first | omega | exact lt_ext (by assumption) (by assumption)) (by first | omega | exact lt_ext (by assumption) (by assumption)) (by omega)
  exact LP_2 _ 0 (by first | omega | (intro z hz; omega)) (by first | omega | (intro z hz; omega)) (Nat.lt_succ_self _)
-- X8_strong
set_option maxRecDepth 10000 in
theorem k_155 {d : Nat} {M : Mt} {L : Lt} {Q : Option Value → Mt → Lt → Prop} {lv : Nat} {a : Int32} (hI : Inv M) (hlv : lv ≤ 7) (hd : 1 ≤ d) (hq : ∀ (r : Int32), bits5 r → Q (some (.int r)) M L) : Wp d 155 0 [.ref 76, .int (nI lv), .int a, .null, .null] [] M L Q := by
  refine w_pushN 0 1 (by decide +kernel) ?_
  refine w_store (ls' := [.ref 76, .int (nI lv), .int a, .int (nI 0), .null]) (.istore_n 3) 2 (by decide +kernel) rfl rfl ?_
  refine w_pushN 0 3 (by decide +kernel) ?_
  refine w_store (ls' := [.ref 76, .int (nI lv), .int a, .int (nI 0), .int (nI 0)]) (.istore 4) 5 (by decide +kernel) rfl rfl ?_
  have LP_5 : ∀ (kk : Nat) (x3_5 : Int32) (g4 : Nat), g4 ≤ 5 → bits5 x3_5 → 5 - g4 < kk → Wp d 155 5 [.ref 76, .int (nI lv), .int a, .int x3_5, .int (nI g4)] [] M L Q := by
    intro kk
    induction kk with
    | zero => intro x3_5 g4 hi0_5 hi1_5 hm_5; exact absurd hm_5 (Nat.not_lt_zero _)
    | succ kk ih_5 =>
      intro x3_5 g4 hi0_5 hi1_5 hm_5
      refine w_load (.iload 4) 7 (by decide +kernel) rfl rfl ?_
      refine w_load (.aload_n 0) 8 (by decide +kernel) rfl rfl ?_
      refine w_getN (B := 5) (k := 0) 11 (by decide +kernel) sh_76 rfl (inv_g hI) (fun n1 hn1 en1 => ?_)
      refine w_cgeN 58 14 (by decide +kernel) (by omega) (by omega) (fun h2 => ?_) (fun h2 => ?_)
      · skip
        refine w_load (.iload_n 3) 59 (by decide +kernel) rfl rfl ?_
        exact w_ret (by decide +kernel) (hq _ (by assumption))
      · skip
        refine w_load (.iload_n 3) 15 (by decide +kernel) rfl rfl ?_
        refine w_load (.iload_n 2) 16 (by decide +kernel) rfl rfl ?_
        refine w_load (.iload 4) 18 (by decide +kernel) rfl rfl ?_
        refine w_callS2 135 2 21 (by decide +kernel) (Nat.le_of_ble_eq_true rfl) rfl rfl (by decide) (by omega) ?_
        refine k_135 hI  (by omega) (fun r3 hr3 => ?_)
        dsimp only [Option.toList, List.cons_append, List.nil_append]
        rcases hr3 with ⟨rfl, hbr3⟩ | ⟨rfl, hbr3⟩
        · skip
          refine w_ieq 49 24 (by decide +kernel) (fun hz => absurd hz (by decide)) (fun _ => ?_)
          refine w_load (.aload_n 0) 25 (by decide +kernel) rfl rfl ?_
          refine w_getR (k := 2) (r := 78) 28 (by decide +kernel) sh_76 rfl ?_
          refine w_pushN 22 30 (by decide +kernel) ?_
          refine w_load (.iload_n 1) 31 (by decide +kernel) rfl rfl ?_
          refine w_mulN (22 * lv) 32 (by decide +kernel) rfl ?_
          refine w_pushN 17 34 (by decide +kernel) ?_
          refine w_addN (22 * lv + 17) 35 (by decide +kernel) (by omega) ?_
          refine w_load (.iload 4) 37 (by decide +kernel) rfl rfl ?_
          refine w_addN (22 * lv + 17 + g4) 38 (by decide +kernel) (by omega) ?_
          refine w_ialdN 39 (by decide +kernel) sh_78 (by omega) (by omega) ?_
          refine w_ile 49 42 (by decide +kernel) (fun h5 => ?_) (fun h5 => ?_)
          · skip
            refine w_pushN 0 50 (by decide +kernel) ?_
            refine w_pure .ior 51 (by decide +kernel) rfl rfl ?_
            refine w_topi (fun v6 ev6 => ?_)
            refine w_store (ls' := [.ref 76, .int (nI lv), .int a, .int v6, .int (nI g4)]) (.istore_n 3) 52 (by decide +kernel) rfl rfl ?_
            refine w_iincN (z := 4) (g4 + 1) 55 (by decide +kernel) rfl (Nat.le_of_ble_eq_true rfl) rfl rfl ?_
            show Wp _ _ _ [.ref 76, .int (nI lv), .int a, .int v6, .int (nI (g4 + 1))] _ _ _ _
            refine w_goto 5 (by decide +kernel) ?_
            exact ih_5 _ (g4 + 1) (by first | omega | (subst_vars; first | exact bits5_or (by omega) | (rw [or_0]; assumption))) (by first | omega | (subst_vars; first | exact bits5_or (by omega) | (rw [or_0]; assumption))) (by omega)
          · skip
            refine w_pushN 1 43 (by decide +kernel) ?_
            refine w_load (.iload 4) 45 (by decide +kernel) rfl rfl ?_
            refine w_pure .ishl 46 (by decide +kernel) rfl rfl ?_
            refine w_goto 50 (by decide +kernel) ?_
            refine w_pure .ior 51 (by decide +kernel) rfl rfl ?_
            refine w_topi (fun v7 ev7 => ?_)
            refine w_store (ls' := [.ref 76, .int (nI lv), .int a, .int v7, .int (nI g4)]) (.istore_n 3) 52 (by decide +kernel) rfl rfl ?_
            refine w_iincN (z := 4) (g4 + 1) 55 (by decide +kernel) rfl (Nat.le_of_ble_eq_true rfl) rfl rfl ?_
            show Wp _ _ _ [.ref 76, .int (nI lv), .int a, .int v7, .int (nI (g4 + 1))] _ _ _ _
            refine w_goto 5 (by decide +kernel) ?_
            exact ih_5 _ (g4 + 1) (by first | omega | (subst_vars; first | exact bits5_or (by omega) | (rw [or_0]; assumption))) (by first | omega | (subst_vars; first | exact bits5_or (by omega) | (rw [or_0]; assumption))) (by omega)
        · skip
          refine w_ieq 49 24 (by decide +kernel) (fun _ => ?_) (fun hz => absurd hz (by decide))
          refine w_pushN 0 50 (by decide +kernel) ?_
          refine w_pure .ior 51 (by decide +kernel) rfl rfl ?_
          refine w_topi (fun v9 ev9 => ?_)
          refine w_store (ls' := [.ref 76, .int (nI lv), .int a, .int v9, .int (nI g4)]) (.istore_n 3) 52 (by decide +kernel) rfl rfl ?_
          refine w_iincN (z := 4) (g4 + 1) 55 (by decide +kernel) rfl (Nat.le_of_ble_eq_true rfl) rfl rfl ?_
          show Wp _ _ _ [.ref 76, .int (nI lv), .int a, .int v9, .int (nI (g4 + 1))] _ _ _ _
          refine w_goto 5 (by decide +kernel) ?_
          exact ih_5 _ (g4 + 1) (by first | omega | (subst_vars; first | exact bits5_or (by omega) | (rw [or_0]; assumption))) (by first | omega | (subst_vars; first | exact bits5_or (by omega) | (rw [or_0]; assumption))) (by omega)
  exact LP_5 _ _ 0 (by first | omega | exact Or.inl rfl) (by first | omega | exact Or.inl rfl) (Nat.lt_succ_self _)
end

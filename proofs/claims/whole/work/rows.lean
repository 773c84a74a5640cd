section
-- ===== PART A: goes FIRST, ahead of the names: the tables' words, and 'selects' of the private methods out of them =====
/-- a private method of a class that the tables say can be made, by its rows of tables_1 -/
def lw_okq (q : MethodName × Nat) : Prop := (q.1.cls ≠ "java/lang/invoke/MethodHandle" ∧ q.1.cls ≠ "java/lang/invoke/VarHandle") ∧ Cond.instantiable q.1.cls q.2 ∈ tables_1 ∧ Cond.privateMethod q.1 ∈ tables_1 ∧ Cond.instanceMethod q.1 ∈ tables_1
theorem lw_p0 : lw_okq (⟨"HalfHands", "append", "(I)V"⟩, 14) := ⟨⟨by decide +kernel, by decide +kernel⟩, List.mem_of_getElem? (i := 26) (by decide +kernel), List.mem_of_getElem? (i := 456) (by decide +kernel), List.mem_of_getElem? (i := 457) (by decide +kernel)⟩
theorem lw_p1 : lw_okq (⟨"HalfHands$Tokens", "readWord", "()V"⟩, 7) := ⟨⟨by decide +kernel, by decide +kernel⟩, List.mem_of_getElem? (i := 152) (by decide +kernel), List.mem_of_getElem? (i := 490) (by decide +kernel), List.mem_of_getElem? (i := 491) (by decide +kernel)⟩
theorem lw_p2 : lw_okq (⟨"HalfHands$Tokens", "readNumber", "()V"⟩, 7) := ⟨⟨by decide +kernel, by decide +kernel⟩, List.mem_of_getElem? (i := 152) (by decide +kernel), List.mem_of_getElem? (i := 494) (by decide +kernel), List.mem_of_getElem? (i := 495) (by decide +kernel)⟩
theorem lw_p3 : lw_okq (⟨"HalfHands$Tokens", "readSign", "()V"⟩, 7) := ⟨⟨by decide +kernel, by decide +kernel⟩, List.mem_of_getElem? (i := 152) (by decide +kernel), List.mem_of_getElem? (i := 499) (by decide +kernel), List.mem_of_getElem? (i := 500) (by decide +kernel)⟩
theorem lw_p4 : lw_okq (⟨"HalfHands$Reader", "personLine", "()Z"⟩, 5) := ⟨⟨by decide +kernel, by decide +kernel⟩, List.mem_of_getElem? (i := 146) (by decide +kernel), List.mem_of_getElem? (i := 569) (by decide +kernel), List.mem_of_getElem? (i := 570) (by decide +kernel)⟩
theorem lw_p5 : lw_okq (⟨"HalfHands$Reader", "fails", "(I)Z"⟩, 5) := ⟨⟨by decide +kernel, by decide +kernel⟩, List.mem_of_getElem? (i := 146) (by decide +kernel), List.mem_of_getElem? (i := 573) (by decide +kernel), List.mem_of_getElem? (i := 574) (by decide +kernel)⟩
theorem lw_p6 : lw_okq (⟨"HalfHands$Reader", "newName", "(I)Z"⟩, 5) := ⟨⟨by decide +kernel, by decide +kernel⟩, List.mem_of_getElem? (i := 146) (by decide +kernel), List.mem_of_getElem? (i := 585) (by decide +kernel), List.mem_of_getElem? (i := 586) (by decide +kernel)⟩
theorem lw_p7 : lw_okq (⟨"HalfHands$Reader", "readNumber", "(II)Z"⟩, 5) := ⟨⟨by decide +kernel, by decide +kernel⟩, List.mem_of_getElem? (i := 146) (by decide +kernel), List.mem_of_getElem? (i := 589) (by decide +kernel), List.mem_of_getElem? (i := 590) (by decide +kernel)⟩
theorem lw_p8 : lw_okq (⟨"HalfHands$Reader", "passes", "(I)Z"⟩, 5) := ⟨⟨by decide +kernel, by decide +kernel⟩, List.mem_of_getElem? (i := 146) (by decide +kernel), List.mem_of_getElem? (i := 599) (by decide +kernel), List.mem_of_getElem? (i := 600) (by decide +kernel)⟩
theorem lw_p9 : lw_okq (⟨"HalfHands$Reader", "handsLine", "()Z"⟩, 5) := ⟨⟨by decide +kernel, by decide +kernel⟩, List.mem_of_getElem? (i := 146) (by decide +kernel), List.mem_of_getElem? (i := 603) (by decide +kernel), List.mem_of_getElem? (i := 604) (by decide +kernel)⟩
theorem lw_p10 : lw_okq (⟨"HalfHands$Reader", "toldPerson", "()I"⟩, 5) := ⟨⟨by decide +kernel, by decide +kernel⟩, List.mem_of_getElem? (i := 146) (by decide +kernel), List.mem_of_getElem? (i := 607) (by decide +kernel), List.mem_of_getElem? (i := 608) (by decide +kernel)⟩
theorem lw_p11 : lw_okq (⟨"HalfHands$Reader", "heirOf", "(I)Z"⟩, 5) := ⟨⟨by decide +kernel, by decide +kernel⟩, List.mem_of_getElem? (i := 146) (by decide +kernel), List.mem_of_getElem? (i := 611) (by decide +kernel), List.mem_of_getElem? (i := 612) (by decide +kernel)⟩
theorem lw_p12 : lw_okq (⟨"HalfHands$Reader", "parcelLine", "()Z"⟩, 5) := ⟨⟨by decide +kernel, by decide +kernel⟩, List.mem_of_getElem? (i := 146) (by decide +kernel), List.mem_of_getElem? (i := 628) (by decide +kernel), List.mem_of_getElem? (i := 629) (by decide +kernel)⟩
theorem lw_p13 : lw_okq (⟨"HalfHands$Reader", "lawLine", "()Z"⟩, 5) := ⟨⟨by decide +kernel, by decide +kernel⟩, List.mem_of_getElem? (i := 146) (by decide +kernel), List.mem_of_getElem? (i := 636) (by decide +kernel), List.mem_of_getElem? (i := 637) (by decide +kernel)⟩
theorem lw_p14 : lw_okq (⟨"HalfHands$Reader", "expression", "(II)Z"⟩, 5) := ⟨⟨by decide +kernel, by decide +kernel⟩, List.mem_of_getElem? (i := 146) (by decide +kernel), List.mem_of_getElem? (i := 644) (by decide +kernel), List.mem_of_getElem? (i := 645) (by decide +kernel)⟩
theorem lw_p15 : lw_okq (⟨"HalfHands$Reader", "denial", "(I)Z"⟩, 5) := ⟨⟨by decide +kernel, by decide +kernel⟩, List.mem_of_getElem? (i := 146) (by decide +kernel), List.mem_of_getElem? (i := 648) (by decide +kernel), List.mem_of_getElem? (i := 649) (by decide +kernel)⟩
def lw_privs_1 : List (MethodName × Nat) := [(⟨"HalfHands", "append", "(I)V"⟩, 14), (⟨"HalfHands$Tokens", "readWord", "()V"⟩, 7), (⟨"HalfHands$Tokens", "readNumber", "()V"⟩, 7), (⟨"HalfHands$Tokens", "readSign", "()V"⟩, 7), (⟨"HalfHands$Reader", "personLine", "()Z"⟩, 5), (⟨"HalfHands$Reader", "fails", "(I)Z"⟩, 5), (⟨"HalfHands$Reader", "newName", "(I)Z"⟩, 5), (⟨"HalfHands$Reader", "readNumber", "(II)Z"⟩, 5), (⟨"HalfHands$Reader", "passes", "(I)Z"⟩, 5), (⟨"HalfHands$Reader", "handsLine", "()Z"⟩, 5), (⟨"HalfHands$Reader", "toldPerson", "()I"⟩, 5), (⟨"HalfHands$Reader", "heirOf", "(I)Z"⟩, 5), (⟨"HalfHands$Reader", "parcelLine", "()Z"⟩, 5), (⟨"HalfHands$Reader", "lawLine", "()Z"⟩, 5), (⟨"HalfHands$Reader", "expression", "(II)Z"⟩, 5), (⟨"HalfHands$Reader", "denial", "(I)Z"⟩, 5)]
theorem lw_r1 : ∀ q ∈ lw_privs_1, lw_okq q := List.forall_mem_cons.mpr ⟨lw_p0, List.forall_mem_cons.mpr ⟨lw_p1, List.forall_mem_cons.mpr ⟨lw_p2, List.forall_mem_cons.mpr ⟨lw_p3, List.forall_mem_cons.mpr ⟨lw_p4, List.forall_mem_cons.mpr ⟨lw_p5, List.forall_mem_cons.mpr ⟨lw_p6, List.forall_mem_cons.mpr ⟨lw_p7, List.forall_mem_cons.mpr ⟨lw_p8, List.forall_mem_cons.mpr ⟨lw_p9, List.forall_mem_cons.mpr ⟨lw_p10, List.forall_mem_cons.mpr ⟨lw_p11, List.forall_mem_cons.mpr ⟨lw_p12, List.forall_mem_cons.mpr ⟨lw_p13, List.forall_mem_cons.mpr ⟨lw_p14, List.forall_mem_cons.mpr ⟨lw_p15, fun _ h => absurd h List.not_mem_nil⟩⟩⟩⟩⟩⟩⟩⟩⟩⟩⟩⟩⟩⟩⟩⟩
theorem lw_p16 : lw_okq (⟨"HalfHands$Reader", "passKnot", "()Z"⟩, 5) := ⟨⟨by decide +kernel, by decide +kernel⟩, List.mem_of_getElem? (i := 146) (by decide +kernel), List.mem_of_getElem? (i := 652) (by decide +kernel), List.mem_of_getElem? (i := 653) (by decide +kernel)⟩
theorem lw_p17 : lw_okq (⟨"HalfHands$Reader", "operand", "(I)Z"⟩, 5) := ⟨⟨by decide +kernel, by decide +kernel⟩, List.mem_of_getElem? (i := 146) (by decide +kernel), List.mem_of_getElem? (i := 660) (by decide +kernel), List.mem_of_getElem? (i := 661) (by decide +kernel)⟩
theorem lw_p18 : lw_okq (⟨"HalfHands$Reader", "enclosed", "(I)Z"⟩, 5) := ⟨⟨by decide +kernel, by decide +kernel⟩, List.mem_of_getElem? (i := 146) (by decide +kernel), List.mem_of_getElem? (i := 664) (by decide +kernel), List.mem_of_getElem? (i := 665) (by decide +kernel)⟩
theorem lw_p19 : lw_okq (⟨"HalfHands$Reader", "mayLine", "()Z"⟩, 5) := ⟨⟨by decide +kernel, by decide +kernel⟩, List.mem_of_getElem? (i := 146) (by decide +kernel), List.mem_of_getElem? (i := 681) (by decide +kernel), List.mem_of_getElem? (i := 682) (by decide +kernel)⟩
theorem lw_p20 : lw_okq (⟨"HalfHands$Journey", "start", "(LHalfHands$Telling;II)V"⟩, 14) := ⟨⟨by decide +kernel, by decide +kernel⟩, List.mem_of_getElem? (i := 251) (by decide +kernel), List.mem_of_getElem? (i := 697) (by decide +kernel), List.mem_of_getElem? (i := 698) (by decide +kernel)⟩
theorem lw_p21 : lw_okq (⟨"HalfHands$Journey", "pass", "()V"⟩, 14) := ⟨⟨by decide +kernel, by decide +kernel⟩, List.mem_of_getElem? (i := 251) (by decide +kernel), List.mem_of_getElem? (i := 734) (by decide +kernel), List.mem_of_getElem? (i := 735) (by decide +kernel)⟩
theorem lw_p22 : lw_okq (⟨"HalfHands$Journey", "isLeftOut", "(I)Z"⟩, 14) := ⟨⟨by decide +kernel, by decide +kernel⟩, List.mem_of_getElem? (i := 251) (by decide +kernel), List.mem_of_getElem? (i := 738) (by decide +kernel), List.mem_of_getElem? (i := 739) (by decide +kernel)⟩
theorem lw_p23 : lw_okq (⟨"HalfHands$Journey", "dispatch", "(I)V"⟩, 14) := ⟨⟨by decide +kernel, by decide +kernel⟩, List.mem_of_getElem? (i := 251) (by decide +kernel), List.mem_of_getElem? (i := 742) (by decide +kernel), List.mem_of_getElem? (i := 743) (by decide +kernel)⟩
theorem lw_p24 : lw_okq (⟨"HalfHands$Journey", "waysOf", "(I)I"⟩, 14) := ⟨⟨by decide +kernel, by decide +kernel⟩, List.mem_of_getElem? (i := 251) (by decide +kernel), List.mem_of_getElem? (i := 746) (by decide +kernel), List.mem_of_getElem? (i := 747) (by decide +kernel)⟩
theorem lw_p25 : lw_okq (⟨"HalfHands$Journey", "settle", "(II)V"⟩, 14) := ⟨⟨by decide +kernel, by decide +kernel⟩, List.mem_of_getElem? (i := 251) (by decide +kernel), List.mem_of_getElem? (i := 751) (by decide +kernel), List.mem_of_getElem? (i := 752) (by decide +kernel)⟩
theorem lw_p26 : lw_okq (⟨"HalfHands$Journey", "handOn", "(II)V"⟩, 14) := ⟨⟨by decide +kernel, by decide +kernel⟩, List.mem_of_getElem? (i := 251) (by decide +kernel), List.mem_of_getElem? (i := 755) (by decide +kernel), List.mem_of_getElem? (i := 756) (by decide +kernel)⟩
theorem lw_p27 : lw_okq (⟨"HalfHands$Journey", "bring", "(I)V"⟩, 14) := ⟨⟨by decide +kernel, by decide +kernel⟩, List.mem_of_getElem? (i := 251) (by decide +kernel), List.mem_of_getElem? (i := 760) (by decide +kernel), List.mem_of_getElem? (i := 761) (by decide +kernel)⟩
theorem lw_p28 : lw_okq (⟨"HalfHands$Journey", "shareOf", "(II)I"⟩, 14) := ⟨⟨by decide +kernel, by decide +kernel⟩, List.mem_of_getElem? (i := 251) (by decide +kernel), List.mem_of_getElem? (i := 764) (by decide +kernel), List.mem_of_getElem? (i := 765) (by decide +kernel)⟩
theorem lw_p29 : lw_okq (⟨"HalfHands$Journey", "ageOf", "(I)I"⟩, 14) := ⟨⟨by decide +kernel, by decide +kernel⟩, List.mem_of_getElem? (i := 251) (by decide +kernel), List.mem_of_getElem? (i := 768) (by decide +kernel), List.mem_of_getElem? (i := 769) (by decide +kernel)⟩
theorem lw_p30 : lw_okq (⟨"HalfHands", "isSent", "(IJI)Z"⟩, 14) := ⟨⟨by decide +kernel, by decide +kernel⟩, List.mem_of_getElem? (i := 26) (by decide +kernel), List.mem_of_getElem? (i := 834) (by decide +kernel), List.mem_of_getElem? (i := 835) (by decide +kernel)⟩
theorem lw_p31 : lw_okq (⟨"HalfHands", "isRow", "(IJ)Z"⟩, 14) := ⟨⟨by decide +kernel, by decide +kernel⟩, List.mem_of_getElem? (i := 26) (by decide +kernel), List.mem_of_getElem? (i := 838) (by decide +kernel), List.mem_of_getElem? (i := 839) (by decide +kernel)⟩
def lw_privs_2 : List (MethodName × Nat) := [(⟨"HalfHands$Reader", "passKnot", "()Z"⟩, 5), (⟨"HalfHands$Reader", "operand", "(I)Z"⟩, 5), (⟨"HalfHands$Reader", "enclosed", "(I)Z"⟩, 5), (⟨"HalfHands$Reader", "mayLine", "()Z"⟩, 5), (⟨"HalfHands$Journey", "start", "(LHalfHands$Telling;II)V"⟩, 14), (⟨"HalfHands$Journey", "pass", "()V"⟩, 14), (⟨"HalfHands$Journey", "isLeftOut", "(I)Z"⟩, 14), (⟨"HalfHands$Journey", "dispatch", "(I)V"⟩, 14), (⟨"HalfHands$Journey", "waysOf", "(I)I"⟩, 14), (⟨"HalfHands$Journey", "settle", "(II)V"⟩, 14), (⟨"HalfHands$Journey", "handOn", "(II)V"⟩, 14), (⟨"HalfHands$Journey", "bring", "(I)V"⟩, 14), (⟨"HalfHands$Journey", "shareOf", "(II)I"⟩, 14), (⟨"HalfHands$Journey", "ageOf", "(I)I"⟩, 14), (⟨"HalfHands", "isSent", "(IJI)Z"⟩, 14), (⟨"HalfHands", "isRow", "(IJ)Z"⟩, 14)]
theorem lw_r2 : ∀ q ∈ lw_privs_2, lw_okq q := List.forall_mem_cons.mpr ⟨lw_p16, List.forall_mem_cons.mpr ⟨lw_p17, List.forall_mem_cons.mpr ⟨lw_p18, List.forall_mem_cons.mpr ⟨lw_p19, List.forall_mem_cons.mpr ⟨lw_p20, List.forall_mem_cons.mpr ⟨lw_p21, List.forall_mem_cons.mpr ⟨lw_p22, List.forall_mem_cons.mpr ⟨lw_p23, List.forall_mem_cons.mpr ⟨lw_p24, List.forall_mem_cons.mpr ⟨lw_p25, List.forall_mem_cons.mpr ⟨lw_p26, List.forall_mem_cons.mpr ⟨lw_p27, List.forall_mem_cons.mpr ⟨lw_p28, List.forall_mem_cons.mpr ⟨lw_p29, List.forall_mem_cons.mpr ⟨lw_p30, List.forall_mem_cons.mpr ⟨lw_p31, fun _ h => absurd h List.not_mem_nil⟩⟩⟩⟩⟩⟩⟩⟩⟩⟩⟩⟩⟩⟩⟩⟩
theorem lw_p32 : lw_okq (⟨"HalfHands$Row", "ageAt", "(LHalfHands$Telling;I)I"⟩, 2) := ⟨⟨by decide +kernel, by decide +kernel⟩, List.mem_of_getElem? (i := 311) (by decide +kernel), List.mem_of_getElem? (i := 852) (by decide +kernel), List.mem_of_getElem? (i := 853) (by decide +kernel)⟩
theorem lw_p33 : lw_okq (⟨"HalfHands", "endOfBack", "(II)I"⟩, 14) := ⟨⟨by decide +kernel, by decide +kernel⟩, List.mem_of_getElem? (i := 26) (by decide +kernel), List.mem_of_getElem? (i := 877) (by decide +kernel), List.mem_of_getElem? (i := 878) (by decide +kernel)⟩
theorem lw_p34 : lw_okq (⟨"HalfHands$Orders", "askOddOnes", "()V"⟩, 12) := ⟨⟨by decide +kernel, by decide +kernel⟩, List.mem_of_getElem? (i := 326) (by decide +kernel), List.mem_of_getElem? (i := 910) (by decide +kernel), List.mem_of_getElem? (i := 911) (by decide +kernel)⟩
theorem lw_p35 : lw_okq (⟨"HalfHands$Orders", "askOddOne", "(IIII)V"⟩, 12) := ⟨⟨by decide +kernel, by decide +kernel⟩, List.mem_of_getElem? (i := 326) (by decide +kernel), List.mem_of_getElem? (i := 914) (by decide +kernel), List.mem_of_getElem? (i := 915) (by decide +kernel)⟩
theorem lw_p36 : lw_okq (⟨"HalfHands$Orders", "solved", "(II)I"⟩, 12) := ⟨⟨by decide +kernel, by decide +kernel⟩, List.mem_of_getElem? (i := 326) (by decide +kernel), List.mem_of_getElem? (i := 929) (by decide +kernel), List.mem_of_getElem? (i := 930) (by decide +kernel)⟩
theorem lw_p37 : lw_okq (⟨"HalfHands$Orders", "everybody", "()I"⟩, 12) := ⟨⟨by decide +kernel, by decide +kernel⟩, List.mem_of_getElem? (i := 326) (by decide +kernel), List.mem_of_getElem? (i := 933) (by decide +kernel), List.mem_of_getElem? (i := 934) (by decide +kernel)⟩
theorem lw_p38 : lw_okq (⟨"HalfHands$Orders", "judged", "(III)I"⟩, 12) := ⟨⟨by decide +kernel, by decide +kernel⟩, List.mem_of_getElem? (i := 326) (by decide +kernel), List.mem_of_getElem? (i := 943) (by decide +kernel), List.mem_of_getElem? (i := 944) (by decide +kernel)⟩
theorem lw_p39 : lw_okq (⟨"HalfHands$Orders", "judgedEnd", "(III)I"⟩, 12) := ⟨⟨by decide +kernel, by decide +kernel⟩, List.mem_of_getElem? (i := 326) (by decide +kernel), List.mem_of_getElem? (i := 953) (by decide +kernel), List.mem_of_getElem? (i := 954) (by decide +kernel)⟩
theorem lw_p40 : lw_okq (⟨"HalfHands$Orders", "handed", "(IIII)I"⟩, 12) := ⟨⟨by decide +kernel, by decide +kernel⟩, List.mem_of_getElem? (i := 326) (by decide +kernel), List.mem_of_getElem? (i := 957) (by decide +kernel), List.mem_of_getElem? (i := 958) (by decide +kernel)⟩
theorem lw_p41 : lw_okq (⟨"HalfHands$Orders", "isAskedOf", "(II)Z"⟩, 12) := ⟨⟨by decide +kernel, by decide +kernel⟩, List.mem_of_getElem? (i := 326) (by decide +kernel), List.mem_of_getElem? (i := 961) (by decide +kernel), List.mem_of_getElem? (i := 962) (by decide +kernel)⟩
theorem lw_p42 : lw_okq (⟨"HalfHands$Orders", "judgedStep", "(IIII)I"⟩, 12) := ⟨⟨by decide +kernel, by decide +kernel⟩, List.mem_of_getElem? (i := 326) (by decide +kernel), List.mem_of_getElem? (i := 966) (by decide +kernel), List.mem_of_getElem? (i := 967) (by decide +kernel)⟩
theorem lw_p43 : lw_okq (⟨"HalfHands$Orders", "overtaken", "(II)I"⟩, 12) := ⟨⟨by decide +kernel, by decide +kernel⟩, List.mem_of_getElem? (i := 326) (by decide +kernel), List.mem_of_getElem? (i := 970) (by decide +kernel), List.mem_of_getElem? (i := 971) (by decide +kernel)⟩
theorem lw_p44 : lw_okq (⟨"HalfHands$Orders", "joined", "(II)I"⟩, 12) := ⟨⟨by decide +kernel, by decide +kernel⟩, List.mem_of_getElem? (i := 326) (by decide +kernel), List.mem_of_getElem? (i := 974) (by decide +kernel), List.mem_of_getElem? (i := 975) (by decide +kernel)⟩
theorem lw_p45 : lw_okq (⟨"HalfHands$Orders", "laidRow", "(I)J"⟩, 12) := ⟨⟨by decide +kernel, by decide +kernel⟩, List.mem_of_getElem? (i := 326) (by decide +kernel), List.mem_of_getElem? (i := 997) (by decide +kernel), List.mem_of_getElem? (i := 998) (by decide +kernel)⟩
theorem lw_p46 : lw_okq (⟨"HalfHands$Orders", "lay", "(I)V"⟩, 12) := ⟨⟨by decide +kernel, by decide +kernel⟩, List.mem_of_getElem? (i := 326) (by decide +kernel), List.mem_of_getElem? (i := 1001) (by decide +kernel), List.mem_of_getElem? (i := 1002) (by decide +kernel)⟩
theorem lw_p47 : lw_okq (⟨"HalfHands$Orders", "chosen", "(IIII)I"⟩, 12) := ⟨⟨by decide +kernel, by decide +kernel⟩, List.mem_of_getElem? (i := 326) (by decide +kernel), List.mem_of_getElem? (i := 1005) (by decide +kernel), List.mem_of_getElem? (i := 1006) (by decide +kernel)⟩
def lw_privs_3 : List (MethodName × Nat) := [(⟨"HalfHands$Row", "ageAt", "(LHalfHands$Telling;I)I"⟩, 2), (⟨"HalfHands", "endOfBack", "(II)I"⟩, 14), (⟨"HalfHands$Orders", "askOddOnes", "()V"⟩, 12), (⟨"HalfHands$Orders", "askOddOne", "(IIII)V"⟩, 12), (⟨"HalfHands$Orders", "solved", "(II)I"⟩, 12), (⟨"HalfHands$Orders", "everybody", "()I"⟩, 12), (⟨"HalfHands$Orders", "judged", "(III)I"⟩, 12), (⟨"HalfHands$Orders", "judgedEnd", "(III)I"⟩, 12), (⟨"HalfHands$Orders", "handed", "(IIII)I"⟩, 12), (⟨"HalfHands$Orders", "isAskedOf", "(II)Z"⟩, 12), (⟨"HalfHands$Orders", "judgedStep", "(IIII)I"⟩, 12), (⟨"HalfHands$Orders", "overtaken", "(II)I"⟩, 12), (⟨"HalfHands$Orders", "joined", "(II)I"⟩, 12), (⟨"HalfHands$Orders", "laidRow", "(I)J"⟩, 12), (⟨"HalfHands$Orders", "lay", "(I)V"⟩, 12), (⟨"HalfHands$Orders", "chosen", "(IIII)I"⟩, 12)]
theorem lw_r3 : ∀ q ∈ lw_privs_3, lw_okq q := List.forall_mem_cons.mpr ⟨lw_p32, List.forall_mem_cons.mpr ⟨lw_p33, List.forall_mem_cons.mpr ⟨lw_p34, List.forall_mem_cons.mpr ⟨lw_p35, List.forall_mem_cons.mpr ⟨lw_p36, List.forall_mem_cons.mpr ⟨lw_p37, List.forall_mem_cons.mpr ⟨lw_p38, List.forall_mem_cons.mpr ⟨lw_p39, List.forall_mem_cons.mpr ⟨lw_p40, List.forall_mem_cons.mpr ⟨lw_p41, List.forall_mem_cons.mpr ⟨lw_p42, List.forall_mem_cons.mpr ⟨lw_p43, List.forall_mem_cons.mpr ⟨lw_p44, List.forall_mem_cons.mpr ⟨lw_p45, List.forall_mem_cons.mpr ⟨lw_p46, List.forall_mem_cons.mpr ⟨lw_p47, fun _ h => absurd h List.not_mem_nil⟩⟩⟩⟩⟩⟩⟩⟩⟩⟩⟩⟩⟩⟩⟩⟩
theorem lw_p48 : lw_okq (⟨"HalfHands$Orders", "leads", "(II)Z"⟩, 12) := ⟨⟨by decide +kernel, by decide +kernel⟩, List.mem_of_getElem? (i := 326) (by decide +kernel), List.mem_of_getElem? (i := 1009) (by decide +kernel), List.mem_of_getElem? (i := 1010) (by decide +kernel)⟩
theorem lw_p49 : lw_okq (⟨"HalfHands$Orders", "numberOf", "(I)I"⟩, 12) := ⟨⟨by decide +kernel, by decide +kernel⟩, List.mem_of_getElem? (i := 326) (by decide +kernel), List.mem_of_getElem? (i := 1040) (by decide +kernel), List.mem_of_getElem? (i := 1041) (by decide +kernel)⟩
theorem lw_p50 : lw_okq (⟨"HalfHands", "isOutdone", "(I)Z"⟩, 14) := ⟨⟨by decide +kernel, by decide +kernel⟩, List.mem_of_getElem? (i := 26) (by decide +kernel), List.mem_of_getElem? (i := 1079) (by decide +kernel), List.mem_of_getElem? (i := 1080) (by decide +kernel)⟩
theorem lw_p51 : lw_okq (⟨"HalfHands", "lawNumbered", "(I)I"⟩, 14) := ⟨⟨by decide +kernel, by decide +kernel⟩, List.mem_of_getElem? (i := 26) (by decide +kernel), List.mem_of_getElem? (i := 1121) (by decide +kernel), List.mem_of_getElem? (i := 1122) (by decide +kernel)⟩
theorem lw_p52 : lw_okq (⟨"HalfHands", "agrees", "(I)Z"⟩, 14) := ⟨⟨by decide +kernel, by decide +kernel⟩, List.mem_of_getElem? (i := 26) (by decide +kernel), List.mem_of_getElem? (i := 1125) (by decide +kernel), List.mem_of_getElem? (i := 1126) (by decide +kernel)⟩
theorem lw_p53 : lw_okq (⟨"HalfHands", "isTrial", "(II)Z"⟩, 14) := ⟨⟨by decide +kernel, by decide +kernel⟩, List.mem_of_getElem? (i := 26) (by decide +kernel), List.mem_of_getElem? (i := 1146) (by decide +kernel), List.mem_of_getElem? (i := 1147) (by decide +kernel)⟩
theorem lw_p54 : lw_okq (⟨"java/lang/Throwable", "fillInStackTrace", "(I)Ljava/lang/Throwable;"⟩, 6) := ⟨⟨by decide +kernel, by decide +kernel⟩, List.mem_of_getElem? (i := 1214) (by decide +kernel), List.mem_of_getElem? (i := 1212) (by decide +kernel), List.mem_of_getElem? (i := 1213) (by decide +kernel)⟩
theorem lw_p55 : lw_okq (⟨"HalfHandsModel", "token", "()V"⟩, 80) := ⟨⟨by decide +kernel, by decide +kernel⟩, List.mem_of_getElem? (i := 1255) (by decide +kernel), List.mem_of_getElem? (i := 1514) (by decide +kernel), List.mem_of_getElem? (i := 1515) (by decide +kernel)⟩
theorem lw_p56 : lw_okq (⟨"HalfHandsModel", "here", "()I"⟩, 80) := ⟨⟨by decide +kernel, by decide +kernel⟩, List.mem_of_getElem? (i := 1255) (by decide +kernel), List.mem_of_getElem? (i := 1518) (by decide +kernel), List.mem_of_getElem? (i := 1519) (by decide +kernel)⟩
theorem lw_p57 : lw_okq (⟨"HalfHandsModel", "word", "()I"⟩, 80) := ⟨⟨by decide +kernel, by decide +kernel⟩, List.mem_of_getElem? (i := 1255) (by decide +kernel), List.mem_of_getElem? (i := 1525) (by decide +kernel), List.mem_of_getElem? (i := 1526) (by decide +kernel)⟩
theorem lw_p58 : lw_okq (⟨"HalfHandsModel", "name", "()V"⟩, 80) := ⟨⟨by decide +kernel, by decide +kernel⟩, List.mem_of_getElem? (i := 1255) (by decide +kernel), List.mem_of_getElem? (i := 1532) (by decide +kernel), List.mem_of_getElem? (i := 1533) (by decide +kernel)⟩
theorem lw_p59 : lw_okq (⟨"HalfHandsModel", "sign", "(I)V"⟩, 80) := ⟨⟨by decide +kernel, by decide +kernel⟩, List.mem_of_getElem? (i := 1255) (by decide +kernel), List.mem_of_getElem? (i := 1540) (by decide +kernel), List.mem_of_getElem? (i := 1541) (by decide +kernel)⟩
theorem lw_p60 : lw_okq (⟨"HalfHandsModel", "line", "()V"⟩, 80) := ⟨⟨by decide +kernel, by decide +kernel⟩, List.mem_of_getElem? (i := 1255) (by decide +kernel), List.mem_of_getElem? (i := 1544) (by decide +kernel), List.mem_of_getElem? (i := 1545) (by decide +kernel)⟩
theorem lw_p61 : lw_okq (⟨"HalfHandsModel", "wrong", "(I)V"⟩, 80) := ⟨⟨by decide +kernel, by decide +kernel⟩, List.mem_of_getElem? (i := 1255) (by decide +kernel), List.mem_of_getElem? (i := 1548) (by decide +kernel), List.mem_of_getElem? (i := 1549) (by decide +kernel)⟩
theorem lw_p62 : lw_okq (⟨"HalfHandsModel", "fresher", "(I)I"⟩, 80) := ⟨⟨by decide +kernel, by decide +kernel⟩, List.mem_of_getElem? (i := 1255) (by decide +kernel), List.mem_of_getElem? (i := 1552) (by decide +kernel), List.mem_of_getElem? (i := 1553) (by decide +kernel)⟩
theorem lw_p63 : lw_okq (⟨"HalfHandsModel", "personLine", "(I)V"⟩, 80) := ⟨⟨by decide +kernel, by decide +kernel⟩, List.mem_of_getElem? (i := 1255) (by decide +kernel), List.mem_of_getElem? (i := 1556) (by decide +kernel), List.mem_of_getElem? (i := 1557) (by decide +kernel)⟩
def lw_privs_4 : List (MethodName × Nat) := [(⟨"HalfHands$Orders", "leads", "(II)Z"⟩, 12), (⟨"HalfHands$Orders", "numberOf", "(I)I"⟩, 12), (⟨"HalfHands", "isOutdone", "(I)Z"⟩, 14), (⟨"HalfHands", "lawNumbered", "(I)I"⟩, 14), (⟨"HalfHands", "agrees", "(I)Z"⟩, 14), (⟨"HalfHands", "isTrial", "(II)Z"⟩, 14), (⟨"java/lang/Throwable", "fillInStackTrace", "(I)Ljava/lang/Throwable;"⟩, 6), (⟨"HalfHandsModel", "token", "()V"⟩, 80), (⟨"HalfHandsModel", "here", "()I"⟩, 80), (⟨"HalfHandsModel", "word", "()I"⟩, 80), (⟨"HalfHandsModel", "name", "()V"⟩, 80), (⟨"HalfHandsModel", "sign", "(I)V"⟩, 80), (⟨"HalfHandsModel", "line", "()V"⟩, 80), (⟨"HalfHandsModel", "wrong", "(I)V"⟩, 80), (⟨"HalfHandsModel", "fresher", "(I)I"⟩, 80), (⟨"HalfHandsModel", "personLine", "(I)V"⟩, 80)]
theorem lw_r4 : ∀ q ∈ lw_privs_4, lw_okq q := List.forall_mem_cons.mpr ⟨lw_p48, List.forall_mem_cons.mpr ⟨lw_p49, List.forall_mem_cons.mpr ⟨lw_p50, List.forall_mem_cons.mpr ⟨lw_p51, List.forall_mem_cons.mpr ⟨lw_p52, List.forall_mem_cons.mpr ⟨lw_p53, List.forall_mem_cons.mpr ⟨lw_p54, List.forall_mem_cons.mpr ⟨lw_p55, List.forall_mem_cons.mpr ⟨lw_p56, List.forall_mem_cons.mpr ⟨lw_p57, List.forall_mem_cons.mpr ⟨lw_p58, List.forall_mem_cons.mpr ⟨lw_p59, List.forall_mem_cons.mpr ⟨lw_p60, List.forall_mem_cons.mpr ⟨lw_p61, List.forall_mem_cons.mpr ⟨lw_p62, List.forall_mem_cons.mpr ⟨lw_p63, fun _ h => absurd h List.not_mem_nil⟩⟩⟩⟩⟩⟩⟩⟩⟩⟩⟩⟩⟩⟩⟩⟩
theorem lw_p64 : lw_okq (⟨"HalfHandsModel", "fresh", "([III)I"⟩, 80) := ⟨⟨by decide +kernel, by decide +kernel⟩, List.mem_of_getElem? (i := 1255) (by decide +kernel), List.mem_of_getElem? (i := 1560) (by decide +kernel), List.mem_of_getElem? (i := 1561) (by decide +kernel)⟩
theorem lw_p65 : lw_okq (⟨"HalfHandsModel", "numeral", "(II)I"⟩, 80) := ⟨⟨by decide +kernel, by decide +kernel⟩, List.mem_of_getElem? (i := 1255) (by decide +kernel), List.mem_of_getElem? (i := 1567) (by decide +kernel), List.mem_of_getElem? (i := 1568) (by decide +kernel)⟩
theorem lw_p66 : lw_okq (⟨"HalfHandsModel", "isWord", "(I)Z"⟩, 80) := ⟨⟨by decide +kernel, by decide +kernel⟩, List.mem_of_getElem? (i := 1255) (by decide +kernel), List.mem_of_getElem? (i := 1571) (by decide +kernel), List.mem_of_getElem? (i := 1572) (by decide +kernel)⟩
theorem lw_p67 : lw_okq (⟨"HalfHandsModel", "oneMore", "(I)V"⟩, 80) := ⟨⟨by decide +kernel, by decide +kernel⟩, List.mem_of_getElem? (i := 1255) (by decide +kernel), List.mem_of_getElem? (i := 1575) (by decide +kernel), List.mem_of_getElem? (i := 1576) (by decide +kernel)⟩
theorem lw_p68 : lw_okq (⟨"HalfHandsModel", "handsLine", "()V"⟩, 80) := ⟨⟨by decide +kernel, by decide +kernel⟩, List.mem_of_getElem? (i := 1255) (by decide +kernel), List.mem_of_getElem? (i := 1579) (by decide +kernel), List.mem_of_getElem? (i := 1580) (by decide +kernel)⟩
theorem lw_p69 : lw_okq (⟨"HalfHandsModel", "person", "()I"⟩, 80) := ⟨⟨by decide +kernel, by decide +kernel⟩, List.mem_of_getElem? (i := 1255) (by decide +kernel), List.mem_of_getElem? (i := 1583) (by decide +kernel), List.mem_of_getElem? (i := 1584) (by decide +kernel)⟩
theorem lw_p70 : lw_okq (⟨"HalfHandsModel", "goOn", "()V"⟩, 80) := ⟨⟨by decide +kernel, by decide +kernel⟩, List.mem_of_getElem? (i := 1255) (by decide +kernel), List.mem_of_getElem? (i := 1587) (by decide +kernel), List.mem_of_getElem? (i := 1588) (by decide +kernel)⟩
theorem lw_p71 : lw_okq (⟨"HalfHandsModel", "handsOne", "(I)V"⟩, 80) := ⟨⟨by decide +kernel, by decide +kernel⟩, List.mem_of_getElem? (i := 1255) (by decide +kernel), List.mem_of_getElem? (i := 1591) (by decide +kernel), List.mem_of_getElem? (i := 1592) (by decide +kernel)⟩
theorem lw_p72 : lw_okq (⟨"HalfHandsModel", "parcelLine", "(I)V"⟩, 80) := ⟨⟨by decide +kernel, by decide +kernel⟩, List.mem_of_getElem? (i := 1255) (by decide +kernel), List.mem_of_getElem? (i := 1595) (by decide +kernel), List.mem_of_getElem? (i := 1596) (by decide +kernel)⟩
theorem lw_p73 : lw_okq (⟨"HalfHandsModel", "expression", "()V"⟩, 80) := ⟨⟨by decide +kernel, by decide +kernel⟩, List.mem_of_getElem? (i := 1255) (by decide +kernel), List.mem_of_getElem? (i := 1599) (by decide +kernel), List.mem_of_getElem? (i := 1600) (by decide +kernel)⟩
theorem lw_p74 : lw_okq (⟨"HalfHandsModel", "conjunction", "()V"⟩, 80) := ⟨⟨by decide +kernel, by decide +kernel⟩, List.mem_of_getElem? (i := 1255) (by decide +kernel), List.mem_of_getElem? (i := 1603) (by decide +kernel), List.mem_of_getElem? (i := 1604) (by decide +kernel)⟩
theorem lw_p75 : lw_okq (⟨"HalfHandsModel", "negation", "()V"⟩, 80) := ⟨⟨by decide +kernel, by decide +kernel⟩, List.mem_of_getElem? (i := 1255) (by decide +kernel), List.mem_of_getElem? (i := 1607) (by decide +kernel), List.mem_of_getElem? (i := 1608) (by decide +kernel)⟩
theorem lw_p76 : lw_okq (⟨"HalfHandsModel", "knot", "()V"⟩, 80) := ⟨⟨by decide +kernel, by decide +kernel⟩, List.mem_of_getElem? (i := 1255) (by decide +kernel), List.mem_of_getElem? (i := 1611) (by decide +kernel), List.mem_of_getElem? (i := 1612) (by decide +kernel)⟩
theorem lw_p77 : lw_okq (⟨"HalfHandsModel", "puts", "(II)V"⟩, 80) := ⟨⟨by decide +kernel, by decide +kernel⟩, List.mem_of_getElem? (i := 1255) (by decide +kernel), List.mem_of_getElem? (i := 1615) (by decide +kernel), List.mem_of_getElem? (i := 1616) (by decide +kernel)⟩
theorem lw_p78 : lw_okq (⟨"HalfHandsModel", "sum", "()V"⟩, 80) := ⟨⟨by decide +kernel, by decide +kernel⟩, List.mem_of_getElem? (i := 1255) (by decide +kernel), List.mem_of_getElem? (i := 1619) (by decide +kernel), List.mem_of_getElem? (i := 1620) (by decide +kernel)⟩
theorem lw_p79 : lw_okq (⟨"HalfHandsModel", "product", "()V"⟩, 80) := ⟨⟨by decide +kernel, by decide +kernel⟩, List.mem_of_getElem? (i := 1255) (by decide +kernel), List.mem_of_getElem? (i := 1623) (by decide +kernel), List.mem_of_getElem? (i := 1624) (by decide +kernel)⟩
def lw_privs_5 : List (MethodName × Nat) := [(⟨"HalfHandsModel", "fresh", "([III)I"⟩, 80), (⟨"HalfHandsModel", "numeral", "(II)I"⟩, 80), (⟨"HalfHandsModel", "isWord", "(I)Z"⟩, 80), (⟨"HalfHandsModel", "oneMore", "(I)V"⟩, 80), (⟨"HalfHandsModel", "handsLine", "()V"⟩, 80), (⟨"HalfHandsModel", "person", "()I"⟩, 80), (⟨"HalfHandsModel", "goOn", "()V"⟩, 80), (⟨"HalfHandsModel", "handsOne", "(I)V"⟩, 80), (⟨"HalfHandsModel", "parcelLine", "(I)V"⟩, 80), (⟨"HalfHandsModel", "expression", "()V"⟩, 80), (⟨"HalfHandsModel", "conjunction", "()V"⟩, 80), (⟨"HalfHandsModel", "negation", "()V"⟩, 80), (⟨"HalfHandsModel", "knot", "()V"⟩, 80), (⟨"HalfHandsModel", "puts", "(II)V"⟩, 80), (⟨"HalfHandsModel", "sum", "()V"⟩, 80), (⟨"HalfHandsModel", "product", "()V"⟩, 80)]
theorem lw_r5 : ∀ q ∈ lw_privs_5, lw_okq q := List.forall_mem_cons.mpr ⟨lw_p64, List.forall_mem_cons.mpr ⟨lw_p65, List.forall_mem_cons.mpr ⟨lw_p66, List.forall_mem_cons.mpr ⟨lw_p67, List.forall_mem_cons.mpr ⟨lw_p68, List.forall_mem_cons.mpr ⟨lw_p69, List.forall_mem_cons.mpr ⟨lw_p70, List.forall_mem_cons.mpr ⟨lw_p71, List.forall_mem_cons.mpr ⟨lw_p72, List.forall_mem_cons.mpr ⟨lw_p73, List.forall_mem_cons.mpr ⟨lw_p74, List.forall_mem_cons.mpr ⟨lw_p75, List.forall_mem_cons.mpr ⟨lw_p76, List.forall_mem_cons.mpr ⟨lw_p77, List.forall_mem_cons.mpr ⟨lw_p78, List.forall_mem_cons.mpr ⟨lw_p79, fun _ h => absurd h List.not_mem_nil⟩⟩⟩⟩⟩⟩⟩⟩⟩⟩⟩⟩⟩⟩⟩⟩
theorem lw_p80 : lw_okq (⟨"HalfHandsModel", "primary", "()V"⟩, 80) := ⟨⟨by decide +kernel, by decide +kernel⟩, List.mem_of_getElem? (i := 1255) (by decide +kernel), List.mem_of_getElem? (i := 1627) (by decide +kernel), List.mem_of_getElem? (i := 1628) (by decide +kernel)⟩
theorem lw_p81 : lw_okq (⟨"HalfHandsModel", "isSign", "(I)Z"⟩, 80) := ⟨⟨by decide +kernel, by decide +kernel⟩, List.mem_of_getElem? (i := 1255) (by decide +kernel), List.mem_of_getElem? (i := 1631) (by decide +kernel), List.mem_of_getElem? (i := 1632) (by decide +kernel)⟩
theorem lw_p82 : lw_okq (⟨"HalfHandsModel", "plain", "()V"⟩, 80) := ⟨⟨by decide +kernel, by decide +kernel⟩, List.mem_of_getElem? (i := 1255) (by decide +kernel), List.mem_of_getElem? (i := 1638) (by decide +kernel), List.mem_of_getElem? (i := 1639) (by decide +kernel)⟩
theorem lw_p83 : lw_okq (⟨"HalfHandsModel", "begins", "(I)V"⟩, 80) := ⟨⟨by decide +kernel, by decide +kernel⟩, List.mem_of_getElem? (i := 1255) (by decide +kernel), List.mem_of_getElem? (i := 1642) (by decide +kernel), List.mem_of_getElem? (i := 1643) (by decide +kernel)⟩
theorem lw_p84 : lw_okq (⟨"HalfHandsModel", "newParcel", "(I)V"⟩, 80) := ⟨⟨by decide +kernel, by decide +kernel⟩, List.mem_of_getElem? (i := 1255) (by decide +kernel), List.mem_of_getElem? (i := 1646) (by decide +kernel), List.mem_of_getElem? (i := 1647) (by decide +kernel)⟩
theorem lw_p85 : lw_okq (⟨"HalfHandsModel", "lays", "(IIIII)V"⟩, 80) := ⟨⟨by decide +kernel, by decide +kernel⟩, List.mem_of_getElem? (i := 1255) (by decide +kernel), List.mem_of_getElem? (i := 1663) (by decide +kernel), List.mem_of_getElem? (i := 1664) (by decide +kernel)⟩
theorem lw_p86 : lw_okq (⟨"HalfHandsModel", "goes", "(I)Z"⟩, 80) := ⟨⟨by decide +kernel, by decide +kernel⟩, List.mem_of_getElem? (i := 1255) (by decide +kernel), List.mem_of_getElem? (i := 1670) (by decide +kernel), List.mem_of_getElem? (i := 1671) (by decide +kernel)⟩
theorem lw_p87 : lw_okq (⟨"HalfHandsModel", "works", "(I)Z"⟩, 80) := ⟨⟨by decide +kernel, by decide +kernel⟩, List.mem_of_getElem? (i := 1255) (by decide +kernel), List.mem_of_getElem? (i := 1674) (by decide +kernel), List.mem_of_getElem? (i := 1675) (by decide +kernel)⟩
theorem lw_p88 : lw_okq (⟨"HalfHandsModel", "isPerson", "(I)Z"⟩, 80) := ⟨⟨by decide +kernel, by decide +kernel⟩, List.mem_of_getElem? (i := 1255) (by decide +kernel), List.mem_of_getElem? (i := 1687) (by decide +kernel), List.mem_of_getElem? (i := 1688) (by decide +kernel)⟩
theorem lw_p89 : lw_okq (⟨"HalfHandsModel", "passes", "(I)V"⟩, 80) := ⟨⟨by decide +kernel, by decide +kernel⟩, List.mem_of_getElem? (i := 1255) (by decide +kernel), List.mem_of_getElem? (i := 1695) (by decide +kernel), List.mem_of_getElem? (i := 1696) (by decide +kernel)⟩
theorem lw_p90 : lw_okq (⟨"HalfHandsModel", "manyOf", "(I)I"⟩, 80) := ⟨⟨by decide +kernel, by decide +kernel⟩, List.mem_of_getElem? (i := 1255) (by decide +kernel), List.mem_of_getElem? (i := 1699) (by decide +kernel), List.mem_of_getElem? (i := 1700) (by decide +kernel)⟩
theorem lw_p91 : lw_okq (⟨"HalfHandsModel", "rests", "(IIII)V"⟩, 80) := ⟨⟨by decide +kernel, by decide +kernel⟩, List.mem_of_getElem? (i := 1255) (by decide +kernel), List.mem_of_getElem? (i := 1704) (by decide +kernel), List.mem_of_getElem? (i := 1705) (by decide +kernel)⟩
theorem lw_p92 : lw_okq (⟨"HalfHandsModel", "handsOn", "(IIII)V"⟩, 80) := ⟨⟨by decide +kernel, by decide +kernel⟩, List.mem_of_getElem? (i := 1255) (by decide +kernel), List.mem_of_getElem? (i := 1708) (by decide +kernel), List.mem_of_getElem? (i := 1709) (by decide +kernel)⟩
theorem lw_p93 : lw_okq (⟨"HalfHandsModel", "nextOf", "(II)I"⟩, 80) := ⟨⟨by decide +kernel, by decide +kernel⟩, List.mem_of_getElem? (i := 1255) (by decide +kernel), List.mem_of_getElem? (i := 1712) (by decide +kernel), List.mem_of_getElem? (i := 1713) (by decide +kernel)⟩
theorem lw_p94 : lw_okq (⟨"HalfHandsModel", "comes", "(II)V"⟩, 80) := ⟨⟨by decide +kernel, by decide +kernel⟩, List.mem_of_getElem? (i := 1255) (by decide +kernel), List.mem_of_getElem? (i := 1716) (by decide +kernel), List.mem_of_getElem? (i := 1717) (by decide +kernel)⟩
theorem lw_p95 : lw_okq (⟨"HalfHandsModel", "kept", "(IIIII)I"⟩, 80) := ⟨⟨by decide +kernel, by decide +kernel⟩, List.mem_of_getElem? (i := 1255) (by decide +kernel), List.mem_of_getElem? (i := 1720) (by decide +kernel), List.mem_of_getElem? (i := 1721) (by decide +kernel)⟩
def lw_privs_6 : List (MethodName × Nat) := [(⟨"HalfHandsModel", "primary", "()V"⟩, 80), (⟨"HalfHandsModel", "isSign", "(I)Z"⟩, 80), (⟨"HalfHandsModel", "plain", "()V"⟩, 80), (⟨"HalfHandsModel", "begins", "(I)V"⟩, 80), (⟨"HalfHandsModel", "newParcel", "(I)V"⟩, 80), (⟨"HalfHandsModel", "lays", "(IIIII)V"⟩, 80), (⟨"HalfHandsModel", "goes", "(I)Z"⟩, 80), (⟨"HalfHandsModel", "works", "(I)Z"⟩, 80), (⟨"HalfHandsModel", "isPerson", "(I)Z"⟩, 80), (⟨"HalfHandsModel", "passes", "(I)V"⟩, 80), (⟨"HalfHandsModel", "manyOf", "(I)I"⟩, 80), (⟨"HalfHandsModel", "rests", "(IIII)V"⟩, 80), (⟨"HalfHandsModel", "handsOn", "(IIII)V"⟩, 80), (⟨"HalfHandsModel", "nextOf", "(II)I"⟩, 80), (⟨"HalfHandsModel", "comes", "(II)V"⟩, 80), (⟨"HalfHandsModel", "kept", "(IIIII)I"⟩, 80)]
theorem lw_r6 : ∀ q ∈ lw_privs_6, lw_okq q := List.forall_mem_cons.mpr ⟨lw_p80, List.forall_mem_cons.mpr ⟨lw_p81, List.forall_mem_cons.mpr ⟨lw_p82, List.forall_mem_cons.mpr ⟨lw_p83, List.forall_mem_cons.mpr ⟨lw_p84, List.forall_mem_cons.mpr ⟨lw_p85, List.forall_mem_cons.mpr ⟨lw_p86, List.forall_mem_cons.mpr ⟨lw_p87, List.forall_mem_cons.mpr ⟨lw_p88, List.forall_mem_cons.mpr ⟨lw_p89, List.forall_mem_cons.mpr ⟨lw_p90, List.forall_mem_cons.mpr ⟨lw_p91, List.forall_mem_cons.mpr ⟨lw_p92, List.forall_mem_cons.mpr ⟨lw_p93, List.forall_mem_cons.mpr ⟨lw_p94, List.forall_mem_cons.mpr ⟨lw_p95, fun _ h => absurd h List.not_mem_nil⟩⟩⟩⟩⟩⟩⟩⟩⟩⟩⟩⟩⟩⟩⟩⟩
theorem lw_p96 : lw_okq (⟨"HalfHandsModel", "ageOf", "(I)I"⟩, 80) := ⟨⟨by decide +kernel, by decide +kernel⟩, List.mem_of_getElem? (i := 1255) (by decide +kernel), List.mem_of_getElem? (i := 1724) (by decide +kernel), List.mem_of_getElem? (i := 1725) (by decide +kernel)⟩
theorem lw_p97 : lw_okq (⟨"HalfHandsModel", "isParcel", "(I)Z"⟩, 80) := ⟨⟨by decide +kernel, by decide +kernel⟩, List.mem_of_getElem? (i := 1255) (by decide +kernel), List.mem_of_getElem? (i := 1736) (by decide +kernel), List.mem_of_getElem? (i := 1737) (by decide +kernel)⟩
theorem lw_p98 : lw_okq (⟨"HalfHandsModel", "copies", "(II)V"⟩, 80) := ⟨⟨by decide +kernel, by decide +kernel⟩, List.mem_of_getElem? (i := 1255) (by decide +kernel), List.mem_of_getElem? (i := 1748) (by decide +kernel), List.mem_of_getElem? (i := 1749) (by decide +kernel)⟩
theorem lw_p99 : lw_okq (⟨"HalfHandsModel", "isAllRest", "(I)Z"⟩, 80) := ⟨⟨by decide +kernel, by decide +kernel⟩, List.mem_of_getElem? (i := 1255) (by decide +kernel), List.mem_of_getElem? (i := 1752) (by decide +kernel), List.mem_of_getElem? (i := 1753) (by decide +kernel)⟩
theorem lw_p100 : lw_okq (⟨"HalfHandsModel", "takesSent", "(IJI)Z"⟩, 80) := ⟨⟨by decide +kernel, by decide +kernel⟩, List.mem_of_getElem? (i := 1255) (by decide +kernel), List.mem_of_getElem? (i := 1760) (by decide +kernel), List.mem_of_getElem? (i := 1761) (by decide +kernel)⟩
theorem lw_p101 : lw_okq (⟨"HalfHandsModel", "takes", "(IJ)Z"⟩, 80) := ⟨⟨by decide +kernel, by decide +kernel⟩, List.mem_of_getElem? (i := 1255) (by decide +kernel), List.mem_of_getElem? (i := 1765) (by decide +kernel), List.mem_of_getElem? (i := 1766) (by decide +kernel)⟩
theorem lw_p102 : lw_okq (⟨"HalfHandsModel", "sends", "(I)I"⟩, 80) := ⟨⟨by decide +kernel, by decide +kernel⟩, List.mem_of_getElem? (i := 1255) (by decide +kernel), List.mem_of_getElem? (i := 1770) (by decide +kernel), List.mem_of_getElem? (i := 1771) (by decide +kernel)⟩
theorem lw_p103 : lw_okq (⟨"HalfHandsModel", "laysBack", "(IJI)Z"⟩, 80) := ⟨⟨by decide +kernel, by decide +kernel⟩, List.mem_of_getElem? (i := 1255) (by decide +kernel), List.mem_of_getElem? (i := 1782) (by decide +kernel), List.mem_of_getElem? (i := 1783) (by decide +kernel)⟩
theorem lw_p104 : lw_okq (⟨"HalfHandsModel", "backs", "(I)V"⟩, 80) := ⟨⟨by decide +kernel, by decide +kernel⟩, List.mem_of_getElem? (i := 1255) (by decide +kernel), List.mem_of_getElem? (i := 1786) (by decide +kernel), List.mem_of_getElem? (i := 1787) (by decide +kernel)⟩
theorem lw_p105 : lw_okq (⟨"HalfHandsModel", "goesOn", "(JI)I"⟩, 80) := ⟨⟨by decide +kernel, by decide +kernel⟩, List.mem_of_getElem? (i := 1255) (by decide +kernel), List.mem_of_getElem? (i := 1792) (by decide +kernel), List.mem_of_getElem? (i := 1793) (by decide +kernel)⟩
theorem lw_p106 : lw_okq (⟨"HalfHandsModel", "goesThrough", "(IIII)V"⟩, 80) := ⟨⟨by decide +kernel, by decide +kernel⟩, List.mem_of_getElem? (i := 1255) (by decide +kernel), List.mem_of_getElem? (i := 1808) (by decide +kernel), List.mem_of_getElem? (i := 1809) (by decide +kernel)⟩
theorem lw_p107 : lw_okq (⟨"HalfHandsModel", "turns", "(II)V"⟩, 80) := ⟨⟨by decide +kernel, by decide +kernel⟩, List.mem_of_getElem? (i := 1255) (by decide +kernel), List.mem_of_getElem? (i := 1812) (by decide +kernel), List.mem_of_getElem? (i := 1813) (by decide +kernel)⟩
theorem lw_p108 : lw_okq (⟨"HalfHandsModel", "sees", "()V"⟩, 80) := ⟨⟨by decide +kernel, by decide +kernel⟩, List.mem_of_getElem? (i := 1255) (by decide +kernel), List.mem_of_getElem? (i := 1816) (by decide +kernel), List.mem_of_getElem? (i := 1817) (by decide +kernel)⟩
theorem lw_p109 : lw_okq (⟨"HalfHandsModel", "rowAsLong", "()J"⟩, 80) := ⟨⟨by decide +kernel, by decide +kernel⟩, List.mem_of_getElem? (i := 1255) (by decide +kernel), List.mem_of_getElem? (i := 1820) (by decide +kernel), List.mem_of_getElem? (i := 1821) (by decide +kernel)⟩
theorem lw_p110 : lw_okq (⟨"HalfHandsModel", "changesTo", "()I"⟩, 80) := ⟨⟨by decide +kernel, by decide +kernel⟩, List.mem_of_getElem? (i := 1255) (by decide +kernel), List.mem_of_getElem? (i := 1824) (by decide +kernel), List.mem_of_getElem? (i := 1825) (by decide +kernel)⟩
theorem lw_p111 : lw_okq (⟨"HalfHandsModel", "placeOf", "(I)I"⟩, 80) := ⟨⟨by decide +kernel, by decide +kernel⟩, List.mem_of_getElem? (i := 1255) (by decide +kernel), List.mem_of_getElem? (i := 1828) (by decide +kernel), List.mem_of_getElem? (i := 1829) (by decide +kernel)⟩
def lw_privs_7 : List (MethodName × Nat) := [(⟨"HalfHandsModel", "ageOf", "(I)I"⟩, 80), (⟨"HalfHandsModel", "isParcel", "(I)Z"⟩, 80), (⟨"HalfHandsModel", "copies", "(II)V"⟩, 80), (⟨"HalfHandsModel", "isAllRest", "(I)Z"⟩, 80), (⟨"HalfHandsModel", "takesSent", "(IJI)Z"⟩, 80), (⟨"HalfHandsModel", "takes", "(IJ)Z"⟩, 80), (⟨"HalfHandsModel", "sends", "(I)I"⟩, 80), (⟨"HalfHandsModel", "laysBack", "(IJI)Z"⟩, 80), (⟨"HalfHandsModel", "backs", "(I)V"⟩, 80), (⟨"HalfHandsModel", "goesOn", "(JI)I"⟩, 80), (⟨"HalfHandsModel", "goesThrough", "(IIII)V"⟩, 80), (⟨"HalfHandsModel", "turns", "(II)V"⟩, 80), (⟨"HalfHandsModel", "sees", "()V"⟩, 80), (⟨"HalfHandsModel", "rowAsLong", "()J"⟩, 80), (⟨"HalfHandsModel", "changesTo", "()I"⟩, 80), (⟨"HalfHandsModel", "placeOf", "(I)I"⟩, 80)]
theorem lw_r7 : ∀ q ∈ lw_privs_7, lw_okq q := List.forall_mem_cons.mpr ⟨lw_p96, List.forall_mem_cons.mpr ⟨lw_p97, List.forall_mem_cons.mpr ⟨lw_p98, List.forall_mem_cons.mpr ⟨lw_p99, List.forall_mem_cons.mpr ⟨lw_p100, List.forall_mem_cons.mpr ⟨lw_p101, List.forall_mem_cons.mpr ⟨lw_p102, List.forall_mem_cons.mpr ⟨lw_p103, List.forall_mem_cons.mpr ⟨lw_p104, List.forall_mem_cons.mpr ⟨lw_p105, List.forall_mem_cons.mpr ⟨lw_p106, List.forall_mem_cons.mpr ⟨lw_p107, List.forall_mem_cons.mpr ⟨lw_p108, List.forall_mem_cons.mpr ⟨lw_p109, List.forall_mem_cons.mpr ⟨lw_p110, List.forall_mem_cons.mpr ⟨lw_p111, fun _ h => absurd h List.not_mem_nil⟩⟩⟩⟩⟩⟩⟩⟩⟩⟩⟩⟩⟩⟩⟩⟩
theorem lw_p112 : lw_okq (⟨"HalfHandsModel", "isAimed", "(IJII)Z"⟩, 80) := ⟨⟨by decide +kernel, by decide +kernel⟩, List.mem_of_getElem? (i := 1255) (by decide +kernel), List.mem_of_getElem? (i := 1841) (by decide +kernel), List.mem_of_getElem? (i := 1842) (by decide +kernel)⟩
theorem lw_p113 : lw_okq (⟨"HalfHandsModel", "knownMany", "()I"⟩, 80) := ⟨⟨by decide +kernel, by decide +kernel⟩, List.mem_of_getElem? (i := 1255) (by decide +kernel), List.mem_of_getElem? (i := 1891) (by decide +kernel), List.mem_of_getElem? (i := 1892) (by decide +kernel)⟩
theorem lw_p114 : lw_okq (⟨"HalfHandsModel", "lawOf", "(I)I"⟩, 80) := ⟨⟨by decide +kernel, by decide +kernel⟩, List.mem_of_getElem? (i := 1255) (by decide +kernel), List.mem_of_getElem? (i := 1895) (by decide +kernel), List.mem_of_getElem? (i := 1896) (by decide +kernel)⟩
theorem lw_p115 : lw_okq (⟨"HalfHandsModel", "goesAsNoted", "()Z"⟩, 80) := ⟨⟨by decide +kernel, by decide +kernel⟩, List.mem_of_getElem? (i := 1255) (by decide +kernel), List.mem_of_getElem? (i := 1899) (by decide +kernel), List.mem_of_getElem? (i := 1900) (by decide +kernel)⟩
def lw_privs_8 : List (MethodName × Nat) := [(⟨"HalfHandsModel", "isAimed", "(IJII)Z"⟩, 80), (⟨"HalfHandsModel", "knownMany", "()I"⟩, 80), (⟨"HalfHandsModel", "lawOf", "(I)I"⟩, 80), (⟨"HalfHandsModel", "goesAsNoted", "()Z"⟩, 80)]
theorem lw_r8 : ∀ q ∈ lw_privs_8, lw_okq q := List.forall_mem_cons.mpr ⟨lw_p112, List.forall_mem_cons.mpr ⟨lw_p113, List.forall_mem_cons.mpr ⟨lw_p114, List.forall_mem_cons.mpr ⟨lw_p115, fun _ h => absurd h List.not_mem_nil⟩⟩⟩⟩
def lw_privs : List (MethodName × Nat) := lw_privs_1 ++ (lw_privs_2 ++ (lw_privs_3 ++ (lw_privs_4 ++ (lw_privs_5 ++ (lw_privs_6 ++ (lw_privs_7 ++ (lw_privs_8)))))))
def lw_tbl : List Cond := k2_sels lw_privs ++ tables_1
theorem lw_privs_ok : ∀ q ∈ lw_privs, lw_okq q := by
  show ∀ q ∈ lw_privs_1 ++ (lw_privs_2 ++ (lw_privs_3 ++ (lw_privs_4 ++ (lw_privs_5 ++ (lw_privs_6 ++ (lw_privs_7 ++ (lw_privs_8))))))), lw_okq q
  exact List.forall_mem_append.mpr ⟨lw_r1, List.forall_mem_append.mpr ⟨lw_r2, List.forall_mem_append.mpr ⟨lw_r3, List.forall_mem_append.mpr ⟨lw_r4, List.forall_mem_append.mpr ⟨lw_r5, List.forall_mem_append.mpr ⟨lw_r6, List.forall_mem_append.mpr ⟨lw_r7, lw_r8⟩⟩⟩⟩⟩⟩⟩
-- ===== end of PART A; then your names; then what follows =====
end
section
/-! The cells: classes by number, their fields; which cells there are behind the constructors, and what the references hold that never change. Printed by wip/gen/cells.py. -/
def jR0 : String := "HalfHands$Journey"
def jT0 : u_T := fun k => match k with
  | 0 => ("HalfHands$Journey", "hour", "I", false)
  | 1 => ("HalfHands$Journey", "purses", "[I", true)
  | 2 => ("HalfHands$Journey", "turns", "[I", true)
  | 3 => ("HalfHands$Journey", "parcels", "I", false)
  | 4 => ("HalfHands$Journey", "from", "[I", true)
  | 5 => ("HalfHands$Journey", "wholes", "[I", true)
  | 6 => ("HalfHands$Journey", "due", "[I", true)
  | 7 => ("HalfHands$Journey", "states", "[I", true)
  | 8 => ("HalfHands$Journey", "left", "[I", true)
  | 9 => ("HalfHands$Journey", "hands", "[I", true)
  | 10 => ("HalfHands$Journey", "to", "[I", true)
  | 11 => ("HalfHands$Journey", "told", "LHalfHands$Telling;", false)
  | 12 => ("HalfHands$Journey", "otherwise", "I", false)
  | _ => ("HalfHands$Journey", "whose", "I", false)
def jY0 : Nat → FieldType := fun k => match k with
  | 0 => .int
  | 1 => .array .int
  | 2 => .array .int
  | 3 => .int
  | 4 => .array .int
  | 5 => .array .int
  | 6 => .array .int
  | 7 => .array .int
  | 8 => .array .int
  | 9 => .array .int
  | 10 => .array .int
  | 11 => .object "HalfHands$Telling"
  | 12 => .int
  | _ => .int
def jR1 : String := "HalfHands$Laws"
def jT1 : u_T := fun k => match k with
  | 0 => ("HalfHands$Laws", "knots", "I", false)
  | 1 => ("HalfHands$Laws", "toldLaw", "Z", false)
  | 2 => ("HalfHands$Laws", "written", "I", false)
  | 3 => ("HalfHands$Laws", "kinds", "[I", true)
  | 4 => ("HalfHands$Laws", "numbers", "[I", true)
  | 5 => ("HalfHands$Laws", "starts", "[I", true)
  | 6 => ("HalfHands$Laws", "ends", "[I", true)
  | 7 => ("HalfHands$Laws", "names", "[I", true)
  | _ => ("HalfHands$Laws", "stack", "[J", true)
def jY1 : Nat → FieldType := fun k => match k with
  | 0 => .int
  | 1 => .boolean
  | 2 => .int
  | 3 => .array .int
  | 4 => .array .int
  | 5 => .array .int
  | 6 => .array .int
  | 7 => .array .int
  | _ => .array .long
def jR2 : String := "HalfHands$Notes"
def jT2 : u_T := fun k => match k with
  | 0 => ("HalfHands$Notes", "size", "I", false)
  | 1 => ("HalfHands$Notes", "knownBy", "I", false)
  | 2 => ("HalfHands$Notes", "lengths", "[I", true)
  | 3 => ("HalfHands$Notes", "rows", "[J", true)
  | 4 => ("HalfHands$Notes", "coins", "[I", true)
  | 5 => ("HalfHands$Notes", "lows", "[I", true)
  | 6 => ("HalfHands$Notes", "highs", "[I", true)
  | 7 => ("HalfHands$Notes", "targets", "[I", true)
  | _ => ("HalfHands$Notes", "struck", "[Z", true)
def jY2 : Nat → FieldType := fun k => match k with
  | 0 => .int
  | 1 => .int
  | 2 => .array .int
  | 3 => .array .long
  | 4 => .array .int
  | 5 => .array .int
  | 6 => .array .int
  | 7 => .array .int
  | _ => .array .boolean
def jR3 : String := "HalfHands$Orders"
def jT3 : u_T := fun k => match k with
  | 0 => ("HalfHands$Orders", "row", "LHalfHands$Row;", true)
  | 1 => ("HalfHands$Orders", "told", "LHalfHands$Telling;", false)
  | 2 => ("HalfHands$Orders", "size", "I", false)
  | 3 => ("HalfHands$Orders", "carriers", "[I", true)
  | 4 => ("HalfHands$Orders", "homes", "[I", true)
  | 5 => ("HalfHands$Orders", "floors", "[I", true)
  | 6 => ("HalfHands$Orders", "stays", "[Z", true)
  | 7 => ("HalfHands$Orders", "table", "[I", true)
  | 8 => ("HalfHands$Orders", "laid", "[I", true)
  | 9 => ("HalfHands$Orders", "laidSize", "I", false)
  | 10 => ("HalfHands$Orders", "aim", "I", false)
  | _ => ("HalfHands$Orders", "wanted", "I", false)
def jY3 : Nat → FieldType := fun k => match k with
  | 0 => .object "HalfHands$Row"
  | 1 => .object "HalfHands$Telling"
  | 2 => .int
  | 3 => .array .int
  | 4 => .array .int
  | 5 => .array .int
  | 6 => .array .boolean
  | 7 => .array .int
  | 8 => .array .int
  | 9 => .int
  | 10 => .int
  | _ => .int
def jR4 : String := "HalfHands$Reader"
def jT4 : u_T := fun k => match k with
  | 0 => ("HalfHands$Reader", "fault", "I", false)
  | 1 => ("HalfHands$Reader", "faultPlace", "I", false)
  | 2 => ("HalfHands$Reader", "tokens", "LHalfHands$Tokens;", true)
  | 3 => ("HalfHands$Reader", "told", "LHalfHands$Telling;", false)
  | _ => ("HalfHands$Reader", "number", "I", false)
def jY4 : Nat → FieldType := fun k => match k with
  | 0 => .int
  | 1 => .int
  | 2 => .object "HalfHands$Tokens"
  | 3 => .object "HalfHands$Telling"
  | _ => .int
def jR5 : String := "HalfHands$Row"
def jT5 : u_T := fun k => match k with
  | 0 => ("HalfHands$Row", "length", "I", false)
  | _ => ("HalfHands$Row", "people", "[I", true)
def jY5 : Nat → FieldType := fun k => match k with
  | 0 => .int
  | _ => .array .int
def jR6 : String := "HalfHands$Telling"
def jT6 : u_T := fun k => match k with
  | 0 => ("HalfHands$Telling", "people", "I", false)
  | 1 => ("HalfHands$Telling", "personNames", "[I", true)
  | 2 => ("HalfHands$Telling", "ages", "[I", true)
  | 3 => ("HalfHands$Telling", "purses", "[I", true)
  | 4 => ("HalfHands$Telling", "ways", "[I", true)
  | 5 => ("HalfHands$Telling", "heirs", "[I", true)
  | 6 => ("HalfHands$Telling", "parcels", "I", false)
  | 7 => ("HalfHands$Telling", "from", "[I", true)
  | 8 => ("HalfHands$Telling", "coins", "[I", true)
  | 9 => ("HalfHands$Telling", "due", "[I", true)
  | 10 => ("HalfHands$Telling", "mays", "I", false)
  | 11 => ("HalfHands$Telling", "mayNames", "[I", true)
  | _ => ("HalfHands$Telling", "laws", "LHalfHands$Laws;", true)
def jY6 : Nat → FieldType := fun k => match k with
  | 0 => .int
  | 1 => .array .int
  | 2 => .array .int
  | 3 => .array .int
  | 4 => .array .int
  | 5 => .array .int
  | 6 => .int
  | 7 => .array .int
  | 8 => .array .int
  | 9 => .array .int
  | 10 => .int
  | 11 => .array .int
  | _ => .object "HalfHands$Laws"
def jR7 : String := "HalfHands$Tokens"
def jT7 : u_T := fun k => match k with
  | 0 => ("HalfHands$Tokens", "kind", "I", false)
  | 1 => ("HalfHands$Tokens", "place", "I", false)
  | 2 => ("HalfHands$Tokens", "value", "I", false)
  | 3 => ("HalfHands$Tokens", "behind", "I", false)
  | 4 => ("HalfHands$Tokens", "length", "I", false)
  | 5 => ("HalfHands$Tokens", "bytes", "[I", true)
  | _ => ("HalfHands$Tokens", "words", "[I", true)
def jY7 : Nat → FieldType := fun k => match k with
  | 0 => .int
  | 1 => .int
  | 2 => .int
  | 3 => .int
  | 4 => .int
  | 5 => .array .int
  | _ => .array .int
def jR8 : String := "HalfHands"
def jT8 : u_T := fun k => match k with
  | 0 => ("HalfHands", "tape", "[I", true)
  | 1 => ("HalfHands", "tapeLength", "I", false)
  | 2 => ("HalfHands", "told", "LHalfHands$Telling;", false)
  | 3 => ("HalfHands", "spare", "LHalfHands$Telling;", false)
  | 4 => ("HalfHands", "reader", "LHalfHands$Reader;", true)
  | 5 => ("HalfHands", "faultKind", "I", false)
  | 6 => ("HalfHands", "faultPlace", "I", false)
  | 7 => ("HalfHands", "run", "LHalfHands$Journey;", true)
  | 8 => ("HalfHands", "image", "LHalfHands$Journey;", true)
  | 9 => ("HalfHands", "imaged", "Z", false)
  | 10 => ("HalfHands", "trial", "LHalfHands$Journey;", true)
  | 11 => ("HalfHands", "chain", "LHalfHands$Row;", true)
  | 12 => ("HalfHands", "orders", "LHalfHands$Orders;", true)
  | _ => ("HalfHands", "notes", "LHalfHands$Notes;", true)
def jY8 : Nat → FieldType := fun k => match k with
  | 0 => .array .int
  | 1 => .int
  | 2 => .object "HalfHands$Telling"
  | 3 => .object "HalfHands$Telling"
  | 4 => .object "HalfHands$Reader"
  | 5 => .int
  | 6 => .int
  | 7 => .object "HalfHands$Journey"
  | 8 => .object "HalfHands$Journey"
  | 9 => .boolean
  | 10 => .object "HalfHands$Journey"
  | 11 => .object "HalfHands$Row"
  | 12 => .object "HalfHands$Orders"
  | _ => .object "HalfHands$Notes"
def jR9 : String := "HalfHandsModel"
def jT9 : u_T := fun k => match k with
  | 0 => ("HalfHandsModel", "thrown", "I", false)
  | 1 => ("HalfHandsModel", "tape", "[I", true)
  | 2 => ("HalfHandsModel", "taped", "I", false)
  | 3 => ("HalfHandsModel", "number", "[I", true)
  | 4 => ("HalfHandsModel", "personName", "[I", true)
  | 5 => ("HalfHandsModel", "age", "[I", true)
  | 6 => ("HalfHandsModel", "purse", "[I", true)
  | 7 => ("HalfHandsModel", "handsMany", "[I", true)
  | 8 => ("HalfHandsModel", "handsTo", "[I", true)
  | 9 => ("HalfHandsModel", "toldFrom", "[I", true)
  | 10 => ("HalfHandsModel", "toldCoins", "[I", true)
  | 11 => ("HalfHandsModel", "toldHour", "[I", true)
  | 12 => ("HalfHandsModel", "mayName", "[I", true)
  | 13 => ("HalfHandsModel", "sumFrom", "[I", true)
  | 14 => ("HalfHandsModel", "sumTo", "[I", true)
  | 15 => ("HalfHandsModel", "knotSort", "[I", true)
  | 16 => ("HalfHandsModel", "knotValue", "[I", true)
  | 17 => ("HalfHandsModel", "lines", "I", false)
  | 18 => ("HalfHandsModel", "size", "I", false)
  | 19 => ("HalfHandsModel", "at", "I", false)
  | 20 => ("HalfHandsModel", "place", "I", false)
  | 21 => ("HalfHandsModel", "sort", "I", false)
  | 22 => ("HalfHandsModel", "value", "I", false)
  | 23 => ("HalfHandsModel", "fault", "I", false)
  | 24 => ("HalfHandsModel", "faultPlace", "I", false)
  | 25 => ("HalfHandsModel", "lastFault", "I", false)
  | 26 => ("HalfHandsModel", "lastPlace", "I", false)
  | 27 => ("HalfHandsModel", "open", "I", false)
  | 28 => ("HalfHandsModel", "counted", "I", false)
  | 29 => ("HalfHandsModel", "hasLaw", "Z", false)
  | 30 => ("HalfHandsModel", "tryWhat", "I", false)
  | 31 => ("HalfHandsModel", "tryAt", "I", false)
  | 32 => ("HalfHandsModel", "lawBy", "I", false)
  | 33 => ("HalfHandsModel", "names", "[J", true)
  | 34 => ("HalfHandsModel", "worked", "[J", true)
  | 35 => ("HalfHandsModel", "workedMany", "I", false)
  | 36 => ("HalfHandsModel", "parcels", "I", false)
  | 37 => ("HalfHandsModel", "fromOf", "[I", true)
  | 38 => ("HalfHandsModel", "coinsOf", "[I", true)
  | 39 => ("HalfHandsModel", "hourOf", "[I", true)
  | 40 => ("HalfHandsModel", "next", "[I", true)
  | 41 => ("HalfHandsModel", "has", "[I", true)
  | 42 => ("HalfHandsModel", "turn", "[I", true)
  | 43 => ("HalfHandsModel", "state", "[I", true)
  | 44 => ("HalfHandsModel", "onWay", "[I", true)
  | 45 => ("HalfHandsModel", "handsIn", "[I", true)
  | 46 => ("HalfHandsModel", "toWhom", "[I", true)
  | 47 => ("HalfHandsModel", "imageParcels", "I", false)
  | 48 => ("HalfHandsModel", "hasImage", "Z", false)
  | 49 => ("HalfHandsModel", "row", "[I", true)
  | 50 => ("HalfHandsModel", "rowMany", "I", false)
  | 51 => ("HalfHandsModel", "keptBy", "[I", true)
  | 52 => ("HalfHandsModel", "backFrom", "J", false)
  | 53 => ("HalfHandsModel", "backTo", "J", false)
  | 54 => ("HalfHandsModel", "first", "[I", true)
  | 55 => ("HalfHandsModel", "task", "I", false)
  | 56 => ("HalfHandsModel", "sent", "I", false)
  | 57 => ("HalfHandsModel", "aim", "I", false)
  | 58 => ("HalfHandsModel", "watched", "I", false)
  | 59 => ("HalfHandsModel", "most", "I", false)
  | 60 => ("HalfHandsModel", "least", "I", false)
  | 61 => ("HalfHandsModel", "mostAt", "I", false)
  | 62 => ("HalfHandsModel", "leastAt", "I", false)
  | 63 => ("HalfHandsModel", "mostRow", "J", false)
  | 64 => ("HalfHandsModel", "leastRow", "J", false)
  | 65 => ("HalfHandsModel", "orders", "I", false)
  | 66 => ("HalfHandsModel", "aimRow", "J", false)
  | 67 => ("HalfHandsModel", "fewest", "I", false)
  | 68 => ("HalfHandsModel", "fewestRow", "J", false)
  | 69 => ("HalfHandsModel", "notes", "I", false)
  | 70 => ("HalfHandsModel", "knownBy", "I", false)
  | 71 => ("HalfHandsModel", "noteMany", "[I", true)
  | 72 => ("HalfHandsModel", "noteRow", "[J", true)
  | 73 => ("HalfHandsModel", "noteCoins", "[I", true)
  | 74 => ("HalfHandsModel", "noteLow", "[I", true)
  | 75 => ("HalfHandsModel", "noteHigh", "[I", true)
  | 76 => ("HalfHandsModel", "isStruck", "[Z", true)
  | 77 => ("HalfHandsModel", "imageFrom", "[I", true)
  | 78 => ("HalfHandsModel", "imageCoins", "[I", true)
  | _ => ("HalfHandsModel", "imageHour", "[I", true)
def jY9 : Nat → FieldType := fun k => match k with
  | 0 => .int
  | 1 => .array .int
  | 2 => .int
  | 3 => .array .int
  | 4 => .array .int
  | 5 => .array .int
  | 6 => .array .int
  | 7 => .array .int
  | 8 => .array .int
  | 9 => .array .int
  | 10 => .array .int
  | 11 => .array .int
  | 12 => .array .int
  | 13 => .array .int
  | 14 => .array .int
  | 15 => .array .int
  | 16 => .array .int
  | 17 => .int
  | 18 => .int
  | 19 => .int
  | 20 => .int
  | 21 => .int
  | 22 => .int
  | 23 => .int
  | 24 => .int
  | 25 => .int
  | 26 => .int
  | 27 => .int
  | 28 => .int
  | 29 => .boolean
  | 30 => .int
  | 31 => .int
  | 32 => .int
  | 33 => .array .long
  | 34 => .array .long
  | 35 => .int
  | 36 => .int
  | 37 => .array .int
  | 38 => .array .int
  | 39 => .array .int
  | 40 => .array .int
  | 41 => .array .int
  | 42 => .array .int
  | 43 => .array .int
  | 44 => .array .int
  | 45 => .array .int
  | 46 => .array .int
  | 47 => .int
  | 48 => .boolean
  | 49 => .array .int
  | 50 => .int
  | 51 => .array .int
  | 52 => .long
  | 53 => .long
  | 54 => .array .int
  | 55 => .int
  | 56 => .int
  | 57 => .int
  | 58 => .int
  | 59 => .int
  | 60 => .int
  | 61 => .int
  | 62 => .int
  | 63 => .long
  | 64 => .long
  | 65 => .int
  | 66 => .long
  | 67 => .int
  | 68 => .long
  | 69 => .int
  | 70 => .int
  | 71 => .array .int
  | 72 => .array .long
  | 73 => .array .int
  | 74 => .array .int
  | 75 => .array .int
  | 76 => .array .boolean
  | 77 => .array .int
  | 78 => .array .int
  | _ => .array .int
abbrev jcl : List vw_C := [(jR0, jT0, 14), (jR1, jT1, 9), (jR2, jT2, 9), (jR3, jT3, 12), (jR4, jT4, 5), (jR5, jT5, 2), (jR6, jT6, 13), (jR7, jT7, 7), (jR8, jT8, 14), (jR9, jT9, 80)]
def jyl : List (Nat → FieldType) := [jY0, jY1, jY2, jY3, jY4, jY5, jY6, jY7, jY8, jY9]
/-- kinds of fields: 0 int, 1 boolean, 2 long, 3 a reference that may change, 4 one that never does -/
def jFK : List (List Nat) := [[0, 4, 4, 0, 4, 4, 4, 4, 4, 4, 4, 3, 0, 0], [0, 1, 0, 4, 4, 4, 4, 4, 4], [0, 0, 4, 4, 4, 4, 4, 4, 4], [4, 3, 0, 4, 4, 4, 4, 4, 4, 0, 0, 0], [0, 0, 4, 3, 0], [0, 4], [0, 4, 4, 4, 4, 4, 0, 4, 4, 4, 0, 4, 4], [0, 0, 0, 0, 0, 4, 4], [4, 0, 3, 3, 4, 0, 0, 4, 4, 1, 4, 4, 4, 4], [0, 4, 0, 4, 4, 4, 4, 4, 4, 4, 4, 4, 4, 4, 4, 4, 4, 0, 0, 0, 0, 0, 0, 0, 0, 0, 0, 0, 0, 1, 0, 0, 0, 4, 4, 0, 0, 4, 4, 4, 4, 4, 4, 4, 4, 4, 4, 0, 1, 4, 0, 4, 2, 2, 4, 0, 0, 0, 0, 0, 0, 0, 0, 2, 2, 0, 2, 0, 2, 0, 0, 4, 4, 4, 4, 4, 4, 4, 4, 4]]
/-- the cells: (0 int, 1 boolean, 2 long; length) of an array, or the number of an object's class -/
def jSH : List ((Nat × Nat) ⊕ Nat) := [.inr 8, .inl (0, 700), .inr 6, .inl (0, 10), .inl (0, 10), .inl (0, 10), .inl (0, 10), .inl (0, 30), .inl (0, 12), .inl (0, 12), .inl (0, 12), .inl (0, 4), .inr 1, .inl (0, 64), .inl (0, 64), .inl (0, 5), .inl (0, 5), .inl (0, 6), .inl (2, 64), .inr 6, .inl (0, 10), .inl (0, 10), .inl (0, 10), .inl (0, 10), .inl (0, 30), .inl (0, 12), .inl (0, 12), .inl (0, 12), .inl (0, 4), .inr 1, .inl (0, 64), .inl (0, 64), .inl (0, 5), .inl (0, 5), .inl (0, 6), .inl (2, 64), .inr 4, .inr 7, .inl (0, 16), .inr 0, .inl (0, 10), .inl (0, 10), .inl (0, 30), .inl (0, 30), .inl (0, 30), .inl (0, 30), .inl (0, 30), .inl (0, 30), .inl (0, 30), .inr 0, .inl (0, 10), .inl (0, 10), .inl (0, 30), .inl (0, 30), .inl (0, 30), .inl (0, 30), .inl (0, 30), .inl (0, 30), .inl (0, 30), .inr 0, .inl (0, 10), .inl (0, 10), .inl (0, 30), .inl (0, 30), .inl (0, 30), .inl (0, 30), .inl (0, 30), .inl (0, 30), .inl (0, 30), .inr 5, .inl (0, 10), .inr 3, .inl (0, 8), .inl (0, 8), .inl (0, 10), .inl (1, 729), .inl (0, 4096), .inl (0, 8), .inr 2, .inl (0, 40), .inl (2, 40), .inl (0, 40), .inl (0, 40), .inl (0, 40), .inl (0, 40), .inl (1, 40), .inr 9, .inl (0, 700), .inl (0, 8), .inl (0, 20), .inl (0, 20), .inl (0, 20), .inl (0, 20), .inl (0, 60), .inl (0, 24), .inl (0, 24), .inl (0, 24), .inl (0, 8), .inl (0, 10), .inl (0, 10), .inl (0, 128), .inl (0, 128), .inl (2, 6), .inl (2, 64), .inl (0, 30), .inl (0, 30), .inl (0, 30), .inl (0, 3), .inl (0, 30), .inl (0, 30), .inl (0, 90), .inl (0, 90), .inl (0, 90), .inl (0, 90), .inl (0, 10), .inl (0, 10), .inl (0, 10), .inl (0, 40), .inl (2, 40), .inl (0, 40), .inl (0, 40), .inl (0, 40), .inl (1, 40), .inl (0, 30), .inl (0, 30), .inl (0, 30), .inl (2, 1)]
/-- references that never change, by cell and field -/
def jCR : List (List Nat) := [[1, 0, 0, 0, 36, 0, 0, 39, 49, 0, 59, 69, 71, 78], [], [0, 3, 4, 5, 6, 7, 0, 8, 9, 10, 0, 11, 12], [], [], [], [], [], [], [], [], [], [0, 0, 0, 13, 14, 15, 16, 17, 18], [], [], [], [], [], [], [0, 20, 21, 22, 23, 24, 0, 25, 26, 27, 0, 28, 29], [], [], [], [], [], [], [], [], [], [0, 0, 0, 30, 31, 32, 33, 34, 35], [], [], [], [], [], [], [0, 0, 37, 0, 0], [0, 0, 0, 0, 0, 1, 38], [], [0, 40, 41, 0, 42, 43, 44, 45, 46, 47, 48, 0, 0, 0], [], [], [], [], [], [], [], [], [], [0, 50, 51, 0, 52, 53, 54, 55, 56, 57, 58, 0, 0, 0], [], [], [], [], [], [], [], [], [], [0, 60, 61, 0, 62, 63, 64, 65, 66, 67, 68, 0, 0, 0], [], [], [], [], [], [], [], [], [], [0, 70], [], [69, 0, 0, 72, 73, 74, 75, 76, 77, 0, 0, 0], [], [], [], [], [], [], [0, 0, 79, 80, 81, 82, 83, 84, 85], [], [], [], [], [], [], [], [0, 87, 0, 88, 89, 90, 91, 92, 93, 94, 95, 96, 97, 98, 99, 100, 101, 0, 0, 0, 0, 0, 0, 0, 0, 0, 0, 0, 0, 0, 0, 0, 0, 102, 103, 0, 0, 104, 105, 106, 107, 108, 109, 110, 111, 112, 113, 0, 0, 114, 0, 115, 0, 0, 116, 0, 0, 0, 0, 0, 0, 0, 0, 0, 0, 0, 0, 0, 0, 0, 0, 117, 118, 119, 120, 121, 122, 123, 124, 125], [], [], [], [], [], [], [], [], [], [], [], [], [], [], [], [], [], [], [], [], [], [], [], [], [], [], [], [], [], [], [], [], [], [], [], [], [], [], [], []]
-- 0: x
-- 1: x.tape
-- 2: tA
-- 3: tA.personNames
-- 4: tA.ages
-- 5: tA.purses
-- 6: tA.ways
-- 7: tA.heirs
-- 8: tA.from
-- 9: tA.coins
-- 10: tA.due
-- 11: tA.mayNames
-- 12: tA.laws
-- 13: tA.laws.kinds
-- 14: tA.laws.numbers
-- 15: tA.laws.starts
-- 16: tA.laws.ends
-- 17: tA.laws.names
-- 18: tA.laws.stack
-- 19: tB
-- 20: tB.personNames
-- 21: tB.ages
-- 22: tB.purses
-- 23: tB.ways
-- 24: tB.heirs
-- 25: tB.from
-- 26: tB.coins
-- 27: tB.due
-- 28: tB.mayNames
-- 29: tB.laws
-- 30: tB.laws.kinds
-- 31: tB.laws.numbers
-- 32: tB.laws.starts
-- 33: tB.laws.ends
-- 34: tB.laws.names
-- 35: tB.laws.stack
-- 36: rd
-- 37: tk
-- 38: tk.words
-- 39: run
-- 40: run.purses
-- 41: run.turns
-- 42: run.from
-- 43: run.wholes
-- 44: run.due
-- 45: run.states
-- 46: run.left
-- 47: run.hands
-- 48: run.to
-- 49: image
-- 50: image.purses
-- 51: image.turns
-- 52: image.from
-- 53: image.wholes
-- 54: image.due
-- 55: image.states
-- 56: image.left
-- 57: image.hands
-- 58: image.to
-- 59: trial
-- 60: trial.purses
-- 61: trial.turns
-- 62: trial.from
-- 63: trial.wholes
-- 64: trial.due
-- 65: trial.states
-- 66: trial.left
-- 67: trial.hands
-- 68: trial.to
-- 69: chain
-- 70: chain.people
-- 71: orders
-- 72: orders.carriers
-- 73: orders.homes
-- 74: orders.floors
-- 75: orders.stays
-- 76: orders.table
-- 77: orders.laid
-- 78: notes
-- 79: notes.lengths
-- 80: notes.rows
-- 81: notes.coins
-- 82: notes.lows
-- 83: notes.highs
-- 84: notes.targets
-- 85: notes.struck
-- 86: m
-- 87: m.tape
-- 88: m.number
-- 89: m.personName
-- 90: m.age
-- 91: m.purse
-- 92: m.handsMany
-- 93: m.handsTo
-- 94: m.toldFrom
-- 95: m.toldCoins
-- 96: m.toldHour
-- 97: m.mayName
-- 98: m.sumFrom
-- 99: m.sumTo
-- 100: m.knotSort
-- 101: m.knotValue
-- 102: m.names
-- 103: m.worked
-- 104: m.fromOf
-- 105: m.coinsOf
-- 106: m.hourOf
-- 107: m.next
-- 108: m.has
-- 109: m.turn
-- 110: m.state
-- 111: m.onWay
-- 112: m.handsIn
-- 113: m.toWhom
-- 114: m.row
-- 115: m.keptBy
-- 116: m.first
-- 117: m.noteMany
-- 118: m.noteRow
-- 119: m.noteCoins
-- 120: m.noteLow
-- 121: m.noteHigh
-- 122: m.isStruck
-- 123: m.imageFrom
-- 124: m.imageCoins
-- 125: m.imageHour
-- 126: out
end
section
/-! A SMALL MACHINE OVER CELLS. Its state: what the cells' places of ints, longs and changing references hold (cell, place). It runs blocks of instructions; where it answers 'some', the Jvm does the same (part 05). -/
abbrev jS : Type := (Nat → Nat → Int32) × (Nat → Nat → Int64) × (Nat → Nat → Nat)
abbrev jR : Type := Option (Option Value × jS)
abbrev jN : Type := Instr × List Nat
abbrev jL : Type := List (Nat × Value)
/-- a block: where it begins, its locals, its instructions, the block behind it -/
abbrev jB : Type := Nat × List Nat × List jN × Nat
def j_setI (σ : jS) (a k : Nat) (v : Int32) : jS := (fun b j => if b = a ∧ j = k then v else σ.1 b j, σ.2)
def j_setL (σ : jS) (a k : Nat) (v : Int64) : jS := (σ.1, fun b j => if b = a ∧ j = k then v else σ.2.1 b j, σ.2.2)
def j_setR (σ : jS) (a k v : Nat) : jS := (σ.1, σ.2.1, fun b j => if b = a ∧ j = k then v else σ.2.2 b j)
def j_cpy (σ : jS) (a0 sp a1 dp n : Nat) : jS := (fun b j => if b = a1 ∧ dp ≤ j ∧ j < dp + n then σ.1 a0 (sp + (j - dp)) else σ.1 b j, σ.2)
def j_is (ci a : Nat) : Bool := match jSH[a]? with
  | some (.inr c) => c == ci
  | _ => false
def j_len (z a : Nat) : Option Nat := match jSH[a]? with
  | some (.inl q) => cond (q.1 == z) (some q.2) none
  | _ => none
def j_cr (a k : Nat) : Nat := (jCR.getD a []).getD k 0
def j_rdI (z : Nat) (σ : jS) (a : Nat) (i : Int32) : Option Int32 := (j_len z a).bind fun n => if i < 0 ∨ n ≤ i.toNatClampNeg then none else some (σ.1 a i.toNatClampNeg)
def j_rdL (σ : jS) (a : Nat) (i : Int32) : Option Int64 := (j_len 2 a).bind fun n => if i < 0 ∨ n ≤ i.toNatClampNeg then none else some (σ.2.1 a i.toNatClampNeg)
def j_wrI (σ : jS) (a : Nat) (i x : Int32) : Option jS := (j_len 0 a).bind fun n => if i < 0 ∨ n ≤ i.toNatClampNeg then none else some (j_setI σ a i.toNatClampNeg x)
def j_wrZ (σ : jS) (a : Nat) (i x : Int32) : Option jS := (j_len 1 a).bind fun n => if i < 0 ∨ n ≤ i.toNatClampNeg then none else if x = 0 ∨ x = 1 then some (j_setI σ a i.toNatClampNeg x) else none
def j_wrL (σ : jS) (a : Nat) (i : Int32) (x : Int64) : Option jS := (j_len 2 a).bind fun n => if i < 0 ∨ n ≤ i.toNatClampNeg then none else some (j_setL σ a i.toNatClampNeg x)
def j_copy (σ : jS) (a0 : Nat) (sp : Int32) (a1 : Nat) (dp n : Int32) : Option jS := (j_len 0 a0).bind fun n0 => (j_len 0 a1).bind fun n1 =>
  if sp < 0 ∨ dp < 0 ∨ n < 0 ∨ n0 < sp.toNatClampNeg + n.toNatClampNeg ∨ n1 < dp.toNatClampNeg + n.toNatClampNeg then none else some (j_cpy σ a0 sp.toNatClampNeg a1 dp.toNatClampNeg n.toNatClampNeg)
/-- the String constants, as their signs' numbers -/
def jST : List (List Nat) := [[99, 111, 105, 110, 115, 32, 97, 103, 101, 32, 110, 101, 120, 116, 32, 101, 108, 100, 101, 114, 32, 112, 108, 97, 99, 101, 32, 104, 111, 117, 114, 32, 112, 101, 114, 115, 111, 110, 32, 112, 117, 114, 115, 101, 32, 104, 97, 110, 100, 115, 32, 116, 111, 32, 111, 114, 32, 112, 97, 114, 99, 101, 108, 32, 108, 97, 119, 32, 109, 97, 121, 32, 110, 111, 116, 32, 97, 110, 100, 32], [59, 40, 41, 43, 45, 42, 47, 37, 60, 61, 62], [112, 101, 114, 115, 111, 110, 32, 104, 97, 110, 100, 115, 32, 112, 97, 114, 99, 101, 108, 32, 108, 97, 119, 32, 109, 97, 121, 32, 112, 117, 114, 115, 101, 32, 116, 111, 32, 111, 114, 32, 97, 110, 100, 32, 110, 111, 116, 32, 99, 111, 105, 110, 115, 32, 97, 103, 101, 32, 110, 101, 120, 116, 32, 101, 108, 100, 101, 114, 32, 112, 108, 97, 99, 101, 32, 104, 111, 117, 114, 32]]
/-- Strings stand at 1000 and on -/
def j_str (a : Nat) : Option (List Nat) := match a with
  | 1000 => some (jST.getD 0 [])
  | 1001 => some (jST.getD 1 [])
  | 1002 => some (jST.getD 2 [])
  | _ => none
def j_idx (c : Int32) : List Nat → Nat → Int32
  | [], _ => -1
  | q :: r, n => if Int32.ofNat q = c then Int32.ofNat n else j_idx c r (n + 1)
def p_I : List Value → Option (Int32 × List Value)
  | .int x :: st => some (x, st)
  | _ => none
def p_L : List Value → Option (Int64 × List Value)
  | .long x :: st => some (x, st)
  | _ => none
def p_R : List Value → Option (Nat × List Value)
  | .ref x :: st => some (x, st)
  | _ => none
def p_II : List Value → Option (Int32 × Int32 × List Value)
  | .int y :: .int x :: st => some (x, y, st)
  | _ => none
def p_LL : List Value → Option (Int64 × Int64 × List Value)
  | .long y :: .long x :: st => some (x, y, st)
  | _ => none
def p_LI : List Value → Option (Int64 × Int32 × List Value)
  | .int y :: .long x :: st => some (x, y, st)
  | _ => none
def p_RI : List Value → Option (Nat × Int32 × List Value)
  | .int y :: .ref x :: st => some (x, y, st)
  | _ => none
def p_RL : List Value → Option (Nat × Int64 × List Value)
  | .long y :: .ref x :: st => some (x, y, st)
  | _ => none
def p_RR : List Value → Option (Nat × Nat × List Value)
  | .ref y :: .ref x :: st => some (x, y, st)
  | _ => none
def p_RII : List Value → Option (Nat × Int32 × Int32 × List Value)
  | .int z :: .int y :: .ref x :: st => some (x, y, z, st)
  | _ => none
def p_RIL : List Value → Option (Nat × Int32 × Int64 × List Value)
  | .long z :: .int y :: .ref x :: st => some (x, y, z, st)
  | _ => none
def p_1 : List Value → Option (Value × List Value)
  | .int x :: st => some (.int x, st)
  | .ref x :: st => some (.ref x, st)
  | _ => none
def p_11 : List Value → Option (Value × Value × List Value)
  | .int y :: .ref x :: st => some (.ref x, .int y, st)
  | .int y :: .int x :: st => some (.int x, .int y, st)
  | _ => none
def p_cpy : List Value → Option (Nat × Int32 × Nat × Int32 × Int32 × List Value)
  | .int n :: .int dp :: .ref a1 :: .int sp :: .ref a0 :: st => some (a0, sp, a1, dp, n, st)
  | _ => none
/-- n arguments, in their order -/
def p_n : Nat → List Value → Option (List Value × List Value)
  | 0, st => some ([], st)
  | _ + 1, [] => none
  | n + 1, v :: st => (p_n n st).bind fun q => some (q.1 ++ [v], q.2)
def r_V : jR → Option jS
  | some (none, σ) => some σ
  | _ => none
def r_I : jR → Option (Int32 × jS)
  | some (some (.int x), σ) => some (x, σ)
  | _ => none
def r_L : jR → Option (Int64 × jS)
  | some (some (.long x), σ) => some (x, σ)
  | _ => none
def j_at : jL → Nat → Option Value
  | [], _ => none
  | q :: l, i => cond (q.1 == i) (some q.2) (j_at l i)
def j_atI (lv : jL) (i : Nat) : Option Int32 := (j_at lv i).bind fun v => match v with
  | .int x => some x
  | _ => none
def j_atL (lv : jL) (i : Nat) : Option Int64 := (j_at lv i).bind fun v => match v with
  | .long x => some x
  | _ => none
def j_atR (lv : jL) (i : Nat) : Option Nat := (j_at lv i).bind fun v => match v with
  | .ref x => some x
  | _ => none
def j_st1 (lv : jL) (i : Nat) (v : Value) : jL := (i, v) :: lv.filter (fun q => !(q.1 == i) && !(q.1 + 1 == i && q.2.category == 2))
def j_st2 (lv : jL) (i : Nat) (v : Value) : jL := (i, v) :: lv.filter (fun q => !(q.1 == i) && (!(q.1 == i + 1) && !(q.1 + 1 == i && q.2.category == 2)))
def j_pick : List Nat → jL → Option jL
  | [], _ => some []
  | i :: r, lv => (j_at lv i).bind fun v => (j_pick r lv).bind fun l => some ((i, v) :: l)
def j_sw (x : Int32) (d : jR) (f : Nat → jR) : List (Int × Nat) → jR
  | [] => d
  | q :: r => if x = Int32.ofInt q.1 then f q.2 else j_sw x d f r
def j_keys (lo : Int) : List Nat → List (Int × Nat)
  | [] => []
  | b :: r => (lo, b) :: j_keys (lo + 1) r
def j_ret (rk : Nat) (r : jR) (lv : jL) (st : List Value) (k : jL → List Value → jS → jR) : jR := match rk with
  | 0 => (r_V r).bind fun q => k lv st q
  | 1 => (r_I r).bind fun q => k lv (.int q.1 :: st) q.2
  | 2 => (r_L r).bind fun q => k lv (.long q.1 :: st) q.2
  | _ => none
def js (C : Nat → List Value → jS → jR) (rt : Nat) (K : Nat → jL → List Value → jS → jR) (i : Instr) (ex : List Nat) (lv : jL) (st : List Value) (σ : jS) (k : jL → List Value → jS → jR) : jR := match i with
  | .iconst n => k lv (.int (Int32.ofInt n) :: st) σ
  | .bipush n => k lv (.int (Int8.ofInt n).toInt32 :: st) σ
  | .sipush n => k lv (.int (Int16.ofInt n).toInt32 :: st) σ
  | .lconst n => k lv (.long (Int64.ofNat (n : Nat)) :: st) σ
  | .ldc _ => match ex with
    | [v] => k lv (.int (Int32.ofNat v) :: st) σ
    | [v, _] => k lv (.ref v :: st) σ
    | _ => none
  | .ldc_w _ => match ex with
    | [v] => k lv (.int (Int32.ofNat v) :: st) σ
    | _ => none
  | .ldc2_w _ => match ex with
    | [v] => k lv (.long (Int64.ofNat v) :: st) σ
    | _ => none
  | .iload_n n => (j_atI lv n).bind fun x => k lv (.int x :: st) σ
  | .iload n => (j_atI lv n).bind fun x => k lv (.int x :: st) σ
  | .lload_n n => (j_atL lv n).bind fun x => k lv (.long x :: st) σ
  | .lload n => (j_atL lv n).bind fun x => k lv (.long x :: st) σ
  | .aload_n n => (j_atR lv n).bind fun x => k lv (.ref x :: st) σ
  | .aload n => (j_atR lv n).bind fun x => k lv (.ref x :: st) σ
  | .istore_n n => (p_I st).bind fun q => k (j_st1 lv n (.int q.1)) q.2 σ
  | .istore n => (p_I st).bind fun q => k (j_st1 lv n (.int q.1)) q.2 σ
  | .lstore_n n => (p_L st).bind fun q => k (j_st2 lv n (.long q.1)) q.2 σ
  | .lstore n => (p_L st).bind fun q => k (j_st2 lv n (.long q.1)) q.2 σ
  | .astore_n n => (p_R st).bind fun q => k (j_st1 lv n (.ref q.1)) q.2 σ
  | .astore n => (p_R st).bind fun q => k (j_st1 lv n (.ref q.1)) q.2 σ
  | .iinc n c => (j_atI lv n).bind fun x => k (j_st1 lv n (.int (x + Int32.ofInt c))) st σ
  | .iadd => (p_II st).bind fun q => k lv (.int (q.1 + q.2.1) :: q.2.2) σ
  | .isub => (p_II st).bind fun q => k lv (.int (q.1 - q.2.1) :: q.2.2) σ
  | .imul => (p_II st).bind fun q => k lv (.int (q.1 * q.2.1) :: q.2.2) σ
  | .iand => (p_II st).bind fun q => k lv (.int (q.1 &&& q.2.1) :: q.2.2) σ
  | .ior => (p_II st).bind fun q => k lv (.int (q.1 ||| q.2.1) :: q.2.2) σ
  | .idiv => (p_II st).bind fun q => if q.2.1 = 0 then none else k lv (.int (q.1 / q.2.1) :: q.2.2) σ
  | .irem => (p_II st).bind fun q => if q.2.1 = 0 then none else k lv (.int (q.1 - q.1 / q.2.1 * q.2.1) :: q.2.2) σ
  | .ishl => (p_II st).bind fun q => k lv (.int (q.1 <<< (q.2.1 &&& 31)) :: q.2.2) σ
  | .ishr => (p_II st).bind fun q => k lv (.int (q.1 >>> (q.2.1 &&& 31)) :: q.2.2) σ
  | .iushr => (p_II st).bind fun q => k lv (.int (q.1.toUInt32 >>> (q.2.1.toUInt32 &&& Int32.toUInt32 31)).toInt32 :: q.2.2) σ
  | .ladd => (p_LL st).bind fun q => k lv (.long (q.1 + q.2.1) :: q.2.2) σ
  | .lsub => (p_LL st).bind fun q => k lv (.long (q.1 - q.2.1) :: q.2.2) σ
  | .lmul => (p_LL st).bind fun q => k lv (.long (q.1 * q.2.1) :: q.2.2) σ
  | .land => (p_LL st).bind fun q => k lv (.long (q.1 &&& q.2.1) :: q.2.2) σ
  | .lor => (p_LL st).bind fun q => k lv (.long (q.1 ||| q.2.1) :: q.2.2) σ
  | .ldiv => (p_LL st).bind fun q => if q.2.1 = 0 then none else k lv (.long (q.1 / q.2.1) :: q.2.2) σ
  | .lrem => (p_LL st).bind fun q => if q.2.1 = 0 then none else k lv (.long (q.1 - q.1 / q.2.1 * q.2.1) :: q.2.2) σ
  | .lneg => (p_L st).bind fun q => k lv (.long (-q.1) :: q.2) σ
  | .lcmp => (p_LL st).bind fun q => k lv (.int (lg_cmp q.1 q.2.1) :: q.2.2) σ
  | .lshl => (p_LI st).bind fun q => k lv (.long (q.1 <<< (q.2.1.toInt64 &&& 63)) :: q.2.2) σ
  | .lshr => (p_LI st).bind fun q => k lv (.long (q.1 >>> (q.2.1.toInt64 &&& 63)) :: q.2.2) σ
  | .lushr => (p_LI st).bind fun q => k lv (.long (q.1.toUInt64 >>> (q.2.1.toInt64.toUInt64 &&& Int64.toUInt64 63)).toInt64 :: q.2.2) σ
  | .i2l => (p_I st).bind fun q => k lv (.long q.1.toInt64 :: q.2) σ
  | .l2i => (p_L st).bind fun q => k lv (.int q.1.toInt32 :: q.2) σ
  | .i2c => (p_I st).bind fun q => k lv (.int (q.1.toUInt32 % 65536).toInt32 :: q.2) σ
  | .dup => (p_1 st).bind fun q => k lv (q.1 :: q.1 :: q.2) σ
  | .pop => (p_1 st).bind fun q => k lv q.2 σ
  | .dup2 => (p_11 st).bind fun q => k lv (q.2.1 :: q.1 :: q.2.1 :: q.1 :: q.2.2) σ
  | .iaload => match ex with
    | [] => (p_RI st).bind fun q => (j_rdI 0 σ q.1 q.2.1).bind fun x => k lv (.int x :: q.2.2) σ
    | [y] => (p_RI st).bind fun q => cond (q.1 == 2000) ((r_I (C y [.int q.2.1] σ)).bind fun w => k lv (.int w.1 :: q.2.2) w.2) none
    | _ => none
  | .baload => (p_RI st).bind fun q => (j_rdI 1 σ q.1 q.2.1).bind fun x => k lv (.int x :: q.2.2) σ
  | .laload => (p_RI st).bind fun q => (j_rdL σ q.1 q.2.1).bind fun x => k lv (.long x :: q.2.2) σ
  | .iastore => (p_RII st).bind fun q => (j_wrI σ q.1 q.2.1 q.2.2.1).bind fun t => k lv q.2.2.2 t
  | .bastore => (p_RII st).bind fun q => (j_wrZ σ q.1 q.2.1 q.2.2.1).bind fun t => k lv q.2.2.2 t
  | .lastore => (p_RIL st).bind fun q => (j_wrL σ q.1 q.2.1 q.2.2.1).bind fun t => k lv q.2.2.2 t
  | .arraylength => match ex with
    | [] => (p_R st).bind fun q => (j_len 0 q.1).bind fun n => k lv (.int (Int32.ofNat n) :: q.2) σ
    | [y] => (p_R st).bind fun q => cond (q.1 == 2000) ((r_I (C y [] σ)).bind fun w => k lv (.int w.1 :: q.2) w.2) none
    | _ => none
  | .getfield _ => match ex with
    | [ci, f, 0] => (p_R st).bind fun q => cond (j_is ci q.1) (k lv (.int (σ.1 q.1 f) :: q.2) σ) none
    | [ci, f, 1] => (p_R st).bind fun q => cond (j_is ci q.1) (k lv (.int (σ.1 q.1 f) :: q.2) σ) none
    | [ci, f, 2] => (p_R st).bind fun q => cond (j_is ci q.1) (k lv (.long (σ.2.1 q.1 f) :: q.2) σ) none
    | [ci, f, 3] => (p_R st).bind fun q => cond (j_is ci q.1) (k lv (.ref (σ.2.2 q.1 f) :: q.2) σ) none
    | [ci, f, 4] => (p_R st).bind fun q => cond (j_is ci q.1) (k lv (.ref (j_cr q.1 f) :: q.2) σ) none
    | _ => none
  | .putfield _ => match ex with
    | [ci, f, 0] => (p_RI st).bind fun q => cond (j_is ci q.1) (k lv q.2.2 (j_setI σ q.1 f q.2.1)) none
    | [ci, f, 1] => (p_RI st).bind fun q => cond (j_is ci q.1) (if q.2.1 = 0 ∨ q.2.1 = 1 then k lv q.2.2 (j_setI σ q.1 f q.2.1) else none) none
    | [ci, f, 2] => (p_RL st).bind fun q => cond (j_is ci q.1) (k lv q.2.2 (j_setL σ q.1 f q.2.1)) none
    | [ci, f, 3] => (p_RR st).bind fun q => cond (j_is ci q.1) (k lv q.2.2 (j_setR σ q.1 f q.2.1)) none
    | _ => none
  | .goto _ => match ex with
    | [t] => K t lv st σ
    | _ => none
  | .ifCond c _ => match ex with
    | [t] => (p_I st).bind fun q => match c with
      | .eq => if q.1 = 0 then K t lv q.2 σ else k lv q.2 σ
      | .ne => if q.1 = 0 then k lv q.2 σ else K t lv q.2 σ
      | .lt => if q.1 < 0 then K t lv q.2 σ else k lv q.2 σ
      | .ge => if 0 ≤ q.1 then K t lv q.2 σ else k lv q.2 σ
      | .gt => if 0 < q.1 then K t lv q.2 σ else k lv q.2 σ
      | .le => if q.1 ≤ 0 then K t lv q.2 σ else k lv q.2 σ
    | _ => none
  | .if_icmp c _ => match ex with
    | [t] => (p_II st).bind fun q => match c with
      | .eq => if q.1 = q.2.1 then K t lv q.2.2 σ else k lv q.2.2 σ
      | .ne => if q.1 = q.2.1 then k lv q.2.2 σ else K t lv q.2.2 σ
      | .lt => if q.1 < q.2.1 then K t lv q.2.2 σ else k lv q.2.2 σ
      | .ge => if q.2.1 ≤ q.1 then K t lv q.2.2 σ else k lv q.2.2 σ
      | .gt => if q.2.1 < q.1 then K t lv q.2.2 σ else k lv q.2.2 σ
      | .le => if q.1 ≤ q.2.1 then K t lv q.2.2 σ else k lv q.2.2 σ
    | _ => none
  | .tableswitch _ lo _ _ => match ex with
    | d :: bs => (p_I st).bind fun q => j_sw q.1 (K d lv q.2 σ) (fun b => K b lv q.2 σ) (j_keys lo bs)
    | _ => none
  | .lookupswitch _ ps => match ex with
    | d :: bs => (p_I st).bind fun q => j_sw q.1 (K d lv q.2 σ) (fun b => K b lv q.2 σ) ((ps.toList.map (fun z => z.1)).zip bs)
    | _ => none
  | .invokevirtual _ => match ex with
    | [901] => (p_R st).bind fun q => (j_str q.1).bind fun z => cond (Nat.ble (q.2.map fun v => v.category).sum 8) (k lv (.int (Int32.ofNat z.length) :: q.2) σ) none
    | [902, _] => (p_RI st).bind fun q => (j_str q.1).bind fun z => if q.2.1 < 0 ∨ z.length ≤ q.2.1.toNatClampNeg then none else cond (Nat.ble (q.2.2.map fun v => v.category).sum 8) (k lv (.int (Int32.ofNat (z.getD q.2.1.toNatClampNeg 0)) :: q.2.2) σ) none
    | [903, _, _] => (p_RI st).bind fun q => (j_str q.1).bind fun z => cond (Nat.ble (q.2.2.map fun v => v.category).sum 8) (k lv (.int (j_idx q.2.1 z 0) :: q.2.2) σ) none
    | [y, n, ci, rk] => (p_n n st).bind fun q => (p_R q.2).bind fun w => cond (j_is ci w.1) (cond (Nat.ble (w.2.map fun v => v.category).sum 8) (j_ret rk (C y (.ref w.1 :: q.1) σ) lv w.2 k) none) none
    | _ => none
  | .invokestatic _ => match ex with
    | [_] => (p_cpy st).bind fun q => cond (Nat.ble (q.2.2.2.2.2.map fun v => v.category).sum 8) ((j_copy σ q.1 q.2.1 q.2.2.1 q.2.2.2.1 q.2.2.2.2.1).bind fun t => k lv q.2.2.2.2.2 t) none
    | [910, _] => (p_II st).bind fun q => cond (Nat.ble (q.2.2.map fun v => v.category).sum 8) (k lv (.int (if q.1 < q.2.1 then q.2.1 else q.1) :: q.2.2) σ) none
    | [911, _] => (p_II st).bind fun q => cond (Nat.ble (q.2.2.map fun v => v.category).sum 8) (k lv (.int (if q.2.1 < q.1 then q.2.1 else q.1) :: q.2.2) σ) none
    | [912, _] => (p_LL st).bind fun q => cond (Nat.ble (q.2.2.map fun v => v.category).sum 8) (k lv (.long (if q.2.1 < q.1 then q.2.1 else q.1) :: q.2.2) σ) none
    | [913, _] => (p_L st).bind fun q => cond (Nat.ble (q.2.map fun v => v.category).sum 8) (k lv (.long (if 0 < q.1 then q.1 else -q.1) :: q.2) σ) none
    | [y, n, rk] => (p_n n st).bind fun q => cond (Nat.ble (q.2.map fun v => v.category).sum 8) (j_ret rk (C y q.1 σ) lv q.2 k) none
    | _ => none
  | .ireturn => match rt with
    | 1 => (p_I st).bind fun q => cond q.2.isEmpty (some (some (.int q.1), σ)) none
    | 2 => (p_I st).bind fun q => cond q.2.isEmpty (if q.1 = 0 ∨ q.1 = 1 then some (some (.int q.1), σ) else none) none
    | _ => none
  | .lreturn => match rt with
    | 3 => (p_L st).bind fun q => cond q.2.isEmpty (some (some (.long q.1), σ)) none
    | _ => none
  | .return_ => match rt with
    | 0 => cond st.isEmpty (some (none, σ)) none
    | _ => none
  | _ => none
def jb (C : Nat → List Value → jS → jR) (rt : Nat) (K : Nat → jL → List Value → jS → jR) (nx : Nat) : List jN → jL → List Value → jS → jR
  | [], lv, st, σ => K nx lv st σ
  | (i, ex) :: r, lv, st, σ => js C rt K i ex lv st σ (fun lv st σ => jb C rt K nx r lv st σ)
def j_go (B : List jB) (K : Nat → jL → List Value → jS → jR) (j : Nat) (lv : jL) (st : List Value) (σ : jS) : jR := (B[j]?).bind fun b => (j_pick b.2.1 lv).bind fun l => K j l st σ
def jstep (C : Nat → List Value → jS → jR) (rt : Nat) (B : List jB) (K : Nat → jL → List Value → jS → jR) (j : Nat) (lv : jL) (st : List Value) (σ : jS) : jR := (B[j]?).bind fun b => jb C rt (j_go B K) b.2.2.2 b.2.2.1 lv st σ
def jrun (C : Nat → List Value → jS → jR) (rt : Nat) (B : List jB) : Nat → Nat → jL → List Value → jS → jR
  | 0 => fun _ _ _ _ => none
  | n + 1 => fun j lv st σ => jstep C rt B (jrun C rt B n) j lv st σ
noncomputable def db (C : Nat → List Value → jS → jR) (rt : Nat) (B : List jB) (j : Nat) (lv : jL) (st : List Value) (σ : jS) : jR :=
  @dite _ (∃ r, ∃ n, jrun C rt B n j lv st σ = some r) (Classical.propDecidable _) (fun h => some (Classical.choose h)) (fun _ => none)
end
section
/-! What runs long enough runs as its own equation says: db_eq. -/
def jU (F : (Nat → jL → List Value → jS → jR) → (jL → List Value → jS → jR) → jR) : Prop := ∀ K k r, F K k = some r →
  (∃ lv st σ, k lv st σ = some r ∧ ∀ K' k', k' lv st σ = some r → F K' k' = some r) ∨ (∃ j lv st σ, K j lv st σ = some r ∧ ∀ K' k', K' j lv st σ = some r → F K' k' = some r) ∨ (∀ K' k', F K' k' = some r)
theorem jU_c (r0 : jR) : jU (fun _ _ => r0) := fun _ _ _ h => Or.inr (Or.inr (fun _ _ => h))
theorem jU_k (lv : jL) (st : List Value) (σ : jS) : jU (fun _ k => k lv st σ) := fun _ _ _ h => Or.inl ⟨lv, st, σ, h, fun _ _ h => h⟩
theorem jU_K (j : Nat) (lv : jL) (st : List Value) (σ : jS) : jU (fun K _ => K j lv st σ) := fun _ _ _ h => Or.inr (Or.inl ⟨j, lv, st, σ, h, fun _ _ h => h⟩)
theorem jU_bind {α : Type} (o : Option α) (F : α → (Nat → jL → List Value → jS → jR) → (jL → List Value → jS → jR) → jR) (h : ∀ x, jU (F x)) : jU (fun K k => o.bind fun x => F x K k) := by
  cases o with
  | none => exact jU_c none
  | some x => exact h x
theorem jU_ite (c : Prop) (dc : Decidable c) (F G : (Nat → jL → List Value → jS → jR) → (jL → List Value → jS → jR) → jR) (hF : jU F) (hG : jU G) : jU (fun K k => @ite _ c dc (F K k) (G K k)) := by
  cases dc with
  | isTrue h => exact hF
  | isFalse h => exact hG
theorem jU_cond (c : Bool) (F G : (Nat → jL → List Value → jS → jR) → (jL → List Value → jS → jR) → jR) (hF : jU F) (hG : jU G) : jU (fun K k => cond c (F K k) (G K k)) := by
  cases c with
  | true => exact hF
  | false => exact hG
theorem jU_ret (rk : Nat) (r : jR) (lv : jL) (st : List Value) : jU (fun _ k => j_ret rk r lv st k) := by
  unfold j_ret
  split
  · exact jU_bind _ _ fun q => jU_k _ _ _
  · exact jU_bind _ _ fun q => jU_k _ _ _
  · exact jU_bind _ _ fun q => jU_k _ _ _
  · exact jU_c none
theorem jU_sw (x : Int32) (d : Nat) (lv : jL) (st : List Value) (σ : jS) : ∀ l : List (Int × Nat), jU (fun K _ => j_sw x (K d lv st σ) (fun b => K b lv st σ) l) := by
  intro l
  induction l with
  | nil => exact jU_K d lv st σ
  | cons q r ih => exact jU_ite _ _ _ _ (jU_K q.2 lv st σ) ih
set_option maxHeartbeats 4000000 in
theorem js_use (C : Nat → List Value → jS → jR) (rt : Nat) (i : Instr) (ex : List Nat) (lv : jL) (st : List Value) (σ : jS) : jU (fun K k => js C rt K i ex lv st σ k) := by
  cases i
  case iconst | bipush | sipush | lconst => exact jU_k _ _ _
  case ldc =>
    unfold js
    rcases ex with _ | ⟨a, _ | ⟨b, _ | ⟨c, _⟩⟩⟩
    · exact jU_c none
    · exact jU_k _ _ _
    · exact jU_k _ _ _
    · exact jU_c none
  case ldc2_w | ldc_w =>
    rcases ex with _ | ⟨a, _ | ⟨b, _⟩⟩
    · exact jU_c none
    · exact jU_k _ _ _
    · exact jU_c none
  case iload_n | iload | lload_n | lload | aload_n | aload | istore_n | istore | lstore_n | lstore | astore_n | astore | iinc | iadd | isub | imul | iand | ior | ishl | ishr | iushr | ladd | lsub | lmul | land | lor | lneg | lcmp | lshl | lshr | lushr | i2l | l2i | i2c | dup | pop | dup2 => exact jU_bind _ _ fun q => jU_k _ _ _
  case idiv | irem | ldiv | lrem => exact jU_bind _ _ fun q => jU_ite _ _ _ _ (jU_c none) (jU_k _ _ _)
  case baload | laload | iastore | bastore | lastore => exact jU_bind _ _ fun q => jU_bind _ _ fun x => jU_k _ _ _
  case iaload =>
    unfold js
    dsimp only
    split
    · exact jU_bind _ _ fun q => jU_bind _ _ fun x => jU_k _ _ _
    · exact jU_bind _ _ fun q => jU_cond _ _ _ (jU_bind _ _ fun x => jU_k _ _ _) (jU_c none)
    · exact jU_c none
  case arraylength =>
    unfold js
    dsimp only
    split
    · exact jU_bind _ _ fun q => jU_bind _ _ fun x => jU_k _ _ _
    · exact jU_bind _ _ fun q => jU_cond _ _ _ (jU_bind _ _ fun x => jU_k _ _ _) (jU_c none)
    · exact jU_c none
  case getfield =>
    show jU (fun K k => js C rt K (.getfield _) ex lv st σ k)
    unfold js
    dsimp only
    split
    · exact jU_bind _ _ fun q => jU_cond _ _ _ (jU_k _ _ _) (jU_c none)
    · exact jU_bind _ _ fun q => jU_cond _ _ _ (jU_k _ _ _) (jU_c none)
    · exact jU_bind _ _ fun q => jU_cond _ _ _ (jU_k _ _ _) (jU_c none)
    · exact jU_bind _ _ fun q => jU_cond _ _ _ (jU_k _ _ _) (jU_c none)
    · exact jU_bind _ _ fun q => jU_cond _ _ _ (jU_k _ _ _) (jU_c none)
    · exact jU_c none
  case putfield =>
    unfold js
    dsimp only
    split
    · exact jU_bind _ _ fun q => jU_cond _ _ _ (jU_k _ _ _) (jU_c none)
    · exact jU_bind _ _ fun q => jU_cond _ _ _ (jU_ite _ _ _ _ (jU_k _ _ _) (jU_c none)) (jU_c none)
    · exact jU_bind _ _ fun q => jU_cond _ _ _ (jU_k _ _ _) (jU_c none)
    · exact jU_bind _ _ fun q => jU_cond _ _ _ (jU_k _ _ _) (jU_c none)
    · exact jU_c none
  case goto =>
    unfold js
    dsimp only
    split
    · exact jU_K _ _ _ _
    · exact jU_c none
  case ifCond c _ =>
    unfold js
    dsimp only
    split
    · refine jU_bind _ _ fun q => ?_
      cases c <;> first | exact jU_ite _ _ _ _ (jU_K _ _ _ _) (jU_k _ _ _) | exact jU_ite _ _ _ _ (jU_k _ _ _) (jU_K _ _ _ _)
    · exact jU_c none
  case if_icmp c _ =>
    unfold js
    dsimp only
    split
    · refine jU_bind _ _ fun q => ?_
      cases c <;> first | exact jU_ite _ _ _ _ (jU_K _ _ _ _) (jU_k _ _ _) | exact jU_ite _ _ _ _ (jU_k _ _ _) (jU_K _ _ _ _)
    · exact jU_c none
  case tableswitch =>
    unfold js
    dsimp only
    split
    · exact jU_bind _ _ fun q => jU_sw _ _ _ _ _ _
    · exact jU_c none
  case lookupswitch =>
    unfold js
    dsimp only
    split
    · exact jU_bind _ _ fun q => jU_sw _ _ _ _ _ _
    · exact jU_c none
  case invokevirtual =>
    unfold js
    dsimp only
    split
    · exact jU_bind _ _ fun q => jU_bind _ _ fun z => jU_cond _ _ _ (jU_k _ _ _) (jU_c none)
    · exact jU_bind _ _ fun q => jU_bind _ _ fun z => jU_ite _ _ _ _ (jU_c none) (jU_cond _ _ _ (jU_k _ _ _) (jU_c none))
    · exact jU_bind _ _ fun q => jU_bind _ _ fun z => jU_cond _ _ _ (jU_k _ _ _) (jU_c none)
    · exact jU_bind _ _ fun q => jU_bind _ _ fun z => jU_cond _ _ _ (jU_cond _ _ _ (jU_ret _ _ _ _) (jU_c none)) (jU_c none)
    · exact jU_c none
  case invokestatic =>
    unfold js
    dsimp only
    split
    · exact jU_bind _ _ fun q => jU_cond _ _ _ (jU_bind _ _ fun z => jU_k _ _ _) (jU_c none)
    · exact jU_bind _ _ fun q => jU_cond _ _ _ (jU_k _ _ _) (jU_c none)
    · exact jU_bind _ _ fun q => jU_cond _ _ _ (jU_k _ _ _) (jU_c none)
    · exact jU_bind _ _ fun q => jU_cond _ _ _ (jU_k _ _ _) (jU_c none)
    · exact jU_bind _ _ fun q => jU_cond _ _ _ (jU_k _ _ _) (jU_c none)
    · exact jU_bind _ _ fun q => jU_cond _ _ _ (jU_ret _ _ _ _) (jU_c none)
    · exact jU_c none
  case ireturn =>
    unfold js
    dsimp only
    exact jU_c _
  case lreturn => exact jU_c _
  case return_ => exact jU_c _
  all_goals exact jU_c none
theorem jb_use (C : Nat → List Value → jS → jR) (rt : Nat) (nx : Nat) : ∀ (is : List jN) (lv : jL) (st : List Value) (σ : jS) (K : Nat → jL → List Value → jS → jR) (r : Option Value × jS), jb C rt K nx is lv st σ = some r →
    (∃ j l s t, K j l s t = some r ∧ ∀ K', K' j l s t = some r → jb C rt K' nx is lv st σ = some r) ∨ (∀ K', jb C rt K' nx is lv st σ = some r) := by
  intro is
  induction is with
  | nil =>
    intro lv st σ K r h
    exact Or.inl ⟨nx, lv, st, σ, h, fun _ h => h⟩
  | cons i is ih =>
    intro lv st σ K r h
    obtain ⟨i, ex⟩ := i
    rcases js_use C rt i ex lv st σ K (fun lv st σ => jb C rt K nx is lv st σ) r h with ⟨l, s, t, h1, h2⟩ | ⟨j, l, s, t, h1, h2⟩ | h2
    · rcases ih l s t K r h1 with ⟨j, l', s', t', h3, h4⟩ | h3
      · exact Or.inl ⟨j, l', s', t', h3, fun K' hK' => h2 K' (fun lv st σ => jb C rt K' nx is lv st σ) (h4 K' hK')⟩
      · exact Or.inr fun K' => h2 K' (fun lv st σ => jb C rt K' nx is lv st σ) (h3 K')
    · exact Or.inl ⟨j, l, s, t, h1, fun K' hK' => h2 K' (fun lv st σ => jb C rt K' nx is lv st σ) hK'⟩
    · exact Or.inr fun K' => h2 K' (fun lv st σ => jb C rt K' nx is lv st σ)
theorem jstep_use (C : Nat → List Value → jS → jR) (rt : Nat) (B : List jB) (j : Nat) (lv : jL) (st : List Value) (σ : jS) (K : Nat → jL → List Value → jS → jR) (r : Option Value × jS) (h : jstep C rt B K j lv st σ = some r) :
    (∃ j' l s t, K j' l s t = some r ∧ ∀ K', K' j' l s t = some r → jstep C rt B K' j lv st σ = some r) ∨ (∀ K', jstep C rt B K' j lv st σ = some r) := by
  unfold jstep at h ⊢
  cases hb : B[j]? with
  | none => rw [hb] at h; cases h
  | some b =>
    rw [hb] at h
    rcases jb_use C rt b.2.2.2 b.2.2.1 lv st σ (j_go B K) r h with ⟨j', l, s, t, h1, h2⟩ | h2
    · unfold j_go at h1
      cases hb' : B[j']? with
      | none => rw [hb'] at h1; cases h1
      | some b' =>
        rw [hb'] at h1
        simp only [Option.bind_some] at h1
        cases hp : j_pick b'.2.1 l with
        | none => rw [hp] at h1; cases h1
        | some l' =>
          rw [hp] at h1
          refine Or.inl ⟨j', l', s, t, h1, fun K' hK' => h2 (j_go B K') ?_⟩
          unfold j_go
          rw [hb']
          simp only [Option.bind_some, hp]
          exact hK'
    · exact Or.inr fun K' => h2 (j_go B K')
theorem jrun_mono (C : Nat → List Value → jS → jR) (rt : Nat) (B : List jB) : ∀ (n : Nat) (j : Nat) (lv : jL) (st : List Value) (σ : jS) (r : Option Value × jS), jrun C rt B n j lv st σ = some r → jrun C rt B (n + 1) j lv st σ = some r := by
  intro n
  induction n with
  | zero => intro j lv st σ r h; cases h
  | succ n ih =>
    intro j lv st σ r h
    rcases jstep_use C rt B j lv st σ (jrun C rt B n) r h with ⟨j', l, s, t, h1, h2⟩ | h2
    · exact h2 _ (ih j' l s t r h1)
    · exact h2 _
theorem jrun_le (C : Nat → List Value → jS → jR) (rt : Nat) (B : List jB) {n n' : Nat} (hn : n ≤ n') {j : Nat} {lv : jL} {st : List Value} {σ : jS} {r : Option Value × jS} (h : jrun C rt B n j lv st σ = some r) : jrun C rt B n' j lv st σ = some r := by
  induction hn with
  | refl => exact h
  | step _ ih => exact jrun_mono C rt B _ j lv st σ r ih
theorem db_iff (C : Nat → List Value → jS → jR) (rt : Nat) (B : List jB) (j : Nat) (lv : jL) (st : List Value) (σ : jS) (r : Option Value × jS) : db C rt B j lv st σ = some r ↔ ∃ n, jrun C rt B n j lv st σ = some r := by
  constructor
  · intro h
    unfold db at h
    by_cases he : ∃ r, ∃ n, jrun C rt B n j lv st σ = some r
    · rw [dif_pos he] at h
      cases h
      exact Classical.choose_spec he
    · rw [dif_neg he] at h
      cases h
  · intro ⟨n, h⟩
    have he : ∃ r, ∃ n, jrun C rt B n j lv st σ = some r := ⟨r, n, h⟩
    unfold db
    rw [dif_pos he]
    obtain ⟨n', h'⟩ := Classical.choose_spec he
    have h1 := jrun_le C rt B (Nat.le_max_left n n') h
    have h2 := jrun_le C rt B (Nat.le_max_right n n') h'
    rw [h1] at h2
    exact h2.symm
theorem db_eq (C : Nat → List Value → jS → jR) (rt : Nat) (B : List jB) (j : Nat) (lv : jL) (st : List Value) (σ : jS) : db C rt B j lv st σ = jstep C rt B (db C rt B) j lv st σ := by
  cases h : jstep C rt B (db C rt B) j lv st σ with
  | some r =>
    rw [db_iff]
    rcases jstep_use C rt B j lv st σ _ r h with ⟨j', l, s, t, h1, h2⟩ | h2
    · obtain ⟨n, hn⟩ := (db_iff C rt B j' l s t r).mp h1
      exact ⟨n + 1, h2 _ hn⟩
    · exact ⟨1, h2 _⟩
  | none =>
    cases h' : db C rt B j lv st σ with
    | none => rfl
    | some r =>
      exfalso
      obtain ⟨n, hn⟩ := (db_iff C rt B j lv st σ r).mp h'
      cases n with
      | zero => cases hn
      | succ n =>
        rcases jstep_use C rt B j lv st σ _ r hn with ⟨j', l, s, t, h1, h2⟩ | h2
        · have := h2 (db C rt B) ((db_iff C rt B j' l s t r).mpr ⟨n, h1⟩)
          rw [h] at this
          cases this
        · have := h2 (db C rt B)
          rw [h] at this
          cases this
end
section
/-! The machine's state as a world of the Jvm's heap: cell a of the machine is the heap's cell α a. -/
def tv (α : Nat → Nat) : Value → Value
  | .ref a => .ref (α a)
  | v => v
def tl (α : Nat → Nat) (lv : jL) : jL := lv.map fun q => (q.1, tv α q.2)
theorem tv_cat (α : Nat → Nat) (v : Value) : (tv α v).category = v.category := by cases v <;> rfl
theorem tv_cats (α : Nat → Nat) (st : List Value) : ((st.map (tv α)).map fun v => v.category) = st.map fun v => v.category := by
  induction st with
  | nil => rfl
  | cons v st ih => simp only [List.map_cons, tv_cat, ih]
abbrev jG : Type := ClassId × ClassId × ClassId
def j_ac (G : jG) (z : Nat) : ClassId := match z with
  | 0 => G.1
  | 1 => G.2.1
  | _ => G.2.2
def j_zt (z : Nat) : FieldType := match z with
  | 0 => .int
  | 1 => .boolean
  | _ => .long
abbrev jtys (G : jG) : List (ClassId × FieldType) := [(G.1, .int), (G.2.1, .boolean), (G.2.2, .long)]
def jfv (α : Nat → Nat) (σ : jS) (a k f : Nat) : Value := match f with
  | 0 => .int (σ.1 a k)
  | 1 => .int (σ.1 a k)
  | 2 => .long (σ.2.1 a k)
  | 3 => .ref (α (σ.2.2 a k))
  | _ => .ref (α (j_cr a k))
def j_fk (ci : Nat) : List Nat := jFK.getD ci []
def j_fs (α : Nat → Nat) (σ : jS) (a ci : Nat) : List Value := (j_fk ci).mapIdx fun k f => jfv α σ a k f
def jE (α : Nat → Nat) (G : jG) (σ : jS) (a : Nat) (e : (Nat × Nat) ⊕ Nat) : va_E := match e with
  | .inl q => .inl (j_ac G q.1, q.2, match q.1 with
    | 0 => .inl (σ.1 a)
    | 1 => .inl (σ.1 a)
    | _ => .inr (.inl (σ.2.1 a)))
  | .inr ci => .inr (ci, j_fs α σ a ci)
def jP (α : Nat → Nat) (G : jG) (σ : jS) : va_W := jSH.mapIdx fun a e => (α a, jE α G σ a e)
def jA (α : Nat → Nat) : Nat → Prop := fun q => ∃ a, a < jSH.length ∧ q = α a
theorem jP_get {α : Nat → Nat} {G : jG} {σ : jS} {a : Nat} {e : (Nat × Nat) ⊕ Nat} (h : jSH[a]? = some e) : (jP α G σ)[a]? = some (α a, jE α G σ a e) := by
  unfold jP
  rw [List.getElem?_mapIdx, h]
  rfl
theorem jP_inv {α : Nat → Nat} {G : jG} {σ : jS} {a : Nat} {q : Nat × va_E} (h : (jP α G σ)[a]? = some q) : ∃ e, jSH[a]? = some e ∧ q = (α a, jE α G σ a e) := by
  unfold jP at h
  rw [List.getElem?_mapIdx] at h
  cases he : jSH[a]? with
  | none => rw [he] at h; cases h
  | some e => rw [he] at h; exact ⟨e, rfl, (Option.some.inj h).symm⟩
theorem jP_D {α : Nat → Nat} {G : jG} {σ : jS} (hα : ∀ a b, a < jSH.length → b < jSH.length → α a = α b → a = b) : va_D (jA α) (jP α G σ) := by
  refine ⟨fun i j p q hi hj he => ?_, fun k q hk => ?_⟩
  · obtain ⟨e1, h1, rfl⟩ := jP_inv hi
    obtain ⟨e2, h2, rfl⟩ := jP_inv hj
    exact hα i j (List.getElem?_eq_some_iff.mp h1).1 (List.getElem?_eq_some_iff.mp h2).1 he
  · obtain ⟨e1, h1, rfl⟩ := jP_inv hk
    exact ⟨k, (List.getElem?_eq_some_iff.mp h1).1, rfl⟩
/-- one cell is changed: the others stay -/
theorem jP_set {α : Nat → Nat} {G : jG} {σ σ' : jS} {a : Nat} {e : (Nat × Nat) ⊕ Nat} {x : va_E} (h : jSH[a]? = some e) (h1 : ∀ b, b ≠ a → σ'.1 b = σ.1 b) (h2 : ∀ b, b ≠ a → σ'.2.1 b = σ.2.1 b) (h3 : ∀ b, b ≠ a → σ'.2.2 b = σ.2.2 b) (hx : x = jE α G σ' a e) : (jP α G σ).set a (α a, x) = jP α G σ' := by
  subst hx
  apply List.ext_getElem?
  intro b
  rw [List.getElem?_set]
  by_cases hab : a = b
  · subst hab
    have hl : a < (jP α G σ).length := (List.getElem?_eq_some_iff.mp (jP_get (α := α) (G := G) (σ := σ) h)).1
    rw [if_pos rfl, if_pos hl, jP_get h]
  · rw [if_neg hab]
    unfold jP
    rw [List.getElem?_mapIdx, List.getElem?_mapIdx]
    cases hb : jSH[b]? with
    | none => rfl
    | some e' =>
      have hne : b ≠ a := fun q => hab q.symm
      show some _ = some _
      congr 2
      cases e' with
      | inl q =>
        simp only [jE, h1 b hne, h2 b hne]
      | inr ci =>
        simp only [jE, j_fs, jfv, h1 b hne, h2 b hne, h3 b hne]
theorem j_is_sh {ci a : Nat} (h : j_is ci a = true) : jSH[a]? = some (.inr ci) := by
  unfold j_is at h
  split at h
  · rename_i c hc
    rw [hc, beq_iff_eq.mp h]
  · cases h
theorem j_len_sh {z a n : Nat} (h : j_len z a = some n) : jSH[a]? = some (.inl (z, n)) := by
  unfold j_len at h
  split at h
  · rename_i q hc
    obtain ⟨q1, q2⟩ := q
    cases hz : (q1 == z) with
    | true =>
      rw [hz] at h
      simp only [cond_true, Option.some.injEq] at h
      rw [hc, beq_iff_eq.mp hz, h]
    | false =>
      rw [hz] at h
      cases h
  · cases h
theorem p_I_s {st : List Value} {q : Int32 × List Value} (h : p_I st = some q) : st = .int q.1 :: q.2 := by
  unfold p_I at h; split at h
  · cases h; rfl
  · cases h
theorem p_L_s {st : List Value} {q : Int64 × List Value} (h : p_L st = some q) : st = .long q.1 :: q.2 := by
  unfold p_L at h; split at h
  · cases h; rfl
  · cases h
theorem p_R_s {st : List Value} {q : Nat × List Value} (h : p_R st = some q) : st = .ref q.1 :: q.2 := by
  unfold p_R at h; split at h
  · cases h; rfl
  · cases h
theorem p_II_s {st : List Value} {q : Int32 × Int32 × List Value} (h : p_II st = some q) : st = .int q.2.1 :: .int q.1 :: q.2.2 := by
  unfold p_II at h; split at h
  · cases h; rfl
  · cases h
theorem p_LL_s {st : List Value} {q : Int64 × Int64 × List Value} (h : p_LL st = some q) : st = .long q.2.1 :: .long q.1 :: q.2.2 := by
  unfold p_LL at h; split at h
  · cases h; rfl
  · cases h
theorem p_LI_s {st : List Value} {q : Int64 × Int32 × List Value} (h : p_LI st = some q) : st = .int q.2.1 :: .long q.1 :: q.2.2 := by
  unfold p_LI at h; split at h
  · cases h; rfl
  · cases h
theorem p_RI_s {st : List Value} {q : Nat × Int32 × List Value} (h : p_RI st = some q) : st = .int q.2.1 :: .ref q.1 :: q.2.2 := by
  unfold p_RI at h; split at h
  · cases h; rfl
  · cases h
theorem p_RL_s {st : List Value} {q : Nat × Int64 × List Value} (h : p_RL st = some q) : st = .long q.2.1 :: .ref q.1 :: q.2.2 := by
  unfold p_RL at h; split at h
  · cases h; rfl
  · cases h
theorem p_RR_s {st : List Value} {q : Nat × Nat × List Value} (h : p_RR st = some q) : st = .ref q.2.1 :: .ref q.1 :: q.2.2 := by
  unfold p_RR at h; split at h
  · cases h; rfl
  · cases h
theorem p_RII_s {st : List Value} {q : Nat × Int32 × Int32 × List Value} (h : p_RII st = some q) : st = .int q.2.2.1 :: .int q.2.1 :: .ref q.1 :: q.2.2.2 := by
  unfold p_RII at h; split at h
  · cases h; rfl
  · cases h
theorem p_RIL_s {st : List Value} {q : Nat × Int32 × Int64 × List Value} (h : p_RIL st = some q) : st = .long q.2.2.1 :: .int q.2.1 :: .ref q.1 :: q.2.2.2 := by
  unfold p_RIL at h; split at h
  · cases h; rfl
  · cases h
theorem p_1_s {st : List Value} {q : Value × List Value} (h : p_1 st = some q) : st = q.1 :: q.2 ∧ q.1.category = 1 := by
  unfold p_1 at h; split at h
  · cases h; exact ⟨rfl, rfl⟩
  · cases h; exact ⟨rfl, rfl⟩
  · cases h
theorem p_11_s {st : List Value} {q : Value × Value × List Value} (h : p_11 st = some q) : st = q.2.1 :: q.1 :: q.2.2 ∧ q.1.category = 1 ∧ q.2.1.category = 1 := by
  unfold p_11 at h; split at h
  · cases h; exact ⟨rfl, rfl, rfl⟩
  · cases h; exact ⟨rfl, rfl, rfl⟩
  · cases h
theorem p_cpy_s {st : List Value} {q : Nat × Int32 × Nat × Int32 × Int32 × List Value} (h : p_cpy st = some q) : st = .int q.2.2.2.2.1 :: .int q.2.2.2.1 :: .ref q.2.2.1 :: .int q.2.1 :: .ref q.1 :: q.2.2.2.2.2 := by
  unfold p_cpy at h; split at h
  · cases h; rfl
  · cases h
theorem p_n_s : ∀ (n : Nat) {st : List Value} {q : List Value × List Value}, p_n n st = some q → st = q.1.reverse ++ q.2 ∧ q.1.length = n
  | 0, st, q, h => by
    unfold p_n at h
    cases h
    exact ⟨rfl, rfl⟩
  | n + 1, [], q, h => by
    unfold p_n at h
    cases h
  | n + 1, v :: st, q, h => by
    unfold p_n at h
    obtain ⟨w, hw, h⟩ := Option.bind_eq_some_iff.mp h
    cases h
    obtain ⟨h1, h2⟩ := p_n_s n hw
    subst h1
    refine ⟨?_, ?_⟩
    · simp only [List.reverse_append, List.reverse_cons, List.reverse_nil, List.nil_append, List.cons_append]
    · simp only [List.length_append, List.length_cons, List.length_nil, h2]
theorem j_at_mem {lv : jL} {i : Nat} {v : Value} (h : j_at lv i = some v) : (i, v) ∈ lv := by
  induction lv with
  | nil => cases h
  | cons q l ih =>
    unfold j_at at h
    cases hq : (q.1 == i) with
    | true =>
      rw [hq] at h
      simp only [cond_true, Option.some.injEq] at h
      have e : q = (i, v) := Prod.ext (beq_iff_eq.mp hq) h
      rw [e]
      exact List.mem_cons_self
    | false =>
      rw [hq] at h
      exact List.mem_cons_of_mem _ (ih h)
theorem j_at_ls {α : Nat → Nat} {lv : jL} {i nL : Nat} {v : Value} {ls : Array Slot} (h : j_at lv i = some v) (hl : lv_has ls nL (tl α lv)) : ls[i]? = some (.val (tv α v)) :=
  hl.2.2 (i, tv α v) (List.mem_map.mpr ⟨(i, v), j_at_mem h, rfl⟩)
theorem j_atI_s {lv : jL} {i : Nat} {x : Int32} (h : j_atI lv i = some x) : j_at lv i = some (.int x) := by
  unfold j_atI at h
  obtain ⟨v, hv, h⟩ := Option.bind_eq_some_iff.mp h
  split at h
  · cases h; exact hv
  · cases h
theorem j_atL_s {lv : jL} {i : Nat} {x : Int64} (h : j_atL lv i = some x) : j_at lv i = some (.long x) := by
  unfold j_atL at h
  obtain ⟨v, hv, h⟩ := Option.bind_eq_some_iff.mp h
  split at h
  · cases h; exact hv
  · cases h
theorem j_atR_s {lv : jL} {i : Nat} {x : Nat} (h : j_atR lv i = some x) : j_at lv i = some (.ref x) := by
  unfold j_atR at h
  obtain ⟨v, hv, h⟩ := Option.bind_eq_some_iff.mp h
  split at h
  · cases h; exact hv
  · cases h
theorem j_pick_has {α : Nat → Nat} {lv : jL} {nL : Nat} {ls : Array Slot} (hl : lv_has ls nL (tl α lv)) : ∀ (vs : List Nat) {l : jL}, j_pick vs lv = some l → lv_has ls nL (tl α l)
  | [], l, h => by
    unfold j_pick at h
    cases h
    exact ⟨hl.1, hl.2.1, fun q hq => by cases hq⟩
  | i :: r, l, h => by
    unfold j_pick at h
    obtain ⟨v, hv, h⟩ := Option.bind_eq_some_iff.mp h
    obtain ⟨l', hl', h⟩ := Option.bind_eq_some_iff.mp h
    cases h
    have h1 := j_pick_has hl r hl'
    refine ⟨hl.1, hl.2.1, fun q hq => ?_⟩
    rcases List.mem_cons.mp hq with rfl | hq
    · exact j_at_ls hv hl
    · exact h1.2.2 q hq
theorem tl_st1 (α : Nat → Nat) (lv : jL) (i : Nat) (v : Value) : (i, tv α v) :: (tl α lv).filter (fun q => !(q.1 == i) && !(q.1 + 1 == i && q.2.category == 2)) = tl α (j_st1 lv i v) := by
  unfold j_st1 tl
  rw [List.map_cons, List.filter_map]
  congr 2
  apply List.filter_congr
  intro q _
  simp only [Function.comp, tv_cat]
theorem tl_st2 (α : Nat → Nat) (lv : jL) (i : Nat) (v : Value) : (i, tv α v) :: (tl α lv).filter (fun q => !(q.1 == i) && (!(q.1 == i + 1) && !(q.1 + 1 == i && q.2.category == 2))) = tl α (j_st2 lv i v) := by
  unfold j_st2 tl
  rw [List.map_cons, List.filter_map]
  congr 2
  apply List.filter_congr
  intro q _
  simp only [Function.comp, tv_cat]
theorem j_fs_get {α : Nat → Nat} {σ : jS} {a ci k f : Nat} (h : (j_fk ci)[k]? = some f) : (j_fs α σ a ci)[k]? = some (jfv α σ a k f) := by
  unfold j_fs
  rw [List.getElem?_mapIdx, h]
  rfl
/-- a field is set -/
theorem j_fs_set {α : Nat → Nat} {σ σ' : jS} {a ci k f : Nat} {v : Value} (h : (j_fk ci)[k]? = some f) (hv : v = jfv α σ' a k f) (h1 : ∀ j, j ≠ k → σ'.1 a j = σ.1 a j) (h2 : ∀ j, j ≠ k → σ'.2.1 a j = σ.2.1 a j) (h3 : ∀ j, j ≠ k → σ'.2.2 a j = σ.2.2 a j) : (j_fs α σ a ci).set k v = j_fs α σ' a ci := by
  subst hv
  apply List.ext_getElem?
  intro j
  rw [List.getElem?_set]
  by_cases hkj : k = j
  · subst hkj
    have hl : k < (j_fs α σ a ci).length := (List.getElem?_eq_some_iff.mp (j_fs_get (α := α) (σ := σ) (a := a) h)).1
    rw [if_pos rfl, if_pos hl, j_fs_get h]
  · rw [if_neg hkj]
    unfold j_fs
    rw [List.getElem?_mapIdx, List.getElem?_mapIdx]
    have hne : j ≠ k := fun q => hkj q.symm
    cases hj : (j_fk ci)[j]? with
    | none => rfl
    | some f' =>
      show some _ = some _
      congr 1
      simp only [jfv, h1 j hne, h2 j hne, h3 j hne]
end
section
/-! The methods by number, what the instructions link, and the words for it. Printed by wip/gen/links.py. -/
def jON : List String := ["HalfHands$Journey", "HalfHands$Laws", "HalfHands$Notes", "HalfHands$Orders", "HalfHands$Reader", "HalfHands$Row", "HalfHands$Telling", "HalfHands$Tokens", "HalfHands", "HalfHandsModel", "java/util/Arrays", "java/lang/Integer", "java/lang/Math", "HalfHandsLaw"]
def jon (n : Nat) : String := jON.getD n ""
def jws : List Cond := lw_tbl.filter goodWord
abbrev jM : Type := MethodName × ByteArray × Nat × Nat × Nat × Nat × Nat
/-- name, bytes, locals, what it answers (0 nothing, 1 int, 2 boolean, 3 long), owner, arguments, 1: static -/
def jm_0 : jM := (⟨"HalfHands$Journey", "begin", "(LHalfHands$Telling;)V"⟩, prog_2_method_2_code, 3, 0, 0, 1, 0)
def jm_1 : jM := (⟨"HalfHands$Journey", "beginLike", "(LHalfHands$Journey;II)V"⟩, prog_2_method_3_code, 5, 0, 0, 3, 0)
def jm_2 : jM := (⟨"HalfHands$Journey", "start", "(LHalfHands$Telling;II)V"⟩, prog_2_method_4_code, 4, 0, 0, 3, 0)
def jm_3 : jM := (⟨"HalfHands$Journey", "copyFrom", "(LHalfHands$Journey;)V"⟩, prog_2_method_5_code, 2, 0, 0, 1, 0)
def jm_4 : jM := (⟨"HalfHands$Journey", "add", "(III)I"⟩, prog_2_method_6_code, 4, 1, 0, 3, 0)
def jm_5 : jM := (⟨"HalfHands$Journey", "isParcel", "(I)Z"⟩, prog_2_method_7_code, 2, 2, 0, 1, 0)
def jm_6 : jM := (⟨"HalfHands$Journey", "inState", "(I)I"⟩, prog_2_method_8_code, 4, 1, 0, 1, 0)
def jm_7 : jM := (⟨"HalfHands$Journey", "allCoins", "()J"⟩, prog_2_method_9_code, 4, 3, 0, 0, 0)
def jm_8 : jM := (⟨"HalfHands$Journey", "hoursTillRest", "()I"⟩, prog_2_method_10_code, 2, 1, 0, 0, 0)
def jm_9 : jM := (⟨"HalfHands$Journey", "passTo", "(I)V"⟩, prog_2_method_11_code, 3, 0, 0, 1, 0)
def jm_10 : jM := (⟨"HalfHands$Journey", "pass", "()V"⟩, prog_2_method_12_code, 2, 0, 0, 0, 0)
def jm_11 : jM := (⟨"HalfHands$Journey", "isLeftOut", "(I)Z"⟩, prog_2_method_13_code, 2, 2, 0, 1, 0)
def jm_12 : jM := (⟨"HalfHands$Journey", "dispatch", "(I)V"⟩, prog_2_method_14_code, 2, 0, 0, 1, 0)
def jm_13 : jM := (⟨"HalfHands$Journey", "bring", "(I)V"⟩, prog_2_method_15_code, 4, 0, 0, 1, 0)
def jm_14 : jM := (⟨"HalfHands$Journey", "waysOf", "(I)I"⟩, prog_2_method_16_code, 3, 1, 0, 1, 0)
def jm_15 : jM := (⟨"HalfHands$Journey", "shareOf", "(II)I"⟩, prog_2_method_17_code, 7, 1, 0, 2, 0)
def jm_16 : jM := (⟨"HalfHands$Journey", "ageOf", "(I)I"⟩, prog_2_method_18_code, 2, 1, 0, 1, 0)
def jm_17 : jM := (⟨"HalfHands$Journey", "handOn", "(II)V"⟩, prog_2_method_19_code, 3, 0, 0, 2, 0)
def jm_18 : jM := (⟨"HalfHands$Journey", "settle", "(II)V"⟩, prog_2_method_20_code, 3, 0, 0, 2, 0)
def jm_19 : jM := (⟨"HalfHands$Laws", "clear", "()V"⟩, prog_3_method_2_code, 1, 0, 1, 0, 0)
def jm_20 : jM := (⟨"HalfHands$Laws", "open", "(I)V"⟩, prog_3_method_3_code, 2, 0, 1, 1, 0)
def jm_21 : jM := (⟨"HalfHands$Laws", "close", "(I)V"⟩, prog_3_method_4_code, 2, 0, 1, 1, 0)
def jm_22 : jM := (⟨"HalfHands$Laws", "write", "(II)V"⟩, prog_3_method_5_code, 3, 0, 1, 2, 0)
def jm_23 : jM := (⟨"HalfHands$Laws", "oddStays", "(IIIIII)Z"⟩, prog_3_method_6_code, 9, 2, 1, 6, 0)
def jm_24 : jM := (⟨"HalfHands$Laws", "share", "(IIIIII)I"⟩, prog_3_method_7_code, 8, 1, 1, 6, 0)
def jm_25 : jM := (⟨"HalfHands$Laws", "value", "(IIIIII)J"⟩, prog_3_method_8_code, 10, 3, 1, 6, 0)
def jm_26 : jM := (⟨"HalfHands$Laws", "joined", "(IJJ)J"⟩, prog_3_method_9_code, 9, 3, 1, 3, 1)
def jm_27 : jM := (⟨"HalfHands$Notes", "clear", "()V"⟩, prog_4_method_2_code, 1, 0, 2, 0, 0)
def jm_28 : jM := (⟨"HalfHands$Notes", "add", "(IJIII)I"⟩, prog_4_method_3_code, 7, 1, 2, 5, 0)
def jm_29 : jM := (⟨"HalfHands$Notes", "addStrike", "(I)I"⟩, prog_4_method_4_code, 2, 1, 2, 1, 0)
def jm_30 : jM := (⟨"HalfHands$Notes", "knownSize", "()I"⟩, prog_4_method_5_code, 1, 1, 2, 0, 0)
def jm_31 : jM := (⟨"HalfHands$Notes", "markStruck", "()V"⟩, prog_4_method_6_code, 2, 0, 2, 0, 0)
def jm_32 : jM := (⟨"HalfHands$Notes", "holds", "(I)Z"⟩, prog_4_method_7_code, 2, 2, 2, 1, 0)
def jm_33 : jM := (⟨"HalfHands$Notes", "allows", "(II)Z"⟩, prog_4_method_8_code, 3, 2, 2, 2, 0)
def jm_34 : jM := (⟨"HalfHands$Orders", "take", "(LHalfHands$Telling;I)V"⟩, prog_5_method_2_code, 4, 0, 3, 2, 0)
def jm_35 : jM := (⟨"HalfHands$Orders", "askOddOnes", "()V"⟩, prog_5_method_3_code, 5, 0, 3, 0, 0)
def jm_36 : jM := (⟨"HalfHands$Orders", "askOddOne", "(IIII)V"⟩, prog_5_method_4_code, 6, 0, 3, 4, 0)
def jm_37 : jM := (⟨"HalfHands$Orders", "way", "(III)I"⟩, prog_5_method_5_code, 3, 1, 3, 3, 1)
def jm_38 : jM := (⟨"HalfHands$Orders", "mostArriving", "()I"⟩, prog_5_method_6_code, 2, 1, 3, 0, 0)
def jm_39 : jM := (⟨"HalfHands$Orders", "leastArriving", "()I"⟩, prog_5_method_7_code, 2, 1, 3, 0, 0)
def jm_40 : jM := (⟨"HalfHands$Orders", "howManyBring", "(I)I"⟩, prog_5_method_8_code, 2, 1, 3, 1, 0)
def jm_41 : jM := (⟨"HalfHands$Orders", "firstBringing", "(I)J"⟩, prog_5_method_9_code, 2, 3, 3, 1, 0)
def jm_42 : jM := (⟨"HalfHands$Orders", "fewestSwaps", "(I)I"⟩, prog_5_method_10_code, 3, 1, 3, 1, 0)
def jm_43 : jM := (⟨"HalfHands$Orders", "nearestBringing", "(I)J"⟩, prog_5_method_11_code, 3, 3, 3, 1, 0)
def jm_44 : jM := (⟨"HalfHands$Orders", "gain", "(IZ)I"⟩, prog_5_method_12_code, 3, 1, 3, 2, 0)
def jm_45 : jM := (⟨"HalfHands$Orders", "gainPlace", "(IZ)I"⟩, prog_5_method_13_code, 3, 1, 3, 2, 0)
def jm_46 : jM := (⟨"HalfHands$Orders", "numberOf", "(I)I"⟩, prog_5_method_14_code, 3, 1, 3, 1, 0)
def jm_47 : jM := (⟨"HalfHands$Orders", "solved", "(II)I"⟩, prog_5_method_15_code, 5, 1, 3, 2, 0)
def jm_48 : jM := (⟨"HalfHands$Orders", "everybody", "()I"⟩, prog_5_method_16_code, 1, 1, 3, 0, 0)
def jm_49 : jM := (⟨"HalfHands$Orders", "has", "(II)Z"⟩, prog_5_method_17_code, 2, 2, 3, 2, 1)
def jm_50 : jM := (⟨"HalfHands$Orders", "state", "(III)I"⟩, prog_5_method_18_code, 3, 1, 3, 3, 1)
def jm_51 : jM := (⟨"HalfHands$Orders", "judged", "(III)I"⟩, prog_5_method_19_code, 7, 1, 3, 3, 0)
def jm_52 : jM := (⟨"HalfHands$Orders", "judgedEnd", "(III)I"⟩, prog_5_method_20_code, 6, 1, 3, 3, 0)
def jm_53 : jM := (⟨"HalfHands$Orders", "judgedStep", "(IIII)I"⟩, prog_5_method_21_code, 8, 1, 3, 4, 0)
def jm_54 : jM := (⟨"HalfHands$Orders", "isAskedOf", "(II)Z"⟩, prog_5_method_22_code, 3, 2, 3, 2, 0)
def jm_55 : jM := (⟨"HalfHands$Orders", "joined", "(II)I"⟩, prog_5_method_23_code, 3, 1, 3, 2, 0)
def jm_56 : jM := (⟨"HalfHands$Orders", "handed", "(IIII)I"⟩, prog_5_method_24_code, 6, 1, 3, 4, 0)
def jm_57 : jM := (⟨"HalfHands$Orders", "overtaken", "(II)I"⟩, prog_5_method_25_code, 5, 1, 3, 2, 0)
def jm_58 : jM := (⟨"HalfHands$Orders", "laidRow", "(I)J"⟩, prog_5_method_26_code, 5, 3, 3, 1, 0)
def jm_59 : jM := (⟨"HalfHands$Orders", "lay", "(I)V"⟩, prog_5_method_27_code, 7, 0, 3, 1, 0)
def jm_60 : jM := (⟨"HalfHands$Orders", "chosen", "(IIII)I"⟩, prog_5_method_28_code, 6, 1, 3, 4, 0)
def jm_61 : jM := (⟨"HalfHands$Orders", "leads", "(II)Z"⟩, prog_5_method_29_code, 3, 2, 3, 2, 0)
def jm_62 : jM := (⟨"HalfHands$Reader", "begin", "(ILHalfHands$Telling;)V"⟩, prog_6_method_2_code, 3, 0, 4, 2, 0)
def jm_63 : jM := (⟨"HalfHands$Reader", "goesOn", "()Z"⟩, prog_6_method_3_code, 1, 2, 4, 0, 0)
def jm_64 : jM := (⟨"HalfHands$Reader", "fails", "(I)Z"⟩, prog_6_method_4_code, 2, 2, 4, 1, 0)
def jm_65 : jM := (⟨"HalfHands$Reader", "passes", "(I)Z"⟩, prog_6_method_5_code, 2, 2, 4, 1, 0)
def jm_66 : jM := (⟨"HalfHands$Reader", "readLine", "()Z"⟩, prog_6_method_6_code, 1, 2, 4, 0, 0)
def jm_67 : jM := (⟨"HalfHands$Reader", "personLine", "()Z"⟩, prog_6_method_7_code, 3, 2, 4, 0, 0)
def jm_68 : jM := (⟨"HalfHands$Reader", "newName", "(I)Z"⟩, prog_6_method_8_code, 2, 2, 4, 1, 0)
def jm_69 : jM := (⟨"HalfHands$Reader", "readNumber", "(II)Z"⟩, prog_6_method_9_code, 3, 2, 4, 2, 0)
def jm_70 : jM := (⟨"HalfHands$Reader", "handsLine", "()Z"⟩, prog_6_method_10_code, 3, 2, 4, 0, 0)
def jm_71 : jM := (⟨"HalfHands$Reader", "toldPerson", "()I"⟩, prog_6_method_11_code, 2, 1, 4, 0, 0)
def jm_72 : jM := (⟨"HalfHands$Reader", "heirOf", "(I)Z"⟩, prog_6_method_12_code, 3, 2, 4, 1, 0)
def jm_73 : jM := (⟨"HalfHands$Reader", "parcelLine", "()Z"⟩, prog_6_method_13_code, 3, 2, 4, 0, 0)
def jm_74 : jM := (⟨"HalfHands$Reader", "lawLine", "()Z"⟩, prog_6_method_14_code, 2, 2, 4, 0, 0)
def jm_75 : jM := (⟨"HalfHands$Reader", "mayLine", "()Z"⟩, prog_6_method_15_code, 3, 2, 4, 0, 0)
def jm_76 : jM := (⟨"HalfHands$Reader", "expression", "(II)Z"⟩, prog_6_method_16_code, 6, 2, 4, 2, 0)
def jm_77 : jM := (⟨"HalfHands$Reader", "joins", "(II)Z"⟩, prog_6_method_17_code, 2, 2, 4, 2, 1)
def jm_78 : jM := (⟨"HalfHands$Reader", "passKnot", "()Z"⟩, prog_6_method_18_code, 1, 2, 4, 0, 0)
def jm_79 : jM := (⟨"HalfHands$Reader", "denial", "(I)Z"⟩, prog_6_method_19_code, 4, 2, 4, 1, 0)
def jm_80 : jM := (⟨"HalfHands$Reader", "operand", "(I)Z"⟩, prog_6_method_20_code, 4, 2, 4, 1, 0)
def jm_81 : jM := (⟨"HalfHands$Reader", "enclosed", "(I)Z"⟩, prog_6_method_21_code, 2, 2, 4, 1, 0)
def jm_82 : jM := (⟨"HalfHands$Row", "take", "(IJI)Z"⟩, prog_7_method_2_code, 8, 2, 5, 3, 0)
def jm_83 : jM := (⟨"HalfHands$Row", "placed", "(II)J"⟩, prog_7_method_3_code, 2, 3, 5, 2, 1)
def jm_84 : jM := (⟨"HalfHands$Row", "carriers", "()I"⟩, prog_7_method_4_code, 1, 1, 5, 0, 0)
def jm_85 : jM := (⟨"HalfHands$Row", "placeOf", "(I)I"⟩, prog_7_method_5_code, 3, 1, 5, 1, 0)
def jm_86 : jM := (⟨"HalfHands$Row", "isCarrier", "(I)Z"⟩, prog_7_method_6_code, 2, 2, 5, 1, 0)
def jm_87 : jM := (⟨"HalfHands$Row", "swapAt", "(I)V"⟩, prog_7_method_7_code, 3, 0, 5, 1, 0)
def jm_88 : jM := (⟨"HalfHands$Row", "arriving", "(LHalfHands$Telling;II)I"⟩, prog_7_method_8_code, 6, 1, 5, 3, 0)
def jm_89 : jM := (⟨"HalfHands$Row", "keptAt", "(LHalfHands$Telling;II)I"⟩, prog_7_method_9_code, 7, 1, 5, 3, 0)
def jm_90 : jM := (⟨"HalfHands$Row", "ageAt", "(LHalfHands$Telling;I)I"⟩, prog_7_method_10_code, 3, 1, 5, 2, 0)
def jm_91 : jM := (⟨"HalfHands$Row", "leastBringing", "(LHalfHands$Telling;I)I"⟩, prog_7_method_11_code, 8, 1, 5, 2, 0)
def jm_92 : jM := (⟨"HalfHands$Telling", "clear", "()V"⟩, prog_8_method_2_code, 1, 0, 6, 0, 0)
def jm_93 : jM := (⟨"HalfHands$Telling", "isPerson", "(I)Z"⟩, prog_8_method_3_code, 2, 2, 6, 1, 0)
def jm_94 : jM := (⟨"HalfHands$Telling", "personNamed", "(I)I"⟩, prog_8_method_4_code, 2, 1, 6, 1, 0)
def jm_95 : jM := (⟨"HalfHands$Telling", "mayNamed", "(I)I"⟩, prog_8_method_5_code, 2, 1, 6, 1, 0)
def jm_96 : jM := (⟨"HalfHands$Telling", "placeOf", "(I[II)I"⟩, prog_8_method_6_code, 4, 1, 6, 3, 1)
def jm_97 : jM := (⟨"HalfHands$Telling", "addPerson", "(II)V"⟩, prog_8_method_7_code, 3, 0, 6, 2, 0)
def jm_98 : jM := (⟨"HalfHands$Telling", "addHeir", "(II)V"⟩, prog_8_method_8_code, 3, 0, 6, 2, 0)
def jm_99 : jM := (⟨"HalfHands$Telling", "addParcel", "(III)V"⟩, prog_8_method_9_code, 4, 0, 6, 3, 0)
def jm_100 : jM := (⟨"HalfHands$Telling", "addMay", "(I)V"⟩, prog_8_method_10_code, 2, 0, 6, 1, 0)
def jm_101 : jM := (⟨"HalfHands$Telling", "heir", "(II)I"⟩, prog_8_method_11_code, 3, 1, 6, 2, 0)
def jm_102 : jM := (⟨"HalfHands$Telling", "handsTo", "(II)Z"⟩, prog_8_method_12_code, 4, 2, 6, 2, 0)
def jm_103 : jM := (⟨"HalfHands$Tokens", "isName", "(I)Z"⟩, prog_9_method_2_code, 1, 2, 7, 1, 1)
def jm_104 : jM := (⟨"HalfHands$Tokens", "isComparison", "(I)Z"⟩, prog_9_method_3_code, 1, 2, 7, 1, 1)
def jm_105 : jM := (⟨"HalfHands$Tokens", "begin", "(I)V"⟩, prog_9_method_4_code, 2, 0, 7, 1, 0)
def jm_106 : jM := (⟨"HalfHands$Tokens", "advance", "()V"⟩, prog_9_method_5_code, 1, 0, 7, 0, 0)
def jm_107 : jM := (⟨"HalfHands$Tokens", "readWord", "()V"⟩, prog_9_method_6_code, 3, 0, 7, 0, 0)
def jm_108 : jM := (⟨"HalfHands$Tokens", "readNumber", "()V"⟩, prog_9_method_7_code, 1, 0, 7, 0, 0)
def jm_109 : jM := (⟨"HalfHands$Tokens", "readSign", "()V"⟩, prog_9_method_8_code, 3, 0, 7, 0, 0)
def jm_110 : jM := (⟨"HalfHands", "feed", "(IIIII)I"⟩, prog_1_method_2_code, 6, 1, 8, 5, 0)
def jm_111 : jM := (⟨"HalfHands", "append", "(I)V"⟩, prog_1_method_3_code, 3, 0, 8, 1, 0)
def jm_112 : jM := (⟨"HalfHands", "text", "(I)I"⟩, prog_1_method_4_code, 4, 1, 8, 1, 0)
def jm_113 : jM := (⟨"HalfHands", "fault", "(I)I"⟩, prog_1_method_5_code, 2, 1, 8, 1, 0)
def jm_114 : jM := (⟨"HalfHands", "named", "(II)I"⟩, prog_1_method_6_code, 3, 1, 8, 2, 0)
def jm_115 : jM := (⟨"HalfHands", "look", "(II)I"⟩, prog_1_method_7_code, 3, 1, 8, 2, 0)
def jm_116 : jM := (⟨"HalfHands", "hours", "(I)I"⟩, prog_1_method_8_code, 2, 1, 8, 1, 0)
def jm_117 : jM := (⟨"HalfHands", "send", "(II)I"⟩, prog_1_method_9_code, 3, 1, 8, 2, 0)
def jm_118 : jM := (⟨"HalfHands", "parcel", "(II)I"⟩, prog_1_method_10_code, 3, 1, 8, 2, 0)
def jm_119 : jM := (⟨"HalfHands", "coins", "()J"⟩, prog_1_method_11_code, 1, 3, 8, 0, 0)
def jm_120 : jM := (⟨"HalfHands", "rest", "()I"⟩, prog_1_method_12_code, 1, 1, 8, 0, 0)
def jm_121 : jM := (⟨"HalfHands", "arrives", "(IJI)I"⟩, prog_1_method_13_code, 5, 1, 8, 3, 0)
def jm_122 : jM := (⟨"HalfHands", "keeps", "(IJII)I"⟩, prog_1_method_14_code, 6, 1, 8, 4, 0)
def jm_123 : jM := (⟨"HalfHands", "back", "(IJII)I"⟩, prog_1_method_15_code, 8, 1, 8, 4, 0)
def jm_124 : jM := (⟨"HalfHands", "span", "(IJIII)I"⟩, prog_1_method_16_code, 7, 1, 8, 5, 0)
def jm_125 : jM := (⟨"HalfHands", "endOfBack", "(II)I"⟩, prog_1_method_17_code, 4, 1, 8, 2, 0)
def jm_126 : jM := (⟨"HalfHands", "best", "(IJII)I"⟩, prog_1_method_18_code, 6, 1, 8, 4, 0)
def jm_127 : jM := (⟨"HalfHands", "order", "(IJII)J"⟩, prog_1_method_19_code, 6, 3, 8, 4, 0)
def jm_128 : jM := (⟨"HalfHands", "just", "(IJII)I"⟩, prog_1_method_20_code, 6, 1, 8, 4, 0)
def jm_129 : jM := (⟨"HalfHands", "first", "(IJII)J"⟩, prog_1_method_21_code, 6, 3, 8, 4, 0)
def jm_130 : jM := (⟨"HalfHands", "bound", "(III)I"⟩, prog_1_method_22_code, 4, 1, 8, 3, 0)
def jm_131 : jM := (⟨"HalfHands", "gains", "(IJIII)I"⟩, prog_1_method_23_code, 8, 1, 8, 5, 0)
def jm_132 : jM := (⟨"HalfHands", "changes", "(IJII)I"⟩, prog_1_method_24_code, 6, 1, 8, 4, 0)
def jm_133 : jM := (⟨"HalfHands", "changed", "(IJII)J"⟩, prog_1_method_25_code, 6, 3, 8, 4, 0)
def jm_134 : jM := (⟨"HalfHands", "worth", "(IJII)I"⟩, prog_1_method_26_code, 7, 1, 8, 4, 0)
def jm_135 : jM := (⟨"HalfHands", "serves", "(IJI)I"⟩, prog_1_method_27_code, 6, 1, 8, 3, 0)
def jm_136 : jM := (⟨"HalfHands", "isOutdone", "(I)Z"⟩, prog_1_method_28_code, 3, 2, 8, 1, 0)
def jm_137 : jM := (⟨"HalfHands", "law", "(IIIII)J"⟩, prog_1_method_29_code, 7, 3, 8, 5, 0)
def jm_138 : jM := (⟨"HalfHands", "note", "(IJIII)I"⟩, prog_1_method_30_code, 7, 1, 8, 5, 0)
def jm_139 : jM := (⟨"HalfHands", "strike", "(I)I"⟩, prog_1_method_31_code, 2, 1, 8, 1, 0)
def jm_140 : jM := (⟨"HalfHands", "known", "(I)Z"⟩, prog_1_method_32_code, 2, 2, 8, 1, 0)
def jm_141 : jM := (⟨"HalfHands", "fits", "()I"⟩, prog_1_method_33_code, 3, 1, 8, 0, 0)
def jm_142 : jM := (⟨"HalfHands", "agrees", "(I)Z"⟩, prog_1_method_34_code, 3, 2, 8, 1, 0)
def jm_143 : jM := (⟨"HalfHands", "lawNumbered", "(I)I"⟩, prog_1_method_35_code, 2, 1, 8, 1, 0)
def jm_144 : jM := (⟨"HalfHands", "apart", "(IJII)I"⟩, prog_1_method_36_code, 8, 1, 8, 4, 0)
def jm_145 : jM := (⟨"HalfHands", "tried", "(III)I"⟩, prog_1_method_37_code, 4, 1, 8, 3, 0)
def jm_146 : jM := (⟨"HalfHands", "isTrial", "(II)Z"⟩, prog_1_method_38_code, 3, 2, 8, 2, 0)
def jm_147 : jM := (⟨"HalfHands", "keep", "()I"⟩, prog_1_method_39_code, 1, 1, 8, 0, 0)
def jm_148 : jM := (⟨"HalfHands", "again", "()I"⟩, prog_1_method_40_code, 1, 1, 8, 0, 0)
def jm_149 : jM := (⟨"HalfHands", "count", "(I)I"⟩, prog_1_method_41_code, 2, 1, 8, 1, 0)
def jm_150 : jM := (⟨"HalfHands", "isRow", "(IJ)Z"⟩, prog_1_method_42_code, 4, 2, 8, 2, 0)
def jm_151 : jM := (⟨"HalfHands", "isSent", "(IJI)Z"⟩, prog_1_method_43_code, 5, 2, 8, 3, 0)
def jm_152 : jM := (⟨"HalfHands", "within", "(III)Z"⟩, prog_1_method_44_code, 3, 2, 8, 3, 1)
def jm_153 : jM := (⟨"HalfHands", "ceiling", "(II)I"⟩, prog_1_method_45_code, 2, 1, 8, 2, 1)
def jm_154 : jM := (⟨"HalfHandsModel", "thrown", "()I"⟩, prog_11_method_2_code, 1, 1, 9, 0, 0)
def jm_155 : jM := (⟨"HalfHandsModel", "feed", "(IIIII)I"⟩, prog_11_method_3_code, 8, 1, 9, 5, 0)
def jm_156 : jM := (⟨"HalfHandsModel", "here", "()I"⟩, prog_11_method_4_code, 1, 1, 9, 0, 0)
def jm_157 : jM := (⟨"HalfHandsModel", "isSmall", "(I)Z"⟩, prog_11_method_5_code, 1, 2, 9, 1, 1)
def jm_158 : jM := (⟨"HalfHandsModel", "isDigit", "(I)Z"⟩, prog_11_method_6_code, 1, 2, 9, 1, 1)
def jm_159 : jM := (⟨"HalfHandsModel", "token", "()V"⟩, prog_11_method_7_code, 2, 0, 9, 0, 0)
def jm_160 : jM := (⟨"HalfHandsModel", "sign", "(I)V"⟩, prog_11_method_8_code, 2, 0, 9, 1, 0)
def jm_161 : jM := (⟨"HalfHandsModel", "word", "()I"⟩, prog_11_method_9_code, 4, 1, 9, 0, 0)
def jm_162 : jM := (⟨"HalfHandsModel", "name", "()V"⟩, prog_11_method_10_code, 2, 0, 9, 0, 0)
def jm_163 : jM := (⟨"HalfHandsModel", "wrong", "(I)V"⟩, prog_11_method_11_code, 2, 0, 9, 1, 0)
def jm_164 : jM := (⟨"HalfHandsModel", "isWord", "(I)Z"⟩, prog_11_method_12_code, 2, 2, 9, 1, 0)
def jm_165 : jM := (⟨"HalfHandsModel", "isSign", "(I)Z"⟩, prog_11_method_13_code, 2, 2, 9, 1, 0)
def jm_166 : jM := (⟨"HalfHandsModel", "goOn", "()V"⟩, prog_11_method_14_code, 1, 0, 9, 0, 0)
def jm_167 : jM := (⟨"HalfHandsModel", "numeral", "(II)I"⟩, prog_11_method_15_code, 4, 1, 9, 2, 0)
def jm_168 : jM := (⟨"HalfHandsModel", "found", "([IIII)I"⟩, prog_11_method_16_code, 5, 1, 9, 4, 1)
def jm_169 : jM := (⟨"HalfHandsModel", "fresh", "([III)I"⟩, prog_11_method_17_code, 5, 1, 9, 3, 0)
def jm_170 : jM := (⟨"HalfHandsModel", "person", "()I"⟩, prog_11_method_18_code, 1, 1, 9, 0, 0)
def jm_171 : jM := (⟨"HalfHandsModel", "fresher", "(I)I"⟩, prog_11_method_19_code, 2, 1, 9, 1, 0)
def jm_172 : jM := (⟨"HalfHandsModel", "oneMore", "(I)V"⟩, prog_11_method_20_code, 2, 0, 9, 1, 0)
def jm_173 : jM := (⟨"HalfHandsModel", "line", "()V"⟩, prog_11_method_21_code, 3, 0, 9, 0, 0)
def jm_174 : jM := (⟨"HalfHandsModel", "personLine", "(I)V"⟩, prog_11_method_22_code, 2, 0, 9, 1, 0)
def jm_175 : jM := (⟨"HalfHandsModel", "handsLine", "()V"⟩, prog_11_method_23_code, 3, 0, 9, 0, 0)
def jm_176 : jM := (⟨"HalfHandsModel", "handsOne", "(I)V"⟩, prog_11_method_24_code, 5, 0, 9, 1, 0)
def jm_177 : jM := (⟨"HalfHandsModel", "parcelLine", "(I)V"⟩, prog_11_method_25_code, 2, 0, 9, 1, 0)
def jm_178 : jM := (⟨"HalfHandsModel", "puts", "(II)V"⟩, prog_11_method_26_code, 3, 0, 9, 2, 0)
def jm_179 : jM := (⟨"HalfHandsModel", "knot", "()V"⟩, prog_11_method_27_code, 1, 0, 9, 0, 0)
def jm_180 : jM := (⟨"HalfHandsModel", "expression", "()V"⟩, prog_11_method_28_code, 1, 0, 9, 0, 0)
def jm_181 : jM := (⟨"HalfHandsModel", "conjunction", "()V"⟩, prog_11_method_29_code, 1, 0, 9, 0, 0)
def jm_182 : jM := (⟨"HalfHandsModel", "negation", "()V"⟩, prog_11_method_30_code, 2, 0, 9, 0, 0)
def jm_183 : jM := (⟨"HalfHandsModel", "sum", "()V"⟩, prog_11_method_31_code, 2, 0, 9, 0, 0)
def jm_184 : jM := (⟨"HalfHandsModel", "product", "()V"⟩, prog_11_method_32_code, 2, 0, 9, 0, 0)
def jm_185 : jM := (⟨"HalfHandsModel", "primary", "()V"⟩, prog_11_method_33_code, 2, 0, 9, 0, 0)
def jm_186 : jM := (⟨"HalfHandsModel", "half", "([I)V"⟩, prog_11_method_34_code, 3, 0, 9, 1, 1)
def jm_187 : jM := (⟨"HalfHandsModel", "text", "(I)I"⟩, prog_11_method_35_code, 3, 1, 9, 1, 0)
def jm_188 : jM := (⟨"HalfHandsModel", "fault", "(I)I"⟩, prog_11_method_36_code, 2, 1, 9, 1, 0)
def jm_189 : jM := (⟨"HalfHandsModel", "named", "(II)I"⟩, prog_11_method_37_code, 3, 1, 9, 2, 0)
def jm_190 : jM := (⟨"HalfHandsModel", "isPerson", "(I)Z"⟩, prog_11_method_38_code, 2, 2, 9, 1, 0)
def jm_191 : jM := (⟨"HalfHandsModel", "plain", "()V"⟩, prog_11_method_39_code, 1, 0, 9, 0, 0)
def jm_192 : jM := (⟨"HalfHandsModel", "ageOf", "(I)I"⟩, prog_11_method_40_code, 2, 1, 9, 1, 0)
def jm_193 : jM := (⟨"HalfHandsModel", "manyOf", "(I)I"⟩, prog_11_method_41_code, 2, 1, 9, 1, 0)
def jm_194 : jM := (⟨"HalfHandsModel", "is", "(Z)J"⟩, prog_11_method_42_code, 1, 3, 9, 1, 1)
def jm_195 : jM := (⟨"HalfHandsModel", "works", "(I)Z"⟩, prog_11_method_43_code, 8, 2, 9, 1, 0)
def jm_196 : jM := (⟨"HalfHandsModel", "goes", "(I)Z"⟩, prog_11_method_44_code, 3, 2, 9, 1, 0)
def jm_197 : jM := (⟨"HalfHandsModel", "lays", "(IIIII)V"⟩, prog_11_method_45_code, 6, 0, 9, 5, 0)
def jm_198 : jM := (⟨"HalfHandsModel", "kept", "(IIIII)I"⟩, prog_11_method_46_code, 7, 1, 9, 5, 0)
def jm_199 : jM := (⟨"HalfHandsModel", "law", "(IIIII)J"⟩, prog_11_method_47_code, 7, 3, 9, 5, 0)
def jm_200 : jM := (⟨"HalfHandsModel", "begins", "(I)V"⟩, prog_11_method_48_code, 3, 0, 9, 1, 0)
def jm_201 : jM := (⟨"HalfHandsModel", "newParcel", "(I)V"⟩, prog_11_method_49_code, 2, 0, 9, 1, 0)
def jm_202 : jM := (⟨"HalfHandsModel", "copies", "(II)V"⟩, prog_11_method_50_code, 4, 0, 9, 2, 0)
def jm_203 : jM := (⟨"HalfHandsModel", "nextOf", "(II)I"⟩, prog_11_method_51_code, 3, 1, 9, 2, 0)
def jm_204 : jM := (⟨"HalfHandsModel", "handsOn", "(IIII)V"⟩, prog_11_method_52_code, 6, 0, 9, 4, 0)
def jm_205 : jM := (⟨"HalfHandsModel", "rests", "(IIII)V"⟩, prog_11_method_53_code, 6, 0, 9, 4, 0)
def jm_206 : jM := (⟨"HalfHandsModel", "passes", "(I)V"⟩, prog_11_method_54_code, 4, 0, 9, 1, 0)
def jm_207 : jM := (⟨"HalfHandsModel", "comes", "(II)V"⟩, prog_11_method_55_code, 7, 0, 9, 2, 0)
def jm_208 : jM := (⟨"HalfHandsModel", "look", "(II)I"⟩, prog_11_method_56_code, 3, 1, 9, 2, 0)
def jm_209 : jM := (⟨"HalfHandsModel", "hours", "(I)I"⟩, prog_11_method_57_code, 3, 1, 9, 1, 0)
def jm_210 : jM := (⟨"HalfHandsModel", "send", "(II)I"⟩, prog_11_method_58_code, 3, 1, 9, 2, 0)
def jm_211 : jM := (⟨"HalfHandsModel", "isParcel", "(I)Z"⟩, prog_11_method_59_code, 2, 2, 9, 1, 0)
def jm_212 : jM := (⟨"HalfHandsModel", "parcel", "(II)I"⟩, prog_11_method_60_code, 3, 1, 9, 2, 0)
def jm_213 : jM := (⟨"HalfHandsModel", "coins", "()J"⟩, prog_11_method_61_code, 4, 3, 9, 0, 0)
def jm_214 : jM := (⟨"HalfHandsModel", "isAllRest", "(I)Z"⟩, prog_11_method_62_code, 3, 2, 9, 1, 0)
def jm_215 : jM := (⟨"HalfHandsModel", "rest", "()I"⟩, prog_11_method_63_code, 2, 1, 9, 0, 0)
def jm_216 : jM := (⟨"HalfHandsModel", "takes", "(IJ)Z"⟩, prog_11_method_64_code, 7, 2, 9, 2, 0)
def jm_217 : jM := (⟨"HalfHandsModel", "takesSent", "(IJI)Z"⟩, prog_11_method_65_code, 5, 2, 9, 3, 0)
def jm_218 : jM := (⟨"HalfHandsModel", "sends", "(I)I"⟩, prog_11_method_66_code, 4, 1, 9, 1, 0)
def jm_219 : jM := (⟨"HalfHandsModel", "rowAsLong", "()J"⟩, prog_11_method_67_code, 4, 3, 9, 0, 0)
def jm_220 : jM := (⟨"HalfHandsModel", "arrives", "(IJI)I"⟩, prog_11_method_68_code, 5, 1, 9, 3, 0)
def jm_221 : jM := (⟨"HalfHandsModel", "keeps", "(IJII)I"⟩, prog_11_method_69_code, 6, 1, 9, 4, 0)
def jm_222 : jM := (⟨"HalfHandsModel", "goesOn", "(JI)I"⟩, prog_11_method_70_code, 5, 1, 9, 2, 0)
def jm_223 : jM := (⟨"HalfHandsModel", "backs", "(I)V"⟩, prog_11_method_71_code, 7, 0, 9, 1, 0)
def jm_224 : jM := (⟨"HalfHandsModel", "laysBack", "(IJI)Z"⟩, prog_11_method_72_code, 5, 2, 9, 3, 0)
def jm_225 : jM := (⟨"HalfHandsModel", "back", "(IJII)I"⟩, prog_11_method_73_code, 7, 1, 9, 4, 0)
def jm_226 : jM := (⟨"HalfHandsModel", "span", "(IJIII)I"⟩, prog_11_method_74_code, 7, 1, 9, 5, 0)
def jm_227 : jM := (⟨"HalfHandsModel", "turns", "(II)V"⟩, prog_11_method_75_code, 7, 0, 9, 2, 0)
def jm_228 : jM := (⟨"HalfHandsModel", "sees", "()V"⟩, prog_11_method_76_code, 5, 0, 9, 0, 0)
def jm_229 : jM := (⟨"HalfHandsModel", "changesTo", "()I"⟩, prog_11_method_77_code, 4, 1, 9, 0, 0)
def jm_230 : jM := (⟨"HalfHandsModel", "placeOf", "(I)I"⟩, prog_11_method_78_code, 3, 1, 9, 1, 0)
def jm_231 : jM := (⟨"HalfHandsModel", "goesThrough", "(IIII)V"⟩, prog_11_method_79_code, 6, 0, 9, 4, 0)
def jm_232 : jM := (⟨"HalfHandsModel", "best", "(IJII)I"⟩, prog_11_method_80_code, 6, 1, 9, 4, 0)
def jm_233 : jM := (⟨"HalfHandsModel", "order", "(IJII)J"⟩, prog_11_method_81_code, 6, 3, 9, 4, 0)
def jm_234 : jM := (⟨"HalfHandsModel", "isAimed", "(IJII)Z"⟩, prog_11_method_82_code, 6, 2, 9, 4, 0)
def jm_235 : jM := (⟨"HalfHandsModel", "just", "(IJII)I"⟩, prog_11_method_83_code, 6, 1, 9, 4, 0)
def jm_236 : jM := (⟨"HalfHandsModel", "first", "(IJII)J"⟩, prog_11_method_84_code, 6, 3, 9, 4, 0)
def jm_237 : jM := (⟨"HalfHandsModel", "bound", "(III)I"⟩, prog_11_method_85_code, 6, 1, 9, 3, 0)
def jm_238 : jM := (⟨"HalfHandsModel", "gains", "(IJIII)I"⟩, prog_11_method_86_code, 9, 1, 9, 5, 0)
def jm_239 : jM := (⟨"HalfHandsModel", "changes", "(IJII)I"⟩, prog_11_method_87_code, 6, 1, 9, 4, 0)
def jm_240 : jM := (⟨"HalfHandsModel", "changed", "(IJII)J"⟩, prog_11_method_88_code, 6, 3, 9, 4, 0)
def jm_241 : jM := (⟨"HalfHandsModel", "worth", "(IJII)I"⟩, prog_11_method_89_code, 8, 1, 9, 4, 0)
def jm_242 : jM := (⟨"HalfHandsModel", "serves", "(IJI)I"⟩, prog_11_method_90_code, 6, 1, 9, 3, 0)
def jm_243 : jM := (⟨"HalfHandsModel", "note", "(IJIII)I"⟩, prog_11_method_91_code, 7, 1, 9, 5, 0)
def jm_244 : jM := (⟨"HalfHandsModel", "strike", "(I)I"⟩, prog_11_method_92_code, 2, 1, 9, 1, 0)
def jm_245 : jM := (⟨"HalfHandsModel", "known", "(I)Z"⟩, prog_11_method_93_code, 2, 2, 9, 1, 0)
def jm_246 : jM := (⟨"HalfHandsModel", "knownMany", "()I"⟩, prog_11_method_94_code, 1, 1, 9, 0, 0)
def jm_247 : jM := (⟨"HalfHandsModel", "goesAsNoted", "()Z"⟩, prog_11_method_95_code, 3, 2, 9, 0, 0)
def jm_248 : jM := (⟨"HalfHandsModel", "lawOf", "(I)I"⟩, prog_11_method_96_code, 2, 1, 9, 1, 0)
def jm_249 : jM := (⟨"HalfHandsModel", "fits", "()I"⟩, prog_11_method_97_code, 3, 1, 9, 0, 0)
def jm_250 : jM := (⟨"HalfHandsModel", "apart", "(IJII)I"⟩, prog_11_method_98_code, 8, 1, 9, 4, 0)
def jm_251 : jM := (⟨"HalfHandsModel", "tried", "(III)I"⟩, prog_11_method_99_code, 6, 1, 9, 3, 0)
def jm_252 : jM := (⟨"HalfHandsModel", "keep", "()I"⟩, prog_11_method_100_code, 2, 1, 9, 0, 0)
def jm_253 : jM := (⟨"HalfHandsModel", "again", "()I"⟩, prog_11_method_101_code, 2, 1, 9, 0, 0)
def jm_254 : jM := (⟨"HalfHandsModel", "count", "(I)I"⟩, prog_11_method_102_code, 4, 1, 9, 1, 0)
def jm_255 : jM := (⟨"java/lang/Integer", "bitCount", "(I)I"⟩, prog_18_method_49_code, 1, 1, 11, 1, 1)
def jm_256 : jM := (⟨"java/util/Arrays", "fill", "([II)V"⟩, prog_28_method_103_code, 4, 0, 10, 2, 1)
def jMM : List jM := [jm_0, jm_1, jm_2, jm_3, jm_4, jm_5, jm_6, jm_7, jm_8, jm_9, jm_10, jm_11, jm_12, jm_13, jm_14, jm_15, jm_16, jm_17, jm_18, jm_19, jm_20, jm_21, jm_22, jm_23, jm_24, jm_25, jm_26, jm_27, jm_28, jm_29, jm_30, jm_31, jm_32, jm_33, jm_34, jm_35, jm_36, jm_37, jm_38, jm_39, jm_40, jm_41, jm_42, jm_43, jm_44, jm_45, jm_46, jm_47, jm_48, jm_49, jm_50, jm_51, jm_52, jm_53, jm_54, jm_55, jm_56, jm_57, jm_58, jm_59, jm_60, jm_61, jm_62, jm_63, jm_64, jm_65, jm_66, jm_67, jm_68, jm_69, jm_70, jm_71, jm_72, jm_73, jm_74, jm_75, jm_76, jm_77, jm_78, jm_79, jm_80, jm_81, jm_82, jm_83, jm_84, jm_85, jm_86, jm_87, jm_88, jm_89, jm_90, jm_91, jm_92, jm_93, jm_94, jm_95, jm_96, jm_97, jm_98, jm_99, jm_100, jm_101, jm_102, jm_103, jm_104, jm_105, jm_106, jm_107, jm_108, jm_109, jm_110, jm_111, jm_112, jm_113, jm_114, jm_115, jm_116, jm_117, jm_118, jm_119, jm_120, jm_121, jm_122, jm_123, jm_124, jm_125, jm_126, jm_127, jm_128, jm_129, jm_130, jm_131, jm_132, jm_133, jm_134, jm_135, jm_136, jm_137, jm_138, jm_139, jm_140, jm_141, jm_142, jm_143, jm_144, jm_145, jm_146, jm_147, jm_148, jm_149, jm_150, jm_151, jm_152, jm_153, jm_154, jm_155, jm_156, jm_157, jm_158, jm_159, jm_160, jm_161, jm_162, jm_163, jm_164, jm_165, jm_166, jm_167, jm_168, jm_169, jm_170, jm_171, jm_172, jm_173, jm_174, jm_175, jm_176, jm_177, jm_178, jm_179, jm_180, jm_181, jm_182, jm_183, jm_184, jm_185, jm_186, jm_187, jm_188, jm_189, jm_190, jm_191, jm_192, jm_193, jm_194, jm_195, jm_196, jm_197, jm_198, jm_199, jm_200, jm_201, jm_202, jm_203, jm_204, jm_205, jm_206, jm_207, jm_208, jm_209, jm_210, jm_211, jm_212, jm_213, jm_214, jm_215, jm_216, jm_217, jm_218, jm_219, jm_220, jm_221, jm_222, jm_223, jm_224, jm_225, jm_226, jm_227, jm_228, jm_229, jm_230, jm_231, jm_232, jm_233, jm_234, jm_235, jm_236, jm_237, jm_238, jm_239, jm_240, jm_241, jm_242, jm_243, jm_244, jm_245, jm_246, jm_247, jm_248, jm_249, jm_250, jm_251, jm_252, jm_253, jm_254, jm_255, jm_256]
def j_rt (n : Nat) : Option FieldType := match n with
  | 0 => none
  | 1 => some .int
  | 2 => some .boolean
  | _ => some .long
def jtt (ci : Nat) : u_T := (jcl.getD ci ("", fun _ => ("", "", "", false), 0)).2.1
def jrr (ci : Nat) : String := (jcl.getD ci ("", fun _ => ("", "", "", false), 0)).1
def jnn (ci : Nat) : Nat := (jcl.getD ci ("", fun _ => ("", "", "", false), 0)).2.2
def jyy (ci : Nat) : Nat → FieldType := jyl.getD ci (fun _ => .int)
def jLF : List (Nat × Nat × Nat × Nat) := [(0, 9, 0, 1), (0, 15, 0, 2), (0, 18, 0, 4), (0, 21, 0, 5), (0, 24, 0, 6), (0, 27, 0, 7), (0, 30, 0, 8), (0, 33, 0, 9), (0, 36, 0, 10), (0, 39, 0, 12), (0, 43, 0, 11), (0, 51, 6, 6), (0, 56, 6, 7), (0, 57, 6, 8), (0, 60, 6, 9), (0, 65, 0, 3), (0, 66, 0, 13), (0, 69, 0, 0), (0, 72, 6, 3), (0, 89, 6, 0), (0, 124, 6, 4), (0, 138, 6, 12), (0, 151, 6, 2), (1, 11, 1, 3), (1, 17, 1, 4), (1, 20, 1, 5), (1, 23, 1, 6), (1, 26, 1, 7), (1, 29, 1, 8), (1, 33, 1, 0), (1, 37, 1, 2), (1, 40, 1, 1), (2, 9, 2, 1), (2, 15, 2, 2), (2, 19, 2, 3), (2, 23, 2, 4), (2, 26, 2, 5), (2, 29, 2, 6), (2, 32, 2, 7), (2, 35, 2, 8), (2, 39, 2, 0), (3, 9, 3, 3), (3, 15, 3, 4), (3, 18, 3, 5), (3, 21, 3, 6), (3, 25, 3, 7), (3, 28, 3, 8), (3, 31, 3, 0), (3, 35, 3, 1), (3, 39, 3, 2), (3, 43, 6, 0), (3, 61, 5, 1), (3, 63, 5, 0), (3, 70, 6, 2), (3, 77, 6, 12), (3, 118, 3, 9), (3, 121, 3, 10), (3, 124, 3, 11), (4, 14, 4, 2), (4, 20, 4, 3), (4, 24, 4, 0), (4, 28, 4, 1), (4, 40, 7, 0), (4, 43, 7, 1), (4, 72, 6, 0), (4, 75, 7, 2), (4, 89, 4, 4), (4, 97, 6, 3), (4, 109, 6, 4), (4, 121, 6, 6), (4, 128, 6, 12), (4, 132, 1, 1), (4, 147, 6, 10), (4, 174, 1, 0), (5, 9, 5, 1), (5, 19, 5, 0), (5, 27, 6, 12), (5, 43, 6, 2), (6, 9, 6, 1), (6, 15, 6, 2), (6, 18, 6, 3), (6, 21, 6, 4), (6, 24, 6, 5), (6, 27, 6, 7), (6, 30, 6, 8), (6, 33, 6, 9), (6, 36, 6, 11), (6, 42, 6, 12), (6, 46, 6, 0), (6, 50, 6, 6), (6, 53, 6, 10), (7, 11, 7, 6), (7, 15, 7, 5), (7, 40, 7, 4), (7, 43, 7, 3), (7, 49, 7, 1), (7, 52, 7, 0), (7, 64, 7, 2), (8, 9, 8, 0), (8, 16, 8, 2), (8, 20, 8, 3), (8, 28, 8, 4), (8, 32, 8, 6), (8, 41, 8, 7), (8, 45, 8, 8), (8, 48, 8, 10), (8, 54, 8, 11), (8, 63, 8, 12), (8, 70, 8, 13), (8, 74, 8, 1), (8, 92, 4, 0), (8, 95, 8, 5), (8, 98, 4, 1), (8, 104, 8, 9), (8, 122, 6, 2), (8, 125, 0, 1), (8, 128, 6, 4), (8, 135, 0, 2), (8, 145, 0, 0), (8, 152, 0, 3), (8, 162, 0, 4), (8, 165, 0, 5), (8, 168, 0, 6), (8, 171, 0, 7), (8, 174, 0, 8), (8, 177, 0, 9), (8, 180, 0, 10), (8, 273, 6, 12), (8, 277, 1, 1), (8, 291, 2, 0), (8, 297, 2, 1), (8, 303, 6, 10), (8, 315, 2, 2), (8, 318, 2, 3), (8, 322, 2, 4), (8, 336, 6, 0), (8, 339, 1, 0), (8, 348, 6, 6), (9, 9, 9, 1), (9, 15, 9, 3), (9, 18, 9, 4), (9, 21, 9, 5), (9, 24, 9, 6), (9, 27, 9, 7), (9, 30, 9, 8), (9, 33, 9, 9), (9, 36, 9, 10), (9, 39, 9, 11), (9, 42, 9, 12), (9, 45, 9, 13), (9, 48, 9, 14), (9, 51, 9, 15), (9, 54, 9, 16), (9, 57, 9, 26), (9, 61, 9, 33), (9, 65, 9, 34), (9, 68, 9, 37), (9, 71, 9, 38), (9, 74, 9, 39), (9, 77, 9, 40), (9, 80, 9, 41), (9, 83, 9, 42), (9, 86, 9, 43), (9, 89, 9, 44), (9, 92, 9, 45), (9, 95, 9, 46), (9, 98, 9, 49), (9, 101, 9, 51), (9, 104, 9, 54), (9, 107, 9, 70), (9, 110, 9, 71), (9, 113, 9, 72), (9, 116, 9, 73), (9, 119, 9, 74), (9, 122, 9, 75), (9, 125, 9, 76), (9, 129, 9, 77), (9, 132, 9, 78), (9, 135, 9, 79), (9, 138, 9, 0), (9, 141, 9, 2), (9, 144, 9, 19), (9, 147, 9, 18), (9, 154, 9, 20), (9, 157, 9, 21), (9, 167, 9, 22), (9, 192, 9, 23), (9, 195, 9, 24), (9, 212, 9, 29), (9, 238, 9, 17), (9, 257, 9, 28), (9, 282, 9, 27), (9, 288, 9, 25), (9, 295, 9, 69), (9, 298, 9, 48), (9, 301, 9, 36), (9, 310, 9, 30), (9, 313, 9, 31), (9, 316, 9, 32), (9, 324, 9, 35), (9, 396, 9, 50), (9, 411, 9, 52), (9, 415, 9, 53), (9, 443, 9, 56), (9, 446, 9, 55), (9, 449, 9, 58), (9, 452, 9, 59), (9, 455, 9, 61), (9, 462, 9, 63), (9, 465, 9, 60), (9, 468, 9, 62), (9, 471, 9, 64), (9, 474, 9, 57), (9, 477, 9, 65), (9, 480, 9, 66), (9, 486, 9, 67), (9, 489, 9, 68), (9, 517, 9, 47)]
def jLM : List (Nat × Nat × Nat) := [(0, 47, 2), (0, 61, 4), (0, 79, 256), (0, 92, 6), (0, 96, 10), (0, 99, 11), (0, 103, 12), (0, 107, 13), (0, 110, 14), (0, 113, 18), (0, 117, 17), (0, 120, 15), (0, 132, 16), (0, 135, 101), (0, 142, 23), (0, 148, 93), (1, 44, 25), (1, 50, 23), (1, 56, 26), (2, 42, 30), (3, 48, 86), (3, 54, 85), (3, 58, 35), (3, 66, 36), (3, 73, 37), (3, 81, 23), (3, 91, 47), (3, 94, 40), (3, 97, 58), (3, 104, 42), (3, 107, 46), (3, 110, 44), (3, 114, 59), (3, 127, 48), (3, 131, 49), (3, 135, 50), (3, 138, 51), (3, 141, 255), (3, 146, 52), (3, 149, 53), (3, 153, 55), (3, 156, 56), (3, 159, 54), (3, 162, 57), (3, 173, 83), (3, 177, 60), (3, 180, 61), (4, 31, 92), (4, 36, 105), (4, 46, 64), (4, 50, 106), (4, 53, 67), (4, 57, 65), (4, 60, 70), (4, 63, 73), (4, 66, 74), (4, 69, 75), (4, 78, 94), (4, 82, 68), (4, 85, 69), (4, 92, 97), (4, 105, 71), (4, 112, 72), (4, 115, 102), (4, 118, 98), (4, 124, 99), (4, 138, 20), (4, 141, 76), (4, 144, 21), (4, 150, 95), (4, 153, 100), (4, 156, 79), (4, 159, 80), (4, 162, 77), (4, 165, 78), (4, 168, 22), (4, 171, 104), (4, 177, 81), (4, 180, 103), (5, 23, 85), (5, 33, 90), (5, 37, 24), (5, 46, 84), (5, 56, 88), (6, 56, 19), (6, 63, 96), (6, 67, 101), (7, 46, 106), (7, 55, 107), (7, 58, 108), (7, 61, 109), (8, 77, 111), (8, 81, 62), (8, 85, 63), (8, 89, 66), (8, 99, 0), (8, 101, 27), (8, 108, 94), (8, 112, 95), (8, 115, 93), (8, 131, 101), (8, 141, 152), (8, 148, 9), (8, 155, 4), (8, 159, 5), (8, 183, 7), (8, 187, 3), (8, 191, 8), (8, 195, 151), (8, 199, 88), (8, 203, 84), (8, 206, 89), (8, 209, 150), (8, 213, 125), (8, 216, 91), (8, 226, 34), (8, 230, 38), (8, 233, 39), (8, 238, 41), (8, 242, 40), (8, 245, 153), (8, 248, 86), (8, 251, 44), (8, 255, 45), (8, 258, 42), (8, 261, 43), (8, 267, 87), (8, 270, 136), (8, 284, 25), (8, 288, 28), (8, 294, 29), (8, 300, 31), (8, 306, 143), (8, 309, 142), (8, 312, 32), (8, 325, 33), (8, 329, 146), (8, 332, 1), (8, 342, 30), (8, 345, 6), (8, 349, 82), (9, 150, 156), (9, 160, 157), (9, 164, 161), (9, 170, 162), (9, 173, 158), (9, 177, 160), (9, 198, 159), (9, 201, 163), (9, 204, 168), (9, 208, 171), (9, 216, 174), (9, 219, 175), (9, 222, 177), (9, 225, 180), (9, 228, 169), (9, 232, 172), (9, 235, 165), (9, 241, 167), (9, 245, 164), (9, 248, 170), (9, 251, 166), (9, 254, 176), (9, 260, 181), (9, 263, 179), (9, 266, 178), (9, 270, 182), (9, 273, 183), (9, 276, 184), (9, 279, 185), (9, 285, 173), (9, 291, 186), (9, 304, 191), (9, 307, 200), (9, 327, 194), (9, 339, 195), (9, 342, 192), (9, 345, 197), (9, 349, 196), (9, 356, 201), (9, 359, 193), (9, 362, 203), (9, 365, 205), (9, 369, 204), (9, 372, 207), (9, 375, 198), (9, 379, 190), (9, 382, 206), (9, 385, 211), (9, 388, 202), (9, 391, 214), (9, 400, 216), (9, 404, 217), (9, 408, 218), (9, 422, 222), (9, 429, 223), (9, 434, 224), (9, 437, 228), (9, 440, 227), (9, 458, 219), (9, 483, 229), (9, 492, 230), (9, 495, 231), (9, 500, 234), (9, 507, 246), (9, 510, 248), (9, 513, 247), (13, 21, 110), (13, 25, 155), (13, 26, 112), (13, 30, 187), (13, 31, 113), (13, 34, 188), (13, 35, 114), (13, 38, 189), (13, 44, 208), (13, 45, 154), (13, 49, 116), (13, 52, 209), (13, 53, 117), (13, 56, 210), (13, 57, 118), (13, 60, 212), (13, 61, 119), (13, 65, 213), (13, 66, 120), (13, 69, 215), (13, 72, 121), (13, 76, 220), (13, 77, 122), (13, 81, 221), (13, 82, 123), (13, 85, 225), (13, 86, 124), (13, 90, 226), (13, 91, 126), (13, 94, 232), (13, 95, 127), (13, 99, 233), (13, 100, 128), (13, 103, 235), (13, 104, 129), (13, 107, 236), (13, 108, 130), (13, 112, 237), (13, 113, 131), (13, 116, 238), (13, 117, 132), (13, 120, 239), (13, 121, 133), (13, 124, 240), (13, 125, 134), (13, 128, 241), (13, 129, 135), (13, 132, 242), (13, 133, 137), (13, 137, 199), (13, 138, 138), (13, 141, 243), (13, 142, 139), (13, 145, 244), (13, 146, 140), (13, 150, 245), (13, 151, 141), (13, 154, 249), (13, 155, 144), (13, 158, 250), (13, 159, 145), (13, 162, 251), (13, 163, 147), (13, 166, 252), (13, 167, 148), (13, 170, 253), (13, 171, 149), (13, 174, 254)]
def jLN : List (Nat × Nat × Nat) := [(0, 85, 152), (2, 46, 152), (3, 87, 153), (4, 101, 152), (5, 15, 152), (6, 59, 152), (7, 30, 152)]
def jLC : List (Nat × Nat × Nat) := [(3, 103, 536870912), (4, 96, 99999), (7, 67, 1000000), (8, 151, 99999), (8, 220, 999999), (8, 266, 2147483648), (9, 176, 99999), (9, 399, 999999), (9, 506, 2147483648), (11, 265, 1431655765), (11, 266, 858993459), (11, 267, 252645135)]
def jLJ : List (Nat × Nat × Nat) := [(1, 48, 9223372036854775808), (1, 60, 1000000000000), (1, 62, 18446743073709551616), (3, 101, 18446744073709551614), (8, 236, 18446744073709551615), (8, 282, 9223372036854775808), (9, 335, 1000000000000), (9, 337, 18446743073709551616), (9, 354, 9223372036854775808), (9, 394, 15), (9, 418, 2), (9, 420, 1999998), (9, 432, 999999), (9, 498, 18446744073709551615), (9, 504, 18446744073709551614), (13, 70, 4294967295)]
def jLS : List (Nat × Nat × Nat) := [(7, 68, 1001), (9, 181, 1002)]
def jLA : List (Nat × Nat) := [(0, 73)]
def jLX : List (Nat × Nat × Nat) := [(7, 70, 903), (9, 183, 901), (9, 188, 902)]
def jLH : List (Nat × Nat × Nat) := [(0, 127, 911), (3, 165, 910), (3, 170, 911), (5, 50, 910), (7, 34, 911), (8, 221, 911), (9, 319, 911), (9, 331, 913), (9, 426, 912)]
abbrev jmd : jM := (⟨"", "", ""⟩, ⟨#[]⟩, 0, 0, 0, 0, 0)
def jmn (y : Nat) : MethodName := (jMM.getD y jmd).1
def jwF (q : Nat × Nat × Nat × Nat) : Cond := .fieldLink (jon q.1) q.2.1 (jtt q.2.2.1 q.2.2.2).1 (jtt q.2.2.1 q.2.2.2).2.1 (jtt q.2.2.1 q.2.2.2).2.2.1
def jwM (q : Nat × Nat × Nat) : Cond := .methodLink (jon q.1) q.2.1 (jmn q.2.2)
def jwN (q : Nat × Nat × Nat) : Cond := .methodLinkNest (jon q.1) q.2.1 (jmn q.2.2) "HalfHands"
def jwC (q : Nat × Nat × Nat) : Cond := .constant (jon q.1) q.2.1 (Int32.ofNat q.2.2)
def jwJ (q : Nat × Nat × Nat) : Cond := .constantLong (jon q.1) q.2.1 (Int64.ofNat q.2.2)
def jwA (q : Nat × Nat) : Cond := .methodLink (jon q.1) q.2 arraycopyName
def jmh (c : Nat) : MethodName := match c with
  | 910 => Lib.Math.max.name
  | 911 => Lib.Math.min.name
  | 912 => Lib.MathLoose.min_long.x
  | _ => Lib.MathLoose.abs_long.x
def jwH (q : Nat × Nat × Nat) : Cond := .methodLink (jon q.1) q.2.1 (jmh q.2.2)
theorem jw_of {ws : List Cond} (ps : List Nat) (h : ws = ps.filterMap (fun i => lw_tbl[i]?)) : ∀ w ∈ ws, w ∈ lw_tbl := by
  intro w hw
  rw [h] at hw
  obtain ⟨i, -, hi⟩ := List.mem_filterMap.mp hw
  exact List.mem_of_getElem? hi
theorem jws_of {ws : List Cond} (h : ∀ w ∈ ws, w ∈ lw_tbl) (hg : ws.all goodWord = true) : ∀ w ∈ ws, w ∈ jws := fun w hw => List.mem_filter.mpr ⟨h w hw, List.all_eq_true.mp hg w hw⟩
set_option maxRecDepth 100000 in
theorem jwF_t : ∀ w ∈ jLF.map jwF, w ∈ lw_tbl := jw_of [374, 376, 380, 382, 384, 386, 388, 390, 392, 395, 394, 215, 219, 221, 223, 378, 396, 372, 207, 198, 212, 232, 205, 168, 169, 170, 171, 172, 173, 161, 167, 164, 493, 495, 497, 499, 501, 502, 503, 504, 491, 450, 451, 452, 453, 454, 455, 447, 448, 449, 196, 435, 433, 202, 229, 456, 457, 458, 352, 353, 348, 350, 322, 324, 197, 327, 354, 208, 211, 216, 231, 165, 225, 162, 434, 432, 230, 204, 200, 201, 206, 209, 213, 218, 220, 222, 227, 228, 195, 214, 224, 331, 330, 329, 328, 325, 323, 326, 524, 526, 527, 528, 530, 531, 532, 534, 535, 536, 537, 525, 349, 529, 351, 533, 203, 375, 210, 377, 373, 379, 381, 383, 385, 387, 389, 391, 393, 233, 166, 492, 494, 226, 496, 498, 500, 199, 163, 217, 1377, 1379, 1380, 1381, 1382, 1383, 1384, 1385, 1386, 1387, 1388, 1389, 1390, 1391, 1392, 1402, 1409, 1410, 1413, 1414, 1415, 1416, 1417, 1418, 1419, 1420, 1421, 1422, 1425, 1427, 1430, 1446, 1447, 1448, 1449, 1450, 1451, 1452, 1453, 1454, 1455, 1376, 1378, 1395, 1394, 1396, 1397, 1398, 1399, 1400, 1405, 1393, 1404, 1403, 1401, 1445, 1424, 1412, 1406, 1407, 1408, 1411, 1426, 1428, 1429, 1432, 1431, 1434, 1435, 1437, 1439, 1436, 1438, 1440, 1433, 1441, 1442, 1443, 1444, 1423] (by decide +kernel)
set_option maxRecDepth 100000 in
theorem jwM_t : ∀ w ∈ jLM.map jwM, w ∈ lw_tbl := jw_of [812, 822, 819, 941, 849, 853, 857, 875, 861, 866, 870, 879, 883, 874, 891, 887, 895, 975, 899, 1232, 1016, 1024, 1025, 1029, 1033, 1036, 1044, 1108, 1112, 1180, 1155, 1163, 1116, 1048, 1052, 1055, 1058, 1062, 1068, 1081, 1089, 1072, 1076, 1085, 1128, 1120, 1124, 583, 591, 688, 692, 684, 714, 718, 743, 751, 796, 693, 700, 704, 709, 722, 726, 730, 739, 747, 755, 759, 792, 800, 804, 763, 775, 786, 767, 771, 789, 779, 783, 1020, 967, 971, 1000, 1002, 587, 697, 734, 598, 605, 609, 614, 571, 579, 676, 680, 808, 826, 838, 839, 909, 1354, 844, 845, 911, 916, 925, 933, 937, 949, 963, 980, 984, 953, 992, 996, 1012, 1037, 1095, 1104, 1136, 1145, 1150, 1151, 1159, 1168, 1176, 1186, 1194, 1203, 1208, 1216, 1228, 1236, 1240, 1244, 1248, 1261, 1265, 1281, 1282, 957, 1633, 1637, 1640, 1647, 1651, 1655, 1629, 1663, 1679, 1667, 1671, 1694, 1710, 1714, 1675, 1690, 1746, 1682, 1686, 1698, 1702, 1706, 1718, 1726, 1730, 1722, 1734, 1738, 1742, 1659, 1750, 1753, 1757, 1782, 1789, 1839, 1778, 1785, 1761, 1814, 1827, 1819, 1823, 1831, 1835, 1802, 1810, 1851, 1863, 1867, 1880, 1875, 1885, 1907, 1901, 1897, 1931, 1927, 1935, 1939, 1943, 1923, 1956, 2006, 2010, 2014, 567, 1621, 575, 1625, 830, 1765, 834, 1769, 1798, 1617, 840, 1806, 905, 1843, 912, 1847, 921, 1855, 929, 1859, 945, 1871, 976, 1889, 988, 1893, 1004, 1915, 1008, 1919, 1099, 1947, 1132, 1952, 1137, 1960, 1141, 1965, 1146, 1969, 1164, 1973, 1172, 1977, 1181, 1981, 1190, 1986, 1198, 1773, 1204, 1990, 1212, 1994, 1220, 1998, 1224, 2002, 1253, 2018, 1257, 2022, 1269, 2026, 1273, 2030, 1277, 2034] (by decide +kernel)
set_option maxRecDepth 100000 in
theorem jwN_t : ∀ w ∈ jLN.map jwN, w ∈ lw_tbl := jw_of [920, 1252, 1041, 708, 961, 738, 602] (by decide +kernel)
set_option maxRecDepth 100000 in
theorem jwC_t : ∀ w ∈ jLC.map jwC, w ∈ lw_tbl := jw_of [1080, 713, 613, 910, 962, 1185, 1654, 1879, 1985, 1065, 1066, 1067] (by decide +kernel)
set_option maxRecDepth 100000 in
theorem jwJ_t : ∀ w ∈ jLJ.map jwJ, w ∈ lw_tbl := jw_of [903, 902, 904, 1131, 1103, 1202, 1796, 1797, 1777, 1884, 1905, 1906, 1914, 1951, 1964, 2038] (by decide +kernel)
set_option maxRecDepth 100000 in
theorem jwA_t : ∀ w ∈ jLA.map jwA, w ∈ lw_tbl := jw_of [816] (by decide +kernel)
set_option maxRecDepth 100000 in
theorem jwH_t : ∀ w ∈ jLH.map jwH, w ∈ lw_tbl := jw_of [865, 1093, 1094, 1001, 595, 1003, 1818, 1793, 1911] (by decide +kernel)
theorem jwF_g : ∀ w ∈ jLF.map jwF, w ∈ jws := jws_of jwF_t (by decide +kernel)
theorem jwM_g : ∀ w ∈ jLM.map jwM, w ∈ jws := jws_of jwM_t (by decide +kernel)
theorem jwC_g : ∀ w ∈ jLC.map jwC, w ∈ jws := jws_of jwC_t (by decide +kernel)
theorem jwJ_g : ∀ w ∈ jLJ.map jwJ, w ∈ jws := jws_of jwJ_t (by decide +kernel)
theorem jwA_g : ∀ w ∈ jLA.map jwA, w ∈ jws := jws_of jwA_t (by decide +kernel)
theorem jwH_g : ∀ w ∈ jLH.map jwH, w ∈ jws := jws_of jwH_t (by decide +kernel)
set_option maxRecDepth 100000 in
theorem jlay_0 : ∀ w ∈ u_ws jR0 jT0 14, w ∈ jws := jws_of (jw_of [397, 399, 401, 403, 405, 407, 409, 411, 413, 415, 417, 419, 421, 423] (by decide +kernel)) (by decide +kernel)
theorem jnm_0 : ∀ a, a < 14 → ∀ b, b < 14 → a ≠ b → (jT0 a).2.1 ≠ (jT0 b).2.1 := by decide +kernel
theorem jty_0 : ∀ k, k < 14 → parseFieldDescriptor (jT0 k).2.2.1 = some (jY0 k) := by decide +kernel
set_option maxRecDepth 100000 in
theorem jlay_1 : ∀ w ∈ u_ws jR1 jT1 9, w ∈ jws := jws_of (jw_of [174, 176, 178, 180, 182, 184, 186, 188, 190] (by decide +kernel)) (by decide +kernel)
theorem jnm_1 : ∀ a, a < 9 → ∀ b, b < 9 → a ≠ b → (jT1 a).2.1 ≠ (jT1 b).2.1 := by decide +kernel
theorem jty_1 : ∀ k, k < 9 → parseFieldDescriptor (jT1 k).2.2.1 = some (jY1 k) := by decide +kernel
set_option maxRecDepth 100000 in
theorem jlay_2 : ∀ w ∈ u_ws jR2 jT2 9, w ∈ jws := jws_of (jw_of [505, 507, 509, 511, 513, 515, 517, 519, 521] (by decide +kernel)) (by decide +kernel)
theorem jnm_2 : ∀ a, a < 9 → ∀ b, b < 9 → a ≠ b → (jT2 a).2.1 ≠ (jT2 b).2.1 := by decide +kernel
theorem jty_2 : ∀ k, k < 9 → parseFieldDescriptor (jT2 k).2.2.1 = some (jY2 k) := by decide +kernel
set_option maxRecDepth 100000 in
theorem jlay_3 : ∀ w ∈ u_ws jR3 jT3 12, w ∈ jws := jws_of (jw_of [459, 461, 463, 465, 467, 469, 471, 473, 475, 477, 479, 481] (by decide +kernel)) (by decide +kernel)
theorem jnm_3 : ∀ a, a < 12 → ∀ b, b < 12 → a ≠ b → (jT3 a).2.1 ≠ (jT3 b).2.1 := by decide +kernel
theorem jty_3 : ∀ k, k < 12 → parseFieldDescriptor (jT3 k).2.2.1 = some (jY3 k) := by decide +kernel
set_option maxRecDepth 100000 in
theorem jlay_4 : ∀ w ∈ u_ws jR4 jT4 5, w ∈ jws := jws_of (jw_of [355, 357, 359, 361, 363] (by decide +kernel)) (by decide +kernel)
theorem jnm_4 : ∀ a, a < 5 → ∀ b, b < 5 → a ≠ b → (jT4 a).2.1 ≠ (jT4 b).2.1 := by decide +kernel
theorem jty_4 : ∀ k, k < 5 → parseFieldDescriptor (jT4 k).2.2.1 = some (jY4 k) := by decide +kernel
set_option maxRecDepth 100000 in
theorem jlay_5 : ∀ w ∈ u_ws jR5 jT5 2, w ∈ jws := jws_of (jw_of [436, 438] (by decide +kernel)) (by decide +kernel)
theorem jnm_5 : ∀ a, a < 2 → ∀ b, b < 2 → a ≠ b → (jT5 a).2.1 ≠ (jT5 b).2.1 := by decide +kernel
theorem jty_5 : ∀ k, k < 2 → parseFieldDescriptor (jT5 k).2.2.1 = some (jY5 k) := by decide +kernel
set_option maxRecDepth 100000 in
theorem jlay_6 : ∀ w ∈ u_ws jR6 jT6 13, w ∈ jws := jws_of (jw_of [234, 236, 238, 240, 242, 244, 246, 248, 250, 252, 254, 256, 258] (by decide +kernel)) (by decide +kernel)
theorem jnm_6 : ∀ a, a < 13 → ∀ b, b < 13 → a ≠ b → (jT6 a).2.1 ≠ (jT6 b).2.1 := by decide +kernel
theorem jty_6 : ∀ k, k < 13 → parseFieldDescriptor (jT6 k).2.2.1 = some (jY6 k) := by decide +kernel
set_option maxRecDepth 100000 in
theorem jlay_7 : ∀ w ∈ u_ws jR7 jT7 7, w ∈ jws := jws_of (jw_of [332, 334, 336, 338, 340, 342, 344] (by decide +kernel)) (by decide +kernel)
theorem jnm_7 : ∀ a, a < 7 → ∀ b, b < 7 → a ≠ b → (jT7 a).2.1 ≠ (jT7 b).2.1 := by decide +kernel
theorem jty_7 : ∀ k, k < 7 → parseFieldDescriptor (jT7 k).2.2.1 = some (jY7 k) := by decide +kernel
set_option maxRecDepth 100000 in
theorem jlay_8 : ∀ w ∈ u_ws jR8 jT8 14, w ∈ jws := jws_of (jw_of [538, 540, 542, 544, 546, 548, 550, 552, 554, 556, 558, 560, 562, 564] (by decide +kernel)) (by decide +kernel)
theorem jnm_8 : ∀ a, a < 14 → ∀ b, b < 14 → a ≠ b → (jT8 a).2.1 ≠ (jT8 b).2.1 := by decide +kernel
theorem jty_8 : ∀ k, k < 14 → parseFieldDescriptor (jT8 k).2.2.1 = some (jY8 k) := by decide +kernel
set_option maxRecDepth 100000 in
theorem jlay_9 : ∀ w ∈ u_ws jR9 jT9 80, w ∈ jws := jws_of (jw_of [1456, 1458, 1460, 1462, 1464, 1466, 1468, 1470, 1472, 1474, 1476, 1478, 1480, 1482, 1484, 1486, 1488, 1490, 1492, 1494, 1496, 1498, 1500, 1502, 1504, 1506, 1508, 1510, 1512, 1514, 1516, 1518, 1520, 1522, 1524, 1526, 1528, 1530, 1532, 1534, 1536, 1538, 1540, 1542, 1544, 1546, 1548, 1550, 1552, 1554, 1556, 1558, 1560, 1562, 1564, 1566, 1568, 1570, 1572, 1574, 1576, 1578, 1580, 1582, 1584, 1586, 1588, 1590, 1592, 1594, 1596, 1598, 1600, 1602, 1604, 1606, 1608, 1610, 1612, 1614] (by decide +kernel)) (by decide +kernel)
theorem jnm_9 : ∀ a, a < 80 → ∀ b, b < 80 → a ≠ b → (jT9 a).2.1 ≠ (jT9 b).2.1 := by decide +kernel
theorem jty_9 : ∀ k, k < 80 → parseFieldDescriptor (jT9 k).2.2.1 = some (jY9 k) := by decide +kernel
set_option maxRecDepth 100000 in
theorem jmI_t : ∀ w ∈ ([0, 1, 2, 3, 4, 5, 6, 7, 8, 9, 10, 11, 12, 13, 14, 15, 16, 17, 18, 19, 20, 21, 22, 23, 24, 25, 26, 27, 28, 29, 30, 31, 32, 33, 34, 35, 36, 37, 38, 39, 40, 41, 42, 43, 44, 45, 46, 47, 48, 49, 50, 51, 52, 53, 54, 55, 56, 57, 58, 59, 60, 61, 62, 63, 64, 65, 66, 67, 68, 69, 70, 71, 72, 73, 74, 75, 76, 77, 78, 79, 80, 81, 82, 83, 84, 85, 86, 87, 88, 89, 90, 91, 92, 93, 94, 95, 96, 97, 98, 99, 100, 101, 102, 103, 104, 105, 106, 107, 108, 109, 110, 111, 112, 113, 114, 115, 116, 117, 118, 119, 120, 121, 122, 123, 124, 125, 126, 127, 128, 129, 130, 131, 132, 133, 134, 135, 136, 137, 138, 139, 140, 141, 142, 143, 144, 145, 146, 147, 148, 149, 150, 151, 152, 153, 154, 155, 156, 157, 158, 159, 160, 161, 162, 163, 164, 165, 166, 167, 168, 169, 170, 171, 172, 173, 174, 175, 176, 177, 178, 179, 180, 181, 182, 183, 184, 185, 186, 187, 188, 189, 190, 191, 192, 193, 194, 195, 196, 197, 198, 199, 200, 201, 202, 203, 204, 205, 206, 207, 208, 209, 210, 211, 212, 213, 214, 215, 216, 217, 218, 219, 220, 221, 222, 223, 224, 225, 226, 227, 228, 229, 230, 231, 232, 233, 234, 235, 236, 237, 238, 239, 240, 241, 242, 243, 244, 245, 246, 247, 248, 249, 250, 251, 252, 253, 254, 255, 256].map fun y => Cond.initialized (jmn y).cls), w ∈ lw_tbl := jw_of [126, 126, 126, 126, 126, 126, 126, 126, 126, 126, 126, 126, 126, 126, 126, 126, 126, 126, 126, 119, 119, 119, 119, 119, 119, 119, 119, 129, 129, 129, 129, 129, 129, 129, 128, 128, 128, 128, 128, 128, 128, 128, 128, 128, 128, 128, 128, 128, 128, 128, 128, 128, 128, 128, 128, 128, 128, 128, 128, 128, 128, 128, 120, 120, 120, 120, 120, 120, 120, 120, 120, 120, 120, 120, 120, 120, 120, 120, 120, 120, 120, 120, 127, 127, 127, 127, 127, 127, 127, 127, 127, 127, 118, 118, 118, 118, 118, 118, 118, 118, 118, 118, 118, 121, 121, 121, 121, 121, 121, 121, 117, 117, 117, 117, 117, 117, 117, 117, 117, 117, 117, 117, 117, 117, 117, 117, 117, 117, 117, 117, 117, 117, 117, 117, 117, 117, 117, 117, 117, 117, 117, 117, 117, 117, 117, 117, 117, 117, 117, 117, 117, 117, 117, 117, 130, 130, 130, 130, 130, 130, 130, 130, 130, 130, 130, 130, 130, 130, 130, 130, 130, 130, 130, 130, 130, 130, 130, 130, 130, 130, 130, 130, 130, 130, 130, 130, 130, 130, 130, 130, 130, 130, 130, 130, 130, 130, 130, 130, 130, 130, 130, 130, 130, 130, 130, 130, 130, 130, 130, 130, 130, 130, 130, 130, 130, 130, 130, 130, 130, 130, 130, 130, 130, 130, 130, 130, 130, 130, 130, 130, 130, 130, 130, 130, 130, 130, 130, 130, 130, 130, 130, 130, 130, 130, 130, 130, 130, 130, 130, 130, 130, 130, 130, 130, 130, 140, 134] (by decide +kernel)
theorem jmI_g : ∀ w ∈ ([0, 1, 2, 3, 4, 5, 6, 7, 8, 9, 10, 11, 12, 13, 14, 15, 16, 17, 18, 19, 20, 21, 22, 23, 24, 25, 26, 27, 28, 29, 30, 31, 32, 33, 34, 35, 36, 37, 38, 39, 40, 41, 42, 43, 44, 45, 46, 47, 48, 49, 50, 51, 52, 53, 54, 55, 56, 57, 58, 59, 60, 61, 62, 63, 64, 65, 66, 67, 68, 69, 70, 71, 72, 73, 74, 75, 76, 77, 78, 79, 80, 81, 82, 83, 84, 85, 86, 87, 88, 89, 90, 91, 92, 93, 94, 95, 96, 97, 98, 99, 100, 101, 102, 103, 104, 105, 106, 107, 108, 109, 110, 111, 112, 113, 114, 115, 116, 117, 118, 119, 120, 121, 122, 123, 124, 125, 126, 127, 128, 129, 130, 131, 132, 133, 134, 135, 136, 137, 138, 139, 140, 141, 142, 143, 144, 145, 146, 147, 148, 149, 150, 151, 152, 153, 154, 155, 156, 157, 158, 159, 160, 161, 162, 163, 164, 165, 166, 167, 168, 169, 170, 171, 172, 173, 174, 175, 176, 177, 178, 179, 180, 181, 182, 183, 184, 185, 186, 187, 188, 189, 190, 191, 192, 193, 194, 195, 196, 197, 198, 199, 200, 201, 202, 203, 204, 205, 206, 207, 208, 209, 210, 211, 212, 213, 214, 215, 216, 217, 218, 219, 220, 221, 222, 223, 224, 225, 226, 227, 228, 229, 230, 231, 232, 233, 234, 235, 236, 237, 238, 239, 240, 241, 242, 243, 244, 245, 246, 247, 248, 249, 250, 251, 252, 253, 254, 255, 256].map fun y => Cond.initialized (jmn y).cls), w ∈ jws := jws_of jmI_t (by decide +kernel)
set_option maxRecDepth 100000 in
theorem jmS_t : ∀ w ∈ ([26, 37, 49, 50, 77, 83, 96, 103, 104, 152, 153, 157, 158, 168, 186, 194, 255, 256].map fun y => Cond.static (jmn y)), w ∈ lw_tbl := jw_of [900, 1034, 1053, 1056, 787, 1129, 698, 784, 790, 603, 1042, 1638, 1652, 1680, 1751, 1783, 1063, 820] (by decide +kernel)
theorem jmS_g : ∀ w ∈ ([26, 37, 49, 50, 77, 83, 96, 103, 104, 152, 153, 157, 158, 168, 186, 194, 255, 256].map fun y => Cond.static (jmn y)), w ∈ jws := jws_of jmS_t (by decide +kernel)
set_option maxRecDepth 100000 in
theorem jmV_t : ∀ w ∈ ([0, 1, 2, 3, 4, 5, 6, 7, 8, 9, 10, 11, 12, 13, 14, 15, 16, 17, 18, 19, 20, 21, 22, 23, 24, 25, 27, 28, 29, 30, 31, 32, 33, 34, 35, 36, 38, 39, 40, 41, 42, 43, 44, 45, 46, 47, 48, 51, 52, 53, 54, 55, 56, 57, 58, 59, 60, 61, 62, 63, 64, 65, 66, 67, 68, 69, 70, 71, 72, 73, 74, 75, 76, 78, 79, 80, 81, 82, 84, 85, 86, 87, 88, 89, 90, 91, 92, 93, 94, 95, 97, 98, 99, 100, 101, 102, 105, 106, 107, 108, 109, 110, 111, 112, 113, 114, 115, 116, 117, 118, 119, 120, 121, 122, 123, 124, 125, 126, 127, 128, 129, 130, 131, 132, 133, 134, 135, 136, 137, 138, 139, 140, 141, 142, 143, 144, 145, 146, 147, 148, 149, 150, 151, 154, 155, 156, 159, 160, 161, 162, 163, 164, 165, 166, 167, 169, 170, 171, 172, 173, 174, 175, 176, 177, 178, 179, 180, 181, 182, 183, 184, 185, 187, 188, 189, 190, 191, 192, 193, 195, 196, 197, 198, 199, 200, 201, 202, 203, 204, 205, 206, 207, 208, 209, 210, 211, 212, 213, 214, 215, 216, 217, 218, 219, 220, 221, 222, 223, 224, 225, 226, 227, 228, 229, 230, 231, 232, 233, 234, 235, 236, 237, 238, 239, 240, 241, 242, 243, 244, 245, 246, 247, 248, 249, 250, 251, 252, 253, 254].map fun y => Cond.instanceMethod (jmn y)), w ∈ lw_tbl := jw_of [809, 1266, 814, 934, 823, 917, 942, 926, 938, 846, 851, 855, 859, 877, 863, 881, 885, 872, 868, 588, 756, 793, 772, 892, 972, 896, 827, 1209, 1217, 1233, 1229, 1245, 1249, 1013, 1027, 1031, 1038, 1096, 1109, 1105, 1169, 1177, 1152, 1160, 1157, 1046, 1050, 1060, 1070, 1083, 1078, 1091, 1074, 1087, 1114, 1118, 1122, 1126, 580, 677, 690, 716, 681, 686, 702, 706, 720, 724, 728, 745, 753, 798, 761, 769, 765, 777, 781, 958, 981, 1021, 1017, 1187, 964, 985, 969, 997, 584, 888, 694, 801, 710, 740, 748, 805, 735, 731, 592, 599, 607, 611, 616, 568, 573, 576, 831, 835, 1289, 841, 906, 913, 922, 930, 946, 977, 989, 1005, 994, 1009, 1100, 1133, 1138, 1142, 1147, 1165, 1173, 1182, 1191, 1196, 1199, 1205, 1213, 1221, 1225, 1242, 1238, 1254, 1258, 1263, 1270, 1274, 1278, 955, 951, 1618, 1622, 1635, 1631, 1657, 1642, 1649, 1665, 1688, 1748, 1704, 1684, 1677, 1700, 1669, 1692, 1661, 1673, 1696, 1708, 1712, 1732, 1728, 1716, 1720, 1724, 1736, 1740, 1744, 1626, 1766, 1770, 1804, 1755, 1841, 1816, 1791, 1787, 1780, 1837, 1774, 1759, 1763, 1865, 1829, 1825, 1821, 1812, 1833, 1799, 1807, 1844, 1853, 1848, 1856, 1869, 1860, 1882, 1877, 1887, 1937, 1872, 1890, 1909, 1903, 1899, 1894, 1916, 1929, 1933, 1941, 1945, 1925, 1920, 1948, 1958, 1953, 1961, 1966, 1970, 1974, 1978, 1982, 1987, 1991, 1995, 1999, 2008, 2016, 2012, 2003, 2019, 2023, 2027, 2031, 2035] (by decide +kernel)
theorem jmV_g : ∀ w ∈ ([0, 1, 2, 3, 4, 5, 6, 7, 8, 9, 10, 11, 12, 13, 14, 15, 16, 17, 18, 19, 20, 21, 22, 23, 24, 25, 27, 28, 29, 30, 31, 32, 33, 34, 35, 36, 38, 39, 40, 41, 42, 43, 44, 45, 46, 47, 48, 51, 52, 53, 54, 55, 56, 57, 58, 59, 60, 61, 62, 63, 64, 65, 66, 67, 68, 69, 70, 71, 72, 73, 74, 75, 76, 78, 79, 80, 81, 82, 84, 85, 86, 87, 88, 89, 90, 91, 92, 93, 94, 95, 97, 98, 99, 100, 101, 102, 105, 106, 107, 108, 109, 110, 111, 112, 113, 114, 115, 116, 117, 118, 119, 120, 121, 122, 123, 124, 125, 126, 127, 128, 129, 130, 131, 132, 133, 134, 135, 136, 137, 138, 139, 140, 141, 142, 143, 144, 145, 146, 147, 148, 149, 150, 151, 154, 155, 156, 159, 160, 161, 162, 163, 164, 165, 166, 167, 169, 170, 171, 172, 173, 174, 175, 176, 177, 178, 179, 180, 181, 182, 183, 184, 185, 187, 188, 189, 190, 191, 192, 193, 195, 196, 197, 198, 199, 200, 201, 202, 203, 204, 205, 206, 207, 208, 209, 210, 211, 212, 213, 214, 215, 216, 217, 218, 219, 220, 221, 222, 223, 224, 225, 226, 227, 228, 229, 230, 231, 232, 233, 234, 235, 236, 237, 238, 239, 240, 241, 242, 243, 244, 245, 246, 247, 248, 249, 250, 251, 252, 253, 254].map fun y => Cond.instanceMethod (jmn y)), w ∈ jws := jws_of jmV_t (by decide +kernel)
set_option maxRecDepth 100000 in
theorem jmL_t : ∀ w ∈ ([0, 1, 2, 3, 4, 5, 6, 7, 8, 9, 10, 11, 12, 13, 14, 15, 16, 17, 18, 19, 20, 21, 22, 23, 24, 25, 27, 28, 29, 30, 31, 32, 33, 34, 35, 36, 38, 39, 40, 41, 42, 43, 44, 45, 46, 47, 48, 51, 52, 53, 54, 55, 56, 57, 58, 59, 60, 61, 62, 63, 64, 65, 66, 67, 68, 69, 70, 71, 72, 73, 74, 75, 76, 78, 79, 80, 81, 82, 84, 85, 86, 87, 88, 89, 90, 91, 92, 93, 94, 95, 97, 98, 99, 100, 101, 102, 105, 106, 107, 108, 109, 110, 111, 112, 113, 114, 115, 116, 117, 118, 119, 120, 121, 122, 123, 124, 125, 126, 127, 128, 129, 130, 131, 132, 133, 134, 135, 136, 137, 138, 139, 140, 141, 142, 143, 144, 145, 146, 147, 148, 149, 150, 151, 154, 155, 156, 159, 160, 161, 162, 163, 164, 165, 166, 167, 169, 170, 171, 172, 173, 174, 175, 176, 177, 178, 179, 180, 181, 182, 183, 184, 185, 187, 188, 189, 190, 191, 192, 193, 195, 196, 197, 198, 199, 200, 201, 202, 203, 204, 205, 206, 207, 208, 209, 210, 211, 212, 213, 214, 215, 216, 217, 218, 219, 220, 221, 222, 223, 224, 225, 226, 227, 228, 229, 230, 231, 232, 233, 234, 235, 236, 237, 238, 239, 240, 241, 242, 243, 244, 245, 246, 247, 248, 249, 250, 251, 252, 253, 254].map fun y => Cond.selects (jmn y).cls (jmn y) (jmn y)), w ∈ lw_tbl := jw_of [810, 1267, 20, 935, 824, 918, 943, 927, 939, 847, 21, 22, 23, 27, 24, 28, 29, 26, 25, 589, 757, 794, 773, 893, 973, 897, 828, 1210, 1218, 1234, 1230, 1246, 1250, 1014, 34, 35, 1039, 1097, 1110, 1106, 1170, 1178, 1153, 1161, 49, 36, 37, 38, 39, 42, 41, 44, 40, 43, 45, 46, 47, 48, 581, 678, 5, 8, 682, 4, 6, 7, 9, 10, 11, 12, 13, 19, 14, 16, 15, 17, 18, 959, 982, 1022, 1018, 1188, 965, 986, 32, 998, 585, 889, 695, 802, 711, 741, 749, 806, 736, 732, 593, 600, 1, 2, 3, 569, 0, 577, 832, 836, 1290, 842, 907, 914, 923, 931, 947, 978, 990, 1006, 33, 1010, 1101, 1134, 1139, 1143, 1148, 1166, 1174, 1183, 1192, 50, 1200, 1206, 1214, 1222, 1226, 52, 51, 1255, 1259, 53, 1271, 1275, 1279, 31, 30, 1619, 1623, 56, 55, 59, 57, 58, 61, 66, 81, 70, 65, 64, 69, 62, 67, 60, 63, 68, 71, 72, 77, 76, 73, 74, 75, 78, 79, 80, 1627, 1767, 1771, 88, 82, 96, 90, 87, 86, 85, 95, 1775, 83, 84, 98, 93, 92, 91, 89, 94, 1800, 1808, 1845, 97, 1849, 1857, 99, 1861, 101, 100, 102, 109, 1873, 1891, 105, 104, 103, 1895, 1917, 107, 108, 110, 111, 106, 1921, 1949, 112, 1954, 1962, 1967, 1971, 1975, 1979, 1983, 1988, 1992, 1996, 2000, 113, 115, 114, 2004, 2020, 2024, 2028, 2032, 2036] (by decide +kernel)
theorem jmL_g : ∀ w ∈ ([0, 1, 2, 3, 4, 5, 6, 7, 8, 9, 10, 11, 12, 13, 14, 15, 16, 17, 18, 19, 20, 21, 22, 23, 24, 25, 27, 28, 29, 30, 31, 32, 33, 34, 35, 36, 38, 39, 40, 41, 42, 43, 44, 45, 46, 47, 48, 51, 52, 53, 54, 55, 56, 57, 58, 59, 60, 61, 62, 63, 64, 65, 66, 67, 68, 69, 70, 71, 72, 73, 74, 75, 76, 78, 79, 80, 81, 82, 84, 85, 86, 87, 88, 89, 90, 91, 92, 93, 94, 95, 97, 98, 99, 100, 101, 102, 105, 106, 107, 108, 109, 110, 111, 112, 113, 114, 115, 116, 117, 118, 119, 120, 121, 122, 123, 124, 125, 126, 127, 128, 129, 130, 131, 132, 133, 134, 135, 136, 137, 138, 139, 140, 141, 142, 143, 144, 145, 146, 147, 148, 149, 150, 151, 154, 155, 156, 159, 160, 161, 162, 163, 164, 165, 166, 167, 169, 170, 171, 172, 173, 174, 175, 176, 177, 178, 179, 180, 181, 182, 183, 184, 185, 187, 188, 189, 190, 191, 192, 193, 195, 196, 197, 198, 199, 200, 201, 202, 203, 204, 205, 206, 207, 208, 209, 210, 211, 212, 213, 214, 215, 216, 217, 218, 219, 220, 221, 222, 223, 224, 225, 226, 227, 228, 229, 230, 231, 232, 233, 234, 235, 236, 237, 238, 239, 240, 241, 242, 243, 244, 245, 246, 247, 248, 249, 250, 251, 252, 253, 254].map fun y => Cond.selects (jmn y).cls (jmn y) (jmn y)), w ∈ jws := jws_of jmL_t (by decide +kernel)
def jwk (M : jM) : Cond := .code M.1 M.2.1 M.2.2.1 (j_rt M.2.2.2.1)
set_option maxRecDepth 100000 in
theorem jmK_0 : ∀ w ∈ [jm_0, jm_1, jm_2, jm_3, jm_4, jm_5, jm_6, jm_7, jm_8, jm_9, jm_10, jm_11, jm_12, jm_13, jm_14, jm_15, jm_16, jm_17, jm_18, jm_19, jm_20, jm_21, jm_22, jm_23, jm_24, jm_25, jm_26, jm_27, jm_28, jm_29].map jwk, w ∈ lw_tbl := jw_of [811, 1268, 815, 936, 825, 919, 944, 928, 940, 848, 852, 856, 860, 878, 864, 882, 886, 873, 869, 590, 758, 795, 774, 894, 974, 898, 901, 829, 1211, 1219] rfl
set_option maxRecDepth 100000 in
theorem jmK_1 : ∀ w ∈ [jm_30, jm_31, jm_32, jm_33, jm_34, jm_35, jm_36, jm_37, jm_38, jm_39, jm_40, jm_41, jm_42, jm_43, jm_44, jm_45, jm_46, jm_47, jm_48, jm_49, jm_50, jm_51, jm_52, jm_53, jm_54, jm_55, jm_56, jm_57, jm_58, jm_59].map jwk, w ∈ lw_tbl := jw_of [1235, 1231, 1247, 1251, 1015, 1028, 1032, 1035, 1040, 1098, 1111, 1107, 1171, 1179, 1154, 1162, 1158, 1047, 1051, 1054, 1057, 1061, 1071, 1084, 1079, 1092, 1075, 1088, 1115, 1119] rfl
set_option maxRecDepth 100000 in
theorem jmK_2 : ∀ w ∈ [jm_60, jm_61, jm_62, jm_63, jm_64, jm_65, jm_66, jm_67, jm_68, jm_69, jm_70, jm_71, jm_72, jm_73, jm_74, jm_75, jm_76, jm_77, jm_78, jm_79, jm_80, jm_81, jm_82, jm_83, jm_84, jm_85, jm_86, jm_87, jm_88, jm_89].map jwk, w ∈ lw_tbl := jw_of [1123, 1127, 582, 679, 691, 717, 683, 687, 703, 707, 721, 725, 729, 746, 754, 799, 762, 788, 770, 766, 778, 782, 960, 1130, 983, 1023, 1019, 1189, 966, 987] rfl
set_option maxRecDepth 100000 in
theorem jmK_3 : ∀ w ∈ [jm_90, jm_91, jm_92, jm_93, jm_94, jm_95, jm_96, jm_97, jm_98, jm_99, jm_100, jm_101, jm_102, jm_103, jm_104, jm_105, jm_106, jm_107, jm_108, jm_109, jm_110, jm_111, jm_112, jm_113, jm_114, jm_115, jm_116, jm_117, jm_118, jm_119].map jwk, w ∈ lw_tbl := jw_of [970, 999, 586, 890, 696, 803, 699, 712, 742, 750, 807, 737, 733, 785, 791, 594, 601, 608, 612, 617, 570, 574, 578, 833, 837, 1291, 843, 908, 915, 924] rfl
set_option maxRecDepth 100000 in
theorem jmK_4 : ∀ w ∈ [jm_120, jm_121, jm_122, jm_123, jm_124, jm_125, jm_126, jm_127, jm_128, jm_129, jm_130, jm_131, jm_132, jm_133, jm_134, jm_135, jm_136, jm_137, jm_138, jm_139, jm_140, jm_141, jm_142, jm_143, jm_144, jm_145, jm_146, jm_147, jm_148, jm_149].map jwk, w ∈ lw_tbl := jw_of [932, 948, 979, 991, 1007, 995, 1011, 1102, 1135, 1140, 1144, 1149, 1167, 1175, 1184, 1193, 1197, 1201, 1207, 1215, 1223, 1227, 1243, 1239, 1256, 1260, 1264, 1272, 1276, 1280] rfl
set_option maxRecDepth 100000 in
theorem jmK_5 : ∀ w ∈ [jm_150, jm_151, jm_152, jm_153, jm_154, jm_155, jm_156, jm_157, jm_158, jm_159, jm_160, jm_161, jm_162, jm_163, jm_164, jm_165, jm_166, jm_167, jm_168, jm_169, jm_170, jm_171, jm_172, jm_173, jm_174, jm_175, jm_176, jm_177, jm_178, jm_179].map jwk, w ∈ lw_tbl := jw_of [956, 952, 604, 1043, 1620, 1624, 1636, 1639, 1653, 1632, 1658, 1643, 1650, 1666, 1689, 1749, 1705, 1685, 1681, 1678, 1701, 1670, 1693, 1662, 1674, 1697, 1709, 1713, 1733, 1729] rfl
set_option maxRecDepth 100000 in
theorem jmK_6 : ∀ w ∈ [jm_180, jm_181, jm_182, jm_183, jm_184, jm_185, jm_186, jm_187, jm_188, jm_189, jm_190, jm_191, jm_192, jm_193, jm_194, jm_195, jm_196, jm_197, jm_198, jm_199, jm_200, jm_201, jm_202, jm_203, jm_204, jm_205, jm_206, jm_207, jm_208, jm_209].map jwk, w ∈ lw_tbl := jw_of [1717, 1721, 1725, 1737, 1741, 1745, 1752, 1628, 1768, 1772, 1805, 1756, 1842, 1817, 1784, 1792, 1788, 1781, 1838, 1776, 1760, 1764, 1866, 1830, 1826, 1822, 1813, 1834, 1801, 1809] rfl
set_option maxRecDepth 100000 in
theorem jmK_7 : ∀ w ∈ [jm_210, jm_211, jm_212, jm_213, jm_214, jm_215, jm_216, jm_217, jm_218, jm_219, jm_220, jm_221, jm_222, jm_223, jm_224, jm_225, jm_226, jm_227, jm_228, jm_229, jm_230, jm_231, jm_232, jm_233, jm_234, jm_235, jm_236, jm_237, jm_238, jm_239].map jwk, w ∈ lw_tbl := jw_of [1846, 1854, 1850, 1858, 1870, 1862, 1883, 1878, 1888, 1938, 1874, 1892, 1910, 1904, 1900, 1896, 1918, 1930, 1934, 1942, 1946, 1926, 1922, 1950, 1959, 1955, 1963, 1968, 1972, 1976] rfl
set_option maxRecDepth 100000 in
theorem jmK_8 : ∀ w ∈ [jm_240, jm_241, jm_242, jm_243, jm_244, jm_245, jm_246, jm_247, jm_248, jm_249, jm_250, jm_251, jm_252, jm_253, jm_254, jm_255, jm_256].map jwk, w ∈ lw_tbl := jw_of [1980, 1984, 1989, 1993, 1997, 2001, 2009, 2017, 2013, 2005, 2021, 2025, 2029, 2033, 2037, 1064, 821] rfl
def jwX : List Cond := [.static (jmh 910), .static (jmh 911), .static (jmh 912), .static (jmh 913), .initialized "java/lang/Math", .code (jmh 910) Lib.Math.max.code 2 (some .int), .code (jmh 911) Lib.Math.min.code 2 (some .int), .code (jmh 912) Lib.MathLoose.min_long.code 4 (some .long), .code (jmh 913) Lib.MathLoose.abs_long.code 2 (some .long), .static arraycopyName, .native arraycopyName, .initialized "java/lang/System"]
set_option maxRecDepth 100000 in
theorem jwX_t : ∀ w ∈ jwX, w ∈ lw_tbl := jw_of [635, 596, 1912, 1794, 131, 636, 597, 1913, 1795, 817, 818, 133] (by decide +kernel)
theorem jwX_g : ∀ w ∈ jwX, w ∈ jws := jws_of jwX_t (by decide +kernel)
end
section
/-! What is known of a method of the table. Printed by wip/gen/facts.py. -/
def jVl : List Nat := [0, 1, 2, 3, 4, 5, 6, 7, 8, 9, 10, 11, 12, 13, 14, 15, 16, 17, 18, 19, 20, 21, 22, 23, 24, 25, 27, 28, 29, 30, 31, 32, 33, 34, 35, 36, 38, 39, 40, 41, 42, 43, 44, 45, 46, 47, 48, 51, 52, 53, 54, 55, 56, 57, 58, 59, 60, 61, 62, 63, 64, 65, 66, 67, 68, 69, 70, 71, 72, 73, 74, 75, 76, 78, 79, 80, 81, 82, 84, 85, 86, 87, 88, 89, 90, 91, 92, 93, 94, 95, 97, 98, 99, 100, 101, 102, 105, 106, 107, 108, 109, 110, 111, 112, 113, 114, 115, 116, 117, 118, 119, 120, 121, 122, 123, 124, 125, 126, 127, 128, 129, 130, 131, 132, 133, 134, 135, 136, 137, 138, 139, 140, 141, 142, 143, 144, 145, 146, 147, 148, 149, 150, 151, 154, 155, 156, 159, 160, 161, 162, 163, 164, 165, 166, 167, 169, 170, 171, 172, 173, 174, 175, 176, 177, 178, 179, 180, 181, 182, 183, 184, 185, 187, 188, 189, 190, 191, 192, 193, 195, 196, 197, 198, 199, 200, 201, 202, 203, 204, 205, 206, 207, 208, 209, 210, 211, 212, 213, 214, 215, 216, 217, 218, 219, 220, 221, 222, 223, 224, 225, 226, 227, 228, 229, 230, 231, 232, 233, 234, 235, 236, 237, 238, 239, 240, 241, 242, 243, 244, 245, 246, 247, 248, 249, 250, 251, 252, 253, 254]
def jSl : List Nat := [26, 37, 49, 50, 77, 83, 96, 103, 104, 152, 153, 157, 158, 168, 186, 194, 255, 256]
set_option maxRecDepth 100000 in
theorem jMM_code : ∀ M ∈ jMM, jwk M ∈ lw_tbl := by
  intro M h
  have e0 := jmK_0
  have e1 := jmK_1
  have e2 := jmK_2
  have e3 := jmK_3
  have e4 := jmK_4
  have e5 := jmK_5
  have e6 := jmK_6
  have e7 := jmK_7
  have e8 := jmK_8
  have h : M ∈ [jm_0, jm_1, jm_2, jm_3, jm_4, jm_5, jm_6, jm_7, jm_8, jm_9, jm_10, jm_11, jm_12, jm_13, jm_14, jm_15, jm_16, jm_17, jm_18, jm_19, jm_20, jm_21, jm_22, jm_23, jm_24, jm_25, jm_26, jm_27, jm_28, jm_29] ++ ([jm_30, jm_31, jm_32, jm_33, jm_34, jm_35, jm_36, jm_37, jm_38, jm_39, jm_40, jm_41, jm_42, jm_43, jm_44, jm_45, jm_46, jm_47, jm_48, jm_49, jm_50, jm_51, jm_52, jm_53, jm_54, jm_55, jm_56, jm_57, jm_58, jm_59] ++ ([jm_60, jm_61, jm_62, jm_63, jm_64, jm_65, jm_66, jm_67, jm_68, jm_69, jm_70, jm_71, jm_72, jm_73, jm_74, jm_75, jm_76, jm_77, jm_78, jm_79, jm_80, jm_81, jm_82, jm_83, jm_84, jm_85, jm_86, jm_87, jm_88, jm_89] ++ ([jm_90, jm_91, jm_92, jm_93, jm_94, jm_95, jm_96, jm_97, jm_98, jm_99, jm_100, jm_101, jm_102, jm_103, jm_104, jm_105, jm_106, jm_107, jm_108, jm_109, jm_110, jm_111, jm_112, jm_113, jm_114, jm_115, jm_116, jm_117, jm_118, jm_119] ++ ([jm_120, jm_121, jm_122, jm_123, jm_124, jm_125, jm_126, jm_127, jm_128, jm_129, jm_130, jm_131, jm_132, jm_133, jm_134, jm_135, jm_136, jm_137, jm_138, jm_139, jm_140, jm_141, jm_142, jm_143, jm_144, jm_145, jm_146, jm_147, jm_148, jm_149] ++ ([jm_150, jm_151, jm_152, jm_153, jm_154, jm_155, jm_156, jm_157, jm_158, jm_159, jm_160, jm_161, jm_162, jm_163, jm_164, jm_165, jm_166, jm_167, jm_168, jm_169, jm_170, jm_171, jm_172, jm_173, jm_174, jm_175, jm_176, jm_177, jm_178, jm_179] ++ ([jm_180, jm_181, jm_182, jm_183, jm_184, jm_185, jm_186, jm_187, jm_188, jm_189, jm_190, jm_191, jm_192, jm_193, jm_194, jm_195, jm_196, jm_197, jm_198, jm_199, jm_200, jm_201, jm_202, jm_203, jm_204, jm_205, jm_206, jm_207, jm_208, jm_209] ++ ([jm_210, jm_211, jm_212, jm_213, jm_214, jm_215, jm_216, jm_217, jm_218, jm_219, jm_220, jm_221, jm_222, jm_223, jm_224, jm_225, jm_226, jm_227, jm_228, jm_229, jm_230, jm_231, jm_232, jm_233, jm_234, jm_235, jm_236, jm_237, jm_238, jm_239] ++ ([jm_240, jm_241, jm_242, jm_243, jm_244, jm_245, jm_246, jm_247, jm_248, jm_249, jm_250, jm_251, jm_252, jm_253, jm_254, jm_255, jm_256])))))))) := h
  rcases List.mem_append.mp h with h | h
  · exact e0 _ (List.mem_map.mpr ⟨M, h, rfl⟩)
  rcases List.mem_append.mp h with h | h
  · exact e1 _ (List.mem_map.mpr ⟨M, h, rfl⟩)
  rcases List.mem_append.mp h with h | h
  · exact e2 _ (List.mem_map.mpr ⟨M, h, rfl⟩)
  rcases List.mem_append.mp h with h | h
  · exact e3 _ (List.mem_map.mpr ⟨M, h, rfl⟩)
  rcases List.mem_append.mp h with h | h
  · exact e4 _ (List.mem_map.mpr ⟨M, h, rfl⟩)
  rcases List.mem_append.mp h with h | h
  · exact e5 _ (List.mem_map.mpr ⟨M, h, rfl⟩)
  rcases List.mem_append.mp h with h | h
  · exact e6 _ (List.mem_map.mpr ⟨M, h, rfl⟩)
  rcases List.mem_append.mp h with h | h
  · exact e7 _ (List.mem_map.mpr ⟨M, h, rfl⟩)
  exact e8 _ (List.mem_map.mpr ⟨M, h, rfl⟩)
theorem jMM_all : jMM.all (fun M => plainName M.1.cls && decide (M.1.cls ≠ "java/lang/invoke/MethodHandle") && decide (M.1.cls ≠ "java/lang/invoke/VarHandle") && decide ((parseMethodDescriptor M.1.desc).map (fun d => d.parameters.length) = some M.2.2.2.2.2.1) && decide (jon M.2.2.2.2.1 = M.1.cls) && decide (M.2.2.1 ≤ 30) && decide (M.2.2.2.1 ≤ 3)) = true := by decide +kernel
theorem jMM_good : (jMM.map jwk).all goodWord = true := by decide +kernel
theorem jMM_kind : ∀ y, y < 257 → ((jMM.getD y jmd).2.2.2.2.2.2 = 0 → y ∈ jVl) ∧ ((jMM.getD y jmd).2.2.2.2.2.2 = 1 → y ∈ jSl) := by decide +kernel
theorem jMM_len : jMM.length = 257 := by decide +kernel
theorem jMM_all_in : ∀ y, y < 257 → y ∈ [0, 1, 2, 3, 4, 5, 6, 7, 8, 9, 10, 11, 12, 13, 14, 15, 16, 17, 18, 19, 20, 21, 22, 23, 24, 25, 26, 27, 28, 29, 30, 31, 32, 33, 34, 35, 36, 37, 38, 39, 40, 41, 42, 43, 44, 45, 46, 47, 48, 49, 50, 51, 52, 53, 54, 55, 56, 57, 58, 59, 60, 61, 62, 63, 64, 65, 66, 67, 68, 69, 70, 71, 72, 73, 74, 75, 76, 77, 78, 79, 80, 81, 82, 83, 84, 85, 86, 87, 88, 89, 90, 91, 92, 93, 94, 95, 96, 97, 98, 99, 100, 101, 102, 103, 104, 105, 106, 107, 108, 109, 110, 111, 112, 113, 114, 115, 116, 117, 118, 119, 120, 121, 122, 123, 124, 125, 126, 127, 128, 129, 130, 131, 132, 133, 134, 135, 136, 137, 138, 139, 140, 141, 142, 143, 144, 145, 146, 147, 148, 149, 150, 151, 152, 153, 154, 155, 156, 157, 158, 159, 160, 161, 162, 163, 164, 165, 166, 167, 168, 169, 170, 171, 172, 173, 174, 175, 176, 177, 178, 179, 180, 181, 182, 183, 184, 185, 186, 187, 188, 189, 190, 191, 192, 193, 194, 195, 196, 197, 198, 199, 200, 201, 202, 203, 204, 205, 206, 207, 208, 209, 210, 211, 212, 213, 214, 215, 216, 217, 218, 219, 220, 221, 222, 223, 224, 225, 226, 227, 228, 229, 230, 231, 232, 233, 234, 235, 236, 237, 238, 239, 240, 241, 242, 243, 244, 245, 246, 247, 248, 249, 250, 251, 252, 253, 254, 255, 256] := by decide +kernel
theorem jmn_eq {y : Nat} {M : jM} (h : jMM[y]? = some M) : jMM.getD y jmd = M := by
  rw [List.getD_eq_getElem?_getD, h]
  rfl
theorem jm_lt {y : Nat} {M : jM} (h : jMM[y]? = some M) : y < 257 := by
  have h1 := (List.getElem?_eq_some_iff.mp h).1
  rw [jMM_len] at h1
  exact h1
theorem jm_code {y : Nat} {M : jM} (h : jMM[y]? = some M) : jwk M ∈ jws := List.mem_filter.mpr ⟨jMM_code M (List.mem_of_getElem? h), List.all_eq_true.mp jMM_good _ (List.mem_map.mpr ⟨M, List.mem_of_getElem? h, rfl⟩)⟩
theorem jm_init {y : Nat} {M : jM} (h : jMM[y]? = some M) : Cond.initialized M.1.cls ∈ jws := by
  have h1 := jmI_g (Cond.initialized (jmn y).cls) (List.mem_map.mpr ⟨y, jMM_all_in y (jm_lt h), rfl⟩)
  unfold jmn at h1
  rw [jmn_eq h] at h1
  exact h1
theorem jm_virt {y : Nat} {M : jM} (h : jMM[y]? = some M) (hs : M.2.2.2.2.2.2 = 0) : Cond.instanceMethod M.1 ∈ jws ∧ Cond.selects M.1.cls M.1 M.1 ∈ jws := by
  have h0 := (jMM_kind y (jm_lt h)).1
  rw [jmn_eq h] at h0
  have h1 := jmV_g (Cond.instanceMethod (jmn y)) (List.mem_map.mpr ⟨y, h0 hs, rfl⟩)
  have h2 := jmL_g (Cond.selects (jmn y).cls (jmn y) (jmn y)) (List.mem_map.mpr ⟨y, h0 hs, rfl⟩)
  unfold jmn at h1 h2
  rw [jmn_eq h] at h1 h2
  exact ⟨h1, h2⟩
theorem jm_stat {y : Nat} {M : jM} (h : jMM[y]? = some M) (hs : M.2.2.2.2.2.2 = 1) : Cond.static M.1 ∈ jws := by
  have h0 := (jMM_kind y (jm_lt h)).2
  rw [jmn_eq h] at h0
  have h1 := jmS_g (Cond.static (jmn y)) (List.mem_map.mpr ⟨y, h0 hs, rfl⟩)
  unfold jmn at h1
  rw [jmn_eq h] at h1
  exact h1
theorem jm_ok {y : Nat} {M : jM} (h : jMM[y]? = some M) : plainName M.1.cls = true ∧ M.1.cls ≠ "java/lang/invoke/MethodHandle" ∧ M.1.cls ≠ "java/lang/invoke/VarHandle" ∧ (parseMethodDescriptor M.1.desc).map (fun d => d.parameters.length) = some M.2.2.2.2.2.1 ∧ jon M.2.2.2.2.1 = M.1.cls ∧ M.2.2.1 ≤ 30 ∧ M.2.2.2.1 ≤ 3 := by
  have h1 := List.all_eq_true.mp jMM_all M (List.mem_of_getElem? h)
  simp only [Bool.and_eq_true, decide_eq_true_eq] at h1
  obtain ⟨⟨⟨⟨⟨⟨a, b⟩, c⟩, d⟩, e⟩, f⟩, g⟩ := h1
  exact ⟨a, b, c, d, e, f, g⟩
theorem jc_ok : ∀ ci, ci < 10 → jcl[ci]? = some (jrr ci, jtt ci, jnn ci) ∧ (∀ w ∈ u_ws (jrr ci) (jtt ci) (jnn ci), w ∈ jws) ∧ (∀ a, a < jnn ci → ∀ b, b < jnn ci → a ≠ b → (jtt ci a).2.1 ≠ (jtt ci b).2.1) ∧ (∀ k, k < jnn ci → parseFieldDescriptor (jtt ci k).2.2.1 = some (jyy ci k)) ∧ jon ci = jrr ci := by
  intro ci h
  match ci, h with
  | 0, _ => exact ⟨rfl, jlay_0, jnm_0, jty_0, rfl⟩
  | 1, _ => exact ⟨rfl, jlay_1, jnm_1, jty_1, rfl⟩
  | 2, _ => exact ⟨rfl, jlay_2, jnm_2, jty_2, rfl⟩
  | 3, _ => exact ⟨rfl, jlay_3, jnm_3, jty_3, rfl⟩
  | 4, _ => exact ⟨rfl, jlay_4, jnm_4, jty_4, rfl⟩
  | 5, _ => exact ⟨rfl, jlay_5, jnm_5, jty_5, rfl⟩
  | 6, _ => exact ⟨rfl, jlay_6, jnm_6, jty_6, rfl⟩
  | 7, _ => exact ⟨rfl, jlay_7, jnm_7, jty_7, rfl⟩
  | 8, _ => exact ⟨rfl, jlay_8, jnm_8, jty_8, rfl⟩
  | 9, _ => exact ⟨rfl, jlay_9, jnm_9, jty_9, rfl⟩
def jfk_b (ci f : Nat) : Bool := decide (f < jnn ci) && (match (j_fk ci).getD f 9 with
  | 0 => decide (jyy ci f = .int) && !(jtt ci f).2.2.2
  | 1 => decide (jyy ci f = .boolean) && !(jtt ci f).2.2.2
  | 2 => decide (jyy ci f = .long) && !(jtt ci f).2.2.2
  | 3 => decide (jyy ci f = .object (jrr 6)) && !(jtt ci f).2.2.2
  | _ => true)
theorem jfk_all : (List.range 10).all (fun ci => (List.range (j_fk ci).length).all (fun f => jfk_b ci f)) = true := by decide +kernel
theorem jfk_len : ∀ ci, (j_fk ci).length ≠ 0 → ci < 10 := by
  intro ci h
  rcases Nat.lt_or_ge ci 10 with q | q
  · exact q
  · exfalso
    apply h
    have : jFK[ci]? = none := List.getElem?_eq_none_iff.mpr q
    unfold j_fk
    rw [List.getD_eq_getElem?_getD, this]
    rfl
end
section
/-! Each instruction of the small machine is the Jvm's. -/
def jlen (i : Instr) : Nat := match i with
  | .bipush _ => 2
  | .sipush _ => 3
  | .ldc _ => 2
  | .ldc_w _ => 3
  | .ldc2_w _ => 3
  | .iload _ => 2
  | .lload _ => 2
  | .aload _ => 2
  | .istore _ => 2
  | .lstore _ => 2
  | .astore _ => 2
  | .iinc _ _ => 3
  | .getfield _ => 3
  | .putfield _ => 3
  | .goto _ => 3
  | .ifCond _ _ => 3
  | .if_icmp _ _ => 3
  | .invokevirtual _ => 3
  | .invokestatic _ => 3
  | .new _ => 3
  | .invokespecial _ => 3
  | _ => 1
def j_switch (i : Instr) : Bool := match i with
  | .tableswitch _ _ _ _ => true
  | .lookupswitch _ _ => true
  | _ => false
def j_term (i : Instr) : Bool := match i with
  | .goto _ => true
  | .tableswitch _ _ _ _ => true
  | .lookupswitch _ _ => true
  | .ireturn => true
  | .lreturn => true
  | .return_ => true
  | .athrow => true
  | _ => false
def jpc (B : List jB) (j : Nat) : Option Nat := (B[j]?).map fun b => b.1
def j_tgt (B : List jB) (t pc : Nat) (off : Int) : Bool := match jpc B t with
  | some q => decide ((pc : Int) + off = (q : Int))
  | none => false
def j_tgts (B : List jB) (pc : Nat) : List Nat → List Int → Bool
  | [], [] => true
  | t :: ts, o :: os => j_tgt B t pc o && j_tgts B pc ts os
  | _, _ => false
def j_rk (rt : Nat) : Nat := match rt with
  | 0 => 0
  | 1 => 1
  | 2 => 1
  | _ => 2
/-- what is asked of an instruction: own, the class of the method by number; nL, its locals -/
def okI (scr : Bool) (own nL : Nat) (B : List jB) (pc : Nat) (i : Instr) (ex : List Nat) : Bool := match i with
  | .ldc idx => match ex with
    | [v] => jLC.contains (own, idx, v)
    | [v, _] => jLS.contains (own, idx, v)
    | _ => false
  | .ldc_w idx => match ex with
    | [v] => jLC.contains (own, idx, v)
    | _ => false
  | .ldc2_w idx => match ex with
    | [v] => jLJ.contains (own, idx, v)
    | _ => false
  | .istore_n n => decide ((n : Nat) < nL)
  | .istore n => decide (n < nL)
  | .astore_n n => decide ((n : Nat) < nL)
  | .astore n => decide (n < nL)
  | .iinc n _ => decide (n < nL)
  | .lstore_n n => decide ((n : Nat) + 1 < nL)
  | .lstore n => decide (n + 1 < nL)
  | .iaload => match ex with
    | [] => true
    | [y] => scr && decide (y = 9998)
    | _ => false
  | .arraylength => match ex with
    | [] => true
    | [y] => scr && decide (y = 9999)
    | _ => false
  | .getfield idx => match ex with
    | [ci, f, k] => jLF.contains (own, idx, ci, f) && decide ((j_fk ci)[f]? = some k)
    | _ => false
  | .putfield idx => match ex with
    | [ci, f, k] => jLF.contains (own, idx, ci, f) && decide ((j_fk ci)[f]? = some k)
    | _ => false
  | .goto off => match ex with
    | [t] => j_tgt B t pc off
    | _ => false
  | .ifCond _ off => match ex with
    | [t] => j_tgt B t pc off
    | _ => false
  | .if_icmp _ off => match ex with
    | [t] => j_tgt B t pc off
    | _ => false
  | .tableswitch d lo hi offs => match ex with
    | t :: ts => j_tgt B t pc d && j_tgts B pc ts offs.toList && decide (hi + 1 = lo + ts.length) && decide (-2147483648 ≤ lo) && decide (hi < 2147483648)
    | _ => false
  | .lookupswitch d ps => match ex with
    | t :: ts => j_tgt B t pc d && j_tgts B pc ts (ps.toList.map fun q => q.2) && ((ps.toList.zip (ps.toList.drop 1)).all (fun (a, next) => a.1 < next.1)) && ps.toList.all (fun q => decide (-2147483648 ≤ q.1) && decide (q.1 < 2147483648))
    | _ => false
  | .invokevirtual idx => match ex with
    | [x] => decide (x = 901) && jLX.contains (own, idx, 901)
    | [x, _] => decide (x = 902) && jLX.contains (own, idx, 902)
    | [x, _, _] => decide (x = 903) && jLX.contains (own, idx, 903)
    | [y, n, ci, rk] => match jMM[y]? with
      | some M => (jLM.contains (own, idx, y) || jLN.contains (own, idx, y)) && decide (M.2.2.2.2.2.2 = 0) && decide (M.2.2.2.2.2.1 = n) && decide (M.2.2.2.2.1 = ci) && decide (j_rk M.2.2.2.1 = rk) && decide (ci < 10)
      | none => false
    | _ => false
  | .invokestatic idx => match ex with
    | [_] => jLA.contains (own, idx)
    | [x, _] => jLH.contains (own, idx, x)
    | [y, n, rk] => match jMM[y]? with
      | some M => (jLM.contains (own, idx, y) || jLN.contains (own, idx, y)) && decide (M.2.2.2.2.2.2 = 1) && decide (M.2.2.2.2.2.1 = n) && decide (j_rk M.2.2.2.1 = rk)
      | none => false
    | _ => false
  | _ => true
def chkB (scr : Bool) (own nL : Nat) (B : List jB) (cc : ByteArray) (nx : Nat) : List jN → Nat → Bool
  | [], pc => decide (jpc B nx = some pc)
  | (i, ex) :: r, pc => match decode cc pc with
    | .ok (i', len) => decide (i' = i) && (decide (len = jlen i) || j_switch i) && okI scr own nL B pc i ex && (j_term i || chkB scr own nL B cc nx r (pc + len))
    | .error _ => false
theorem chk_cons {scr : Bool} {own nL : Nat} {B : List jB} {cc : ByteArray} {nx pc : Nat} {i : Instr} {ex : List Nat} {r : List jN} (h : chkB scr own nL B cc nx ((i, ex) :: r) pc = true) :
    (∃ len, decode cc pc = .ok (i, len)) ∧ okI scr own nL B pc i ex = true ∧ (j_switch i = false → decode cc pc = .ok (i, jlen i)) ∧ (j_switch i = false → j_term i = false → chkB scr own nL B cc nx r (pc + jlen i) = true) := by
  unfold chkB at h
  split at h
  · rename_i i' len hd
    simp only [Bool.and_eq_true, Bool.or_eq_true, decide_eq_true_eq] at h
    obtain ⟨⟨⟨rfl, h2⟩, h3⟩, h4⟩ := h
    refine ⟨⟨len, hd⟩, h3, fun hs => ?_, fun hs ht => ?_⟩
    · rcases h2 with h2 | h2
      · rw [hd, h2]
      · rw [hs] at h2; cases h2
    · rcases h2 with h2 | h2
      · rcases h4 with h4 | h4
        · rw [ht] at h4; cases h4
        · rw [← h2]; exact h4
      · rw [hs] at h2; cases h2
  · cases h
theorem j_tgt_s {B : List jB} {t pc : Nat} {off : Int} (h : j_tgt B t pc off = true) : ∃ q, jpc B t = some q ∧ (pc : Int) + off = (q : Int) := by
  unfold j_tgt at h
  split at h
  · rename_i q hq
    exact ⟨q, hq, decide_eq_true_eq.mp h⟩
  · cases h
theorem j_tgts_s {B : List jB} {pc : Nat} : ∀ (ts : List Nat) (os : List Int), j_tgts B pc ts os = true → ts.length = os.length ∧ ∀ (k t : Nat), ts[k]? = some t → ∃ o, os[k]? = some o ∧ j_tgt B t pc o = true
  | [], [], _ => ⟨rfl, fun k t h => by cases h⟩
  | [], _ :: _, h => by cases h
  | _ :: _, [], h => by cases h
  | t :: ts, o :: os, h => by
    unfold j_tgts at h
    rw [Bool.and_eq_true] at h
    obtain ⟨h1, h2⟩ := j_tgts_s ts os h.2
    refine ⟨by rw [List.length_cons, List.length_cons, h1], fun k t' hk => ?_⟩
    cases k with
    | zero =>
      cases hk
      exact ⟨o, rfl, h.1⟩
    | succ k => exact h2 k t' hk
theorem toInt_ofI {n : Int} (h1 : -2147483648 ≤ n) (h2 : n < 2147483648) : (Int32.ofInt n).toInt = n := Int32.toInt_ofInt_of_le (by omega) (by omega)
theorem sw_table {x : Int32} {d : jR} {f : Nat → jR} {r : Option Value × jS} : ∀ (bs : List Nat) (lo : Int), -2147483648 ≤ lo → lo + bs.length ≤ 2147483648 → j_sw x d f (j_keys lo bs) = some r →
    (∃ k b : Nat, bs[k]? = some b ∧ x.toInt = lo + k ∧ f b = some r) ∨ ((x.toInt < lo ∨ lo + bs.length ≤ x.toInt) ∧ d = some r)
  | [], lo, _, _, h => by
    refine Or.inr ⟨?_, h⟩
    simp only [List.length_nil]
    omega
  | b :: bs, lo, h1, h2, h => by
    simp only [List.length_cons] at h2
    unfold j_keys j_sw at h
    have e0 := toInt_ofI h1 (by omega)
    by_cases hx : x = Int32.ofInt lo
    · rw [if_pos hx] at h
      refine Or.inl ⟨0, b, rfl, ?_, h⟩
      rw [hx, e0]
      simp
    · rw [if_neg hx] at h
      have hne : ¬ x.toInt = lo := fun q => hx (Int32.toInt_inj.mp (by rw [e0]; exact q))
      rcases sw_table bs (lo + 1) (by omega) (by omega) h with ⟨k, b', hk, e, hf⟩ | ⟨e, hd⟩
      · exact Or.inl ⟨k + 1, b', hk, by rw [e]; simp only [Int.natCast_add, Int.cast_ofNat_Int]; omega, hf⟩
      · refine Or.inr ⟨?_, hd⟩
        simp only [List.length_cons]
        omega
theorem sw_look {x : Int32} {d : jR} {f : Nat → jR} {r : Option Value × jS} {dflt : Int} : ∀ (ps : List (Int × Int)) (bs : List Nat), bs.length = ps.length → ps.all (fun q => decide (-2147483648 ≤ q.1) && decide (q.1 < 2147483648)) = true → j_sw x d f ((ps.map fun z => z.1).zip bs) = some r →
    (∃ (k b : Nat) (o : Int), bs[k]? = some b ∧ (ps.map fun z => z.2)[k]? = some o ∧ Op.lookupswitch.offset ps dflt x.toInt = o ∧ f b = some r) ∨ (Op.lookupswitch.offset ps dflt x.toInt = dflt ∧ d = some r)
  | [], [], _, _, h => Or.inr ⟨rfl, h⟩
  | [], _ :: _, hl, _, _ => by cases hl
  | _ :: _, [], hl, _, _ => by cases hl
  | (a, o) :: ps, b :: bs, hl, ha, h => by
    simp only [List.all_cons, Bool.and_eq_true, decide_eq_true_eq] at ha
    have h : j_sw x d f ((a, b) :: ((ps.map fun z => z.1).zip bs)) = some r := h
    unfold j_sw at h
    have e0 := toInt_ofI ha.1.1 ha.1.2
    by_cases hx : x = Int32.ofInt a
    · rw [if_pos hx] at h
      refine Or.inl ⟨0, b, o, rfl, rfl, ?_, h⟩
      rw [Op.lookupswitch.offset_cons, if_pos]
      rw [hx, e0]
    · rw [if_neg hx] at h
      rw [lv_osw hx e0]
      rcases sw_look (dflt := dflt) ps bs (by simpa using hl) (by simpa using ha.2) h with ⟨k, b', o', h1, h2, h3, h4⟩ | h1
      · exact Or.inl ⟨k + 1, b', o', h1, h2, h3, h4⟩
      · exact Or.inr h1
end
section
/-! A method's contract over the machine's state; the call. -/
def jrm (d : Nat) : Room := { frames := d + 8, cells := 0, slots := 0, locals := 60 * d + 480 }
def jPc (α : Nat → Nat) (G : jG) (D : va_G) (Z : State → Prop) (σ : jS) (av : List Value) : Array Value → State → Prop := fun v U => v = av.toArray ∧ va_P D jcl (jP α G σ) U.heap ∧ va_K D jcl (jtys G) U ∧ Z U
def jQc (α : Nat → Nat) (G : jG) (D : va_G) (r : Option Value) (σ : jS) : Array Value → State → Outcome → State → Prop := fun _ st oc t => oc = .returned (r.map (tv α)) ∧ va_P D jcl (jP α G σ) t.heap ∧ va_F (jA α) st t
/-- what is true of the state and stays true, whatever happens to the world's cells -/
def jZok (α : Nat → Nat) (Z : State → Prop) : Prop := (∀ U V : State, Z U → U.WarmedH V.vm → U.heap.size ≤ V.heap.size → (∀ q : Nat, q < U.heap.size → ¬ jA α q → V.heap[q]? = U.heap[q]?) → Z V) ∧ (∀ U : State, Z U → ∀ q ∈ jLN, va_Nw (jwN q) U)
def jMt (l : Launch) (α : Nat → Nat) (G : jG) (D : va_G) (Z : State → Prop) (d : Nat) (M : jM) (a : List Value) (σ : jS) (r : Option Value) (σ' : jS) : Prop :=
  Met l M.1 (jwk M :: jws) (jrm d) (jPc α G D Z σ (a.map (tv α))) (jQc α G D r σ') 0 0 (jA α)
theorem jZ_call {α : Nat → Nat} {Z : State → Prop} (hz : jZok α Z) {U : State} (h : Z U) (g : JFrame) (mk : MethodId) (a : Array Value) : Z (U.calling g mk a) :=
  hz.1 U (U.calling g mk a) h (State.WarmedH.refl U) (Nat.le_refl _) (fun _ _ _ => rfl)
theorem jPc_blind {α : Nat → Nat} {G : jG} {D : va_G} {Z : State → Prop} (hz : jZok α Z) (σ : jS) (av : List Value) : FrameBlind (jPc α G D Z σ av) := by
  intro a U g mk h
  obtain ⟨h1, h2, h3, h4⟩ := h
  exact ⟨h1, h2, va_K.moved (u := U) (U := U.calling g mk a) (Vm.Alike.refl U.vm) h3, jZ_call hz h4 g mk a⟩
theorem jws_good {w : Cond} (h : w ∈ jws) : w ∈ jws ∧ ((w.onTables && w.keeps) = true ∨ ∃ ty, w = .arrayClass ty) := ⟨h, good_of_word (List.mem_filter.mp h).2⟩
theorem jws_in {y : Nat} {M : jM} (h : jMM[y]? = some M) : GoodIn jws (jwk M :: jws) := by
  intro w hw
  rcases List.mem_cons.mp hw with rfl | hw
  · exact jws_good (jm_code h)
  · exact jws_good hw
section JCALL
variable {p : Program} {l : Launch} {e : Env} {R : Room} {s : State} {m : MethodId} {args : Array Value} {below : List Frame} {meth : Method} {c : Code} {H : Heap} {locs : List Loc} {cells slots : Nat} {Q : State → Prop}
variable {cc : ByteArray} {nL own : Nat} {D : va_G} {G : jG} {α : Nat → Nat} {Z : State → Prop} {dd : Nat}
/-- what stays the same along a method's walk -/
def jFx (p : Program) (R : Room) (s : State) (m : MethodId) (args : Array Value) (c : Code) (cc : ByteArray) (nL own : Nat) (D : va_G) (G : jG) (α : Nat → Nat) (Z : State → Prop) (dd cells slots : Nat) : Prop :=
  p.tables.exec = Jvm.exec ∧ c.code = cc ∧ c.maxLocals = nL ∧ s.vm.findClass (jon own) = some m.cls ∧ (∀ w ∈ jws, w.before args s = true) ∧ va_K D jcl (jtys G) s ∧ Z s ∧ jZok α Z ∧ (∀ a b, a < jSH.length → b < jSH.length → α a = α b → a = b) ∧ dd + 9 ≤ R.frames ∧ 60 * dd + 540 ≤ R.locals ∧ cells ≤ R.cells ∧ slots ≤ R.slots
theorem j_call {pc : Nat} {ls : Array Slot} {rest st0 : List Value} {aa : Array Value} {r : Option Value} {σ' : jS} {H0 : Heap} (hr : va_Run p l e R s m args below meth c H locs cells slots 0 0 (F0 m pc ls st0) rest (jQc α G D r σ' aa) (jA α)) (hS : va_S (jA α) H0 H locs)
    (kk : ∀ (H1 : Heap) (locs1 : List Loc), va_P D jcl (jP α G σ') H1 → va_S (jA α) H0 H1 locs1 → W p l e R s m args below meth c H1 locs1 cells slots Q (F0 m (pc + 3) ls ((r.map (tv α)).toList ++ rest))) : W p l e R s m args below meth c H locs cells slots Q (F0 m pc ls st0) := by
  intro T hT X
  obtain ⟨v, st₀, t, T', L, h0, X', hL, e1, e2, ⟨hv, hp, hz, hk⟩, st⟩ := hr T hT X
  cases hv
  rw [h0] at hz hk
  obtain ⟨t2, a1, b1⟩ := kk T'.heap (locs ++ L) (by rw [e1]; exact hp)
    ⟨Nat.le_trans hS.1 (by rw [e1]; exact hz), fun q h1 h2 => by rw [e1, hk q (Nat.lt_of_lt_of_le h1 hS.1) h2]; exact hS.2.1 q h1 h2, fun q hq => by
      rcases List.mem_append.mp hq with h | h
      · exact hS.2.2 q h
      · exact hL q h⟩ T' rfl X'
  exact ⟨t2, st t2 a1, b1⟩
theorem jZ_at (F : jFx p R s m args c cc nL own D G α Z dd cells slots) (hS : va_S (jA α) s.heap H locs) {U : State} (hU : U.heap = H) (hW : s.WarmedH U.vm) : Z U := by
  obtain ⟨-, -, -, -, -, -, hZ, hz, -⟩ := F
  exact hz.1 s U hZ hW (by rw [hU]; exact hS.1) (fun q h1 h2 => by rw [hU]; exact hS.2.1 q h1 h2)
theorem jPre (F : jFx p R s m args c cc nL own D G α Z dd cells slots) (hS : va_S (jA α) s.heap H locs) {σ : jS} (hP : va_P D jcl (jP α G σ) H) (av : List Value) : ∀ U : State, U.heap = H → s.WarmedH U.vm → jPc α G D Z σ av av.toArray U := by
  intro U hU hW
  have hZ := jZ_at F hS hU hW
  obtain ⟨-, -, -, -, -, hK, -⟩ := F
  exact ⟨rfl, by rw [hU]; exact hP, va_K.moved hW.alike hK, hZ⟩
theorem jCB (F : jFx p R s m args c cc nL own D G α Z dd cells slots) {y : Nat} {M : jM} (h : jMM[y]? = some M) : (jrm dd).cells = 0 ∧ (jrm dd).slots = 0 ∧ (jrm dd).frames + 1 ≤ R.frames ∧ 8 + (M.2.2.1 + 11) + (jrm dd).locals ≤ R.locals := by
  obtain ⟨-, -, -, -, -, -, -, -, -, h1, h2, -⟩ := F
  obtain ⟨-, -, -, -, -, h3, -⟩ := jm_ok h
  refine ⟨rfl, rfl, h1, ?_⟩
  show 8 + (M.2.2.1 + 11) + (60 * dd + 480) ≤ R.locals
  refine Nat.le_trans ?_ h2
  revert h3
  clear h1 h2 h
  generalize M.2.2.1 = x
  intro h3
  omega
theorem jCallB (F : jFx p R s m args c cc nL own D G α Z dd cells slots) {y idx : Nat} {M : jM} (h : jMM[y]? = some M) (hl : (own, idx, y) ∈ jLM) : CallB R s args (jon own) idx M.1 M.2.1 M.2.2.1 (j_rt M.2.2.2.1) (jwk M :: jws) (jrm dd) 0 0 M.2.2.2.2.2.1 := by
  obtain ⟨b1, b2, b3, b4⟩ := jCB F h
  have hts := F.2.2.2.2.1
  obtain ⟨k1, k2, k3, k4, k5, k6, k7⟩ := jm_ok h
  have hw := jwM_g _ (List.mem_map.mpr ⟨_, hl, rfl⟩)
  have hw2 : Cond.methodLink (jon own) idx M.1 ∈ jws := by
    have e : jwM (own, idx, y) = Cond.methodLink (jon own) idx (jmn y) := rfl
    rw [e] at hw
    unfold jmn at hw
    rw [jmn_eq h] at hw
    exact hw
  exact callB_of M.2.2.2.2.2.1 hts (jws_in h) rfl b1 b2 (hts _ (jm_init h)) (hts _ hw2) ⟨k2, k3, k4⟩ ⟨b3, b4⟩
theorem jCallN (F : jFx p R s m args c cc nL own D G α Z dd cells slots) {y idx : Nat} {M : jM} (h : jMM[y]? = some M) (hl : (own, idx, y) ∈ jLN) : va_CN R s args (jon own) idx M.1 "HalfHands" M.2.1 M.2.2.1 (j_rt M.2.2.2.1) (jwk M :: jws) (jrm dd) 0 0 M.2.2.2.2.2.1 := by
  obtain ⟨b1, b2, b3, b4⟩ := jCB F h
  have hts := F.2.2.2.2.1
  obtain ⟨k1, k2, k3, k4, k5, k6, k7⟩ := jm_ok h
  have hZ := F.2.2.2.2.2.2.1
  have hz := F.2.2.2.2.2.2.2.1
  have hw := hz.2 s hZ _ hl
  have hw2 : va_Nw (Cond.methodLinkNest (jon own) idx M.1 "HalfHands") s := by
    have e : jwN (own, idx, y) = Cond.methodLinkNest (jon own) idx (jmn y) "HalfHands" := rfl
    rw [e] at hw
    unfold jmn at hw
    rw [jmn_eq h] at hw
    exact hw
  exact va_cnB M.2.2.2.2.2.1 hts (jws_in h) rfl b1 b2 hw2 (hts _ (jm_init h)) ⟨k2, k3, k4⟩ ⟨b3, b4⟩
/-- a virtual call of a method of the table -/
theorem j_callV (F : jFx p R s m args c cc nL own D G α Z dd cells slots) {pc idx y : Nat} {M : jM} {a ci : Nat} {av rest : List Value} {ls : Array Slot} {σ σ' : jS} {r : Option Value} (h : jMM[y]? = some M) (hs : M.2.2.2.2.2.2 = 0) (hl : (own, idx, y) ∈ jLM ∨ (own, idx, y) ∈ jLN) (hn : M.2.2.2.2.2.1 = av.length) (hci : M.2.2.2.2.1 = ci) (hc10 : ci < 10) (hi : j_is ci a = true)
    (hM : jMt l α G D Z dd M (.ref a :: av) σ r σ') (hrm : (rest.map fun v => v.category).sum ≤ 8) (hsz : ls.size = nL) (hdg : decode cc pc = .ok (.invokevirtual idx, 3)) (hP : va_P D jcl (jP α G σ) H) (hS : va_S (jA α) s.heap H locs)
    (kk : ∀ (H1 : Heap) (locs1 : List Loc), va_P D jcl (jP α G σ') H1 → va_S (jA α) s.heap H1 locs1 → W p l e R s m args below meth c H1 locs1 cells slots Q (F0 m (pc + 3) ls ((r.map (tv α)).toList ++ rest.map (tv α)))) :
    W p l e R s m args below meth c H locs cells slots Q (F0 m pc ls ((av.map (tv α)).reverse ++ .ref (α a) :: rest.map (tv α))) := by
  have hsh := j_is_sh hi
  have hPa := jP_get (α := α) (G := G) (σ := σ) hsh
  obtain ⟨c1, c2, c3, c4, c5⟩ := jc_ok ci hc10
  obtain ⟨k1, k2, k3, k4, k5, k6, k7⟩ := jm_ok h
  have hcls : M.1.cls = jrr ci := by rw [← k5, hci, c5]
  obtain ⟨v1, v2⟩ := jm_virt h hs
  have hfit : cells + 0 ≤ R.cells ∧ slots + 0 ≤ R.slots := ⟨F.2.2.2.2.2.2.2.2.2.2.2.1, F.2.2.2.2.2.2.2.2.2.2.2.2⟩
  have hpv : PreV s H M.1.cls (α a) (jPc α G D Z σ ((Value.ref a :: av).map (tv α))) (av.map (tv α)) := by
    refine ⟨jPc_blind F.2.2.2.2.2.2.2.1 _ _, ?_, fun U hU hW => jPre F hS hP ((Value.ref a :: av).map (tv α)) U hU hW⟩
    rw [hcls]
    exact va_recv F.2.2.2.2.2.1 hP c1 hPa
  have hts := F.2.2.2.2.1
  have S : CallFix p m c cc nL s args jws (jon own) := ⟨F.1, F.2.1, F.2.2.1, F.2.2.2.1, hts⟩
  have hroom : 2 * (F0 m pc ls ((av.map (tv α)).reverse ++ .ref (α a) :: rest.map (tv α))).monitorRoom + ((rest.map (tv α)).map fun v => v.category).sum ≤ 8 := lv_room (by rw [tv_cats]; exact hrm)
  rcases hl with hl | hl
  · refine j_call (r := r) (va_runV (As := av.map (tv α)) (rest := rest.map (tv α)) S hM ⟨jCallB F h hl, hts _ v1, hts _ v2⟩ hpv rfl (by rw [List.length_map, hn]) hsz rfl hroom hdg hfit) hS kk
  · refine j_call (r := r) (va_runVN (As := av.map (tv α)) (rest := rest.map (tv α)) S hM ⟨jCallN F h hl, hts _ v1, hts _ v2⟩ hpv rfl (by rw [List.length_map, hn]) hsz rfl hroom hdg hfit) hS kk
/-- a static call of a method of the table -/
theorem j_callS (F : jFx p R s m args c cc nL own D G α Z dd cells slots) {pc idx y : Nat} {M : jM} {av rest : List Value} {ls : Array Slot} {σ σ' : jS} {r : Option Value} (h : jMM[y]? = some M) (hs : M.2.2.2.2.2.2 = 1) (hl : (own, idx, y) ∈ jLM ∨ (own, idx, y) ∈ jLN) (hn : M.2.2.2.2.2.1 = av.length)
    (hM : jMt l α G D Z dd M av σ r σ') (hrm : (rest.map fun v => v.category).sum ≤ 8) (hsz : ls.size = nL) (hdg : decode cc pc = .ok (.invokestatic idx, 3)) (hP : va_P D jcl (jP α G σ) H) (hS : va_S (jA α) s.heap H locs)
    (kk : ∀ (H1 : Heap) (locs1 : List Loc), va_P D jcl (jP α G σ') H1 → va_S (jA α) s.heap H1 locs1 → W p l e R s m args below meth c H1 locs1 cells slots Q (F0 m (pc + 3) ls ((r.map (tv α)).toList ++ rest.map (tv α)))) :
    W p l e R s m args below meth c H locs cells slots Q (F0 m pc ls ((av.map (tv α)).reverse ++ rest.map (tv α))) := by
  have v1 := jm_stat h hs
  have hfit : cells + 0 ≤ R.cells ∧ slots + 0 ≤ R.slots := ⟨F.2.2.2.2.2.2.2.2.2.2.2.1, F.2.2.2.2.2.2.2.2.2.2.2.2⟩
  have hpv : PreS s H (jPc α G D Z σ (av.map (tv α))) (av.map (tv α)) := ⟨jPc_blind F.2.2.2.2.2.2.2.1 _ _, fun U hU hW => jPre F hS hP (av.map (tv α)) U hU hW⟩
  have hts := F.2.2.2.2.1
  have S : CallFix p m c cc nL s args jws (jon own) := ⟨F.1, F.2.1, F.2.2.1, F.2.2.2.1, hts⟩
  have hroom : 2 * (F0 m pc ls ((av.map (tv α)).reverse ++ rest.map (tv α))).monitorRoom + ((rest.map (tv α)).map fun v => v.category).sum ≤ 8 := lv_room (by rw [tv_cats]; exact hrm)
  rcases hl with hl | hl
  · refine j_call (r := r) (va_runS (As := av.map (tv α)) (rest := rest.map (tv α)) S hM ⟨jCallB F h hl, hts _ v1⟩ hpv rfl (by rw [List.length_map, hn]) hsz rfl hroom hdg hfit) hS kk
  · refine j_call (r := r) (va_runSN (As := av.map (tv α)) (rest := rest.map (tv α)) S hM ⟨jCallN F h hl, hts _ v1, trivial⟩ hpv rfl (by rw [List.length_map, hn]) hsz rfl hroom hdg hfit) hS kk
end JCALL
end
section
/-! js_ok: an instruction that the small machine does, the Jvm does. -/
section JI
variable {p : Program} {l : Launch} {e : Env} {R : Room} {s : State} {m : MethodId} {args : Array Value} {below : List Frame} {meth : Method} {c : Code} {cells slots : Nat} {Q : State → Prop}
variable {cc : ByteArray} {nL own rt : Nat} {D : va_G} {G : jG} {α : Nat → Nat} {Z : State → Prop} {dd : Nat} {B : List jB} {C : Nat → List Value → jS → jR} {r : Option Value × jS} {scr : Bool}
/-- the walk from a frame of the machine -/
def jWk (p : Program) (l : Launch) (e : Env) (R : Room) (s : State) (m : MethodId) (args : Array Value) (below : List Frame) (meth : Method) (c : Code) (cells slots : Nat) (Q : State → Prop) (nL : Nat) (D : va_G) (G : jG) (α : Nat → Nat) (pc : Nat) (lv : jL) (st : List Value) (σ : jS) : Prop :=
  ∀ (ls : Array Slot) (H : Heap) (locs : List Loc), lv_has ls nL (tl α lv) → va_P D jcl (jP α G σ) H → va_S (jA α) s.heap H locs → W p l e R s m args below meth c H locs cells slots Q (F0 m pc ls (st.map (tv α)))
/-- what the walk takes from outside: contracts of the callees, the script, the Strings, the ends -/
def jHC (l : Launch) (α : Nat → Nat) (G : jG) (D : va_G) (Z : State → Prop) (dd : Nat) (C : Nat → List Value → jS → jR) : Prop := ∀ (y : Nat) (M : jM) (a : List Value) (σ : jS) (v : Option Value) (σ2 : jS), jMM[y]? = some M → C y a σ = some (v, σ2) → jMt l α G D Z dd M a σ v σ2
def jHS (s : State) (α : Nat → Nat) (scr : Bool) (C : Nat → List Value → jS → jR) : Prop := scr = true → ∃ (L : Nat) (xs : Nat → Int32), va_X (α 2000) L xs s s.heap ∧ α 2000 < s.heap.size ∧ ¬ jA α (α 2000) ∧ (∀ (i : Int32) (σ : jS) (w : Int32 × jS), r_I (C 9998 [.int i] σ) = some w → vp_in i L ∧ w = (xs i.toNatClampNeg, σ)) ∧ ∀ (σ : jS) (w : Int32 × jS), r_I (C 9999 [] σ) = some w → w = (Int32.ofNat L, σ)
def jHT (p : Program) (l : Launch) (e : Env) (R : Room) (s : State) (m : MethodId) (args : Array Value) (below : List Frame) (meth : Method) (c : Code) (cells slots : Nat) (Q : State → Prop) (cc : ByteArray) (nL own : Nat) (α : Nat → Nat) : Prop :=
  (∀ (pc idx a : Nat) (ls : Array Slot) (H : Heap) (locs : List Loc) (rest : List Value), ls.size = nL → (own, idx, a) ∈ jLS → decode cc pc = .ok (.ldc idx, 2) → va_S (jA α) s.heap H locs → W p l e R s m args below meth c H locs cells slots Q (F0 m (pc + 2) ls (.ref (α a) :: rest)) → W p l e R s m args below meth c H locs cells slots Q (F0 m pc ls rest)) ∧
  (∀ (pc idx a : Nat) (z : List Nat) (ls : Array Slot) (H : Heap) (locs : List Loc) (rest : List Value), ls.size = nL → (own, idx, 901) ∈ jLX → j_str a = some z → (rest.map fun v => v.category).sum ≤ 8 → decode cc pc = .ok (.invokevirtual idx, 3) → va_S (jA α) s.heap H locs → W p l e R s m args below meth c H locs cells slots Q (F0 m (pc + 3) ls (.int (Int32.ofNat z.length) :: rest)) → W p l e R s m args below meth c H locs cells slots Q (F0 m pc ls (.ref (α a) :: rest))) ∧
  (∀ (pc idx a : Nat) (z : List Nat) (i : Int32) (ls : Array Slot) (H : Heap) (locs : List Loc) (rest : List Value), ls.size = nL → (own, idx, 902) ∈ jLX → j_str a = some z → (rest.map fun v => v.category).sum ≤ 8 → ¬ (i < 0 ∨ z.length ≤ i.toNatClampNeg) → decode cc pc = .ok (.invokevirtual idx, 3) → va_S (jA α) s.heap H locs → W p l e R s m args below meth c H locs cells slots Q (F0 m (pc + 3) ls (.int (Int32.ofNat (z.getD i.toNatClampNeg 0)) :: rest)) → W p l e R s m args below meth c H locs cells slots Q (F0 m pc ls (.int i :: .ref (α a) :: rest))) ∧
  (∀ (pc idx a : Nat) (z : List Nat) (i : Int32) (ls : Array Slot) (H : Heap) (locs : List Loc) (rest : List Value), ls.size = nL → (own, idx, 903) ∈ jLX → j_str a = some z → (rest.map fun v => v.category).sum ≤ 8 → decode cc pc = .ok (.invokevirtual idx, 3) → va_S (jA α) s.heap H locs → W p l e R s m args below meth c H locs cells slots Q (F0 m (pc + 3) ls (.int (j_idx i z 0) :: rest)) → W p l e R s m args below meth c H locs cells slots Q (F0 m pc ls (.int i :: .ref (α a) :: rest)))
def jHR (p : Program) (l : Launch) (e : Env) (R : Room) (s : State) (m : MethodId) (args : Array Value) (below : List Frame) (meth : Method) (c : Code) (cells slots : Nat) (Q : State → Prop) (cc : ByteArray) (rt : Nat) (D : va_G) (G : jG) (α : Nat → Nat) (r : Option Value × jS) : Prop :=
  ∀ (pc : Nat) (ls : Array Slot) (H : Heap) (locs : List Loc), va_P D jcl (jP α G r.2) H → va_S (jA α) s.heap H locs →
    (∀ v, r.1 = some (.int v) → (rt = 1 ∨ rt = 2 ∧ (v = 0 ∨ v = 1)) → decode cc pc = .ok (.ireturn, 1) → W p l e R s m args below meth c H locs cells slots Q (F0 m pc ls [.int v])) ∧
    (∀ v, r.1 = some (.long v) → rt = 3 → decode cc pc = .ok (.lreturn, 1) → W p l e R s m args below meth c H locs cells slots Q (F0 m pc ls [.long v])) ∧
    (r.1 = none → rt = 0 → decode cc pc = .ok (.return_, 1) → W p l e R s m args below meth c H locs cells slots Q (F0 m pc ls []))
theorem contains_s {α : Type} [BEq α] [LawfulBEq α] {l : List α} {a : α} (h : l.contains a = true) : a ∈ l := List.contains_iff_mem.mp h
theorem j_rdI_s {z : Nat} {σ : jS} {a : Nat} {i x : Int32} (h : j_rdI z σ a i = some x) : ∃ n, jSH[a]? = some (.inl (z, n)) ∧ vp_in i n ∧ x = σ.1 a i.toNatClampNeg := by
  unfold j_rdI at h
  obtain ⟨n, hn, h⟩ := Option.bind_eq_some_iff.mp h
  by_cases hc : i < 0 ∨ n ≤ i.toNatClampNeg
  · rw [if_pos hc] at h; cases h
  · rw [if_neg hc] at h; cases h
    exact ⟨n, j_len_sh hn, hc, rfl⟩
theorem j_rdL_s {σ : jS} {a : Nat} {i : Int32} {x : Int64} (h : j_rdL σ a i = some x) : ∃ n, jSH[a]? = some (.inl (2, n)) ∧ vp_in i n ∧ x = σ.2.1 a i.toNatClampNeg := by
  unfold j_rdL at h
  obtain ⟨n, hn, h⟩ := Option.bind_eq_some_iff.mp h
  by_cases hc : i < 0 ∨ n ≤ i.toNatClampNeg
  · rw [if_pos hc] at h; cases h
  · rw [if_neg hc] at h; cases h
    exact ⟨n, j_len_sh hn, hc, rfl⟩
theorem j_wrI_s {σ σ' : jS} {a : Nat} {i x : Int32} (h : j_wrI σ a i x = some σ') : ∃ n, jSH[a]? = some (.inl (0, n)) ∧ vp_in i n ∧ σ' = j_setI σ a i.toNatClampNeg x := by
  unfold j_wrI at h
  obtain ⟨n, hn, h⟩ := Option.bind_eq_some_iff.mp h
  by_cases hc : i < 0 ∨ n ≤ i.toNatClampNeg
  · rw [if_pos hc] at h; cases h
  · rw [if_neg hc] at h; cases h
    exact ⟨n, j_len_sh hn, hc, rfl⟩
theorem j_wrZ_s {σ σ' : jS} {a : Nat} {i x : Int32} (h : j_wrZ σ a i x = some σ') : ∃ n, jSH[a]? = some (.inl (1, n)) ∧ vp_in i n ∧ (x = 0 ∨ x = 1) ∧ σ' = j_setI σ a i.toNatClampNeg x := by
  unfold j_wrZ at h
  obtain ⟨n, hn, h⟩ := Option.bind_eq_some_iff.mp h
  by_cases hc : i < 0 ∨ n ≤ i.toNatClampNeg
  · rw [if_pos hc] at h; cases h
  · rw [if_neg hc] at h
    by_cases hx : x = 0 ∨ x = 1
    · rw [if_pos hx] at h; cases h
      exact ⟨n, j_len_sh hn, hc, hx, rfl⟩
    · rw [if_neg hx] at h; cases h
theorem j_wrL_s {σ σ' : jS} {a : Nat} {i : Int32} {x : Int64} (h : j_wrL σ a i x = some σ') : ∃ n, jSH[a]? = some (.inl (2, n)) ∧ vp_in i n ∧ σ' = j_setL σ a i.toNatClampNeg x := by
  unfold j_wrL at h
  obtain ⟨n, hn, h⟩ := Option.bind_eq_some_iff.mp h
  by_cases hc : i < 0 ∨ n ≤ i.toNatClampNeg
  · rw [if_pos hc] at h; cases h
  · rw [if_neg hc] at h; cases h
    exact ⟨n, j_len_sh hn, hc, rfl⟩
theorem j_setI_ne {σ : jS} {a k b : Nat} {v : Int32} (h : b ≠ a) : (j_setI σ a k v).1 b = σ.1 b := by
  funext j
  show (if b = a ∧ j = k then v else σ.1 b j) = _
  rw [if_neg (fun q => h q.1)]
theorem j_setL_ne {σ : jS} {a k b : Nat} {v : Int64} (h : b ≠ a) : (j_setL σ a k v).2.1 b = σ.2.1 b := by
  funext j
  show (if b = a ∧ j = k then v else σ.2.1 b j) = _
  rw [if_neg (fun q => h q.1)]
theorem j_setR_ne {σ : jS} {a k b v : Nat} (h : b ≠ a) : (j_setR σ a k v).2.2 b = σ.2.2 b := by
  funext j
  show (if b = a ∧ j = k then v else σ.2.2 b j) = _
  rw [if_neg (fun q => h q.1)]
theorem j_setI_arr (σ : jS) (a k : Nat) (v : Int32) : (j_setI σ a k v).1 a = upd (σ.1 a) k v := by
  funext j
  show (if a = a ∧ j = k then v else σ.1 a j) = if j = k then v else σ.1 a j
  simp
theorem j_setL_arr (σ : jS) (a k : Nat) (v : Int64) : (j_setL σ a k v).2.1 a = vp_updL (σ.2.1 a) k v := by
  funext j
  show (if a = a ∧ j = k then v else σ.2.1 a j) = if j = k then v else σ.2.1 a j
  simp
theorem jP_setI {α : Nat → Nat} {G : jG} {σ : jS} {a n k : Nat} {x : Int32} (z : Nat) (hz : z = 0 ∨ z = 1) (h : jSH[a]? = some (.inl (z, n))) : (jP α G σ).set a (α a, .inl (j_ac G z, n, .inl (upd (σ.1 a) k x))) = jP α G (j_setI σ a k x) := by
  refine jP_set h (fun b hb => j_setI_ne hb) (fun _ _ => rfl) (fun _ _ => rfl) ?_
  rcases hz with rfl | rfl
  · show _ = Sum.inl (_, _, _)
    simp only [j_setI_arr]
  · show _ = Sum.inl (_, _, _)
    simp only [j_setI_arr]
theorem jP_setL {α : Nat → Nat} {G : jG} {σ : jS} {a n k : Nat} {x : Int64} (h : jSH[a]? = some (.inl (2, n))) : (jP α G σ).set a (α a, .inl (j_ac G 2, n, .inr (.inl (vp_updL (σ.2.1 a) k x)))) = jP α G (j_setL σ a k x) := by
  refine jP_set h (fun _ _ => rfl) (fun b hb => j_setL_ne hb) (fun _ _ => rfl) ?_
  show _ = Sum.inl (_, _, _)
  simp only [j_setL_arr]
theorem vp_nar_b {x : Int32} (h : x = 0 ∨ x = 1) : vp_nar .boolean x = x ∧ narrow .boolean (.int x) = .int x ∧ fits .boolean (.int x) = true := by
  rcases h with rfl | rfl <;> exact ⟨by decide, by decide, by decide⟩
theorem jfk_s {ci f k : Nat} (h : (j_fk ci)[f]? = some k) : ci < 10 ∧ f < jnn ci ∧ (k = 0 → jyy ci f = .int ∧ (jtt ci f).2.2.2 = false) ∧ (k = 1 → jyy ci f = .boolean ∧ (jtt ci f).2.2.2 = false) ∧ (k = 2 → jyy ci f = .long ∧ (jtt ci f).2.2.2 = false) ∧ (k = 3 → jyy ci f = .object (jrr 6) ∧ (jtt ci f).2.2.2 = false) := by
  have hl := (List.getElem?_eq_some_iff.mp h).1
  have hci : ci < 10 := jfk_len ci (by omega)
  have h1 := List.all_eq_true.mp jfk_all ci (List.mem_range.mpr hci)
  have h2 := List.all_eq_true.mp h1 f (List.mem_range.mpr hl)
  have hg : (j_fk ci).getD f 9 = k := by rw [List.getD_eq_getElem?_getD, h]; rfl
  unfold jfk_b at h2
  rw [hg] at h2
  simp only [Bool.and_eq_true, decide_eq_true_eq] at h2
  refine ⟨hci, h2.1, ?_, ?_, ?_, ?_⟩
  all_goals
    intro hk
    subst hk
    have h3 := h2.2
    simp only [Bool.and_eq_true, decide_eq_true_eq, Bool.not_eq_true'] at h3
    exact h3
end JI
end
section
section JS
variable {p : Program} {l : Launch} {e : Env} {R : Room} {s : State} {m : MethodId} {args : Array Value} {below : List Frame} {meth : Method} {c : Code} {cells slots : Nat} {Q : State → Prop}
variable {cc : ByteArray} {nL own rt : Nat} {D : va_G} {G : jG} {α : Nat → Nat} {Z : State → Prop} {dd : Nat} {B : List jB} {C : Nat → List Value → jS → jR} {r : Option Value × jS} {scr : Bool}
theorem j_ret_s {rk : Nat} {x : jR} {lv : jL} {st : List Value} {k : jL → List Value → jS → jR} {r : Option Value × jS} (h : j_ret rk x lv st k = some r) : ∃ (v : Option Value) (σ' : jS), x = some (v, σ') ∧ k lv (v.toList ++ st) σ' = some r ∧ (∀ α, (v.map (tv α)).toList = v.toList) := by
  unfold j_ret at h
  split at h
  · obtain ⟨q, hq, h⟩ := Option.bind_eq_some_iff.mp h
    unfold r_V at hq
    split at hq
    · cases hq; exact ⟨none, _, rfl, h, fun _ => rfl⟩
    · cases hq
  · obtain ⟨q, hq, h⟩ := Option.bind_eq_some_iff.mp h
    unfold r_I at hq
    split at hq
    · cases hq; exact ⟨some (.int _), _, rfl, h, fun _ => rfl⟩
    · cases hq
  · obtain ⟨q, hq, h⟩ := Option.bind_eq_some_iff.mp h
    unfold r_L at hq
    split at hq
    · cases hq; exact ⟨some (.long _), _, rfl, h, fun _ => rfl⟩
    · cases hq
  · cases h
theorem cond_s {α : Type} {b : Bool} {x : Option α} {y : α} (h : cond b x none = some y) : b = true ∧ x = some y := by
  cases b with
  | true => exact ⟨rfl, h⟩
  | false => cases h
theorem ble_s {a b : Nat} (h : Nat.ble a b = true) : a ≤ b := Nat.le_of_ble_eq_true h
theorem jP_put {α : Nat → Nat} {G : jG} {σ σ' : jS} {a ci f k : Nat} {v : Value} (hsh : jSH[a]? = some (.inr ci)) (hfk : (j_fk ci)[f]? = some k) (h1 : ∀ b, b ≠ a → σ'.1 b = σ.1 b) (h2 : ∀ b, b ≠ a → σ'.2.1 b = σ.2.1 b) (h3 : ∀ b, b ≠ a → σ'.2.2 b = σ.2.2 b) (g1 : ∀ j, j ≠ f → σ'.1 a j = σ.1 a j) (g2 : ∀ j, j ≠ f → σ'.2.1 a j = σ.2.1 a j) (g3 : ∀ j, j ≠ f → σ'.2.2 a j = σ.2.2 a j) (hv : v = jfv α σ' a f k) :
    (jP α G σ).set a (α a, .inr (ci, (j_fs α σ a ci).set f v)) = jP α G σ' := by
  refine jP_set hsh h1 h2 h3 ?_
  show Sum.inr (ci, _) = Sum.inr (ci, _)
  rw [j_fs_set hfk hv g1 g2 g3]
theorem jP_putI {α : Nat → Nat} {G : jG} {σ : jS} {a ci f k : Nat} {x : Int32} (hsh : jSH[a]? = some (.inr ci)) (hfk : (j_fk ci)[f]? = some k) (hk : k = 0 ∨ k = 1) : (jP α G σ).set a (α a, .inr (ci, (j_fs α σ a ci).set f (.int x))) = jP α G (j_setI σ a f x) := by
  refine jP_put hsh hfk (fun b hb => j_setI_ne hb) (fun _ _ => rfl) (fun _ _ => rfl) (fun j hj => ?_) (fun _ _ => rfl) (fun _ _ => rfl) ?_
  · show (if a = a ∧ j = f then x else σ.1 a j) = _
    rw [if_neg (fun q => hj q.2)]
  · have e : (j_setI σ a f x).1 a f = x := by
      show (if a = a ∧ f = f then x else σ.1 a f) = x
      rw [if_pos ⟨rfl, rfl⟩]
    rcases hk with rfl | rfl
    · show _ = Value.int ((j_setI σ a f x).1 a f)
      rw [e]
    · show _ = Value.int ((j_setI σ a f x).1 a f)
      rw [e]
theorem jP_putL {α : Nat → Nat} {G : jG} {σ : jS} {a ci f : Nat} {x : Int64} (hsh : jSH[a]? = some (.inr ci)) (hfk : (j_fk ci)[f]? = some 2) : (jP α G σ).set a (α a, .inr (ci, (j_fs α σ a ci).set f (.long x))) = jP α G (j_setL σ a f x) := by
  refine jP_put hsh hfk (fun _ _ => rfl) (fun b hb => j_setL_ne hb) (fun _ _ => rfl) (fun _ _ => rfl) (fun j hj => ?_) (fun _ _ => rfl) ?_
  · show (if a = a ∧ j = f then x else σ.2.1 a j) = _
    rw [if_neg (fun q => hj q.2)]
  · have e : (j_setL σ a f x).2.1 a f = x := by
      show (if a = a ∧ f = f then x else σ.2.1 a f) = x
      rw [if_pos ⟨rfl, rfl⟩]
    show _ = Value.long ((j_setL σ a f x).2.1 a f)
    rw [e]
theorem jP_putR {α : Nat → Nat} {G : jG} {σ : jS} {a ci f x : Nat} (hsh : jSH[a]? = some (.inr ci)) (hfk : (j_fk ci)[f]? = some 3) : (jP α G σ).set a (α a, .inr (ci, (j_fs α σ a ci).set f (.ref (α x)))) = jP α G (j_setR σ a f x) := by
  refine jP_put hsh hfk (fun _ _ => rfl) (fun _ _ => rfl) (fun b hb => j_setR_ne hb) (fun _ _ => rfl) (fun _ _ => rfl) (fun j hj => ?_) ?_
  · show (if a = a ∧ j = f then x else σ.2.2 a j) = _
    rw [if_neg (fun q => hj q.2)]
  · have e : (j_setR σ a f x).2.2 a f = x := by
      show (if a = a ∧ f = f then x else σ.2.2 a f) = x
      rw [if_pos ⟨rfl, rfl⟩]
    show _ = Value.ref (α ((j_setR σ a f x).2.2 a f))
    rw [e]
theorem jP_cpy {α : Nat → Nat} {G : jG} {σ : jS} {a0 sp a1 dp n n1 : Nat} (h : jSH[a1]? = some (.inl (0, n1))) : (jP α G σ).set a1 (α a1, .inl (j_ac G 0, n1, .inl (va_cpy (σ.1 a0) (σ.1 a1) sp dp n))) = jP α G (j_cpy σ a0 sp a1 dp n) := by
  refine jP_set h (fun b hb => ?_) (fun _ _ => rfl) (fun _ _ => rfl) ?_
  · funext j
    show (if b = a1 ∧ dp ≤ j ∧ j < dp + n then σ.1 a0 (sp + (j - dp)) else σ.1 b j) = _
    rw [if_neg (fun q => hb q.1)]
  · show Sum.inl (_, _, Sum.inl _) = Sum.inl (_, _, Sum.inl _)
    congr 3
    congr 1
    funext j
    show (if dp ≤ j ∧ j < dp + n then _ else _) = (if a1 = a1 ∧ dp ≤ j ∧ j < dp + n then _ else _)
    simp
theorem map_toList (α : Nat → Nat) (v : Option Value) (st : List Value) : (v.toList ++ st).map (tv α) = (v.map (tv α)).toList ++ st.map (tv α) := by
  cases v <;> rfl
set_option maxHeartbeats 8000000 in
theorem js_ok (F : jFx p R s m args c cc nL own D G α Z dd cells slots) (hC : jHC l α G D Z dd C) (hSc : jHS s α scr C) (hT : jHT p l e R s m args below meth c cells slots Q cc nL own α) (hR : jHR p l e R s m args below meth c cells slots Q cc rt D G α r)
    {K : Nat → jL → List Value → jS → jR} (hK : ∀ j lv st σ q, K j lv st σ = some r → jpc B j = some q → jWk p l e R s m args below meth c cells slots Q nL D G α q lv st σ)
    {i : Instr} {ex : List Nat} {pc : Nat} (hok : okI scr own nL B pc i ex = true) (hd0 : ∃ len, decode cc pc = .ok (i, len)) (hd : j_switch i = false → decode cc pc = .ok (i, jlen i)) {k : jL → List Value → jS → jR} {lv : jL} {st : List Value} {σ : jS} (h : js C rt K i ex lv st σ k = some r)
    (hk : j_switch i = false → j_term i = false → ∀ lv st σ, k lv st σ = some r → jWk p l e R s m args below meth c cells slots Q nL D G α (pc + jlen i) lv st σ) :
    jWk p l e R s m args below meth c cells slots Q nL D G α pc lv st σ := by
  obtain ⟨hx, hb, hml, hown, hts, hKw, hZ, hz, hα, hfr, hlo, hcell, hslot⟩ := id F
  have hDD : ∀ σ : jS, va_D (jA α) (jP α G σ) := fun σ => jP_D hα
  intro ls H locs hl hP hS
  cases i
  case iconst n => exact lv_iconst hx hb (hd rfl) rfl (hk rfl rfl _ _ _ h ls H locs hl hP hS)
  case bipush n => exact lv_bipush hx hb (hd rfl) rfl (hk rfl rfl _ _ _ h ls H locs hl hP hS)
  case sipush n => exact lv_sipush hx hb (hd rfl) rfl (hk rfl rfl _ _ _ h ls H locs hl hP hS)
  case lconst n => exact lv_lconst hx hb (hd rfl) rfl (hk rfl rfl _ _ _ h ls H locs hl hP hS)
  case ldc n =>
    rcases ex with _ | ⟨v, _ | ⟨w, _ | ⟨u, _⟩⟩⟩
    · cases h
    · have hw := hts _ (jwC_g _ (List.mem_map.mpr ⟨_, contains_s hok, rfl⟩))
      exact lv_ldc hx hb hown hw (hd rfl) (hk rfl rfl _ _ _ h ls H locs hl hP hS)
    · exact hT.1 pc n v ls H locs _ hl.1 (contains_s hok) (hd rfl) hS (hk rfl rfl _ _ _ h ls H locs hl hP hS)
    · cases h
  case ldc_w n =>
    rcases ex with _ | ⟨v, _ | ⟨w, _⟩⟩
    · cases h
    · have hw := hts _ (jwC_g _ (List.mem_map.mpr ⟨_, contains_s hok, rfl⟩))
      exact lv_ldcw hx hb hown hw (hd rfl) (hk rfl rfl _ _ _ h ls H locs hl hP hS)
    · cases h
  case ldc2_w n =>
    rcases ex with _ | ⟨v, _ | ⟨w, _⟩⟩
    · cases h
    · have hw := hts _ (jwJ_g _ (List.mem_map.mpr ⟨_, contains_s hok, rfl⟩))
      exact lv_ldc2 hx hb hown hw (hd rfl) (hk rfl rfl _ _ _ h ls H locs hl hP hS)
    · cases h
  case iload_n n =>
    obtain ⟨x, hq, hh⟩ := Option.bind_eq_some_iff.mp h; clear h; have h := hh; clear hh
    exact lv_iload_n hx hb (hd rfl) rfl (j_at_ls (j_atI_s hq) hl) (hk rfl rfl _ _ _ h ls H locs hl hP hS)
  case iload n =>
    obtain ⟨x, hq, hh⟩ := Option.bind_eq_some_iff.mp h; clear h; have h := hh; clear hh
    exact lv_iload hx hb (hd rfl) (j_at_ls (j_atI_s hq) hl) (hk rfl rfl _ _ _ h ls H locs hl hP hS)
  case lload_n n =>
    obtain ⟨x, hq, hh⟩ := Option.bind_eq_some_iff.mp h; clear h; have h := hh; clear hh
    exact lv_lload_n hx hb (hd rfl) rfl (j_at_ls (j_atL_s hq) hl) (hk rfl rfl _ _ _ h ls H locs hl hP hS)
  case lload n =>
    obtain ⟨x, hq, hh⟩ := Option.bind_eq_some_iff.mp h; clear h; have h := hh; clear hh
    exact lv_lload hx hb (hd rfl) (j_at_ls (j_atL_s hq) hl) (hk rfl rfl _ _ _ h ls H locs hl hP hS)
  case aload_n n =>
    obtain ⟨x, hq, hh⟩ := Option.bind_eq_some_iff.mp h; clear h; have h := hh; clear hh
    exact lv_aload_n hx hb (hd rfl) rfl (j_at_ls (j_atR_s hq) hl) (hk rfl rfl _ _ _ h ls H locs hl hP hS)
  case aload n =>
    obtain ⟨x, hq, hh⟩ := Option.bind_eq_some_iff.mp h; clear h; have h := hh; clear hh
    exact lv_aload hx hb (hd rfl) (j_at_ls (j_atR_s hq) hl) (hk rfl rfl _ _ _ h ls H locs hl hP hS)
  case istore_n n =>
    obtain ⟨q, hq, hh⟩ := Option.bind_eq_some_iff.mp h; clear h; have h := hh; clear hh
    have e := p_I_s hq
    subst e
    exact lv_istore_n hx hb (hd rfl) rfl hl (decide_eq_true_eq.mp hok) (tl_st1 α lv _ (.int q.1)) (fun ls' hl' => hk rfl rfl _ _ _ h ls' H locs hl' hP hS)
  case istore n =>
    obtain ⟨q, hq, hh⟩ := Option.bind_eq_some_iff.mp h; clear h; have h := hh; clear hh
    have e := p_I_s hq
    subst e
    exact lv_istore hx hb (hd rfl) hl (decide_eq_true_eq.mp hok) (tl_st1 α lv _ (.int q.1)) (fun ls' hl' => hk rfl rfl _ _ _ h ls' H locs hl' hP hS)
  case lstore_n n =>
    obtain ⟨q, hq, hh⟩ := Option.bind_eq_some_iff.mp h; clear h; have h := hh; clear hh
    have e := p_L_s hq
    subst e
    exact lv_lstore_n hx hb (hd rfl) rfl hl (decide_eq_true_eq.mp hok) (tl_st2 α lv _ (.long q.1)) (fun ls' hl' => hk rfl rfl _ _ _ h ls' H locs hl' hP hS)
  case lstore n =>
    obtain ⟨q, hq, hh⟩ := Option.bind_eq_some_iff.mp h; clear h; have h := hh; clear hh
    have e := p_L_s hq
    subst e
    exact lv_lstore hx hb (hd rfl) hl (decide_eq_true_eq.mp hok) (tl_st2 α lv _ (.long q.1)) (fun ls' hl' => hk rfl rfl _ _ _ h ls' H locs hl' hP hS)
  case astore_n n =>
    obtain ⟨q, hq, hh⟩ := Option.bind_eq_some_iff.mp h; clear h; have h := hh; clear hh
    have e := p_R_s hq
    subst e
    exact lv_astore_n hx hb (hd rfl) rfl hl (decide_eq_true_eq.mp hok) (tl_st1 α lv _ (.ref q.1)) (fun ls' hl' => hk rfl rfl _ _ _ h ls' H locs hl' hP hS)
  case astore n =>
    obtain ⟨q, hq, hh⟩ := Option.bind_eq_some_iff.mp h; clear h; have h := hh; clear hh
    have e := p_R_s hq
    subst e
    exact lv_astore hx hb (hd rfl) hl (decide_eq_true_eq.mp hok) (tl_st1 α lv _ (.ref q.1)) (fun ls' hl' => hk rfl rfl _ _ _ h ls' H locs hl' hP hS)
  case iinc n cst =>
    obtain ⟨x, hq, hh⟩ := Option.bind_eq_some_iff.mp h; clear h; have h := hh; clear hh
    have hm := j_at_mem (j_atI_s hq)
    have hm2 : (n, Value.int x) ∈ tl α lv := List.mem_map.mpr ⟨_, hm, rfl⟩
    obtain ⟨kk, hkk⟩ := List.getElem?_of_mem hm2
    exact lv_iinc hx hb (hd rfl) hl hkk rfl (decide_eq_true_eq.mp hok) (tl_st1 α lv _ (.int (x + Int32.ofInt cst))) (fun ls' hl' => hk rfl rfl _ _ _ h ls' H locs hl' hP hS)
  case iadd =>
    obtain ⟨q, hq, hh⟩ := Option.bind_eq_some_iff.mp h; clear h; have h := hh; clear hh
    have e := p_II_s hq
    subst e
    exact lv_iadd hx hb (hd rfl) (hk rfl rfl _ _ _ h ls H locs hl hP hS)
  case isub =>
    obtain ⟨q, hq, hh⟩ := Option.bind_eq_some_iff.mp h; clear h; have h := hh; clear hh
    have e := p_II_s hq
    subst e
    exact lv_isub hx hb (hd rfl) (hk rfl rfl _ _ _ h ls H locs hl hP hS)
  case imul =>
    obtain ⟨q, hq, hh⟩ := Option.bind_eq_some_iff.mp h; clear h; have h := hh; clear hh
    have e := p_II_s hq
    subst e
    exact lv_imul hx hb (hd rfl) (hk rfl rfl _ _ _ h ls H locs hl hP hS)
  case iand =>
    obtain ⟨q, hq, hh⟩ := Option.bind_eq_some_iff.mp h; clear h; have h := hh; clear hh
    have e := p_II_s hq
    subst e
    exact lv_iand hx hb (hd rfl) (hk rfl rfl _ _ _ h ls H locs hl hP hS)
  case ior =>
    obtain ⟨q, hq, hh⟩ := Option.bind_eq_some_iff.mp h; clear h; have h := hh; clear hh
    have e := p_II_s hq
    subst e
    exact lv_ior hx hb (hd rfl) (hk rfl rfl _ _ _ h ls H locs hl hP hS)
  case ishl =>
    obtain ⟨q, hq, hh⟩ := Option.bind_eq_some_iff.mp h; clear h; have h := hh; clear hh
    have e := p_II_s hq
    subst e
    exact lv_ishl hx hb (hd rfl) (hk rfl rfl _ _ _ h ls H locs hl hP hS)
  case ishr =>
    obtain ⟨q, hq, hh⟩ := Option.bind_eq_some_iff.mp h; clear h; have h := hh; clear hh
    have e := p_II_s hq
    subst e
    exact lv_ishr hx hb (hd rfl) (hk rfl rfl _ _ _ h ls H locs hl hP hS)
  case iushr =>
    obtain ⟨q, hq, hh⟩ := Option.bind_eq_some_iff.mp h; clear h; have h := hh; clear hh
    have e := p_II_s hq
    subst e
    exact lv_iushr hx hb (hd rfl) rfl (hk rfl rfl _ _ _ h ls H locs hl hP hS)
  case idiv =>
    obtain ⟨q, hq, hh⟩ := Option.bind_eq_some_iff.mp h; clear h; have h := hh; clear hh
    have e := p_II_s hq
    subst e
    by_cases h0 : q.2.1 = 0
    · rw [if_pos h0] at h; cases h
    · rw [if_neg h0] at h
      exact lv_idiv hx hb (hd rfl) h0 (hk rfl rfl _ _ _ h ls H locs hl hP hS)
  case irem =>
    obtain ⟨q, hq, hh⟩ := Option.bind_eq_some_iff.mp h; clear h; have h := hh; clear hh
    have e := p_II_s hq
    subst e
    by_cases h0 : q.2.1 = 0
    · rw [if_pos h0] at h; cases h
    · rw [if_neg h0] at h
      exact lv_irem hx hb (hd rfl) h0 (hk rfl rfl _ _ _ h ls H locs hl hP hS)
  case ladd =>
    obtain ⟨q, hq, hh⟩ := Option.bind_eq_some_iff.mp h; clear h; have h := hh; clear hh
    have e := p_LL_s hq
    subst e
    exact lv_ladd hx hb (hd rfl) (hk rfl rfl _ _ _ h ls H locs hl hP hS)
  case lsub =>
    obtain ⟨q, hq, hh⟩ := Option.bind_eq_some_iff.mp h; clear h; have h := hh; clear hh
    have e := p_LL_s hq
    subst e
    exact lv_lsub hx hb (hd rfl) (hk rfl rfl _ _ _ h ls H locs hl hP hS)
  case lmul =>
    obtain ⟨q, hq, hh⟩ := Option.bind_eq_some_iff.mp h; clear h; have h := hh; clear hh
    have e := p_LL_s hq
    subst e
    exact lv_lmul hx hb (hd rfl) (hk rfl rfl _ _ _ h ls H locs hl hP hS)
  case land =>
    obtain ⟨q, hq, hh⟩ := Option.bind_eq_some_iff.mp h; clear h; have h := hh; clear hh
    have e := p_LL_s hq
    subst e
    exact lv_land hx hb (hd rfl) (hk rfl rfl _ _ _ h ls H locs hl hP hS)
  case lor =>
    obtain ⟨q, hq, hh⟩ := Option.bind_eq_some_iff.mp h; clear h; have h := hh; clear hh
    have e := p_LL_s hq
    subst e
    exact lv_lor hx hb (hd rfl) (hk rfl rfl _ _ _ h ls H locs hl hP hS)
  case ldiv =>
    obtain ⟨q, hq, hh⟩ := Option.bind_eq_some_iff.mp h; clear h; have h := hh; clear hh
    have e := p_LL_s hq
    subst e
    by_cases h0 : q.2.1 = 0
    · rw [if_pos h0] at h; cases h
    · rw [if_neg h0] at h
      exact lv_ldiv hx hb (hd rfl) h0 (hk rfl rfl _ _ _ h ls H locs hl hP hS)
  case lrem =>
    obtain ⟨q, hq, hh⟩ := Option.bind_eq_some_iff.mp h; clear h; have h := hh; clear hh
    have e := p_LL_s hq
    subst e
    by_cases h0 : q.2.1 = 0
    · rw [if_pos h0] at h; cases h
    · rw [if_neg h0] at h
      exact lv_lrem hx hb (hd rfl) h0 (hk rfl rfl _ _ _ h ls H locs hl hP hS)
  case lneg =>
    obtain ⟨q, hq, hh⟩ := Option.bind_eq_some_iff.mp h; clear h; have h := hh; clear hh
    have e := p_L_s hq
    subst e
    exact lv_lneg hx hb (hd rfl) (hk rfl rfl _ _ _ h ls H locs hl hP hS)
  case lcmp =>
    obtain ⟨q, hq, hh⟩ := Option.bind_eq_some_iff.mp h; clear h; have h := hh; clear hh
    have e := p_LL_s hq
    subst e
    exact W.lcmp hx hb (hd rfl) (hk rfl rfl _ _ _ h ls H locs hl hP hS)
  case lshl =>
    obtain ⟨q, hq, hh⟩ := Option.bind_eq_some_iff.mp h; clear h; have h := hh; clear hh
    have e := p_LI_s hq
    subst e
    exact lv_lshl hx hb (hd rfl) rfl (hk rfl rfl _ _ _ h ls H locs hl hP hS)
  case lshr =>
    obtain ⟨q, hq, hh⟩ := Option.bind_eq_some_iff.mp h; clear h; have h := hh; clear hh
    have e := p_LI_s hq
    subst e
    exact lv_lshr hx hb (hd rfl) rfl (hk rfl rfl _ _ _ h ls H locs hl hP hS)
  case lushr =>
    obtain ⟨q, hq, hh⟩ := Option.bind_eq_some_iff.mp h; clear h; have h := hh; clear hh
    have e := p_LI_s hq
    subst e
    exact lv_lushr hx hb (hd rfl) rfl (hk rfl rfl _ _ _ h ls H locs hl hP hS)
  case i2l =>
    obtain ⟨q, hq, hh⟩ := Option.bind_eq_some_iff.mp h; clear h; have h := hh; clear hh
    have e := p_I_s hq
    subst e
    exact lv_i2l hx hb (hd rfl) rfl (hk rfl rfl _ _ _ h ls H locs hl hP hS)
  case l2i =>
    obtain ⟨q, hq, hh⟩ := Option.bind_eq_some_iff.mp h; clear h; have h := hh; clear hh
    have e := p_L_s hq
    subst e
    exact lv_l2i hx hb (hd rfl) rfl (hk rfl rfl _ _ _ h ls H locs hl hP hS)
  case i2c =>
    obtain ⟨q, hq, hh⟩ := Option.bind_eq_some_iff.mp h; clear h; have h := hh; clear hh
    have e := p_I_s hq
    subst e
    exact lv_i2c hx hb (hd rfl) rfl (hk rfl rfl _ _ _ h ls H locs hl hP hS)
  case dup =>
    obtain ⟨q, hq, hh⟩ := Option.bind_eq_some_iff.mp h; clear h; have h := hh; clear hh
    obtain ⟨e, hc1⟩ := p_1_s hq
    subst e
    exact lv_dup hx hb (hd rfl) (by rw [tv_cat]; exact hc1) (hk rfl rfl _ _ _ h ls H locs hl hP hS)
  case pop =>
    obtain ⟨q, hq, hh⟩ := Option.bind_eq_some_iff.mp h; clear h; have h := hh; clear hh
    obtain ⟨e, hc1⟩ := p_1_s hq
    subst e
    exact lv_pop hx hb (hd rfl) (by rw [tv_cat]; exact hc1) (hk rfl rfl _ _ _ h ls H locs hl hP hS)
  case dup2 =>
    obtain ⟨q, hq, hh⟩ := Option.bind_eq_some_iff.mp h; clear h; have h := hh; clear hh
    obtain ⟨e, hc1, hc2⟩ := p_11_s hq
    subst e
    exact lv_dup2_11 hx hb (hd rfl) (by rw [tv_cat]; exact hc2) (by rw [tv_cat]; exact hc1) (hk rfl rfl _ _ _ h ls H locs hl hP hS)
  case iaload =>
    rcases ex with _ | ⟨y, _ | ⟨w, _⟩⟩
    · obtain ⟨q, hq, hh⟩ := Option.bind_eq_some_iff.mp h; clear h; have h := hh; clear hh
      obtain ⟨x, hr, hh⟩ := Option.bind_eq_some_iff.mp h; clear h; have h := hh; clear hh
      have e := p_RI_s hq
      subst e
      obtain ⟨n, hn, hin, e⟩ := j_rdI_s hr
      subst e
      exact va_iald hx hb hKw hP q.1 0 (jP_get hn) rfl hin (hd rfl) (hk rfl rfl _ _ _ h ls H locs hl hP hS)
    · obtain ⟨q, hq, hh⟩ := Option.bind_eq_some_iff.mp h; clear h; have h := hh; clear hh
      obtain ⟨h20, hh⟩ := cond_s h; clear h; have h := hh; clear hh
      obtain ⟨w, hw, hh⟩ := Option.bind_eq_some_iff.mp h; clear h; have h := hh; clear hh
      have e := p_RI_s hq
      subst e
      have hok : (scr && decide (y = 9998)) = true := hok
      rw [Bool.and_eq_true, decide_eq_true_eq] at hok
      obtain ⟨hs1, hs2⟩ := hok
      subst hs2
      obtain ⟨L, xs, hX, hbl, hbA, hrd, -⟩ := hSc hs1
      obtain ⟨hin, e⟩ := hrd _ _ _ hw
      subst e
      have e2 : q.1 = 2000 := beq_iff_eq.mp h20
      show W p l e R s m args below meth c H locs cells slots Q (F0 m pc ls (.int q.2.1 :: .ref (α q.1) :: q.2.2.map (tv α)))
      rw [e2]
      exact va_sld hx hb hX hbl hbA hS hin (hd rfl) (hk rfl rfl _ _ _ h ls H locs hl hP hS)
    · cases h
  case baload =>
    obtain ⟨q, hq, hh⟩ := Option.bind_eq_some_iff.mp h; clear h; have h := hh; clear hh
    obtain ⟨x, hr, hh⟩ := Option.bind_eq_some_iff.mp h; clear h; have h := hh; clear hh
    have e := p_RI_s hq
    subst e
    obtain ⟨n, hn, hin, e⟩ := j_rdI_s hr
    subst e
    exact va_zald hx hb hKw hP q.1 1 (jP_get hn) rfl hin (hd rfl) (hk rfl rfl _ _ _ h ls H locs hl hP hS)
  case laload =>
    obtain ⟨q, hq, hh⟩ := Option.bind_eq_some_iff.mp h; clear h; have h := hh; clear hh
    obtain ⟨x, hr, hh⟩ := Option.bind_eq_some_iff.mp h; clear h; have h := hh; clear hh
    have e := p_RI_s hq
    subst e
    obtain ⟨n, hn, hin, e⟩ := j_rdL_s hr
    subst e
    exact va_lald hx hb hKw hP q.1 2 (jP_get hn) rfl hin (hd rfl) (hk rfl rfl _ _ _ h ls H locs hl hP hS)
  case iastore =>
    obtain ⟨q, hq, hh⟩ := Option.bind_eq_some_iff.mp h; clear h; have h := hh; clear hh
    obtain ⟨x, hr, hh⟩ := Option.bind_eq_some_iff.mp h; clear h; have h := hh; clear hh
    have e := p_RII_s hq
    subst e
    obtain ⟨n, hn, hin, e⟩ := j_wrI_s hr
    subst e
    exact va_iast hx hb hKw hP (hDD σ) hS q.1 0 (jP_get hn) rfl hin (hd rfl) (fun H1 locs1 hP1 _ hS1 => hk rfl rfl _ _ _ h ls H1 locs1 hl (by rw [← jP_setI 0 (Or.inl rfl) hn]; exact hP1) hS1)
  case bastore =>
    obtain ⟨q, hq, hh⟩ := Option.bind_eq_some_iff.mp h; clear h; have h := hh; clear hh
    obtain ⟨x, hr, hh⟩ := Option.bind_eq_some_iff.mp h; clear h; have h := hh; clear hh
    have e := p_RII_s hq
    subst e
    obtain ⟨n, hn, hin, hz01, e⟩ := j_wrZ_s hr
    subst e
    refine va_zast hx hb hKw hP (hDD σ) hS q.1 1 (jP_get hn) rfl hin (hd rfl) (fun H1 locs1 hP1 _ hS1 => hk rfl rfl _ _ _ h ls H1 locs1 hl ?_ hS1)
    rw [(vp_nar_b hz01).1] at hP1
    rw [← jP_setI 1 (Or.inr rfl) hn]
    exact hP1
  case lastore =>
    obtain ⟨q, hq, hh⟩ := Option.bind_eq_some_iff.mp h; clear h; have h := hh; clear hh
    obtain ⟨x, hr, hh⟩ := Option.bind_eq_some_iff.mp h; clear h; have h := hh; clear hh
    have e := p_RIL_s hq
    subst e
    obtain ⟨n, hn, hin, e⟩ := j_wrL_s hr
    subst e
    exact va_last hx hb hKw hP (hDD σ) hS q.1 2 (jP_get hn) rfl hin (hd rfl) (fun H1 locs1 hP1 _ hS1 => hk rfl rfl _ _ _ h ls H1 locs1 hl (by rw [← jP_setL hn]; exact hP1) hS1)
  case arraylength =>
    rcases ex with _ | ⟨y, _ | ⟨w, _⟩⟩
    · obtain ⟨q, hq, hh⟩ := Option.bind_eq_some_iff.mp h; clear h; have h := hh; clear hh
      obtain ⟨n, hn, hh⟩ := Option.bind_eq_some_iff.mp h; clear h; have h := hh; clear hh
      have e := p_R_s hq
      subst e
      exact va_alen hx hb hKw hP q.1 0 (jP_get (j_len_sh hn)) rfl rfl (hd rfl) (hk rfl rfl _ _ _ h ls H locs hl hP hS)
    · obtain ⟨q, hq, hh⟩ := Option.bind_eq_some_iff.mp h; clear h; have h := hh; clear hh
      obtain ⟨h20, hh⟩ := cond_s h; clear h; have h := hh; clear hh
      obtain ⟨w, hw, hh⟩ := Option.bind_eq_some_iff.mp h; clear h; have h := hh; clear hh
      have e := p_R_s hq
      subst e
      have hok : (scr && decide (y = 9999)) = true := hok
      rw [Bool.and_eq_true, decide_eq_true_eq] at hok
      obtain ⟨hs1, hs2⟩ := hok
      subst hs2
      obtain ⟨L, xs, hX, hbl, hbA, -, hrd⟩ := hSc hs1
      have e := hrd _ _ hw
      subst e
      have e2 : q.1 = 2000 := beq_iff_eq.mp h20
      show W p l e R s m args below meth c H locs cells slots Q (F0 m pc ls (.ref (α q.1) :: q.2.map (tv α)))
      rw [e2]
      exact va_slen hx hb hX hbl hbA hS (hd rfl) (hk rfl rfl _ _ _ h ls H locs hl hP hS)
    · cases h
  case goto off =>
    rcases ex with _ | ⟨t, _ | ⟨w, _⟩⟩
    · cases h
    · obtain ⟨q, hq, ht⟩ := j_tgt_s hok
      exact lv_goto hx hb (hd rfl) ht (hK _ _ _ _ _ h hq ls H locs hl hP hS)
    · cases h
  case ifCond cnd off =>
    rcases ex with _ | ⟨t, _ | ⟨w, _⟩⟩
    · cases h
    · obtain ⟨tq, htq, ht⟩ := j_tgt_s hok
      obtain ⟨q, hq, hh⟩ := Option.bind_eq_some_iff.mp h; clear h; have h := hh; clear hh
      have e := p_I_s hq
      subst e
      cases cnd
      case eq => exact lv_if_eq hx hb (hd rfl) ht (fun hc => hK _ _ _ _ _ (by dsimp only at h; rw [if_pos hc] at h; exact h) htq ls H locs hl hP hS) (fun hc => hk rfl rfl _ _ _ (by dsimp only at h; rw [if_neg hc] at h; exact h) ls H locs hl hP hS)
      case ne => exact lv_if_ne hx hb (hd rfl) ht (fun hc => hK _ _ _ _ _ (by dsimp only at h; rw [if_neg hc] at h; exact h) htq ls H locs hl hP hS) (fun hc => hk rfl rfl _ _ _ (by dsimp only at h; rw [if_pos hc] at h; exact h) ls H locs hl hP hS)
      case lt => exact lv_if_lt hx hb (hd rfl) ht (fun hc => hK _ _ _ _ _ (by dsimp only at h; rw [if_pos hc] at h; exact h) htq ls H locs hl hP hS) (fun hc => hk rfl rfl _ _ _ (by dsimp only at h; rw [if_neg hc] at h; exact h) ls H locs hl hP hS)
      case ge => exact lv_if_ge hx hb (hd rfl) ht (fun hc => hK _ _ _ _ _ (by dsimp only at h; rw [if_pos hc] at h; exact h) htq ls H locs hl hP hS) (fun hc => hk rfl rfl _ _ _ (by dsimp only at h; rw [if_neg hc] at h; exact h) ls H locs hl hP hS)
      case gt => exact lv_if_gt hx hb (hd rfl) ht (fun hc => hK _ _ _ _ _ (by dsimp only at h; rw [if_pos hc] at h; exact h) htq ls H locs hl hP hS) (fun hc => hk rfl rfl _ _ _ (by dsimp only at h; rw [if_neg hc] at h; exact h) ls H locs hl hP hS)
      case le => exact lv_if_le hx hb (hd rfl) ht (fun hc => hK _ _ _ _ _ (by dsimp only at h; rw [if_pos hc] at h; exact h) htq ls H locs hl hP hS) (fun hc => hk rfl rfl _ _ _ (by dsimp only at h; rw [if_neg hc] at h; exact h) ls H locs hl hP hS)
    · cases h
  case if_icmp cnd off =>
    rcases ex with _ | ⟨t, _ | ⟨w, _⟩⟩
    · cases h
    · obtain ⟨tq, htq, ht⟩ := j_tgt_s hok
      obtain ⟨q, hq, hh⟩ := Option.bind_eq_some_iff.mp h; clear h; have h := hh; clear hh
      have e := p_II_s hq
      subst e
      cases cnd
      case eq => exact lv_icmp_eq hx hb (hd rfl) ht (fun hc => hK _ _ _ _ _ (by dsimp only at h; rw [if_pos hc] at h; exact h) htq ls H locs hl hP hS) (fun hc => hk rfl rfl _ _ _ (by dsimp only at h; rw [if_neg hc] at h; exact h) ls H locs hl hP hS)
      case ne => exact lv_icmp_ne hx hb (hd rfl) ht (fun hc => hK _ _ _ _ _ (by dsimp only at h; rw [if_neg hc] at h; exact h) htq ls H locs hl hP hS) (fun hc => hk rfl rfl _ _ _ (by dsimp only at h; rw [if_pos hc] at h; exact h) ls H locs hl hP hS)
      case lt => exact lv_icmp_lt hx hb (hd rfl) ht (fun hc => hK _ _ _ _ _ (by dsimp only at h; rw [if_pos hc] at h; exact h) htq ls H locs hl hP hS) (fun hc => hk rfl rfl _ _ _ (by dsimp only at h; rw [if_neg hc] at h; exact h) ls H locs hl hP hS)
      case ge => exact lv_icmp_ge hx hb (hd rfl) ht (fun hc => hK _ _ _ _ _ (by dsimp only at h; rw [if_pos hc] at h; exact h) htq ls H locs hl hP hS) (fun hc => hk rfl rfl _ _ _ (by dsimp only at h; rw [if_neg hc] at h; exact h) ls H locs hl hP hS)
      case gt => exact lv_icmp_gt hx hb (hd rfl) ht (fun hc => hK _ _ _ _ _ (by dsimp only at h; rw [if_pos hc] at h; exact h) htq ls H locs hl hP hS) (fun hc => hk rfl rfl _ _ _ (by dsimp only at h; rw [if_neg hc] at h; exact h) ls H locs hl hP hS)
      case le => exact lv_icmp_le hx hb (hd rfl) ht (fun hc => hK _ _ _ _ _ (by dsimp only at h; rw [if_pos hc] at h; exact h) htq ls H locs hl hP hS) (fun hc => hk rfl rfl _ _ _ (by dsimp only at h; rw [if_neg hc] at h; exact h) ls H locs hl hP hS)
    · cases h
  case tableswitch d lo hi offs =>
    rcases ex with _ | ⟨t, ts⟩
    · cases h
    · have hok : (j_tgt B t pc d && j_tgts B pc ts offs.toList && decide (hi + 1 = lo + ts.length) && decide (-2147483648 ≤ lo) && decide (hi < 2147483648)) = true := hok
      simp only [Bool.and_eq_true, decide_eq_true_eq] at hok
      obtain ⟨⟨⟨⟨o1, o2⟩, o3⟩, o4⟩, o5⟩ := hok
      obtain ⟨q, hq, hh⟩ := Option.bind_eq_some_iff.mp h; clear h; have h := hh; clear hh
      have e := p_I_s hq
      subst e
      obtain ⟨len, hdl⟩ := hd0
      obtain ⟨l1, l2⟩ := j_tgts_s _ _ o2
      rcases sw_table ts lo o4 (by omega) h with ⟨kq, b, hb1, hx1, hf⟩ | ⟨hx1, hf⟩
      · obtain ⟨off, hoff, htg⟩ := l2 kq b hb1
        obtain ⟨tq, htq, ht⟩ := j_tgt_s htg
        have hkl : kq < ts.length := (List.getElem?_eq_some_iff.mp hb1).1
        refine lv_tableIn hx hb hdl (by omega) (by omega) (off := off) ?_ ht (hK _ _ _ _ _ hf htq ls H locs hl hP hS)
        have e3 : (q.1.toInt - lo).toNat = kq := by omega
        rw [e3, ← Array.getElem?_toList]
        exact hoff
      · obtain ⟨tq, htq, ht⟩ := j_tgt_s o1
        exact lv_tableOut hx hb hdl (by omega) ht (hK _ _ _ _ _ hf htq ls H locs hl hP hS)
  case lookupswitch d ps =>
    rcases ex with _ | ⟨t, ts⟩
    · cases h
    · have hok : (j_tgt B t pc d && j_tgts B pc ts (ps.toList.map fun q => q.2) && ((ps.toList.zip (ps.toList.drop 1)).all (fun (a, next) => a.1 < next.1)) && ps.toList.all (fun q => decide (-2147483648 ≤ q.1) && decide (q.1 < 2147483648))) = true := hok
      rw [Bool.and_eq_true, Bool.and_eq_true, Bool.and_eq_true] at hok
      obtain ⟨⟨⟨o1, o2⟩, o3⟩, o4⟩ := hok
      obtain ⟨q, hq, hh⟩ := Option.bind_eq_some_iff.mp h; clear h; have h := hh; clear hh
      have e := p_I_s hq
      subst e
      obtain ⟨len, hdl⟩ := hd0
      obtain ⟨l1, l2⟩ := j_tgts_s _ _ o2
      rcases sw_look (dflt := d) ps.toList ts (by rw [l1, List.length_map]) o4 h with ⟨kq, b, off, hb1, ho1, ho2, hf⟩ | ⟨ho2, hf⟩
      · obtain ⟨off', hoff, htg⟩ := l2 kq b hb1
        have e4 : off' = off := Option.some.inj (hoff.symm.trans ho1)
        subst e4
        obtain ⟨tq, htq, ht⟩ := j_tgt_s htg
        exact lv_lookup hx hb hdl o3 ho2 ht (hK _ _ _ _ _ hf htq ls H locs hl hP hS)
      · obtain ⟨tq, htq, ht⟩ := j_tgt_s o1
        exact lv_lookup hx hb hdl o3 ho2 ht (hK _ _ _ _ _ hf htq ls H locs hl hP hS)
  case getfield idx =>
    unfold js at h
    dsimp only at h
    split at h
    · rename_i ci f
      have hok : (jLF.contains (own, idx, ci, f) && decide ((j_fk ci)[f]? = some 0)) = true := hok
      rw [Bool.and_eq_true, decide_eq_true_eq] at hok
      obtain ⟨o1, o2⟩ := hok
      obtain ⟨q, hq, hh⟩ := Option.bind_eq_some_iff.mp h; clear h; have h := hh; clear hh
      obtain ⟨hi, hh⟩ := cond_s h; clear h; have h := hh; clear hh
      have e := p_R_s hq
      subst e
      obtain ⟨hci, hf, -⟩ := jfk_s o2
      obtain ⟨c1, c2, c3, c4, c5⟩ := jc_ok ci hci
      have hw := hts _ (jwF_g _ (List.mem_map.mpr ⟨_, contains_s o1, rfl⟩))
      exact va_get hx hb hts c2 hown hKw hP q.1 (jP_get (j_is_sh hi)) c1 f hf hw (fun _ h => h) (j_fs_get o2) (hd rfl) (hk rfl rfl _ _ _ h ls H locs hl hP hS)
    · rename_i ci f
      have hok : (jLF.contains (own, idx, ci, f) && decide ((j_fk ci)[f]? = some 1)) = true := hok
      rw [Bool.and_eq_true, decide_eq_true_eq] at hok
      obtain ⟨o1, o2⟩ := hok
      obtain ⟨q, hq, hh⟩ := Option.bind_eq_some_iff.mp h; clear h; have h := hh; clear hh
      obtain ⟨hi, hh⟩ := cond_s h; clear h; have h := hh; clear hh
      have e := p_R_s hq
      subst e
      obtain ⟨hci, hf, -⟩ := jfk_s o2
      obtain ⟨c1, c2, c3, c4, c5⟩ := jc_ok ci hci
      have hw := hts _ (jwF_g _ (List.mem_map.mpr ⟨_, contains_s o1, rfl⟩))
      exact va_get hx hb hts c2 hown hKw hP q.1 (jP_get (j_is_sh hi)) c1 f hf hw (fun _ h => h) (j_fs_get o2) (hd rfl) (hk rfl rfl _ _ _ h ls H locs hl hP hS)
    · rename_i ci f
      have hok : (jLF.contains (own, idx, ci, f) && decide ((j_fk ci)[f]? = some 2)) = true := hok
      rw [Bool.and_eq_true, decide_eq_true_eq] at hok
      obtain ⟨o1, o2⟩ := hok
      obtain ⟨q, hq, hh⟩ := Option.bind_eq_some_iff.mp h; clear h; have h := hh; clear hh
      obtain ⟨hi, hh⟩ := cond_s h; clear h; have h := hh; clear hh
      have e := p_R_s hq
      subst e
      obtain ⟨hci, hf, -⟩ := jfk_s o2
      obtain ⟨c1, c2, c3, c4, c5⟩ := jc_ok ci hci
      have hw := hts _ (jwF_g _ (List.mem_map.mpr ⟨_, contains_s o1, rfl⟩))
      exact va_get hx hb hts c2 hown hKw hP q.1 (jP_get (j_is_sh hi)) c1 f hf hw (fun _ h => h) (j_fs_get o2) (hd rfl) (hk rfl rfl _ _ _ h ls H locs hl hP hS)
    · rename_i ci f
      have hok : (jLF.contains (own, idx, ci, f) && decide ((j_fk ci)[f]? = some 3)) = true := hok
      rw [Bool.and_eq_true, decide_eq_true_eq] at hok
      obtain ⟨o1, o2⟩ := hok
      obtain ⟨q, hq, hh⟩ := Option.bind_eq_some_iff.mp h; clear h; have h := hh; clear hh
      obtain ⟨hi, hh⟩ := cond_s h; clear h; have h := hh; clear hh
      have e := p_R_s hq
      subst e
      obtain ⟨hci, hf, -⟩ := jfk_s o2
      obtain ⟨c1, c2, c3, c4, c5⟩ := jc_ok ci hci
      have hw := hts _ (jwF_g _ (List.mem_map.mpr ⟨_, contains_s o1, rfl⟩))
      exact va_get hx hb hts c2 hown hKw hP q.1 (jP_get (j_is_sh hi)) c1 f hf hw (fun _ h => h) (j_fs_get o2) (hd rfl) (hk rfl rfl _ _ _ h ls H locs hl hP hS)
    · rename_i ci f
      have hok : (jLF.contains (own, idx, ci, f) && decide ((j_fk ci)[f]? = some 4)) = true := hok
      rw [Bool.and_eq_true, decide_eq_true_eq] at hok
      obtain ⟨o1, o2⟩ := hok
      obtain ⟨q, hq, hh⟩ := Option.bind_eq_some_iff.mp h; clear h; have h := hh; clear hh
      obtain ⟨hi, hh⟩ := cond_s h; clear h; have h := hh; clear hh
      have e := p_R_s hq
      subst e
      obtain ⟨hci, hf, -⟩ := jfk_s o2
      obtain ⟨c1, c2, c3, c4, c5⟩ := jc_ok ci hci
      have hw := hts _ (jwF_g _ (List.mem_map.mpr ⟨_, contains_s o1, rfl⟩))
      exact va_get hx hb hts c2 hown hKw hP q.1 (jP_get (j_is_sh hi)) c1 f hf hw (fun _ h => h) (j_fs_get o2) (hd rfl) (hk rfl rfl _ _ _ h ls H locs hl hP hS)
    · cases h
  case putfield idx =>
    unfold js at h
    dsimp only at h
    split at h
    · rename_i ci f
      have hok : (jLF.contains (own, idx, ci, f) && decide ((j_fk ci)[f]? = some 0)) = true := hok
      rw [Bool.and_eq_true, decide_eq_true_eq] at hok
      obtain ⟨o1, o2⟩ := hok
      obtain ⟨q, hq, hh⟩ := Option.bind_eq_some_iff.mp h; clear h; have h := hh; clear hh
      obtain ⟨hi, hh⟩ := cond_s h; clear h; have h := hh; clear hh
      have e := p_RI_s hq
      subst e
      obtain ⟨hci, hf, t0, t1, t2, t3⟩ := jfk_s o2
      obtain ⟨c1, c2, c3, c4, c5⟩ := jc_ok ci hci
      have hw := hts _ (jwF_g _ (List.mem_map.mpr ⟨_, contains_s o1, rfl⟩))
      have hlen : f < (j_fs α σ q.1 ci).length := (List.getElem?_eq_some_iff.mp (j_fs_get (α := α) (σ := σ) (a := q.1) o2)).1
      exact va_put (ty := .int) hx hb hts c2 (jyy ci) c4 c3 hown hKw hP (hDD σ) hS q.1 (jP_get (j_is_sh hi)) c1 f hf hw (fun _ h => h) (t0 rfl).2 (by rw [c4 f hf, (t0 rfl).1]) rfl rfl hlen (hd rfl) (fun H1 locs1 hP1 _ hS1 => hk rfl rfl _ _ _ h ls H1 locs1 hl (by rw [← (jP_putI (j_is_sh hi) o2 (Or.inl rfl))]; exact hP1) hS1)
    · rename_i ci f
      have hok : (jLF.contains (own, idx, ci, f) && decide ((j_fk ci)[f]? = some 1)) = true := hok
      rw [Bool.and_eq_true, decide_eq_true_eq] at hok
      obtain ⟨o1, o2⟩ := hok
      obtain ⟨q, hq, hh⟩ := Option.bind_eq_some_iff.mp h; clear h; have h := hh; clear hh
      obtain ⟨hi, hh⟩ := cond_s h; clear h; have h := hh; clear hh
      have e := p_RI_s hq
      subst e
      have h01 : q.2.1 = 0 ∨ q.2.1 = 1 := by
        rcases Decidable.em (q.2.1 = 0 ∨ q.2.1 = 1) with g | g
        · exact g
        · rw [if_neg g] at h; cases h
      rw [if_pos h01] at h
      obtain ⟨hci, hf, t0, t1, t2, t3⟩ := jfk_s o2
      obtain ⟨c1, c2, c3, c4, c5⟩ := jc_ok ci hci
      have hw := hts _ (jwF_g _ (List.mem_map.mpr ⟨_, contains_s o1, rfl⟩))
      have hlen : f < (j_fs α σ q.1 ci).length := (List.getElem?_eq_some_iff.mp (j_fs_get (α := α) (σ := σ) (a := q.1) o2)).1
      exact va_put (ty := .boolean) hx hb hts c2 (jyy ci) c4 c3 hown hKw hP (hDD σ) hS q.1 (jP_get (j_is_sh hi)) c1 f hf hw (fun _ h => h) (t1 rfl).2 (by rw [c4 f hf, (t1 rfl).1]) (vp_nar_b h01).2.1 (vp_nar_b h01).2.2 hlen (hd rfl) (fun H1 locs1 hP1 _ hS1 => hk rfl rfl _ _ _ h ls H1 locs1 hl (by rw [← (jP_putI (j_is_sh hi) o2 (Or.inr rfl))]; exact hP1) hS1)
    · rename_i ci f
      have hok : (jLF.contains (own, idx, ci, f) && decide ((j_fk ci)[f]? = some 2)) = true := hok
      rw [Bool.and_eq_true, decide_eq_true_eq] at hok
      obtain ⟨o1, o2⟩ := hok
      obtain ⟨q, hq, hh⟩ := Option.bind_eq_some_iff.mp h; clear h; have h := hh; clear hh
      obtain ⟨hi, hh⟩ := cond_s h; clear h; have h := hh; clear hh
      have e := p_RL_s hq
      subst e
      obtain ⟨hci, hf, t0, t1, t2, t3⟩ := jfk_s o2
      obtain ⟨c1, c2, c3, c4, c5⟩ := jc_ok ci hci
      have hw := hts _ (jwF_g _ (List.mem_map.mpr ⟨_, contains_s o1, rfl⟩))
      have hlen : f < (j_fs α σ q.1 ci).length := (List.getElem?_eq_some_iff.mp (j_fs_get (α := α) (σ := σ) (a := q.1) o2)).1
      exact va_put (ty := .long) hx hb hts c2 (jyy ci) c4 c3 hown hKw hP (hDD σ) hS q.1 (jP_get (j_is_sh hi)) c1 f hf hw (fun _ h => h) (t2 rfl).2 (by rw [c4 f hf, (t2 rfl).1]) rfl rfl hlen (hd rfl) (fun H1 locs1 hP1 _ hS1 => hk rfl rfl _ _ _ h ls H1 locs1 hl (by rw [← (jP_putL (j_is_sh hi) o2)]; exact hP1) hS1)
    · rename_i ci f
      have hok : (jLF.contains (own, idx, ci, f) && decide ((j_fk ci)[f]? = some 3)) = true := hok
      rw [Bool.and_eq_true, decide_eq_true_eq] at hok
      obtain ⟨o1, o2⟩ := hok
      obtain ⟨q, hq, hh⟩ := Option.bind_eq_some_iff.mp h; clear h; have h := hh; clear hh
      obtain ⟨hi, hh⟩ := cond_s h; clear h; have h := hh; clear hh
      have e := p_RR_s hq
      subst e
      obtain ⟨hci, hf, t0, t1, t2, t3⟩ := jfk_s o2
      obtain ⟨c1, c2, c3, c4, c5⟩ := jc_ok ci hci
      have hw := hts _ (jwF_g _ (List.mem_map.mpr ⟨_, contains_s o1, rfl⟩))
      have hlen : f < (j_fs α σ q.1 ci).length := (List.getElem?_eq_some_iff.mp (j_fs_get (α := α) (σ := σ) (a := q.1) o2)).1
      exact va_put (ty := .object (jrr 6)) hx hb hts c2 (jyy ci) c4 c3 hown hKw hP (hDD σ) hS q.1 (jP_get (j_is_sh hi)) c1 f hf hw (fun _ h => h) (t3 rfl).2 (by rw [c4 f hf, (t3 rfl).1]) rfl rfl hlen (hd rfl) (fun H1 locs1 hP1 _ hS1 => hk rfl rfl _ _ _ h ls H1 locs1 hl (by rw [← (jP_putR (j_is_sh hi) o2)]; exact hP1) hS1)
    · cases h
  case invokevirtual idx =>
    unfold js at h
    dsimp only at h
    split at h
    · obtain ⟨q, hq, hh⟩ := Option.bind_eq_some_iff.mp h; clear h; have h := hh; clear hh
      obtain ⟨z, hz1, hh⟩ := Option.bind_eq_some_iff.mp h; clear h; have h := hh; clear hh
      obtain ⟨hrm, hh⟩ := cond_s h; clear h; have h := hh; clear hh
      have e := p_R_s hq
      subst e
      have hok : (decide (901 = 901) && jLX.contains (own, idx, 901)) = true := hok
      rw [Bool.and_eq_true] at hok
      exact hT.2.1 pc idx q.1 z ls H locs _ hl.1 (contains_s hok.2) hz1 (by rw [tv_cats]; exact ble_s hrm) (hd rfl) hS (hk rfl rfl _ _ _ h ls H locs hl hP hS)
    · obtain ⟨q, hq, hh⟩ := Option.bind_eq_some_iff.mp h; clear h; have h := hh; clear hh
      obtain ⟨z, hz1, hh⟩ := Option.bind_eq_some_iff.mp h; clear h; have h := hh; clear hh
      by_cases hin : q.2.1 < 0 ∨ z.length ≤ q.2.1.toNatClampNeg
      · rw [if_pos hin] at h; cases h
      rw [if_neg hin] at h
      obtain ⟨hrm, hh⟩ := cond_s h; clear h; have h := hh; clear hh
      have e := p_RI_s hq
      subst e
      have hok : (decide (902 = 902) && jLX.contains (own, idx, 902)) = true := hok
      rw [Bool.and_eq_true] at hok
      exact hT.2.2.1 pc idx q.1 z q.2.1 ls H locs _ hl.1 (contains_s hok.2) hz1 (by rw [tv_cats]; exact ble_s hrm) hin (hd rfl) hS (hk rfl rfl _ _ _ h ls H locs hl hP hS)
    · obtain ⟨q, hq, hh⟩ := Option.bind_eq_some_iff.mp h; clear h; have h := hh; clear hh
      obtain ⟨z, hz1, hh⟩ := Option.bind_eq_some_iff.mp h; clear h; have h := hh; clear hh
      obtain ⟨hrm, hh⟩ := cond_s h; clear h; have h := hh; clear hh
      have e := p_RI_s hq
      subst e
      have hok : (decide (903 = 903) && jLX.contains (own, idx, 903)) = true := hok
      rw [Bool.and_eq_true] at hok
      exact hT.2.2.2 pc idx q.1 z q.2.1 ls H locs _ hl.1 (contains_s hok.2) hz1 (by rw [tv_cats]; exact ble_s hrm) (hd rfl) hS (hk rfl rfl _ _ _ h ls H locs hl hP hS)
    · rename_i y n ci rk
      obtain ⟨q, hq, hh⟩ := Option.bind_eq_some_iff.mp h; clear h; have h := hh; clear hh
      obtain ⟨w, hw, hh⟩ := Option.bind_eq_some_iff.mp h; clear h; have h := hh; clear hh
      obtain ⟨hi, hh⟩ := cond_s h; clear h; have h := hh; clear hh
      obtain ⟨hrm, hh⟩ := cond_s h; clear h; have h := hh; clear hh
      obtain ⟨v, σ', hx', hk', -⟩ := j_ret_s h
      obtain ⟨e1, hn⟩ := p_n_s n hq
      have e2 := p_R_s hw
      rw [e2] at e1
      subst e1
      cases hM : jMM[y]? with
      | none =>
        exfalso
        have hok : (match jMM[y]? with
          | some M => (jLM.contains (own, idx, y) || jLN.contains (own, idx, y)) && decide (M.2.2.2.2.2.2 = 0) && decide (M.2.2.2.2.2.1 = n) && decide (M.2.2.2.2.1 = ci) && decide (j_rk M.2.2.2.1 = rk) && decide (ci < 10)
          | none => false) = true := hok
        rw [hM] at hok
        cases hok
      | some M =>
        have hok : (match jMM[y]? with
          | some M => (jLM.contains (own, idx, y) || jLN.contains (own, idx, y)) && decide (M.2.2.2.2.2.2 = 0) && decide (M.2.2.2.2.2.1 = n) && decide (M.2.2.2.2.1 = ci) && decide (j_rk M.2.2.2.1 = rk) && decide (ci < 10)
          | none => false) = true := hok
        rw [hM] at hok
        simp only [Bool.and_eq_true, Bool.or_eq_true, decide_eq_true_eq] at hok
        obtain ⟨⟨⟨⟨⟨o1, o2⟩, o3⟩, o4⟩, o5⟩, o6⟩ := hok
        have hlk : (own, idx, y) ∈ jLM ∨ (own, idx, y) ∈ jLN := o1.imp contains_s contains_s
        rw [List.map_append, List.map_reverse, List.map_cons]
        exact j_callV F hM o2 hlk (by rw [o3, hn]) o4 o6 hi (hC y M _ σ v σ' hM hx') (ble_s hrm) hl.1 (hd rfl) hP hS (fun H1 locs1 hP1 hS1 => by
          have g := hk rfl rfl _ _ _ hk' ls H1 locs1 hl hP1 hS1
          rw [map_toList] at g
          exact g)
    · cases h
  case invokestatic idx =>
    unfold js at h
    dsimp only at h
    split at h
    · obtain ⟨q, hq, hh⟩ := Option.bind_eq_some_iff.mp h; clear h; have h := hh; clear hh
      obtain ⟨hrm, hh⟩ := cond_s h; clear h; have h := hh; clear hh
      obtain ⟨t, ht, hh⟩ := Option.bind_eq_some_iff.mp h; clear h; have h := hh; clear hh
      have e := p_cpy_s hq
      subst e
      have hw := hts _ (jwA_g _ (List.mem_map.mpr ⟨_, contains_s hok, rfl⟩))
      unfold j_copy at ht
      obtain ⟨n0, hn0, hh⟩ := Option.bind_eq_some_iff.mp ht; clear ht; have ht := hh; clear hh
      obtain ⟨n1, hn1, hh⟩ := Option.bind_eq_some_iff.mp ht; clear ht; have ht := hh; clear hh
      rcases Decidable.em (q.2.1 < 0 ∨ q.2.2.2.1 < 0 ∨ q.2.2.2.2.1 < 0 ∨ n0 < q.2.1.toNatClampNeg + q.2.2.2.2.1.toNatClampNeg ∨ n1 < q.2.2.2.1.toNatClampNeg + q.2.2.2.2.1.toNatClampNeg) with g | g
      · rw [if_pos g] at ht; cases ht
      rw [if_neg g] at ht
      cases ht
      have hnat : nativeFrameWords "java/lang/System" "arraycopy" 5 = 7 := by decide
      have hcat : ((q.2.2.2.2.2.map (tv α)).map fun v => v.category).sum ≤ 8 := by rw [tv_cats]; exact ble_s hrm
      exact va_copyi (ty := .int) hx hb (by rw [hml, hl.1]) hown hw (hts _ (jwX_g _ (by simp [jwX]))) (hts _ (jwX_g _ (by simp [jwX]))) (hts _ (jwX_g _ (by simp [jwX]))) hKw hP (hDD σ) hS q.1 q.2.2.1 0 0 (jP_get (j_len_sh hn0)) (jP_get (j_len_sh hn1)) rfl rfl rfl (fun a => g (Or.inl a)) (fun a => g (Or.inr (Or.inl a))) (fun a => g (Or.inr (Or.inr (Or.inl a)))) (Nat.not_lt.mp fun a => g (Or.inr (Or.inr (Or.inr (Or.inl a))))) (Nat.not_lt.mp fun a => g (Or.inr (Or.inr (Or.inr (Or.inr a))))) (fun _ _ => rfl) (by omega) (by rw [hnat]; omega) (hd rfl) (fun H1 locs1 hP1 _ hS1 => hk rfl rfl _ _ _ h ls H1 locs1 hl (by rw [← jP_cpy (j_len_sh hn1)]; exact hP1) hS1)
    · obtain ⟨q, hq, hh⟩ := Option.bind_eq_some_iff.mp h; clear h; have h := hh; clear hh
      obtain ⟨hrm, hh⟩ := cond_s h; clear h; have h := hh; clear hh
      have e := p_II_s hq
      subst e
      have hw := hts _ (jwH_g _ (List.mem_map.mpr ⟨_, contains_s hok, rfl⟩))
      have hcat : ((q.2.2.map (tv α)).map fun v => v.category).sum ≤ 8 := by rw [tv_cats]; exact ble_s hrm
      exact va_mmax hx hb (by rw [hml, hl.1]) hown hw (hts _ (jwX_g _ (by simp [jwX, jmh]))) (hts _ (jwX_g _ (by simp [jwX]))) (hts _ (jwX_g _ (by simp [jwX, jmh]))) (by omega) (by omega) hcell hslot (hd rfl) (hk rfl rfl _ _ _ h ls H locs hl hP hS)
    · obtain ⟨q, hq, hh⟩ := Option.bind_eq_some_iff.mp h; clear h; have h := hh; clear hh
      obtain ⟨hrm, hh⟩ := cond_s h; clear h; have h := hh; clear hh
      have e := p_II_s hq
      subst e
      have hw := hts _ (jwH_g _ (List.mem_map.mpr ⟨_, contains_s hok, rfl⟩))
      have hcat : ((q.2.2.map (tv α)).map fun v => v.category).sum ≤ 8 := by rw [tv_cats]; exact ble_s hrm
      exact va_mmin hx hb (by rw [hml, hl.1]) hown hw (hts _ (jwX_g _ (by simp [jwX, jmh]))) (hts _ (jwX_g _ (by simp [jwX]))) (hts _ (jwX_g _ (by simp [jwX, jmh]))) (by omega) (by omega) hcell hslot (hd rfl) (hk rfl rfl _ _ _ h ls H locs hl hP hS)
    · obtain ⟨q, hq, hh⟩ := Option.bind_eq_some_iff.mp h; clear h; have h := hh; clear hh
      obtain ⟨hrm, hh⟩ := cond_s h; clear h; have h := hh; clear hh
      have e := p_LL_s hq
      subst e
      have hw := hts _ (jwH_g _ (List.mem_map.mpr ⟨_, contains_s hok, rfl⟩))
      have hcat : ((q.2.2.map (tv α)).map fun v => v.category).sum ≤ 8 := by rw [tv_cats]; exact ble_s hrm
      exact va_mmin_long hx hb (by rw [hml, hl.1]) hown hw (hts _ (jwX_g _ (by simp [jwX, jmh]))) (hts _ (jwX_g _ (by simp [jwX]))) (hts _ (jwX_g _ (by simp [jwX, jmh]))) (by omega) (by omega) hcell hslot (hd rfl) (hk rfl rfl _ _ _ h ls H locs hl hP hS)
    · obtain ⟨q, hq, hh⟩ := Option.bind_eq_some_iff.mp h; clear h; have h := hh; clear hh
      obtain ⟨hrm, hh⟩ := cond_s h; clear h; have h := hh; clear hh
      have e := p_L_s hq
      subst e
      have hw := hts _ (jwH_g _ (List.mem_map.mpr ⟨_, contains_s hok, rfl⟩))
      have hcat : ((q.2.map (tv α)).map fun v => v.category).sum ≤ 8 := by rw [tv_cats]; exact ble_s hrm
      exact va_mabs_long hx hb (by rw [hml, hl.1]) hown hw (hts _ (jwX_g _ (by simp [jwX, jmh]))) (hts _ (jwX_g _ (by simp [jwX]))) (hts _ (jwX_g _ (by simp [jwX, jmh]))) (by omega) (by omega) hcell hslot (hd rfl) (hk rfl rfl _ _ _ h ls H locs hl hP hS)
    · rename_i y n rk
      obtain ⟨q, hq, hh⟩ := Option.bind_eq_some_iff.mp h; clear h; have h := hh; clear hh
      obtain ⟨hrm, hh⟩ := cond_s h; clear h; have h := hh; clear hh
      obtain ⟨v, σ', hx', hk', -⟩ := j_ret_s h
      obtain ⟨e1, hn⟩ := p_n_s n hq
      subst e1
      cases hM : jMM[y]? with
      | none =>
        exfalso
        have hok : (match jMM[y]? with
          | some M => (jLM.contains (own, idx, y) || jLN.contains (own, idx, y)) && decide (M.2.2.2.2.2.2 = 1) && decide (M.2.2.2.2.2.1 = n) && decide (j_rk M.2.2.2.1 = rk)
          | none => false) = true := hok
        rw [hM] at hok
        cases hok
      | some M =>
        have hok : (match jMM[y]? with
          | some M => (jLM.contains (own, idx, y) || jLN.contains (own, idx, y)) && decide (M.2.2.2.2.2.2 = 1) && decide (M.2.2.2.2.2.1 = n) && decide (j_rk M.2.2.2.1 = rk)
          | none => false) = true := hok
        rw [hM] at hok
        simp only [Bool.and_eq_true, Bool.or_eq_true, decide_eq_true_eq] at hok
        obtain ⟨⟨⟨o1, o2⟩, o3⟩, o4⟩ := hok
        have hlk : (own, idx, y) ∈ jLM ∨ (own, idx, y) ∈ jLN := o1.imp contains_s contains_s
        rw [List.map_append, List.map_reverse]
        exact j_callS F hM o2 hlk (by rw [o3, hn]) (hC y M _ σ v σ' hM hx') (ble_s hrm) hl.1 (hd rfl) hP hS (fun H1 locs1 hP1 hS1 => by
          have g := hk rfl rfl _ _ _ hk' ls H1 locs1 hl hP1 hS1
          rw [map_toList] at g
          exact g)
    · cases h
  case ireturn =>
    unfold js at h
    dsimp only at h
    split at h
    · obtain ⟨q, hq, hh⟩ := Option.bind_eq_some_iff.mp h; clear h; have h := hh; clear hh
      obtain ⟨he, hh⟩ := cond_s h; clear h; have h := hh; clear hh
      have e := p_I_s hq
      have e2 := List.isEmpty_iff.mp he
      rw [e2] at e
      subst e
      cases h
      exact (hR pc ls H locs hP hS).1 q.1 rfl (Or.inl rfl) (hd rfl)
    · obtain ⟨q, hq, hh⟩ := Option.bind_eq_some_iff.mp h; clear h; have h := hh; clear hh
      obtain ⟨he, hh⟩ := cond_s h; clear h; have h := hh; clear hh
      have e := p_I_s hq
      have e2 := List.isEmpty_iff.mp he
      rw [e2] at e
      subst e
      rcases Decidable.em (q.1 = 0 ∨ q.1 = 1) with g | g
      · rw [if_pos g] at h
        cases h
        exact (hR pc ls H locs hP hS).1 q.1 rfl (Or.inr ⟨rfl, g⟩) (hd rfl)
      · rw [if_neg g] at h; cases h
    · cases h
  case lreturn =>
    unfold js at h
    dsimp only at h
    split at h
    · obtain ⟨q, hq, hh⟩ := Option.bind_eq_some_iff.mp h; clear h; have h := hh; clear hh
      obtain ⟨he, hh⟩ := cond_s h; clear h; have h := hh; clear hh
      have e := p_L_s hq
      have e2 := List.isEmpty_iff.mp he
      rw [e2] at e
      subst e
      cases h
      exact (hR pc ls H locs hP hS).2.1 q.1 rfl rfl (hd rfl)
    · cases h
  case return_ =>
    unfold js at h
    dsimp only at h
    split at h
    · obtain ⟨he, hh⟩ := cond_s h; clear h; have h := hh; clear hh
      have e2 := List.isEmpty_iff.mp he
      subst e2
      cases h
      exact (hR pc ls H locs hP hS).2.2 rfl rfl (hd rfl)
    · cases h
  all_goals (exfalso; revert h; intro h; cases h)
end JS
end
section
/-! Blocks, loops and calls of the small machine are the Jvm's: jd_ok. -/
section JRUN
variable {p : Program} {l : Launch} {e : Env} {R : Room} {s : State} {m : MethodId} {args : Array Value} {below : List Frame} {meth : Method} {c : Code} {cells slots : Nat} {Q : State → Prop}
variable {cc : ByteArray} {nL own rt : Nat} {D : va_G} {G : jG} {α : Nat → Nat} {Z : State → Prop} {dd : Nat} {B : List jB} {C : Nat → List Value → jS → jR} {r : Option Value × jS} {scr : Bool}
theorem jb_ok (F : jFx p R s m args c cc nL own D G α Z dd cells slots) (hC : jHC l α G D Z dd C) (hSc : jHS s α scr C) (hT : jHT p l e R s m args below meth c cells slots Q cc nL own α) (hR : jHR p l e R s m args below meth c cells slots Q cc rt D G α r)
    {K : Nat → jL → List Value → jS → jR} (hK : ∀ j lv st σ q, K j lv st σ = some r → jpc B j = some q → jWk p l e R s m args below meth c cells slots Q nL D G α q lv st σ) {nx : Nat} :
    ∀ (is : List jN) (pc : Nat) (lv : jL) (st : List Value) (σ : jS), chkB scr own nL B cc nx is pc = true → jb C rt K nx is lv st σ = some r → jWk p l e R s m args below meth c cells slots Q nL D G α pc lv st σ := by
  intro is
  induction is with
  | nil =>
    intro pc lv st σ hc h
    exact hK nx lv st σ pc h (decide_eq_true_eq.mp hc)
  | cons i is ih =>
    intro pc lv st σ hc h
    obtain ⟨i, ex⟩ := i
    obtain ⟨c1, c2, c3, c4⟩ := chk_cons hc
    exact js_ok F hC hSc hT hR hK c2 c1 c3 h (fun hs ht lv st σ h => ih (pc + jlen i) lv st σ (c4 hs ht) h)
def jchk (scr : Bool) (own nL : Nat) (B : List jB) (cc : ByteArray) : Bool := B.all fun b => chkB scr own nL B cc b.2.2.2 b.2.2.1 b.1
theorem jrun_ok (F : jFx p R s m args c cc nL own D G α Z dd cells slots) (hC : jHC l α G D Z dd C) (hSc : jHS s α scr C) (hT : jHT p l e R s m args below meth c cells slots Q cc nL own α) (hR : jHR p l e R s m args below meth c cells slots Q cc rt D G α r) (hB : jchk scr own nL B cc = true) :
    ∀ (n j : Nat) (lv : jL) (st : List Value) (σ : jS) (q : Nat), jrun C rt B n j lv st σ = some r → jpc B j = some q → jWk p l e R s m args below meth c cells slots Q nL D G α q lv st σ := by
  intro n
  induction n with
  | zero => intro j lv st σ q h; cases h
  | succ n ih =>
    intro j lv st σ q h hq
    have h : jstep C rt B (jrun C rt B n) j lv st σ = some r := h
    unfold jstep at h
    obtain ⟨b, hb, h⟩ := Option.bind_eq_some_iff.mp h
    unfold jpc at hq
    rw [hb] at hq
    cases hq
    refine jb_ok F hC hSc hT hR (K := j_go B (jrun C rt B n)) ?_ b.2.2.1 b.1 lv st σ (List.all_eq_true.mp hB b (List.mem_of_getElem? hb)) h
    intro j' lv' st' σ' q' h' hq'
    unfold j_go at h'
    obtain ⟨b', hb', h'⟩ := Option.bind_eq_some_iff.mp h'
    obtain ⟨l', hl', h'⟩ := Option.bind_eq_some_iff.mp h'
    intro ls H locs hl hP hS
    exact ih j' l' st' σ' q' h' hq' ls H locs (j_pick_has hl _ hl') hP hS
theorem db_ok (F : jFx p R s m args c cc nL own D G α Z dd cells slots) (hC : jHC l α G D Z dd C) (hSc : jHS s α scr C) (hT : jHT p l e R s m args below meth c cells slots Q cc nL own α) (hR : jHR p l e R s m args below meth c cells slots Q cc rt D G α r) (hB : jchk scr own nL B cc = true)
    {j : Nat} {lv : jL} {st : List Value} {σ : jS} {q : Nat} (h : j_go B (db C rt B) j lv st σ = some r) (hq : jpc B j = some q) : jWk p l e R s m args below meth c cells slots Q nL D G α q lv st σ := by
  unfold j_go at h
  obtain ⟨b, hb, h⟩ := Option.bind_eq_some_iff.mp h
  obtain ⟨l', hl', h⟩ := Option.bind_eq_some_iff.mp h
  obtain ⟨n, hn⟩ := (db_iff C rt B j l' st σ r).mp h
  intro ls H locs hl hP hS
  exact jrun_ok F hC hSc hT hR hB n j l' st σ q hn hq ls H locs (j_pick_has hl _ hl') hP hS
end JRUN
/-- methods by number: what they answer, their locals, their blocks -/
noncomputable def jd (MT : List (Nat × Nat × List jB)) : Nat → Nat → List Value → jS → jR
  | 0 => fun _ _ _ => none
  | d + 1 => fun y a σ => (MT[y]?).bind fun q => cond (Nat.ble (a.map fun v => v.category).sum q.2.1) (j_go q.2.2 (db (jd MT d) q.1 q.2.2) 0 (lv_args 0 a) [] σ) none
theorem lg_sl_len (vs : List Value) : (lg_sl vs).length = (vs.map fun v => v.category).sum := by
  induction vs with
  | nil => rfl
  | cons v vs ih =>
    have e : lg_sl (v :: vs) = (if v.category = 2 then [Slot.val v, Slot.second] else [Slot.val v]) ++ lg_sl vs := rfl
    rw [e, List.length_append, ih, List.map_cons, List.sum_cons]
    congr 1
    cases v <;> rfl
theorem tl_args (α : Nat → Nat) : ∀ (i : Nat) (vs : List Value), tl α (lv_args i vs) = lv_args i (vs.map (tv α))
  | _, [] => rfl
  | i, v :: vs => by
    have h := tl_args α (if v.category = 2 then i + 2 else i + 1) vs
    show (i, tv α v) :: tl α (lv_args _ vs) = (i, tv α v) :: lv_args (if (tv α v).category = 2 then i + 2 else i + 1) (vs.map (tv α))
    rw [tv_cat, h]
/-- the table of blocks is that of the methods -/
def jMTok (MT : List (Nat × Nat × List jB)) : Prop := ∀ (y : Nat) (M : jM) (q : Nat × Nat × List jB), jMM[y]? = some M → MT[y]? = some q → q.1 = M.2.2.2.1 ∧ q.2.1 = M.2.2.1 ∧ jpc q.2.2 0 = some 0 ∧ jchk false M.2.2.2.2.1 M.2.2.1 q.2.2 M.2.1 = true
def jStrs (l : Launch) (α : Nat → Nat) (G : jG) (D : va_G) (Z : State → Prop) : Prop := ∀ (p : Program) (e : Env) (R : Room) (s : State) (m : MethodId) (args : Array Value) (below : List Frame) (meth : Method) (c : Code) (cells slots : Nat) (Q : State → Prop) (cc : ByteArray) (nL own dd : Nat), jFx p R s m args c cc nL own D G α Z dd cells slots → jHT p l e R s m args below meth c cells slots Q cc nL own α
theorem jd_ok {l : Launch} {D : va_G} {G : jG} {α : Nat → Nat} {Z : State → Prop} {MT : List (Nat × Nat × List jB)} (hMT : jMTok MT) (hα : ∀ a b, a < jSH.length → b < jSH.length → α a = α b → a = b) (hz : jZok α Z) (hst : jStrs l α G D Z) : ∀ d : Nat, jHC l α G D Z d (jd MT d) := by
  intro d
  induction d with
  | zero => intro y M a σ v σ2 hM h; cases h
  | succ d ih =>
    intro y M a σ v σ2 hM h
    have h : ((MT[y]?).bind fun q => cond (Nat.ble (a.map fun v => v.category).sum q.2.1) (j_go q.2.2 (db (jd MT d) q.1 q.2.2) 0 (lv_args 0 a) [] σ) none) = some (v, σ2) := h
    obtain ⟨q, hq, h⟩ := Option.bind_eq_some_iff.mp h
    obtain ⟨hle, h⟩ := cond_s h
    obtain ⟨e1, e2, hp0, hB⟩ := hMT y M q hM hq
    obtain ⟨k1, k2, k3, k4, k5, k6, k7⟩ := jm_ok hM
    refine Met.ofW (cc := M.2.1) (maxL := M.2.2.1) (ret := j_rt M.2.2.2.1) k1 rfl ?_
    intro p e s m args below meth c s₁ Bd hml hv
    obtain ⟨rfl, hP, hK, hZ⟩ := hv
    have hts := atoms_spec (ws := jwk M :: jws) Bd.pre
    have hown : s.vm.findClass M.1.cls = some m.cls := findClass_of_methodNamed Bd.named
    have hlocks := Bd.notSynchronized
    have F : jFx p (headSpec (jwk M :: jws) (jrm (d + 1))).room s m (a.map (tv α)).toArray c M.2.1 M.2.2.1 M.2.2.2.2.1 D G α Z d 0 0 := by
      refine ⟨Bd.exec, Bd.bytes, hml, by rw [k5]; exact hown, fun w hw => hts w (List.mem_cons_of_mem _ hw), hK, hZ, hz, hα, ?_, ?_, Nat.zero_le _, Nat.zero_le _⟩
      · show d + 9 ≤ d + 1 + 8; omega
      · show 60 * d + 540 ≤ 60 * (d + 1) + 480; omega
    have hlen : (lg_sl (a.map (tv α))).length ≤ M.2.2.1 := by
      rw [lg_sl_len, tv_cats, ← e2]
      exact ble_s hle
    have hl := lv_entry (a.map (tv α)) (n := M.2.2.1) hlen
    rw [lg_entry_eq]
    have hR : jHR p l e (headSpec (jwk M :: jws) (jrm (d + 1))).room s m (a.map (tv α)).toArray below meth c 0 0 (MQ below (jQc α G D v σ2) (a.map (tv α)).toArray s 0 0 (jA α)) M.2.1 q.1 D G α (v, σ2) := by
      intro pc ls H locs hP hS
      have hr := Bd.returns
      refine ⟨fun x hx h12 hdg => ?_, fun x hx h3 hdg => ?_, fun hx h0 hdg => ?_⟩
      · have hx : v = some (.int x) := hx
        subst hx
        rcases h12 with h1 | ⟨h2, h01⟩
        · rw [← e1, h1] at hr
          exact W.iret Bd.exec Bd.bytes hr (fun t ht _ => ⟨rfl, by rw [ht]; exact hP, hS.F ht⟩) hS.2.2 hdg
        · rw [← e1, h2] at hr
          exact W.zret Bd.exec Bd.bytes hr (vp_nar_b h01).2.1 (fun t ht _ => ⟨rfl, by rw [ht]; exact hP, hS.F ht⟩) hS.2.2 hdg
      · have hx : v = some (.long x) := hx
        subst hx
        rw [← e1, h3] at hr
        exact W.lret Bd.exec Bd.bytes hr (fun t ht _ => ⟨rfl, by rw [ht]; exact hP, hS.F ht⟩) hS.2.2 hdg
      · have hx : v = none := hx
        subst hx
        rw [← e1, h0] at hr
        exact W.vret Bd.exec Bd.bytes hr (fun t ht _ => ⟨rfl, by rw [ht]; exact hP, hS.F ht⟩) hS.2.2 hdg
    have hSc : jHS s α false (jd MT d) := fun h => by cases h
    exact db_ok F ih hSc (hst p e _ s m _ below meth c 0 0 _ _ _ _ d F) hR hB h hp0 _ s.heap [] (by rw [tl_args]; exact hl) hP va_S.rf
end
section
/-! The methods' blocks, held against their bytes. Printed by wip/gen/code.py. -/
def jok (M : jM) (q : Nat × Nat × List jB) : Bool := decide (q.1 = M.2.2.2.1) && decide (q.2.1 = M.2.2.1) && decide (jpc q.2.2 0 = some 0) && jchk false M.2.2.2.2.1 M.2.2.1 q.2.2 M.2.1
def k_Jo_begin : List jB := [
  (0, [0, 1], [(.aload_n 0, []), (.aload_n 1, []), (.iconst (-1), []), (.iconst 0, []), (.invokevirtual 47, [2, 3, 0, 0]), (.iconst 0, []), (.istore_n 2, [])], 1),
  (9, [0, 1, 2], [(.iload_n 2, []), (.aload_n 1, []), (.getfield 51, [6, 6, 0]), (.if_icmp .ge 32, [2]), (.aload_n 0, []), (.aload_n 1, []), (.getfield 56, [6, 7, 4]), (.iload_n 2, []), (.iaload, []), (.aload_n 1, []), (.getfield 57, [6, 8, 4]), (.iload_n 2, []), (.iaload, []), (.aload_n 1, []), (.getfield 60, [6, 9, 4]), (.iload_n 2, []), (.iaload, []), (.invokevirtual 61, [4, 3, 0, 1]), (.pop, []), (.iinc 2 1, []), (.goto (-34), [1])], 0),
  (46, [], [(.return_, [])], 0)]
def mt_0 : Nat × Nat × List jB := (0, 3, k_Jo_begin)
set_option maxRecDepth 100000 in
theorem ck_0 : jok jm_0 mt_0 = true := by decide +kernel
def k_Jo_beginLike : List jB := [
  (0, [0, 1, 2, 3], [(.aload_n 0, []), (.aload_n 1, []), (.getfield 43, [0, 11, 3]), (.iload_n 2, []), (.iload_n 3, []), (.invokevirtual 47, [2, 3, 0, 0]), (.iconst 0, []), (.istore 4, [])], 1),
  (13, [0, 1, 4], [(.iload 4, []), (.aload_n 1, []), (.getfield 65, [0, 3, 0]), (.if_icmp .ge 35, [2]), (.aload_n 0, []), (.aload_n 1, []), (.getfield 18, [0, 4, 4]), (.iload 4, []), (.iaload, []), (.aload_n 1, []), (.getfield 21, [0, 5, 4]), (.iload 4, []), (.iaload, []), (.aload_n 1, []), (.getfield 24, [0, 6, 4]), (.iload 4, []), (.iaload, []), (.invokevirtual 61, [4, 3, 0, 1]), (.pop, []), (.iinc 4 1, []), (.goto (-38), [1])], 0),
  (54, [], [(.return_, [])], 0)]
def mt_1 : Nat × Nat × List jB := (0, 5, k_Jo_beginLike)
set_option maxRecDepth 100000 in
theorem ck_1 : jok jm_1 mt_1 = true := by decide +kernel
def k_Jo_start : List jB := [
  (0, [0, 1, 2, 3], [(.aload_n 0, []), (.aload_n 1, []), (.putfield 43, [0, 11, 3]), (.aload_n 0, []), (.iload_n 2, []), (.putfield 39, [0, 12, 0]), (.aload_n 0, []), (.iload_n 3, []), (.putfield 66, [0, 13, 0]), (.aload_n 0, []), (.iconst 0, []), (.putfield 69, [0, 0, 0]), (.aload_n 0, []), (.iconst 0, []), (.putfield 65, [0, 3, 0]), (.aload_n 1, []), (.getfield 72, [6, 3, 4]), (.iconst 0, []), (.aload_n 0, []), (.getfield 9, [0, 1, 4]), (.iconst 0, []), (.bipush 10, []), (.invokestatic 73, [900]), (.aload_n 0, []), (.getfield 15, [0, 2, 4]), (.iconst 0, []), (.invokestatic 79, [256, 2, 0]), (.return_, [])], 0)]
def mt_2 : Nat × Nat × List jB := (0, 4, k_Jo_start)
set_option maxRecDepth 100000 in
theorem ck_2 : jok jm_2 mt_2 = true := by decide +kernel
def k_Jo_copyFrom : List jB := [
  (0, [0, 1], [(.aload_n 0, []), (.aload_n 1, []), (.getfield 43, [0, 11, 3]), (.putfield 43, [0, 11, 3]), (.aload_n 0, []), (.aload_n 1, []), (.getfield 39, [0, 12, 0]), (.putfield 39, [0, 12, 0]), (.aload_n 0, []), (.aload_n 1, []), (.getfield 66, [0, 13, 0]), (.putfield 66, [0, 13, 0]), (.aload_n 0, []), (.aload_n 1, []), (.getfield 69, [0, 0, 0]), (.putfield 69, [0, 0, 0]), (.aload_n 0, []), (.aload_n 1, []), (.getfield 65, [0, 3, 0]), (.putfield 65, [0, 3, 0]), (.aload_n 1, []), (.getfield 9, [0, 1, 4]), (.iconst 0, []), (.aload_n 0, []), (.getfield 9, [0, 1, 4]), (.iconst 0, []), (.bipush 10, []), (.invokestatic 73, [900]), (.aload_n 1, []), (.getfield 15, [0, 2, 4]), (.iconst 0, []), (.aload_n 0, []), (.getfield 15, [0, 2, 4]), (.iconst 0, []), (.bipush 10, []), (.invokestatic 73, [900]), (.aload_n 1, []), (.getfield 18, [0, 4, 4]), (.iconst 0, []), (.aload_n 0, []), (.getfield 18, [0, 4, 4]), (.iconst 0, []), (.bipush 30, []), (.invokestatic 73, [900]), (.aload_n 1, []), (.getfield 21, [0, 5, 4]), (.iconst 0, []), (.aload_n 0, []), (.getfield 21, [0, 5, 4]), (.iconst 0, []), (.bipush 30, []), (.invokestatic 73, [900]), (.aload_n 1, []), (.getfield 24, [0, 6, 4]), (.iconst 0, []), (.aload_n 0, []), (.getfield 24, [0, 6, 4]), (.iconst 0, []), (.bipush 30, []), (.invokestatic 73, [900]), (.aload_n 1, []), (.getfield 27, [0, 7, 4]), (.iconst 0, []), (.aload_n 0, []), (.getfield 27, [0, 7, 4]), (.iconst 0, []), (.bipush 30, []), (.invokestatic 73, [900]), (.aload_n 1, []), (.getfield 30, [0, 8, 4]), (.iconst 0, []), (.aload_n 0, []), (.getfield 30, [0, 8, 4]), (.iconst 0, []), (.bipush 30, []), (.invokestatic 73, [900]), (.aload_n 1, []), (.getfield 33, [0, 9, 4]), (.iconst 0, []), (.aload_n 0, []), (.getfield 33, [0, 9, 4]), (.iconst 0, []), (.bipush 30, []), (.invokestatic 73, [900]), (.aload_n 1, []), (.getfield 36, [0, 10, 4]), (.iconst 0, []), (.aload_n 0, []), (.getfield 36, [0, 10, 4]), (.iconst 0, []), (.bipush 30, []), (.invokestatic 73, [900]), (.return_, [])], 0)]
def mt_3 : Nat × Nat × List jB := (0, 2, k_Jo_copyFrom)
set_option maxRecDepth 100000 in
theorem ck_3 : jok jm_3 mt_3 = true := by decide +kernel
def k_Jo_add : List jB := [
  (0, [0, 1, 2, 3], [(.aload_n 0, []), (.getfield 65, [0, 3, 0]), (.bipush 30, []), (.if_icmp .lt 5, [1]), (.iconst (-1), []), (.ireturn, [])], 0),
  (11, [0, 1, 2, 3], [(.aload_n 0, []), (.getfield 18, [0, 4, 4]), (.aload_n 0, []), (.getfield 65, [0, 3, 0]), (.iload_n 1, []), (.iastore, []), (.aload_n 0, []), (.getfield 21, [0, 5, 4]), (.aload_n 0, []), (.getfield 65, [0, 3, 0]), (.iload_n 2, []), (.iastore, []), (.aload_n 0, []), (.getfield 24, [0, 6, 4]), (.aload_n 0, []), (.getfield 65, [0, 3, 0]), (.iload_n 3, []), (.iastore, []), (.aload_n 0, []), (.getfield 27, [0, 7, 4]), (.aload_n 0, []), (.getfield 65, [0, 3, 0]), (.iconst 0, []), (.iastore, []), (.aload_n 0, []), (.getfield 30, [0, 8, 4]), (.aload_n 0, []), (.getfield 65, [0, 3, 0]), (.iconst 0, []), (.iastore, []), (.aload_n 0, []), (.getfield 33, [0, 9, 4]), (.aload_n 0, []), (.getfield 65, [0, 3, 0]), (.iconst 0, []), (.iastore, []), (.aload_n 0, []), (.getfield 36, [0, 10, 4]), (.aload_n 0, []), (.getfield 65, [0, 3, 0]), (.iconst (-1), []), (.iastore, []), (.aload_n 0, []), (.dup, []), (.getfield 65, [0, 3, 0]), (.iconst 1, []), (.iadd, []), (.putfield 65, [0, 3, 0]), (.aload_n 0, []), (.getfield 65, [0, 3, 0]), (.iconst 1, []), (.isub, []), (.ireturn, [])], 0)]
def mt_4 : Nat × Nat × List jB := (1, 4, k_Jo_add)
set_option maxRecDepth 100000 in
theorem ck_4 : jok jm_4 mt_4 = true := by decide +kernel
def k_Jo_isParcel : List jB := [
  (0, [0, 1], [(.iload_n 1, []), (.iconst 0, []), (.aload_n 0, []), (.getfield 65, [0, 3, 0]), (.iconst 1, []), (.isub, []), (.invokestatic 85, [152, 3, 1]), (.ireturn, [])], 0)]
def mt_5 : Nat × Nat × List jB := (2, 2, k_Jo_isParcel)
set_option maxRecDepth 100000 in
theorem ck_5 : jok jm_5 mt_5 = true := by decide +kernel
def k_Jo_inState : List jB := [
  (0, [0, 1], [(.iconst 0, []), (.istore_n 2, []), (.iconst 0, []), (.istore_n 3, [])], 1),
  (4, [0, 1, 2, 3], [(.iload_n 3, []), (.aload_n 0, []), (.getfield 65, [0, 3, 0]), (.if_icmp .ge 22, [3]), (.aload_n 0, []), (.getfield 27, [0, 7, 4]), (.iload_n 3, []), (.iaload, []), (.iload_n 1, []), (.if_icmp .ne 6, [2]), (.iinc 2 1, [])], 2),
  (25, [0, 1, 2, 3], [(.iinc 3 1, []), (.goto (-24), [1])], 0),
  (31, [2], [(.iload_n 2, []), (.ireturn, [])], 0)]
def mt_6 : Nat × Nat × List jB := (1, 4, k_Jo_inState)
set_option maxRecDepth 100000 in
theorem ck_6 : jok jm_6 mt_6 = true := by decide +kernel
def k_Jo_allCoins : List jB := [
  (0, [0], [(.lconst 0, []), (.lstore_n 1, []), (.iconst 0, []), (.istore_n 3, [])], 1),
  (4, [0, 1, 3], [(.iload_n 3, []), (.aload_n 0, []), (.getfield 43, [0, 11, 3]), (.getfield 89, [6, 0, 0]), (.if_icmp .ge 19, [2]), (.lload_n 1, []), (.aload_n 0, []), (.getfield 9, [0, 1, 4]), (.iload_n 3, []), (.iaload, []), (.i2l, []), (.ladd, []), (.lstore_n 1, []), (.iinc 3 1, []), (.goto (-24), [1])], 0),
  (31, [0, 1], [(.iconst 0, []), (.istore_n 3, [])], 3),
  (33, [0, 1, 3], [(.iload_n 3, []), (.aload_n 0, []), (.getfield 65, [0, 3, 0]), (.if_icmp .ge 19, [4]), (.lload_n 1, []), (.aload_n 0, []), (.getfield 30, [0, 8, 4]), (.iload_n 3, []), (.iaload, []), (.i2l, []), (.ladd, []), (.lstore_n 1, []), (.iinc 3 1, []), (.goto (-21), [3])], 0),
  (57, [1], [(.lload_n 1, []), (.lreturn, [])], 0)]
def mt_7 : Nat × Nat × List jB := (3, 4, k_Jo_allCoins)
set_option maxRecDepth 100000 in
theorem ck_7 : jok jm_7 mt_7 = true := by decide +kernel
def k_Jo_hoursTillRest : List jB := [
  (0, [0], [(.iconst 0, []), (.istore_n 1, [])], 1),
  (2, [0, 1], [(.iload_n 1, []), (.sipush 3000, []), (.if_icmp .gt 27, [3]), (.aload_n 0, []), (.iconst 2, []), (.invokevirtual 92, [6, 1, 0, 1]), (.aload_n 0, []), (.getfield 65, [0, 3, 0]), (.if_icmp .ne 5, [2]), (.iload_n 1, []), (.ireturn, [])], 0),
  (23, [0, 1], [(.aload_n 0, []), (.invokevirtual 96, [10, 0, 0, 0]), (.iinc 1 1, []), (.goto (-28), [1])], 0),
  (33, [], [(.bipush (-2), []), (.ireturn, [])], 0)]
def mt_8 : Nat × Nat × List jB := (1, 2, k_Jo_hoursTillRest)
set_option maxRecDepth 100000 in
theorem ck_8 : jok jm_8 mt_8 = true := by decide +kernel
def k_Jo_passTo : List jB := [
  (0, [0, 1], [(.aload_n 0, []), (.getfield 69, [0, 0, 0]), (.istore_n 2, [])], 1),
  (5, [0, 1, 2], [(.iload_n 2, []), (.iload_n 1, []), (.if_icmp .ge 13, [2]), (.aload_n 0, []), (.invokevirtual 96, [10, 0, 0, 0]), (.iinc 2 1, []), (.goto (-12), [1])], 0),
  (20, [], [(.return_, [])], 0)]
def mt_9 : Nat × Nat × List jB := (0, 3, k_Jo_passTo)
set_option maxRecDepth 100000 in
theorem ck_9 : jok jm_9 mt_9 = true := by decide +kernel
def k_Jo_pass : List jB := [
  (0, [0], [(.iconst 0, []), (.istore_n 1, [])], 1),
  (2, [0, 1], [(.iload_n 1, []), (.aload_n 0, []), (.getfield 65, [0, 3, 0]), (.if_icmp .ge 44, [3]), (.aload_n 0, []), (.getfield 27, [0, 7, 4]), (.iload_n 1, []), (.iaload, []), (.ifCond .ne 29, [2]), (.aload_n 0, []), (.getfield 24, [0, 6, 4]), (.iload_n 1, []), (.iaload, []), (.aload_n 0, []), (.getfield 69, [0, 0, 0]), (.if_icmp .ne 16, [2]), (.aload_n 0, []), (.iload_n 1, []), (.invokevirtual 99, [11, 1, 0, 1]), (.ifCond .ne 8, [2]), (.aload_n 0, []), (.iload_n 1, []), (.invokevirtual 103, [12, 1, 0, 0])], 2),
  (45, [0, 1], [(.iinc 1 1, []), (.goto (-46), [1])], 0),
  (51, [0], [(.iconst 0, []), (.istore_n 1, [])], 4),
  (53, [0, 1], [(.iload_n 1, []), (.aload_n 0, []), (.getfield 65, [0, 3, 0]), (.if_icmp .ge 37, [6]), (.aload_n 0, []), (.getfield 27, [0, 7, 4]), (.iload_n 1, []), (.iaload, []), (.iconst 1, []), (.if_icmp .ne 21, [5]), (.aload_n 0, []), (.getfield 24, [0, 6, 4]), (.iload_n 1, []), (.iaload, []), (.aload_n 0, []), (.getfield 69, [0, 0, 0]), (.if_icmp .ge 8, [5]), (.aload_n 0, []), (.iload_n 1, []), (.invokevirtual 107, [13, 1, 0, 0])], 5),
  (89, [0, 1], [(.iinc 1 1, []), (.goto (-39), [4])], 0),
  (95, [0], [(.aload_n 0, []), (.dup, []), (.getfield 69, [0, 0, 0]), (.iconst 1, []), (.iadd, []), (.putfield 69, [0, 0, 0]), (.return_, [])], 0)]
def mt_10 : Nat × Nat × List jB := (0, 2, k_Jo_pass)
set_option maxRecDepth 100000 in
theorem ck_10 : jok jm_10 mt_10 = true := by decide +kernel
def k_Jo_isLeftOut : List jB := [
  (0, [0, 1], [(.aload_n 0, []), (.getfield 39, [0, 12, 0]), (.iconst 5, []), (.if_icmp .ne 15, [1]), (.aload_n 0, []), (.getfield 66, [0, 13, 0]), (.iload_n 1, []), (.if_icmp .ne 7, [1]), (.iconst 1, []), (.goto 4, [2])], 0),
  (20, [], [(.iconst 0, [])], 2),
  (21, [], [(.ireturn, [])], 0)]
def mt_11 : Nat × Nat × List jB := (2, 2, k_Jo_isLeftOut)
set_option maxRecDepth 100000 in
theorem ck_11 : jok jm_11 mt_11 = true := by decide +kernel
def k_Jo_dispatch : List jB := [
  (0, [0, 1], [(.aload_n 0, []), (.getfield 30, [0, 8, 4]), (.iload_n 1, []), (.aload_n 0, []), (.getfield 21, [0, 5, 4]), (.iload_n 1, []), (.iaload, []), (.iastore, []), (.aload_n 0, []), (.aload_n 0, []), (.getfield 18, [0, 4, 4]), (.iload_n 1, []), (.iaload, []), (.invokevirtual 110, [14, 1, 0, 1]), (.ifCond .ne 17, [1]), (.aload_n 0, []), (.iload_n 1, []), (.aload_n 0, []), (.getfield 18, [0, 4, 4]), (.iload_n 1, []), (.iaload, []), (.invokevirtual 113, [18, 2, 0, 0]), (.goto 14, [2])], 0),
  (39, [0, 1], [(.aload_n 0, []), (.iload_n 1, []), (.aload_n 0, []), (.getfield 18, [0, 4, 4]), (.iload_n 1, []), (.iaload, []), (.invokevirtual 117, [17, 2, 0, 0])], 2),
  (50, [], [(.return_, [])], 0)]
def mt_12 : Nat × Nat × List jB := (0, 2, k_Jo_dispatch)
set_option maxRecDepth 100000 in
theorem ck_12 : jok jm_12 mt_12 = true := by decide +kernel
def k_Jo_bring : List jB := [
  (0, [0, 1], [(.aload_n 0, []), (.getfield 36, [0, 10, 4]), (.iload_n 1, []), (.iaload, []), (.istore_n 2, []), (.aload_n 0, []), (.getfield 33, [0, 9, 4]), (.iload_n 1, []), (.dup2, []), (.iaload, []), (.iconst 1, []), (.iadd, []), (.iastore, []), (.aload_n 0, []), (.iload_n 2, []), (.invokevirtual 110, [14, 1, 0, 1]), (.ifCond .eq 14, [1]), (.aload_n 0, []), (.getfield 33, [0, 9, 4]), (.iload_n 1, []), (.iaload, []), (.bipush 100, []), (.if_icmp .lt 10, [2])], 1),
  (36, [0, 1, 2], [(.aload_n 0, []), (.iload_n 1, []), (.iload_n 2, []), (.invokevirtual 113, [18, 2, 0, 0]), (.return_, [])], 0),
  (43, [0, 1, 2], [(.aload_n 0, []), (.iload_n 2, []), (.iload_n 1, []), (.invokevirtual 120, [15, 2, 0, 1]), (.istore_n 3, []), (.aload_n 0, []), (.getfield 9, [0, 1, 4]), (.iload_n 2, []), (.dup2, []), (.iaload, []), (.iload_n 3, []), (.iadd, []), (.iastore, []), (.aload_n 0, []), (.getfield 30, [0, 8, 4]), (.iload_n 1, []), (.dup2, []), (.iaload, []), (.iload_n 3, []), (.isub, []), (.iastore, []), (.aload_n 0, []), (.getfield 30, [0, 8, 4]), (.iload_n 1, []), (.iaload, []), (.ifCond .le 12, [3]), (.aload_n 0, []), (.iload_n 1, []), (.iload_n 2, []), (.invokevirtual 117, [17, 2, 0, 0]), (.goto 9, [4])], 0),
  (88, [0, 1, 2], [(.aload_n 0, []), (.iload_n 1, []), (.iload_n 2, []), (.invokevirtual 113, [18, 2, 0, 0])], 4),
  (94, [], [(.return_, [])], 0)]
def mt_13 : Nat × Nat × List jB := (0, 4, k_Jo_bring)
set_option maxRecDepth 100000 in
theorem ck_13 : jok jm_13 mt_13 = true := by decide +kernel
def k_Jo_waysOf : List jB := [
  (0, [0, 1], [(.aload_n 0, []), (.getfield 43, [0, 11, 3]), (.getfield 124, [6, 4, 4]), (.iload_n 1, []), (.iaload, []), (.istore_n 2, []), (.aload_n 0, []), (.getfield 39, [0, 12, 0]), (.ifCond .ne 13, [1]), (.aload_n 0, []), (.getfield 66, [0, 13, 0]), (.iload_n 1, []), (.if_icmp .ne 5, [1]), (.iconst 0, []), (.ireturn, [])], 0),
  (27, [0, 2], [(.aload_n 0, []), (.getfield 39, [0, 12, 0]), (.iconst 2, []), (.if_icmp .ne 11, [2]), (.iload_n 2, []), (.iconst 1, []), (.invokestatic 127, [911, 0]), (.goto 4, [3])], 0),
  (43, [2], [(.iload_n 2, [])], 3),
  (44, [], [(.ireturn, [])], 0)]
def mt_14 : Nat × Nat × List jB := (1, 3, k_Jo_waysOf)
set_option maxRecDepth 100000 in
theorem ck_14 : jok jm_14 mt_14 = true := by decide +kernel
def k_Jo_shareOf : List jB := [
  (0, [0, 1, 2], [(.aload_n 0, []), (.getfield 30, [0, 8, 4]), (.iload_n 2, []), (.iaload, []), (.istore_n 3, []), (.aload_n 0, []), (.getfield 39, [0, 12, 0]), (.iconst 4, []), (.if_icmp .ne 7, [1]), (.iload_n 3, []), (.iconst 2, []), (.idiv, []), (.ireturn, [])], 0),
  (19, [0, 1, 2, 3], [(.aload_n 0, []), (.getfield 39, [0, 12, 0]), (.iconst 3, []), (.if_icmp .ne 17, [2]), (.aload_n 0, []), (.getfield 66, [0, 13, 0]), (.iload_n 1, []), (.if_icmp .ne 9, [2]), (.iload_n 3, []), (.iload_n 3, []), (.iconst 2, []), (.idiv, []), (.isub, []), (.ireturn, [])], 0),
  (41, [0, 1, 2, 3], [(.aload_n 0, []), (.iload_n 1, []), (.invokevirtual 132, [16, 1, 0, 1]), (.istore 4, []), (.aload_n 0, []), (.aload_n 0, []), (.getfield 43, [0, 11, 3]), (.iload_n 1, []), (.aload_n 0, []), (.getfield 15, [0, 2, 4]), (.iload_n 1, []), (.iaload, []), (.invokevirtual 135, [101, 2, 6, 1]), (.invokevirtual 132, [16, 1, 0, 1]), (.istore 5, []), (.iload_n 3, []), (.iconst 2, []), (.irem, []), (.ifCond .eq 36, [3]), (.aload_n 0, []), (.getfield 43, [0, 11, 3]), (.getfield 138, [6, 12, 4]), (.iconst 4, []), (.iload_n 3, []), (.iload 4, []), (.iload 5, []), (.aload_n 0, []), (.getfield 33, [0, 9, 4]), (.iload_n 2, []), (.iaload, []), (.aload_n 0, []), (.getfield 69, [0, 0, 0]), (.invokevirtual 142, [23, 6, 1, 1]), (.ifCond .eq 7, [3]), (.iconst 1, []), (.goto 4, [4])], 0),
  (107, [3], [(.iconst 0, [])], 4),
  (108, [3], [(.istore 6, []), (.iload 6, []), (.ifCond .eq 11, [5]), (.iload_n 3, []), (.iconst 2, []), (.idiv, []), (.iconst 1, []), (.iadd, []), (.goto 6, [6])], 0),
  (123, [3], [(.iload_n 3, []), (.iconst 2, []), (.idiv, [])], 6),
  (126, [], [(.ireturn, [])], 0)]
def mt_15 : Nat × Nat × List jB := (1, 7, k_Jo_shareOf)
set_option maxRecDepth 100000 in
theorem ck_15 : jok jm_15 mt_15 = true := by decide +kernel
def k_Jo_ageOf : List jB := [
  (0, [0, 1], [(.aload_n 0, []), (.getfield 39, [0, 12, 0]), (.iconst 1, []), (.if_icmp .eq 14, [1]), (.aload_n 0, []), (.getfield 43, [0, 11, 3]), (.iload_n 1, []), (.invokevirtual 148, [93, 1, 6, 1]), (.ifCond .ne 7, [2])], 1),
  (19, [], [(.iconst 0, []), (.goto 12, [3])], 0),
  (23, [0, 1], [(.aload_n 0, []), (.getfield 43, [0, 11, 3]), (.getfield 151, [6, 2, 4]), (.iload_n 1, []), (.iaload, [])], 3),
  (32, [], [(.ireturn, [])], 0)]
def mt_16 : Nat × Nat × List jB := (1, 2, k_Jo_ageOf)
set_option maxRecDepth 100000 in
theorem ck_16 : jok jm_16 mt_16 = true := by decide +kernel
def k_Jo_handOn : List jB := [
  (0, [0, 1, 2], [(.aload_n 0, []), (.getfield 27, [0, 7, 4]), (.iload_n 1, []), (.iconst 1, []), (.iastore, []), (.aload_n 0, []), (.getfield 36, [0, 10, 4]), (.iload_n 1, []), (.aload_n 0, []), (.getfield 43, [0, 11, 3]), (.iload_n 2, []), (.aload_n 0, []), (.getfield 15, [0, 2, 4]), (.iload_n 2, []), (.iaload, []), (.invokevirtual 135, [101, 2, 6, 1]), (.iastore, []), (.aload_n 0, []), (.getfield 15, [0, 2, 4]), (.iload_n 2, []), (.aload_n 0, []), (.getfield 15, [0, 2, 4]), (.iload_n 2, []), (.iaload, []), (.iconst 1, []), (.iadd, []), (.aload_n 0, []), (.iload_n 2, []), (.invokevirtual 110, [14, 1, 0, 1]), (.if_icmp .ge 14, [1]), (.aload_n 0, []), (.getfield 15, [0, 2, 4]), (.iload_n 2, []), (.iaload, []), (.iconst 1, []), (.iadd, []), (.goto 4, [2])], 0),
  (59, [], [(.iconst 0, [])], 2),
  (60, [], [(.iastore, []), (.return_, [])], 0)]
def mt_17 : Nat × Nat × List jB := (0, 3, k_Jo_handOn)
set_option maxRecDepth 100000 in
theorem ck_17 : jok jm_17 mt_17 = true := by decide +kernel
def k_Jo_settle : List jB := [
  (0, [0, 1, 2], [(.aload_n 0, []), (.getfield 9, [0, 1, 4]), (.iload_n 2, []), (.dup2, []), (.iaload, []), (.aload_n 0, []), (.getfield 30, [0, 8, 4]), (.iload_n 1, []), (.iaload, []), (.iadd, []), (.iastore, []), (.aload_n 0, []), (.getfield 30, [0, 8, 4]), (.iload_n 1, []), (.iconst 0, []), (.iastore, []), (.aload_n 0, []), (.getfield 27, [0, 7, 4]), (.iload_n 1, []), (.iconst 2, []), (.iastore, []), (.aload_n 0, []), (.getfield 36, [0, 10, 4]), (.iload_n 1, []), (.iconst (-1), []), (.iastore, []), (.return_, [])], 0)]
def mt_18 : Nat × Nat × List jB := (0, 3, k_Jo_settle)
set_option maxRecDepth 100000 in
theorem ck_18 : jok jm_18 mt_18 = true := by decide +kernel
def k_La_clear : List jB := [
  (0, [0], [(.aload_n 0, []), (.iconst 0, []), (.putfield 33, [1, 0, 0]), (.aload_n 0, []), (.iconst 0, []), (.putfield 37, [1, 2, 0]), (.aload_n 0, []), (.iconst 0, []), (.putfield 40, [1, 1, 1]), (.return_, [])], 0)]
def mt_19 : Nat × Nat × List jB := (0, 1, k_La_clear)
set_option maxRecDepth 100000 in
theorem ck_19 : jok jm_19 mt_19 = true := by decide +kernel
def k_La_open : List jB := [
  (0, [0, 1], [(.aload_n 0, []), (.getfield 20, [1, 5, 4]), (.iload_n 1, []), (.aload_n 0, []), (.getfield 37, [1, 2, 0]), (.iastore, []), (.return_, [])], 0)]
def mt_20 : Nat × Nat × List jB := (0, 2, k_La_open)
set_option maxRecDepth 100000 in
theorem ck_20 : jok jm_20 mt_20 = true := by decide +kernel
def k_La_close : List jB := [
  (0, [0, 1], [(.aload_n 0, []), (.getfield 23, [1, 6, 4]), (.iload_n 1, []), (.aload_n 0, []), (.getfield 37, [1, 2, 0]), (.iastore, []), (.return_, [])], 0)]
def mt_21 : Nat × Nat × List jB := (0, 2, k_La_close)
set_option maxRecDepth 100000 in
theorem ck_21 : jok jm_21 mt_21 = true := by decide +kernel
def k_La_write : List jB := [
  (0, [0, 1, 2], [(.aload_n 0, []), (.getfield 37, [1, 2, 0]), (.bipush 64, []), (.if_icmp .ge 33, [1]), (.aload_n 0, []), (.getfield 11, [1, 3, 4]), (.aload_n 0, []), (.getfield 37, [1, 2, 0]), (.iload_n 1, []), (.iastore, []), (.aload_n 0, []), (.getfield 17, [1, 4, 4]), (.aload_n 0, []), (.getfield 37, [1, 2, 0]), (.iload_n 2, []), (.iastore, []), (.aload_n 0, []), (.dup, []), (.getfield 37, [1, 2, 0]), (.iconst 1, []), (.iadd, []), (.putfield 37, [1, 2, 0])], 1),
  (39, [], [(.return_, [])], 0)]
def mt_22 : Nat × Nat × List jB := (0, 3, k_La_write)
set_option maxRecDepth 100000 in
theorem ck_22 : jok jm_22 mt_22 = true := by decide +kernel
def k_La_oddStays : List jB := [
  (0, [0, 1, 2, 3, 4, 5, 6], [(.iload_n 1, []), (.iconst 4, []), (.if_icmp .ne 22, [3]), (.aload_n 0, []), (.getfield 40, [1, 1, 1]), (.ifCond .ne 15, [3]), (.iload_n 3, []), (.iload 4, []), (.if_icmp .le 7, [1]), (.iconst 1, []), (.goto 4, [2])], 0),
  (22, [], [(.iconst 0, [])], 2),
  (23, [], [(.ireturn, [])], 0),
  (24, [0, 1, 2, 3, 4, 5, 6], [(.aload_n 0, []), (.iload_n 1, []), (.iload_n 2, []), (.iload_n 3, []), (.iload 4, []), (.iload 5, []), (.iload 6, []), (.invokevirtual 44, [25, 6, 1, 2]), (.lstore 7, []), (.lload 7, []), (.lconst 0, []), (.lcmp, []), (.ifCond .eq 16, [4]), (.lload 7, []), (.ldc2_w 48, [9223372036854775808]), (.lcmp, []), (.ifCond .eq 7, [4]), (.iconst 1, []), (.goto 4, [5])], 0),
  (59, [], [(.iconst 0, [])], 5),
  (60, [], [(.ireturn, [])], 0)]
def mt_23 : Nat × Nat × List jB := (2, 9, k_La_oddStays)
set_option maxRecDepth 100000 in
theorem ck_23 : jok jm_23 mt_23 = true := by decide +kernel
def k_La_share : List jB := [
  (0, [0, 1, 2, 3, 4, 5, 6], [(.iload_n 2, []), (.iconst 2, []), (.idiv, []), (.istore 7, []), (.iload_n 2, []), (.iconst 2, []), (.irem, []), (.ifCond .eq 26, [1]), (.aload_n 0, []), (.iload_n 1, []), (.iload_n 2, []), (.iload_n 3, []), (.iload 4, []), (.iload 5, []), (.iload 6, []), (.invokevirtual 50, [23, 6, 1, 1]), (.ifCond .eq 10, [1]), (.iload 7, []), (.iconst 1, []), (.iadd, []), (.goto 5, [2])], 0),
  (34, [7], [(.iload 7, [])], 2),
  (36, [], [(.ireturn, [])], 0)]
def mt_24 : Nat × Nat × List jB := (1, 8, k_La_share)
set_option maxRecDepth 100000 in
theorem ck_24 : jok jm_24 mt_24 = true := by decide +kernel
def k_La_value : List jB := [
  (0, [0, 1, 2, 3, 4, 5, 6], [(.aload_n 0, []), (.getfield 26, [1, 7, 4]), (.iconst 0, []), (.iload_n 2, []), (.iastore, []), (.aload_n 0, []), (.getfield 26, [1, 7, 4]), (.iconst 1, []), (.iload_n 3, []), (.iastore, []), (.aload_n 0, []), (.getfield 26, [1, 7, 4]), (.iconst 2, []), (.iload 4, []), (.iastore, []), (.aload_n 0, []), (.getfield 26, [1, 7, 4]), (.iconst 3, []), (.iload_n 3, []), (.iload 4, []), (.if_icmp .le 7, [1]), (.iconst 1, []), (.goto 4, [2])], 0),
  (37, [0, 1, 5, 6], [(.iconst 0, [])], 2),
  (38, [0, 1, 5, 6], [(.iastore, []), (.aload_n 0, []), (.getfield 26, [1, 7, 4]), (.iconst 4, []), (.iload 5, []), (.iastore, []), (.aload_n 0, []), (.getfield 26, [1, 7, 4]), (.iconst 5, []), (.iload 6, []), (.iastore, []), (.iconst 0, []), (.istore 7, []), (.aload_n 0, []), (.getfield 20, [1, 5, 4]), (.iload_n 1, []), (.iaload, []), (.istore 8, [])], 3),
  (66, [0, 1, 7, 8], [(.iload 8, []), (.aload_n 0, []), (.getfield 23, [1, 6, 4]), (.iload_n 1, []), (.iaload, []), (.if_icmp .ge 210, [12]), (.aload_n 0, []), (.getfield 11, [1, 3, 4]), (.iload 8, []), (.iaload, []), (.istore 9, []), (.iload 9, []), (.iconst 5, []), (.if_icmp .gt 31, [4]), (.iload 7, []), (.bipush 64, []), (.if_icmp .ge 24, [4]), (.aload_n 0, []), (.getfield 29, [1, 8, 4]), (.iload 7, []), (.aload_n 0, []), (.getfield 26, [1, 7, 4]), (.iload 9, []), (.iaload, []), (.i2l, []), (.lastore, []), (.iinc 7 1, []), (.goto 120, [9])], 0),
  (120, [0, 1, 7, 8, 9], [(.iload 9, []), (.bipush 17, []), (.if_icmp .ne 31, [5]), (.iload 7, []), (.bipush 64, []), (.if_icmp .ge 24, [5]), (.aload_n 0, []), (.getfield 29, [1, 8, 4]), (.iload 7, []), (.aload_n 0, []), (.getfield 17, [1, 4, 4]), (.iload 8, []), (.iaload, []), (.i2l, []), (.lastore, []), (.iinc 7 1, []), (.goto 85, [9])], 0),
  (155, [0, 1, 7, 8, 9], [(.iload 9, []), (.bipush 14, []), (.if_icmp .ne 39, [8]), (.iload 7, []), (.ifCond .le 34, [8]), (.aload_n 0, []), (.getfield 29, [1, 8, 4]), (.iload 7, []), (.iconst 1, []), (.isub, []), (.aload_n 0, []), (.getfield 29, [1, 8, 4]), (.iload 7, []), (.iconst 1, []), (.isub, []), (.laload, []), (.lconst 0, []), (.lcmp, []), (.ifCond .ne 7, [6]), (.lconst 1, []), (.goto 4, [7])], 0),
  (193, [0, 1, 7, 8], [(.lconst 0, [])], 7),
  (194, [0, 1, 7, 8], [(.lastore, []), (.goto 42, [9])], 0),
  (198, [0, 1, 7, 8, 9], [(.iload 7, []), (.iconst 1, []), (.if_icmp .le 36, [9]), (.iinc 7 (-1), []), (.aload_n 0, []), (.getfield 29, [1, 8, 4]), (.iload 7, []), (.iconst 1, []), (.isub, []), (.iload 9, []), (.aload_n 0, []), (.getfield 29, [1, 8, 4]), (.iload 7, []), (.iconst 1, []), (.isub, []), (.laload, []), (.aload_n 0, []), (.getfield 29, [1, 8, 4]), (.iload 7, []), (.laload, []), (.invokestatic 56, [26, 3, 2]), (.lastore, [])], 9),
  (237, [0, 1, 7, 8], [(.iload 7, []), (.ifCond .eq 35, [10]), (.aload_n 0, []), (.getfield 29, [1, 8, 4]), (.iload 7, []), (.iconst 1, []), (.isub, []), (.laload, []), (.ldc2_w 60, [1000000000000]), (.lcmp, []), (.ifCond .gt 19, [10]), (.aload_n 0, []), (.getfield 29, [1, 8, 4]), (.iload 7, []), (.iconst 1, []), (.isub, []), (.laload, []), (.ldc2_w 62, [18446743073709551616]), (.lcmp, []), (.ifCond .ge 7, [11])], 10),
  (274, [], [(.ldc2_w 48, [9223372036854775808]), (.lreturn, [])], 0),
  (278, [0, 1, 7, 8], [(.iinc 8 1, []), (.goto (-215), [3])], 0),
  (284, [0], [(.aload_n 0, []), (.getfield 29, [1, 8, 4]), (.iconst 0, []), (.laload, []), (.lreturn, [])], 0)]
def mt_25 : Nat × Nat × List jB := (3, 10, k_La_value)
set_option maxRecDepth 100000 in
theorem ck_25 : jok jm_25 mt_25 = true := by decide +kernel
def k_La_joined : List jB := [
  (0, [0, 1, 3], [(.lload_n 1, []), (.lconst 0, []), (.lcmp, []), (.ifCond .ge 8, [1]), (.lload_n 1, []), (.lneg, []), (.goto 4, [2])], 0),
  (11, [0, 1, 3], [(.lload_n 1, [])], 2),
  (12, [0, 1, 3], [(.lstore 5, []), (.lload_n 3, []), (.lconst 0, []), (.lcmp, []), (.ifCond .ge 8, [3]), (.lload_n 3, []), (.lneg, []), (.goto 4, [4])], 0),
  (25, [0, 1, 3, 5], [(.lload_n 3, [])], 4),
  (26, [0, 1, 3, 5], [(.lstore 7, []), (.iload_n 0, []), (.lookupswitch 272 #[(10, 194), (15, 176), (37, 160), (42, 115), (43, 107), (45, 111), (47, 144), (60, 212), (61, 236), (256, 224), (257, 248), (258, 260)], [38, 19, 16, 13, 7, 5, 6, 10, 23, 29, 26, 32, 35])], 0),
  (136, [1, 3], [(.lload_n 1, []), (.lload_n 3, []), (.ladd, []), (.lreturn, [])], 0),
  (140, [1, 3], [(.lload_n 1, []), (.lload_n 3, []), (.lsub, []), (.lreturn, [])], 0),
  (144, [1, 3, 5, 7], [(.lload 5, []), (.lconst 0, []), (.lcmp, []), (.ifCond .le 21, [8]), (.lload 7, []), (.ldc2_w 60, [1000000000000]), (.lload 5, []), (.ldiv, []), (.lcmp, []), (.ifCond .le 9, [8]), (.ldc2_w 48, [9223372036854775808]), (.goto 6, [9])], 0),
  (169, [1, 3], [(.lload_n 1, []), (.lload_n 3, []), (.lmul, [])], 9),
  (172, [], [(.lreturn, [])], 0),
  (173, [1, 3], [(.lload_n 3, []), (.lconst 0, []), (.lcmp, []), (.ifCond .ne 9, [11]), (.ldc2_w 48, [9223372036854775808]), (.goto 6, [12])], 0),
  (185, [1, 3], [(.lload_n 1, []), (.lload_n 3, []), (.ldiv, [])], 12),
  (188, [], [(.lreturn, [])], 0),
  (189, [1, 3], [(.lload_n 3, []), (.lconst 0, []), (.lcmp, []), (.ifCond .ne 9, [14]), (.ldc2_w 48, [9223372036854775808]), (.goto 6, [15])], 0),
  (201, [1, 3], [(.lload_n 1, []), (.lload_n 3, []), (.lrem, [])], 15),
  (204, [], [(.lreturn, [])], 0),
  (205, [1, 3], [(.lload_n 1, []), (.lconst 0, []), (.lcmp, []), (.ifCond .eq 13, [17]), (.lload_n 3, []), (.lconst 0, []), (.lcmp, []), (.ifCond .eq 7, [17]), (.lconst 1, []), (.goto 4, [18])], 0),
  (221, [], [(.lconst 0, [])], 18),
  (222, [], [(.lreturn, [])], 0),
  (223, [1, 3], [(.lload_n 1, []), (.lconst 0, []), (.lcmp, []), (.ifCond .ne 9, [20]), (.lload_n 3, []), (.lconst 0, []), (.lcmp, []), (.ifCond .eq 7, [21])], 20),
  (235, [], [(.lconst 1, []), (.goto 4, [22])], 0),
  (239, [], [(.lconst 0, [])], 22),
  (240, [], [(.lreturn, [])], 0),
  (241, [1, 3], [(.lload_n 1, []), (.lload_n 3, []), (.lcmp, []), (.ifCond .ge 7, [24]), (.lconst 1, []), (.goto 4, [25])], 0),
  (251, [], [(.lconst 0, [])], 25),
  (252, [], [(.lreturn, [])], 0),
  (253, [1, 3], [(.lload_n 1, []), (.lload_n 3, []), (.lcmp, []), (.ifCond .gt 7, [27]), (.lconst 1, []), (.goto 4, [28])], 0),
  (263, [], [(.lconst 0, [])], 28),
  (264, [], [(.lreturn, [])], 0),
  (265, [1, 3], [(.lload_n 1, []), (.lload_n 3, []), (.lcmp, []), (.ifCond .ne 7, [30]), (.lconst 1, []), (.goto 4, [31])], 0),
  (275, [], [(.lconst 0, [])], 31),
  (276, [], [(.lreturn, [])], 0),
  (277, [1, 3], [(.lload_n 1, []), (.lload_n 3, []), (.lcmp, []), (.ifCond .eq 7, [33]), (.lconst 1, []), (.goto 4, [34])], 0),
  (287, [], [(.lconst 0, [])], 34),
  (288, [], [(.lreturn, [])], 0),
  (289, [1, 3], [(.lload_n 1, []), (.lload_n 3, []), (.lcmp, []), (.ifCond .lt 7, [36]), (.lconst 1, []), (.goto 4, [37])], 0),
  (299, [], [(.lconst 0, [])], 37),
  (300, [], [(.lreturn, [])], 0),
  (301, [1, 3], [(.lload_n 1, []), (.lload_n 3, []), (.lcmp, []), (.ifCond .le 7, [39]), (.lconst 1, []), (.goto 4, [40])], 0),
  (311, [], [(.lconst 0, [])], 40),
  (312, [], [(.lreturn, [])], 0)]
def mt_26 : Nat × Nat × List jB := (3, 9, k_La_joined)
set_option maxRecDepth 100000 in
theorem ck_26 : jok jm_26 mt_26 = true := by decide +kernel
def k_Nt_clear : List jB := [
  (0, [0], [(.aload_n 0, []), (.iconst 0, []), (.putfield 39, [2, 0, 0]), (.aload_n 0, []), (.iconst (-1), []), (.putfield 9, [2, 1, 0]), (.return_, [])], 0)]
def mt_27 : Nat × Nat × List jB := (0, 1, k_Nt_clear)
set_option maxRecDepth 100000 in
theorem ck_27 : jok jm_27 mt_27 = true := by decide +kernel
def k_Nt_add : List jB := [
  (0, [0, 1, 2, 4, 5, 6], [(.aload_n 0, []), (.getfield 39, [2, 0, 0]), (.bipush 40, []), (.if_icmp .lt 5, [1]), (.iconst (-1), []), (.ireturn, [])], 0),
  (11, [0, 1, 2, 4, 5, 6], [(.aload_n 0, []), (.getfield 15, [2, 2, 4]), (.aload_n 0, []), (.getfield 39, [2, 0, 0]), (.iload_n 1, []), (.iastore, []), (.aload_n 0, []), (.getfield 19, [2, 3, 4]), (.aload_n 0, []), (.getfield 39, [2, 0, 0]), (.lload_n 2, []), (.lastore, []), (.aload_n 0, []), (.getfield 23, [2, 4, 4]), (.aload_n 0, []), (.getfield 39, [2, 0, 0]), (.iload 4, []), (.iastore, []), (.aload_n 0, []), (.getfield 26, [2, 5, 4]), (.aload_n 0, []), (.getfield 39, [2, 0, 0]), (.iload 5, []), (.iastore, []), (.aload_n 0, []), (.getfield 29, [2, 6, 4]), (.aload_n 0, []), (.getfield 39, [2, 0, 0]), (.iload 6, []), (.iastore, []), (.aload_n 0, []), (.getfield 32, [2, 7, 4]), (.aload_n 0, []), (.getfield 39, [2, 0, 0]), (.iconst (-1), []), (.iastore, []), (.aload_n 0, []), (.dup, []), (.getfield 39, [2, 0, 0]), (.iconst 1, []), (.iadd, []), (.putfield 39, [2, 0, 0]), (.aload_n 0, []), (.getfield 39, [2, 0, 0]), (.iconst 1, []), (.isub, []), (.ireturn, [])], 0)]
def mt_28 : Nat × Nat × List jB := (1, 7, k_Nt_add)
set_option maxRecDepth 100000 in
theorem ck_28 : jok jm_28 mt_28 = true := by decide +kernel
def k_Nt_addStrike : List jB := [
  (0, [0, 1], [(.aload_n 0, []), (.getfield 39, [2, 0, 0]), (.bipush 40, []), (.if_icmp .lt 5, [1]), (.iconst (-1), []), (.ireturn, [])], 0),
  (11, [0, 1], [(.aload_n 0, []), (.getfield 32, [2, 7, 4]), (.aload_n 0, []), (.getfield 39, [2, 0, 0]), (.iload_n 1, []), (.iastore, []), (.aload_n 0, []), (.dup, []), (.getfield 39, [2, 0, 0]), (.iconst 1, []), (.iadd, []), (.putfield 39, [2, 0, 0]), (.aload_n 0, []), (.getfield 39, [2, 0, 0]), (.iconst 1, []), (.isub, []), (.ireturn, [])], 0)]
def mt_29 : Nat × Nat × List jB := (1, 2, k_Nt_addStrike)
set_option maxRecDepth 100000 in
theorem ck_29 : jok jm_29 mt_29 = true := by decide +kernel
def k_Nt_knownSize : List jB := [
  (0, [0], [(.aload_n 0, []), (.getfield 9, [2, 1, 0]), (.iconst (-1), []), (.if_icmp .ne 10, [1]), (.aload_n 0, []), (.getfield 39, [2, 0, 0]), (.goto 7, [2])], 0),
  (15, [0], [(.aload_n 0, []), (.getfield 9, [2, 1, 0])], 2),
  (19, [], [(.ireturn, [])], 0)]
def mt_30 : Nat × Nat × List jB := (1, 1, k_Nt_knownSize)
set_option maxRecDepth 100000 in
theorem ck_30 : jok jm_30 mt_30 = true := by decide +kernel
def k_Nt_markStruck : List jB := [
  (0, [0], [(.iconst 0, []), (.istore_n 1, [])], 1),
  (2, [0, 1], [(.iload_n 1, []), (.aload_n 0, []), (.getfield 39, [2, 0, 0]), (.if_icmp .ge 16, [2]), (.aload_n 0, []), (.getfield 35, [2, 8, 4]), (.iload_n 1, []), (.iconst 0, []), (.bastore, []), (.iinc 1 1, []), (.goto (-18), [1])], 0),
  (23, [0], [(.aload_n 0, []), (.invokevirtual 42, [30, 0, 2, 1]), (.iconst 1, []), (.isub, []), (.istore_n 1, [])], 3),
  (30, [0, 1], [(.iload_n 1, []), (.ifCond .lt 40, [5]), (.aload_n 0, []), (.getfield 35, [2, 8, 4]), (.iload_n 1, []), (.baload, []), (.ifCond .ne 25, [4]), (.aload_n 0, []), (.getfield 32, [2, 7, 4]), (.iload_n 1, []), (.iaload, []), (.iconst (-1), []), (.if_icmp .eq 15, [4]), (.aload_n 0, []), (.getfield 35, [2, 8, 4]), (.aload_n 0, []), (.getfield 32, [2, 7, 4]), (.iload_n 1, []), (.iaload, []), (.iconst 1, []), (.bastore, [])], 4),
  (65, [0, 1], [(.iinc 1 (-1), []), (.goto (-38), [3])], 0),
  (71, [], [(.return_, [])], 0)]
def mt_31 : Nat × Nat × List jB := (0, 2, k_Nt_markStruck)
set_option maxRecDepth 100000 in
theorem ck_31 : jok jm_31 mt_31 = true := by decide +kernel
def k_Nt_holds : List jB := [
  (0, [0, 1], [(.iload_n 1, []), (.aload_n 0, []), (.invokevirtual 42, [30, 0, 2, 1]), (.if_icmp .ge 26, [1]), (.aload_n 0, []), (.getfield 32, [2, 7, 4]), (.iload_n 1, []), (.iaload, []), (.iconst (-1), []), (.if_icmp .ne 16, [1]), (.aload_n 0, []), (.getfield 35, [2, 8, 4]), (.iload_n 1, []), (.baload, []), (.ifCond .ne 7, [1]), (.iconst 1, []), (.goto 4, [2])], 0),
  (31, [], [(.iconst 0, [])], 2),
  (32, [], [(.ireturn, [])], 0)]
def mt_32 : Nat × Nat × List jB := (2, 2, k_Nt_holds)
set_option maxRecDepth 100000 in
theorem ck_32 : jok jm_32 mt_32 = true := by decide +kernel
def k_Nt_allows : List jB := [
  (0, [0, 1, 2], [(.iload_n 2, []), (.aload_n 0, []), (.getfield 26, [2, 5, 4]), (.iload_n 1, []), (.iaload, []), (.aload_n 0, []), (.getfield 29, [2, 6, 4]), (.iload_n 1, []), (.iaload, []), (.invokestatic 46, [152, 3, 1]), (.ireturn, [])], 0)]
def mt_33 : Nat × Nat × List jB := (2, 3, k_Nt_allows)
set_option maxRecDepth 100000 in
theorem ck_33 : jok jm_33 mt_33 = true := by decide +kernel
def k_Or_take : List jB := [
  (0, [0, 1, 2], [(.aload_n 0, []), (.aload_n 1, []), (.putfield 35, [3, 1, 3]), (.aload_n 0, []), (.iconst 0, []), (.putfield 39, [3, 2, 0]), (.iconst 0, []), (.istore_n 3, [])], 1),
  (12, [0, 2, 3], [(.iload_n 3, []), (.aload_n 0, []), (.getfield 35, [3, 1, 3]), (.getfield 43, [6, 0, 0]), (.if_icmp .ge 66, [3]), (.aload_n 0, []), (.getfield 31, [3, 0, 4]), (.iload_n 3, []), (.invokevirtual 48, [86, 1, 5, 1]), (.ifCond .eq 49, [2]), (.aload_n 0, []), (.getfield 39, [3, 2, 0]), (.bipush 8, []), (.if_icmp .ge 40, [2]), (.aload_n 0, []), (.getfield 9, [3, 3, 4]), (.aload_n 0, []), (.getfield 39, [3, 2, 0]), (.iload_n 3, []), (.iastore, []), (.aload_n 0, []), (.getfield 15, [3, 4, 4]), (.aload_n 0, []), (.getfield 39, [3, 2, 0]), (.aload_n 0, []), (.getfield 31, [3, 0, 4]), (.iload_n 3, []), (.invokevirtual 54, [85, 1, 5, 1]), (.iastore, []), (.aload_n 0, []), (.dup, []), (.getfield 39, [3, 2, 0]), (.iconst 1, []), (.iadd, []), (.putfield 39, [3, 2, 0])], 2),
  (80, [0, 2, 3], [(.iinc 3 1, []), (.goto (-71), [1])], 0),
  (86, [0, 2], [(.aload_n 0, []), (.getfield 18, [3, 5, 4]), (.iconst 0, []), (.iload_n 2, []), (.iastore, []), (.iconst 1, []), (.istore_n 3, [])], 4),
  (95, [0, 2, 3], [(.iload_n 3, []), (.aload_n 0, []), (.getfield 39, [3, 2, 0]), (.iconst 1, []), (.iadd, []), (.if_icmp .gt 20, [5]), (.aload_n 0, []), (.getfield 18, [3, 5, 4]), (.iload_n 3, []), (.iload_n 2, []), (.iload_n 3, []), (.iconst 1, []), (.isub, []), (.ishr, []), (.iastore, []), (.iinc 3 1, []), (.goto (-24), [4])], 0),
  (122, [0], [(.aload_n 0, []), (.invokevirtual 58, [35, 0, 3, 0]), (.return_, [])], 0)]
def mt_34 : Nat × Nat × List jB := (0, 4, k_Or_take)
set_option maxRecDepth 100000 in
theorem ck_34 : jok jm_34 mt_34 = true := by decide +kernel
def k_Or_askOddOnes : List jB := [
  (0, [0], [(.aload_n 0, []), (.getfield 31, [3, 0, 4]), (.getfield 61, [5, 1, 4]), (.aload_n 0, []), (.getfield 31, [3, 0, 4]), (.getfield 63, [5, 0, 0]), (.iconst 1, []), (.isub, []), (.iaload, []), (.istore_n 1, []), (.iconst 1, []), (.istore_n 2, [])], 1),
  (20, [0, 1, 2], [(.iload_n 2, []), (.aload_n 0, []), (.getfield 39, [3, 2, 0]), (.if_icmp .gt 85, [7]), (.iconst 0, []), (.istore_n 3, [])], 2),
  (30, [0, 1, 2, 3], [(.iload_n 3, []), (.aload_n 0, []), (.getfield 39, [3, 2, 0]), (.if_icmp .ge 69, [6]), (.iconst 0, []), (.istore 4, [])], 3),
  (41, [0, 1, 2, 3, 4], [(.iload_n 2, []), (.aload_n 0, []), (.getfield 39, [3, 2, 0]), (.if_icmp .ge 33, [4]), (.iload 4, []), (.aload_n 0, []), (.getfield 39, [3, 2, 0]), (.if_icmp .ge 24, [4]), (.aload_n 0, []), (.iload_n 2, []), (.iload_n 3, []), (.iload 4, []), (.aload_n 0, []), (.getfield 9, [3, 3, 4]), (.iload 4, []), (.iaload, []), (.invokevirtual 66, [36, 4, 3, 0]), (.iinc 4 1, []), (.goto (-35), [3])], 0),
  (79, [0, 1, 2, 3], [(.iload_n 2, []), (.aload_n 0, []), (.getfield 39, [3, 2, 0]), (.if_icmp .ne 14, [5]), (.aload_n 0, []), (.iload_n 2, []), (.iload_n 3, []), (.aload_n 0, []), (.getfield 39, [3, 2, 0]), (.iload_n 1, []), (.invokevirtual 66, [36, 4, 3, 0])], 5),
  (98, [0, 1, 2, 3], [(.iinc 3 1, []), (.goto (-71), [2])], 0),
  (104, [0, 1, 2], [(.iinc 2 1, []), (.goto (-87), [1])], 0),
  (110, [], [(.return_, [])], 0)]
def mt_35 : Nat × Nat × List jB := (0, 5, k_Or_askOddOnes)
set_option maxRecDepth 100000 in
theorem ck_35 : jok jm_35 mt_35 = true := by decide +kernel
def k_Or_askOddOne : List jB := [
  (0, [0, 1, 2, 3, 4], [(.aload_n 0, []), (.getfield 35, [3, 1, 3]), (.getfield 70, [6, 2, 4]), (.aload_n 0, []), (.getfield 9, [3, 3, 4]), (.iload_n 2, []), (.iaload, []), (.iaload, []), (.istore 5, []), (.aload_n 0, []), (.getfield 21, [3, 6, 4]), (.iload_n 1, []), (.iload_n 2, []), (.iload_n 3, []), (.invokestatic 73, [37, 3, 1]), (.aload_n 0, []), (.getfield 35, [3, 1, 3]), (.getfield 77, [6, 12, 4]), (.iconst 4, []), (.aload_n 0, []), (.getfield 18, [3, 5, 4]), (.iload_n 1, []), (.iaload, []), (.iconst 1, []), (.ior, []), (.iload 5, []), (.aload_n 0, []), (.getfield 35, [3, 1, 3]), (.getfield 70, [6, 2, 4]), (.iload 4, []), (.iaload, []), (.iload_n 1, []), (.iconst 0, []), (.invokevirtual 81, [23, 6, 1, 1]), (.bastore, []), (.return_, [])], 0)]
def mt_36 : Nat × Nat × List jB := (0, 6, k_Or_askOddOne)
set_option maxRecDepth 100000 in
theorem ck_36 : jok jm_36 mt_36 = true := by decide +kernel
def k_Or_way : List jB := [
  (0, [0, 1, 2], [(.iload_n 0, []), (.bipush 9, []), (.imul, []), (.iload_n 1, []), (.iadd, []), (.bipush 9, []), (.imul, []), (.iload_n 2, []), (.iadd, []), (.ireturn, [])], 0)]
def mt_37 : Nat × Nat × List jB := (1, 3, k_Or_way)
set_option maxRecDepth 100000 in
theorem ck_37 : jok jm_37 mt_37 = true := by decide +kernel
def k_Or_mostArriving : List jB := [
  (0, [0], [(.aload_n 0, []), (.getfield 18, [3, 5, 4]), (.iconst 0, []), (.iaload, []), (.aload_n 0, []), (.getfield 39, [3, 2, 0]), (.invokestatic 87, [153, 2, 1]), (.istore_n 1, []), (.aload_n 0, []), (.iconst 0, []), (.iload_n 1, []), (.invokevirtual 91, [47, 2, 3, 1]), (.ifCond .le 7, [1]), (.iload_n 1, []), (.goto 14, [2])], 0),
  (27, [0], [(.aload_n 0, []), (.getfield 18, [3, 5, 4]), (.aload_n 0, []), (.getfield 39, [3, 2, 0]), (.iconst 1, []), (.iadd, []), (.iaload, [])], 2),
  (38, [], [(.ireturn, [])], 0)]
def mt_38 : Nat × Nat × List jB := (1, 2, k_Or_mostArriving)
set_option maxRecDepth 100000 in
theorem ck_38 : jok jm_38 mt_38 = true := by decide +kernel
def k_Or_leastArriving : List jB := [
  (0, [0], [(.aload_n 0, []), (.getfield 18, [3, 5, 4]), (.aload_n 0, []), (.getfield 39, [3, 2, 0]), (.iconst 1, []), (.iadd, []), (.iaload, []), (.istore_n 1, []), (.aload_n 0, []), (.iconst 0, []), (.iload_n 1, []), (.invokevirtual 91, [47, 2, 3, 1]), (.ifCond .le 7, [1]), (.iload_n 1, []), (.goto 16, [2])], 0),
  (25, [0], [(.aload_n 0, []), (.getfield 18, [3, 5, 4]), (.iconst 0, []), (.iaload, []), (.aload_n 0, []), (.getfield 39, [3, 2, 0]), (.invokestatic 87, [153, 2, 1])], 2),
  (38, [], [(.ireturn, [])], 0)]
def mt_39 : Nat × Nat × List jB := (1, 2, k_Or_leastArriving)
set_option maxRecDepth 100000 in
theorem ck_39 : jok jm_39 mt_39 = true := by decide +kernel
def k_Or_howManyBring : List jB := [
  (0, [0, 1], [(.aload_n 0, []), (.iconst 0, []), (.iload_n 1, []), (.invokevirtual 91, [47, 2, 3, 1]), (.ireturn, [])], 0)]
def mt_40 : Nat × Nat × List jB := (1, 2, k_Or_howManyBring)
set_option maxRecDepth 100000 in
theorem ck_40 : jok jm_40 mt_40 = true := by decide +kernel
def k_Or_firstBringing : List jB := [
  (0, [0, 1], [(.aload_n 0, []), (.iload_n 1, []), (.invokevirtual 94, [40, 1, 3, 1]), (.ifCond .le 11, [1]), (.aload_n 0, []), (.iconst 0, []), (.invokevirtual 97, [58, 1, 3, 2]), (.goto 6, [2])], 0),
  (16, [], [(.ldc2_w 101, [18446744073709551614])], 2),
  (19, [], [(.lreturn, [])], 0)]
def mt_41 : Nat × Nat × List jB := (3, 2, k_Or_firstBringing)
set_option maxRecDepth 100000 in
theorem ck_41 : jok jm_41 mt_41 = true := by decide +kernel
def k_Or_fewestSwaps : List jB := [
  (0, [0, 1], [(.aload_n 0, []), (.iconst 1, []), (.iload_n 1, []), (.invokevirtual 91, [47, 2, 3, 1]), (.istore_n 2, []), (.iload_n 2, []), (.ldc 103, [536870912]), (.if_icmp .ge 7, [1]), (.iload_n 2, []), (.goto 5, [2])], 0),
  (17, [], [(.bipush (-2), [])], 2),
  (19, [], [(.ireturn, [])], 0)]
def mt_42 : Nat × Nat × List jB := (1, 3, k_Or_fewestSwaps)
set_option maxRecDepth 100000 in
theorem ck_42 : jok jm_42 mt_42 = true := by decide +kernel
end
section
/-! The methods' blocks, held against their bytes. Printed by wip/gen/code.py. -/
def k_Or_nearestBringing : List jB := [
  (0, [0, 1], [(.aload_n 0, []), (.iload_n 1, []), (.invokevirtual 104, [42, 1, 3, 1]), (.istore_n 2, []), (.iload_n 2, []), (.ifCond .lt 11, [1]), (.aload_n 0, []), (.iload_n 2, []), (.invokevirtual 97, [58, 1, 3, 2]), (.goto 6, [2])], 0),
  (18, [], [(.ldc2_w 101, [18446744073709551614])], 2),
  (21, [], [(.lreturn, [])], 0)]
def mt_43 : Nat × Nat × List jB := (3, 3, k_Or_nearestBringing)
set_option maxRecDepth 100000 in
theorem ck_43 : jok jm_43 mt_43 = true := by decide +kernel
def k_Or_gain : List jB := [
  (0, [0, 1, 2], [(.aload_n 0, []), (.iload_n 2, []), (.ifCond .eq 7, [1]), (.iconst 2, []), (.goto 4, [2])], 0),
  (9, [0, 1], [(.iconst 3, [])], 2),
  (10, [0, 1], [(.aload_n 0, []), (.iload_n 1, []), (.invokevirtual 107, [46, 1, 3, 1]), (.invokevirtual 91, [47, 2, 3, 1]), (.ireturn, [])], 0)]
def mt_44 : Nat × Nat × List jB := (1, 3, k_Or_gain)
set_option maxRecDepth 100000 in
theorem ck_44 : jok jm_44 mt_44 = true := by decide +kernel
def k_Or_gainPlace : List jB := [
  (0, [0, 1, 2], [(.aload_n 0, []), (.aload_n 0, []), (.iload_n 1, []), (.iload_n 2, []), (.invokevirtual 110, [44, 2, 3, 1]), (.invokevirtual 114, [59, 1, 3, 0]), (.aload_n 0, []), (.getfield 118, [3, 9, 0]), (.ireturn, [])], 0)]
def mt_45 : Nat × Nat × List jB := (1, 3, k_Or_gainPlace)
set_option maxRecDepth 100000 in
theorem ck_45 : jok jm_45 mt_45 = true := by decide +kernel
def k_Or_numberOf : List jB := [
  (0, [0, 1], [(.iconst 0, []), (.istore_n 2, [])], 1),
  (2, [0, 1, 2], [(.iload_n 2, []), (.aload_n 0, []), (.getfield 39, [3, 2, 0]), (.if_icmp .ge 21, [3]), (.aload_n 0, []), (.getfield 9, [3, 3, 4]), (.iload_n 2, []), (.iaload, []), (.iload_n 1, []), (.if_icmp .ne 5, [2]), (.iload_n 2, []), (.ireturn, [])], 0),
  (22, [0, 1, 2], [(.iinc 2 1, []), (.goto (-23), [1])], 0),
  (28, [], [(.iconst (-1), []), (.ireturn, [])], 0)]
def mt_46 : Nat × Nat × List jB := (1, 3, k_Or_numberOf)
set_option maxRecDepth 100000 in
theorem ck_46 : jok jm_46 mt_46 = true := by decide +kernel
def k_Or_solved : List jB := [
  (0, [0, 1, 2], [(.aload_n 0, []), (.iload_n 1, []), (.putfield 121, [3, 10, 0]), (.aload_n 0, []), (.iload_n 2, []), (.putfield 124, [3, 11, 0]), (.aload_n 0, []), (.invokevirtual 127, [48, 0, 3, 1]), (.istore_n 3, [])], 1),
  (15, [0, 3], [(.iload_n 3, []), (.ifCond .le 76, [5]), (.iconst 0, []), (.istore 4, [])], 2),
  (22, [0, 3, 4], [(.iload 4, []), (.aload_n 0, []), (.getfield 39, [3, 2, 0]), (.if_icmp .ge 58, [4]), (.iload_n 3, []), (.iload 4, []), (.invokestatic 131, [49, 2, 1]), (.ifCond .eq 43, [3]), (.aload_n 0, []), (.getfield 25, [3, 7, 4]), (.iload_n 3, []), (.iload 4, []), (.iconst 0, []), (.invokestatic 135, [50, 3, 1]), (.aload_n 0, []), (.iload_n 3, []), (.iload 4, []), (.iconst 0, []), (.invokevirtual 138, [51, 3, 3, 1]), (.iastore, []), (.aload_n 0, []), (.getfield 25, [3, 7, 4]), (.iload_n 3, []), (.iload 4, []), (.iconst 1, []), (.invokestatic 135, [50, 3, 1]), (.aload_n 0, []), (.iload_n 3, []), (.iload 4, []), (.iconst 1, []), (.invokevirtual 138, [51, 3, 3, 1]), (.iastore, [])], 3),
  (80, [0, 3, 4], [(.iinc 4 1, []), (.goto (-61), [2])], 0),
  (86, [0, 3], [(.iinc 3 (-1), []), (.goto (-74), [1])], 0),
  (92, [0], [(.aload_n 0, []), (.iconst 0, []), (.iconst 0, []), (.iconst 0, []), (.invokevirtual 138, [51, 3, 3, 1]), (.ireturn, [])], 0)]
def mt_47 : Nat × Nat × List jB := (1, 5, k_Or_solved)
set_option maxRecDepth 100000 in
theorem ck_47 : jok jm_47 mt_47 = true := by decide +kernel
def k_Or_everybody : List jB := [
  (0, [0], [(.iconst 1, []), (.aload_n 0, []), (.getfield 39, [3, 2, 0]), (.ishl, []), (.iconst 1, []), (.isub, []), (.ireturn, [])], 0)]
def mt_48 : Nat × Nat × List jB := (1, 1, k_Or_everybody)
set_option maxRecDepth 100000 in
theorem ck_48 : jok jm_48 mt_48 = true := by decide +kernel
def k_Or_has : List jB := [
  (0, [0, 1], [(.iload_n 0, []), (.iload_n 1, []), (.ishr, []), (.iconst 1, []), (.iand, []), (.ifCond .eq 7, [1]), (.iconst 1, []), (.goto 4, [2])], 0),
  (12, [], [(.iconst 0, [])], 2),
  (13, [], [(.ireturn, [])], 0)]
def mt_49 : Nat × Nat × List jB := (2, 2, k_Or_has)
set_option maxRecDepth 100000 in
theorem ck_49 : jok jm_49 mt_49 = true := by decide +kernel
def k_Or_state : List jB := [
  (0, [0, 1, 2], [(.iload_n 0, []), (.bipush 8, []), (.imul, []), (.iload_n 1, []), (.iadd, []), (.iconst 2, []), (.imul, []), (.iload_n 2, []), (.iadd, []), (.ireturn, [])], 0)]
def mt_50 : Nat × Nat × List jB := (1, 3, k_Or_state)
set_option maxRecDepth 100000 in
theorem ck_50 : jok jm_50 mt_50 = true := by decide +kernel
def k_Or_judged : List jB := [
  (0, [0, 1, 2, 3], [(.aload_n 0, []), (.getfield 18, [3, 5, 4]), (.iload_n 1, []), (.invokestatic 141, [255, 1, 1]), (.iaload, []), (.iload_n 3, []), (.iadd, []), (.istore 4, []), (.iload_n 1, []), (.aload_n 0, []), (.invokevirtual 127, [48, 0, 3, 1]), (.if_icmp .ne 12, [1]), (.aload_n 0, []), (.iload_n 1, []), (.iload_n 2, []), (.iload 4, []), (.invokevirtual 146, [52, 3, 3, 1]), (.ireturn, [])], 0),
  (30, [0, 1, 2, 4], [(.aload_n 0, []), (.getfield 121, [3, 10, 0]), (.ifCond .ne 7, [2]), (.iconst 0, []), (.goto 17, [4])], 0),
  (41, [0, 1, 2, 4], [(.aload_n 0, []), (.getfield 121, [3, 10, 0]), (.iconst 2, []), (.if_icmp .ne 7, [3]), (.iconst (-1), []), (.goto 5, [4])], 0),
  (53, [0, 1, 2, 4], [(.ldc 103, [536870912])], 4),
  (55, [0, 1, 2, 4], [(.istore 5, []), (.iconst 0, []), (.istore 6, [])], 5),
  (60, [0, 1, 2, 4, 5, 6], [(.iload 6, []), (.aload_n 0, []), (.getfield 39, [3, 2, 0]), (.if_icmp .ge 36, [7]), (.iload_n 1, []), (.iload 6, []), (.invokestatic 131, [49, 2, 1]), (.ifCond .ne 21, [6]), (.aload_n 0, []), (.iload 5, []), (.aload_n 0, []), (.iload_n 1, []), (.iload_n 2, []), (.iload 4, []), (.iload 6, []), (.invokevirtual 149, [53, 4, 3, 1]), (.invokevirtual 153, [55, 2, 3, 1]), (.istore 5, [])], 6),
  (96, [0, 1, 2, 4, 5, 6], [(.iinc 6 1, []), (.goto (-39), [5])], 0),
  (102, [5], [(.iload 5, []), (.ireturn, [])], 0)]
def mt_51 : Nat × Nat × List jB := (1, 7, k_Or_judged)
set_option maxRecDepth 100000 in
theorem ck_51 : jok jm_51 mt_51 = true := by decide +kernel
def k_Or_judgedEnd : List jB := [
  (0, [0, 1, 2, 3], [(.aload_n 0, []), (.iload_n 1, []), (.iload_n 2, []), (.iload_n 3, []), (.aload_n 0, []), (.getfield 39, [3, 2, 0]), (.invokevirtual 156, [56, 4, 3, 1]), (.istore 4, []), (.aload_n 0, []), (.iload_n 1, []), (.iload_n 2, []), (.invokevirtual 159, [54, 2, 3, 1]), (.ifCond .eq 8, [1]), (.iload_n 3, []), (.iload 4, []), (.isub, []), (.ireturn, [])], 0),
  (27, [0, 4], [(.iload 4, []), (.aload_n 0, []), (.getfield 124, [3, 11, 0]), (.if_icmp .ne 7, [2]), (.iconst 1, []), (.goto 4, [3])], 0),
  (40, [0], [(.iconst 0, [])], 3),
  (41, [0], [(.istore 5, []), (.aload_n 0, []), (.getfield 121, [3, 10, 0]), (.ifCond .ne 14, [6]), (.iload 5, []), (.ifCond .eq 7, [4]), (.iconst 1, []), (.goto 4, [5])], 0),
  (59, [], [(.iconst 0, [])], 5),
  (60, [], [(.ireturn, [])], 0),
  (61, [0, 5], [(.aload_n 0, []), (.getfield 121, [3, 10, 0]), (.iconst 1, []), (.if_icmp .ne 12, [7]), (.iload 5, []), (.ifCond .eq 7, [7]), (.iconst 0, []), (.goto 5, [8])], 0),
  (78, [], [(.ldc 103, [536870912])], 8),
  (80, [], [(.ireturn, [])], 0)]
def mt_52 : Nat × Nat × List jB := (1, 6, k_Or_judgedEnd)
set_option maxRecDepth 100000 in
theorem ck_52 : jok jm_52 mt_52 = true := by decide +kernel
def k_Or_judgedStep : List jB := [
  (0, [0, 1, 2, 3, 4], [(.aload_n 0, []), (.iload_n 1, []), (.iload_n 2, []), (.iload_n 3, []), (.iload 4, []), (.invokevirtual 156, [56, 4, 3, 1]), (.istore 5, []), (.aload_n 0, []), (.iload_n 1, []), (.iload_n 2, []), (.invokevirtual 159, [54, 2, 3, 1]), (.ifCond .eq 8, [1]), (.iload_n 3, []), (.iload 5, []), (.isub, []), (.ireturn, [])], 0),
  (25, [0, 1, 4, 5], [(.iload 5, []), (.aload_n 0, []), (.getfield 18, [3, 5, 4]), (.iload_n 1, []), (.invokestatic 141, [255, 1, 1]), (.iconst 1, []), (.iadd, []), (.iaload, []), (.if_icmp .le 7, [2]), (.iconst 1, []), (.goto 4, [3])], 0),
  (45, [0, 1, 4], [(.iconst 0, [])], 3),
  (46, [0, 1, 4], [(.istore 6, []), (.aload_n 0, []), (.getfield 25, [3, 7, 4]), (.iload_n 1, []), (.iconst 1, []), (.iload 4, []), (.ishl, []), (.ior, []), (.iload 4, []), (.iload 6, []), (.invokestatic 135, [50, 3, 1]), (.iaload, []), (.istore 7, []), (.aload_n 0, []), (.getfield 121, [3, 10, 0]), (.iconst 1, []), (.if_icmp .ne 16, [4]), (.iload 7, []), (.aload_n 0, []), (.iload_n 1, []), (.iload 4, []), (.invokevirtual 162, [57, 2, 3, 1]), (.iadd, []), (.goto 5, [5])], 0),
  (89, [7], [(.iload 7, [])], 5),
  (91, [], [(.ireturn, [])], 0)]
def mt_53 : Nat × Nat × List jB := (1, 8, k_Or_judgedStep)
set_option maxRecDepth 100000 in
theorem ck_53 : jok jm_53 mt_53 = true := by decide +kernel
def k_Or_isAskedOf : List jB := [
  (0, [0, 1, 2], [(.aload_n 0, []), (.getfield 121, [3, 10, 0]), (.iconst 2, []), (.if_icmp .eq 11, [1]), (.aload_n 0, []), (.getfield 121, [3, 10, 0]), (.iconst 3, []), (.if_icmp .ne 19, [2])], 1),
  (16, [0, 1, 2], [(.iload_n 1, []), (.ifCond .eq 15, [2]), (.iload_n 2, []), (.aload_n 0, []), (.getfield 124, [3, 11, 0]), (.if_icmp .ne 7, [2]), (.iconst 1, []), (.goto 4, [3])], 0),
  (32, [], [(.iconst 0, [])], 3),
  (33, [], [(.ireturn, [])], 0)]
def mt_54 : Nat × Nat × List jB := (2, 3, k_Or_isAskedOf)
set_option maxRecDepth 100000 in
theorem ck_54 : jok jm_54 mt_54 = true := by decide +kernel
def k_Or_joined : List jB := [
  (0, [0, 1, 2], [(.aload_n 0, []), (.getfield 121, [3, 10, 0]), (.lookupswitch 38 #[(0, 28), (2, 32)], [3, 1, 2])], 0),
  (32, [1, 2], [(.iload_n 1, []), (.iload_n 2, []), (.iadd, []), (.ireturn, [])], 0),
  (36, [1, 2], [(.iload_n 1, []), (.iload_n 2, []), (.invokestatic 165, [910, 0]), (.ireturn, [])], 0),
  (42, [1, 2], [(.iload_n 1, []), (.iload_n 2, []), (.invokestatic 170, [911, 0]), (.ireturn, [])], 0)]
def mt_55 : Nat × Nat × List jB := (1, 3, k_Or_joined)
set_option maxRecDepth 100000 in
theorem ck_55 : jok jm_55 mt_55 = true := by decide +kernel
def k_Or_handed : List jB := [
  (0, [0, 1, 2, 3, 4], [(.iload_n 1, []), (.ifCond .ne 5, [1]), (.iload_n 3, []), (.ireturn, [])], 0),
  (6, [0, 1, 2, 3, 4], [(.iload_n 3, []), (.iconst 2, []), (.irem, []), (.ifCond .eq 25, [2]), (.aload_n 0, []), (.getfield 21, [3, 6, 4]), (.iload_n 1, []), (.invokestatic 141, [255, 1, 1]), (.iload_n 2, []), (.iload 4, []), (.invokestatic 73, [37, 3, 1]), (.baload, []), (.ifCond .ne 7, [2]), (.iconst 1, []), (.goto 4, [3])], 0),
  (34, [3], [(.iconst 0, [])], 3),
  (35, [3], [(.istore 5, []), (.iload 5, []), (.ifCond .eq 11, [4]), (.iload_n 3, []), (.iconst 2, []), (.idiv, []), (.iconst 1, []), (.iadd, []), (.goto 6, [5])], 0),
  (50, [3], [(.iload_n 3, []), (.iconst 2, []), (.idiv, [])], 5),
  (53, [], [(.ireturn, [])], 0)]
def mt_56 : Nat × Nat × List jB := (1, 6, k_Or_handed)
set_option maxRecDepth 100000 in
theorem ck_56 : jok jm_56 mt_56 = true := by decide +kernel
def k_Or_overtaken : List jB := [
  (0, [0, 1, 2], [(.iconst 0, []), (.istore_n 3, []), (.iconst 0, []), (.istore 4, [])], 1),
  (5, [0, 1, 2, 3, 4], [(.iload 4, []), (.aload_n 0, []), (.getfield 39, [3, 2, 0]), (.if_icmp .ge 37, [3]), (.iload_n 1, []), (.iload 4, []), (.invokestatic 131, [49, 2, 1]), (.ifCond .ne 22, [2]), (.aload_n 0, []), (.getfield 15, [3, 4, 4]), (.iload 4, []), (.iaload, []), (.aload_n 0, []), (.getfield 15, [3, 4, 4]), (.iload_n 2, []), (.iaload, []), (.if_icmp .ge 6, [2]), (.iinc 3 1, [])], 2),
  (42, [0, 1, 2, 3, 4], [(.iinc 4 1, []), (.goto (-40), [1])], 0),
  (48, [3], [(.iload_n 3, []), (.ireturn, [])], 0)]
def mt_57 : Nat × Nat × List jB := (1, 5, k_Or_overtaken)
set_option maxRecDepth 100000 in
theorem ck_57 : jok jm_57 mt_57 = true := by decide +kernel
def k_Or_laidRow : List jB := [
  (0, [0, 1], [(.aload_n 0, []), (.iload_n 1, []), (.invokevirtual 114, [59, 1, 3, 0]), (.aload_n 0, []), (.getfield 31, [3, 0, 4]), (.getfield 61, [5, 1, 4]), (.iconst 0, []), (.iaload, []), (.iconst 0, []), (.invokestatic 173, [83, 2, 2]), (.lstore_n 2, []), (.iconst 0, []), (.istore 4, [])], 1),
  (22, [0, 2, 4], [(.iload 4, []), (.aload_n 0, []), (.getfield 118, [3, 9, 0]), (.if_icmp .ge 31, [2]), (.lload_n 2, []), (.aload_n 0, []), (.getfield 9, [3, 3, 4]), (.aload_n 0, []), (.getfield 28, [3, 8, 4]), (.iload 4, []), (.iaload, []), (.iaload, []), (.iload 4, []), (.iconst 1, []), (.iadd, []), (.invokestatic 173, [83, 2, 2]), (.lor, []), (.lstore_n 2, []), (.iinc 4 1, []), (.goto (-34), [1])], 0),
  (59, [0, 2], [(.lload_n 2, []), (.aload_n 0, []), (.getfield 31, [3, 0, 4]), (.getfield 61, [5, 1, 4]), (.aload_n 0, []), (.getfield 31, [3, 0, 4]), (.getfield 63, [5, 0, 0]), (.iconst 1, []), (.isub, []), (.iaload, []), (.aload_n 0, []), (.getfield 31, [3, 0, 4]), (.getfield 63, [5, 0, 0]), (.iconst 1, []), (.isub, []), (.invokestatic 173, [83, 2, 2]), (.lor, []), (.lreturn, [])], 0)]
def mt_58 : Nat × Nat × List jB := (3, 5, k_Or_laidRow)
set_option maxRecDepth 100000 in
theorem ck_58 : jok jm_58 mt_58 = true := by decide +kernel
def k_Or_lay : List jB := [
  (0, [0, 1], [(.iload_n 1, []), (.istore_n 2, []), (.iconst 0, []), (.istore_n 3, []), (.iconst 0, []), (.istore 4, []), (.aload_n 0, []), (.getfield 18, [3, 5, 4]), (.iconst 0, []), (.iaload, []), (.istore 5, []), (.aload_n 0, []), (.iconst 0, []), (.putfield 118, [3, 9, 0])], 1),
  (20, [0, 2, 3, 4, 5], [(.aload_n 0, []), (.getfield 118, [3, 9, 0]), (.aload_n 0, []), (.getfield 39, [3, 2, 0]), (.if_icmp .ge 91, [3]), (.aload_n 0, []), (.iload_n 3, []), (.iload 4, []), (.invokevirtual 159, [54, 2, 3, 1]), (.ifCond .ne 81, [3]), (.aload_n 0, []), (.iload_n 3, []), (.iload 4, []), (.iload 5, []), (.iload_n 2, []), (.invokevirtual 177, [60, 4, 3, 1]), (.istore 6, []), (.aload_n 0, []), (.getfield 121, [3, 10, 0]), (.iconst 1, []), (.if_icmp .ne 13, [2]), (.iload_n 2, []), (.aload_n 0, []), (.iload_n 3, []), (.iload 6, []), (.invokevirtual 162, [57, 2, 3, 1]), (.isub, []), (.istore_n 2, [])], 2),
  (71, [0, 2, 3, 4, 5, 6], [(.aload_n 0, []), (.iload_n 3, []), (.iload 4, []), (.iload 5, []), (.iload 6, []), (.invokevirtual 156, [56, 4, 3, 1]), (.istore 5, []), (.iload_n 3, []), (.iconst 1, []), (.iload 6, []), (.ishl, []), (.ior, []), (.istore_n 3, []), (.iload 6, []), (.istore 4, []), (.aload_n 0, []), (.getfield 28, [3, 8, 4]), (.aload_n 0, []), (.getfield 118, [3, 9, 0]), (.iload 6, []), (.iastore, []), (.aload_n 0, []), (.dup, []), (.getfield 118, [3, 9, 0]), (.iconst 1, []), (.iadd, []), (.putfield 118, [3, 9, 0]), (.goto (-96), [1])], 0),
  (119, [], [(.return_, [])], 0)]
def mt_59 : Nat × Nat × List jB := (0, 7, k_Or_lay)
set_option maxRecDepth 100000 in
theorem ck_59 : jok jm_59 mt_59 = true := by decide +kernel
def k_Or_chosen : List jB := [
  (0, [0, 1, 2, 3, 4], [(.iconst 0, []), (.istore 5, [])], 1),
  (3, [0, 1, 2, 3, 4, 5], [(.iload 5, []), (.aload_n 0, []), (.getfield 39, [3, 2, 0]), (.if_icmp .ge 39, [3]), (.iload_n 1, []), (.iload 5, []), (.invokestatic 131, [49, 2, 1]), (.ifCond .ne 24, [2]), (.aload_n 0, []), (.aload_n 0, []), (.iload_n 1, []), (.iload_n 2, []), (.iload_n 3, []), (.iload 5, []), (.invokevirtual 149, [53, 4, 3, 1]), (.iload 4, []), (.invokevirtual 180, [61, 2, 3, 1]), (.ifCond .eq 6, [2]), (.iload 5, []), (.ireturn, [])], 0),
  (42, [0, 1, 2, 3, 4, 5], [(.iinc 5 1, []), (.goto (-42), [1])], 0),
  (48, [], [(.iconst 0, []), (.ireturn, [])], 0)]
def mt_60 : Nat × Nat × List jB := (1, 6, k_Or_chosen)
set_option maxRecDepth 100000 in
theorem ck_60 : jok jm_60 mt_60 = true := by decide +kernel
def k_Or_leads : List jB := [
  (0, [0, 1, 2], [(.aload_n 0, []), (.getfield 121, [3, 10, 0]), (.ifCond .ne 15, [2]), (.iload_n 1, []), (.ifCond .le 7, [1]), (.iconst 1, []), (.goto 17, [4])], 0),
  (15, [], [(.iconst 0, []), (.goto 13, [4])], 0),
  (19, [1, 2], [(.iload_n 1, []), (.iload_n 2, []), (.if_icmp .ne 7, [3]), (.iconst 1, []), (.goto 4, [4])], 0),
  (28, [], [(.iconst 0, [])], 4),
  (29, [], [(.ireturn, [])], 0)]
def mt_61 : Nat × Nat × List jB := (2, 3, k_Or_leads)
set_option maxRecDepth 100000 in
theorem ck_61 : jok jm_61 mt_61 = true := by decide +kernel
def k_Rd_begin : List jB := [
  (0, [0, 1, 2], [(.aload_n 0, []), (.iconst 0, []), (.putfield 24, [4, 0, 0]), (.aload_n 0, []), (.iconst (-1), []), (.putfield 28, [4, 1, 0]), (.aload_n 0, []), (.aload_n 2, []), (.putfield 20, [4, 3, 3]), (.aload_n 0, []), (.getfield 20, [4, 3, 3]), (.invokevirtual 31, [92, 0, 6, 0]), (.aload_n 0, []), (.getfield 14, [4, 2, 4]), (.iload_n 1, []), (.invokevirtual 36, [105, 1, 7, 0]), (.return_, [])], 0)]
def mt_62 : Nat × Nat × List jB := (0, 3, k_Rd_begin)
set_option maxRecDepth 100000 in
theorem ck_62 : jok jm_62 mt_62 = true := by decide +kernel
def k_Rd_goesOn : List jB := [
  (0, [0], [(.aload_n 0, []), (.getfield 24, [4, 0, 0]), (.ifCond .ne 19, [1]), (.aload_n 0, []), (.getfield 14, [4, 2, 4]), (.getfield 40, [7, 0, 0]), (.bipush 18, []), (.if_icmp .eq 7, [1]), (.iconst 1, []), (.goto 4, [2])], 0),
  (23, [], [(.iconst 0, [])], 2),
  (24, [], [(.ireturn, [])], 0)]
def mt_63 : Nat × Nat × List jB := (2, 1, k_Rd_goesOn)
set_option maxRecDepth 100000 in
theorem ck_63 : jok jm_63 mt_63 = true := by decide +kernel
def k_Rd_fails : List jB := [
  (0, [0, 1], [(.aload_n 0, []), (.iload_n 1, []), (.putfield 24, [4, 0, 0]), (.aload_n 0, []), (.aload_n 0, []), (.getfield 14, [4, 2, 4]), (.getfield 43, [7, 1, 0]), (.putfield 28, [4, 1, 0]), (.iconst 0, []), (.ireturn, [])], 0)]
def mt_64 : Nat × Nat × List jB := (2, 2, k_Rd_fails)
set_option maxRecDepth 100000 in
theorem ck_64 : jok jm_64 mt_64 = true := by decide +kernel
def k_Rd_passes : List jB := [
  (0, [0, 1], [(.aload_n 0, []), (.getfield 14, [4, 2, 4]), (.getfield 40, [7, 0, 0]), (.iload_n 1, []), (.if_icmp .eq 9, [1]), (.aload_n 0, []), (.iconst 1, []), (.invokevirtual 46, [64, 1, 4, 1]), (.ireturn, [])], 0),
  (17, [0], [(.aload_n 0, []), (.getfield 14, [4, 2, 4]), (.invokevirtual 50, [106, 0, 7, 0]), (.iconst 1, []), (.ireturn, [])], 0)]
def mt_65 : Nat × Nat × List jB := (2, 2, k_Rd_passes)
set_option maxRecDepth 100000 in
theorem ck_65 : jok jm_65 mt_65 = true := by decide +kernel
def k_Rd_readLine : List jB := [
  (0, [0], [(.aload_n 0, []), (.getfield 14, [4, 2, 4]), (.getfield 40, [7, 0, 0]), (.tableswitch 155 6 13 #[45, 155, 67, 155, 155, 89, 111, 133], [16, 1, 16, 4, 16, 16, 7, 10, 13])], 0),
  (52, [0], [(.aload_n 0, []), (.invokevirtual 53, [67, 0, 4, 1]), (.ifCond .eq 16, [2]), (.aload_n 0, []), (.bipush 59, []), (.invokevirtual 57, [65, 1, 4, 1]), (.ifCond .eq 7, [2]), (.iconst 1, []), (.goto 4, [3])], 0),
  (72, [], [(.iconst 0, [])], 3),
  (73, [], [(.ireturn, [])], 0),
  (74, [0], [(.aload_n 0, []), (.invokevirtual 60, [70, 0, 4, 1]), (.ifCond .eq 16, [5]), (.aload_n 0, []), (.bipush 59, []), (.invokevirtual 57, [65, 1, 4, 1]), (.ifCond .eq 7, [5]), (.iconst 1, []), (.goto 4, [6])], 0),
  (94, [], [(.iconst 0, [])], 6),
  (95, [], [(.ireturn, [])], 0),
  (96, [0], [(.aload_n 0, []), (.invokevirtual 63, [73, 0, 4, 1]), (.ifCond .eq 16, [8]), (.aload_n 0, []), (.bipush 59, []), (.invokevirtual 57, [65, 1, 4, 1]), (.ifCond .eq 7, [8]), (.iconst 1, []), (.goto 4, [9])], 0),
  (116, [], [(.iconst 0, [])], 9),
  (117, [], [(.ireturn, [])], 0),
  (118, [0], [(.aload_n 0, []), (.invokevirtual 66, [74, 0, 4, 1]), (.ifCond .eq 16, [11]), (.aload_n 0, []), (.bipush 59, []), (.invokevirtual 57, [65, 1, 4, 1]), (.ifCond .eq 7, [11]), (.iconst 1, []), (.goto 4, [12])], 0),
  (138, [], [(.iconst 0, [])], 12),
  (139, [], [(.ireturn, [])], 0),
  (140, [0], [(.aload_n 0, []), (.invokevirtual 69, [75, 0, 4, 1]), (.ifCond .eq 16, [14]), (.aload_n 0, []), (.bipush 59, []), (.invokevirtual 57, [65, 1, 4, 1]), (.ifCond .eq 7, [14]), (.iconst 1, []), (.goto 4, [15])], 0),
  (160, [], [(.iconst 0, [])], 15),
  (161, [], [(.ireturn, [])], 0),
  (162, [0], [(.aload_n 0, []), (.iconst 1, []), (.invokevirtual 46, [64, 1, 4, 1]), (.ireturn, [])], 0)]
def mt_66 : Nat × Nat × List jB := (2, 1, k_Rd_readLine)
set_option maxRecDepth 100000 in
theorem ck_66 : jok jm_66 mt_66 = true := by decide +kernel
def k_Rd_personLine : List jB := [
  (0, [0], [(.aload_n 0, []), (.getfield 20, [4, 3, 3]), (.getfield 72, [6, 0, 0]), (.bipush 10, []), (.if_icmp .lt 9, [1]), (.aload_n 0, []), (.iconst 2, []), (.invokevirtual 46, [64, 1, 4, 1]), (.ireturn, [])], 0),
  (18, [0], [(.aload_n 0, []), (.getfield 14, [4, 2, 4]), (.invokevirtual 50, [106, 0, 7, 0]), (.aload_n 0, []), (.getfield 14, [4, 2, 4]), (.getfield 75, [7, 2, 0]), (.istore_n 1, []), (.aload_n 0, []), (.aload_n 0, []), (.getfield 20, [4, 3, 3]), (.iload_n 1, []), (.invokevirtual 78, [94, 1, 6, 1]), (.invokevirtual 82, [68, 1, 4, 1]), (.ifCond .eq 13, [2]), (.aload_n 0, []), (.iconst 0, []), (.bipush 99, []), (.invokevirtual 85, [69, 2, 4, 1]), (.ifCond .ne 5, [3])], 2),
  (58, [], [(.iconst 0, []), (.ireturn, [])], 0),
  (60, [0, 1], [(.aload_n 0, []), (.getfield 20, [4, 3, 3]), (.getfield 72, [6, 0, 0]), (.istore_n 2, []), (.aload_n 0, []), (.getfield 20, [4, 3, 3]), (.iload_n 1, []), (.aload_n 0, []), (.getfield 89, [4, 4, 0]), (.invokevirtual 92, [97, 2, 6, 0]), (.aload_n 0, []), (.getfield 14, [4, 2, 4]), (.getfield 40, [7, 0, 0]), (.bipush 7, []), (.if_icmp .eq 5, [4]), (.iconst 1, []), (.ireturn, [])], 0),
  (94, [0, 2], [(.aload_n 0, []), (.getfield 14, [4, 2, 4]), (.invokevirtual 50, [106, 0, 7, 0]), (.aload_n 0, []), (.iconst 0, []), (.ldc 96, [99999]), (.invokevirtual 85, [69, 2, 4, 1]), (.ifCond .ne 5, [5]), (.iconst 0, []), (.ireturn, [])], 0),
  (113, [0, 2], [(.aload_n 0, []), (.getfield 20, [4, 3, 3]), (.getfield 97, [6, 3, 4]), (.iload_n 2, []), (.aload_n 0, []), (.getfield 89, [4, 4, 0]), (.iastore, []), (.iconst 1, []), (.ireturn, [])], 0)]
def mt_67 : Nat × Nat × List jB := (2, 3, k_Rd_personLine)
set_option maxRecDepth 100000 in
theorem ck_67 : jok jm_67 mt_67 = true := by decide +kernel
def k_Rd_newName : List jB := [
  (0, [0, 1], [(.aload_n 0, []), (.getfield 14, [4, 2, 4]), (.getfield 40, [7, 0, 0]), (.bipush 16, []), (.if_icmp .eq 9, [1]), (.aload_n 0, []), (.iconst 1, []), (.invokevirtual 46, [64, 1, 4, 1]), (.ireturn, [])], 0),
  (18, [0, 1], [(.iload_n 1, []), (.iconst (-1), []), (.if_icmp .eq 9, [2]), (.aload_n 0, []), (.iconst 3, []), (.invokevirtual 46, [64, 1, 4, 1]), (.ireturn, [])], 0),
  (29, [0], [(.aload_n 0, []), (.getfield 14, [4, 2, 4]), (.invokevirtual 50, [106, 0, 7, 0]), (.iconst 1, []), (.ireturn, [])], 0)]
def mt_68 : Nat × Nat × List jB := (2, 2, k_Rd_newName)
set_option maxRecDepth 100000 in
theorem ck_68 : jok jm_68 mt_68 = true := by decide +kernel
def k_Rd_readNumber : List jB := [
  (0, [0, 1, 2], [(.aload_n 0, []), (.getfield 14, [4, 2, 4]), (.getfield 40, [7, 0, 0]), (.bipush 17, []), (.if_icmp .eq 9, [1]), (.aload_n 0, []), (.iconst 1, []), (.invokevirtual 46, [64, 1, 4, 1]), (.ireturn, [])], 0),
  (18, [0, 1, 2], [(.aload_n 0, []), (.getfield 14, [4, 2, 4]), (.getfield 75, [7, 2, 0]), (.iload_n 1, []), (.iload_n 2, []), (.invokestatic 101, [152, 3, 1]), (.ifCond .ne 9, [2]), (.aload_n 0, []), (.iconst 2, []), (.invokevirtual 46, [64, 1, 4, 1]), (.ireturn, [])], 0),
  (39, [0], [(.aload_n 0, []), (.aload_n 0, []), (.getfield 14, [4, 2, 4]), (.getfield 75, [7, 2, 0]), (.putfield 89, [4, 4, 0]), (.aload_n 0, []), (.getfield 14, [4, 2, 4]), (.invokevirtual 50, [106, 0, 7, 0]), (.iconst 1, []), (.ireturn, [])], 0)]
def mt_69 : Nat × Nat × List jB := (2, 3, k_Rd_readNumber)
set_option maxRecDepth 100000 in
theorem ck_69 : jok jm_69 mt_69 = true := by decide +kernel
def k_Rd_handsLine : List jB := [
  (0, [0], [(.aload_n 0, []), (.getfield 14, [4, 2, 4]), (.invokevirtual 50, [106, 0, 7, 0]), (.aload_n 0, []), (.invokevirtual 105, [71, 0, 4, 1]), (.istore_n 1, []), (.iload_n 1, []), (.iconst (-1), []), (.if_icmp .ne 5, [1]), (.iconst 0, []), (.ireturn, [])], 0),
  (19, [0, 1], [(.aload_n 0, []), (.getfield 20, [4, 3, 3]), (.getfield 109, [6, 4, 4]), (.iload_n 1, []), (.iaload, []), (.ifCond .le 9, [2]), (.aload_n 0, []), (.iconst 3, []), (.invokevirtual 46, [64, 1, 4, 1]), (.ireturn, [])], 0),
  (37, [0, 1], [(.aload_n 0, []), (.getfield 14, [4, 2, 4]), (.invokevirtual 50, [106, 0, 7, 0]), (.aload_n 0, []), (.bipush 9, []), (.invokevirtual 57, [65, 1, 4, 1]), (.ifCond .eq 11, [3]), (.aload_n 0, []), (.iload_n 1, []), (.invokevirtual 112, [72, 1, 4, 1]), (.ifCond .ne 5, [4])], 3),
  (61, [], [(.iconst 0, []), (.ireturn, [])], 0),
  (63, [0, 1], [(.iconst 0, []), (.istore_n 2, [])], 5),
  (65, [0, 1, 2], [(.iload_n 2, []), (.iconst 3, []), (.if_icmp .ge 38, [7]), (.aload_n 0, []), (.getfield 14, [4, 2, 4]), (.getfield 40, [7, 0, 0]), (.bipush 10, []), (.if_icmp .ne 26, [7]), (.aload_n 0, []), (.getfield 14, [4, 2, 4]), (.invokevirtual 50, [106, 0, 7, 0]), (.aload_n 0, []), (.iload_n 1, []), (.invokevirtual 112, [72, 1, 4, 1]), (.ifCond .ne 5, [6]), (.iconst 0, []), (.ireturn, [])], 0),
  (99, [0, 1, 2], [(.iinc 2 1, []), (.goto (-37), [5])], 0),
  (105, [], [(.iconst 1, []), (.ireturn, [])], 0)]
def mt_70 : Nat × Nat × List jB := (2, 3, k_Rd_handsLine)
set_option maxRecDepth 100000 in
theorem ck_70 : jok jm_70 mt_70 = true := by decide +kernel
def k_Rd_toldPerson : List jB := [
  (0, [0], [(.aload_n 0, []), (.getfield 14, [4, 2, 4]), (.getfield 40, [7, 0, 0]), (.bipush 16, []), (.if_icmp .ne 20, [1]), (.aload_n 0, []), (.getfield 20, [4, 3, 3]), (.aload_n 0, []), (.getfield 14, [4, 2, 4]), (.getfield 75, [7, 2, 0]), (.invokevirtual 78, [94, 1, 6, 1]), (.goto 4, [2])], 0),
  (29, [0], [(.iconst (-1), [])], 2),
  (30, [0], [(.istore_n 1, []), (.iload_n 1, []), (.iconst (-1), []), (.if_icmp .ne 25, [5]), (.aload_n 0, []), (.aload_n 0, []), (.getfield 14, [4, 2, 4]), (.getfield 40, [7, 0, 0]), (.bipush 16, []), (.if_icmp .ne 7, [3]), (.iconst 4, []), (.goto 4, [4])], 0),
  (53, [1], [(.iconst 1, [])], 4),
  (54, [1], [(.invokevirtual 46, [64, 1, 4, 1]), (.pop, [])], 5),
  (58, [1], [(.iload_n 1, []), (.ireturn, [])], 0)]
def mt_71 : Nat × Nat × List jB := (1, 2, k_Rd_toldPerson)
set_option maxRecDepth 100000 in
theorem ck_71 : jok jm_71 mt_71 = true := by decide +kernel
def k_Rd_heirOf : List jB := [
  (0, [0, 1], [(.aload_n 0, []), (.getfield 14, [4, 2, 4]), (.getfield 40, [7, 0, 0]), (.bipush 16, []), (.if_icmp .eq 9, [1]), (.aload_n 0, []), (.iconst 1, []), (.invokevirtual 46, [64, 1, 4, 1]), (.ireturn, [])], 0),
  (18, [0, 1], [(.aload_n 0, []), (.getfield 20, [4, 3, 3]), (.getfield 109, [6, 4, 4]), (.iload_n 1, []), (.iaload, []), (.iconst 3, []), (.if_icmp .lt 9, [2]), (.aload_n 0, []), (.iconst 2, []), (.invokevirtual 46, [64, 1, 4, 1]), (.ireturn, [])], 0),
  (37, [0, 1], [(.aload_n 0, []), (.getfield 20, [4, 3, 3]), (.aload_n 0, []), (.getfield 14, [4, 2, 4]), (.getfield 75, [7, 2, 0]), (.invokevirtual 78, [94, 1, 6, 1]), (.istore_n 2, []), (.iload_n 2, []), (.iconst (-1), []), (.if_icmp .ne 9, [3]), (.aload_n 0, []), (.iconst 4, []), (.invokevirtual 46, [64, 1, 4, 1]), (.ireturn, [])], 0),
  (63, [0, 1, 2], [(.aload_n 0, []), (.getfield 20, [4, 3, 3]), (.iload_n 1, []), (.iload_n 2, []), (.invokevirtual 115, [102, 2, 6, 1]), (.ifCond .eq 9, [4]), (.aload_n 0, []), (.iconst 3, []), (.invokevirtual 46, [64, 1, 4, 1]), (.ireturn, [])], 0),
  (81, [0, 1, 2], [(.iload_n 2, []), (.iload_n 1, []), (.if_icmp .ne 9, [5]), (.aload_n 0, []), (.iconst 5, []), (.invokevirtual 46, [64, 1, 4, 1]), (.ireturn, [])], 0),
  (92, [0, 1, 2], [(.aload_n 0, []), (.getfield 20, [4, 3, 3]), (.iload_n 1, []), (.iload_n 2, []), (.invokevirtual 118, [98, 2, 6, 0]), (.aload_n 0, []), (.getfield 14, [4, 2, 4]), (.invokevirtual 50, [106, 0, 7, 0]), (.iconst 1, []), (.ireturn, [])], 0)]
def mt_72 : Nat × Nat × List jB := (2, 3, k_Rd_heirOf)
set_option maxRecDepth 100000 in
theorem ck_72 : jok jm_72 mt_72 = true := by decide +kernel
def k_Rd_parcelLine : List jB := [
  (0, [0], [(.aload_n 0, []), (.getfield 20, [4, 3, 3]), (.getfield 121, [6, 6, 0]), (.bipush 12, []), (.if_icmp .lt 9, [1]), (.aload_n 0, []), (.iconst 2, []), (.invokevirtual 46, [64, 1, 4, 1]), (.ireturn, [])], 0),
  (18, [0], [(.aload_n 0, []), (.getfield 14, [4, 2, 4]), (.invokevirtual 50, [106, 0, 7, 0]), (.aload_n 0, []), (.invokevirtual 105, [71, 0, 4, 1]), (.istore_n 1, []), (.iload_n 1, []), (.iconst (-1), []), (.if_icmp .ne 5, [2]), (.iconst 0, []), (.ireturn, [])], 0),
  (37, [0, 1], [(.aload_n 0, []), (.getfield 14, [4, 2, 4]), (.invokevirtual 50, [106, 0, 7, 0]), (.aload_n 0, []), (.iconst 1, []), (.ldc 96, [99999]), (.invokevirtual 85, [69, 2, 4, 1]), (.ifCond .ne 5, [3]), (.iconst 0, []), (.ireturn, [])], 0),
  (56, [0, 1], [(.aload_n 0, []), (.getfield 89, [4, 4, 0]), (.istore_n 2, []), (.aload_n 0, []), (.iconst 0, []), (.sipush 999, []), (.invokevirtual 85, [69, 2, 4, 1]), (.ifCond .ne 5, [4]), (.iconst 0, []), (.ireturn, [])], 0),
  (74, [0, 1, 2], [(.aload_n 0, []), (.getfield 20, [4, 3, 3]), (.iload_n 1, []), (.iload_n 2, []), (.aload_n 0, []), (.getfield 89, [4, 4, 0]), (.invokevirtual 124, [99, 3, 6, 0]), (.iconst 1, []), (.ireturn, [])], 0)]
def mt_73 : Nat × Nat × List jB := (2, 3, k_Rd_parcelLine)
set_option maxRecDepth 100000 in
theorem ck_73 : jok jm_73 mt_73 = true := by decide +kernel
def k_Rd_lawLine : List jB := [
  (0, [0], [(.aload_n 0, []), (.getfield 20, [4, 3, 3]), (.getfield 128, [6, 12, 4]), (.getfield 132, [1, 1, 1]), (.ifCond .eq 9, [1]), (.aload_n 0, []), (.iconst 3, []), (.invokevirtual 46, [64, 1, 4, 1]), (.ireturn, [])], 0),
  (19, [0], [(.aload_n 0, []), (.getfield 14, [4, 2, 4]), (.invokevirtual 50, [106, 0, 7, 0]), (.aload_n 0, []), (.getfield 20, [4, 3, 3]), (.getfield 128, [6, 12, 4]), (.iconst 1, []), (.putfield 132, [1, 1, 1]), (.aload_n 0, []), (.getfield 20, [4, 3, 3]), (.getfield 128, [6, 12, 4]), (.iconst 4, []), (.invokevirtual 138, [20, 1, 1, 0]), (.aload_n 0, []), (.iconst 0, []), (.iconst 0, []), (.invokevirtual 141, [76, 2, 4, 1]), (.istore_n 1, []), (.aload_n 0, []), (.getfield 20, [4, 3, 3]), (.getfield 128, [6, 12, 4]), (.iconst 4, []), (.invokevirtual 144, [21, 1, 1, 0]), (.iload_n 1, []), (.ireturn, [])], 0)]
def mt_74 : Nat × Nat × List jB := (2, 2, k_Rd_lawLine)
set_option maxRecDepth 100000 in
theorem ck_74 : jok jm_74 mt_74 = true := by decide +kernel
def k_Rd_mayLine : List jB := [
  (0, [0], [(.aload_n 0, []), (.getfield 20, [4, 3, 3]), (.getfield 147, [6, 10, 0]), (.iconst 4, []), (.if_icmp .lt 9, [1]), (.aload_n 0, []), (.iconst 2, []), (.invokevirtual 46, [64, 1, 4, 1]), (.ireturn, [])], 0),
  (17, [0], [(.aload_n 0, []), (.getfield 14, [4, 2, 4]), (.invokevirtual 50, [106, 0, 7, 0]), (.aload_n 0, []), (.getfield 14, [4, 2, 4]), (.getfield 75, [7, 2, 0]), (.istore_n 1, []), (.aload_n 0, []), (.aload_n 0, []), (.getfield 20, [4, 3, 3]), (.iload_n 1, []), (.invokevirtual 150, [95, 1, 6, 1]), (.invokevirtual 82, [68, 1, 4, 1]), (.ifCond .ne 5, [2]), (.iconst 0, []), (.ireturn, [])], 0),
  (49, [0, 1], [(.aload_n 0, []), (.getfield 20, [4, 3, 3]), (.getfield 128, [6, 12, 4]), (.aload_n 0, []), (.getfield 20, [4, 3, 3]), (.getfield 147, [6, 10, 0]), (.invokevirtual 138, [20, 1, 1, 0]), (.aload_n 0, []), (.iconst 0, []), (.iconst 0, []), (.invokevirtual 141, [76, 2, 4, 1]), (.istore_n 2, []), (.aload_n 0, []), (.getfield 20, [4, 3, 3]), (.getfield 128, [6, 12, 4]), (.aload_n 0, []), (.getfield 20, [4, 3, 3]), (.getfield 147, [6, 10, 0]), (.invokevirtual 144, [21, 1, 1, 0]), (.aload_n 0, []), (.getfield 20, [4, 3, 3]), (.iload_n 1, []), (.invokevirtual 153, [100, 1, 6, 0]), (.iload_n 2, []), (.ireturn, [])], 0)]
def mt_75 : Nat × Nat × List jB := (2, 3, k_Rd_mayLine)
set_option maxRecDepth 100000 in
theorem ck_75 : jok jm_75 mt_75 = true := by decide +kernel
def k_Rd_expression : List jB := [
  (0, [0, 1, 2], [(.iload_n 1, []), (.iconst 2, []), (.if_icmp .ne 9, [1]), (.aload_n 0, []), (.iload_n 2, []), (.invokevirtual 156, [79, 1, 4, 1]), (.ireturn, [])], 0),
  (11, [0, 1, 2], [(.iload_n 1, []), (.bipush 6, []), (.if_icmp .lt 9, [2]), (.aload_n 0, []), (.iload_n 2, []), (.invokevirtual 159, [80, 1, 4, 1]), (.ireturn, [])], 0),
  (23, [0, 1, 2], [(.aload_n 0, []), (.iload_n 1, []), (.iconst 1, []), (.iadd, []), (.iload_n 2, []), (.invokevirtual 141, [76, 2, 4, 1]), (.ifCond .ne 5, [3]), (.iconst 0, []), (.ireturn, [])], 0),
  (36, [0, 1, 2], [(.iload_n 1, []), (.iconst 3, []), (.if_icmp .ne 7, [4]), (.iconst 1, []), (.goto 5, [5])], 0),
  (45, [0, 1, 2], [(.bipush 64, [])], 5),
  (47, [0, 1, 2], [(.istore_n 3, []), (.iconst 0, []), (.istore 4, [])], 6),
  (51, [0, 1, 2, 3, 4], [(.iload 4, []), (.iload_n 3, []), (.if_icmp .ge 65, [9]), (.iload_n 1, []), (.aload_n 0, []), (.getfield 14, [4, 2, 4]), (.getfield 40, [7, 0, 0]), (.invokestatic 162, [77, 2, 1]), (.ifCond .eq 51, [9]), (.aload_n 0, []), (.getfield 14, [4, 2, 4]), (.getfield 40, [7, 0, 0]), (.istore 5, []), (.aload_n 0, []), (.invokevirtual 165, [78, 0, 4, 1]), (.ifCond .eq 14, [7]), (.aload_n 0, []), (.iload_n 1, []), (.iconst 1, []), (.iadd, []), (.iload_n 2, []), (.invokevirtual 141, [76, 2, 4, 1]), (.ifCond .ne 5, [8])], 7),
  (98, [], [(.iconst 0, []), (.ireturn, [])], 0),
  (100, [0, 1, 2, 3, 4, 5], [(.aload_n 0, []), (.getfield 20, [4, 3, 3]), (.getfield 128, [6, 12, 4]), (.iload 5, []), (.iconst 0, []), (.invokevirtual 168, [22, 2, 1, 0]), (.iinc 4 1, []), (.goto (-65), [6])], 0),
  (119, [], [(.iconst 1, []), (.ireturn, [])], 0)]
def mt_76 : Nat × Nat × List jB := (2, 6, k_Rd_expression)
set_option maxRecDepth 100000 in
theorem ck_76 : jok jm_76 mt_76 = true := by decide +kernel
def k_Rd_joins : List jB := [
  (0, [0, 1], [(.iload_n 0, []), (.tableswitch 110 0 5 #[39, 51, 110, 63, 68, 86], [16, 1, 4, 16, 7, 8, 12])], 0),
  (40, [1], [(.iload_n 1, []), (.bipush 10, []), (.if_icmp .ne 7, [2]), (.iconst 1, []), (.goto 4, [3])], 0),
  (50, [], [(.iconst 0, [])], 3),
  (51, [], [(.ireturn, [])], 0),
  (52, [1], [(.iload_n 1, []), (.bipush 15, []), (.if_icmp .ne 7, [5]), (.iconst 1, []), (.goto 4, [6])], 0),
  (62, [], [(.iconst 0, [])], 6),
  (63, [], [(.ireturn, [])], 0),
  (64, [1], [(.iload_n 1, []), (.invokestatic 171, [104, 1, 1]), (.ireturn, [])], 0),
  (69, [1], [(.iload_n 1, []), (.bipush 43, []), (.if_icmp .eq 9, [9]), (.iload_n 1, []), (.bipush 45, []), (.if_icmp .ne 7, [10])], 9),
  (81, [], [(.iconst 1, []), (.goto 4, [11])], 0),
  (85, [], [(.iconst 0, [])], 11),
  (86, [], [(.ireturn, [])], 0),
  (87, [1], [(.iload_n 1, []), (.bipush 42, []), (.if_icmp .eq 15, [13]), (.iload_n 1, []), (.bipush 47, []), (.if_icmp .eq 9, [13]), (.iload_n 1, []), (.bipush 37, []), (.if_icmp .ne 7, [14])], 13),
  (105, [], [(.iconst 1, []), (.goto 4, [15])], 0),
  (109, [], [(.iconst 0, [])], 15),
  (110, [], [(.ireturn, [])], 0),
  (111, [], [(.iconst 0, []), (.ireturn, [])], 0)]
def mt_77 : Nat × Nat × List jB := (2, 2, k_Rd_joins)
set_option maxRecDepth 100000 in
theorem ck_77 : jok jm_77 mt_77 = true := by decide +kernel
def k_Rd_passKnot : List jB := [
  (0, [0], [(.aload_n 0, []), (.getfield 20, [4, 3, 3]), (.getfield 128, [6, 12, 4]), (.getfield 174, [1, 0, 0]), (.bipush 64, []), (.if_icmp .lt 9, [1]), (.aload_n 0, []), (.iconst 2, []), (.invokevirtual 46, [64, 1, 4, 1]), (.ireturn, [])], 0),
  (21, [0], [(.aload_n 0, []), (.getfield 20, [4, 3, 3]), (.getfield 128, [6, 12, 4]), (.dup, []), (.getfield 174, [1, 0, 0]), (.iconst 1, []), (.iadd, []), (.putfield 174, [1, 0, 0]), (.aload_n 0, []), (.getfield 14, [4, 2, 4]), (.invokevirtual 50, [106, 0, 7, 0]), (.iconst 1, []), (.ireturn, [])], 0)]
def mt_78 : Nat × Nat × List jB := (2, 1, k_Rd_passKnot)
set_option maxRecDepth 100000 in
theorem ck_78 : jok jm_78 mt_78 = true := by decide +kernel
def k_Rd_denial : List jB := [
  (0, [0, 1], [(.iconst 0, []), (.istore_n 2, [])], 1),
  (2, [0, 1, 2], [(.iload_n 2, []), (.bipush 64, []), (.if_icmp .gt 30, [3]), (.aload_n 0, []), (.getfield 14, [4, 2, 4]), (.getfield 40, [7, 0, 0]), (.bipush 14, []), (.if_icmp .ne 18, [3]), (.aload_n 0, []), (.invokevirtual 165, [78, 0, 4, 1]), (.ifCond .ne 5, [2]), (.iconst 0, []), (.ireturn, [])], 0),
  (29, [0, 1, 2], [(.iinc 2 1, []), (.goto (-30), [1])], 0),
  (35, [0, 1, 2], [(.aload_n 0, []), (.iconst 3, []), (.iload_n 1, []), (.invokevirtual 141, [76, 2, 4, 1]), (.ifCond .ne 5, [4]), (.iconst 0, []), (.ireturn, [])], 0),
  (46, [0, 2], [(.iconst 0, []), (.istore_n 3, [])], 5),
  (48, [0, 2, 3], [(.iload_n 3, []), (.iload_n 2, []), (.if_icmp .ge 22, [6]), (.aload_n 0, []), (.getfield 20, [4, 3, 3]), (.getfield 128, [6, 12, 4]), (.bipush 14, []), (.iconst 0, []), (.invokevirtual 168, [22, 2, 1, 0]), (.iinc 3 1, []), (.goto (-21), [5])], 0),
  (72, [], [(.iconst 1, []), (.ireturn, [])], 0)]
def mt_79 : Nat × Nat × List jB := (2, 4, k_Rd_denial)
set_option maxRecDepth 100000 in
theorem ck_79 : jok jm_79 mt_79 = true := by decide +kernel
def k_Rd_operand : List jB := [
  (0, [0, 1], [(.aload_n 0, []), (.getfield 14, [4, 2, 4]), (.getfield 40, [7, 0, 0]), (.bipush 40, []), (.if_icmp .ne 9, [1]), (.aload_n 0, []), (.iload_n 1, []), (.invokevirtual 177, [81, 1, 4, 1]), (.ireturn, [])], 0),
  (18, [0], [(.aload_n 0, []), (.getfield 14, [4, 2, 4]), (.getfield 40, [7, 0, 0]), (.bipush 17, []), (.if_icmp .eq 22, [2]), (.aload_n 0, []), (.getfield 14, [4, 2, 4]), (.getfield 40, [7, 0, 0]), (.invokestatic 180, [103, 1, 1]), (.ifCond .ne 9, [2]), (.aload_n 0, []), (.iconst 1, []), (.invokevirtual 46, [64, 1, 4, 1]), (.ireturn, [])], 0),
  (49, [0], [(.aload_n 0, []), (.getfield 14, [4, 2, 4]), (.getfield 40, [7, 0, 0]), (.bipush 17, []), (.if_icmp .ne 22, [3]), (.aload_n 0, []), (.getfield 14, [4, 2, 4]), (.getfield 75, [7, 2, 0]), (.sipush 9999, []), (.if_icmp .le 9, [3]), (.aload_n 0, []), (.iconst 2, []), (.invokevirtual 46, [64, 1, 4, 1]), (.ireturn, [])], 0),
  (80, [0], [(.aload_n 0, []), (.getfield 14, [4, 2, 4]), (.getfield 40, [7, 0, 0]), (.istore_n 2, []), (.aload_n 0, []), (.getfield 14, [4, 2, 4]), (.getfield 75, [7, 2, 0]), (.istore_n 3, []), (.aload_n 0, []), (.invokevirtual 165, [78, 0, 4, 1]), (.ifCond .ne 5, [4]), (.iconst 0, []), (.ireturn, [])], 0),
  (105, [0, 2, 3], [(.aload_n 0, []), (.getfield 20, [4, 3, 3]), (.getfield 128, [6, 12, 4]), (.iload_n 2, []), (.iload_n 3, []), (.invokevirtual 168, [22, 2, 1, 0]), (.iconst 1, []), (.ireturn, [])], 0)]
def mt_80 : Nat × Nat × List jB := (2, 4, k_Rd_operand)
set_option maxRecDepth 100000 in
theorem ck_80 : jok jm_80 mt_80 = true := by decide +kernel
def k_Rd_enclosed : List jB := [
  (0, [0, 1], [(.iload_n 1, []), (.bipush 8, []), (.if_icmp .lt 9, [1]), (.aload_n 0, []), (.iconst 2, []), (.invokevirtual 46, [64, 1, 4, 1]), (.ireturn, [])], 0),
  (12, [0, 1], [(.aload_n 0, []), (.getfield 14, [4, 2, 4]), (.invokevirtual 50, [106, 0, 7, 0]), (.aload_n 0, []), (.iconst 0, []), (.iload_n 1, []), (.iconst 1, []), (.iadd, []), (.invokevirtual 141, [76, 2, 4, 1]), (.ifCond .eq 16, [2]), (.aload_n 0, []), (.bipush 41, []), (.invokevirtual 57, [65, 1, 4, 1]), (.ifCond .eq 7, [2]), (.iconst 1, []), (.goto 4, [3])], 0),
  (43, [], [(.iconst 0, [])], 3),
  (44, [], [(.ireturn, [])], 0)]
def mt_81 : Nat × Nat × List jB := (2, 2, k_Rd_enclosed)
set_option maxRecDepth 100000 in
theorem ck_81 : jok jm_81 mt_81 = true := by decide +kernel
def k_Rw_take : List jB := [
  (0, [0, 1, 2, 4], [(.iload_n 1, []), (.iconst 2, []), (.bipush 10, []), (.invokestatic 15, [152, 3, 1]), (.ifCond .ne 5, [1]), (.iconst 0, []), (.ireturn, [])], 0),
  (12, [0, 1, 2, 4], [(.iconst 0, []), (.istore 5, []), (.iconst 0, []), (.istore 6, [])], 2),
  (18, [0, 1, 2, 4, 5, 6], [(.iload 6, []), (.iload_n 1, []), (.if_icmp .ge 58, [5]), (.lload_n 2, []), (.iconst 4, []), (.iload 6, []), (.imul, []), (.lushr, []), (.l2i, []), (.bipush 15, []), (.iand, []), (.istore 7, []), (.iload 7, []), (.iload 4, []), (.if_icmp .ge 13, [3]), (.iload 5, []), (.iload 7, []), (.ishr, []), (.iconst 1, []), (.iand, []), (.ifCond .eq 5, [4])], 3),
  (53, [], [(.iconst 0, []), (.ireturn, [])], 0),
  (55, [0, 1, 2, 4, 5, 6, 7], [(.iload 5, []), (.iconst 1, []), (.iload 7, []), (.ishl, []), (.ior, []), (.istore 5, []), (.aload_n 0, []), (.getfield 9, [5, 1, 4]), (.iload 6, []), (.iload 7, []), (.iastore, []), (.iinc 6 1, []), (.goto (-58), [2])], 0),
  (79, [0, 1], [(.aload_n 0, []), (.iload_n 1, []), (.putfield 19, [5, 0, 0]), (.iconst 1, []), (.ireturn, [])], 0)]
def mt_82 : Nat × Nat × List jB := (2, 8, k_Rw_take)
set_option maxRecDepth 100000 in
theorem ck_82 : jok jm_82 mt_82 = true := by decide +kernel
def k_Rw_placed : List jB := [
  (0, [0, 1], [(.iload_n 0, []), (.i2l, []), (.iconst 4, []), (.iload_n 1, []), (.imul, []), (.lshl, []), (.lreturn, [])], 0)]
def mt_83 : Nat × Nat × List jB := (3, 2, k_Rw_placed)
set_option maxRecDepth 100000 in
theorem ck_83 : jok jm_83 mt_83 = true := by decide +kernel
def k_Rw_carriers : List jB := [
  (0, [0], [(.aload_n 0, []), (.getfield 19, [5, 0, 0]), (.iconst 2, []), (.isub, []), (.ireturn, [])], 0)]
def mt_84 : Nat × Nat × List jB := (1, 1, k_Rw_carriers)
set_option maxRecDepth 100000 in
theorem ck_84 : jok jm_84 mt_84 = true := by decide +kernel
def k_Rw_placeOf : List jB := [
  (0, [0, 1], [(.iconst 1, []), (.istore_n 2, [])], 1),
  (2, [0, 1, 2], [(.iload_n 2, []), (.aload_n 0, []), (.getfield 19, [5, 0, 0]), (.iconst 1, []), (.isub, []), (.if_icmp .ge 21, [3]), (.aload_n 0, []), (.getfield 9, [5, 1, 4]), (.iload_n 2, []), (.iaload, []), (.iload_n 1, []), (.if_icmp .ne 5, [2]), (.iload_n 2, []), (.ireturn, [])], 0),
  (24, [0, 1, 2], [(.iinc 2 1, []), (.goto (-25), [1])], 0),
  (30, [], [(.iconst 0, []), (.ireturn, [])], 0)]
def mt_85 : Nat × Nat × List jB := (1, 3, k_Rw_placeOf)
set_option maxRecDepth 100000 in
theorem ck_85 : jok jm_85 mt_85 = true := by decide +kernel
def k_Rw_isCarrier : List jB := [
  (0, [0, 1], [(.aload_n 0, []), (.iload_n 1, []), (.invokevirtual 23, [85, 1, 5, 1]), (.ifCond .le 7, [1]), (.iconst 1, []), (.goto 4, [2])], 0),
  (12, [], [(.iconst 0, [])], 2),
  (13, [], [(.ireturn, [])], 0)]
def mt_86 : Nat × Nat × List jB := (2, 2, k_Rw_isCarrier)
set_option maxRecDepth 100000 in
theorem ck_86 : jok jm_86 mt_86 = true := by decide +kernel
def k_Rw_swapAt : List jB := [
  (0, [0, 1], [(.aload_n 0, []), (.getfield 9, [5, 1, 4]), (.iload_n 1, []), (.iaload, []), (.istore_n 2, []), (.aload_n 0, []), (.getfield 9, [5, 1, 4]), (.iload_n 1, []), (.aload_n 0, []), (.getfield 9, [5, 1, 4]), (.iload_n 1, []), (.iconst 1, []), (.iadd, []), (.iaload, []), (.iastore, []), (.aload_n 0, []), (.getfield 9, [5, 1, 4]), (.iload_n 1, []), (.iconst 1, []), (.iadd, []), (.iload_n 2, []), (.iastore, []), (.return_, [])], 0)]
def mt_87 : Nat × Nat × List jB := (0, 3, k_Rw_swapAt)
set_option maxRecDepth 100000 in
theorem ck_87 : jok jm_87 mt_87 = true := by decide +kernel
def k_Rw_arriving : List jB := [
  (0, [0, 1, 2, 3], [(.iload_n 3, []), (.istore 4, []), (.iconst 1, []), (.istore 5, [])], 1),
  (6, [0, 1, 2, 4, 5], [(.iload 5, []), (.aload_n 0, []), (.getfield 19, [5, 0, 0]), (.iconst 1, []), (.isub, []), (.if_icmp .ge 43, [2]), (.iload 4, []), (.aload_n 1, []), (.getfield 27, [6, 12, 4]), (.iload_n 2, []), (.iload 4, []), (.aload_n 0, []), (.aload_n 1, []), (.iload 5, []), (.invokevirtual 33, [90, 2, 5, 1]), (.aload_n 0, []), (.aload_n 1, []), (.iload 5, []), (.iconst 1, []), (.iadd, []), (.invokevirtual 33, [90, 2, 5, 1]), (.iload 5, []), (.iconst 0, []), (.invokevirtual 37, [24, 6, 1, 1]), (.isub, []), (.istore 4, []), (.iinc 5 1, []), (.goto (-48), [1])], 0),
  (57, [4], [(.iload 4, []), (.ireturn, [])], 0)]
def mt_88 : Nat × Nat × List jB := (1, 6, k_Rw_arriving)
set_option maxRecDepth 100000 in
theorem ck_88 : jok jm_88 mt_88 = true := by decide +kernel
def k_Rw_keptAt : List jB := [
  (0, [0, 1, 2, 3], [(.iload_n 2, []), (.istore 4, []), (.iconst 0, []), (.istore 5, []), (.iconst 1, []), (.istore 6, [])], 1),
  (9, [0, 1, 3, 4, 5, 6], [(.iload 6, []), (.iload_n 3, []), (.if_icmp .gt 58, [2]), (.iload 6, []), (.aload_n 0, []), (.getfield 19, [5, 0, 0]), (.iconst 1, []), (.isub, []), (.if_icmp .ge 47, [2]), (.aload_n 1, []), (.getfield 27, [6, 12, 4]), (.iconst 4, []), (.iload 4, []), (.aload_n 0, []), (.aload_n 1, []), (.iload 6, []), (.invokevirtual 33, [90, 2, 5, 1]), (.aload_n 0, []), (.aload_n 1, []), (.iload 6, []), (.iconst 1, []), (.iadd, []), (.invokevirtual 33, [90, 2, 5, 1]), (.iload 6, []), (.iconst 0, []), (.invokevirtual 37, [24, 6, 1, 1]), (.istore 5, []), (.iload 4, []), (.iload 5, []), (.isub, []), (.istore 4, []), (.iinc 6 1, []), (.goto (-58), [1])], 0),
  (70, [5], [(.iload 5, []), (.ireturn, [])], 0)]
def mt_89 : Nat × Nat × List jB := (1, 7, k_Rw_keptAt)
set_option maxRecDepth 100000 in
theorem ck_89 : jok jm_89 mt_89 = true := by decide +kernel
end
section
/-! The methods' blocks, held against their bytes. Printed by wip/gen/code.py. -/
def k_Rw_ageAt : List jB := [
  (0, [0, 1, 2], [(.aload_n 1, []), (.getfield 43, [6, 2, 4]), (.aload_n 0, []), (.getfield 9, [5, 1, 4]), (.iload_n 2, []), (.iaload, []), (.iaload, []), (.ireturn, [])], 0)]
def mt_90 : Nat × Nat × List jB := (1, 3, k_Rw_ageAt)
set_option maxRecDepth 100000 in
theorem ck_90 : jok jm_90 mt_90 = true := by decide +kernel
def k_Rw_leastBringing : List jB := [
  (0, [0, 1, 2], [(.iconst 1, []), (.aload_n 0, []), (.invokevirtual 46, [84, 0, 5, 1]), (.ishl, []), (.istore_n 3, []), (.iconst 0, []), (.iload_n 2, []), (.iconst 1, []), (.isub, []), (.iload_n 3, []), (.imul, []), (.iconst 1, []), (.iadd, []), (.invokestatic 50, [910, 0]), (.istore 4, []), (.iload_n 2, []), (.iload_n 3, []), (.imul, []), (.istore 5, []), (.iconst 0, []), (.istore 6, [])], 1),
  (28, [0, 1, 2, 4, 5, 6], [(.iload 6, []), (.aload_n 0, []), (.invokevirtual 46, [84, 0, 5, 1]), (.if_icmp .gt 50, [4]), (.iload 4, []), (.iload 5, []), (.if_icmp .ge 43, [4]), (.iload 4, []), (.iload 5, []), (.iadd, []), (.iconst 2, []), (.idiv, []), (.istore 7, []), (.aload_n 0, []), (.aload_n 1, []), (.iconst 4, []), (.iload 7, []), (.invokevirtual 56, [88, 3, 5, 1]), (.iload_n 2, []), (.if_icmp .lt 10, [2]), (.iload 7, []), (.istore 5, []), (.goto 9, [3])], 0),
  (72, [0, 1, 2, 5, 6, 7], [(.iload 7, []), (.iconst 1, []), (.iadd, []), (.istore 4, [])], 3),
  (78, [0, 1, 2, 4, 5, 6], [(.iinc 6 1, []), (.goto (-53), [1])], 0),
  (84, [5], [(.iload 5, []), (.ireturn, [])], 0)]
def mt_91 : Nat × Nat × List jB := (1, 8, k_Rw_leastBringing)
set_option maxRecDepth 100000 in
theorem ck_91 : jok jm_91 mt_91 = true := by decide +kernel
def k_Te_clear : List jB := [
  (0, [0], [(.aload_n 0, []), (.iconst 0, []), (.putfield 46, [6, 0, 0]), (.aload_n 0, []), (.iconst 0, []), (.putfield 50, [6, 6, 0]), (.aload_n 0, []), (.iconst 0, []), (.putfield 53, [6, 10, 0]), (.aload_n 0, []), (.getfield 42, [6, 12, 4]), (.invokevirtual 56, [19, 0, 1, 0]), (.return_, [])], 0)]
def mt_92 : Nat × Nat × List jB := (0, 1, k_Te_clear)
set_option maxRecDepth 100000 in
theorem ck_92 : jok jm_92 mt_92 = true := by decide +kernel
def k_Te_isPerson : List jB := [
  (0, [0, 1], [(.iload_n 1, []), (.iconst 0, []), (.aload_n 0, []), (.getfield 46, [6, 0, 0]), (.iconst 1, []), (.isub, []), (.invokestatic 59, [152, 3, 1]), (.ireturn, [])], 0)]
def mt_93 : Nat × Nat × List jB := (2, 2, k_Te_isPerson)
set_option maxRecDepth 100000 in
theorem ck_93 : jok jm_93 mt_93 = true := by decide +kernel
def k_Te_personNamed : List jB := [
  (0, [0, 1], [(.iload_n 1, []), (.aload_n 0, []), (.getfield 9, [6, 1, 4]), (.aload_n 0, []), (.getfield 46, [6, 0, 0]), (.invokestatic 63, [96, 3, 1]), (.ireturn, [])], 0)]
def mt_94 : Nat × Nat × List jB := (1, 2, k_Te_personNamed)
set_option maxRecDepth 100000 in
theorem ck_94 : jok jm_94 mt_94 = true := by decide +kernel
def k_Te_mayNamed : List jB := [
  (0, [0, 1], [(.iload_n 1, []), (.aload_n 0, []), (.getfield 36, [6, 11, 4]), (.aload_n 0, []), (.getfield 53, [6, 10, 0]), (.invokestatic 63, [96, 3, 1]), (.ireturn, [])], 0)]
def mt_95 : Nat × Nat × List jB := (1, 2, k_Te_mayNamed)
set_option maxRecDepth 100000 in
theorem ck_95 : jok jm_95 mt_95 = true := by decide +kernel
def k_Te_placeOf : List jB := [
  (0, [0, 1, 2], [(.iconst 0, []), (.istore_n 3, [])], 1),
  (2, [0, 1, 2, 3], [(.iload_n 3, []), (.iload_n 2, []), (.if_icmp .ge 24, [3]), (.iload_n 3, []), (.aload_n 1, []), (.arraylength, []), (.if_icmp .ge 18, [3]), (.aload_n 1, []), (.iload_n 3, []), (.iaload, []), (.iload_n 0, []), (.if_icmp .ne 5, [2]), (.iload_n 3, []), (.ireturn, [])], 0),
  (22, [0, 1, 2, 3], [(.iinc 3 1, []), (.goto (-23), [1])], 0),
  (28, [], [(.iconst (-1), []), (.ireturn, [])], 0)]
def mt_96 : Nat × Nat × List jB := (1, 4, k_Te_placeOf)
set_option maxRecDepth 100000 in
theorem ck_96 : jok jm_96 mt_96 = true := by decide +kernel
def k_Te_addPerson : List jB := [
  (0, [0, 1, 2], [(.aload_n 0, []), (.getfield 46, [6, 0, 0]), (.bipush 10, []), (.if_icmp .ge 53, [1]), (.aload_n 0, []), (.getfield 9, [6, 1, 4]), (.aload_n 0, []), (.getfield 46, [6, 0, 0]), (.iload_n 1, []), (.iastore, []), (.aload_n 0, []), (.getfield 15, [6, 2, 4]), (.aload_n 0, []), (.getfield 46, [6, 0, 0]), (.iload_n 2, []), (.iastore, []), (.aload_n 0, []), (.getfield 18, [6, 3, 4]), (.aload_n 0, []), (.getfield 46, [6, 0, 0]), (.iconst 0, []), (.iastore, []), (.aload_n 0, []), (.getfield 21, [6, 4, 4]), (.aload_n 0, []), (.getfield 46, [6, 0, 0]), (.iconst 0, []), (.iastore, []), (.aload_n 0, []), (.dup, []), (.getfield 46, [6, 0, 0]), (.iconst 1, []), (.iadd, []), (.putfield 46, [6, 0, 0])], 1),
  (59, [], [(.return_, [])], 0)]
def mt_97 : Nat × Nat × List jB := (0, 3, k_Te_addPerson)
set_option maxRecDepth 100000 in
theorem ck_97 : jok jm_97 mt_97 = true := by decide +kernel
def k_Te_addHeir : List jB := [
  (0, [0, 1, 2], [(.aload_n 0, []), (.getfield 21, [6, 4, 4]), (.iload_n 1, []), (.iaload, []), (.iconst 3, []), (.if_icmp .ge 29, [1]), (.aload_n 0, []), (.getfield 24, [6, 5, 4]), (.iload_n 1, []), (.iconst 3, []), (.imul, []), (.aload_n 0, []), (.getfield 21, [6, 4, 4]), (.iload_n 1, []), (.iaload, []), (.iadd, []), (.iload_n 2, []), (.iastore, []), (.aload_n 0, []), (.getfield 21, [6, 4, 4]), (.iload_n 1, []), (.dup2, []), (.iaload, []), (.iconst 1, []), (.iadd, []), (.iastore, [])], 1),
  (36, [], [(.return_, [])], 0)]
def mt_98 : Nat × Nat × List jB := (0, 3, k_Te_addHeir)
set_option maxRecDepth 100000 in
theorem ck_98 : jok jm_98 mt_98 = true := by decide +kernel
def k_Te_addParcel : List jB := [
  (0, [0, 1, 2, 3], [(.aload_n 0, []), (.getfield 50, [6, 6, 0]), (.bipush 12, []), (.if_icmp .ge 43, [1]), (.aload_n 0, []), (.getfield 27, [6, 7, 4]), (.aload_n 0, []), (.getfield 50, [6, 6, 0]), (.iload_n 1, []), (.iastore, []), (.aload_n 0, []), (.getfield 30, [6, 8, 4]), (.aload_n 0, []), (.getfield 50, [6, 6, 0]), (.iload_n 2, []), (.iastore, []), (.aload_n 0, []), (.getfield 33, [6, 9, 4]), (.aload_n 0, []), (.getfield 50, [6, 6, 0]), (.iload_n 3, []), (.iastore, []), (.aload_n 0, []), (.dup, []), (.getfield 50, [6, 6, 0]), (.iconst 1, []), (.iadd, []), (.putfield 50, [6, 6, 0])], 1),
  (49, [], [(.return_, [])], 0)]
def mt_99 : Nat × Nat × List jB := (0, 4, k_Te_addParcel)
set_option maxRecDepth 100000 in
theorem ck_99 : jok jm_99 mt_99 = true := by decide +kernel
def k_Te_addMay : List jB := [
  (0, [0, 1], [(.aload_n 0, []), (.getfield 53, [6, 10, 0]), (.iconst 4, []), (.if_icmp .ge 23, [1]), (.aload_n 0, []), (.getfield 36, [6, 11, 4]), (.aload_n 0, []), (.getfield 53, [6, 10, 0]), (.iload_n 1, []), (.iastore, []), (.aload_n 0, []), (.dup, []), (.getfield 53, [6, 10, 0]), (.iconst 1, []), (.iadd, []), (.putfield 53, [6, 10, 0])], 1),
  (28, [], [(.return_, [])], 0)]
def mt_100 : Nat × Nat × List jB := (0, 2, k_Te_addMay)
set_option maxRecDepth 100000 in
theorem ck_100 : jok jm_100 mt_100 = true := by decide +kernel
def k_Te_heir : List jB := [
  (0, [0, 1, 2], [(.iload_n 2, []), (.iconst 0, []), (.aload_n 0, []), (.getfield 21, [6, 4, 4]), (.iload_n 1, []), (.iaload, []), (.iconst 1, []), (.isub, []), (.invokestatic 59, [152, 3, 1]), (.ifCond .eq 16, [1]), (.aload_n 0, []), (.getfield 24, [6, 5, 4]), (.iload_n 1, []), (.iconst 3, []), (.imul, []), (.iload_n 2, []), (.iadd, []), (.iaload, []), (.goto 4, [2])], 0),
  (29, [], [(.iconst (-1), [])], 2),
  (30, [], [(.ireturn, [])], 0)]
def mt_101 : Nat × Nat × List jB := (1, 3, k_Te_heir)
set_option maxRecDepth 100000 in
theorem ck_101 : jok jm_101 mt_101 = true := by decide +kernel
def k_Te_handsTo : List jB := [
  (0, [0, 1, 2], [(.iconst 0, []), (.istore_n 3, [])], 1),
  (2, [0, 1, 2, 3], [(.iload_n 3, []), (.aload_n 0, []), (.getfield 21, [6, 4, 4]), (.iload_n 1, []), (.iaload, []), (.if_icmp .ge 21, [3]), (.aload_n 0, []), (.iload_n 1, []), (.iload_n 3, []), (.invokevirtual 67, [101, 2, 6, 1]), (.iload_n 2, []), (.if_icmp .ne 5, [2]), (.iconst 1, []), (.ireturn, [])], 0),
  (24, [0, 1, 2, 3], [(.iinc 3 1, []), (.goto (-25), [1])], 0),
  (30, [], [(.iconst 0, []), (.ireturn, [])], 0)]
def mt_102 : Nat × Nat × List jB := (2, 4, k_Te_handsTo)
set_option maxRecDepth 100000 in
theorem ck_102 : jok jm_102 mt_102 = true := by decide +kernel
def k_Tk_isName : List jB := [
  (0, [0], [(.iload_n 0, []), (.iconst 0, []), (.iconst 5, []), (.invokestatic 30, [152, 3, 1]), (.ireturn, [])], 0)]
def mt_103 : Nat × Nat × List jB := (2, 1, k_Tk_isName)
set_option maxRecDepth 100000 in
theorem ck_103 : jok jm_103 mt_103 = true := by decide +kernel
def k_Tk_isComparison : List jB := [
  (0, [0], [(.iload_n 0, []), (.bipush 60, []), (.bipush 62, []), (.invokestatic 30, [152, 3, 1]), (.ifCond .ne 16, [1]), (.iload_n 0, []), (.sipush 256, []), (.sipush 258, []), (.invokestatic 30, [152, 3, 1]), (.ifCond .eq 7, [2])], 1),
  (24, [], [(.iconst 1, []), (.goto 4, [3])], 0),
  (28, [], [(.iconst 0, [])], 3),
  (29, [], [(.ireturn, [])], 0)]
def mt_104 : Nat × Nat × List jB := (2, 1, k_Tk_isComparison)
set_option maxRecDepth 100000 in
theorem ck_104 : jok jm_104 mt_104 = true := by decide +kernel
def k_Tk_begin : List jB := [
  (0, [0, 1], [(.aload_n 0, []), (.iload_n 1, []), (.aload_n 0, []), (.getfield 15, [7, 5, 4]), (.arraylength, []), (.invokestatic 34, [911, 0]), (.putfield 40, [7, 4, 0]), (.aload_n 0, []), (.iconst 0, []), (.putfield 43, [7, 3, 0]), (.aload_n 0, []), (.invokevirtual 46, [106, 0, 7, 0]), (.return_, [])], 0)]
def mt_105 : Nat × Nat × List jB := (0, 2, k_Tk_begin)
set_option maxRecDepth 100000 in
theorem ck_105 : jok jm_105 mt_105 = true := by decide +kernel
def k_Tk_advance : List jB := [
  (0, [0], [(.aload_n 0, []), (.aload_n 0, []), (.getfield 43, [7, 3, 0]), (.putfield 49, [7, 1, 0])], 1),
  (8, [0], [(.aload_n 0, []), (.getfield 49, [7, 1, 0]), (.aload_n 0, []), (.getfield 40, [7, 4, 0]), (.if_icmp .ge 44, [3]), (.aload_n 0, []), (.getfield 15, [7, 5, 4]), (.aload_n 0, []), (.getfield 49, [7, 1, 0]), (.iaload, []), (.bipush 32, []), (.if_icmp .eq 17, [2]), (.aload_n 0, []), (.getfield 15, [7, 5, 4]), (.aload_n 0, []), (.getfield 49, [7, 1, 0]), (.iaload, []), (.bipush 10, []), (.if_icmp .ne 16, [3])], 2),
  (47, [0], [(.aload_n 0, []), (.dup, []), (.getfield 49, [7, 1, 0]), (.iconst 1, []), (.iadd, []), (.putfield 49, [7, 1, 0]), (.goto (-49), [1])], 0),
  (60, [0], [(.aload_n 0, []), (.aload_n 0, []), (.getfield 49, [7, 1, 0]), (.putfield 43, [7, 3, 0]), (.aload_n 0, []), (.getfield 49, [7, 1, 0]), (.aload_n 0, []), (.getfield 40, [7, 4, 0]), (.if_icmp .lt 12, [4]), (.aload_n 0, []), (.bipush 18, []), (.putfield 52, [7, 0, 0]), (.goto 59, [7])], 0),
  (88, [0], [(.aload_n 0, []), (.getfield 15, [7, 5, 4]), (.aload_n 0, []), (.getfield 49, [7, 1, 0]), (.iaload, []), (.bipush 97, []), (.bipush 122, []), (.invokestatic 30, [152, 3, 1]), (.ifCond .eq 10, [5]), (.aload_n 0, []), (.invokevirtual 55, [107, 0, 7, 0]), (.goto 33, [7])], 0),
  (114, [0], [(.aload_n 0, []), (.getfield 15, [7, 5, 4]), (.aload_n 0, []), (.getfield 49, [7, 1, 0]), (.iaload, []), (.bipush 48, []), (.bipush 57, []), (.invokestatic 30, [152, 3, 1]), (.ifCond .eq 10, [6]), (.aload_n 0, []), (.invokevirtual 58, [108, 0, 7, 0]), (.goto 7, [7])], 0),
  (140, [0], [(.aload_n 0, []), (.invokevirtual 61, [109, 0, 7, 0])], 7),
  (144, [], [(.return_, [])], 0)]
def mt_106 : Nat × Nat × List jB := (0, 1, k_Tk_advance)
set_option maxRecDepth 100000 in
theorem ck_106 : jok jm_106 mt_106 = true := by decide +kernel
def k_Tk_readWord : List jB := [
  (0, [0], [(.aload_n 0, []), (.iconst 0, []), (.putfield 64, [7, 2, 0])], 1),
  (5, [0], [(.aload_n 0, []), (.getfield 43, [7, 3, 0]), (.aload_n 0, []), (.getfield 40, [7, 4, 0]), (.if_icmp .ge 69, [2]), (.aload_n 0, []), (.getfield 15, [7, 5, 4]), (.aload_n 0, []), (.getfield 43, [7, 3, 0]), (.iaload, []), (.bipush 97, []), (.if_icmp .lt 55, [2]), (.aload_n 0, []), (.getfield 15, [7, 5, 4]), (.aload_n 0, []), (.getfield 43, [7, 3, 0]), (.iaload, []), (.bipush 122, []), (.if_icmp .gt 41, [2]), (.aload_n 0, []), (.aload_n 0, []), (.getfield 64, [7, 2, 0]), (.iconst 5, []), (.ishl, []), (.aload_n 0, []), (.getfield 15, [7, 5, 4]), (.aload_n 0, []), (.getfield 43, [7, 3, 0]), (.iaload, []), (.bipush 97, []), (.isub, []), (.iconst 1, []), (.iadd, []), (.ior, []), (.putfield 64, [7, 2, 0]), (.aload_n 0, []), (.dup, []), (.getfield 43, [7, 3, 0]), (.iconst 1, []), (.iadd, []), (.putfield 43, [7, 3, 0]), (.goto (-74), [1])], 0),
  (82, [0], [(.aload_n 0, []), (.getfield 43, [7, 3, 0]), (.aload_n 0, []), (.getfield 49, [7, 1, 0]), (.isub, []), (.istore_n 1, []), (.iload_n 1, []), (.bipush 6, []), (.if_icmp .le 10, [3]), (.aload_n 0, []), (.bipush 19, []), (.putfield 52, [7, 0, 0]), (.return_, [])], 0),
  (105, [0, 1], [(.aload_n 0, []), (.dup, []), (.getfield 64, [7, 2, 0]), (.iconst 5, []), (.bipush 6, []), (.iload_n 1, []), (.isub, []), (.imul, []), (.ishl, []), (.putfield 64, [7, 2, 0]), (.aload_n 0, []), (.bipush 16, []), (.putfield 52, [7, 0, 0]), (.iconst 0, []), (.istore_n 2, [])], 4),
  (128, [0, 2], [(.iload_n 2, []), (.bipush 16, []), (.if_icmp .ge 27, [6]), (.aload_n 0, []), (.getfield 11, [7, 6, 4]), (.iload_n 2, []), (.iaload, []), (.aload_n 0, []), (.getfield 64, [7, 2, 0]), (.if_icmp .ne 8, [5]), (.aload_n 0, []), (.iload_n 2, []), (.putfield 52, [7, 0, 0])], 5),
  (152, [0, 2], [(.iinc 2 1, []), (.goto (-27), [4])], 0),
  (158, [], [(.return_, [])], 0)]
def mt_107 : Nat × Nat × List jB := (0, 3, k_Tk_readWord)
set_option maxRecDepth 100000 in
theorem ck_107 : jok jm_107 mt_107 = true := by decide +kernel
def k_Tk_readNumber : List jB := [
  (0, [0], [(.aload_n 0, []), (.bipush 17, []), (.putfield 52, [7, 0, 0]), (.aload_n 0, []), (.iconst 0, []), (.putfield 64, [7, 2, 0])], 1),
  (11, [0], [(.aload_n 0, []), (.getfield 43, [7, 3, 0]), (.aload_n 0, []), (.getfield 40, [7, 4, 0]), (.if_icmp .ge 73, [2]), (.aload_n 0, []), (.getfield 15, [7, 5, 4]), (.aload_n 0, []), (.getfield 43, [7, 3, 0]), (.iaload, []), (.bipush 48, []), (.if_icmp .lt 59, [2]), (.aload_n 0, []), (.getfield 15, [7, 5, 4]), (.aload_n 0, []), (.getfield 43, [7, 3, 0]), (.iaload, []), (.bipush 57, []), (.if_icmp .gt 45, [2]), (.aload_n 0, []), (.aload_n 0, []), (.getfield 64, [7, 2, 0]), (.bipush 10, []), (.imul, []), (.aload_n 0, []), (.getfield 15, [7, 5, 4]), (.aload_n 0, []), (.getfield 43, [7, 3, 0]), (.iaload, []), (.iadd, []), (.bipush 48, []), (.isub, []), (.ldc 67, [1000000]), (.invokestatic 34, [911, 0]), (.putfield 64, [7, 2, 0]), (.aload_n 0, []), (.dup, []), (.getfield 43, [7, 3, 0]), (.iconst 1, []), (.iadd, []), (.putfield 43, [7, 3, 0]), (.goto (-78), [1])], 0),
  (92, [], [(.return_, [])], 0)]
def mt_108 : Nat × Nat × List jB := (0, 1, k_Tk_readNumber)
set_option maxRecDepth 100000 in
theorem ck_108 : jok jm_108 mt_108 = true := by decide +kernel
def k_Tk_readSign : List jB := [
  (0, [0], [(.aload_n 0, []), (.getfield 15, [7, 5, 4]), (.aload_n 0, []), (.getfield 49, [7, 1, 0]), (.iaload, []), (.istore_n 1, []), (.aload_n 0, []), (.ldc 68, [1001, 1]), (.iload_n 1, []), (.i2c, []), (.invokevirtual 70, [903, 0, 0]), (.ifCond .ge 8, [1]), (.bipush 19, []), (.goto 4, [2])], 0),
  (26, [0, 1], [(.iload_n 1, [])], 2),
  (27, [0, 1], [(.putfield 52, [7, 0, 0]), (.aload_n 0, []), (.dup, []), (.getfield 43, [7, 3, 0]), (.iconst 1, []), (.iadd, []), (.putfield 43, [7, 3, 0]), (.aload_n 0, []), (.getfield 43, [7, 3, 0]), (.aload_n 0, []), (.getfield 40, [7, 4, 0]), (.if_icmp .ge 15, [3]), (.aload_n 0, []), (.getfield 15, [7, 5, 4]), (.aload_n 0, []), (.getfield 43, [7, 3, 0]), (.iaload, []), (.goto 4, [4])], 0),
  (63, [0, 1], [(.iconst (-1), [])], 4),
  (64, [0, 1], [(.istore_n 2, []), (.iload_n 1, []), (.bipush 60, []), (.if_icmp .ne 29, [5]), (.iload_n 2, []), (.bipush 61, []), (.if_icmp .ne 23, [5]), (.aload_n 0, []), (.sipush 256, []), (.putfield 52, [7, 0, 0]), (.aload_n 0, []), (.dup, []), (.getfield 43, [7, 3, 0]), (.iconst 1, []), (.iadd, []), (.putfield 43, [7, 3, 0]), (.goto 64, [7])], 0),
  (97, [0, 1, 2], [(.iload_n 1, []), (.bipush 60, []), (.if_icmp .ne 29, [6]), (.iload_n 2, []), (.bipush 62, []), (.if_icmp .ne 23, [6]), (.aload_n 0, []), (.sipush 257, []), (.putfield 52, [7, 0, 0]), (.aload_n 0, []), (.dup, []), (.getfield 43, [7, 3, 0]), (.iconst 1, []), (.iadd, []), (.putfield 43, [7, 3, 0]), (.goto 32, [7])], 0),
  (129, [0, 1, 2], [(.iload_n 1, []), (.bipush 62, []), (.if_icmp .ne 26, [7]), (.iload_n 2, []), (.bipush 61, []), (.if_icmp .ne 20, [7]), (.aload_n 0, []), (.sipush 258, []), (.putfield 52, [7, 0, 0]), (.aload_n 0, []), (.dup, []), (.getfield 43, [7, 3, 0]), (.iconst 1, []), (.iadd, []), (.putfield 43, [7, 3, 0])], 7),
  (158, [], [(.return_, [])], 0)]
def mt_109 : Nat × Nat × List jB := (0, 3, k_Tk_readSign)
set_option maxRecDepth 100000 in
theorem ck_109 : jok jm_109 mt_109 = true := by decide +kernel
def k_HH_feed : List jB := [
  (0, [0, 1, 2, 3, 4, 5], [(.aload_n 0, []), (.getfield 74, [8, 1, 0]), (.bipush 20, []), (.iadd, []), (.sipush 700, []), (.if_icmp .le 5, [1]), (.iconst (-1), []), (.ireturn, [])], 0),
  (15, [0, 1, 2, 3, 4, 5], [(.aload_n 0, []), (.iload_n 1, []), (.invokevirtual 77, [111, 1, 8, 0]), (.aload_n 0, []), (.iload_n 2, []), (.invokevirtual 77, [111, 1, 8, 0]), (.aload_n 0, []), (.iload_n 3, []), (.invokevirtual 77, [111, 1, 8, 0]), (.aload_n 0, []), (.iload 4, []), (.invokevirtual 77, [111, 1, 8, 0]), (.aload_n 0, []), (.iload 5, []), (.invokevirtual 77, [111, 1, 8, 0]), (.aload_n 0, []), (.getfield 74, [8, 1, 0]), (.ireturn, [])], 0)]
def mt_110 : Nat × Nat × List jB := (1, 6, k_HH_feed)
set_option maxRecDepth 100000 in
theorem ck_110 : jok jm_110 mt_110 = true := by decide +kernel
def k_HH_append : List jB := [
  (0, [0, 1], [(.bipush 24, []), (.istore_n 2, [])], 1),
  (3, [0, 1, 2], [(.iload_n 2, []), (.ifCond .lt 45, [2]), (.aload_n 0, []), (.getfield 74, [8, 1, 0]), (.sipush 700, []), (.if_icmp .ge 35, [2]), (.aload_n 0, []), (.getfield 9, [8, 0, 4]), (.aload_n 0, []), (.getfield 74, [8, 1, 0]), (.iload_n 1, []), (.iload_n 2, []), (.iushr, []), (.sipush 255, []), (.iand, []), (.iastore, []), (.aload_n 0, []), (.dup, []), (.getfield 74, [8, 1, 0]), (.iconst 1, []), (.iadd, []), (.putfield 74, [8, 1, 0]), (.iinc 2 (-8), []), (.goto (-43), [1])], 0),
  (49, [], [(.return_, [])], 0)]
def mt_111 : Nat × Nat × List jB := (0, 3, k_HH_append)
set_option maxRecDepth 100000 in
theorem ck_111 : jok jm_111 mt_111 = true := by decide +kernel
def k_HH_text : List jB := [
  (0, [0, 1], [(.iload_n 1, []), (.ifCond .lt 11, [1]), (.iload_n 1, []), (.aload_n 0, []), (.getfield 74, [8, 1, 0]), (.if_icmp .le 6, [2])], 1),
  (12, [], [(.bipush (-2), []), (.ireturn, [])], 0),
  (15, [0, 1], [(.aload_n 0, []), (.iconst 0, []), (.putfield 74, [8, 1, 0]), (.aload_n 0, []), (.getfield 28, [8, 4, 4]), (.iload_n 1, []), (.aload_n 0, []), (.getfield 20, [8, 3, 3]), (.invokevirtual 81, [62, 2, 4, 0]), (.iconst 0, []), (.istore_n 2, []), (.iconst 0, []), (.istore_n 3, [])], 3),
  (36, [0, 1, 2, 3], [(.iload_n 3, []), (.iload_n 1, []), (.if_icmp .ge 30, [4]), (.aload_n 0, []), (.getfield 28, [8, 4, 4]), (.invokevirtual 85, [63, 0, 4, 1]), (.ifCond .eq 20, [4]), (.aload_n 0, []), (.getfield 28, [8, 4, 4]), (.invokevirtual 89, [66, 0, 4, 1]), (.pop, []), (.iinc 2 1, []), (.iinc 3 1, []), (.goto (-29), [3])], 0),
  (68, [0, 2], [(.aload_n 0, []), (.aload_n 0, []), (.getfield 28, [8, 4, 4]), (.getfield 92, [4, 0, 0]), (.putfield 95, [8, 5, 0]), (.aload_n 0, []), (.aload_n 0, []), (.getfield 28, [8, 4, 4]), (.getfield 98, [4, 1, 0]), (.putfield 32, [8, 6, 0]), (.aload_n 0, []), (.getfield 95, [8, 5, 0]), (.ifCond .eq 5, [5]), (.iconst (-1), []), (.ireturn, [])], 0),
  (99, [0, 2], [(.aload_n 0, []), (.getfield 16, [8, 2, 3]), (.astore_n 3, []), (.aload_n 0, []), (.aload_n 0, []), (.getfield 20, [8, 3, 3]), (.putfield 16, [8, 2, 3]), (.aload_n 0, []), (.aload_n 3, []), (.putfield 20, [8, 3, 3]), (.aload_n 0, []), (.getfield 41, [8, 7, 4]), (.aload_n 0, []), (.getfield 16, [8, 2, 3]), (.invokevirtual 99, [0, 1, 0, 0]), (.aload_n 0, []), (.getfield 70, [8, 13, 4]), (.invokevirtual 101, [27, 0, 2, 0]), (.aload_n 0, []), (.iconst 0, []), (.putfield 104, [8, 9, 1]), (.iload_n 2, []), (.ireturn, [])], 0)]
def mt_112 : Nat × Nat × List jB := (1, 4, k_HH_text)
set_option maxRecDepth 100000 in
theorem ck_112 : jok jm_112 mt_112 = true := by decide +kernel
def k_HH_fault : List jB := [
  (0, [0, 1], [(.iload_n 1, []), (.ifCond .ne 8, [1]), (.aload_n 0, []), (.getfield 95, [8, 5, 0]), (.ireturn, [])], 0),
  (9, [0, 1], [(.iload_n 1, []), (.iconst 1, []), (.if_icmp .ne 10, [2]), (.aload_n 0, []), (.getfield 32, [8, 6, 0]), (.goto 4, [3])], 0),
  (21, [], [(.iconst (-1), [])], 3),
  (22, [], [(.ireturn, [])], 0)]
def mt_113 : Nat × Nat × List jB := (1, 2, k_HH_fault)
set_option maxRecDepth 100000 in
theorem ck_113 : jok jm_113 mt_113 = true := by decide +kernel
def k_HH_named : List jB := [
  (0, [0, 1, 2], [(.iload_n 1, []), (.ifCond .ne 12, [1]), (.aload_n 0, []), (.getfield 16, [8, 2, 3]), (.iload_n 2, []), (.invokevirtual 108, [94, 1, 6, 1]), (.ireturn, [])], 0),
  (13, [0, 1, 2], [(.iload_n 1, []), (.iconst 1, []), (.if_icmp .ne 14, [2]), (.aload_n 0, []), (.getfield 16, [8, 2, 3]), (.iload_n 2, []), (.invokevirtual 112, [95, 1, 6, 1]), (.goto 4, [3])], 0),
  (29, [], [(.iconst (-1), [])], 3),
  (30, [], [(.ireturn, [])], 0)]
def mt_114 : Nat × Nat × List jB := (1, 3, k_HH_named)
set_option maxRecDepth 100000 in
theorem ck_114 : jok jm_114 mt_114 = true := by decide +kernel
def k_HH_look : List jB := [
  (0, [0, 1, 2], [(.aload_n 0, []), (.getfield 16, [8, 2, 3]), (.iload_n 1, []), (.invokevirtual 115, [93, 1, 6, 1]), (.ifCond .ne 11, [1]), (.new 119, []), (.dup, []), (.invokespecial 121, []), (.athrow, [])], 0),
  (19, [0, 1, 2], [(.iload_n 2, []), (.tableswitch 96 0 6 #[44, 54, 64, 74, 74, 74, 86], [7, 2, 3, 4, 5, 5, 5, 6])], 0),
  (64, [0, 1], [(.aload_n 0, []), (.getfield 16, [8, 2, 3]), (.getfield 122, [6, 2, 4]), (.iload_n 1, []), (.iaload, []), (.ireturn, [])], 0),
  (74, [0, 1], [(.aload_n 0, []), (.getfield 41, [8, 7, 4]), (.getfield 125, [0, 1, 4]), (.iload_n 1, []), (.iaload, []), (.ireturn, [])], 0),
  (84, [0, 1], [(.aload_n 0, []), (.getfield 16, [8, 2, 3]), (.getfield 128, [6, 4, 4]), (.iload_n 1, []), (.iaload, []), (.ireturn, [])], 0),
  (94, [0, 1, 2], [(.aload_n 0, []), (.getfield 16, [8, 2, 3]), (.iload_n 1, []), (.iload_n 2, []), (.iconst 3, []), (.isub, []), (.invokevirtual 131, [101, 2, 6, 1]), (.ireturn, [])], 0),
  (106, [0, 1], [(.aload_n 0, []), (.getfield 41, [8, 7, 4]), (.getfield 135, [0, 2, 4]), (.iload_n 1, []), (.iaload, []), (.ireturn, [])], 0),
  (116, [], [(.new 138, []), (.dup, []), (.invokespecial 140, []), (.athrow, [])], 0)]
def mt_115 : Nat × Nat × List jB := (1, 3, k_HH_look)
set_option maxRecDepth 100000 in
theorem ck_115 : jok jm_115 mt_115 = true := by decide +kernel
def k_HH_hours : List jB := [
  (0, [0, 1], [(.iload_n 1, []), (.iconst 0, []), (.sipush 300, []), (.invokestatic 141, [152, 3, 1]), (.ifCond .eq 18, [1]), (.aload_n 0, []), (.getfield 41, [8, 7, 4]), (.getfield 145, [0, 0, 0]), (.iload_n 1, []), (.iadd, []), (.sipush 3000, []), (.if_icmp .le 5, [2])], 1),
  (26, [], [(.iconst (-1), []), (.ireturn, [])], 0),
  (28, [0, 1], [(.aload_n 0, []), (.getfield 41, [8, 7, 4]), (.aload_n 0, []), (.getfield 41, [8, 7, 4]), (.getfield 145, [0, 0, 0]), (.iload_n 1, []), (.iadd, []), (.invokevirtual 148, [9, 1, 0, 0]), (.aload_n 0, []), (.getfield 41, [8, 7, 4]), (.getfield 145, [0, 0, 0]), (.ireturn, [])], 0)]
def mt_116 : Nat × Nat × List jB := (1, 2, k_HH_hours)
set_option maxRecDepth 100000 in
theorem ck_116 : jok jm_116 mt_116 = true := by decide +kernel
def k_HH_send : List jB := [
  (0, [0, 1, 2], [(.aload_n 0, []), (.getfield 16, [8, 2, 3]), (.iload_n 1, []), (.invokevirtual 115, [93, 1, 6, 1]), (.ifCond .eq 25, [1]), (.iload_n 2, []), (.iconst 1, []), (.ldc 151, [99999]), (.invokestatic 141, [152, 3, 1]), (.ifCond .eq 15, [1]), (.aload_n 0, []), (.getfield 41, [8, 7, 4]), (.getfield 152, [0, 3, 0]), (.bipush 30, []), (.if_icmp .lt 5, [2])], 1),
  (33, [], [(.iconst (-1), []), (.ireturn, [])], 0),
  (35, [0, 1, 2], [(.aload_n 0, []), (.getfield 41, [8, 7, 4]), (.iload_n 1, []), (.iload_n 2, []), (.aload_n 0, []), (.getfield 41, [8, 7, 4]), (.getfield 145, [0, 0, 0]), (.invokevirtual 155, [4, 3, 0, 1]), (.ireturn, [])], 0)]
def mt_117 : Nat × Nat × List jB := (1, 3, k_HH_send)
set_option maxRecDepth 100000 in
theorem ck_117 : jok jm_117 mt_117 = true := by decide +kernel
def k_HH_parcel : List jB := [
  (0, [0, 1, 2], [(.aload_n 0, []), (.getfield 41, [8, 7, 4]), (.iload_n 1, []), (.invokevirtual 159, [5, 1, 0, 1]), (.ifCond .ne 5, [1]), (.iconst (-1), []), (.ireturn, [])], 0),
  (13, [0, 1, 2], [(.iload_n 2, []), (.tableswitch 112 0 6 #[42, 52, 62, 72, 82, 92, 102], [9, 2, 3, 4, 5, 6, 7, 8])], 0),
  (56, [0, 1], [(.aload_n 0, []), (.getfield 41, [8, 7, 4]), (.getfield 162, [0, 4, 4]), (.iload_n 1, []), (.iaload, []), (.ireturn, [])], 0),
  (66, [0, 1], [(.aload_n 0, []), (.getfield 41, [8, 7, 4]), (.getfield 165, [0, 5, 4]), (.iload_n 1, []), (.iaload, []), (.ireturn, [])], 0),
  (76, [0, 1], [(.aload_n 0, []), (.getfield 41, [8, 7, 4]), (.getfield 168, [0, 6, 4]), (.iload_n 1, []), (.iaload, []), (.ireturn, [])], 0),
  (86, [0, 1], [(.aload_n 0, []), (.getfield 41, [8, 7, 4]), (.getfield 171, [0, 7, 4]), (.iload_n 1, []), (.iaload, []), (.ireturn, [])], 0),
  (96, [0, 1], [(.aload_n 0, []), (.getfield 41, [8, 7, 4]), (.getfield 174, [0, 8, 4]), (.iload_n 1, []), (.iaload, []), (.ireturn, [])], 0),
  (106, [0, 1], [(.aload_n 0, []), (.getfield 41, [8, 7, 4]), (.getfield 177, [0, 9, 4]), (.iload_n 1, []), (.iaload, []), (.ireturn, [])], 0),
  (116, [0, 1], [(.aload_n 0, []), (.getfield 41, [8, 7, 4]), (.getfield 180, [0, 10, 4]), (.iload_n 1, []), (.iaload, []), (.ireturn, [])], 0),
  (126, [], [(.iconst (-1), []), (.ireturn, [])], 0)]
def mt_118 : Nat × Nat × List jB := (1, 3, k_HH_parcel)
set_option maxRecDepth 100000 in
theorem ck_118 : jok jm_118 mt_118 = true := by decide +kernel
def k_HH_coins : List jB := [
  (0, [0], [(.aload_n 0, []), (.getfield 41, [8, 7, 4]), (.invokevirtual 183, [7, 0, 0, 2]), (.lreturn, [])], 0)]
def mt_119 : Nat × Nat × List jB := (3, 1, k_HH_coins)
set_option maxRecDepth 100000 in
theorem ck_119 : jok jm_119 mt_119 = true := by decide +kernel
def k_HH_rest : List jB := [
  (0, [0], [(.aload_n 0, []), (.getfield 48, [8, 10, 4]), (.aload_n 0, []), (.getfield 41, [8, 7, 4]), (.invokevirtual 187, [3, 1, 0, 0]), (.aload_n 0, []), (.getfield 48, [8, 10, 4]), (.invokevirtual 191, [8, 0, 0, 1]), (.ireturn, [])], 0)]
def mt_120 : Nat × Nat × List jB := (1, 1, k_HH_rest)
set_option maxRecDepth 100000 in
theorem ck_120 : jok jm_120 mt_120 = true := by decide +kernel
def k_HH_arrives : List jB := [
  (0, [0, 1, 2, 4], [(.aload_n 0, []), (.iload_n 1, []), (.lload_n 2, []), (.iload 4, []), (.invokevirtual 195, [151, 3, 8, 1]), (.ifCond .ne 5, [1]), (.iconst (-1), []), (.ireturn, [])], 0),
  (13, [0, 4], [(.aload_n 0, []), (.getfield 54, [8, 11, 4]), (.aload_n 0, []), (.getfield 16, [8, 2, 3]), (.iconst 4, []), (.iload 4, []), (.invokevirtual 199, [88, 3, 5, 1]), (.ireturn, [])], 0)]
def mt_121 : Nat × Nat × List jB := (1, 5, k_HH_arrives)
set_option maxRecDepth 100000 in
theorem ck_121 : jok jm_121 mt_121 = true := by decide +kernel
def k_HH_keeps : List jB := [
  (0, [0, 1, 2, 4, 5], [(.aload_n 0, []), (.iload_n 1, []), (.lload_n 2, []), (.iload 4, []), (.invokevirtual 195, [151, 3, 8, 1]), (.ifCond .eq 19, [1]), (.iload 5, []), (.iconst 1, []), (.aload_n 0, []), (.getfield 54, [8, 11, 4]), (.invokevirtual 203, [84, 0, 5, 1]), (.invokestatic 141, [152, 3, 1]), (.ifCond .ne 5, [2])], 1),
  (27, [], [(.iconst (-1), []), (.ireturn, [])], 0),
  (29, [0, 4, 5], [(.aload_n 0, []), (.getfield 54, [8, 11, 4]), (.aload_n 0, []), (.getfield 16, [8, 2, 3]), (.iload 4, []), (.iload 5, []), (.invokevirtual 206, [89, 3, 5, 1]), (.ireturn, [])], 0)]
def mt_122 : Nat × Nat × List jB := (1, 6, k_HH_keeps)
set_option maxRecDepth 100000 in
theorem ck_122 : jok jm_122 mt_122 = true := by decide +kernel
def k_HH_back : List jB := [
  (0, [0, 1, 2, 4, 5], [(.aload_n 0, []), (.iload_n 1, []), (.lload_n 2, []), (.invokevirtual 209, [150, 2, 8, 1]), (.ifCond .eq 14, [1]), (.iload 4, []), (.iconst 0, []), (.ldc 151, [99999]), (.invokestatic 141, [152, 3, 1]), (.ifCond .ne 5, [2])], 1),
  (20, [], [(.iconst (-1), []), (.ireturn, [])], 0),
  (22, [0, 4, 5], [(.aload_n 0, []), (.iload 4, []), (.iconst 0, []), (.invokevirtual 213, [125, 2, 8, 1]), (.istore 6, []), (.aload_n 0, []), (.iload 4, []), (.iconst 1, []), (.invokevirtual 213, [125, 2, 8, 1]), (.istore 7, []), (.iload 5, []), (.tableswitch 66 0 3 #[30, 48, 51, 54], [11, 3, 6, 7, 8])], 0),
  (72, [6, 7], [(.iload 6, []), (.iconst (-1), []), (.if_icmp .ne 7, [4]), (.iconst 0, []), (.goto 10, [5])], 0),
  (82, [6, 7], [(.iload 7, []), (.iload 6, []), (.isub, []), (.iconst 1, []), (.iadd, [])], 5),
  (89, [], [(.ireturn, [])], 0),
  (90, [6], [(.iload 6, []), (.ireturn, [])], 0),
  (93, [7], [(.iload 7, []), (.ireturn, [])], 0),
  (96, [6], [(.iload 6, []), (.iconst (-1), []), (.if_icmp .ne 7, [9]), (.iconst 0, []), (.goto 4, [10])], 0),
  (106, [], [(.iconst 1, [])], 10),
  (107, [], [(.ireturn, [])], 0),
  (108, [], [(.iconst (-1), []), (.ireturn, [])], 0)]
def mt_123 : Nat × Nat × List jB := (1, 8, k_HH_back)
set_option maxRecDepth 100000 in
theorem ck_123 : jok jm_123 mt_123 = true := by decide +kernel
def k_HH_span : List jB := [
  (0, [0, 1, 2, 4, 5, 6], [(.aload_n 0, []), (.iload_n 1, []), (.lload_n 2, []), (.invokevirtual 209, [150, 2, 8, 1]), (.ifCond .eq 29, [1]), (.iload 4, []), (.iconst 0, []), (.ldc 151, [99999]), (.invokestatic 141, [152, 3, 1]), (.ifCond .eq 18, [1]), (.iload 5, []), (.ifCond .ne 13, [1]), (.iload 6, []), (.iconst 0, []), (.iconst 1, []), (.invokestatic 141, [152, 3, 1]), (.ifCond .ne 5, [2])], 1),
  (35, [], [(.iconst (-1), []), (.ireturn, [])], 0),
  (37, [0, 4, 6], [(.aload_n 0, []), (.iload 4, []), (.iload 6, []), (.invokevirtual 213, [125, 2, 8, 1]), (.ireturn, [])], 0)]
def mt_124 : Nat × Nat × List jB := (1, 7, k_HH_span)
set_option maxRecDepth 100000 in
theorem ck_124 : jok jm_124 mt_124 = true := by decide +kernel
def k_HH_endOfBack : List jB := [
  (0, [0, 1, 2], [(.aload_n 0, []), (.getfield 54, [8, 11, 4]), (.aload_n 0, []), (.getfield 16, [8, 2, 3]), (.iload_n 1, []), (.invokevirtual 216, [91, 2, 5, 1]), (.istore_n 3, []), (.iload_n 3, []), (.ldc 220, [999999]), (.if_icmp .le 5, [1]), (.iconst (-1), []), (.ireturn, [])], 0),
  (21, [0, 1, 2, 3], [(.iload_n 2, []), (.ifCond .ne 7, [2]), (.iload_n 3, []), (.goto 24, [3])], 0),
  (29, [0, 1], [(.aload_n 0, []), (.getfield 54, [8, 11, 4]), (.aload_n 0, []), (.getfield 16, [8, 2, 3]), (.iload_n 1, []), (.iconst 1, []), (.iadd, []), (.invokevirtual 216, [91, 2, 5, 1]), (.iconst 1, []), (.isub, []), (.ldc 220, [999999]), (.invokestatic 221, [911, 0])], 3),
  (50, [], [(.ireturn, [])], 0)]
def mt_125 : Nat × Nat × List jB := (1, 4, k_HH_endOfBack)
set_option maxRecDepth 100000 in
theorem ck_125 : jok jm_125 mt_125 = true := by decide +kernel
def k_HH_best : List jB := [
  (0, [0, 1, 2, 4, 5], [(.aload_n 0, []), (.iload_n 1, []), (.lload_n 2, []), (.iload 4, []), (.invokevirtual 195, [151, 3, 8, 1]), (.ifCond .eq 13, [1]), (.iload 5, []), (.iconst 0, []), (.iconst 1, []), (.invokestatic 141, [152, 3, 1]), (.ifCond .ne 5, [2])], 1),
  (21, [], [(.iconst (-1), []), (.ireturn, [])], 0),
  (23, [0, 4, 5], [(.aload_n 0, []), (.getfield 63, [8, 12, 4]), (.aload_n 0, []), (.getfield 16, [8, 2, 3]), (.iload 4, []), (.invokevirtual 226, [34, 2, 3, 0]), (.iload 5, []), (.ifCond .ne 13, [3]), (.aload_n 0, []), (.getfield 63, [8, 12, 4]), (.invokevirtual 230, [38, 0, 3, 1]), (.goto 10, [4])], 0),
  (51, [0], [(.aload_n 0, []), (.getfield 63, [8, 12, 4]), (.invokevirtual 233, [39, 0, 3, 1])], 4),
  (58, [], [(.ireturn, [])], 0)]
def mt_126 : Nat × Nat × List jB := (1, 6, k_HH_best)
set_option maxRecDepth 100000 in
theorem ck_126 : jok jm_126 mt_126 = true := by decide +kernel
def k_HH_order : List jB := [
  (0, [0, 1, 2, 4, 5], [(.aload_n 0, []), (.iload_n 1, []), (.lload_n 2, []), (.iload 4, []), (.invokevirtual 195, [151, 3, 8, 1]), (.ifCond .eq 13, [1]), (.iload 5, []), (.iconst 0, []), (.iconst 1, []), (.invokestatic 141, [152, 3, 1]), (.ifCond .ne 7, [2])], 1),
  (21, [], [(.ldc2_w 236, [18446744073709551615]), (.lreturn, [])], 0),
  (25, [0, 4, 5], [(.aload_n 0, []), (.getfield 63, [8, 12, 4]), (.aload_n 0, []), (.getfield 16, [8, 2, 3]), (.iload 4, []), (.invokevirtual 226, [34, 2, 3, 0]), (.aload_n 0, []), (.getfield 63, [8, 12, 4]), (.iload 5, []), (.ifCond .ne 13, [3]), (.aload_n 0, []), (.getfield 63, [8, 12, 4]), (.invokevirtual 230, [38, 0, 3, 1]), (.goto 10, [4])], 0),
  (57, [0], [(.aload_n 0, []), (.getfield 63, [8, 12, 4]), (.invokevirtual 233, [39, 0, 3, 1])], 4),
  (64, [], [(.invokevirtual 238, [41, 1, 3, 2]), (.lreturn, [])], 0)]
def mt_127 : Nat × Nat × List jB := (3, 6, k_HH_order)
set_option maxRecDepth 100000 in
theorem ck_127 : jok jm_127 mt_127 = true := by decide +kernel
def k_HH_just : List jB := [
  (0, [0, 1, 2, 4, 5], [(.aload_n 0, []), (.iload_n 1, []), (.lload_n 2, []), (.iload 4, []), (.invokevirtual 195, [151, 3, 8, 1]), (.ifCond .eq 14, [1]), (.iload 5, []), (.iconst 0, []), (.ldc 220, [999999]), (.invokestatic 141, [152, 3, 1]), (.ifCond .ne 5, [2])], 1),
  (22, [], [(.iconst (-1), []), (.ireturn, [])], 0),
  (24, [0, 4, 5], [(.aload_n 0, []), (.getfield 63, [8, 12, 4]), (.aload_n 0, []), (.getfield 16, [8, 2, 3]), (.iload 4, []), (.invokevirtual 226, [34, 2, 3, 0]), (.aload_n 0, []), (.getfield 63, [8, 12, 4]), (.iload 5, []), (.invokevirtual 242, [40, 1, 3, 1]), (.ireturn, [])], 0)]
def mt_128 : Nat × Nat × List jB := (1, 6, k_HH_just)
set_option maxRecDepth 100000 in
theorem ck_128 : jok jm_128 mt_128 = true := by decide +kernel
def k_HH_first : List jB := [
  (0, [0, 1, 2, 4, 5], [(.aload_n 0, []), (.iload_n 1, []), (.lload_n 2, []), (.iload 4, []), (.invokevirtual 195, [151, 3, 8, 1]), (.ifCond .eq 14, [1]), (.iload 5, []), (.iconst 0, []), (.ldc 220, [999999]), (.invokestatic 141, [152, 3, 1]), (.ifCond .ne 7, [2])], 1),
  (22, [], [(.ldc2_w 236, [18446744073709551615]), (.lreturn, [])], 0),
  (26, [0, 4, 5], [(.aload_n 0, []), (.getfield 63, [8, 12, 4]), (.aload_n 0, []), (.getfield 16, [8, 2, 3]), (.iload 4, []), (.invokevirtual 226, [34, 2, 3, 0]), (.aload_n 0, []), (.getfield 63, [8, 12, 4]), (.iload 5, []), (.invokevirtual 238, [41, 1, 3, 2]), (.lreturn, [])], 0)]
def mt_129 : Nat × Nat × List jB := (3, 6, k_HH_first)
set_option maxRecDepth 100000 in
theorem ck_129 : jok jm_129 mt_129 = true := by decide +kernel
def k_HH_bound : List jB := [
  (0, [0, 1, 2, 3], [(.iload_n 1, []), (.iconst 0, []), (.bipush 8, []), (.invokestatic 141, [152, 3, 1]), (.ifCond .eq 22, [1]), (.iload_n 2, []), (.iconst 0, []), (.ldc 220, [999999]), (.invokestatic 141, [152, 3, 1]), (.ifCond .eq 12, [1]), (.iload_n 3, []), (.iconst 0, []), (.iconst 1, []), (.invokestatic 141, [152, 3, 1]), (.ifCond .ne 5, [2])], 1),
  (29, [], [(.iconst (-1), []), (.ireturn, [])], 0),
  (31, [1, 2, 3], [(.iload_n 3, []), (.ifCond .ne 11, [3]), (.iload_n 2, []), (.iload_n 1, []), (.invokestatic 245, [153, 2, 1]), (.goto 6, [4])], 0),
  (43, [1, 2], [(.iload_n 2, []), (.iload_n 1, []), (.ishr, [])], 4),
  (46, [], [(.ireturn, [])], 0)]
def mt_130 : Nat × Nat × List jB := (1, 4, k_HH_bound)
set_option maxRecDepth 100000 in
theorem ck_130 : jok jm_130 mt_130 = true := by decide +kernel
def k_HH_gains : List jB := [
  (0, [0, 1, 2, 4, 5, 6], [(.aload_n 0, []), (.iload_n 1, []), (.lload_n 2, []), (.iload 4, []), (.invokevirtual 195, [151, 3, 8, 1]), (.ifCond .eq 25, [1]), (.aload_n 0, []), (.getfield 54, [8, 11, 4]), (.iload 5, []), (.invokevirtual 248, [86, 1, 5, 1]), (.ifCond .eq 13, [1]), (.iload 6, []), (.iconst 0, []), (.iconst 3, []), (.invokestatic 141, [152, 3, 1]), (.ifCond .ne 5, [2])], 1),
  (33, [], [(.iconst (-1), []), (.ireturn, [])], 0),
  (35, [0, 4, 5, 6], [(.aload_n 0, []), (.getfield 63, [8, 12, 4]), (.aload_n 0, []), (.getfield 16, [8, 2, 3]), (.iload 4, []), (.invokevirtual 226, [34, 2, 3, 0]), (.iload 6, []), (.iconst 2, []), (.if_icmp .ge 7, [3]), (.iconst 1, []), (.goto 4, [4])], 0),
  (58, [0, 5, 6], [(.iconst 0, [])], 4),
  (59, [0, 5, 6], [(.istore 7, []), (.iload 6, []), (.ifCond .eq 9, [5]), (.iload 6, []), (.iconst 2, []), (.if_icmp .ne 17, [6])], 5),
  (72, [0, 5, 7], [(.aload_n 0, []), (.getfield 63, [8, 12, 4]), (.iload 5, []), (.iload 7, []), (.invokevirtual 251, [44, 2, 3, 1]), (.goto 14, [7])], 0),
  (86, [0, 5, 7], [(.aload_n 0, []), (.getfield 63, [8, 12, 4]), (.iload 5, []), (.iload 7, []), (.invokevirtual 255, [45, 2, 3, 1])], 7),
  (97, [], [(.ireturn, [])], 0)]
def mt_131 : Nat × Nat × List jB := (1, 8, k_HH_gains)
set_option maxRecDepth 100000 in
theorem ck_131 : jok jm_131 mt_131 = true := by decide +kernel
def k_HH_changes : List jB := [
  (0, [0, 1, 2, 4, 5], [(.aload_n 0, []), (.iload_n 1, []), (.lload_n 2, []), (.iload 4, []), (.invokevirtual 195, [151, 3, 8, 1]), (.ifCond .eq 14, [1]), (.iload 5, []), (.iconst 0, []), (.ldc 220, [999999]), (.invokestatic 141, [152, 3, 1]), (.ifCond .ne 5, [2])], 1),
  (22, [], [(.iconst (-1), []), (.ireturn, [])], 0),
  (24, [0, 4, 5], [(.aload_n 0, []), (.getfield 63, [8, 12, 4]), (.aload_n 0, []), (.getfield 16, [8, 2, 3]), (.iload 4, []), (.invokevirtual 226, [34, 2, 3, 0]), (.aload_n 0, []), (.getfield 63, [8, 12, 4]), (.iload 5, []), (.invokevirtual 258, [42, 1, 3, 1]), (.ireturn, [])], 0)]
def mt_132 : Nat × Nat × List jB := (1, 6, k_HH_changes)
set_option maxRecDepth 100000 in
theorem ck_132 : jok jm_132 mt_132 = true := by decide +kernel
def k_HH_changed : List jB := [
  (0, [0, 1, 2, 4, 5], [(.aload_n 0, []), (.iload_n 1, []), (.lload_n 2, []), (.iload 4, []), (.invokevirtual 195, [151, 3, 8, 1]), (.ifCond .eq 14, [1]), (.iload 5, []), (.iconst 0, []), (.ldc 220, [999999]), (.invokestatic 141, [152, 3, 1]), (.ifCond .ne 7, [2])], 1),
  (22, [], [(.ldc2_w 236, [18446744073709551615]), (.lreturn, [])], 0),
  (26, [0, 4, 5], [(.aload_n 0, []), (.getfield 63, [8, 12, 4]), (.aload_n 0, []), (.getfield 16, [8, 2, 3]), (.iload 4, []), (.invokevirtual 226, [34, 2, 3, 0]), (.aload_n 0, []), (.getfield 63, [8, 12, 4]), (.iload 5, []), (.invokevirtual 261, [43, 1, 3, 2]), (.lreturn, [])], 0)]
def mt_133 : Nat × Nat × List jB := (3, 6, k_HH_changed)
set_option maxRecDepth 100000 in
theorem ck_133 : jok jm_133 mt_133 = true := by decide +kernel
def k_HH_worth : List jB := [
  (0, [0, 1, 2, 4, 5], [(.aload_n 0, []), (.iload_n 1, []), (.lload_n 2, []), (.iload 4, []), (.invokevirtual 195, [151, 3, 8, 1]), (.ifCond .eq 21, [1]), (.iload 5, []), (.iconst 1, []), (.aload_n 0, []), (.getfield 54, [8, 11, 4]), (.invokevirtual 203, [84, 0, 5, 1]), (.iconst 1, []), (.isub, []), (.invokestatic 141, [152, 3, 1]), (.ifCond .ne 7, [2])], 1),
  (29, [], [(.ldc_w 266, [2147483648]), (.ireturn, [])], 0),
  (33, [0, 4, 5], [(.aload_n 0, []), (.getfield 54, [8, 11, 4]), (.aload_n 0, []), (.getfield 16, [8, 2, 3]), (.iconst 4, []), (.iload 4, []), (.invokevirtual 199, [88, 3, 5, 1]), (.istore 6, []), (.aload_n 0, []), (.getfield 54, [8, 11, 4]), (.iload 5, []), (.invokevirtual 267, [87, 1, 5, 0]), (.aload_n 0, []), (.getfield 54, [8, 11, 4]), (.aload_n 0, []), (.getfield 16, [8, 2, 3]), (.iconst 4, []), (.iload 4, []), (.invokevirtual 199, [88, 3, 5, 1]), (.iload 6, []), (.isub, []), (.ireturn, [])], 0)]
def mt_134 : Nat × Nat × List jB := (1, 7, k_HH_worth)
set_option maxRecDepth 100000 in
theorem ck_134 : jok jm_134 mt_134 = true := by decide +kernel
def k_HH_serves : List jB := [
  (0, [0, 1, 2, 4], [(.aload_n 0, []), (.iload_n 1, []), (.lload_n 2, []), (.invokevirtual 209, [150, 2, 8, 1]), (.ifCond .eq 14, [1]), (.iload 4, []), (.iconst 1, []), (.bipush 50, []), (.invokestatic 141, [152, 3, 1]), (.ifCond .ne 5, [2])], 1),
  (20, [], [(.iconst (-1), []), (.ireturn, [])], 0),
  (22, [0, 4], [(.iconst 1, []), (.istore 5, [])], 3),
  (25, [0, 4, 5], [(.iload 5, []), (.iload 4, []), (.if_icmp .gt 21, [5]), (.aload_n 0, []), (.iload 5, []), (.invokevirtual 270, [136, 1, 8, 1]), (.ifCond .eq 6, [4]), (.iload 5, []), (.ireturn, [])], 0),
  (44, [0, 4, 5], [(.iinc 5 1, []), (.goto (-22), [3])], 0),
  (50, [], [(.iconst 0, []), (.ireturn, [])], 0)]
def mt_135 : Nat × Nat × List jB := (1, 6, k_HH_serves)
set_option maxRecDepth 100000 in
theorem ck_135 : jok jm_135 mt_135 = true := by decide +kernel
def k_HH_isOutdone : List jB := [
  (0, [0, 1], [(.aload_n 0, []), (.getfield 54, [8, 11, 4]), (.aload_n 0, []), (.getfield 16, [8, 2, 3]), (.iconst 4, []), (.iload_n 1, []), (.invokevirtual 199, [88, 3, 5, 1]), (.istore_n 2, []), (.iload_n 2, []), (.iload_n 1, []), (.aload_n 0, []), (.getfield 54, [8, 11, 4]), (.invokevirtual 203, [84, 0, 5, 1]), (.invokestatic 245, [153, 2, 1]), (.if_icmp .ne 5, [1]), (.iconst 0, []), (.ireturn, [])], 0),
  (31, [0, 1, 2], [(.aload_n 0, []), (.getfield 63, [8, 12, 4]), (.aload_n 0, []), (.getfield 16, [8, 2, 3]), (.iload_n 1, []), (.invokevirtual 226, [34, 2, 3, 0]), (.iload_n 2, []), (.aload_n 0, []), (.getfield 63, [8, 12, 4]), (.invokevirtual 230, [38, 0, 3, 1]), (.if_icmp .ge 7, [2]), (.iconst 1, []), (.goto 4, [3])], 0),
  (58, [], [(.iconst 0, [])], 3),
  (59, [], [(.ireturn, [])], 0)]
def mt_136 : Nat × Nat × List jB := (2, 3, k_HH_isOutdone)
set_option maxRecDepth 100000 in
theorem ck_136 : jok jm_136 mt_136 = true := by decide +kernel
def k_HH_law : List jB := [
  (0, [0, 1, 2, 3, 4, 5], [(.iload_n 1, []), (.iconst 0, []), (.sipush 9999, []), (.invokestatic 141, [152, 3, 1]), (.ifCond .eq 51, [1]), (.iload_n 2, []), (.iconst 0, []), (.bipush 99, []), (.invokestatic 141, [152, 3, 1]), (.ifCond .eq 41, [1]), (.iload_n 3, []), (.iconst 0, []), (.bipush 99, []), (.invokestatic 141, [152, 3, 1]), (.ifCond .eq 31, [1]), (.iload 4, []), (.iconst 0, []), (.sipush 9999, []), (.invokestatic 141, [152, 3, 1]), (.ifCond .eq 19, [1]), (.iload 5, []), (.iconst 0, []), (.sipush 9999, []), (.invokestatic 141, [152, 3, 1]), (.ifCond .eq 7, [1]), (.iconst 1, []), (.goto 4, [2])], 0),
  (59, [0, 1, 2, 3, 4, 5], [(.iconst 0, [])], 2),
  (60, [0, 1, 2, 3, 4, 5], [(.istore 6, []), (.iload 6, []), (.ifCond .eq 16, [3]), (.aload_n 0, []), (.getfield 16, [8, 2, 3]), (.getfield 273, [6, 12, 4]), (.getfield 277, [1, 1, 1]), (.ifCond .ne 7, [4])], 3),
  (80, [], [(.ldc2_w 282, [9223372036854775808]), (.lreturn, [])], 0),
  (84, [0, 1, 2, 3, 4, 5], [(.aload_n 0, []), (.getfield 16, [8, 2, 3]), (.getfield 273, [6, 12, 4]), (.iconst 4, []), (.iload_n 1, []), (.iload_n 2, []), (.iload_n 3, []), (.iload 4, []), (.iload 5, []), (.invokevirtual 284, [25, 6, 1, 2]), (.lreturn, [])], 0)]
def mt_137 : Nat × Nat × List jB := (3, 7, k_HH_law)
set_option maxRecDepth 100000 in
theorem ck_137 : jok jm_137 mt_137 = true := by decide +kernel
def k_HH_note : List jB := [
  (0, [0, 1, 2, 4, 5, 6], [(.aload_n 0, []), (.iload_n 1, []), (.lload_n 2, []), (.iload 4, []), (.invokevirtual 195, [151, 3, 8, 1]), (.ifCond .eq 26, [1]), (.iload 5, []), (.iconst 0, []), (.iload 6, []), (.invokestatic 141, [152, 3, 1]), (.ifCond .eq 15, [1]), (.iload 6, []), (.iload 5, []), (.ldc 220, [999999]), (.invokestatic 141, [152, 3, 1]), (.ifCond .ne 5, [2])], 1),
  (34, [], [(.iconst (-1), []), (.ireturn, [])], 0),
  (36, [0, 1, 2, 4, 5, 6], [(.aload_n 0, []), (.getfield 70, [8, 13, 4]), (.iload_n 1, []), (.lload_n 2, []), (.iload 4, []), (.iload 5, []), (.iload 6, []), (.invokevirtual 288, [28, 5, 2, 1]), (.ireturn, [])], 0)]
def mt_138 : Nat × Nat × List jB := (1, 7, k_HH_note)
set_option maxRecDepth 100000 in
theorem ck_138 : jok jm_138 mt_138 = true := by decide +kernel
def k_HH_strike : List jB := [
  (0, [0, 1], [(.iload_n 1, []), (.iconst 0, []), (.aload_n 0, []), (.getfield 70, [8, 13, 4]), (.getfield 291, [2, 0, 0]), (.iconst 1, []), (.isub, []), (.invokestatic 141, [152, 3, 1]), (.ifCond .eq 14, [1]), (.aload_n 0, []), (.getfield 70, [8, 13, 4]), (.iload_n 1, []), (.invokevirtual 294, [29, 1, 2, 1]), (.goto 4, [2])], 0),
  (28, [], [(.iconst (-1), [])], 2),
  (29, [], [(.ireturn, [])], 0)]
def mt_139 : Nat × Nat × List jB := (1, 2, k_HH_strike)
set_option maxRecDepth 100000 in
theorem ck_139 : jok jm_139 mt_139 = true := by decide +kernel
def k_HH_known : List jB := [
  (0, [0, 1], [(.iload_n 1, []), (.iconst (-1), []), (.aload_n 0, []), (.getfield 70, [8, 13, 4]), (.getfield 291, [2, 0, 0]), (.invokestatic 141, [152, 3, 1]), (.ifCond .ne 5, [1]), (.iconst 0, []), (.ireturn, [])], 0),
  (17, [0, 1], [(.aload_n 0, []), (.getfield 70, [8, 13, 4]), (.iload_n 1, []), (.putfield 297, [2, 1, 0]), (.iconst 1, []), (.ireturn, [])], 0)]
def mt_140 : Nat × Nat × List jB := (2, 2, k_HH_known)
set_option maxRecDepth 100000 in
theorem ck_140 : jok jm_140 mt_140 = true := by decide +kernel
def k_HH_fits : List jB := [
  (0, [0], [(.aload_n 0, []), (.getfield 70, [8, 13, 4]), (.invokevirtual 300, [31, 0, 2, 0]), (.iconst 0, []), (.istore_n 1, []), (.iconst 0, []), (.istore_n 2, [])], 1),
  (11, [0, 1, 2], [(.iload_n 2, []), (.aload_n 0, []), (.getfield 16, [8, 2, 3]), (.getfield 303, [6, 10, 0]), (.if_icmp .gt 27, [3]), (.aload_n 0, []), (.aload_n 0, []), (.iload_n 2, []), (.invokevirtual 306, [143, 1, 8, 1]), (.invokevirtual 309, [142, 1, 8, 1]), (.ifCond .eq 9, [2]), (.iload_n 1, []), (.iconst 1, []), (.iload_n 2, []), (.ishl, []), (.ior, []), (.istore_n 1, [])], 2),
  (40, [0, 1, 2], [(.iinc 2 1, []), (.goto (-32), [1])], 0),
  (46, [1], [(.iload_n 1, []), (.ireturn, [])], 0)]
def mt_141 : Nat × Nat × List jB := (1, 3, k_HH_fits)
set_option maxRecDepth 100000 in
theorem ck_141 : jok jm_141 mt_141 = true := by decide +kernel
end
section
/-! The methods' blocks, held against their bytes. Printed by wip/gen/code.py. -/
def k_HH_agrees : List jB := [
  (0, [0, 1], [(.iconst 0, []), (.istore_n 2, [])], 1),
  (2, [0, 1, 2], [(.iload_n 2, []), (.aload_n 0, []), (.getfield 70, [8, 13, 4]), (.getfield 291, [2, 0, 0]), (.if_icmp .ge 79, [3]), (.aload_n 0, []), (.getfield 70, [8, 13, 4]), (.iload_n 2, []), (.invokevirtual 312, [32, 1, 2, 1]), (.ifCond .eq 62, [2]), (.aload_n 0, []), (.aload_n 0, []), (.getfield 70, [8, 13, 4]), (.getfield 315, [2, 2, 4]), (.iload_n 2, []), (.iaload, []), (.aload_n 0, []), (.getfield 70, [8, 13, 4]), (.getfield 318, [2, 3, 4]), (.iload_n 2, []), (.laload, []), (.invokevirtual 209, [150, 2, 8, 1]), (.ifCond .eq 37, [2]), (.aload_n 0, []), (.getfield 70, [8, 13, 4]), (.iload_n 2, []), (.aload_n 0, []), (.getfield 54, [8, 11, 4]), (.aload_n 0, []), (.getfield 16, [8, 2, 3]), (.iload_n 1, []), (.aload_n 0, []), (.getfield 70, [8, 13, 4]), (.getfield 322, [2, 4, 4]), (.iload_n 2, []), (.iaload, []), (.invokevirtual 199, [88, 3, 5, 1]), (.invokevirtual 325, [33, 2, 2, 1]), (.ifCond .ne 5, [2]), (.iconst 0, []), (.ireturn, [])], 0),
  (83, [0, 1, 2], [(.iinc 2 1, []), (.goto (-84), [1])], 0),
  (89, [], [(.iconst 1, []), (.ireturn, [])], 0)]
def mt_142 : Nat × Nat × List jB := (2, 3, k_HH_agrees)
set_option maxRecDepth 100000 in
theorem ck_142 : jok jm_142 mt_142 = true := by decide +kernel
def k_HH_lawNumbered : List jB := [
  (0, [0, 1], [(.iload_n 1, []), (.aload_n 0, []), (.getfield 16, [8, 2, 3]), (.getfield 303, [6, 10, 0]), (.if_icmp .ne 7, [1]), (.iconst 4, []), (.goto 4, [2])], 0),
  (15, [1], [(.iload_n 1, [])], 2),
  (16, [], [(.ireturn, [])], 0)]
def mt_143 : Nat × Nat × List jB := (1, 2, k_HH_lawNumbered)
set_option maxRecDepth 100000 in
theorem ck_143 : jok jm_143 mt_143 = true := by decide +kernel
def k_HH_apart : List jB := [
  (0, [0, 1, 2, 4, 5], [(.aload_n 0, []), (.iload_n 1, []), (.lload_n 2, []), (.invokevirtual 209, [150, 2, 8, 1]), (.ifCond .eq 35, [1]), (.iload 4, []), (.iconst 0, []), (.aload_n 0, []), (.getfield 16, [8, 2, 3]), (.getfield 303, [6, 10, 0]), (.invokestatic 141, [152, 3, 1]), (.ifCond .eq 19, [1]), (.iload 5, []), (.iconst 0, []), (.aload_n 0, []), (.getfield 16, [8, 2, 3]), (.getfield 303, [6, 10, 0]), (.invokestatic 141, [152, 3, 1]), (.ifCond .ne 5, [2])], 1),
  (41, [], [(.iconst (-1), []), (.ireturn, [])], 0),
  (43, [0, 4, 5], [(.iconst 1, []), (.istore 6, [])], 3),
  (46, [0, 4, 5, 6], [(.iload 6, []), (.sipush 999, []), (.if_icmp .gt 57, [5]), (.aload_n 0, []), (.getfield 54, [8, 11, 4]), (.aload_n 0, []), (.getfield 16, [8, 2, 3]), (.aload_n 0, []), (.iload 4, []), (.invokevirtual 306, [143, 1, 8, 1]), (.iload 6, []), (.invokevirtual 199, [88, 3, 5, 1]), (.istore 7, []), (.iload 7, []), (.aload_n 0, []), (.getfield 54, [8, 11, 4]), (.aload_n 0, []), (.getfield 16, [8, 2, 3]), (.aload_n 0, []), (.iload 5, []), (.invokevirtual 306, [143, 1, 8, 1]), (.iload 6, []), (.invokevirtual 199, [88, 3, 5, 1]), (.if_icmp .eq 6, [4]), (.iload 6, []), (.ireturn, [])], 0),
  (102, [0, 4, 5, 6], [(.iinc 6 1, []), (.goto (-59), [3])], 0),
  (108, [], [(.bipush (-2), []), (.ireturn, [])], 0)]
def mt_144 : Nat × Nat × List jB := (1, 8, k_HH_apart)
set_option maxRecDepth 100000 in
theorem ck_144 : jok jm_144 mt_144 = true := by decide +kernel
def k_HH_tried : List jB := [
  (0, [0, 1, 2, 3], [(.aload_n 0, []), (.iload_n 1, []), (.iload_n 2, []), (.invokevirtual 329, [146, 2, 8, 1]), (.ifCond .eq 14, [1]), (.aload_n 0, []), (.getfield 16, [8, 2, 3]), (.iload_n 3, []), (.invokevirtual 115, [93, 1, 6, 1]), (.ifCond .ne 5, [2])], 1),
  (20, [], [(.iconst (-1), []), (.ireturn, [])], 0),
  (22, [0, 1, 2, 3], [(.aload_n 0, []), (.getfield 48, [8, 10, 4]), (.aload_n 0, []), (.getfield 41, [8, 7, 4]), (.iload_n 1, []), (.iload_n 2, []), (.invokevirtual 332, [1, 3, 0, 0]), (.aload_n 0, []), (.getfield 48, [8, 10, 4]), (.aload_n 0, []), (.getfield 41, [8, 7, 4]), (.getfield 145, [0, 0, 0]), (.invokevirtual 148, [9, 1, 0, 0]), (.aload_n 0, []), (.getfield 48, [8, 10, 4]), (.getfield 125, [0, 1, 4]), (.iload_n 3, []), (.iaload, []), (.ireturn, [])], 0)]
def mt_145 : Nat × Nat × List jB := (1, 4, k_HH_tried)
set_option maxRecDepth 100000 in
theorem ck_145 : jok jm_145 mt_145 = true := by decide +kernel
def k_HH_isTrial : List jB := [
  (0, [0, 1, 2], [(.iload_n 1, []), (.tableswitch 67 0 5 #[39, 48, 48, 39, 48, 58], [6, 1, 2, 2, 1, 2, 5])], 0),
  (40, [0, 2], [(.aload_n 0, []), (.getfield 16, [8, 2, 3]), (.iload_n 2, []), (.invokevirtual 115, [93, 1, 6, 1]), (.ireturn, [])], 0),
  (49, [2], [(.iload_n 2, []), (.ifCond .ne 7, [3]), (.iconst 1, []), (.goto 4, [4])], 0),
  (57, [], [(.iconst 0, [])], 4),
  (58, [], [(.ireturn, [])], 0),
  (59, [0, 2], [(.aload_n 0, []), (.getfield 41, [8, 7, 4]), (.iload_n 2, []), (.invokevirtual 159, [5, 1, 0, 1]), (.ireturn, [])], 0),
  (68, [], [(.iconst 0, []), (.ireturn, [])], 0)]
def mt_146 : Nat × Nat × List jB := (2, 3, k_HH_isTrial)
set_option maxRecDepth 100000 in
theorem ck_146 : jok jm_146 mt_146 = true := by decide +kernel
def k_HH_keep : List jB := [
  (0, [0], [(.aload_n 0, []), (.getfield 45, [8, 8, 4]), (.aload_n 0, []), (.getfield 41, [8, 7, 4]), (.invokevirtual 187, [3, 1, 0, 0]), (.aload_n 0, []), (.iconst 1, []), (.putfield 104, [8, 9, 1]), (.aload_n 0, []), (.getfield 41, [8, 7, 4]), (.getfield 145, [0, 0, 0]), (.ireturn, [])], 0)]
def mt_147 : Nat × Nat × List jB := (1, 1, k_HH_keep)
set_option maxRecDepth 100000 in
theorem ck_147 : jok jm_147 mt_147 = true := by decide +kernel
def k_HH_again : List jB := [
  (0, [0], [(.aload_n 0, []), (.getfield 104, [8, 9, 1]), (.ifCond .ne 5, [1]), (.iconst (-1), []), (.ireturn, [])], 0),
  (9, [0], [(.aload_n 0, []), (.getfield 41, [8, 7, 4]), (.aload_n 0, []), (.getfield 45, [8, 8, 4]), (.invokevirtual 187, [3, 1, 0, 0]), (.aload_n 0, []), (.getfield 41, [8, 7, 4]), (.getfield 145, [0, 0, 0]), (.ireturn, [])], 0)]
def mt_148 : Nat × Nat × List jB := (1, 1, k_HH_again)
set_option maxRecDepth 100000 in
theorem ck_148 : jok jm_148 mt_148 = true := by decide +kernel
def k_HH_count : List jB := [
  (0, [0, 1], [(.iload_n 1, []), (.tableswitch 140 0 9 #[55, 63, 71, 79, 90, 98, 106, 114, 123, 132], [11, 1, 2, 3, 4, 5, 6, 7, 8, 9, 10])], 0),
  (56, [0], [(.aload_n 0, []), (.getfield 16, [8, 2, 3]), (.getfield 336, [6, 0, 0]), (.ireturn, [])], 0),
  (64, [0], [(.aload_n 0, []), (.getfield 41, [8, 7, 4]), (.getfield 152, [0, 3, 0]), (.ireturn, [])], 0),
  (72, [0], [(.aload_n 0, []), (.getfield 16, [8, 2, 3]), (.getfield 303, [6, 10, 0]), (.ireturn, [])], 0),
  (80, [0], [(.aload_n 0, []), (.getfield 16, [8, 2, 3]), (.getfield 273, [6, 12, 4]), (.getfield 339, [1, 0, 0]), (.ireturn, [])], 0),
  (91, [0], [(.aload_n 0, []), (.getfield 41, [8, 7, 4]), (.getfield 145, [0, 0, 0]), (.ireturn, [])], 0),
  (99, [0], [(.aload_n 0, []), (.getfield 70, [8, 13, 4]), (.getfield 291, [2, 0, 0]), (.ireturn, [])], 0),
  (107, [0], [(.aload_n 0, []), (.getfield 70, [8, 13, 4]), (.invokevirtual 342, [30, 0, 2, 1]), (.ireturn, [])], 0),
  (115, [0], [(.aload_n 0, []), (.getfield 41, [8, 7, 4]), (.iconst 1, []), (.invokevirtual 345, [6, 1, 0, 1]), (.ireturn, [])], 0),
  (124, [0], [(.aload_n 0, []), (.getfield 41, [8, 7, 4]), (.iconst 2, []), (.invokevirtual 345, [6, 1, 0, 1]), (.ireturn, [])], 0),
  (133, [0], [(.aload_n 0, []), (.getfield 16, [8, 2, 3]), (.getfield 348, [6, 6, 0]), (.ireturn, [])], 0),
  (141, [], [(.iconst (-1), []), (.ireturn, [])], 0)]
def mt_149 : Nat × Nat × List jB := (1, 2, k_HH_count)
set_option maxRecDepth 100000 in
theorem ck_149 : jok jm_149 mt_149 = true := by decide +kernel
def k_HH_isRow : List jB := [
  (0, [0, 1, 2], [(.aload_n 0, []), (.getfield 54, [8, 11, 4]), (.iload_n 1, []), (.lload_n 2, []), (.aload_n 0, []), (.getfield 16, [8, 2, 3]), (.getfield 336, [6, 0, 0]), (.invokevirtual 349, [82, 3, 5, 1]), (.ireturn, [])], 0)]
def mt_150 : Nat × Nat × List jB := (2, 4, k_HH_isRow)
set_option maxRecDepth 100000 in
theorem ck_150 : jok jm_150 mt_150 = true := by decide +kernel
def k_HH_isSent : List jB := [
  (0, [0, 1, 2, 4], [(.aload_n 0, []), (.iload_n 1, []), (.lload_n 2, []), (.invokevirtual 209, [150, 2, 8, 1]), (.ifCond .eq 18, [1]), (.iload 4, []), (.iconst 0, []), (.ldc 220, [999999]), (.invokestatic 141, [152, 3, 1]), (.ifCond .eq 7, [1]), (.iconst 1, []), (.goto 4, [2])], 0),
  (24, [], [(.iconst 0, [])], 2),
  (25, [], [(.ireturn, [])], 0)]
def mt_151 : Nat × Nat × List jB := (2, 5, k_HH_isSent)
set_option maxRecDepth 100000 in
theorem ck_151 : jok jm_151 mt_151 = true := by decide +kernel
def k_HH_within : List jB := [
  (0, [0, 1, 2], [(.iload_n 0, []), (.iload_n 1, []), (.if_icmp .lt 12, [1]), (.iload_n 0, []), (.iload_n 2, []), (.if_icmp .gt 7, [1]), (.iconst 1, []), (.goto 4, [2])], 0),
  (14, [], [(.iconst 0, [])], 2),
  (15, [], [(.ireturn, [])], 0)]
def mt_152 : Nat × Nat × List jB := (2, 3, k_HH_within)
set_option maxRecDepth 100000 in
theorem ck_152 : jok jm_152 mt_152 = true := by decide +kernel
def k_HH_ceiling : List jB := [
  (0, [0, 1], [(.iload_n 0, []), (.iconst 1, []), (.iload_n 1, []), (.ishl, []), (.iadd, []), (.iconst 1, []), (.isub, []), (.iload_n 1, []), (.ishr, []), (.ireturn, [])], 0)]
def mt_153 : Nat × Nat × List jB := (1, 2, k_HH_ceiling)
set_option maxRecDepth 100000 in
theorem ck_153 : jok jm_153 mt_153 = true := by decide +kernel
def k_M_thrown : List jB := [
  (0, [0], [(.aload_n 0, []), (.getfield 138, [9, 0, 0]), (.ireturn, [])], 0)]
def mt_154 : Nat × Nat × List jB := (1, 1, k_M_thrown)
set_option maxRecDepth 100000 in
theorem ck_154 : jok jm_154 mt_154 = true := by decide +kernel
def k_M_feed : List jB := [
  (0, [0, 1, 2, 3, 4, 5], [(.aload_n 0, []), (.iconst 0, []), (.putfield 138, [9, 0, 0]), (.aload_n 0, []), (.getfield 141, [9, 2, 0]), (.sipush 680, []), (.if_icmp .le 5, [1]), (.iconst (-1), []), (.ireturn, [])], 0),
  (17, [0, 1, 2, 3, 4, 5], [(.iconst 0, []), (.istore 6, [])], 2),
  (20, [0, 1, 2, 3, 4, 5, 6], [(.iload 6, []), (.bipush 20, []), (.if_icmp .ge 86, [8]), (.iload 6, []), (.iconst 4, []), (.if_icmp .ge 7, [3]), (.iload_n 1, []), (.goto 39, [7])], 0),
  (37, [0, 1, 2, 3, 4, 5, 6], [(.iload 6, []), (.bipush 8, []), (.if_icmp .ge 7, [4]), (.iload_n 2, []), (.goto 28, [7])], 0),
  (48, [0, 1, 2, 3, 4, 5, 6], [(.iload 6, []), (.bipush 12, []), (.if_icmp .ge 7, [5]), (.iload_n 3, []), (.goto 17, [7])], 0),
  (59, [0, 1, 2, 3, 4, 5, 6], [(.iload 6, []), (.bipush 16, []), (.if_icmp .ge 8, [6]), (.iload 4, []), (.goto 5, [7])], 0),
  (71, [0, 1, 2, 3, 4, 5, 6], [(.iload 5, [])], 7),
  (73, [0, 1, 2, 3, 4, 5, 6], [(.istore 7, []), (.aload_n 0, []), (.getfield 9, [9, 1, 4]), (.aload_n 0, []), (.getfield 141, [9, 2, 0]), (.iload 6, []), (.iadd, []), (.iload 7, []), (.bipush 24, []), (.bipush 8, []), (.iload 6, []), (.iconst 4, []), (.irem, []), (.imul, []), (.isub, []), (.ishr, []), (.sipush 255, []), (.iand, []), (.iastore, []), (.iinc 6 1, []), (.goto (-87), [2])], 0),
  (110, [0], [(.aload_n 0, []), (.dup, []), (.getfield 141, [9, 2, 0]), (.bipush 20, []), (.iadd, []), (.putfield 141, [9, 2, 0]), (.aload_n 0, []), (.getfield 141, [9, 2, 0]), (.ireturn, [])], 0)]
def mt_155 : Nat × Nat × List jB := (1, 8, k_M_feed)
set_option maxRecDepth 100000 in
theorem ck_155 : jok jm_155 mt_155 = true := by decide +kernel
def k_M_here : List jB := [
  (0, [0], [(.aload_n 0, []), (.getfield 144, [9, 19, 0]), (.aload_n 0, []), (.getfield 147, [9, 18, 0]), (.if_icmp .ge 15, [1]), (.aload_n 0, []), (.getfield 9, [9, 1, 4]), (.aload_n 0, []), (.getfield 144, [9, 19, 0]), (.iaload, []), (.goto 4, [2])], 0),
  (23, [], [(.iconst (-1), [])], 2),
  (24, [], [(.ireturn, [])], 0)]
def mt_156 : Nat × Nat × List jB := (1, 1, k_M_here)
set_option maxRecDepth 100000 in
theorem ck_156 : jok jm_156 mt_156 = true := by decide +kernel
def k_M_isSmall : List jB := [
  (0, [0], [(.iload_n 0, []), (.bipush 97, []), (.if_icmp .lt 13, [1]), (.iload_n 0, []), (.bipush 122, []), (.if_icmp .gt 7, [1]), (.iconst 1, []), (.goto 4, [2])], 0),
  (16, [], [(.iconst 0, [])], 2),
  (17, [], [(.ireturn, [])], 0)]
def mt_157 : Nat × Nat × List jB := (2, 1, k_M_isSmall)
set_option maxRecDepth 100000 in
theorem ck_157 : jok jm_157 mt_157 = true := by decide +kernel
def k_M_isDigit : List jB := [
  (0, [0], [(.iload_n 0, []), (.bipush 48, []), (.if_icmp .lt 13, [1]), (.iload_n 0, []), (.bipush 57, []), (.if_icmp .gt 7, [1]), (.iconst 1, []), (.goto 4, [2])], 0),
  (16, [], [(.iconst 0, [])], 2),
  (17, [], [(.ireturn, [])], 0)]
def mt_158 : Nat × Nat × List jB := (2, 1, k_M_isDigit)
set_option maxRecDepth 100000 in
theorem ck_158 : jok jm_158 mt_158 = true := by decide +kernel
def k_M_token : List jB := [
  (0, [0], [(.aload_n 0, []), (.invokevirtual 150, [156, 0, 9, 1]), (.bipush 10, []), (.if_icmp .eq 12, [1]), (.aload_n 0, []), (.invokevirtual 150, [156, 0, 9, 1]), (.bipush 32, []), (.if_icmp .ne 16, [2])], 1),
  (18, [0], [(.aload_n 0, []), (.dup, []), (.getfield 144, [9, 19, 0]), (.iconst 1, []), (.iadd, []), (.putfield 144, [9, 19, 0]), (.goto (-28), [0])], 0),
  (31, [0], [(.aload_n 0, []), (.aload_n 0, []), (.getfield 144, [9, 19, 0]), (.putfield 154, [9, 20, 0]), (.aload_n 0, []), (.invokevirtual 150, [156, 0, 9, 1]), (.istore_n 1, []), (.iload_n 1, []), (.iconst (-1), []), (.if_icmp .ne 11, [3]), (.aload_n 0, []), (.iconst 4, []), (.putfield 157, [9, 21, 0]), (.goto 171, [14])], 0),
  (57, [0, 1], [(.iload_n 1, []), (.invokestatic 160, [157, 1, 1]), (.ifCond .eq 84, [9])], 4),
  (64, [0], [(.aload_n 0, []), (.invokevirtual 150, [156, 0, 9, 1]), (.invokestatic 160, [157, 1, 1]), (.ifCond .eq 16, [5]), (.aload_n 0, []), (.dup, []), (.getfield 144, [9, 19, 0]), (.iconst 1, []), (.iadd, []), (.putfield 144, [9, 19, 0]), (.goto (-20), [4])], 0),
  (87, [0], [(.aload_n 0, []), (.aload_n 0, []), (.invokevirtual 164, [161, 0, 9, 1]), (.putfield 167, [9, 22, 0]), (.aload_n 0, []), (.aload_n 0, []), (.getfield 167, [9, 22, 0]), (.iconst (-1), []), (.if_icmp .eq 7, [6]), (.iconst 0, []), (.goto 22, [8])], 0),
  (108, [0], [(.aload_n 0, []), (.getfield 144, [9, 19, 0]), (.aload_n 0, []), (.getfield 154, [9, 20, 0]), (.isub, []), (.bipush 6, []), (.if_icmp .le 7, [7]), (.iconst 5, []), (.goto 4, [8])], 0),
  (126, [0], [(.iconst 1, [])], 8),
  (127, [0], [(.putfield 157, [9, 21, 0]), (.aload_n 0, []), (.getfield 157, [9, 21, 0]), (.iconst 1, []), (.if_icmp .ne 90, [14]), (.aload_n 0, []), (.invokevirtual 170, [162, 0, 9, 0]), (.goto 83, [14])], 0),
  (145, [0, 1], [(.iload_n 1, []), (.invokestatic 173, [158, 1, 1]), (.ifCond .eq 71, [13]), (.aload_n 0, []), (.iconst 2, []), (.putfield 157, [9, 21, 0]), (.aload_n 0, []), (.iconst 0, []), (.putfield 167, [9, 22, 0])], 10),
  (162, [0], [(.aload_n 0, []), (.invokevirtual 150, [156, 0, 9, 1]), (.invokestatic 173, [158, 1, 1]), (.ifCond .eq 56, [14]), (.aload_n 0, []), (.aload_n 0, []), (.getfield 167, [9, 22, 0]), (.ldc 176, [99999]), (.if_icmp .le 10, [11]), (.aload_n 0, []), (.getfield 167, [9, 22, 0]), (.goto 18, [12])], 0),
  (189, [0], [(.bipush 10, []), (.aload_n 0, []), (.getfield 167, [9, 22, 0]), (.imul, []), (.aload_n 0, []), (.invokevirtual 150, [156, 0, 9, 1]), (.iadd, []), (.bipush 48, []), (.isub, [])], 12),
  (204, [0], [(.putfield 167, [9, 22, 0]), (.aload_n 0, []), (.dup, []), (.getfield 144, [9, 19, 0]), (.iconst 1, []), (.iadd, []), (.putfield 144, [9, 19, 0]), (.goto (-55), [10])], 0),
  (220, [0, 1], [(.aload_n 0, []), (.iload_n 1, []), (.invokevirtual 177, [160, 1, 9, 0])], 14),
  (225, [], [(.return_, [])], 0)]
def mt_159 : Nat × Nat × List jB := (0, 2, k_M_token)
set_option maxRecDepth 100000 in
theorem ck_159 : jok jm_159 mt_159 = true := by decide +kernel
def k_M_sign : List jB := [
  (0, [0, 1], [(.aload_n 0, []), (.dup, []), (.getfield 144, [9, 19, 0]), (.iconst 1, []), (.iadd, []), (.putfield 144, [9, 19, 0]), (.aload_n 0, []), (.iload_n 1, []), (.bipush 59, []), (.if_icmp .eq 63, [1]), (.iload_n 1, []), (.bipush 40, []), (.if_icmp .eq 57, [1]), (.iload_n 1, []), (.bipush 41, []), (.if_icmp .eq 51, [1]), (.iload_n 1, []), (.bipush 43, []), (.if_icmp .eq 45, [1]), (.iload_n 1, []), (.bipush 45, []), (.if_icmp .eq 39, [1]), (.iload_n 1, []), (.bipush 42, []), (.if_icmp .eq 33, [1]), (.iload_n 1, []), (.bipush 47, []), (.if_icmp .eq 27, [1]), (.iload_n 1, []), (.bipush 37, []), (.if_icmp .eq 21, [1]), (.iload_n 1, []), (.bipush 60, []), (.if_icmp .eq 15, [1]), (.iload_n 1, []), (.bipush 61, []), (.if_icmp .eq 9, [1]), (.iload_n 1, []), (.bipush 62, []), (.if_icmp .ne 7, [2])], 1),
  (77, [0, 1], [(.iconst 3, []), (.goto 4, [3])], 0),
  (81, [0, 1], [(.iconst 5, [])], 3),
  (82, [0, 1], [(.putfield 157, [9, 21, 0]), (.aload_n 0, []), (.iload_n 1, []), (.putfield 167, [9, 22, 0]), (.iload_n 1, []), (.bipush 60, []), (.if_icmp .ne 19, [4]), (.aload_n 0, []), (.invokevirtual 150, [156, 0, 9, 1]), (.bipush 61, []), (.if_icmp .ne 10, [4]), (.aload_n 0, []), (.sipush 256, []), (.putfield 167, [9, 22, 0])], 4),
  (112, [0, 1], [(.iload_n 1, []), (.bipush 60, []), (.if_icmp .ne 19, [5]), (.aload_n 0, []), (.invokevirtual 150, [156, 0, 9, 1]), (.bipush 62, []), (.if_icmp .ne 10, [5]), (.aload_n 0, []), (.sipush 257, []), (.putfield 167, [9, 22, 0])], 5),
  (134, [0, 1], [(.iload_n 1, []), (.bipush 62, []), (.if_icmp .ne 19, [6]), (.aload_n 0, []), (.invokevirtual 150, [156, 0, 9, 1]), (.bipush 61, []), (.if_icmp .ne 10, [6]), (.aload_n 0, []), (.sipush 258, []), (.putfield 167, [9, 22, 0])], 6),
  (156, [0], [(.aload_n 0, []), (.getfield 167, [9, 22, 0]), (.sipush 256, []), (.if_icmp .lt 13, [7]), (.aload_n 0, []), (.dup, []), (.getfield 144, [9, 19, 0]), (.iconst 1, []), (.iadd, []), (.putfield 144, [9, 19, 0])], 7),
  (176, [], [(.return_, [])], 0)]
def mt_160 : Nat × Nat × List jB := (0, 2, k_M_sign)
set_option maxRecDepth 100000 in
theorem ck_160 : jok jm_160 mt_160 = true := by decide +kernel
def k_M_word : List jB := [
  (0, [0], [(.iconst 0, []), (.istore_n 1, []), (.iconst 0, []), (.istore_n 2, [])], 1),
  (4, [0, 1, 2], [(.iload_n 2, []), (.ldc 181, [1002, 1]), (.invokevirtual 183, [901]), (.if_icmp .ge 113, [6]), (.iconst 0, []), (.istore_n 3, [])], 2),
  (15, [0, 1, 2, 3], [(.ldc 181, [1002, 1]), (.iload_n 2, []), (.iload_n 3, []), (.iadd, []), (.invokevirtual 188, [902, 0]), (.bipush 32, []), (.if_icmp .eq 44, [3]), (.aload_n 0, []), (.getfield 154, [9, 20, 0]), (.iload_n 3, []), (.iadd, []), (.aload_n 0, []), (.getfield 144, [9, 19, 0]), (.if_icmp .ge 31, [3]), (.aload_n 0, []), (.getfield 9, [9, 1, 4]), (.aload_n 0, []), (.getfield 154, [9, 20, 0]), (.iload_n 3, []), (.iadd, []), (.iaload, []), (.ldc 181, [1002, 1]), (.iload_n 2, []), (.iload_n 3, []), (.iadd, []), (.invokevirtual 188, [902, 0]), (.if_icmp .ne 9, [3]), (.iinc 3 1, []), (.goto (-51), [2])], 0),
  (69, [0, 1, 2, 3], [(.ldc 181, [1002, 1]), (.iload_n 2, []), (.iload_n 3, []), (.iadd, []), (.invokevirtual 188, [902, 0]), (.bipush 32, []), (.if_icmp .ne 18, [4]), (.aload_n 0, []), (.getfield 154, [9, 20, 0]), (.iload_n 3, []), (.iadd, []), (.aload_n 0, []), (.getfield 144, [9, 19, 0]), (.if_icmp .ne 5, [4]), (.iload_n 1, []), (.ireturn, [])], 0),
  (97, [0, 1, 2], [(.ldc 181, [1002, 1]), (.iload_n 2, []), (.invokevirtual 188, [902, 0]), (.bipush 32, []), (.if_icmp .eq 9, [5]), (.iinc 2 1, []), (.goto (-14), [4])], 0),
  (114, [0, 1, 2], [(.iinc 2 1, []), (.iinc 1 1, []), (.goto (-116), [1])], 0),
  (123, [], [(.iconst (-1), []), (.ireturn, [])], 0)]
def mt_161 : Nat × Nat × List jB := (1, 4, k_M_word)
set_option maxRecDepth 100000 in
theorem ck_161 : jok jm_161 mt_161 = true := by decide +kernel
def k_M_name : List jB := [
  (0, [0], [(.aload_n 0, []), (.iconst 0, []), (.putfield 167, [9, 22, 0]), (.iconst 0, []), (.istore_n 1, [])], 1),
  (7, [0, 1], [(.iload_n 1, []), (.bipush 6, []), (.if_icmp .ge 53, [4]), (.aload_n 0, []), (.aload_n 0, []), (.getfield 167, [9, 22, 0]), (.iconst 5, []), (.ishl, []), (.aload_n 0, []), (.getfield 154, [9, 20, 0]), (.iload_n 1, []), (.iadd, []), (.aload_n 0, []), (.getfield 144, [9, 19, 0]), (.if_icmp .ge 22, [2]), (.aload_n 0, []), (.getfield 9, [9, 1, 4]), (.aload_n 0, []), (.getfield 154, [9, 20, 0]), (.iload_n 1, []), (.iadd, []), (.iaload, []), (.bipush 97, []), (.isub, []), (.iconst 1, []), (.iadd, []), (.goto 4, [3])], 0),
  (52, [0, 1], [(.iconst 0, [])], 3),
  (53, [0, 1], [(.ior, []), (.putfield 167, [9, 22, 0]), (.iinc 1 1, []), (.goto (-53), [1])], 0),
  (63, [], [(.return_, [])], 0)]
def mt_162 : Nat × Nat × List jB := (0, 2, k_M_name)
set_option maxRecDepth 100000 in
theorem ck_162 : jok jm_162 mt_162 = true := by decide +kernel
def k_M_wrong : List jB := [
  (0, [0, 1], [(.aload_n 0, []), (.getfield 192, [9, 23, 0]), (.ifCond .eq 4, [1]), (.return_, [])], 0),
  (8, [0, 1], [(.aload_n 0, []), (.iload_n 1, []), (.putfield 192, [9, 23, 0]), (.aload_n 0, []), (.aload_n 0, []), (.getfield 154, [9, 20, 0]), (.putfield 195, [9, 24, 0]), (.return_, [])], 0)]
def mt_163 : Nat × Nat × List jB := (0, 2, k_M_wrong)
set_option maxRecDepth 100000 in
theorem ck_163 : jok jm_163 mt_163 = true := by decide +kernel
def k_M_isWord : List jB := [
  (0, [0, 1], [(.aload_n 0, []), (.getfield 192, [9, 23, 0]), (.ifCond .ne 22, [1]), (.aload_n 0, []), (.getfield 157, [9, 21, 0]), (.ifCond .ne 15, [1]), (.aload_n 0, []), (.getfield 167, [9, 22, 0]), (.iload_n 1, []), (.if_icmp .ne 7, [1]), (.iconst 1, []), (.goto 4, [2])], 0),
  (26, [], [(.iconst 0, [])], 2),
  (27, [], [(.ireturn, [])], 0)]
def mt_164 : Nat × Nat × List jB := (2, 2, k_M_isWord)
set_option maxRecDepth 100000 in
theorem ck_164 : jok jm_164 mt_164 = true := by decide +kernel
def k_M_isSign : List jB := [
  (0, [0, 1], [(.aload_n 0, []), (.getfield 192, [9, 23, 0]), (.ifCond .ne 23, [1]), (.aload_n 0, []), (.getfield 157, [9, 21, 0]), (.iconst 3, []), (.if_icmp .ne 15, [1]), (.aload_n 0, []), (.getfield 167, [9, 22, 0]), (.iload_n 1, []), (.if_icmp .ne 7, [1]), (.iconst 1, []), (.goto 4, [2])], 0),
  (27, [], [(.iconst 0, [])], 2),
  (28, [], [(.ireturn, [])], 0)]
def mt_165 : Nat × Nat × List jB := (2, 2, k_M_isSign)
set_option maxRecDepth 100000 in
theorem ck_165 : jok jm_165 mt_165 = true := by decide +kernel
def k_M_goOn : List jB := [
  (0, [0], [(.aload_n 0, []), (.getfield 192, [9, 23, 0]), (.ifCond .ne 7, [1]), (.aload_n 0, []), (.invokevirtual 198, [159, 0, 9, 0])], 1),
  (11, [], [(.return_, [])], 0)]
def mt_166 : Nat × Nat × List jB := (0, 1, k_M_goOn)
set_option maxRecDepth 100000 in
theorem ck_166 : jok jm_166 mt_166 = true := by decide +kernel
def k_M_numeral : List jB := [
  (0, [0, 1, 2], [(.aload_n 0, []), (.getfield 192, [9, 23, 0]), (.ifCond .eq 5, [1]), (.iload_n 1, []), (.ireturn, [])], 0),
  (9, [0, 1, 2], [(.aload_n 0, []), (.getfield 157, [9, 21, 0]), (.iconst 2, []), (.if_icmp .eq 11, [2]), (.aload_n 0, []), (.iconst 1, []), (.invokevirtual 201, [163, 1, 9, 0]), (.goto 24, [4])], 0),
  (25, [0, 1, 2], [(.aload_n 0, []), (.getfield 167, [9, 22, 0]), (.iload_n 1, []), (.if_icmp .lt 11, [3]), (.aload_n 0, []), (.getfield 167, [9, 22, 0]), (.iload_n 2, []), (.if_icmp .le 8, [4])], 3),
  (41, [0, 1], [(.aload_n 0, []), (.iconst 2, []), (.invokevirtual 201, [163, 1, 9, 0])], 4),
  (46, [0, 1], [(.aload_n 0, []), (.getfield 192, [9, 23, 0]), (.ifCond .eq 5, [5]), (.iload_n 1, []), (.ireturn, [])], 0),
  (55, [0], [(.aload_n 0, []), (.getfield 167, [9, 22, 0]), (.istore_n 3, []), (.aload_n 0, []), (.invokevirtual 198, [159, 0, 9, 0]), (.iload_n 3, []), (.ireturn, [])], 0)]
def mt_167 : Nat × Nat × List jB := (1, 4, k_M_numeral)
set_option maxRecDepth 100000 in
theorem ck_167 : jok jm_167 mt_167 = true := by decide +kernel
def k_M_found : List jB := [
  (0, [0, 1, 2, 3], [(.iconst 0, []), (.istore 4, [])], 1),
  (3, [0, 1, 2, 3, 4], [(.iload 4, []), (.iload_n 2, []), (.if_icmp .ge 22, [3]), (.aload_n 0, []), (.iload_n 1, []), (.iload 4, []), (.iadd, []), (.iaload, []), (.iload_n 3, []), (.if_icmp .ne 6, [2]), (.iload 4, []), (.ireturn, [])], 0),
  (22, [0, 1, 2, 3, 4], [(.iinc 4 1, []), (.goto (-22), [1])], 0),
  (28, [], [(.iconst (-1), []), (.ireturn, [])], 0)]
def mt_168 : Nat × Nat × List jB := (1, 5, k_M_found)
set_option maxRecDepth 100000 in
theorem ck_168 : jok jm_168 mt_168 = true := by decide +kernel
def k_M_fresh : List jB := [
  (0, [0, 1, 2, 3], [(.aload_n 0, []), (.getfield 192, [9, 23, 0]), (.ifCond .eq 5, [1]), (.iconst 0, []), (.ireturn, [])], 0),
  (9, [0, 1, 2, 3], [(.aload_n 0, []), (.getfield 157, [9, 21, 0]), (.iconst 1, []), (.if_icmp .eq 11, [2]), (.aload_n 0, []), (.iconst 1, []), (.invokevirtual 201, [163, 1, 9, 0]), (.goto 22, [3])], 0),
  (25, [0, 1, 2, 3], [(.aload_n 1, []), (.iload_n 2, []), (.iload_n 3, []), (.aload_n 0, []), (.getfield 167, [9, 22, 0]), (.invokestatic 204, [168, 4, 1]), (.iconst (-1), []), (.if_icmp .eq 8, [3]), (.aload_n 0, []), (.iconst 3, []), (.invokevirtual 201, [163, 1, 9, 0])], 3),
  (44, [0], [(.aload_n 0, []), (.getfield 192, [9, 23, 0]), (.ifCond .eq 5, [4]), (.iconst 0, []), (.ireturn, [])], 0),
  (53, [0], [(.aload_n 0, []), (.getfield 167, [9, 22, 0]), (.istore 4, []), (.aload_n 0, []), (.invokevirtual 198, [159, 0, 9, 0]), (.iload 4, []), (.ireturn, [])], 0)]
def mt_169 : Nat × Nat × List jB := (1, 5, k_M_fresh)
set_option maxRecDepth 100000 in
theorem ck_169 : jok jm_169 mt_169 = true := by decide +kernel
def k_M_person : List jB := [
  (0, [0], [(.aload_n 0, []), (.getfield 192, [9, 23, 0]), (.ifCond .eq 5, [1]), (.iconst 0, []), (.ireturn, [])], 0),
  (9, [0], [(.aload_n 0, []), (.getfield 157, [9, 21, 0]), (.iconst 1, []), (.if_icmp .eq 11, [2]), (.aload_n 0, []), (.iconst 1, []), (.invokevirtual 201, [163, 1, 9, 0]), (.goto 30, [3])], 0),
  (25, [0], [(.aload_n 0, []), (.getfield 18, [9, 4, 4]), (.bipush 10, []), (.aload_n 0, []), (.iconst 0, []), (.invokevirtual 208, [171, 1, 9, 1]), (.aload_n 0, []), (.getfield 167, [9, 22, 0]), (.invokestatic 204, [168, 4, 1]), (.iconst (-1), []), (.if_icmp .ne 8, [3]), (.aload_n 0, []), (.iconst 4, []), (.invokevirtual 201, [163, 1, 9, 0])], 3),
  (52, [0], [(.aload_n 0, []), (.getfield 192, [9, 23, 0]), (.ifCond .eq 7, [4]), (.iconst 0, []), (.goto 21, [5])], 0),
  (63, [0], [(.aload_n 0, []), (.getfield 18, [9, 4, 4]), (.bipush 10, []), (.aload_n 0, []), (.iconst 0, []), (.invokevirtual 208, [171, 1, 9, 1]), (.aload_n 0, []), (.getfield 167, [9, 22, 0]), (.invokestatic 204, [168, 4, 1])], 5),
  (81, [], [(.ireturn, [])], 0)]
def mt_170 : Nat × Nat × List jB := (1, 1, k_M_person)
set_option maxRecDepth 100000 in
theorem ck_170 : jok jm_170 mt_170 = true := by decide +kernel
def k_M_fresher : List jB := [
  (0, [0, 1], [(.aload_n 0, []), (.getfield 15, [9, 3, 4]), (.iconst 4, []), (.iload_n 1, []), (.iadd, []), (.iaload, []), (.ireturn, [])], 0)]
def mt_171 : Nat × Nat × List jB := (1, 2, k_M_fresher)
set_option maxRecDepth 100000 in
theorem ck_171 : jok jm_171 mt_171 = true := by decide +kernel
def k_M_oneMore : List jB := [
  (0, [0, 1], [(.aload_n 0, []), (.getfield 15, [9, 3, 4]), (.iconst 4, []), (.iload_n 1, []), (.iadd, []), (.dup2, []), (.iaload, []), (.iconst 1, []), (.iadd, []), (.iastore, []), (.return_, [])], 0)]
def mt_172 : Nat × Nat × List jB := (0, 2, k_M_oneMore)
set_option maxRecDepth 100000 in
theorem ck_172 : jok jm_172 mt_172 = true := by decide +kernel
def k_M_line : List jB := [
  (0, [0], [(.aload_n 0, []), (.getfield 157, [9, 21, 0]), (.ifCond .ne 11, [1]), (.aload_n 0, []), (.getfield 167, [9, 22, 0]), (.iconst 4, []), (.if_icmp .le 9, [2])], 1),
  (15, [0], [(.aload_n 0, []), (.iconst 1, []), (.invokevirtual 201, [163, 1, 9, 0]), (.return_, [])], 0),
  (21, [0], [(.aload_n 0, []), (.getfield 167, [9, 22, 0]), (.istore_n 1, []), (.iload_n 1, []), (.ifCond .ne 13, [3]), (.aload_n 0, []), (.iconst 0, []), (.invokevirtual 208, [171, 1, 9, 1]), (.bipush 10, []), (.if_icmp .eq 32, [5])], 3),
  (40, [0, 1], [(.iload_n 1, []), (.iconst 2, []), (.if_icmp .ne 13, [4]), (.aload_n 0, []), (.iconst 1, []), (.invokevirtual 208, [171, 1, 9, 1]), (.bipush 12, []), (.if_icmp .eq 17, [5])], 4),
  (55, [0, 1], [(.iload_n 1, []), (.iconst 4, []), (.if_icmp .ne 20, [6]), (.aload_n 0, []), (.iconst 2, []), (.invokevirtual 208, [171, 1, 9, 1]), (.iconst 4, []), (.if_icmp .ne 11, [6])], 5),
  (69, [0, 1], [(.aload_n 0, []), (.iconst 2, []), (.invokevirtual 201, [163, 1, 9, 0]), (.goto 20, [7])], 0),
  (77, [0, 1], [(.iload_n 1, []), (.iconst 3, []), (.if_icmp .ne 15, [7]), (.aload_n 0, []), (.getfield 212, [9, 29, 1]), (.ifCond .eq 8, [7]), (.aload_n 0, []), (.iconst 3, []), (.invokevirtual 201, [163, 1, 9, 0])], 7),
  (94, [0, 1], [(.aload_n 0, []), (.getfield 192, [9, 23, 0]), (.ifCond .eq 4, [8]), (.return_, [])], 0),
  (102, [0, 1], [(.aload_n 0, []), (.invokevirtual 198, [159, 0, 9, 0]), (.iload_n 1, []), (.tableswitch 100 0 3 #[29, 44, 51, 66], [13, 9, 10, 11, 12])], 0),
  (136, [0], [(.aload_n 0, []), (.bipush 10, []), (.aload_n 0, []), (.iconst 0, []), (.invokevirtual 208, [171, 1, 9, 1]), (.iadd, []), (.invokevirtual 216, [174, 1, 9, 0]), (.goto 120, [14])], 0),
  (151, [0], [(.aload_n 0, []), (.invokevirtual 219, [175, 0, 9, 0]), (.goto 113, [14])], 0),
  (158, [0], [(.aload_n 0, []), (.bipush 12, []), (.aload_n 0, []), (.iconst 1, []), (.invokevirtual 208, [171, 1, 9, 1]), (.iadd, []), (.invokevirtual 222, [177, 1, 9, 0]), (.goto 98, [14])], 0),
  (173, [0], [(.aload_n 0, []), (.iconst 1, []), (.putfield 212, [9, 29, 1]), (.aload_n 0, []), (.getfield 45, [9, 13, 4]), (.iconst 5, []), (.aload_n 0, []), (.iconst 3, []), (.invokevirtual 208, [171, 1, 9, 1]), (.iastore, []), (.aload_n 0, []), (.invokevirtual 225, [180, 0, 9, 0]), (.aload_n 0, []), (.getfield 48, [9, 14, 4]), (.iconst 5, []), (.aload_n 0, []), (.iconst 3, []), (.invokevirtual 208, [171, 1, 9, 1]), (.iastore, []), (.goto 64, [14])], 0),
  (207, [0], [(.aload_n 0, []), (.iconst 2, []), (.invokevirtual 208, [171, 1, 9, 1]), (.istore_n 2, []), (.aload_n 0, []), (.getfield 42, [9, 12, 4]), (.iconst 4, []), (.iload_n 2, []), (.iadd, []), (.aload_n 0, []), (.aload_n 0, []), (.getfield 42, [9, 12, 4]), (.iconst 4, []), (.iload_n 2, []), (.invokevirtual 228, [169, 3, 9, 1]), (.iastore, []), (.aload_n 0, []), (.getfield 45, [9, 13, 4]), (.bipush 6, []), (.iload_n 2, []), (.iadd, []), (.aload_n 0, []), (.iconst 3, []), (.invokevirtual 208, [171, 1, 9, 1]), (.iastore, []), (.aload_n 0, []), (.invokevirtual 225, [180, 0, 9, 0]), (.aload_n 0, []), (.getfield 48, [9, 14, 4]), (.bipush 6, []), (.iload_n 2, []), (.iadd, []), (.aload_n 0, []), (.iconst 3, []), (.invokevirtual 208, [171, 1, 9, 1]), (.iastore, []), (.aload_n 0, []), (.iconst 2, []), (.invokevirtual 232, [172, 1, 9, 0])], 14),
  (268, [0], [(.aload_n 0, []), (.getfield 192, [9, 23, 0]), (.ifCond .eq 4, [15]), (.return_, [])], 0),
  (276, [0], [(.aload_n 0, []), (.bipush 59, []), (.invokevirtual 235, [165, 1, 9, 1]), (.ifCond .ne 11, [16]), (.aload_n 0, []), (.iconst 1, []), (.invokevirtual 201, [163, 1, 9, 0]), (.goto 7, [17])], 0),
  (293, [0], [(.aload_n 0, []), (.invokevirtual 198, [159, 0, 9, 0])], 17),
  (297, [0], [(.aload_n 0, []), (.dup, []), (.getfield 238, [9, 17, 0]), (.iconst 1, []), (.iadd, []), (.putfield 238, [9, 17, 0]), (.return_, [])], 0)]
def mt_173 : Nat × Nat × List jB := (0, 3, k_M_line)
set_option maxRecDepth 100000 in
theorem ck_173 : jok jm_173 mt_173 = true := by decide +kernel
def k_M_personLine : List jB := [
  (0, [0, 1], [(.aload_n 0, []), (.getfield 18, [9, 4, 4]), (.iload_n 1, []), (.aload_n 0, []), (.aload_n 0, []), (.getfield 18, [9, 4, 4]), (.bipush 10, []), (.aload_n 0, []), (.iconst 0, []), (.invokevirtual 208, [171, 1, 9, 1]), (.invokevirtual 228, [169, 3, 9, 1]), (.iastore, []), (.aload_n 0, []), (.getfield 21, [9, 5, 4]), (.iload_n 1, []), (.aload_n 0, []), (.iconst 0, []), (.bipush 99, []), (.invokevirtual 241, [167, 2, 9, 1]), (.iastore, []), (.aload_n 0, []), (.getfield 24, [9, 6, 4]), (.iload_n 1, []), (.iconst 0, []), (.iastore, []), (.aload_n 0, []), (.getfield 27, [9, 7, 4]), (.iload_n 1, []), (.iconst 0, []), (.iastore, []), (.aload_n 0, []), (.iconst 5, []), (.invokevirtual 245, [164, 1, 9, 1]), (.ifCond .eq 20, [1]), (.aload_n 0, []), (.invokevirtual 198, [159, 0, 9, 0]), (.aload_n 0, []), (.getfield 24, [9, 6, 4]), (.iload_n 1, []), (.aload_n 0, []), (.iconst 0, []), (.ldc 176, [99999]), (.invokevirtual 241, [167, 2, 9, 1]), (.iastore, [])], 1),
  (73, [0], [(.aload_n 0, []), (.iconst 0, []), (.invokevirtual 232, [172, 1, 9, 0]), (.return_, [])], 0)]
def mt_174 : Nat × Nat × List jB := (0, 2, k_M_personLine)
set_option maxRecDepth 100000 in
theorem ck_174 : jok jm_174 mt_174 = true := by decide +kernel
def k_M_handsLine : List jB := [
  (0, [0], [(.aload_n 0, []), (.invokevirtual 248, [170, 0, 9, 1]), (.istore_n 1, []), (.aload_n 0, []), (.getfield 192, [9, 23, 0]), (.ifCond .ne 20, [1]), (.aload_n 0, []), (.getfield 27, [9, 7, 4]), (.bipush 10, []), (.iload_n 1, []), (.iadd, []), (.iaload, []), (.ifCond .le 8, [1]), (.aload_n 0, []), (.iconst 3, []), (.invokevirtual 201, [163, 1, 9, 0])], 1),
  (29, [0, 1], [(.aload_n 0, []), (.invokevirtual 251, [166, 0, 9, 0]), (.aload_n 0, []), (.getfield 192, [9, 23, 0]), (.ifCond .ne 17, [2]), (.aload_n 0, []), (.bipush 6, []), (.invokevirtual 245, [164, 1, 9, 1]), (.ifCond .ne 8, [2]), (.aload_n 0, []), (.iconst 1, []), (.invokevirtual 201, [163, 1, 9, 0])], 2),
  (54, [0, 1], [(.aload_n 0, []), (.getfield 192, [9, 23, 0]), (.ifCond .ne 7, [3]), (.iconst 1, []), (.goto 4, [4])], 0),
  (65, [0, 1], [(.iconst 0, [])], 4),
  (66, [0, 1], [(.istore_n 2, [])], 5),
  (67, [0, 1, 2], [(.iload_n 2, []), (.ifCond .eq 22, [6]), (.aload_n 0, []), (.invokevirtual 198, [159, 0, 9, 0]), (.aload_n 0, []), (.iload_n 1, []), (.invokevirtual 254, [176, 1, 9, 0]), (.aload_n 0, []), (.bipush 7, []), (.invokevirtual 245, [164, 1, 9, 1]), (.istore_n 2, []), (.goto (-20), [5])], 0),
  (90, [], [(.return_, [])], 0)]
def mt_175 : Nat × Nat × List jB := (0, 3, k_M_handsLine)
set_option maxRecDepth 100000 in
theorem ck_175 : jok jm_175 mt_175 = true := by decide +kernel
def k_M_handsOne : List jB := [
  (0, [0, 1], [(.aload_n 0, []), (.getfield 27, [9, 7, 4]), (.bipush 10, []), (.iload_n 1, []), (.iadd, []), (.iaload, []), (.istore_n 2, []), (.aload_n 0, []), (.getfield 157, [9, 21, 0]), (.iconst 1, []), (.if_icmp .ne 13, [1]), (.iload_n 2, []), (.iconst 3, []), (.if_icmp .ne 8, [1]), (.aload_n 0, []), (.iconst 2, []), (.invokevirtual 201, [163, 1, 9, 0])], 1),
  (28, [0, 1, 2], [(.aload_n 0, []), (.invokevirtual 248, [170, 0, 9, 1]), (.istore_n 3, []), (.iconst 0, []), (.istore 4, [])], 2),
  (36, [0, 1, 2, 3, 4], [(.iload 4, []), (.iload_n 2, []), (.if_icmp .ge 39, [4]), (.aload_n 0, []), (.getfield 192, [9, 23, 0]), (.ifCond .ne 26, [3]), (.aload_n 0, []), (.getfield 30, [9, 8, 4]), (.iconst 3, []), (.bipush 10, []), (.iload_n 1, []), (.iadd, []), (.imul, []), (.iload 4, []), (.iadd, []), (.iaload, []), (.iload_n 3, []), (.if_icmp .ne 8, [3]), (.aload_n 0, []), (.iconst 3, []), (.invokevirtual 201, [163, 1, 9, 0])], 3),
  (72, [0, 1, 2, 3, 4], [(.iinc 4 1, []), (.goto (-39), [2])], 0),
  (78, [0, 1, 2, 3], [(.aload_n 0, []), (.getfield 192, [9, 23, 0]), (.ifCond .ne 13, [5]), (.iload_n 3, []), (.iload_n 1, []), (.if_icmp .ne 8, [5]), (.aload_n 0, []), (.iconst 5, []), (.invokevirtual 201, [163, 1, 9, 0])], 5),
  (95, [0, 1, 2, 3], [(.aload_n 0, []), (.getfield 192, [9, 23, 0]), (.ifCond .eq 4, [6]), (.return_, [])], 0),
  (103, [0, 1, 2, 3], [(.aload_n 0, []), (.getfield 30, [9, 8, 4]), (.iconst 3, []), (.bipush 10, []), (.iload_n 1, []), (.iadd, []), (.imul, []), (.iload_n 2, []), (.iadd, []), (.iload_n 3, []), (.iastore, []), (.aload_n 0, []), (.getfield 27, [9, 7, 4]), (.bipush 10, []), (.iload_n 1, []), (.iadd, []), (.dup2, []), (.iaload, []), (.iconst 1, []), (.iadd, []), (.iastore, []), (.aload_n 0, []), (.invokevirtual 198, [159, 0, 9, 0]), (.return_, [])], 0)]
def mt_176 : Nat × Nat × List jB := (0, 5, k_M_handsOne)
set_option maxRecDepth 100000 in
theorem ck_176 : jok jm_176 mt_176 = true := by decide +kernel
def k_M_parcelLine : List jB := [
  (0, [0, 1], [(.aload_n 0, []), (.getfield 33, [9, 9, 4]), (.iload_n 1, []), (.aload_n 0, []), (.invokevirtual 248, [170, 0, 9, 1]), (.iastore, []), (.aload_n 0, []), (.invokevirtual 251, [166, 0, 9, 0]), (.aload_n 0, []), (.getfield 36, [9, 10, 4]), (.iload_n 1, []), (.aload_n 0, []), (.iconst 1, []), (.ldc 176, [99999]), (.invokevirtual 241, [167, 2, 9, 1]), (.iastore, []), (.aload_n 0, []), (.getfield 39, [9, 11, 4]), (.iload_n 1, []), (.aload_n 0, []), (.iconst 0, []), (.sipush 999, []), (.invokevirtual 241, [167, 2, 9, 1]), (.iastore, []), (.aload_n 0, []), (.iconst 1, []), (.invokevirtual 232, [172, 1, 9, 0]), (.return_, [])], 0)]
def mt_177 : Nat × Nat × List jB := (0, 2, k_M_parcelLine)
set_option maxRecDepth 100000 in
theorem ck_177 : jok jm_177 mt_177 = true := by decide +kernel
def k_M_puts : List jB := [
  (0, [0, 1, 2], [(.aload_n 0, []), (.getfield 192, [9, 23, 0]), (.ifCond .eq 4, [1]), (.return_, [])], 0),
  (8, [0, 1, 2], [(.aload_n 0, []), (.getfield 51, [9, 15, 4]), (.bipush 64, []), (.aload_n 0, []), (.iconst 3, []), (.invokevirtual 208, [171, 1, 9, 1]), (.iadd, []), (.iload_n 1, []), (.iastore, []), (.aload_n 0, []), (.getfield 54, [9, 16, 4]), (.bipush 64, []), (.aload_n 0, []), (.iconst 3, []), (.invokevirtual 208, [171, 1, 9, 1]), (.iadd, []), (.iload_n 2, []), (.iastore, []), (.aload_n 0, []), (.iconst 3, []), (.invokevirtual 232, [172, 1, 9, 0]), (.return_, [])], 0)]
def mt_178 : Nat × Nat × List jB := (0, 3, k_M_puts)
set_option maxRecDepth 100000 in
theorem ck_178 : jok jm_178 mt_178 = true := by decide +kernel
def k_M_knot : List jB := [
  (0, [0], [(.aload_n 0, []), (.getfield 192, [9, 23, 0]), (.ifCond .eq 4, [1]), (.return_, [])], 0),
  (8, [0], [(.aload_n 0, []), (.getfield 257, [9, 28, 0]), (.bipush 64, []), (.if_icmp .ne 11, [2]), (.aload_n 0, []), (.iconst 2, []), (.invokevirtual 201, [163, 1, 9, 0]), (.goto 13, [3])], 0),
  (25, [0], [(.aload_n 0, []), (.dup, []), (.getfield 257, [9, 28, 0]), (.iconst 1, []), (.iadd, []), (.putfield 257, [9, 28, 0])], 3),
  (35, [], [(.return_, [])], 0)]
def mt_179 : Nat × Nat × List jB := (0, 1, k_M_knot)
set_option maxRecDepth 100000 in
theorem ck_179 : jok jm_179 mt_179 = true := by decide +kernel
def k_M_expression : List jB := [
  (0, [0], [(.aload_n 0, []), (.invokevirtual 260, [181, 0, 9, 0])], 1),
  (4, [0], [(.aload_n 0, []), (.bipush 7, []), (.invokevirtual 245, [164, 1, 9, 1]), (.ifCond .eq 26, [2]), (.aload_n 0, []), (.invokevirtual 263, [179, 0, 9, 0]), (.aload_n 0, []), (.invokevirtual 251, [166, 0, 9, 0]), (.aload_n 0, []), (.invokevirtual 260, [181, 0, 9, 0]), (.aload_n 0, []), (.iconst 2, []), (.sipush 262, []), (.invokevirtual 266, [178, 2, 9, 0]), (.goto (-29), [1])], 0),
  (36, [], [(.return_, [])], 0)]
def mt_180 : Nat × Nat × List jB := (0, 1, k_M_expression)
set_option maxRecDepth 100000 in
theorem ck_180 : jok jm_180 mt_180 = true := by decide +kernel
def k_M_conjunction : List jB := [
  (0, [0], [(.aload_n 0, []), (.invokevirtual 270, [182, 0, 9, 0])], 1),
  (4, [0], [(.aload_n 0, []), (.bipush 8, []), (.invokevirtual 245, [164, 1, 9, 1]), (.ifCond .eq 26, [2]), (.aload_n 0, []), (.invokevirtual 263, [179, 0, 9, 0]), (.aload_n 0, []), (.invokevirtual 251, [166, 0, 9, 0]), (.aload_n 0, []), (.invokevirtual 270, [182, 0, 9, 0]), (.aload_n 0, []), (.iconst 2, []), (.sipush 261, []), (.invokevirtual 266, [178, 2, 9, 0]), (.goto (-29), [1])], 0),
  (36, [], [(.return_, [])], 0)]
def mt_181 : Nat × Nat × List jB := (0, 1, k_M_conjunction)
set_option maxRecDepth 100000 in
theorem ck_181 : jok jm_181 mt_181 = true := by decide +kernel
def k_M_negation : List jB := [
  (0, [0], [(.aload_n 0, []), (.bipush 9, []), (.invokevirtual 245, [164, 1, 9, 1]), (.ifCond .eq 24, [1]), (.aload_n 0, []), (.invokevirtual 263, [179, 0, 9, 0]), (.aload_n 0, []), (.invokevirtual 251, [166, 0, 9, 0]), (.aload_n 0, []), (.invokevirtual 270, [182, 0, 9, 0]), (.aload_n 0, []), (.iconst 2, []), (.sipush 260, []), (.invokevirtual 266, [178, 2, 9, 0]), (.return_, [])], 0),
  (30, [0], [(.aload_n 0, []), (.invokevirtual 273, [183, 0, 9, 0]), (.aload_n 0, []), (.getfield 192, [9, 23, 0]), (.ifCond .ne 48, [2]), (.aload_n 0, []), (.getfield 157, [9, 21, 0]), (.iconst 3, []), (.if_icmp .ne 40, [2]), (.aload_n 0, []), (.getfield 167, [9, 22, 0]), (.bipush 60, []), (.if_icmp .eq 32, [3]), (.aload_n 0, []), (.getfield 167, [9, 22, 0]), (.bipush 62, []), (.if_icmp .eq 23, [3]), (.aload_n 0, []), (.getfield 167, [9, 22, 0]), (.bipush 61, []), (.if_icmp .eq 14, [3]), (.aload_n 0, []), (.getfield 167, [9, 22, 0]), (.sipush 256, []), (.if_icmp .ge 4, [3])], 2),
  (86, [], [(.return_, [])], 0),
  (87, [0], [(.aload_n 0, []), (.getfield 167, [9, 22, 0]), (.istore_n 1, []), (.aload_n 0, []), (.invokevirtual 263, [179, 0, 9, 0]), (.aload_n 0, []), (.invokevirtual 251, [166, 0, 9, 0]), (.aload_n 0, []), (.invokevirtual 273, [183, 0, 9, 0]), (.aload_n 0, []), (.iconst 2, []), (.iload_n 1, []), (.invokevirtual 266, [178, 2, 9, 0]), (.return_, [])], 0)]
def mt_182 : Nat × Nat × List jB := (0, 2, k_M_negation)
set_option maxRecDepth 100000 in
theorem ck_182 : jok jm_182 mt_182 = true := by decide +kernel
def k_M_sum : List jB := [
  (0, [0], [(.aload_n 0, []), (.invokevirtual 276, [184, 0, 9, 0])], 1),
  (4, [0], [(.aload_n 0, []), (.bipush 43, []), (.invokevirtual 235, [165, 1, 9, 1]), (.ifCond .ne 12, [2]), (.aload_n 0, []), (.bipush 45, []), (.invokevirtual 235, [165, 1, 9, 1]), (.ifCond .eq 29, [3])], 2),
  (22, [0], [(.aload_n 0, []), (.getfield 167, [9, 22, 0]), (.istore_n 1, []), (.aload_n 0, []), (.invokevirtual 263, [179, 0, 9, 0]), (.aload_n 0, []), (.invokevirtual 251, [166, 0, 9, 0]), (.aload_n 0, []), (.invokevirtual 276, [184, 0, 9, 0]), (.aload_n 0, []), (.iconst 2, []), (.iload_n 1, []), (.invokevirtual 266, [178, 2, 9, 0]), (.goto (-41), [1])], 0),
  (48, [], [(.return_, [])], 0)]
def mt_183 : Nat × Nat × List jB := (0, 2, k_M_sum)
set_option maxRecDepth 100000 in
theorem ck_183 : jok jm_183 mt_183 = true := by decide +kernel
def k_M_product : List jB := [
  (0, [0], [(.aload_n 0, []), (.invokevirtual 279, [185, 0, 9, 0])], 1),
  (4, [0], [(.aload_n 0, []), (.bipush 42, []), (.invokevirtual 235, [165, 1, 9, 1]), (.ifCond .ne 21, [2]), (.aload_n 0, []), (.bipush 47, []), (.invokevirtual 235, [165, 1, 9, 1]), (.ifCond .ne 12, [2]), (.aload_n 0, []), (.bipush 37, []), (.invokevirtual 235, [165, 1, 9, 1]), (.ifCond .eq 29, [3])], 2),
  (31, [0], [(.aload_n 0, []), (.getfield 167, [9, 22, 0]), (.istore_n 1, []), (.aload_n 0, []), (.invokevirtual 263, [179, 0, 9, 0]), (.aload_n 0, []), (.invokevirtual 251, [166, 0, 9, 0]), (.aload_n 0, []), (.invokevirtual 279, [185, 0, 9, 0]), (.aload_n 0, []), (.iconst 2, []), (.iload_n 1, []), (.invokevirtual 266, [178, 2, 9, 0]), (.goto (-50), [1])], 0),
  (57, [], [(.return_, [])], 0)]
def mt_184 : Nat × Nat × List jB := (0, 2, k_M_product)
set_option maxRecDepth 100000 in
theorem ck_184 : jok jm_184 mt_184 = true := by decide +kernel
def k_M_primary : List jB := [
  (0, [0], [(.aload_n 0, []), (.getfield 192, [9, 23, 0]), (.ifCond .eq 4, [1]), (.return_, [])], 0),
  (8, [0], [(.aload_n 0, []), (.bipush 40, []), (.invokevirtual 235, [165, 1, 9, 1]), (.ifCond .eq 87, [6]), (.aload_n 0, []), (.getfield 282, [9, 27, 0]), (.bipush 8, []), (.if_icmp .ne 8, [2]), (.aload_n 0, []), (.iconst 2, []), (.invokevirtual 201, [163, 1, 9, 0])], 2),
  (31, [0], [(.aload_n 0, []), (.getfield 192, [9, 23, 0]), (.ifCond .eq 4, [3]), (.return_, [])], 0),
  (39, [0], [(.aload_n 0, []), (.dup, []), (.getfield 282, [9, 27, 0]), (.iconst 1, []), (.iadd, []), (.putfield 282, [9, 27, 0]), (.aload_n 0, []), (.invokevirtual 198, [159, 0, 9, 0]), (.aload_n 0, []), (.invokevirtual 225, [180, 0, 9, 0]), (.aload_n 0, []), (.getfield 192, [9, 23, 0]), (.ifCond .ne 17, [4]), (.aload_n 0, []), (.bipush 41, []), (.invokevirtual 235, [165, 1, 9, 1]), (.ifCond .ne 8, [4]), (.aload_n 0, []), (.iconst 1, []), (.invokevirtual 201, [163, 1, 9, 0])], 4),
  (78, [0], [(.aload_n 0, []), (.getfield 192, [9, 23, 0]), (.ifCond .eq 4, [5]), (.return_, [])], 0),
  (86, [0], [(.aload_n 0, []), (.dup, []), (.getfield 282, [9, 27, 0]), (.iconst 1, []), (.isub, []), (.putfield 282, [9, 27, 0]), (.aload_n 0, []), (.invokevirtual 198, [159, 0, 9, 0]), (.return_, [])], 0),
  (101, [0], [(.aload_n 0, []), (.getfield 157, [9, 21, 0]), (.iconst 2, []), (.if_icmp .ne 7, [7]), (.iconst 1, []), (.goto 4, [8])], 0),
  (113, [0], [(.iconst 0, [])], 8),
  (114, [0], [(.istore_n 1, []), (.iload_n 1, []), (.ifCond .eq 21, [9]), (.aload_n 0, []), (.getfield 167, [9, 22, 0]), (.sipush 9999, []), (.if_icmp .le 11, [9]), (.aload_n 0, []), (.iconst 2, []), (.invokevirtual 201, [163, 1, 9, 0]), (.goto 28, [11])], 0),
  (137, [0, 1], [(.iload_n 1, []), (.ifCond .ne 24, [11]), (.aload_n 0, []), (.getfield 157, [9, 21, 0]), (.ifCond .ne 12, [10]), (.aload_n 0, []), (.getfield 167, [9, 22, 0]), (.bipush 10, []), (.if_icmp .ge 8, [11])], 10),
  (157, [0, 1], [(.aload_n 0, []), (.iconst 1, []), (.invokevirtual 201, [163, 1, 9, 0])], 11),
  (162, [0, 1], [(.aload_n 0, []), (.invokevirtual 263, [179, 0, 9, 0]), (.aload_n 0, []), (.iload_n 1, []), (.ifCond .eq 7, [12]), (.iconst 0, []), (.goto 4, [13])], 0),
  (175, [0, 1], [(.iconst 1, [])], 13),
  (176, [0, 1], [(.iload_n 1, []), (.ifCond .eq 10, [14]), (.aload_n 0, []), (.getfield 167, [9, 22, 0]), (.goto 10, [15])], 0),
  (187, [0], [(.aload_n 0, []), (.getfield 167, [9, 22, 0]), (.bipush 10, []), (.isub, [])], 15),
  (194, [0], [(.invokevirtual 266, [178, 2, 9, 0]), (.aload_n 0, []), (.invokevirtual 251, [166, 0, 9, 0]), (.return_, [])], 0)]
def mt_185 : Nat × Nat × List jB := (0, 2, k_M_primary)
set_option maxRecDepth 100000 in
theorem ck_185 : jok jm_185 mt_185 = true := by decide +kernel
end
section
/-! The methods' blocks, held against their bytes. Printed by wip/gen/code.py. -/
def k_M_half : List jB := [
  (0, [0], [(.aload_n 0, []), (.arraylength, []), (.iconst 2, []), (.idiv, []), (.istore_n 1, []), (.iconst 0, []), (.istore_n 2, [])], 1),
  (7, [0, 1, 2], [(.iload_n 2, []), (.iload_n 1, []), (.if_icmp .ge 17, [2]), (.aload_n 0, []), (.iload_n 2, []), (.aload_n 0, []), (.iload_n 1, []), (.iload_n 2, []), (.iadd, []), (.iaload, []), (.iastore, []), (.iinc 2 1, []), (.goto (-16), [1])], 0),
  (26, [], [(.return_, [])], 0)]
def mt_186 : Nat × Nat × List jB := (0, 3, k_M_half)
set_option maxRecDepth 100000 in
theorem ck_186 : jok jm_186 mt_186 = true := by decide +kernel
def k_M_text : List jB := [
  (0, [0, 1], [(.aload_n 0, []), (.iconst 0, []), (.putfield 138, [9, 0, 0]), (.iload_n 1, []), (.ifCond .lt 11, [1]), (.iload_n 1, []), (.aload_n 0, []), (.getfield 141, [9, 2, 0]), (.if_icmp .le 6, [2])], 1),
  (17, [], [(.bipush (-2), []), (.ireturn, [])], 0),
  (20, [0, 1], [(.aload_n 0, []), (.iload_n 1, []), (.putfield 147, [9, 18, 0]), (.aload_n 0, []), (.iconst 0, []), (.putfield 141, [9, 2, 0]), (.aload_n 0, []), (.iconst 0, []), (.putfield 144, [9, 19, 0]), (.aload_n 0, []), (.iconst 0, []), (.putfield 192, [9, 23, 0]), (.aload_n 0, []), (.iconst (-1), []), (.putfield 195, [9, 24, 0]), (.iconst 0, []), (.istore_n 2, [])], 3),
  (47, [0, 2], [(.iload_n 2, []), (.iconst 4, []), (.if_icmp .ge 18, [4]), (.aload_n 0, []), (.getfield 15, [9, 3, 4]), (.iconst 4, []), (.iload_n 2, []), (.iadd, []), (.iconst 0, []), (.iastore, []), (.iinc 2 1, []), (.goto (-17), [3])], 0),
  (67, [0], [(.iconst 5, []), (.istore_n 2, [])], 5),
  (69, [0, 2], [(.iload_n 2, []), (.bipush 10, []), (.if_icmp .ge 23, [6]), (.aload_n 0, []), (.getfield 45, [9, 13, 4]), (.iload_n 2, []), (.iconst 0, []), (.iastore, []), (.aload_n 0, []), (.getfield 48, [9, 14, 4]), (.iload_n 2, []), (.iconst 0, []), (.iastore, []), (.iinc 2 1, []), (.goto (-23), [5])], 0),
  (95, [0], [(.aload_n 0, []), (.iconst 0, []), (.putfield 212, [9, 29, 1]), (.aload_n 0, []), (.iconst 0, []), (.putfield 238, [9, 17, 0]), (.aload_n 0, []), (.iconst 0, []), (.putfield 282, [9, 27, 0]), (.aload_n 0, []), (.iconst 0, []), (.putfield 257, [9, 28, 0]), (.aload_n 0, []), (.invokevirtual 198, [159, 0, 9, 0])], 7),
  (119, [0], [(.aload_n 0, []), (.getfield 192, [9, 23, 0]), (.ifCond .ne 18, [8]), (.aload_n 0, []), (.getfield 157, [9, 21, 0]), (.iconst 4, []), (.if_icmp .eq 10, [8]), (.aload_n 0, []), (.invokevirtual 285, [173, 0, 9, 0]), (.goto (-19), [7])], 0),
  (141, [0], [(.aload_n 0, []), (.aload_n 0, []), (.getfield 192, [9, 23, 0]), (.putfield 288, [9, 25, 0]), (.aload_n 0, []), (.aload_n 0, []), (.getfield 195, [9, 24, 0]), (.putfield 57, [9, 26, 0]), (.aload_n 0, []), (.getfield 192, [9, 23, 0]), (.ifCond .eq 5, [9]), (.iconst (-1), []), (.ireturn, [])], 0),
  (166, [0], [(.aload_n 0, []), (.getfield 15, [9, 3, 4]), (.invokestatic 291, [186, 1, 0]), (.aload_n 0, []), (.getfield 18, [9, 4, 4]), (.invokestatic 291, [186, 1, 0]), (.aload_n 0, []), (.getfield 21, [9, 5, 4]), (.invokestatic 291, [186, 1, 0]), (.aload_n 0, []), (.getfield 24, [9, 6, 4]), (.invokestatic 291, [186, 1, 0]), (.aload_n 0, []), (.getfield 27, [9, 7, 4]), (.invokestatic 291, [186, 1, 0]), (.aload_n 0, []), (.getfield 30, [9, 8, 4]), (.invokestatic 291, [186, 1, 0]), (.aload_n 0, []), (.getfield 33, [9, 9, 4]), (.invokestatic 291, [186, 1, 0]), (.aload_n 0, []), (.getfield 36, [9, 10, 4]), (.invokestatic 291, [186, 1, 0]), (.aload_n 0, []), (.getfield 39, [9, 11, 4]), (.invokestatic 291, [186, 1, 0]), (.aload_n 0, []), (.getfield 42, [9, 12, 4]), (.invokestatic 291, [186, 1, 0]), (.aload_n 0, []), (.getfield 45, [9, 13, 4]), (.invokestatic 291, [186, 1, 0]), (.aload_n 0, []), (.getfield 48, [9, 14, 4]), (.invokestatic 291, [186, 1, 0]), (.aload_n 0, []), (.getfield 51, [9, 15, 4]), (.invokestatic 291, [186, 1, 0]), (.aload_n 0, []), (.getfield 54, [9, 16, 4]), (.invokestatic 291, [186, 1, 0]), (.aload_n 0, []), (.iconst 0, []), (.putfield 295, [9, 69, 0]), (.aload_n 0, []), (.iconst (-1), []), (.putfield 107, [9, 70, 0]), (.aload_n 0, []), (.iconst 0, []), (.putfield 298, [9, 48, 1]), (.aload_n 0, []), (.aload_n 0, []), (.getfield 15, [9, 3, 4]), (.iconst 1, []), (.iaload, []), (.putfield 301, [9, 36, 0]), (.iconst 0, []), (.istore_n 2, [])], 10),
  (291, [0, 2], [(.iload_n 2, []), (.aload_n 0, []), (.getfield 301, [9, 36, 0]), (.if_icmp .ge 45, [11]), (.aload_n 0, []), (.getfield 68, [9, 37, 4]), (.iload_n 2, []), (.aload_n 0, []), (.getfield 33, [9, 9, 4]), (.iload_n 2, []), (.iaload, []), (.iastore, []), (.aload_n 0, []), (.getfield 71, [9, 38, 4]), (.iload_n 2, []), (.aload_n 0, []), (.getfield 36, [9, 10, 4]), (.iload_n 2, []), (.iaload, []), (.iastore, []), (.aload_n 0, []), (.getfield 74, [9, 39, 4]), (.iload_n 2, []), (.aload_n 0, []), (.getfield 39, [9, 11, 4]), (.iload_n 2, []), (.iaload, []), (.iastore, []), (.iinc 2 1, []), (.goto (-47), [10])], 0),
  (341, [0], [(.aload_n 0, []), (.invokevirtual 304, [191, 0, 9, 0]), (.aload_n 0, []), (.iconst 0, []), (.invokevirtual 307, [200, 1, 9, 0]), (.aload_n 0, []), (.getfield 238, [9, 17, 0]), (.ireturn, [])], 0)]
def mt_187 : Nat × Nat × List jB := (1, 3, k_M_text)
set_option maxRecDepth 100000 in
theorem ck_187 : jok jm_187 mt_187 = true := by decide +kernel
def k_M_fault : List jB := [
  (0, [0, 1], [(.aload_n 0, []), (.iconst 0, []), (.putfield 138, [9, 0, 0]), (.iload_n 1, []), (.ifCond .ne 10, [1]), (.aload_n 0, []), (.getfield 288, [9, 25, 0]), (.goto 16, [3])], 0),
  (16, [0, 1], [(.iload_n 1, []), (.iconst 1, []), (.if_icmp .ne 10, [2]), (.aload_n 0, []), (.getfield 57, [9, 26, 0]), (.goto 4, [3])], 0),
  (28, [], [(.iconst (-1), [])], 3),
  (29, [], [(.ireturn, [])], 0)]
def mt_188 : Nat × Nat × List jB := (1, 2, k_M_fault)
set_option maxRecDepth 100000 in
theorem ck_188 : jok jm_188 mt_188 = true := by decide +kernel
def k_M_named : List jB := [
  (0, [0, 1, 2], [(.aload_n 0, []), (.iconst 0, []), (.putfield 138, [9, 0, 0]), (.iload_n 1, []), (.ifCond .ne 21, [1]), (.aload_n 0, []), (.getfield 18, [9, 4, 4]), (.iconst 0, []), (.aload_n 0, []), (.getfield 15, [9, 3, 4]), (.iconst 0, []), (.iaload, []), (.iload_n 2, []), (.invokestatic 204, [168, 4, 1]), (.goto 27, [3])], 0),
  (27, [0, 1, 2], [(.iload_n 1, []), (.iconst 1, []), (.if_icmp .ne 21, [2]), (.aload_n 0, []), (.getfield 42, [9, 12, 4]), (.iconst 0, []), (.aload_n 0, []), (.getfield 15, [9, 3, 4]), (.iconst 2, []), (.iaload, []), (.iload_n 2, []), (.invokestatic 204, [168, 4, 1]), (.goto 4, [3])], 0),
  (50, [], [(.iconst (-1), [])], 3),
  (51, [], [(.ireturn, [])], 0)]
def mt_189 : Nat × Nat × List jB := (1, 3, k_M_named)
set_option maxRecDepth 100000 in
theorem ck_189 : jok jm_189 mt_189 = true := by decide +kernel
def k_M_isPerson : List jB := [
  (0, [0, 1], [(.iload_n 1, []), (.ifCond .lt 17, [1]), (.iload_n 1, []), (.aload_n 0, []), (.getfield 15, [9, 3, 4]), (.iconst 0, []), (.iaload, []), (.if_icmp .ge 7, [1]), (.iconst 1, []), (.goto 4, [2])], 0),
  (18, [], [(.iconst 0, [])], 2),
  (19, [], [(.ireturn, [])], 0)]
def mt_190 : Nat × Nat × List jB := (2, 2, k_M_isPerson)
set_option maxRecDepth 100000 in
theorem ck_190 : jok jm_190 mt_190 = true := by decide +kernel
def k_M_plain : List jB := [
  (0, [0], [(.aload_n 0, []), (.iconst (-1), []), (.putfield 310, [9, 30, 0]), (.aload_n 0, []), (.iconst (-1), []), (.putfield 313, [9, 31, 0]), (.aload_n 0, []), (.iconst 0, []), (.putfield 316, [9, 32, 0]), (.return_, [])], 0)]
def mt_191 : Nat × Nat × List jB := (0, 1, k_M_plain)
set_option maxRecDepth 100000 in
theorem ck_191 : jok jm_191 mt_191 = true := by decide +kernel
def k_M_ageOf : List jB := [
  (0, [0, 1], [(.aload_n 0, []), (.getfield 310, [9, 30, 0]), (.iconst 1, []), (.if_icmp .ne 7, [1]), (.iconst 0, []), (.goto 9, [2])], 0),
  (12, [0, 1], [(.aload_n 0, []), (.getfield 21, [9, 5, 4]), (.iload_n 1, []), (.iaload, [])], 2),
  (18, [], [(.ireturn, [])], 0)]
def mt_192 : Nat × Nat × List jB := (1, 2, k_M_ageOf)
set_option maxRecDepth 100000 in
theorem ck_192 : jok jm_192 mt_192 = true := by decide +kernel
def k_M_manyOf : List jB := [
  (0, [0, 1], [(.aload_n 0, []), (.getfield 310, [9, 30, 0]), (.ifCond .ne 13, [1]), (.aload_n 0, []), (.getfield 313, [9, 31, 0]), (.iload_n 1, []), (.if_icmp .ne 5, [1]), (.iconst 0, []), (.ireturn, [])], 0),
  (17, [0, 1], [(.aload_n 0, []), (.getfield 310, [9, 30, 0]), (.iconst 2, []), (.if_icmp .ne 16, [2]), (.iconst 1, []), (.aload_n 0, []), (.getfield 27, [9, 7, 4]), (.iload_n 1, []), (.iaload, []), (.invokestatic 319, [911, 0]), (.goto 9, [3])], 0),
  (38, [0, 1], [(.aload_n 0, []), (.getfield 27, [9, 7, 4]), (.iload_n 1, []), (.iaload, [])], 3),
  (44, [], [(.ireturn, [])], 0)]
def mt_193 : Nat × Nat × List jB := (1, 2, k_M_manyOf)
set_option maxRecDepth 100000 in
theorem ck_193 : jok jm_193 mt_193 = true := by decide +kernel
def k_M_is : List jB := [
  (0, [0], [(.iload_n 0, []), (.ifCond .eq 7, [1]), (.lconst 1, []), (.goto 4, [2])], 0),
  (8, [], [(.lconst 0, [])], 2),
  (9, [], [(.lreturn, [])], 0)]
def mt_194 : Nat × Nat × List jB := (3, 1, k_M_is)
set_option maxRecDepth 100000 in
theorem ck_194 : jok jm_194 mt_194 = true := by decide +kernel
def k_M_works : List jB := [
  (0, [0, 1], [(.aload_n 0, []), (.getfield 65, [9, 34, 4]), (.aload_n 0, []), (.getfield 324, [9, 35, 0]), (.iconst 1, []), (.isub, []), (.laload, []), (.lstore_n 2, []), (.iload_n 1, []), (.sipush 260, []), (.if_icmp .ne 30, [3]), (.aload_n 0, []), (.getfield 65, [9, 34, 4]), (.aload_n 0, []), (.getfield 324, [9, 35, 0]), (.iconst 1, []), (.isub, []), (.lload_n 2, []), (.lconst 0, []), (.lcmp, []), (.ifCond .ne 7, [1]), (.iconst 1, []), (.goto 4, [2])], 0),
  (39, [], [(.iconst 0, [])], 2),
  (40, [], [(.invokestatic 327, [194, 1, 2]), (.lastore, []), (.iconst 1, []), (.ireturn, [])], 0),
  (46, [0, 1, 2], [(.aload_n 0, []), (.getfield 65, [9, 34, 4]), (.aload_n 0, []), (.getfield 324, [9, 35, 0]), (.iconst 2, []), (.isub, []), (.laload, []), (.lstore 4, []), (.aload_n 0, []), (.dup, []), (.getfield 324, [9, 35, 0]), (.iconst 1, []), (.isub, []), (.putfield 324, [9, 35, 0]), (.iload_n 1, []), (.lookupswitch 335 #[(37, 159), (42, 124), (43, 106), (45, 115), (47, 159), (60, 189), (61, 229), (62, 209), (256, 249), (257, 289), (258, 269), (261, 309)], [33, 8, 6, 4, 5, 8, 12, 18, 15, 21, 27, 24, 30])], 0),
  (176, [0, 2, 4], [(.lload 4, []), (.lload_n 2, []), (.ladd, []), (.lstore 6, []), (.goto 246, [37])], 0),
  (185, [0, 2, 4], [(.lload 4, []), (.lload_n 2, []), (.lsub, []), (.lstore 6, []), (.goto 237, [37])], 0),
  (194, [0, 2, 4], [(.lload 4, []), (.lconst 0, []), (.lcmp, []), (.ifCond .eq 22, [7]), (.lload_n 2, []), (.invokestatic 331, [913, 0]), (.ldc2_w 335, [1000000000000]), (.lload 4, []), (.invokestatic 331, [913, 0]), (.ldiv, []), (.lcmp, []), (.ifCond .le 5, [7]), (.iconst 0, []), (.ireturn, [])], 0),
  (220, [0, 2, 4], [(.lload 4, []), (.lload_n 2, []), (.lmul, []), (.lstore 6, []), (.goto 202, [37])], 0),
  (229, [0, 1, 2, 4], [(.lload_n 2, []), (.lconst 0, []), (.lcmp, []), (.ifCond .ne 5, [9]), (.iconst 0, []), (.ireturn, [])], 0),
  (237, [0, 1, 2, 4], [(.iload_n 1, []), (.bipush 47, []), (.if_icmp .ne 10, [10]), (.lload 4, []), (.lload_n 2, []), (.ldiv, []), (.goto 7, [11])], 0),
  (250, [0, 2, 4], [(.lload 4, []), (.lload_n 2, []), (.lrem, [])], 11),
  (254, [0], [(.lstore 6, []), (.goto 172, [37])], 0),
  (259, [0, 2, 4], [(.lload 4, []), (.lload_n 2, []), (.lcmp, []), (.ifCond .ge 7, [13]), (.iconst 1, []), (.goto 4, [14])], 0),
  (270, [0], [(.iconst 0, [])], 14),
  (271, [0], [(.invokestatic 327, [194, 1, 2]), (.lstore 6, []), (.goto 152, [37])], 0),
  (279, [0, 2, 4], [(.lload 4, []), (.lload_n 2, []), (.lcmp, []), (.ifCond .le 7, [16]), (.iconst 1, []), (.goto 4, [17])], 0),
  (290, [0], [(.iconst 0, [])], 17),
  (291, [0], [(.invokestatic 327, [194, 1, 2]), (.lstore 6, []), (.goto 132, [37])], 0),
  (299, [0, 2, 4], [(.lload 4, []), (.lload_n 2, []), (.lcmp, []), (.ifCond .ne 7, [19]), (.iconst 1, []), (.goto 4, [20])], 0),
  (310, [0], [(.iconst 0, [])], 20),
  (311, [0], [(.invokestatic 327, [194, 1, 2]), (.lstore 6, []), (.goto 112, [37])], 0),
  (319, [0, 2, 4], [(.lload 4, []), (.lload_n 2, []), (.lcmp, []), (.ifCond .gt 7, [22]), (.iconst 1, []), (.goto 4, [23])], 0),
  (330, [0], [(.iconst 0, [])], 23),
  (331, [0], [(.invokestatic 327, [194, 1, 2]), (.lstore 6, []), (.goto 92, [37])], 0),
  (339, [0, 2, 4], [(.lload 4, []), (.lload_n 2, []), (.lcmp, []), (.ifCond .lt 7, [25]), (.iconst 1, []), (.goto 4, [26])], 0),
  (350, [0], [(.iconst 0, [])], 26),
  (351, [0], [(.invokestatic 327, [194, 1, 2]), (.lstore 6, []), (.goto 72, [37])], 0),
  (359, [0, 2, 4], [(.lload 4, []), (.lload_n 2, []), (.lcmp, []), (.ifCond .eq 7, [28]), (.iconst 1, []), (.goto 4, [29])], 0),
  (370, [0], [(.iconst 0, [])], 29),
  (371, [0], [(.invokestatic 327, [194, 1, 2]), (.lstore 6, []), (.goto 52, [37])], 0),
  (379, [0, 2, 4], [(.lload 4, []), (.lconst 0, []), (.lcmp, []), (.ifCond .eq 13, [31]), (.lload_n 2, []), (.lconst 0, []), (.lcmp, []), (.ifCond .eq 7, [31]), (.iconst 1, []), (.goto 4, [32])], 0),
  (396, [0], [(.iconst 0, [])], 32),
  (397, [0], [(.invokestatic 327, [194, 1, 2]), (.lstore 6, []), (.goto 26, [37])], 0),
  (405, [0, 2, 4], [(.lload 4, []), (.lconst 0, []), (.lcmp, []), (.ifCond .ne 9, [34]), (.lload_n 2, []), (.lconst 0, []), (.lcmp, []), (.ifCond .eq 7, [35])], 34),
  (418, [0], [(.iconst 1, []), (.goto 4, [36])], 0),
  (422, [0], [(.iconst 0, [])], 36),
  (423, [0], [(.invokestatic 327, [194, 1, 2]), (.lstore 6, [])], 37),
  (428, [0, 6], [(.aload_n 0, []), (.getfield 65, [9, 34, 4]), (.aload_n 0, []), (.getfield 324, [9, 35, 0]), (.iconst 1, []), (.isub, []), (.lload 6, []), (.lastore, []), (.lload 6, []), (.ldc2_w 335, [1000000000000]), (.lcmp, []), (.ifCond .gt 16, [38]), (.lload 6, []), (.ldc2_w 337, [18446743073709551616]), (.lcmp, []), (.ifCond .lt 7, [38]), (.iconst 1, []), (.goto 4, [39])], 0),
  (463, [], [(.iconst 0, [])], 39),
  (464, [], [(.ireturn, [])], 0)]
def mt_195 : Nat × Nat × List jB := (2, 8, k_M_works)
set_option maxRecDepth 100000 in
theorem ck_195 : jok jm_195 mt_195 = true := by decide +kernel
def k_M_goes : List jB := [
  (0, [0, 1], [(.aload_n 0, []), (.iconst 0, []), (.putfield 324, [9, 35, 0]), (.aload_n 0, []), (.getfield 45, [9, 13, 4]), (.iload_n 1, []), (.iaload, []), (.istore_n 2, [])], 1),
  (12, [0, 1, 2], [(.iload_n 2, []), (.aload_n 0, []), (.getfield 48, [9, 14, 4]), (.iload_n 1, []), (.iaload, []), (.if_icmp .ge 83, [6]), (.aload_n 0, []), (.getfield 51, [9, 15, 4]), (.iload_n 2, []), (.iaload, []), (.iconst 2, []), (.if_icmp .ne 18, [2]), (.aload_n 0, []), (.aload_n 0, []), (.getfield 54, [9, 16, 4]), (.iload_n 2, []), (.iaload, []), (.invokevirtual 339, [195, 1, 9, 1]), (.ifCond .ne 54, [5]), (.iconst 0, []), (.ireturn, [])], 0),
  (47, [0, 1, 2], [(.aload_n 0, []), (.getfield 65, [9, 34, 4]), (.aload_n 0, []), (.getfield 324, [9, 35, 0]), (.aload_n 0, []), (.getfield 51, [9, 15, 4]), (.iload_n 2, []), (.iaload, []), (.ifCond .ne 13, [3]), (.aload_n 0, []), (.getfield 54, [9, 16, 4]), (.iload_n 2, []), (.iaload, []), (.i2l, []), (.goto 14, [4])], 0),
  (74, [0, 1, 2], [(.aload_n 0, []), (.getfield 61, [9, 33, 4]), (.aload_n 0, []), (.getfield 54, [9, 16, 4]), (.iload_n 2, []), (.iaload, []), (.laload, [])], 4),
  (85, [0, 1, 2], [(.lastore, []), (.aload_n 0, []), (.dup, []), (.getfield 324, [9, 35, 0]), (.iconst 1, []), (.iadd, []), (.putfield 324, [9, 35, 0])], 5),
  (96, [0, 1, 2], [(.iinc 2 1, []), (.goto (-87), [1])], 0),
  (102, [], [(.iconst 1, []), (.ireturn, [])], 0)]
def mt_196 : Nat × Nat × List jB := (2, 3, k_M_goes)
set_option maxRecDepth 100000 in
theorem ck_196 : jok jm_196 mt_196 = true := by decide +kernel
def k_M_lays : List jB := [
  (0, [0, 1, 2, 3, 4, 5], [(.aload_n 0, []), (.getfield 61, [9, 33, 4]), (.iconst 0, []), (.iload_n 1, []), (.i2l, []), (.lastore, []), (.aload_n 0, []), (.getfield 61, [9, 33, 4]), (.iconst 1, []), (.iload_n 2, []), (.i2l, []), (.lastore, []), (.aload_n 0, []), (.getfield 61, [9, 33, 4]), (.iconst 2, []), (.iload_n 3, []), (.i2l, []), (.lastore, []), (.aload_n 0, []), (.getfield 61, [9, 33, 4]), (.iconst 3, []), (.iload_n 2, []), (.iload_n 3, []), (.if_icmp .le 7, [1]), (.iconst 1, []), (.goto 4, [2])], 0),
  (38, [0, 4, 5], [(.iconst 0, [])], 2),
  (39, [0, 4, 5], [(.invokestatic 327, [194, 1, 2]), (.lastore, []), (.aload_n 0, []), (.getfield 61, [9, 33, 4]), (.iconst 4, []), (.iload 4, []), (.i2l, []), (.lastore, []), (.aload_n 0, []), (.getfield 61, [9, 33, 4]), (.iconst 5, []), (.iload 5, []), (.i2l, []), (.lastore, []), (.return_, [])], 0)]
def mt_197 : Nat × Nat × List jB := (0, 6, k_M_lays)
set_option maxRecDepth 100000 in
theorem ck_197 : jok jm_197 mt_197 = true := by decide +kernel
def k_M_kept : List jB := [
  (0, [0, 1, 2, 3, 4, 5], [(.iload_n 1, []), (.iconst 2, []), (.idiv, []), (.istore 6, []), (.iload_n 1, []), (.iconst 2, []), (.irem, []), (.ifCond .eq 11, [1]), (.aload_n 0, []), (.getfield 310, [9, 30, 0]), (.iconst 4, []), (.if_icmp .ne 6, [2])], 1),
  (19, [6], [(.iload 6, []), (.ireturn, [])], 0),
  (22, [0, 1, 2, 3, 4, 5, 6], [(.aload_n 0, []), (.getfield 310, [9, 30, 0]), (.iconst 3, []), (.if_icmp .ne 16, [3]), (.aload_n 0, []), (.getfield 313, [9, 31, 0]), (.iload_n 2, []), (.if_icmp .ne 8, [3]), (.iload 6, []), (.iconst 1, []), (.iadd, []), (.ireturn, [])], 0),
  (43, [0, 1, 2, 3, 4, 5, 6], [(.aload_n 0, []), (.getfield 48, [9, 14, 4]), (.aload_n 0, []), (.getfield 316, [9, 32, 0]), (.iaload, []), (.aload_n 0, []), (.getfield 45, [9, 13, 4]), (.aload_n 0, []), (.getfield 316, [9, 32, 0]), (.iaload, []), (.if_icmp .ne 26, [6]), (.aload_n 0, []), (.iload_n 2, []), (.invokevirtual 342, [192, 1, 9, 1]), (.aload_n 0, []), (.iload_n 3, []), (.invokevirtual 342, [192, 1, 9, 1]), (.if_icmp .le 10, [4]), (.iload 6, []), (.iconst 1, []), (.iadd, []), (.goto 5, [5])], 0),
  (84, [6], [(.iload 6, [])], 5),
  (86, [], [(.ireturn, [])], 0),
  (87, [0, 1, 2, 3, 4, 5, 6], [(.aload_n 0, []), (.iload_n 1, []), (.aload_n 0, []), (.iload_n 2, []), (.invokevirtual 342, [192, 1, 9, 1]), (.aload_n 0, []), (.iload_n 3, []), (.invokevirtual 342, [192, 1, 9, 1]), (.iload 4, []), (.iload 5, []), (.invokevirtual 345, [197, 5, 9, 0]), (.aload_n 0, []), (.aload_n 0, []), (.getfield 316, [9, 32, 0]), (.invokevirtual 349, [196, 1, 9, 1]), (.ifCond .eq 21, [7]), (.aload_n 0, []), (.getfield 65, [9, 34, 4]), (.iconst 0, []), (.laload, []), (.lconst 0, []), (.lcmp, []), (.ifCond .eq 10, [7]), (.iload 6, []), (.iconst 1, []), (.iadd, []), (.goto 5, [8])], 0),
  (135, [6], [(.iload 6, [])], 8),
  (137, [], [(.ireturn, [])], 0)]
def mt_198 : Nat × Nat × List jB := (1, 7, k_M_kept)
set_option maxRecDepth 100000 in
theorem ck_198 : jok jm_198 mt_198 = true := by decide +kernel
def k_M_law : List jB := [
  (0, [0, 1, 2, 3, 4, 5], [(.aload_n 0, []), (.iconst 0, []), (.putfield 138, [9, 0, 0]), (.iload_n 1, []), (.ifCond .lt 60, [1]), (.iload_n 1, []), (.sipush 9999, []), (.if_icmp .gt 53, [1]), (.iload 4, []), (.ifCond .lt 48, [1]), (.iload 4, []), (.sipush 9999, []), (.if_icmp .gt 40, [1]), (.iload 5, []), (.ifCond .lt 35, [1]), (.iload 5, []), (.sipush 9999, []), (.if_icmp .gt 27, [1]), (.iload_n 2, []), (.ifCond .lt 23, [1]), (.iload_n 2, []), (.bipush 99, []), (.if_icmp .gt 17, [1]), (.iload_n 3, []), (.ifCond .lt 13, [1]), (.iload_n 3, []), (.bipush 99, []), (.if_icmp .gt 7, [1]), (.iconst 1, []), (.goto 4, [2])], 0),
  (66, [0, 1, 2, 3, 4, 5], [(.iconst 0, [])], 2),
  (67, [0, 1, 2, 3, 4, 5], [(.istore 6, []), (.iload 6, []), (.ifCond .eq 18, [3]), (.aload_n 0, []), (.getfield 48, [9, 14, 4]), (.iconst 0, []), (.iaload, []), (.aload_n 0, []), (.getfield 45, [9, 13, 4]), (.iconst 0, []), (.iaload, []), (.if_icmp .ne 7, [4])], 3),
  (89, [], [(.ldc2_w 354, [9223372036854775808]), (.lreturn, [])], 0),
  (93, [0, 1, 2, 3, 4, 5], [(.aload_n 0, []), (.iload_n 1, []), (.iload_n 2, []), (.iload_n 3, []), (.iload 4, []), (.iload 5, []), (.invokevirtual 345, [197, 5, 9, 0]), (.aload_n 0, []), (.iconst 0, []), (.invokevirtual 349, [196, 1, 9, 1]), (.ifCond .eq 12, [5]), (.aload_n 0, []), (.getfield 65, [9, 34, 4]), (.iconst 0, []), (.laload, []), (.goto 6, [6])], 0),
  (121, [], [(.ldc2_w 354, [9223372036854775808])], 6),
  (124, [], [(.lreturn, [])], 0)]
def mt_199 : Nat × Nat × List jB := (3, 7, k_M_law)
set_option maxRecDepth 100000 in
theorem ck_199 : jok jm_199 mt_199 = true := by decide +kernel
def k_M_begins : List jB := [
  (0, [0, 1], [(.aload_n 0, []), (.getfield 77, [9, 40, 4]), (.iload_n 1, []), (.iconst 0, []), (.iastore, []), (.iconst 0, []), (.istore_n 2, [])], 1),
  (9, [0, 1, 2], [(.iload_n 2, []), (.aload_n 0, []), (.getfield 15, [9, 3, 4]), (.iconst 0, []), (.iaload, []), (.if_icmp .ge 38, [2]), (.aload_n 0, []), (.getfield 80, [9, 41, 4]), (.bipush 10, []), (.iload_n 1, []), (.imul, []), (.iload_n 2, []), (.iadd, []), (.aload_n 0, []), (.getfield 24, [9, 6, 4]), (.iload_n 2, []), (.iaload, []), (.iastore, []), (.aload_n 0, []), (.getfield 83, [9, 42, 4]), (.bipush 10, []), (.iload_n 1, []), (.imul, []), (.iload_n 2, []), (.iadd, []), (.iconst 0, []), (.iastore, []), (.iinc 2 1, []), (.goto (-42), [1])], 0),
  (54, [0, 1], [(.iconst 0, []), (.istore_n 2, [])], 3),
  (56, [0, 1, 2], [(.iload_n 2, []), (.bipush 30, []), (.if_icmp .ge 19, [4]), (.aload_n 0, []), (.bipush 30, []), (.iload_n 1, []), (.imul, []), (.iload_n 2, []), (.iadd, []), (.invokevirtual 356, [201, 1, 9, 0]), (.iinc 2 1, []), (.goto (-19), [3])], 0),
  (78, [], [(.return_, [])], 0)]
def mt_200 : Nat × Nat × List jB := (0, 3, k_M_begins)
set_option maxRecDepth 100000 in
theorem ck_200 : jok jm_200 mt_200 = true := by decide +kernel
def k_M_newParcel : List jB := [
  (0, [0, 1], [(.aload_n 0, []), (.getfield 86, [9, 43, 4]), (.iload_n 1, []), (.iconst 0, []), (.iastore, []), (.aload_n 0, []), (.getfield 89, [9, 44, 4]), (.iload_n 1, []), (.iconst 0, []), (.iastore, []), (.aload_n 0, []), (.getfield 92, [9, 45, 4]), (.iload_n 1, []), (.iconst 0, []), (.iastore, []), (.aload_n 0, []), (.getfield 95, [9, 46, 4]), (.iload_n 1, []), (.iconst (-1), []), (.iastore, []), (.return_, [])], 0)]
def mt_201 : Nat × Nat × List jB := (0, 2, k_M_newParcel)
set_option maxRecDepth 100000 in
theorem ck_201 : jok jm_201 mt_201 = true := by decide +kernel
def k_M_copies : List jB := [
  (0, [0, 1, 2], [(.aload_n 0, []), (.getfield 77, [9, 40, 4]), (.iload_n 1, []), (.aload_n 0, []), (.getfield 77, [9, 40, 4]), (.iload_n 2, []), (.iaload, []), (.iastore, []), (.iconst 0, []), (.istore_n 3, [])], 1),
  (14, [0, 1, 2, 3], [(.iload_n 3, []), (.bipush 10, []), (.if_icmp .ge 53, [2]), (.aload_n 0, []), (.getfield 80, [9, 41, 4]), (.bipush 10, []), (.iload_n 1, []), (.imul, []), (.iload_n 3, []), (.iadd, []), (.aload_n 0, []), (.getfield 80, [9, 41, 4]), (.bipush 10, []), (.iload_n 2, []), (.imul, []), (.iload_n 3, []), (.iadd, []), (.iaload, []), (.iastore, []), (.aload_n 0, []), (.getfield 83, [9, 42, 4]), (.bipush 10, []), (.iload_n 1, []), (.imul, []), (.iload_n 3, []), (.iadd, []), (.aload_n 0, []), (.getfield 83, [9, 42, 4]), (.bipush 10, []), (.iload_n 2, []), (.imul, []), (.iload_n 3, []), (.iadd, []), (.iaload, []), (.iastore, []), (.iinc 3 1, []), (.goto (-53), [1])], 0),
  (70, [0, 1, 2], [(.iconst 0, []), (.istore_n 3, [])], 3),
  (72, [0, 1, 2, 3], [(.iload_n 3, []), (.bipush 30, []), (.if_icmp .ge 97, [4]), (.aload_n 0, []), (.getfield 86, [9, 43, 4]), (.bipush 30, []), (.iload_n 1, []), (.imul, []), (.iload_n 3, []), (.iadd, []), (.aload_n 0, []), (.getfield 86, [9, 43, 4]), (.bipush 30, []), (.iload_n 2, []), (.imul, []), (.iload_n 3, []), (.iadd, []), (.iaload, []), (.iastore, []), (.aload_n 0, []), (.getfield 89, [9, 44, 4]), (.bipush 30, []), (.iload_n 1, []), (.imul, []), (.iload_n 3, []), (.iadd, []), (.aload_n 0, []), (.getfield 89, [9, 44, 4]), (.bipush 30, []), (.iload_n 2, []), (.imul, []), (.iload_n 3, []), (.iadd, []), (.iaload, []), (.iastore, []), (.aload_n 0, []), (.getfield 92, [9, 45, 4]), (.bipush 30, []), (.iload_n 1, []), (.imul, []), (.iload_n 3, []), (.iadd, []), (.aload_n 0, []), (.getfield 92, [9, 45, 4]), (.bipush 30, []), (.iload_n 2, []), (.imul, []), (.iload_n 3, []), (.iadd, []), (.iaload, []), (.iastore, []), (.aload_n 0, []), (.getfield 95, [9, 46, 4]), (.bipush 30, []), (.iload_n 1, []), (.imul, []), (.iload_n 3, []), (.iadd, []), (.aload_n 0, []), (.getfield 95, [9, 46, 4]), (.bipush 30, []), (.iload_n 2, []), (.imul, []), (.iload_n 3, []), (.iadd, []), (.iaload, []), (.iastore, []), (.iinc 3 1, []), (.goto (-97), [3])], 0),
  (172, [], [(.return_, [])], 0)]
def mt_202 : Nat × Nat × List jB := (0, 4, k_M_copies)
set_option maxRecDepth 100000 in
theorem ck_202 : jok jm_202 mt_202 = true := by decide +kernel
def k_M_nextOf : List jB := [
  (0, [0, 1, 2], [(.aload_n 0, []), (.getfield 30, [9, 8, 4]), (.iconst 3, []), (.iload_n 2, []), (.imul, []), (.aload_n 0, []), (.getfield 83, [9, 42, 4]), (.bipush 10, []), (.iload_n 1, []), (.imul, []), (.iload_n 2, []), (.iadd, []), (.iaload, []), (.aload_n 0, []), (.iload_n 2, []), (.invokevirtual 359, [193, 1, 9, 1]), (.irem, []), (.iadd, []), (.iaload, []), (.ireturn, [])], 0)]
def mt_203 : Nat × Nat × List jB := (1, 3, k_M_nextOf)
set_option maxRecDepth 100000 in
theorem ck_203 : jok jm_203 mt_203 = true := by decide +kernel
def k_M_handsOn : List jB := [
  (0, [0, 1, 2, 3, 4], [(.bipush 30, []), (.iload_n 1, []), (.imul, []), (.iload_n 2, []), (.iadd, []), (.istore 5, []), (.aload_n 0, []), (.getfield 86, [9, 43, 4]), (.iload 5, []), (.iconst 1, []), (.iastore, []), (.aload_n 0, []), (.getfield 89, [9, 44, 4]), (.iload 5, []), (.iload 4, []), (.iastore, []), (.aload_n 0, []), (.getfield 95, [9, 46, 4]), (.iload 5, []), (.aload_n 0, []), (.iload_n 1, []), (.iload_n 3, []), (.invokevirtual 362, [203, 2, 9, 1]), (.iastore, []), (.aload_n 0, []), (.getfield 83, [9, 42, 4]), (.bipush 10, []), (.iload_n 1, []), (.imul, []), (.iload_n 3, []), (.iadd, []), (.aload_n 0, []), (.getfield 83, [9, 42, 4]), (.bipush 10, []), (.iload_n 1, []), (.imul, []), (.iload_n 3, []), (.iadd, []), (.iaload, []), (.iconst 1, []), (.iadd, []), (.aload_n 0, []), (.iload_n 3, []), (.invokevirtual 359, [193, 1, 9, 1]), (.irem, []), (.iastore, []), (.return_, [])], 0)]
def mt_204 : Nat × Nat × List jB := (0, 6, k_M_handsOn)
set_option maxRecDepth 100000 in
theorem ck_204 : jok jm_204 mt_204 = true := by decide +kernel
def k_M_rests : List jB := [
  (0, [0, 1, 2, 3, 4], [(.bipush 30, []), (.iload_n 1, []), (.imul, []), (.iload_n 2, []), (.iadd, []), (.istore 5, []), (.aload_n 0, []), (.getfield 80, [9, 41, 4]), (.bipush 10, []), (.iload_n 1, []), (.imul, []), (.iload_n 3, []), (.iadd, []), (.dup2, []), (.iaload, []), (.iload 4, []), (.iadd, []), (.iastore, []), (.aload_n 0, []), (.getfield 86, [9, 43, 4]), (.iload 5, []), (.iconst 2, []), (.iastore, []), (.aload_n 0, []), (.getfield 89, [9, 44, 4]), (.iload 5, []), (.iconst 0, []), (.iastore, []), (.aload_n 0, []), (.getfield 95, [9, 46, 4]), (.iload 5, []), (.iconst (-1), []), (.iastore, []), (.return_, [])], 0)]
def mt_205 : Nat × Nat × List jB := (0, 6, k_M_rests)
set_option maxRecDepth 100000 in
theorem ck_205 : jok jm_205 mt_205 = true := by decide +kernel
def k_M_passes : List jB := [
  (0, [0, 1], [(.iconst 0, []), (.istore_n 2, []), (.iconst 0, []), (.istore_n 3, [])], 1),
  (4, [0, 1, 2, 3], [(.iload_n 3, []), (.aload_n 0, []), (.getfield 301, [9, 36, 0]), (.if_icmp .ge 34, [4]), (.iload_n 2, []), (.aload_n 0, []), (.getfield 86, [9, 43, 4]), (.bipush 30, []), (.iload_n 1, []), (.imul, []), (.iload_n 3, []), (.iadd, []), (.iaload, []), (.iconst 1, []), (.if_icmp .ne 9, [2]), (.iconst 1, []), (.iload_n 3, []), (.ishl, []), (.goto 4, [3])], 0),
  (34, [0, 1, 3], [(.iconst 0, [])], 3),
  (35, [0, 1, 3], [(.ior, []), (.istore_n 2, []), (.iinc 3 1, []), (.goto (-36), [1])], 0),
  (43, [0, 1, 2], [(.iconst 0, []), (.istore_n 3, [])], 5),
  (45, [0, 1, 2, 3], [(.iload_n 3, []), (.aload_n 0, []), (.getfield 301, [9, 36, 0]), (.if_icmp .ge 109, [9]), (.aload_n 0, []), (.getfield 74, [9, 39, 4]), (.iload_n 3, []), (.iaload, []), (.aload_n 0, []), (.getfield 77, [9, 40, 4]), (.iload_n 1, []), (.iaload, []), (.if_icmp .ne 88, [8]), (.aload_n 0, []), (.getfield 86, [9, 43, 4]), (.bipush 30, []), (.iload_n 1, []), (.imul, []), (.iload_n 3, []), (.iadd, []), (.iaload, []), (.ifCond .ne 74, [8]), (.aload_n 0, []), (.getfield 310, [9, 30, 0]), (.iconst 5, []), (.if_icmp .ne 14, [6]), (.aload_n 0, []), (.getfield 313, [9, 31, 0]), (.iload_n 3, []), (.if_icmp .ne 6, [6]), (.goto 55, [8])], 0),
  (101, [0, 1, 2, 3], [(.aload_n 0, []), (.aload_n 0, []), (.getfield 68, [9, 37, 4]), (.iload_n 3, []), (.iaload, []), (.invokevirtual 359, [193, 1, 9, 1]), (.ifCond .ne 24, [7]), (.aload_n 0, []), (.iload_n 1, []), (.iload_n 3, []), (.aload_n 0, []), (.getfield 68, [9, 37, 4]), (.iload_n 3, []), (.iaload, []), (.aload_n 0, []), (.getfield 71, [9, 38, 4]), (.iload_n 3, []), (.iaload, []), (.invokevirtual 365, [205, 4, 9, 0]), (.goto 21, [8])], 0),
  (135, [0, 1, 2, 3], [(.aload_n 0, []), (.iload_n 1, []), (.iload_n 3, []), (.aload_n 0, []), (.getfield 68, [9, 37, 4]), (.iload_n 3, []), (.iaload, []), (.aload_n 0, []), (.getfield 71, [9, 38, 4]), (.iload_n 3, []), (.iaload, []), (.invokevirtual 369, [204, 4, 9, 0])], 8),
  (153, [0, 1, 2, 3], [(.iinc 3 1, []), (.goto (-111), [5])], 0),
  (159, [0, 1, 2], [(.iconst 0, []), (.istore_n 3, [])], 10),
  (161, [0, 1, 2, 3], [(.iload_n 3, []), (.aload_n 0, []), (.getfield 301, [9, 36, 0]), (.if_icmp .ge 24, [12]), (.iload_n 2, []), (.iload_n 3, []), (.ishr, []), (.iconst 1, []), (.iand, []), (.iconst 1, []), (.if_icmp .ne 9, [11]), (.aload_n 0, []), (.iload_n 1, []), (.iload_n 3, []), (.invokevirtual 372, [207, 2, 9, 0])], 11),
  (184, [0, 1, 2, 3], [(.iinc 3 1, []), (.goto (-26), [10])], 0),
  (190, [0, 1], [(.aload_n 0, []), (.getfield 77, [9, 40, 4]), (.iload_n 1, []), (.dup2, []), (.iaload, []), (.iconst 1, []), (.iadd, []), (.iastore, []), (.return_, [])], 0)]
def mt_206 : Nat × Nat × List jB := (0, 4, k_M_passes)
set_option maxRecDepth 100000 in
theorem ck_206 : jok jm_206 mt_206 = true := by decide +kernel
def k_M_comes : List jB := [
  (0, [0, 1, 2], [(.bipush 30, []), (.iload_n 1, []), (.imul, []), (.iload_n 2, []), (.iadd, []), (.istore_n 3, []), (.aload_n 0, []), (.getfield 95, [9, 46, 4]), (.iload_n 3, []), (.iaload, []), (.istore 4, []), (.aload_n 0, []), (.getfield 89, [9, 44, 4]), (.iload_n 3, []), (.iaload, []), (.istore 5, []), (.aload_n 0, []), (.getfield 92, [9, 45, 4]), (.iload_n 3, []), (.dup2, []), (.iaload, []), (.iconst 1, []), (.iadd, []), (.iastore, []), (.aload_n 0, []), (.iload 4, []), (.invokevirtual 359, [193, 1, 9, 1]), (.ifCond .eq 14, [1]), (.aload_n 0, []), (.getfield 92, [9, 45, 4]), (.iload_n 3, []), (.iaload, []), (.bipush 100, []), (.if_icmp .ne 14, [2])], 1),
  (53, [0, 1, 2, 4, 5], [(.aload_n 0, []), (.iload_n 1, []), (.iload_n 2, []), (.iload 4, []), (.iload 5, []), (.invokevirtual 365, [205, 4, 9, 0]), (.return_, [])], 0),
  (64, [0, 1, 2, 3, 4, 5], [(.aload_n 0, []), (.iload 5, []), (.iload 4, []), (.aload_n 0, []), (.iload_n 1, []), (.iload 4, []), (.invokevirtual 362, [203, 2, 9, 1]), (.aload_n 0, []), (.getfield 92, [9, 45, 4]), (.iload_n 3, []), (.iaload, []), (.aload_n 0, []), (.getfield 77, [9, 40, 4]), (.iload_n 1, []), (.iaload, []), (.invokevirtual 375, [198, 5, 9, 1]), (.istore 6, []), (.iload 6, []), (.iload 5, []), (.if_icmp .ne 14, [3]), (.aload_n 0, []), (.iload_n 1, []), (.iload_n 2, []), (.iload 4, []), (.iload 5, []), (.invokevirtual 365, [205, 4, 9, 0]), (.return_, [])], 0),
  (111, [0, 1, 2, 4, 5, 6], [(.aload_n 0, []), (.getfield 80, [9, 41, 4]), (.bipush 10, []), (.iload_n 1, []), (.imul, []), (.iload 4, []), (.iadd, []), (.dup2, []), (.iaload, []), (.iload 6, []), (.iadd, []), (.iastore, []), (.aload_n 0, []), (.iload_n 1, []), (.iload_n 2, []), (.iload 4, []), (.iload 5, []), (.iload 6, []), (.isub, []), (.invokevirtual 369, [204, 4, 9, 0]), (.return_, [])], 0)]
def mt_207 : Nat × Nat × List jB := (0, 7, k_M_comes)
set_option maxRecDepth 100000 in
theorem ck_207 : jok jm_207 mt_207 = true := by decide +kernel
def k_M_look : List jB := [
  (0, [0, 1, 2], [(.aload_n 0, []), (.aload_n 0, []), (.iload_n 1, []), (.invokevirtual 379, [190, 1, 9, 1]), (.ifCond .ne 7, [1]), (.iconst 1, []), (.goto 18, [4])], 0),
  (13, [0, 1, 2], [(.iload_n 2, []), (.ifCond .lt 9, [2]), (.iload_n 2, []), (.bipush 6, []), (.if_icmp .le 7, [3])], 2),
  (23, [0, 1, 2], [(.iconst 2, []), (.goto 4, [4])], 0),
  (27, [0, 1, 2], [(.iconst 0, [])], 4),
  (28, [0, 1, 2], [(.putfield 138, [9, 0, 0]), (.aload_n 0, []), (.getfield 138, [9, 0, 0]), (.ifCond .eq 5, [5]), (.iconst 0, []), (.ireturn, [])], 0),
  (40, [0, 1, 2], [(.iload_n 2, []), (.tableswitch 71 0 6 #[43, 50, 57, 71, 71, 71, 64], [10, 6, 7, 8, 10, 10, 10, 9])], 0),
  (84, [0, 1], [(.aload_n 0, []), (.getfield 21, [9, 5, 4]), (.iload_n 1, []), (.iaload, []), (.ireturn, [])], 0),
  (91, [0, 1], [(.aload_n 0, []), (.getfield 80, [9, 41, 4]), (.iload_n 1, []), (.iaload, []), (.ireturn, [])], 0),
  (98, [0, 1], [(.aload_n 0, []), (.getfield 27, [9, 7, 4]), (.iload_n 1, []), (.iaload, []), (.ireturn, [])], 0),
  (105, [0, 1], [(.aload_n 0, []), (.getfield 83, [9, 42, 4]), (.iload_n 1, []), (.iaload, []), (.ireturn, [])], 0),
  (112, [0, 1, 2], [(.iload_n 2, []), (.iconst 3, []), (.isub, []), (.aload_n 0, []), (.getfield 27, [9, 7, 4]), (.iload_n 1, []), (.iaload, []), (.if_icmp .ge 18, [11]), (.aload_n 0, []), (.getfield 30, [9, 8, 4]), (.iconst 3, []), (.iload_n 1, []), (.imul, []), (.iload_n 2, []), (.iadd, []), (.iconst 3, []), (.isub, []), (.iaload, []), (.goto 4, [12])], 0),
  (139, [], [(.iconst (-1), [])], 12),
  (140, [], [(.ireturn, [])], 0)]
def mt_208 : Nat × Nat × List jB := (1, 3, k_M_look)
set_option maxRecDepth 100000 in
theorem ck_208 : jok jm_208 mt_208 = true := by decide +kernel
def k_M_hours : List jB := [
  (0, [0, 1], [(.aload_n 0, []), (.iconst 0, []), (.putfield 138, [9, 0, 0]), (.iload_n 1, []), (.ifCond .lt 24, [1]), (.iload_n 1, []), (.sipush 300, []), (.if_icmp .gt 17, [1]), (.aload_n 0, []), (.getfield 77, [9, 40, 4]), (.iconst 0, []), (.iaload, []), (.iload_n 1, []), (.iadd, []), (.sipush 3000, []), (.if_icmp .le 5, [2])], 1),
  (30, [], [(.iconst (-1), []), (.ireturn, [])], 0),
  (32, [0, 1], [(.aload_n 0, []), (.invokevirtual 304, [191, 0, 9, 0]), (.iconst 0, []), (.istore_n 2, [])], 3),
  (38, [0, 1, 2], [(.iload_n 2, []), (.iload_n 1, []), (.if_icmp .ge 14, [4]), (.aload_n 0, []), (.iconst 0, []), (.invokevirtual 382, [206, 1, 9, 0]), (.iinc 2 1, []), (.goto (-13), [3])], 0),
  (54, [0], [(.aload_n 0, []), (.getfield 77, [9, 40, 4]), (.iconst 0, []), (.iaload, []), (.ireturn, [])], 0)]
def mt_209 : Nat × Nat × List jB := (1, 3, k_M_hours)
set_option maxRecDepth 100000 in
theorem ck_209 : jok jm_209 mt_209 = true := by decide +kernel
def k_M_send : List jB := [
  (0, [0, 1, 2], [(.aload_n 0, []), (.iconst 0, []), (.putfield 138, [9, 0, 0]), (.aload_n 0, []), (.iload_n 1, []), (.invokevirtual 379, [190, 1, 9, 1]), (.ifCond .eq 23, [1]), (.iload_n 2, []), (.iconst 1, []), (.if_icmp .lt 18, [1]), (.iload_n 2, []), (.ldc 176, [99999]), (.if_icmp .gt 12, [1]), (.aload_n 0, []), (.getfield 301, [9, 36, 0]), (.bipush 30, []), (.if_icmp .ne 5, [2])], 1),
  (33, [], [(.iconst (-1), []), (.ireturn, [])], 0),
  (35, [0, 1, 2], [(.aload_n 0, []), (.getfield 68, [9, 37, 4]), (.aload_n 0, []), (.getfield 301, [9, 36, 0]), (.iload_n 1, []), (.iastore, []), (.aload_n 0, []), (.getfield 71, [9, 38, 4]), (.aload_n 0, []), (.getfield 301, [9, 36, 0]), (.iload_n 2, []), (.iastore, []), (.aload_n 0, []), (.getfield 74, [9, 39, 4]), (.aload_n 0, []), (.getfield 301, [9, 36, 0]), (.aload_n 0, []), (.getfield 77, [9, 40, 4]), (.iconst 0, []), (.iaload, []), (.iastore, []), (.aload_n 0, []), (.aload_n 0, []), (.getfield 301, [9, 36, 0]), (.invokevirtual 356, [201, 1, 9, 0]), (.aload_n 0, []), (.dup, []), (.getfield 301, [9, 36, 0]), (.iconst 1, []), (.iadd, []), (.putfield 301, [9, 36, 0]), (.aload_n 0, []), (.getfield 301, [9, 36, 0]), (.iconst 1, []), (.isub, []), (.ireturn, [])], 0)]
def mt_210 : Nat × Nat × List jB := (1, 3, k_M_send)
set_option maxRecDepth 100000 in
theorem ck_210 : jok jm_210 mt_210 = true := by decide +kernel
def k_M_isParcel : List jB := [
  (0, [0, 1], [(.iload_n 1, []), (.ifCond .lt 15, [1]), (.iload_n 1, []), (.aload_n 0, []), (.getfield 301, [9, 36, 0]), (.if_icmp .ge 7, [1]), (.iconst 1, []), (.goto 4, [2])], 0),
  (16, [], [(.iconst 0, [])], 2),
  (17, [], [(.ireturn, [])], 0)]
def mt_211 : Nat × Nat × List jB := (2, 2, k_M_isParcel)
set_option maxRecDepth 100000 in
theorem ck_211 : jok jm_211 mt_211 = true := by decide +kernel
def k_M_parcel : List jB := [
  (0, [0, 1, 2], [(.aload_n 0, []), (.iconst 0, []), (.putfield 138, [9, 0, 0]), (.aload_n 0, []), (.iload_n 1, []), (.invokevirtual 385, [211, 1, 9, 1]), (.ifCond .ne 5, [1]), (.iconst (-1), []), (.ireturn, [])], 0),
  (15, [0, 1, 2], [(.iload_n 2, []), (.tableswitch 93 0 6 #[44, 51, 58, 65, 72, 79, 86], [9, 2, 3, 4, 5, 6, 7, 8])], 0),
  (60, [0, 1], [(.aload_n 0, []), (.getfield 68, [9, 37, 4]), (.iload_n 1, []), (.iaload, []), (.ireturn, [])], 0),
  (67, [0, 1], [(.aload_n 0, []), (.getfield 71, [9, 38, 4]), (.iload_n 1, []), (.iaload, []), (.ireturn, [])], 0),
  (74, [0, 1], [(.aload_n 0, []), (.getfield 74, [9, 39, 4]), (.iload_n 1, []), (.iaload, []), (.ireturn, [])], 0),
  (81, [0, 1], [(.aload_n 0, []), (.getfield 86, [9, 43, 4]), (.iload_n 1, []), (.iaload, []), (.ireturn, [])], 0),
  (88, [0, 1], [(.aload_n 0, []), (.getfield 89, [9, 44, 4]), (.iload_n 1, []), (.iaload, []), (.ireturn, [])], 0),
  (95, [0, 1], [(.aload_n 0, []), (.getfield 92, [9, 45, 4]), (.iload_n 1, []), (.iaload, []), (.ireturn, [])], 0),
  (102, [0, 1], [(.aload_n 0, []), (.getfield 95, [9, 46, 4]), (.iload_n 1, []), (.iaload, []), (.ireturn, [])], 0),
  (109, [], [(.iconst (-1), []), (.ireturn, [])], 0)]
def mt_212 : Nat × Nat × List jB := (1, 3, k_M_parcel)
set_option maxRecDepth 100000 in
theorem ck_212 : jok jm_212 mt_212 = true := by decide +kernel
def k_M_coins : List jB := [
  (0, [0], [(.aload_n 0, []), (.iconst 0, []), (.putfield 138, [9, 0, 0]), (.lconst 0, []), (.lstore_n 1, []), (.iconst 0, []), (.istore_n 3, [])], 1),
  (9, [0, 1, 3], [(.iload_n 3, []), (.aload_n 0, []), (.getfield 15, [9, 3, 4]), (.iconst 0, []), (.iaload, []), (.if_icmp .ge 19, [2]), (.lload_n 1, []), (.aload_n 0, []), (.getfield 80, [9, 41, 4]), (.iload_n 3, []), (.iaload, []), (.i2l, []), (.ladd, []), (.lstore_n 1, []), (.iinc 3 1, []), (.goto (-23), [1])], 0),
  (35, [0, 1], [(.iconst 0, []), (.istore_n 3, [])], 3),
  (37, [0, 1, 3], [(.iload_n 3, []), (.aload_n 0, []), (.getfield 301, [9, 36, 0]), (.if_icmp .ge 19, [4]), (.lload_n 1, []), (.aload_n 0, []), (.getfield 89, [9, 44, 4]), (.iload_n 3, []), (.iaload, []), (.i2l, []), (.ladd, []), (.lstore_n 1, []), (.iinc 3 1, []), (.goto (-21), [3])], 0),
  (61, [1], [(.lload_n 1, []), (.lreturn, [])], 0)]
def mt_213 : Nat × Nat × List jB := (3, 4, k_M_coins)
set_option maxRecDepth 100000 in
theorem ck_213 : jok jm_213 mt_213 = true := by decide +kernel
end
section
/-! The methods' blocks, held against their bytes. Printed by wip/gen/code.py. -/
def k_M_isAllRest : List jB := [
  (0, [0, 1], [(.iconst 0, []), (.istore_n 2, [])], 1),
  (2, [0, 1, 2], [(.iload_n 2, []), (.aload_n 0, []), (.getfield 301, [9, 36, 0]), (.if_icmp .ge 26, [3]), (.aload_n 0, []), (.getfield 86, [9, 43, 4]), (.bipush 30, []), (.iload_n 1, []), (.imul, []), (.iload_n 2, []), (.iadd, []), (.iaload, []), (.iconst 2, []), (.if_icmp .eq 5, [2]), (.iconst 0, []), (.ireturn, [])], 0),
  (27, [0, 1, 2], [(.iinc 2 1, []), (.goto (-28), [1])], 0),
  (33, [], [(.iconst 1, []), (.ireturn, [])], 0)]
def mt_214 : Nat × Nat × List jB := (2, 3, k_M_isAllRest)
set_option maxRecDepth 100000 in
theorem ck_214 : jok jm_214 mt_214 = true := by decide +kernel
def k_M_rest : List jB := [
  (0, [0], [(.aload_n 0, []), (.iconst 0, []), (.putfield 138, [9, 0, 0]), (.aload_n 0, []), (.invokevirtual 304, [191, 0, 9, 0]), (.aload_n 0, []), (.iconst 1, []), (.iconst 0, []), (.invokevirtual 388, [202, 2, 9, 0]), (.iconst 0, []), (.istore_n 1, [])], 1),
  (17, [0, 1], [(.iload_n 1, []), (.sipush 3000, []), (.if_icmp .gt 24, [3]), (.aload_n 0, []), (.iconst 1, []), (.invokevirtual 391, [214, 1, 9, 1]), (.ifCond .eq 5, [2]), (.iload_n 1, []), (.ireturn, [])], 0),
  (34, [0, 1], [(.aload_n 0, []), (.iconst 1, []), (.invokevirtual 382, [206, 1, 9, 0]), (.iinc 1 1, []), (.goto (-25), [1])], 0),
  (45, [], [(.bipush (-2), []), (.ireturn, [])], 0)]
def mt_215 : Nat × Nat × List jB := (1, 2, k_M_rest)
set_option maxRecDepth 100000 in
theorem ck_215 : jok jm_215 mt_215 = true := by decide +kernel
def k_M_takes : List jB := [
  (0, [0, 1, 2], [(.iload_n 1, []), (.iconst 2, []), (.if_icmp .lt 13, [1]), (.iload_n 1, []), (.aload_n 0, []), (.getfield 15, [9, 3, 4]), (.iconst 0, []), (.iaload, []), (.if_icmp .le 5, [2])], 1),
  (15, [], [(.iconst 0, []), (.ireturn, [])], 0),
  (17, [0, 1, 2], [(.iconst 0, []), (.istore 4, []), (.iconst 0, []), (.istore 5, [])], 3),
  (23, [0, 1, 2, 4, 5], [(.iload 5, []), (.iload_n 1, []), (.if_icmp .ge 62, [6]), (.lload_n 2, []), (.iconst 4, []), (.iload 5, []), (.imul, []), (.lshr, []), (.ldc2_w 394, [15]), (.land, []), (.l2i, []), (.istore 6, []), (.aload_n 0, []), (.iload 6, []), (.invokevirtual 379, [190, 1, 9, 1]), (.ifCond .eq 14, [4]), (.iload 4, []), (.iload 6, []), (.ishr, []), (.iconst 1, []), (.iand, []), (.iconst 1, []), (.if_icmp .ne 5, [5])], 4),
  (62, [], [(.iconst 0, []), (.ireturn, [])], 0),
  (64, [0, 1, 2, 4, 5, 6], [(.iload 4, []), (.iconst 1, []), (.iload 6, []), (.ishl, []), (.ior, []), (.istore 4, []), (.aload_n 0, []), (.getfield 98, [9, 49, 4]), (.iload 5, []), (.iload 6, []), (.iastore, []), (.iinc 5 1, []), (.goto (-62), [3])], 0),
  (88, [0, 1], [(.aload_n 0, []), (.iload_n 1, []), (.putfield 396, [9, 50, 0]), (.iconst 1, []), (.ireturn, [])], 0)]
def mt_216 : Nat × Nat × List jB := (2, 7, k_M_takes)
set_option maxRecDepth 100000 in
theorem ck_216 : jok jm_216 mt_216 = true := by decide +kernel
def k_M_takesSent : List jB := [
  (0, [0, 1, 2, 4], [(.iload 4, []), (.ifCond .lt 24, [1]), (.iload 4, []), (.ldc_w 399, [999999]), (.if_icmp .gt 16, [1]), (.aload_n 0, []), (.iload_n 1, []), (.lload_n 2, []), (.invokevirtual 400, [216, 2, 9, 1]), (.ifCond .eq 7, [1]), (.iconst 1, []), (.goto 4, [2])], 0),
  (26, [], [(.iconst 0, [])], 2),
  (27, [], [(.ireturn, [])], 0)]
def mt_217 : Nat × Nat × List jB := (2, 5, k_M_takesSent)
set_option maxRecDepth 100000 in
theorem ck_217 : jok jm_217 mt_217 = true := by decide +kernel
def k_M_sends : List jB := [
  (0, [0, 1], [(.iload_n 1, []), (.istore_n 2, []), (.iconst 1, []), (.istore_n 3, [])], 1),
  (4, [0, 2, 3], [(.iload_n 3, []), (.aload_n 0, []), (.getfield 396, [9, 50, 0]), (.iconst 1, []), (.isub, []), (.if_icmp .ge 45, [2]), (.aload_n 0, []), (.getfield 101, [9, 51, 4]), (.iload_n 3, []), (.aload_n 0, []), (.iload_n 2, []), (.aload_n 0, []), (.getfield 98, [9, 49, 4]), (.iload_n 3, []), (.iaload, []), (.aload_n 0, []), (.getfield 98, [9, 49, 4]), (.iload_n 3, []), (.iconst 1, []), (.iadd, []), (.iaload, []), (.iload_n 3, []), (.iconst 0, []), (.invokevirtual 375, [198, 5, 9, 1]), (.iastore, []), (.iload_n 2, []), (.aload_n 0, []), (.getfield 101, [9, 51, 4]), (.iload_n 3, []), (.iaload, []), (.isub, []), (.istore_n 2, []), (.iinc 3 1, []), (.goto (-49), [1])], 0),
  (56, [2], [(.iload_n 2, []), (.ireturn, [])], 0)]
def mt_218 : Nat × Nat × List jB := (1, 4, k_M_sends)
set_option maxRecDepth 100000 in
theorem ck_218 : jok jm_218 mt_218 = true := by decide +kernel
def k_M_rowAsLong : List jB := [
  (0, [0], [(.lconst 0, []), (.lstore_n 1, []), (.iconst 0, []), (.istore_n 3, [])], 1),
  (4, [0, 1, 3], [(.iload_n 3, []), (.aload_n 0, []), (.getfield 396, [9, 50, 0]), (.if_icmp .ge 23, [2]), (.lload_n 1, []), (.aload_n 0, []), (.getfield 98, [9, 49, 4]), (.iload_n 3, []), (.iaload, []), (.i2l, []), (.iconst 4, []), (.iload_n 3, []), (.imul, []), (.lshl, []), (.lor, []), (.lstore_n 1, []), (.iinc 3 1, []), (.goto (-25), [1])], 0),
  (32, [1], [(.lload_n 1, []), (.lreturn, [])], 0)]
def mt_219 : Nat × Nat × List jB := (3, 4, k_M_rowAsLong)
set_option maxRecDepth 100000 in
theorem ck_219 : jok jm_219 mt_219 = true := by decide +kernel
def k_M_arrives : List jB := [
  (0, [0, 1, 2, 4], [(.aload_n 0, []), (.iconst 0, []), (.putfield 138, [9, 0, 0]), (.aload_n 0, []), (.invokevirtual 304, [191, 0, 9, 0]), (.aload_n 0, []), (.iload_n 1, []), (.lload_n 2, []), (.iload 4, []), (.invokevirtual 404, [217, 3, 9, 1]), (.ifCond .eq 12, [1]), (.aload_n 0, []), (.iload 4, []), (.invokevirtual 408, [218, 1, 9, 1]), (.goto 4, [2])], 0),
  (29, [], [(.iconst (-1), [])], 2),
  (30, [], [(.ireturn, [])], 0)]
def mt_220 : Nat × Nat × List jB := (1, 5, k_M_arrives)
set_option maxRecDepth 100000 in
theorem ck_220 : jok jm_220 mt_220 = true := by decide +kernel
def k_M_keeps : List jB := [
  (0, [0, 1, 2, 4, 5], [(.aload_n 0, []), (.iconst 0, []), (.putfield 138, [9, 0, 0]), (.aload_n 0, []), (.invokevirtual 304, [191, 0, 9, 0]), (.aload_n 0, []), (.iload_n 1, []), (.lload_n 2, []), (.iload 4, []), (.invokevirtual 404, [217, 3, 9, 1]), (.ifCond .eq 17, [1]), (.iload 5, []), (.iconst 1, []), (.if_icmp .lt 11, [1]), (.iload 5, []), (.iload_n 1, []), (.iconst 2, []), (.isub, []), (.if_icmp .le 5, [2])], 1),
  (34, [], [(.iconst (-1), []), (.ireturn, [])], 0),
  (36, [0, 4, 5], [(.aload_n 0, []), (.iload 4, []), (.invokevirtual 408, [218, 1, 9, 1]), (.pop, []), (.aload_n 0, []), (.getfield 101, [9, 51, 4]), (.iload 5, []), (.iaload, []), (.ireturn, [])], 0)]
def mt_221 : Nat × Nat × List jB := (1, 6, k_M_keeps)
set_option maxRecDepth 100000 in
theorem ck_221 : jok jm_221 mt_221 = true := by decide +kernel
def k_M_goesOn : List jB := [
  (0, [0, 1, 3], [(.lload_n 1, []), (.l2i, []), (.istore 4, []), (.iload 4, []), (.aload_n 0, []), (.iload 4, []), (.aload_n 0, []), (.getfield 98, [9, 49, 4]), (.iload_n 3, []), (.iaload, []), (.aload_n 0, []), (.getfield 98, [9, 49, 4]), (.iload_n 3, []), (.iconst 1, []), (.iadd, []), (.iaload, []), (.iload_n 3, []), (.iconst 0, []), (.invokevirtual 375, [198, 5, 9, 1]), (.isub, []), (.ireturn, [])], 0)]
def mt_222 : Nat × Nat × List jB := (1, 5, k_M_goesOn)
set_option maxRecDepth 100000 in
theorem ck_222 : jok jm_222 mt_222 = true := by decide +kernel
def k_M_backs : List jB := [
  (0, [0, 1], [(.aload_n 0, []), (.iload_n 1, []), (.i2l, []), (.putfield 411, [9, 52, 2]), (.aload_n 0, []), (.iload_n 1, []), (.i2l, []), (.putfield 415, [9, 53, 2]), (.aload_n 0, []), (.getfield 396, [9, 50, 0]), (.iconst 2, []), (.isub, []), (.istore_n 2, [])], 1),
  (19, [0, 2], [(.iload_n 2, []), (.ifCond .le 127, [7]), (.ldc2_w 418, [2]), (.aload_n 0, []), (.getfield 411, [9, 52, 2]), (.lmul, []), (.lstore_n 3, []), (.ldc2_w 418, [2]), (.aload_n 0, []), (.getfield 415, [9, 53, 2]), (.lmul, []), (.lstore 5, []), (.lload_n 3, []), (.ldc2_w 420, [1999998]), (.lcmp, []), (.ifCond .le 14, [2]), (.aload_n 0, []), (.lload_n 3, []), (.putfield 411, [9, 52, 2]), (.aload_n 0, []), (.lload_n 3, []), (.putfield 415, [9, 53, 2]), (.return_, [])], 0),
  (61, [0, 2, 3, 5], [(.aload_n 0, []), (.lload_n 3, []), (.lconst 0, []), (.lcmp, []), (.ifCond .le 26, [3]), (.aload_n 0, []), (.lload_n 3, []), (.lconst 1, []), (.lsub, []), (.iload_n 2, []), (.invokevirtual 422, [222, 2, 9, 1]), (.lload_n 3, []), (.ldc2_w 418, [2]), (.ldiv, []), (.l2i, []), (.if_icmp .ne 9, [3]), (.lload_n 3, []), (.lconst 1, []), (.lsub, []), (.goto 4, [4])], 0),
  (91, [0, 2, 3, 5], [(.lload_n 3, [])], 4),
  (92, [0, 2, 5], [(.putfield 411, [9, 52, 2]), (.aload_n 0, []), (.aload_n 0, []), (.lload 5, []), (.lconst 1, []), (.ladd, []), (.iload_n 2, []), (.invokevirtual 422, [222, 2, 9, 1]), (.lload 5, []), (.ldc2_w 418, [2]), (.ldiv, []), (.l2i, []), (.if_icmp .ne 10, [5]), (.lload 5, []), (.lconst 1, []), (.ladd, []), (.goto 5, [6])], 0),
  (122, [0, 2, 5], [(.lload 5, [])], 6),
  (124, [0, 2], [(.putfield 415, [9, 53, 2]), (.aload_n 0, []), (.aload_n 0, []), (.getfield 415, [9, 53, 2]), (.ldc2_w 420, [1999998]), (.invokestatic 426, [912, 0]), (.putfield 415, [9, 53, 2]), (.iinc 2 (-1), []), (.goto (-125), [1])], 0),
  (147, [], [(.return_, [])], 0)]
def mt_223 : Nat × Nat × List jB := (0, 7, k_M_backs)
set_option maxRecDepth 100000 in
theorem ck_223 : jok jm_223 mt_223 = true := by decide +kernel
def k_M_laysBack : List jB := [
  (0, [0, 1, 2, 4], [(.aload_n 0, []), (.invokevirtual 304, [191, 0, 9, 0]), (.iload 4, []), (.ifCond .lt 19, [1]), (.iload 4, []), (.ldc 176, [99999]), (.if_icmp .gt 12, [1]), (.aload_n 0, []), (.iload_n 1, []), (.lload_n 2, []), (.invokevirtual 400, [216, 2, 9, 1]), (.ifCond .ne 5, [2])], 1),
  (25, [], [(.iconst 0, []), (.ireturn, [])], 0),
  (27, [0, 4], [(.aload_n 0, []), (.iload 4, []), (.invokevirtual 429, [223, 1, 9, 0]), (.aload_n 0, []), (.aload_n 0, []), (.getfield 415, [9, 53, 2]), (.ldc2_w 432, [999999]), (.invokestatic 426, [912, 0]), (.putfield 415, [9, 53, 2]), (.iconst 1, []), (.ireturn, [])], 0)]
def mt_224 : Nat × Nat × List jB := (2, 5, k_M_laysBack)
set_option maxRecDepth 100000 in
theorem ck_224 : jok jm_224 mt_224 = true := by decide +kernel
def k_M_back : List jB := [
  (0, [0, 1, 2, 4, 5], [(.aload_n 0, []), (.iconst 0, []), (.putfield 138, [9, 0, 0]), (.iload 5, []), (.ifCond .lt 20, [1]), (.iload 5, []), (.iconst 3, []), (.if_icmp .gt 14, [1]), (.aload_n 0, []), (.iload_n 1, []), (.lload_n 2, []), (.iload 4, []), (.invokevirtual 434, [224, 3, 9, 1]), (.ifCond .ne 5, [2])], 1),
  (27, [], [(.iconst (-1), []), (.ireturn, [])], 0),
  (29, [0, 5], [(.aload_n 0, []), (.getfield 411, [9, 52, 2]), (.aload_n 0, []), (.getfield 415, [9, 53, 2]), (.lcmp, []), (.ifCond .gt 7, [3]), (.iconst 1, []), (.goto 4, [4])], 0),
  (45, [0, 5], [(.iconst 0, [])], 4),
  (46, [0, 5], [(.istore 6, []), (.iload 5, []), (.tableswitch 78 0 2 #[26, 48, 63], [14, 5, 8, 11])], 0),
  (76, [0, 6], [(.iload 6, []), (.ifCond .eq 18, [6]), (.aload_n 0, []), (.getfield 415, [9, 53, 2]), (.aload_n 0, []), (.getfield 411, [9, 52, 2]), (.lsub, []), (.lconst 1, []), (.ladd, []), (.l2i, []), (.goto 4, [7])], 0),
  (96, [], [(.iconst 0, [])], 7),
  (97, [], [(.ireturn, [])], 0),
  (98, [0, 6], [(.iload 6, []), (.ifCond .eq 11, [9]), (.aload_n 0, []), (.getfield 411, [9, 52, 2]), (.l2i, []), (.goto 4, [10])], 0),
  (111, [], [(.iconst (-1), [])], 10),
  (112, [], [(.ireturn, [])], 0),
  (113, [0, 6], [(.iload 6, []), (.ifCond .eq 11, [12]), (.aload_n 0, []), (.getfield 415, [9, 53, 2]), (.l2i, []), (.goto 4, [13])], 0),
  (126, [], [(.iconst (-1), [])], 13),
  (127, [], [(.ireturn, [])], 0),
  (128, [6], [(.iload 6, []), (.ifCond .eq 7, [15]), (.iconst 1, []), (.goto 4, [16])], 0),
  (137, [], [(.iconst 0, [])], 16),
  (138, [], [(.ireturn, [])], 0)]
def mt_225 : Nat × Nat × List jB := (1, 7, k_M_back)
set_option maxRecDepth 100000 in
theorem ck_225 : jok jm_225 mt_225 = true := by decide +kernel
def k_M_span : List jB := [
  (0, [0, 1, 2, 4, 5, 6], [(.aload_n 0, []), (.iconst 0, []), (.putfield 138, [9, 0, 0]), (.iload 6, []), (.ifCond .lt 37, [1]), (.iload 6, []), (.iconst 1, []), (.if_icmp .gt 31, [1]), (.iload 5, []), (.ifCond .ne 26, [1]), (.aload_n 0, []), (.iload_n 1, []), (.lload_n 2, []), (.iload 4, []), (.invokevirtual 434, [224, 3, 9, 1]), (.ifCond .eq 15, [1]), (.aload_n 0, []), (.getfield 411, [9, 52, 2]), (.aload_n 0, []), (.getfield 415, [9, 53, 2]), (.lcmp, []), (.ifCond .le 5, [2])], 1),
  (44, [], [(.iconst (-1), []), (.ireturn, [])], 0),
  (46, [0, 6], [(.iload 6, []), (.ifCond .ne 10, [3]), (.aload_n 0, []), (.getfield 411, [9, 52, 2]), (.goto 7, [4])], 0),
  (58, [0], [(.aload_n 0, []), (.getfield 415, [9, 53, 2])], 4),
  (62, [], [(.l2i, []), (.ireturn, [])], 0)]
def mt_226 : Nat × Nat × List jB := (1, 7, k_M_span)
set_option maxRecDepth 100000 in
theorem ck_226 : jok jm_226 mt_226 = true := by decide +kernel
def k_M_turns : List jB := [
  (0, [0, 1, 2], [(.iload_n 1, []), (.aload_n 0, []), (.getfield 396, [9, 50, 0]), (.iconst 1, []), (.isub, []), (.if_icmp .ne 8, [1]), (.aload_n 0, []), (.invokevirtual 437, [228, 0, 9, 0]), (.return_, [])], 0),
  (15, [0, 1, 2], [(.iconst (-1), []), (.istore_n 3, []), (.iconst 1, []), (.istore 4, [])], 2),
  (20, [0, 1, 2, 3, 4], [(.iload 4, []), (.aload_n 0, []), (.getfield 396, [9, 50, 0]), (.iconst 1, []), (.isub, []), (.if_icmp .ge 114, [8]), (.iconst (-1), []), (.istore 5, []), (.iconst 1, []), (.istore 6, [])], 3),
  (37, [0, 1, 2, 3, 4, 5, 6], [(.iload 6, []), (.aload_n 0, []), (.getfield 396, [9, 50, 0]), (.iconst 1, []), (.isub, []), (.if_icmp .ge 56, [6]), (.iload_n 2, []), (.iload 6, []), (.ishr, []), (.iconst 1, []), (.iand, []), (.ifCond .ne 41, [5]), (.aload_n 0, []), (.getfield 104, [9, 54, 4]), (.iload 6, []), (.iaload, []), (.iload_n 3, []), (.if_icmp .le 30, [5]), (.iload 5, []), (.iconst (-1), []), (.if_icmp .eq 20, [4]), (.aload_n 0, []), (.getfield 104, [9, 54, 4]), (.iload 6, []), (.iaload, []), (.aload_n 0, []), (.getfield 104, [9, 54, 4]), (.iload 5, []), (.iaload, []), (.if_icmp .ge 7, [5])], 4),
  (91, [0, 1, 2, 3, 4, 6], [(.iload 6, []), (.istore 5, [])], 5),
  (95, [0, 1, 2, 3, 4, 5, 6], [(.iinc 6 1, []), (.goto (-61), [3])], 0),
  (101, [0, 1, 2, 4, 5], [(.iload 5, []), (.iconst (-1), []), (.if_icmp .ne 4, [7]), (.return_, [])], 0),
  (108, [0, 1, 2, 4, 5], [(.aload_n 0, []), (.getfield 104, [9, 54, 4]), (.iload 5, []), (.iaload, []), (.istore_n 3, []), (.aload_n 0, []), (.getfield 98, [9, 49, 4]), (.iload_n 1, []), (.iload_n 3, []), (.iastore, []), (.aload_n 0, []), (.iload_n 1, []), (.iconst 1, []), (.iadd, []), (.iload_n 2, []), (.iconst 1, []), (.iload 5, []), (.ishl, []), (.ior, []), (.invokevirtual 440, [227, 2, 9, 0]), (.iinc 4 1, []), (.goto (-119), [2])], 0),
  (142, [], [(.return_, [])], 0)]
def mt_227 : Nat × Nat × List jB := (0, 7, k_M_turns)
set_option maxRecDepth 100000 in
theorem ck_227 : jok jm_227 mt_227 = true := by decide +kernel
def k_M_sees : List jB := [
  (0, [0], [(.aload_n 0, []), (.aload_n 0, []), (.getfield 443, [9, 56, 0]), (.invokevirtual 408, [218, 1, 9, 1]), (.istore_n 1, []), (.iconst 0, []), (.istore_n 2, []), (.iload_n 1, []), (.istore_n 3, []), (.aload_n 0, []), (.getfield 446, [9, 55, 0]), (.iconst 1, []), (.if_icmp .ne 29, [3])], 1),
  (21, [0, 1, 2], [(.aload_n 0, []), (.getfield 98, [9, 49, 4]), (.iload_n 2, []), (.iaload, []), (.aload_n 0, []), (.getfield 449, [9, 58, 0]), (.if_icmp .eq 9, [2]), (.iinc 2 1, []), (.goto (-16), [1])], 0),
  (40, [0, 1, 2], [(.aload_n 0, []), (.getfield 101, [9, 51, 4]), (.iload_n 2, []), (.iaload, []), (.istore_n 3, [])], 3),
  (47, [0, 1, 2, 3], [(.aload_n 0, []), (.getfield 452, [9, 59, 0]), (.iconst (-1), []), (.if_icmp .eq 11, [4]), (.iload_n 3, []), (.aload_n 0, []), (.getfield 452, [9, 59, 0]), (.if_icmp .le 21, [5])], 4),
  (63, [0, 1, 2, 3], [(.aload_n 0, []), (.iload_n 3, []), (.putfield 452, [9, 59, 0]), (.aload_n 0, []), (.iload_n 2, []), (.putfield 455, [9, 61, 0]), (.aload_n 0, []), (.aload_n 0, []), (.invokevirtual 458, [219, 0, 9, 2]), (.putfield 462, [9, 63, 2])], 5),
  (81, [0, 1, 2, 3], [(.aload_n 0, []), (.getfield 465, [9, 60, 0]), (.iconst (-1), []), (.if_icmp .eq 11, [6]), (.iload_n 3, []), (.aload_n 0, []), (.getfield 465, [9, 60, 0]), (.if_icmp .ge 21, [7])], 6),
  (97, [0, 1, 2, 3], [(.aload_n 0, []), (.iload_n 3, []), (.putfield 465, [9, 60, 0]), (.aload_n 0, []), (.iload_n 2, []), (.putfield 468, [9, 62, 0]), (.aload_n 0, []), (.aload_n 0, []), (.invokevirtual 458, [219, 0, 9, 2]), (.putfield 471, [9, 64, 2])], 7),
  (115, [0, 1], [(.iload_n 1, []), (.aload_n 0, []), (.getfield 474, [9, 57, 0]), (.if_icmp .eq 4, [8]), (.return_, [])], 0),
  (124, [0], [(.aload_n 0, []), (.getfield 477, [9, 65, 0]), (.ifCond .ne 11, [9]), (.aload_n 0, []), (.aload_n 0, []), (.invokevirtual 458, [219, 0, 9, 2]), (.putfield 480, [9, 66, 2])], 9),
  (139, [0], [(.aload_n 0, []), (.dup, []), (.getfield 477, [9, 65, 0]), (.iconst 1, []), (.iadd, []), (.putfield 477, [9, 65, 0]), (.aload_n 0, []), (.invokevirtual 483, [229, 0, 9, 1]), (.istore 4, []), (.aload_n 0, []), (.getfield 486, [9, 67, 0]), (.iconst (-1), []), (.if_icmp .eq 13, [10]), (.iload 4, []), (.aload_n 0, []), (.getfield 486, [9, 67, 0]), (.if_icmp .lt 4, [10]), (.return_, [])], 0),
  (173, [0, 4], [(.aload_n 0, []), (.iload 4, []), (.putfield 486, [9, 67, 0]), (.aload_n 0, []), (.aload_n 0, []), (.invokevirtual 458, [219, 0, 9, 2]), (.putfield 489, [9, 68, 2]), (.return_, [])], 0)]
def mt_228 : Nat × Nat × List jB := (0, 5, k_M_sees)
set_option maxRecDepth 100000 in
theorem ck_228 : jok jm_228 mt_228 = true := by decide +kernel
def k_M_changesTo : List jB := [
  (0, [0], [(.iconst 0, []), (.istore_n 1, []), (.iconst 1, []), (.istore_n 2, [])], 1),
  (4, [0, 1, 2], [(.iload_n 2, []), (.aload_n 0, []), (.getfield 396, [9, 50, 0]), (.iconst 1, []), (.isub, []), (.if_icmp .ge 60, [6]), (.iload_n 2, []), (.iconst 1, []), (.iadd, []), (.istore_n 3, [])], 2),
  (18, [0, 1, 2, 3], [(.iload_n 3, []), (.aload_n 0, []), (.getfield 396, [9, 50, 0]), (.iconst 1, []), (.isub, []), (.if_icmp .ge 40, [5]), (.iload_n 1, []), (.aload_n 0, []), (.aload_n 0, []), (.getfield 104, [9, 54, 4]), (.iload_n 2, []), (.iaload, []), (.invokevirtual 492, [230, 1, 9, 1]), (.aload_n 0, []), (.aload_n 0, []), (.getfield 104, [9, 54, 4]), (.iload_n 3, []), (.iaload, []), (.invokevirtual 492, [230, 1, 9, 1]), (.if_icmp .le 7, [3]), (.iconst 1, []), (.goto 4, [4])], 0),
  (56, [0, 2, 3], [(.iconst 0, [])], 4),
  (57, [0, 2, 3], [(.iadd, []), (.istore_n 1, []), (.iinc 3 1, []), (.goto (-44), [2])], 0),
  (65, [0, 1, 2], [(.iinc 2 1, []), (.goto (-64), [1])], 0),
  (71, [1], [(.iload_n 1, []), (.ireturn, [])], 0)]
def mt_229 : Nat × Nat × List jB := (1, 4, k_M_changesTo)
set_option maxRecDepth 100000 in
theorem ck_229 : jok jm_229 mt_229 = true := by decide +kernel
def k_M_placeOf : List jB := [
  (0, [0, 1], [(.iconst 0, []), (.istore_n 2, [])], 1),
  (2, [0, 1, 2], [(.aload_n 0, []), (.getfield 98, [9, 49, 4]), (.iload_n 2, []), (.iaload, []), (.iload_n 1, []), (.if_icmp .eq 9, [2]), (.iinc 2 1, []), (.goto (-13), [1])], 0),
  (18, [2], [(.iload_n 2, []), (.ireturn, [])], 0)]
def mt_230 : Nat × Nat × List jB := (1, 3, k_M_placeOf)
set_option maxRecDepth 100000 in
theorem ck_230 : jok jm_230 mt_230 = true := by decide +kernel
def k_M_goesThrough : List jB := [
  (0, [0, 1, 2, 3, 4], [(.iconst 0, []), (.istore 5, [])], 1),
  (3, [0, 1, 2, 3, 4, 5], [(.iload 5, []), (.aload_n 0, []), (.getfield 396, [9, 50, 0]), (.if_icmp .ge 23, [2]), (.aload_n 0, []), (.getfield 104, [9, 54, 4]), (.iload 5, []), (.aload_n 0, []), (.getfield 98, [9, 49, 4]), (.iload 5, []), (.iaload, []), (.iastore, []), (.iinc 5 1, []), (.goto (-26), [1])], 0),
  (32, [0, 1, 2, 3, 4], [(.aload_n 0, []), (.iload_n 3, []), (.putfield 446, [9, 55, 0]), (.aload_n 0, []), (.iload_n 1, []), (.putfield 443, [9, 56, 0]), (.aload_n 0, []), (.iload_n 2, []), (.putfield 474, [9, 57, 0]), (.aload_n 0, []), (.iload 4, []), (.putfield 449, [9, 58, 0]), (.aload_n 0, []), (.iconst (-1), []), (.putfield 452, [9, 59, 0]), (.aload_n 0, []), (.iconst (-1), []), (.putfield 465, [9, 60, 0]), (.aload_n 0, []), (.iconst 0, []), (.putfield 477, [9, 65, 0]), (.aload_n 0, []), (.iconst (-1), []), (.putfield 486, [9, 67, 0]), (.aload_n 0, []), (.iconst 1, []), (.iconst 0, []), (.invokevirtual 440, [227, 2, 9, 0]), (.iconst 0, []), (.istore 5, [])], 3),
  (82, [0, 5], [(.iload 5, []), (.aload_n 0, []), (.getfield 396, [9, 50, 0]), (.if_icmp .ge 23, [4]), (.aload_n 0, []), (.getfield 98, [9, 49, 4]), (.iload 5, []), (.aload_n 0, []), (.getfield 104, [9, 54, 4]), (.iload 5, []), (.iaload, []), (.iastore, []), (.iinc 5 1, []), (.goto (-26), [3])], 0),
  (111, [], [(.return_, [])], 0)]
def mt_231 : Nat × Nat × List jB := (0, 6, k_M_goesThrough)
set_option maxRecDepth 100000 in
theorem ck_231 : jok jm_231 mt_231 = true := by decide +kernel
def k_M_best : List jB := [
  (0, [0, 1, 2, 4, 5], [(.aload_n 0, []), (.iconst 0, []), (.putfield 138, [9, 0, 0]), (.aload_n 0, []), (.invokevirtual 304, [191, 0, 9, 0]), (.iload 5, []), (.ifCond .lt 20, [1]), (.iload 5, []), (.iconst 1, []), (.if_icmp .gt 14, [1]), (.aload_n 0, []), (.iload_n 1, []), (.lload_n 2, []), (.iload 4, []), (.invokevirtual 404, [217, 3, 9, 1]), (.ifCond .ne 5, [2])], 1),
  (31, [], [(.iconst (-1), []), (.ireturn, [])], 0),
  (33, [0, 4, 5], [(.aload_n 0, []), (.iload 4, []), (.iconst (-1), []), (.iconst 0, []), (.iconst (-1), []), (.invokevirtual 495, [231, 4, 9, 0]), (.iload 5, []), (.ifCond .ne 10, [3]), (.aload_n 0, []), (.getfield 452, [9, 59, 0]), (.goto 7, [4])], 0),
  (54, [0], [(.aload_n 0, []), (.getfield 465, [9, 60, 0])], 4),
  (58, [], [(.ireturn, [])], 0)]
def mt_232 : Nat × Nat × List jB := (1, 6, k_M_best)
set_option maxRecDepth 100000 in
theorem ck_232 : jok jm_232 mt_232 = true := by decide +kernel
def k_M_order : List jB := [
  (0, [0, 1, 2, 4, 5], [(.aload_n 0, []), (.iconst 0, []), (.putfield 138, [9, 0, 0]), (.aload_n 0, []), (.invokevirtual 304, [191, 0, 9, 0]), (.iload 5, []), (.ifCond .lt 20, [1]), (.iload 5, []), (.iconst 1, []), (.if_icmp .gt 14, [1]), (.aload_n 0, []), (.iload_n 1, []), (.lload_n 2, []), (.iload 4, []), (.invokevirtual 404, [217, 3, 9, 1]), (.ifCond .ne 7, [2])], 1),
  (31, [], [(.ldc2_w 498, [18446744073709551615]), (.lreturn, [])], 0),
  (35, [0, 4, 5], [(.aload_n 0, []), (.iload 4, []), (.iconst (-1), []), (.iconst 0, []), (.iconst (-1), []), (.invokevirtual 495, [231, 4, 9, 0]), (.iload 5, []), (.ifCond .ne 10, [3]), (.aload_n 0, []), (.getfield 462, [9, 63, 2]), (.goto 7, [4])], 0),
  (56, [0], [(.aload_n 0, []), (.getfield 471, [9, 64, 2])], 4),
  (60, [], [(.lreturn, [])], 0)]
def mt_233 : Nat × Nat × List jB := (3, 6, k_M_order)
set_option maxRecDepth 100000 in
theorem ck_233 : jok jm_233 mt_233 = true := by decide +kernel
def k_M_isAimed : List jB := [
  (0, [0, 1, 2, 4, 5], [(.aload_n 0, []), (.invokevirtual 304, [191, 0, 9, 0]), (.iload 5, []), (.ifCond .lt 22, [1]), (.iload 5, []), (.ldc_w 399, [999999]), (.if_icmp .gt 14, [1]), (.aload_n 0, []), (.iload_n 1, []), (.lload_n 2, []), (.iload 4, []), (.invokevirtual 404, [217, 3, 9, 1]), (.ifCond .ne 5, [2])], 1),
  (28, [], [(.iconst 0, []), (.ireturn, [])], 0),
  (30, [0, 4, 5], [(.aload_n 0, []), (.iload 4, []), (.iload 5, []), (.iconst 0, []), (.iconst (-1), []), (.invokevirtual 495, [231, 4, 9, 0]), (.iconst 1, []), (.ireturn, [])], 0)]
def mt_234 : Nat × Nat × List jB := (2, 6, k_M_isAimed)
set_option maxRecDepth 100000 in
theorem ck_234 : jok jm_234 mt_234 = true := by decide +kernel
def k_M_just : List jB := [
  (0, [0, 1, 2, 4, 5], [(.aload_n 0, []), (.iconst 0, []), (.putfield 138, [9, 0, 0]), (.aload_n 0, []), (.iload_n 1, []), (.lload_n 2, []), (.iload 4, []), (.iload 5, []), (.invokevirtual 500, [234, 4, 9, 1]), (.ifCond .eq 10, [1]), (.aload_n 0, []), (.getfield 477, [9, 65, 0]), (.goto 4, [2])], 0),
  (25, [], [(.iconst (-1), [])], 2),
  (26, [], [(.ireturn, [])], 0)]
def mt_235 : Nat × Nat × List jB := (1, 6, k_M_just)
set_option maxRecDepth 100000 in
theorem ck_235 : jok jm_235 mt_235 = true := by decide +kernel
def k_M_first : List jB := [
  (0, [0, 1, 2, 4, 5], [(.aload_n 0, []), (.iconst 0, []), (.putfield 138, [9, 0, 0]), (.aload_n 0, []), (.iload_n 1, []), (.lload_n 2, []), (.iload 4, []), (.iload 5, []), (.invokevirtual 500, [234, 4, 9, 1]), (.ifCond .ne 9, [1]), (.ldc2_w 498, [18446744073709551615]), (.goto 20, [3])], 0),
  (24, [0], [(.aload_n 0, []), (.getfield 477, [9, 65, 0]), (.ifCond .ne 9, [2]), (.ldc2_w 504, [18446744073709551614]), (.goto 7, [3])], 0),
  (37, [0], [(.aload_n 0, []), (.getfield 480, [9, 66, 2])], 3),
  (41, [], [(.lreturn, [])], 0)]
def mt_236 : Nat × Nat × List jB := (3, 6, k_M_first)
set_option maxRecDepth 100000 in
theorem ck_236 : jok jm_236 mt_236 = true := by decide +kernel
def k_M_bound : List jB := [
  (0, [0, 1, 2, 3], [(.aload_n 0, []), (.iconst 0, []), (.putfield 138, [9, 0, 0]), (.iload_n 1, []), (.ifCond .lt 29, [1]), (.iload_n 1, []), (.bipush 8, []), (.if_icmp .gt 23, [1]), (.iload_n 2, []), (.ifCond .lt 19, [1]), (.iload_n 2, []), (.ldc_w 399, [999999]), (.if_icmp .gt 12, [1]), (.iload_n 3, []), (.ifCond .lt 8, [1]), (.iload_n 3, []), (.iconst 1, []), (.if_icmp .le 5, [2])], 1),
  (35, [], [(.iconst (-1), []), (.ireturn, [])], 0),
  (37, [1, 2, 3], [(.iload_n 2, []), (.istore 4, []), (.iconst 0, []), (.istore 5, [])], 3),
  (43, [1, 3, 4, 5], [(.iload 5, []), (.iload_n 1, []), (.if_icmp .ge 28, [6]), (.iload_n 3, []), (.ifCond .ne 12, [4]), (.iload 4, []), (.iconst 1, []), (.iadd, []), (.iconst 2, []), (.idiv, []), (.goto 7, [5])], 0),
  (62, [1, 3, 4, 5], [(.iload 4, []), (.iconst 2, []), (.idiv, [])], 5),
  (66, [1, 3, 5], [(.istore 4, []), (.iinc 5 1, []), (.goto (-28), [3])], 0),
  (74, [4], [(.iload 4, []), (.ireturn, [])], 0)]
def mt_237 : Nat × Nat × List jB := (1, 6, k_M_bound)
set_option maxRecDepth 100000 in
theorem ck_237 : jok jm_237 mt_237 = true := by decide +kernel
def k_M_gains : List jB := [
  (0, [0, 1, 2, 4, 5, 6], [(.aload_n 0, []), (.iconst 0, []), (.putfield 138, [9, 0, 0]), (.aload_n 0, []), (.invokevirtual 304, [191, 0, 9, 0]), (.iload 6, []), (.ifCond .lt 20, [1]), (.iload 6, []), (.iconst 3, []), (.if_icmp .gt 14, [1]), (.aload_n 0, []), (.iload_n 1, []), (.lload_n 2, []), (.iload 4, []), (.invokevirtual 404, [217, 3, 9, 1]), (.ifCond .ne 5, [2])], 1),
  (31, [], [(.iconst (-1), []), (.ireturn, [])], 0),
  (33, [0, 1, 4, 5, 6], [(.iconst 0, []), (.istore 7, []), (.iconst 1, []), (.istore 8, [])], 3),
  (39, [0, 1, 4, 5, 6, 7, 8], [(.iload 8, []), (.iload_n 1, []), (.iconst 1, []), (.isub, []), (.if_icmp .ge 31, [6]), (.iload 7, []), (.aload_n 0, []), (.getfield 98, [9, 49, 4]), (.iload 8, []), (.iaload, []), (.iload 5, []), (.if_icmp .ne 7, [4]), (.iconst 1, []), (.goto 4, [5])], 0),
  (65, [0, 1, 4, 5, 6, 8], [(.iconst 0, [])], 5),
  (66, [0, 1, 4, 5, 6, 8], [(.ior, []), (.istore 7, []), (.iinc 8 1, []), (.goto (-33), [3])], 0),
  (75, [0, 4, 5, 6, 7], [(.iload 7, []), (.ifCond .ne 5, [7]), (.iconst (-1), []), (.ireturn, [])], 0),
  (82, [0, 4, 5, 6], [(.aload_n 0, []), (.iload 4, []), (.iconst (-1), []), (.iconst 1, []), (.iload 5, []), (.invokevirtual 495, [231, 4, 9, 0]), (.iload 6, []), (.ifCond .ne 10, [8]), (.aload_n 0, []), (.getfield 452, [9, 59, 0]), (.goto 33, [11])], 0),
  (104, [0, 6], [(.iload 6, []), (.iconst 1, []), (.if_icmp .ne 10, [9]), (.aload_n 0, []), (.getfield 455, [9, 61, 0]), (.goto 20, [11])], 0),
  (117, [0, 6], [(.iload 6, []), (.iconst 2, []), (.if_icmp .ne 10, [10]), (.aload_n 0, []), (.getfield 465, [9, 60, 0]), (.goto 7, [11])], 0),
  (130, [0], [(.aload_n 0, []), (.getfield 468, [9, 62, 0])], 11),
  (134, [], [(.ireturn, [])], 0)]
def mt_238 : Nat × Nat × List jB := (1, 9, k_M_gains)
set_option maxRecDepth 100000 in
theorem ck_238 : jok jm_238 mt_238 = true := by decide +kernel
def k_M_changes : List jB := [
  (0, [0, 1, 2, 4, 5], [(.aload_n 0, []), (.iconst 0, []), (.putfield 138, [9, 0, 0]), (.aload_n 0, []), (.iload_n 1, []), (.lload_n 2, []), (.iload 4, []), (.iload 5, []), (.invokevirtual 500, [234, 4, 9, 1]), (.ifCond .ne 7, [1]), (.iconst (-1), []), (.goto 20, [3])], 0),
  (22, [0], [(.aload_n 0, []), (.getfield 486, [9, 67, 0]), (.iconst (-1), []), (.if_icmp .ne 8, [2]), (.bipush (-2), []), (.goto 7, [3])], 0),
  (35, [0], [(.aload_n 0, []), (.getfield 486, [9, 67, 0])], 3),
  (39, [], [(.ireturn, [])], 0)]
def mt_239 : Nat × Nat × List jB := (1, 6, k_M_changes)
set_option maxRecDepth 100000 in
theorem ck_239 : jok jm_239 mt_239 = true := by decide +kernel
def k_M_changed : List jB := [
  (0, [0, 1, 2, 4, 5], [(.aload_n 0, []), (.iconst 0, []), (.putfield 138, [9, 0, 0]), (.aload_n 0, []), (.iload_n 1, []), (.lload_n 2, []), (.iload 4, []), (.iload 5, []), (.invokevirtual 500, [234, 4, 9, 1]), (.ifCond .ne 9, [1]), (.ldc2_w 498, [18446744073709551615]), (.goto 21, [3])], 0),
  (24, [0], [(.aload_n 0, []), (.getfield 486, [9, 67, 0]), (.iconst (-1), []), (.if_icmp .ne 9, [2]), (.ldc2_w 504, [18446744073709551614]), (.goto 7, [3])], 0),
  (38, [0], [(.aload_n 0, []), (.getfield 489, [9, 68, 2])], 3),
  (42, [], [(.lreturn, [])], 0)]
def mt_240 : Nat × Nat × List jB := (3, 6, k_M_changed)
set_option maxRecDepth 100000 in
theorem ck_240 : jok jm_240 mt_240 = true := by decide +kernel
def k_M_worth : List jB := [
  (0, [0, 1, 2, 4, 5], [(.aload_n 0, []), (.iconst 0, []), (.putfield 138, [9, 0, 0]), (.aload_n 0, []), (.invokevirtual 304, [191, 0, 9, 0]), (.aload_n 0, []), (.iload_n 1, []), (.lload_n 2, []), (.iload 4, []), (.invokevirtual 404, [217, 3, 9, 1]), (.ifCond .eq 17, [1]), (.iload 5, []), (.iconst 1, []), (.if_icmp .lt 11, [1]), (.iload 5, []), (.iload_n 1, []), (.iconst 3, []), (.isub, []), (.if_icmp .le 7, [2])], 1),
  (34, [], [(.ldc_w 506, [2147483648]), (.ireturn, [])], 0),
  (38, [0, 4, 5], [(.aload_n 0, []), (.iload 4, []), (.invokevirtual 408, [218, 1, 9, 1]), (.istore 6, []), (.aload_n 0, []), (.getfield 98, [9, 49, 4]), (.iload 5, []), (.iaload, []), (.istore 7, []), (.aload_n 0, []), (.getfield 98, [9, 49, 4]), (.iload 5, []), (.aload_n 0, []), (.getfield 98, [9, 49, 4]), (.iload 5, []), (.iconst 1, []), (.iadd, []), (.iaload, []), (.iastore, []), (.aload_n 0, []), (.getfield 98, [9, 49, 4]), (.iload 5, []), (.iconst 1, []), (.iadd, []), (.iload 7, []), (.iastore, []), (.aload_n 0, []), (.iload 4, []), (.invokevirtual 408, [218, 1, 9, 1]), (.iload 6, []), (.isub, []), (.ireturn, [])], 0)]
def mt_241 : Nat × Nat × List jB := (1, 8, k_M_worth)
set_option maxRecDepth 100000 in
theorem ck_241 : jok jm_241 mt_241 = true := by decide +kernel
def k_M_serves : List jB := [
  (0, [0, 1, 2, 4], [(.aload_n 0, []), (.iconst 0, []), (.putfield 138, [9, 0, 0]), (.aload_n 0, []), (.invokevirtual 304, [191, 0, 9, 0]), (.iload 4, []), (.iconst 1, []), (.if_icmp .lt 19, [1]), (.iload 4, []), (.bipush 50, []), (.if_icmp .gt 12, [1]), (.aload_n 0, []), (.iload_n 1, []), (.lload_n 2, []), (.invokevirtual 400, [216, 2, 9, 1]), (.ifCond .ne 5, [2])], 1),
  (31, [], [(.iconst (-1), []), (.ireturn, [])], 0),
  (33, [0, 4], [(.iconst 1, []), (.istore 5, [])], 3),
  (36, [0, 4, 5], [(.iload 5, []), (.iload 4, []), (.if_icmp .gt 34, [5]), (.aload_n 0, []), (.iload 5, []), (.iconst (-1), []), (.iconst 0, []), (.iconst (-1), []), (.invokevirtual 495, [231, 4, 9, 0]), (.aload_n 0, []), (.getfield 452, [9, 59, 0]), (.aload_n 0, []), (.iload 5, []), (.invokevirtual 408, [218, 1, 9, 1]), (.if_icmp .le 6, [4]), (.iload 5, []), (.ireturn, [])], 0),
  (68, [0, 4, 5], [(.iinc 5 1, []), (.goto (-35), [3])], 0),
  (74, [], [(.iconst 0, []), (.ireturn, [])], 0)]
def mt_242 : Nat × Nat × List jB := (1, 6, k_M_serves)
set_option maxRecDepth 100000 in
theorem ck_242 : jok jm_242 mt_242 = true := by decide +kernel
def k_M_note : List jB := [
  (0, [0, 1, 2, 4, 5, 6], [(.aload_n 0, []), (.iconst 0, []), (.putfield 138, [9, 0, 0]), (.aload_n 0, []), (.iload_n 1, []), (.lload_n 2, []), (.iload 4, []), (.invokevirtual 404, [217, 3, 9, 1]), (.ifCond .eq 32, [1]), (.iload 5, []), (.ifCond .lt 27, [1]), (.iload 6, []), (.iload 5, []), (.if_icmp .lt 20, [1]), (.iload 6, []), (.ldc_w 399, [999999]), (.if_icmp .gt 12, [1]), (.aload_n 0, []), (.getfield 295, [9, 69, 0]), (.bipush 40, []), (.if_icmp .ne 5, [2])], 1),
  (45, [], [(.iconst (-1), []), (.ireturn, [])], 0),
  (47, [0, 1, 2, 4, 5, 6], [(.aload_n 0, []), (.getfield 110, [9, 71, 4]), (.aload_n 0, []), (.getfield 295, [9, 69, 0]), (.iload_n 1, []), (.iastore, []), (.aload_n 0, []), (.getfield 113, [9, 72, 4]), (.aload_n 0, []), (.getfield 295, [9, 69, 0]), (.lload_n 2, []), (.lastore, []), (.aload_n 0, []), (.getfield 116, [9, 73, 4]), (.aload_n 0, []), (.getfield 295, [9, 69, 0]), (.iload 4, []), (.iastore, []), (.aload_n 0, []), (.getfield 119, [9, 74, 4]), (.aload_n 0, []), (.getfield 295, [9, 69, 0]), (.iload 5, []), (.iastore, []), (.aload_n 0, []), (.getfield 122, [9, 75, 4]), (.aload_n 0, []), (.getfield 295, [9, 69, 0]), (.iload 6, []), (.iastore, []), (.aload_n 0, []), (.dup, []), (.getfield 295, [9, 69, 0]), (.iconst 1, []), (.iadd, []), (.putfield 295, [9, 69, 0]), (.aload_n 0, []), (.getfield 295, [9, 69, 0]), (.iconst 1, []), (.isub, []), (.ireturn, [])], 0)]
def mt_243 : Nat × Nat × List jB := (1, 7, k_M_note)
set_option maxRecDepth 100000 in
theorem ck_243 : jok jm_243 mt_243 = true := by decide +kernel
def k_M_strike : List jB := [
  (0, [0, 1], [(.aload_n 0, []), (.iconst 0, []), (.putfield 138, [9, 0, 0]), (.iload_n 1, []), (.ifCond .lt 20, [1]), (.iload_n 1, []), (.aload_n 0, []), (.getfield 295, [9, 69, 0]), (.if_icmp .ge 12, [1]), (.aload_n 0, []), (.getfield 295, [9, 69, 0]), (.bipush 40, []), (.if_icmp .ne 5, [2])], 1),
  (26, [], [(.iconst (-1), []), (.ireturn, [])], 0),
  (28, [0, 1], [(.aload_n 0, []), (.getfield 110, [9, 71, 4]), (.aload_n 0, []), (.getfield 295, [9, 69, 0]), (.iconst (-1), []), (.iastore, []), (.aload_n 0, []), (.getfield 116, [9, 73, 4]), (.aload_n 0, []), (.getfield 295, [9, 69, 0]), (.iload_n 1, []), (.iastore, []), (.aload_n 0, []), (.dup, []), (.getfield 295, [9, 69, 0]), (.iconst 1, []), (.iadd, []), (.putfield 295, [9, 69, 0]), (.aload_n 0, []), (.getfield 295, [9, 69, 0]), (.iconst 1, []), (.isub, []), (.ireturn, [])], 0)]
def mt_244 : Nat × Nat × List jB := (1, 2, k_M_strike)
set_option maxRecDepth 100000 in
theorem ck_244 : jok jm_244 mt_244 = true := by decide +kernel
def k_M_known : List jB := [
  (0, [0, 1], [(.aload_n 0, []), (.iconst 0, []), (.putfield 138, [9, 0, 0]), (.iload_n 1, []), (.iconst (-1), []), (.if_icmp .lt 11, [1]), (.iload_n 1, []), (.aload_n 0, []), (.getfield 295, [9, 69, 0]), (.if_icmp .le 5, [2])], 1),
  (18, [], [(.iconst 0, []), (.ireturn, [])], 0),
  (20, [0, 1], [(.aload_n 0, []), (.iload_n 1, []), (.putfield 107, [9, 70, 0]), (.iconst 1, []), (.ireturn, [])], 0)]
def mt_245 : Nat × Nat × List jB := (2, 2, k_M_known)
set_option maxRecDepth 100000 in
theorem ck_245 : jok jm_245 mt_245 = true := by decide +kernel
def k_M_knownMany : List jB := [
  (0, [0], [(.aload_n 0, []), (.getfield 107, [9, 70, 0]), (.iconst (-1), []), (.if_icmp .ne 10, [1]), (.aload_n 0, []), (.getfield 295, [9, 69, 0]), (.goto 7, [2])], 0),
  (15, [0], [(.aload_n 0, []), (.getfield 107, [9, 70, 0])], 2),
  (19, [], [(.ireturn, [])], 0)]
def mt_246 : Nat × Nat × List jB := (1, 1, k_M_knownMany)
set_option maxRecDepth 100000 in
theorem ck_246 : jok jm_246 mt_246 = true := by decide +kernel
def k_M_goesAsNoted : List jB := [
  (0, [0], [(.iconst 0, []), (.istore_n 1, [])], 1),
  (2, [0, 1], [(.iload_n 1, []), (.aload_n 0, []), (.invokevirtual 507, [246, 0, 9, 1]), (.if_icmp .ge 81, [5]), (.aload_n 0, []), (.getfield 110, [9, 71, 4]), (.iload_n 1, []), (.iaload, []), (.iconst (-1), []), (.if_icmp .eq 65, [4]), (.aload_n 0, []), (.getfield 125, [9, 76, 4]), (.iload_n 1, []), (.baload, []), (.ifCond .eq 6, [2]), (.goto 53, [4])], 0),
  (32, [0, 1], [(.aload_n 0, []), (.aload_n 0, []), (.getfield 110, [9, 71, 4]), (.iload_n 1, []), (.iaload, []), (.aload_n 0, []), (.getfield 113, [9, 72, 4]), (.iload_n 1, []), (.laload, []), (.invokevirtual 400, [216, 2, 9, 1]), (.pop, []), (.aload_n 0, []), (.aload_n 0, []), (.getfield 116, [9, 73, 4]), (.iload_n 1, []), (.iaload, []), (.invokevirtual 408, [218, 1, 9, 1]), (.istore_n 2, []), (.iload_n 2, []), (.aload_n 0, []), (.getfield 119, [9, 74, 4]), (.iload_n 1, []), (.iaload, []), (.if_icmp .lt 13, [3]), (.iload_n 2, []), (.aload_n 0, []), (.getfield 122, [9, 75, 4]), (.iload_n 1, []), (.iaload, []), (.if_icmp .le 5, [4])], 3),
  (80, [], [(.iconst 0, []), (.ireturn, [])], 0),
  (82, [0, 1], [(.iinc 1 1, []), (.goto (-83), [1])], 0),
  (88, [], [(.iconst 1, []), (.ireturn, [])], 0)]
def mt_247 : Nat × Nat × List jB := (2, 3, k_M_goesAsNoted)
set_option maxRecDepth 100000 in
theorem ck_247 : jok jm_247 mt_247 = true := by decide +kernel
def k_M_lawOf : List jB := [
  (0, [0, 1], [(.iload_n 1, []), (.aload_n 0, []), (.getfield 15, [9, 3, 4]), (.iconst 2, []), (.iaload, []), (.if_icmp .ge 9, [1]), (.iconst 1, []), (.iload_n 1, []), (.iadd, []), (.goto 4, [2])], 0),
  (16, [], [(.iconst 0, [])], 2),
  (17, [], [(.ireturn, [])], 0)]
def mt_248 : Nat × Nat × List jB := (1, 2, k_M_lawOf)
set_option maxRecDepth 100000 in
theorem ck_248 : jok jm_248 mt_248 = true := by decide +kernel
def k_M_fits : List jB := [
  (0, [0], [(.aload_n 0, []), (.iconst 0, []), (.putfield 138, [9, 0, 0]), (.aload_n 0, []), (.invokevirtual 304, [191, 0, 9, 0]), (.iconst 0, []), (.istore_n 1, [])], 1),
  (11, [0, 1], [(.iload_n 1, []), (.aload_n 0, []), (.invokevirtual 507, [246, 0, 9, 1]), (.if_icmp .ge 16, [2]), (.aload_n 0, []), (.getfield 125, [9, 76, 4]), (.iload_n 1, []), (.iconst 0, []), (.bastore, []), (.iinc 1 1, []), (.goto (-18), [1])], 0),
  (32, [0], [(.aload_n 0, []), (.invokevirtual 507, [246, 0, 9, 1]), (.iconst 1, []), (.isub, []), (.istore_n 1, [])], 3),
  (39, [0, 1], [(.iload_n 1, []), (.ifCond .lt 40, [5]), (.aload_n 0, []), (.getfield 125, [9, 76, 4]), (.iload_n 1, []), (.baload, []), (.ifCond .ne 25, [4]), (.aload_n 0, []), (.getfield 110, [9, 71, 4]), (.iload_n 1, []), (.iaload, []), (.iconst (-1), []), (.if_icmp .ne 15, [4]), (.aload_n 0, []), (.getfield 125, [9, 76, 4]), (.aload_n 0, []), (.getfield 116, [9, 73, 4]), (.iload_n 1, []), (.iaload, []), (.iconst 1, []), (.bastore, [])], 4),
  (74, [0, 1], [(.iinc 1 (-1), []), (.goto (-38), [3])], 0),
  (80, [0], [(.iconst 0, []), (.istore_n 1, []), (.iconst 0, []), (.istore_n 2, [])], 6),
  (84, [0, 1, 2], [(.iload_n 2, []), (.aload_n 0, []), (.getfield 15, [9, 3, 4]), (.iconst 2, []), (.iaload, []), (.if_icmp .gt 31, [8]), (.aload_n 0, []), (.aload_n 0, []), (.iload_n 2, []), (.invokevirtual 510, [248, 1, 9, 1]), (.putfield 316, [9, 32, 0]), (.aload_n 0, []), (.invokevirtual 513, [247, 0, 9, 1]), (.ifCond .eq 9, [7]), (.iload_n 1, []), (.iconst 1, []), (.iload_n 2, []), (.ishl, []), (.ior, []), (.istore_n 1, [])], 7),
  (116, [0, 1, 2], [(.iinc 2 1, []), (.goto (-35), [6])], 0),
  (122, [1], [(.iload_n 1, []), (.ireturn, [])], 0)]
def mt_249 : Nat × Nat × List jB := (1, 3, k_M_fits)
set_option maxRecDepth 100000 in
theorem ck_249 : jok jm_249 mt_249 = true := by decide +kernel
def k_M_apart : List jB := [
  (0, [0, 1, 2, 4, 5], [(.aload_n 0, []), (.iconst 0, []), (.putfield 138, [9, 0, 0]), (.aload_n 0, []), (.invokevirtual 304, [191, 0, 9, 0]), (.iload 4, []), (.ifCond .lt 39, [1]), (.iload 4, []), (.aload_n 0, []), (.getfield 15, [9, 3, 4]), (.iconst 2, []), (.iaload, []), (.if_icmp .gt 28, [1]), (.iload 5, []), (.ifCond .lt 23, [1]), (.iload 5, []), (.aload_n 0, []), (.getfield 15, [9, 3, 4]), (.iconst 2, []), (.iaload, []), (.if_icmp .gt 12, [1]), (.aload_n 0, []), (.iload_n 1, []), (.lload_n 2, []), (.invokevirtual 400, [216, 2, 9, 1]), (.ifCond .ne 5, [2])], 1),
  (50, [], [(.iconst (-1), []), (.ireturn, [])], 0),
  (52, [0, 4, 5], [(.iconst 1, []), (.istore 6, [])], 3),
  (55, [0, 4, 5, 6], [(.iload 6, []), (.sipush 1000, []), (.if_icmp .ge 51, [5]), (.aload_n 0, []), (.aload_n 0, []), (.iload 4, []), (.invokevirtual 510, [248, 1, 9, 1]), (.putfield 316, [9, 32, 0]), (.aload_n 0, []), (.iload 6, []), (.invokevirtual 408, [218, 1, 9, 1]), (.istore 7, []), (.aload_n 0, []), (.aload_n 0, []), (.iload 5, []), (.invokevirtual 510, [248, 1, 9, 1]), (.putfield 316, [9, 32, 0]), (.iload 7, []), (.aload_n 0, []), (.iload 6, []), (.invokevirtual 408, [218, 1, 9, 1]), (.if_icmp .eq 6, [4]), (.iload 6, []), (.ireturn, [])], 0),
  (105, [0, 4, 5, 6], [(.iinc 6 1, []), (.goto (-53), [3])], 0),
  (111, [], [(.bipush (-2), []), (.ireturn, [])], 0)]
def mt_250 : Nat × Nat × List jB := (1, 8, k_M_apart)
set_option maxRecDepth 100000 in
theorem ck_250 : jok jm_250 mt_250 = true := by decide +kernel
def k_M_tried : List jB := [
  (0, [0, 1, 2, 3], [(.aload_n 0, []), (.iconst 0, []), (.putfield 138, [9, 0, 0]), (.iload_n 1, []), (.ifCond .eq 8, [1]), (.iload_n 1, []), (.iconst 3, []), (.if_icmp .ne 11, [2])], 1),
  (14, [0, 1, 2, 3], [(.aload_n 0, []), (.iload_n 2, []), (.invokevirtual 379, [190, 1, 9, 1]), (.goto 40, [6])], 0),
  (22, [0, 1, 2, 3], [(.iload_n 1, []), (.iconst 5, []), (.if_icmp .ne 11, [3]), (.aload_n 0, []), (.iload_n 2, []), (.invokevirtual 385, [211, 1, 9, 1]), (.goto 27, [6])], 0),
  (35, [0, 1, 2, 3], [(.iload_n 1, []), (.iconst 1, []), (.if_icmp .eq 13, [4]), (.iload_n 1, []), (.iconst 2, []), (.if_icmp .eq 8, [4]), (.iload_n 1, []), (.iconst 4, []), (.if_icmp .ne 11, [5])], 4),
  (50, [0, 1, 2, 3], [(.iload_n 2, []), (.ifCond .ne 7, [5]), (.iconst 1, []), (.goto 4, [6])], 0),
  (58, [0, 1, 2, 3], [(.iconst 0, [])], 6),
  (59, [0, 1, 2, 3], [(.istore 4, []), (.iload 4, []), (.ifCond .eq 11, [7]), (.aload_n 0, []), (.iload_n 3, []), (.invokevirtual 379, [190, 1, 9, 1]), (.ifCond .ne 5, [8])], 7),
  (74, [], [(.iconst (-1), []), (.ireturn, [])], 0),
  (76, [0, 1, 2, 3], [(.aload_n 0, []), (.invokevirtual 304, [191, 0, 9, 0]), (.aload_n 0, []), (.iload_n 1, []), (.putfield 310, [9, 30, 0]), (.aload_n 0, []), (.iload_n 2, []), (.putfield 313, [9, 31, 0]), (.aload_n 0, []), (.iconst 1, []), (.invokevirtual 307, [200, 1, 9, 0]), (.iconst 0, []), (.istore 5, [])], 9),
  (98, [0, 3, 5], [(.iload 5, []), (.aload_n 0, []), (.getfield 77, [9, 40, 4]), (.iconst 0, []), (.iaload, []), (.if_icmp .ge 14, [10]), (.aload_n 0, []), (.iconst 1, []), (.invokevirtual 382, [206, 1, 9, 0]), (.iinc 5 1, []), (.goto (-19), [9])], 0),
  (120, [0, 3], [(.aload_n 0, []), (.getfield 80, [9, 41, 4]), (.bipush 10, []), (.iload_n 3, []), (.iadd, []), (.iaload, []), (.ireturn, [])], 0)]
def mt_251 : Nat × Nat × List jB := (1, 6, k_M_tried)
set_option maxRecDepth 100000 in
theorem ck_251 : jok jm_251 mt_251 = true := by decide +kernel
end
section
/-! The methods' blocks, held against their bytes. Printed by wip/gen/code.py. -/
def k_M_keep : List jB := [
  (0, [0], [(.aload_n 0, []), (.iconst 0, []), (.putfield 138, [9, 0, 0]), (.aload_n 0, []), (.iconst 2, []), (.iconst 0, []), (.invokevirtual 388, [202, 2, 9, 0]), (.aload_n 0, []), (.aload_n 0, []), (.getfield 301, [9, 36, 0]), (.putfield 517, [9, 47, 0]), (.iconst 0, []), (.istore_n 1, [])], 1),
  (21, [0, 1], [(.iload_n 1, []), (.aload_n 0, []), (.getfield 301, [9, 36, 0]), (.if_icmp .ge 45, [2]), (.aload_n 0, []), (.getfield 129, [9, 77, 4]), (.iload_n 1, []), (.aload_n 0, []), (.getfield 68, [9, 37, 4]), (.iload_n 1, []), (.iaload, []), (.iastore, []), (.aload_n 0, []), (.getfield 132, [9, 78, 4]), (.iload_n 1, []), (.aload_n 0, []), (.getfield 71, [9, 38, 4]), (.iload_n 1, []), (.iaload, []), (.iastore, []), (.aload_n 0, []), (.getfield 135, [9, 79, 4]), (.iload_n 1, []), (.aload_n 0, []), (.getfield 74, [9, 39, 4]), (.iload_n 1, []), (.iaload, []), (.iastore, []), (.iinc 1 1, []), (.goto (-47), [1])], 0),
  (71, [0], [(.aload_n 0, []), (.iconst 1, []), (.putfield 298, [9, 48, 1]), (.aload_n 0, []), (.getfield 77, [9, 40, 4]), (.iconst 0, []), (.iaload, []), (.ireturn, [])], 0)]
def mt_252 : Nat × Nat × List jB := (1, 2, k_M_keep)
set_option maxRecDepth 100000 in
theorem ck_252 : jok jm_252 mt_252 = true := by decide +kernel
def k_M_again : List jB := [
  (0, [0], [(.aload_n 0, []), (.iconst 0, []), (.putfield 138, [9, 0, 0]), (.aload_n 0, []), (.getfield 298, [9, 48, 1]), (.ifCond .ne 5, [1]), (.iconst (-1), []), (.ireturn, [])], 0),
  (14, [0], [(.aload_n 0, []), (.iconst 0, []), (.iconst 2, []), (.invokevirtual 388, [202, 2, 9, 0]), (.aload_n 0, []), (.aload_n 0, []), (.getfield 517, [9, 47, 0]), (.putfield 301, [9, 36, 0]), (.iconst 0, []), (.istore_n 1, [])], 2),
  (30, [0, 1], [(.iload_n 1, []), (.aload_n 0, []), (.getfield 301, [9, 36, 0]), (.if_icmp .ge 45, [3]), (.aload_n 0, []), (.getfield 68, [9, 37, 4]), (.iload_n 1, []), (.aload_n 0, []), (.getfield 129, [9, 77, 4]), (.iload_n 1, []), (.iaload, []), (.iastore, []), (.aload_n 0, []), (.getfield 71, [9, 38, 4]), (.iload_n 1, []), (.aload_n 0, []), (.getfield 132, [9, 78, 4]), (.iload_n 1, []), (.iaload, []), (.iastore, []), (.aload_n 0, []), (.getfield 74, [9, 39, 4]), (.iload_n 1, []), (.aload_n 0, []), (.getfield 135, [9, 79, 4]), (.iload_n 1, []), (.iaload, []), (.iastore, []), (.iinc 1 1, []), (.goto (-47), [2])], 0),
  (80, [0], [(.aload_n 0, []), (.getfield 77, [9, 40, 4]), (.iconst 0, []), (.iaload, []), (.ireturn, [])], 0)]
def mt_253 : Nat × Nat × List jB := (1, 2, k_M_again)
set_option maxRecDepth 100000 in
theorem ck_253 : jok jm_253 mt_253 = true := by decide +kernel
def k_M_count : List jB := [
  (0, [0, 1], [(.aload_n 0, []), (.iconst 0, []), (.putfield 138, [9, 0, 0]), (.iconst 0, []), (.istore_n 2, []), (.iload_n 1, []), (.tableswitch 145 0 9 #[56, 63, 68, 75, 82, 89, 94, 99, 99, 138], [14, 1, 2, 3, 4, 5, 6, 7, 8, 8, 13])], 0),
  (64, [0], [(.aload_n 0, []), (.getfield 15, [9, 3, 4]), (.iconst 0, []), (.iaload, []), (.ireturn, [])], 0),
  (71, [0], [(.aload_n 0, []), (.getfield 301, [9, 36, 0]), (.ireturn, [])], 0),
  (76, [0], [(.aload_n 0, []), (.getfield 15, [9, 3, 4]), (.iconst 2, []), (.iaload, []), (.ireturn, [])], 0),
  (83, [0], [(.aload_n 0, []), (.getfield 15, [9, 3, 4]), (.iconst 3, []), (.iaload, []), (.ireturn, [])], 0),
  (90, [0], [(.aload_n 0, []), (.getfield 77, [9, 40, 4]), (.iconst 0, []), (.iaload, []), (.ireturn, [])], 0),
  (97, [0], [(.aload_n 0, []), (.getfield 295, [9, 69, 0]), (.ireturn, [])], 0),
  (102, [0], [(.aload_n 0, []), (.invokevirtual 507, [246, 0, 9, 1]), (.ireturn, [])], 0),
  (107, [0, 1, 2], [(.iconst 0, []), (.istore_n 3, [])], 9),
  (109, [0, 1, 2, 3], [(.iload_n 3, []), (.aload_n 0, []), (.getfield 301, [9, 36, 0]), (.if_icmp .ge 30, [12]), (.iload_n 2, []), (.aload_n 0, []), (.getfield 86, [9, 43, 4]), (.iload_n 3, []), (.iaload, []), (.iload_n 1, []), (.bipush 6, []), (.isub, []), (.if_icmp .ne 7, [10]), (.iconst 1, []), (.goto 4, [11])], 0),
  (135, [0, 1, 3], [(.iconst 0, [])], 11),
  (136, [0, 1, 3], [(.iadd, []), (.istore_n 2, []), (.iinc 3 1, []), (.goto (-32), [9])], 0),
  (144, [2], [(.iload_n 2, []), (.ireturn, [])], 0),
  (146, [0], [(.aload_n 0, []), (.getfield 15, [9, 3, 4]), (.iconst 1, []), (.iaload, []), (.ireturn, [])], 0),
  (153, [], [(.iconst (-1), []), (.ireturn, [])], 0)]
def mt_254 : Nat × Nat × List jB := (1, 4, k_M_count)
set_option maxRecDepth 100000 in
theorem ck_254 : jok jm_254 mt_254 = true := by decide +kernel
def k_Ji_bitCount : List jB := [
  (0, [0], [(.iload_n 0, []), (.iload_n 0, []), (.iconst 1, []), (.iushr, []), (.ldc_w 265, [1431655765]), (.iand, []), (.isub, []), (.istore_n 0, []), (.iload_n 0, []), (.ldc_w 266, [858993459]), (.iand, []), (.iload_n 0, []), (.iconst 2, []), (.iushr, []), (.ldc_w 266, [858993459]), (.iand, []), (.iadd, []), (.istore_n 0, []), (.iload_n 0, []), (.iload_n 0, []), (.iconst 4, []), (.iushr, []), (.iadd, []), (.ldc_w 267, [252645135]), (.iand, []), (.istore_n 0, []), (.iload_n 0, []), (.iload_n 0, []), (.bipush 8, []), (.iushr, []), (.iadd, []), (.istore_n 0, []), (.iload_n 0, []), (.iload_n 0, []), (.bipush 16, []), (.iushr, []), (.iadd, []), (.istore_n 0, []), (.iload_n 0, []), (.bipush 63, []), (.iand, []), (.ireturn, [])], 0)]
def mt_255 : Nat × Nat × List jB := (1, 1, k_Ji_bitCount)
set_option maxRecDepth 100000 in
theorem ck_255 : jok jm_255 mt_255 = true := by decide +kernel
def k_Ja_fill : List jB := [
  (0, [0, 1], [(.iconst 0, []), (.istore_n 2, []), (.aload_n 0, []), (.arraylength, []), (.istore_n 3, [])], 1),
  (5, [0, 1, 2, 3], [(.iload_n 2, []), (.iload_n 3, []), (.if_icmp .ge 13, [2]), (.aload_n 0, []), (.iload_n 2, []), (.iload_n 1, []), (.iastore, []), (.iinc 2 1, []), (.goto (-12), [1])], 0),
  (20, [], [(.return_, [])], 0)]
def mt_256 : Nat × Nat × List jB := (0, 4, k_Ja_fill)
set_option maxRecDepth 100000 in
theorem ck_256 : jok jm_256 mt_256 = true := by decide +kernel
end
section
/-! The table of all methods. Printed by wip/gen/code.py. -/
def jMT : List (Nat × Nat × List jB) := [mt_0, mt_1, mt_2, mt_3, mt_4, mt_5, mt_6, mt_7, mt_8, mt_9, mt_10, mt_11, mt_12, mt_13, mt_14, mt_15, mt_16, mt_17, mt_18, mt_19, mt_20, mt_21, mt_22, mt_23, mt_24, mt_25, mt_26, mt_27, mt_28, mt_29, mt_30, mt_31, mt_32, mt_33, mt_34, mt_35, mt_36, mt_37, mt_38, mt_39, mt_40, mt_41, mt_42, mt_43, mt_44, mt_45, mt_46, mt_47, mt_48, mt_49, mt_50, mt_51, mt_52, mt_53, mt_54, mt_55, mt_56, mt_57, mt_58, mt_59, mt_60, mt_61, mt_62, mt_63, mt_64, mt_65, mt_66, mt_67, mt_68, mt_69, mt_70, mt_71, mt_72, mt_73, mt_74, mt_75, mt_76, mt_77, mt_78, mt_79, mt_80, mt_81, mt_82, mt_83, mt_84, mt_85, mt_86, mt_87, mt_88, mt_89, mt_90, mt_91, mt_92, mt_93, mt_94, mt_95, mt_96, mt_97, mt_98, mt_99, mt_100, mt_101, mt_102, mt_103, mt_104, mt_105, mt_106, mt_107, mt_108, mt_109, mt_110, mt_111, mt_112, mt_113, mt_114, mt_115, mt_116, mt_117, mt_118, mt_119, mt_120, mt_121, mt_122, mt_123, mt_124, mt_125, mt_126, mt_127, mt_128, mt_129, mt_130, mt_131, mt_132, mt_133, mt_134, mt_135, mt_136, mt_137, mt_138, mt_139, mt_140, mt_141, mt_142, mt_143, mt_144, mt_145, mt_146, mt_147, mt_148, mt_149, mt_150, mt_151, mt_152, mt_153, mt_154, mt_155, mt_156, mt_157, mt_158, mt_159, mt_160, mt_161, mt_162, mt_163, mt_164, mt_165, mt_166, mt_167, mt_168, mt_169, mt_170, mt_171, mt_172, mt_173, mt_174, mt_175, mt_176, mt_177, mt_178, mt_179, mt_180, mt_181, mt_182, mt_183, mt_184, mt_185, mt_186, mt_187, mt_188, mt_189, mt_190, mt_191, mt_192, mt_193, mt_194, mt_195, mt_196, mt_197, mt_198, mt_199, mt_200, mt_201, mt_202, mt_203, mt_204, mt_205, mt_206, mt_207, mt_208, mt_209, mt_210, mt_211, mt_212, mt_213, mt_214, mt_215, mt_216, mt_217, mt_218, mt_219, mt_220, mt_221, mt_222, mt_223, mt_224, mt_225, mt_226, mt_227, mt_228, mt_229, mt_230, mt_231, mt_232, mt_233, mt_234, mt_235, mt_236, mt_237, mt_238, mt_239, mt_240, mt_241, mt_242, mt_243, mt_244, mt_245, mt_246, mt_247, mt_248, mt_249, mt_250, mt_251, mt_252, mt_253, mt_254, mt_255, mt_256]
def jokA : List jM → List (Nat × Nat × List jB) → Bool
  | a :: as, b :: bs => jok a b && jokA as bs
  | _, _ => true
theorem jand {a b : Bool} (h1 : a = true) (h2 : b = true) : (a && b) = true := by rw [h1, h2]; rfl
set_option maxRecDepth 100000 in
theorem jMT_all : jokA jMM jMT = true := jand ck_0 (jand ck_1 (jand ck_2 (jand ck_3 (jand ck_4 (jand ck_5 (jand ck_6 (jand ck_7 (jand ck_8 (jand ck_9 (jand ck_10 (jand ck_11 (jand ck_12 (jand ck_13 (jand ck_14 (jand ck_15 (jand ck_16 (jand ck_17 (jand ck_18 (jand ck_19 (jand ck_20 (jand ck_21 (jand ck_22 (jand ck_23 (jand ck_24 (jand ck_25 (jand ck_26 (jand ck_27 (jand ck_28 (jand ck_29 (jand ck_30 (jand ck_31 (jand ck_32 (jand ck_33 (jand ck_34 (jand ck_35 (jand ck_36 (jand ck_37 (jand ck_38 (jand ck_39 (jand ck_40 (jand ck_41 (jand ck_42 (jand ck_43 (jand ck_44 (jand ck_45 (jand ck_46 (jand ck_47 (jand ck_48 (jand ck_49 (jand ck_50 (jand ck_51 (jand ck_52 (jand ck_53 (jand ck_54 (jand ck_55 (jand ck_56 (jand ck_57 (jand ck_58 (jand ck_59 (jand ck_60 (jand ck_61 (jand ck_62 (jand ck_63 (jand ck_64 (jand ck_65 (jand ck_66 (jand ck_67 (jand ck_68 (jand ck_69 (jand ck_70 (jand ck_71 (jand ck_72 (jand ck_73 (jand ck_74 (jand ck_75 (jand ck_76 (jand ck_77 (jand ck_78 (jand ck_79 (jand ck_80 (jand ck_81 (jand ck_82 (jand ck_83 (jand ck_84 (jand ck_85 (jand ck_86 (jand ck_87 (jand ck_88 (jand ck_89 (jand ck_90 (jand ck_91 (jand ck_92 (jand ck_93 (jand ck_94 (jand ck_95 (jand ck_96 (jand ck_97 (jand ck_98 (jand ck_99 (jand ck_100 (jand ck_101 (jand ck_102 (jand ck_103 (jand ck_104 (jand ck_105 (jand ck_106 (jand ck_107 (jand ck_108 (jand ck_109 (jand ck_110 (jand ck_111 (jand ck_112 (jand ck_113 (jand ck_114 (jand ck_115 (jand ck_116 (jand ck_117 (jand ck_118 (jand ck_119 (jand ck_120 (jand ck_121 (jand ck_122 (jand ck_123 (jand ck_124 (jand ck_125 (jand ck_126 (jand ck_127 (jand ck_128 (jand ck_129 (jand ck_130 (jand ck_131 (jand ck_132 (jand ck_133 (jand ck_134 (jand ck_135 (jand ck_136 (jand ck_137 (jand ck_138 (jand ck_139 (jand ck_140 (jand ck_141 (jand ck_142 (jand ck_143 (jand ck_144 (jand ck_145 (jand ck_146 (jand ck_147 (jand ck_148 (jand ck_149 (jand ck_150 (jand ck_151 (jand ck_152 (jand ck_153 (jand ck_154 (jand ck_155 (jand ck_156 (jand ck_157 (jand ck_158 (jand ck_159 (jand ck_160 (jand ck_161 (jand ck_162 (jand ck_163 (jand ck_164 (jand ck_165 (jand ck_166 (jand ck_167 (jand ck_168 (jand ck_169 (jand ck_170 (jand ck_171 (jand ck_172 (jand ck_173 (jand ck_174 (jand ck_175 (jand ck_176 (jand ck_177 (jand ck_178 (jand ck_179 (jand ck_180 (jand ck_181 (jand ck_182 (jand ck_183 (jand ck_184 (jand ck_185 (jand ck_186 (jand ck_187 (jand ck_188 (jand ck_189 (jand ck_190 (jand ck_191 (jand ck_192 (jand ck_193 (jand ck_194 (jand ck_195 (jand ck_196 (jand ck_197 (jand ck_198 (jand ck_199 (jand ck_200 (jand ck_201 (jand ck_202 (jand ck_203 (jand ck_204 (jand ck_205 (jand ck_206 (jand ck_207 (jand ck_208 (jand ck_209 (jand ck_210 (jand ck_211 (jand ck_212 (jand ck_213 (jand ck_214 (jand ck_215 (jand ck_216 (jand ck_217 (jand ck_218 (jand ck_219 (jand ck_220 (jand ck_221 (jand ck_222 (jand ck_223 (jand ck_224 (jand ck_225 (jand ck_226 (jand ck_227 (jand ck_228 (jand ck_229 (jand ck_230 (jand ck_231 (jand ck_232 (jand ck_233 (jand ck_234 (jand ck_235 (jand ck_236 (jand ck_237 (jand ck_238 (jand ck_239 (jand ck_240 (jand ck_241 (jand ck_242 (jand ck_243 (jand ck_244 (jand ck_245 (jand ck_246 (jand ck_247 (jand ck_248 (jand ck_249 (jand ck_250 (jand ck_251 (jand ck_252 (jand ck_253 (jand ck_254 (jand ck_255 (jand ck_256 (rfl)))))))))))))))))))))))))))))))))))))))))))))))))))))))))))))))))))))))))))))))))))))))))))))))))))))))))))))))))))))))))))))))))))))))))))))))))))))))))))))))))))))))))))))))))))))))))))))))))))))))))))))))))))))))))))))))))))))))))))))))))))))))))))))))))
theorem jokA_s : ∀ (as : List jM) (bs : List (Nat × Nat × List jB)), jokA as bs = true → ∀ (y : Nat) (M : jM) (q : Nat × Nat × List jB), as[y]? = some M → bs[y]? = some q → jok M q = true
  | [], _, _, _, _, _, h, _ => by cases h
  | _ :: _, [], _, _, _, _, _, h => by cases h
  | a :: as, b :: bs, h, y, M, q, h1, h2 => by
    have h : (jok a b && jokA as bs) = true := h
    rw [Bool.and_eq_true] at h
    cases y with
    | zero =>
      cases h1
      cases h2
      exact h.1
    | succ y => exact jokA_s as bs h.2 y M q h1 h2
theorem jMT_ok : jMTok jMT := by
  intro y M q h1 h2
  have h := jokA_s jMM jMT jMT_all y M q h1 h2
  unfold jok at h
  simp only [Bool.and_eq_true, decide_eq_true_eq] at h
  obtain ⟨⟨⟨a, b⟩, c⟩, d⟩ := h
  exact ⟨a, b, c, d⟩
end

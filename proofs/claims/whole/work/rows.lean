section
-- ===== PART A: goes FIRST, ahead of the names: the tables' words, and 'selects' of the private methods out of them =====
/-- a private method of a class that the tables say can be made, by its rows of tables_1 -/
def lw_okq (q : MethodName × Nat) : Prop := (q.1.cls ≠ "java/lang/invoke/MethodHandle" ∧ q.1.cls ≠ "java/lang/invoke/VarHandle") ∧ Cond.instantiable q.1.cls q.2 ∈ tables_1 ∧ Cond.privateMethod q.1 ∈ tables_1 ∧ Cond.instanceMethod q.1 ∈ tables_1
theorem lw_p0 : lw_okq (⟨"HalfHands", "append", "(I)V"⟩, 14) := ⟨⟨by decide +kernel, by decide +kernel⟩, List.mem_of_getElem? (i := 26) (by decide +kernel), List.mem_of_getElem? (i := 456) (by decide +kernel), List.mem_of_getElem? (i := 457) (by decide +kernel)⟩
theorem lw_p1 : lw_okq (⟨"HalfHands$Tokens", "readWord", "()V"⟩, 7) := ⟨⟨by decide +kernel, by decide +kernel⟩, List.mem_of_getElem? (i := 152) (by decide +kernel), List.mem_of_getElem? (i := 490) (by decide +kernel), List.mem_of_getElem? (i := 491) (by decide +kernel)⟩
theorem lw_p2 : lw_okq (⟨"HalfHands$Tokens", "readNumber", "()V"⟩, 7) := ⟨⟨by decide +kernel, by decide +kernel⟩, List.mem_of_getElem? (i := 152) (by decide +kernel), List.mem_of_getElem? (i := 494) (by decide +kernel), List.mem_of_getElem? (i := 495) (by decide +kernel)⟩
theorem lw_p3 : lw_okq (⟨"HalfHands$Tokens", "readSign", "()V"⟩, 7) := ⟨⟨by decide +kernel, by decide +kernel⟩, List.mem_of_getElem? (i := 152) (by decide +kernel), List.mem_of_getElem? (i := 499) (by decide +kernel), List.mem_of_getElem? (i := 500) (by decide +kernel)⟩
theorem lw_p4 : lw_okq (⟨"HalfHands$Reader", "personLine", "()Z"⟩, 5) := ⟨⟨by decide +kernel, by decide +kernel⟩, List.mem_of_getElem? (i := 146) (by decide +kernel), List.mem_of_getElem? (i := 569) (by decide +kernel), List.mem_of_getElem? (i := 570) (by decide +kernel)⟩
theorem lw_p5 : lw_okq (⟨"HalfHands$Reader", "fails", "(I)Z"⟩, 5) := ⟨⟨by decide +kernel, by decide +kernel⟩, List.mem_of_getElem? (i := 146) (by decide +kernel), List.mem_of_getElem? (i := 573) (by decide +kernel), List.mem_of_getElem? (i := 574) (by decide +kernel)⟩
theorem lw_p6 : lw_okq (⟨"HalfHands$Reader", "newName", "(I)Z"⟩, 5) := ⟨⟨by decide +kernel, by decide +kernel⟩, List.mem_of_getElem? (i := 146) (by decide +kernel), List.mem_of_getElem? (i := 585) (by decide +kernel), List.mem_of_getElem? (i := 586) (by decide +kernel)⟩
theorem lw_p7 : lw_okq (⟨"HalfHands$Reader", "readNumber", "(II)Z"⟩, 5) := ⟨⟨by decide +kernel, by decide +kernel⟩, List.mem_of_getElem? (i := 146) (by decide +kernel), List.mem_of_getElem? (i := 589) (by decide +kernel), List.mem_of_getElem? (i := 590) (by decide +kernel)⟩
theorem lw_p8 : lw_okq (⟨"HalfHands$Reader", "passes", "(I)Z"⟩, 5) := ⟨⟨by decide +kernel, by decide +kernel⟩, List.mem_of_getElem? (i := 146) (by decide +kernel), List.mem_of_getElem? (i := 599) (by decide +kernel), List.mem_of_getElem? (i := 600) (by decide +kernel)⟩
theorem lw_p9 : lw_okq (⟨"HalfHands$Reader", "handsLine", "()Z"⟩, 5) := ⟨⟨by decide +kernel, by decide +kernel⟩, List.mem_of_getElem? (i := 146) (by decide +kernel), List.mem_of_getElem? (i := 603) (by decide +kernel), List.mem_of_getElem? (i := 604) (by decide +kernel)⟩
theorem lw_p10 : lw_okq (⟨"HalfHands$Reader", "toldPerson", "()I"⟩, 5) := ⟨⟨by decide +kernel, by decide +kernel⟩, List.mem_of_getElem? (i := 146) (by decide +kernel), List.mem_of_getElem? (i := 607) (by decide +kernel), List.mem_of_getElem? (i := 608) (by decide +kernel)⟩
theorem lw_p11 : lw_okq (⟨"HalfHands$Reader", "heirOf", "(I)Z"⟩, 5) := ⟨⟨by decide +kernel, by decide +kernel⟩, List.mem_of_getElem? (i := 146) (by decide +kernel), List.mem_of_getElem? (i := 611) (by decide +kernel), List.mem_of_getElem? (i := 612) (by decide +kernel)⟩
theorem lw_p12 : lw_okq (⟨"HalfHands$Reader", "parcelLine", "()Z"⟩, 5) := ⟨⟨by decide +kernel, by decide +kernel⟩, List.mem_of_getElem? (i := 146) (by decide +kernel), List.mem_of_getElem? (i := 628) (by decide +kernel), List.mem_of_getElem? (i := 629) (by decide +kernel)⟩
theorem lw_p13 : lw_okq (⟨"HalfHands$Reader", "lawLine", "()Z"⟩, 5) := ⟨⟨by decide +kernel, by decide +kernel⟩, List.mem_of_getElem? (i := 146) (by decide +kernel), List.mem_of_getElem? (i := 636) (by decide +kernel), List.mem_of_getElem? (i := 637) (by decide +kernel)⟩
theorem lw_p14 : lw_okq (⟨"HalfHands$Reader", "expression", "(II)Z"⟩, 5) := ⟨⟨by decide +kernel, by decide +kernel⟩, List.mem_of_getElem? (i := 146) (by decide +kernel), List.mem_of_getElem? (i := 644) (by decide +kernel), List.mem_of_getElem? (i := 645) (by decide +kernel)⟩
theorem lw_p15 : lw_okq (⟨"HalfHands$Reader", "denial", "(I)Z"⟩, 5) := ⟨⟨by decide +kernel, by decide +kernel⟩, List.mem_of_getElem? (i := 146) (by decide +kernel), List.mem_of_getElem? (i := 648) (by decide +kernel), List.mem_of_getElem? (i := 649) (by decide +kernel)⟩
def lw_privs_1 : List (MethodName × Nat) := [(⟨"HalfHands", "append", "(I)V"⟩, 14), (⟨"HalfHands$Tokens", "readWord", "()V"⟩, 7), (⟨"HalfHands$Tokens", "readNumber", "()V"⟩, 7), (⟨"HalfHands$Tokens", "readSign", "()V"⟩, 7), (⟨"HalfHands$Reader", "personLine", "()Z"⟩, 5), (⟨"HalfHands$Reader", "fails", "(I)Z"⟩, 5), (⟨"HalfHands$Reader", "newName", "(I)Z"⟩, 5), (⟨"HalfHands$Reader", "readNumber", "(II)Z"⟩, 5), (⟨"HalfHands$Reader", "passes", "(I)Z"⟩, 5), (⟨"HalfHands$Reader", "handsLine", "()Z"⟩, 5), (⟨"HalfHands$Reader", "toldPerson", "()I"⟩, 5), (⟨"HalfHands$Reader", "heirOf", "(I)Z"⟩, 5), (⟨"HalfHands$Reader", "parcelLine", "()Z"⟩, 5), (⟨"HalfHands$Reader", "lawLine", "()Z"⟩, 5), (⟨"HalfHands$Reader", "expression", "(II)Z"⟩, 5), (⟨"HalfHands$Reader", "denial", "(I)Z"⟩, 5)]
theorem lw_r1 : ∀ q ∈ lw_privs_1, lw_okq q := List.forall_mem_cons.mpr ⟨lw_p0, List.forall_mem_cons.mpr ⟨lw_p1, List.forall_mem_cons.mpr ⟨lw_p2, List.forall_mem_cons.mpr ⟨lw_p3, List.forall_mem_cons.mpr ⟨lw_p4, List.forall_mem_cons.mpr ⟨lw_p5, List.forall_mem_cons.mpr ⟨lw_p6, List.forall_mem_cons.mpr ⟨lw_p7, List.forall_mem_cons.mpr ⟨lw_p8, List.forall_mem_cons.mpr ⟨lw_p9, List.forall_mem_cons.mpr ⟨lw_p10, List.forall_mem_cons.mpr ⟨lw_p11, List.forall_mem_cons.mpr ⟨lw_p12, List.forall_mem_cons.mpr ⟨lw_p13, List.forall_mem_cons.mpr ⟨lw_p14, List.forall_mem_cons.mpr ⟨lw_p15, fun _ h => absurd h List.not_mem_nil⟩⟩⟩⟩⟩⟩⟩⟩⟩⟩⟩⟩⟩⟩⟩⟩
theorem lw_p16 : lw_okq (⟨"HalfHands$Reader", "passKnot", "()Z"⟩, 5) := ⟨⟨by decide +kernel, by decide +kernel⟩, List.mem_of_getElem? (i := 146) (by decide +kernel), List.mem_of_getElem? (i := 652) (by decide +kernel), List.mem_of_getElem? (i := 653) (by decide +kernel)⟩
theorem lw_p17 : lw_okq (⟨"HalfHands$Reader", "operand", "(I)Z"⟩, 5) := ⟨⟨by decide +kernel, by decide +kernel⟩, List.mem_of_getElem? (i := 146) (by decide +kernel), List.mem_of_getElem? (i := 660) (by decide +kernel), List.mem_of_getElem? (i := 661) (by decide +kernel)⟩
theorem lw_p18 : lw_okq (⟨"HalfHands$Reader", "enclosed", "(I)Z"⟩, 5) := ⟨⟨by decide +kernel, by decide +kernel⟩, List.mem_of_getElem? (i := 146) (by decide +kernel), List.mem_of_getElem? (i := 664) (by decide +kernel), List.mem_of_getElem? (i := 665) (by decide +kernel)⟩
theorem lw_p19 : lw_okq (⟨"HalfHands$Reader", "mayLine", "()Z"⟩, 5) := ⟨⟨by decide +kernel, by decide +kernel⟩, List.mem_of_getElem? (i := 146) (by decide +kernel), List.mem_of_getElem? (i := 681) (by decide +kernel), List.mem_of_getElem? (i := 682) (by decide +kernel)⟩
theorem lw_p20 : lw_okq (⟨"HalfHands$Journey", "start", "(LHalfHands$Telling;II)V"⟩, 14) := ⟨⟨by decide +kernel, by decide +kernel⟩, List.mem_of_getElem? (i := 251) (by decide +kernel), List.mem_of_getElem? (i := 697) (by decide +kernel), List.mem_of_getElem? (i := 698) (by decide +kernel)⟩
theorem lw_p21 : lw_okq (⟨"HalfHands$Journey", "pass", "()V"⟩, 14) := ⟨⟨by decide +kernel, by decide +kernel⟩, List.mem_of_getElem? (i := 251) (by decide +kernel), List.mem_of_getElem? (i := 734) (by decide +kernel), List.mem_of_getElem? (i := 735) (by decide +kernel)⟩
theorem lw_p22 : lw_okq (⟨"HalfHands$Journey", "isLeftOut", "(I)Z"⟩, 14) := ⟨⟨by decide +kernel, by decide +kernel⟩, List.mem_of_getElem? (i := 251) (by decide +kernel), List.mem_of_getElem? (i := 738) (by decide +kernel), List.mem_of_getElem? (i := 739) (by decide +kernel)⟩
theorem lw_p23 : lw_okq (⟨"HalfHands$Journey", "dispatch", "(I)V"⟩, 14) := ⟨⟨by decide +kernel, by decide +kernel⟩, List.mem_of_getElem? (i := 251) (by decide +kernel), List.mem_of_getElem? (i := 742) (by decide +kernel), List.mem_of_getElem? (i := 743) (by decide +kernel)⟩
theorem lw_p24 : lw_okq (⟨"HalfHands$Journey", "waysOf", "(I)I"⟩, 14) := ⟨⟨by decide +kernel, by decide +kernel⟩, List.mem_of_getElem? (i := 251) (by decide +kernel), List.mem_of_getElem? (i := 746) (by decide +kernel), List.mem_of_getElem? (i := 747) (by decide +kernel)⟩
theorem lw_p25 : lw_okq (⟨"HalfHands$Journey", "settle", "(II)V"⟩, 14) := ⟨⟨by decide +kernel, by decide +kernel⟩, List.mem_of_getElem? (i := 251) (by decide +kernel), List.mem_of_getElem? (i := 751) (by decide +kernel), List.mem_of_getElem? (i := 752) (by decide +kernel)⟩
theorem lw_p26 : lw_okq (⟨"HalfHands$Journey", "handOn", "(II)V"⟩, 14) := ⟨⟨by decide +kernel, by decide +kernel⟩, List.mem_of_getElem? (i := 251) (by decide +kernel), List.mem_of_getElem? (i := 755) (by decide +kernel), List.mem_of_getElem? (i := 756) (by decide +kernel)⟩
theorem lw_p27 : lw_okq (⟨"HalfHands$Journey", "bring", "(I)V"⟩, 14) := ⟨⟨by decide +kernel, by decide +kernel⟩, List.mem_of_getElem? (i := 251) (by decide +kernel), List.mem_of_getElem? (i := 760) (by decide +kernel), List.mem_of_getElem? (i := 761) (by decide +kernel)⟩
theorem lw_p28 : lw_okq (⟨"HalfHands$Journey", "shareOf", "(II)I"⟩, 14) := ⟨⟨by decide +kernel, by decide +kernel⟩, List.mem_of_getElem? (i := 251) (by decide +kernel), List.mem_of_getElem? (i := 764) (by decide +kernel), List.mem_of_getElem? (i := 765) (by decide +kernel)⟩
theorem lw_p29 : lw_okq (⟨"HalfHands$Journey", "ageOf", "(I)I"⟩, 14) := ⟨⟨by decide +kernel, by decide +kernel⟩, List.mem_of_getElem? (i := 251) (by decide +kernel), List.mem_of_getElem? (i := 768) (by decide +kernel), List.mem_of_getElem? (i := 769) (by decide +kernel)⟩
theorem lw_p30 : lw_okq (⟨"HalfHands", "isSent", "(IJI)Z"⟩, 14) := ⟨⟨by decide +kernel, by decide +kernel⟩, List.mem_of_getElem? (i := 26) (by decide +kernel), List.mem_of_getElem? (i := 834) (by decide +kernel), List.mem_of_getElem? (i := 835) (by decide +kernel)⟩
theorem lw_p31 : lw_okq (⟨"HalfHands", "isRow", "(IJ)Z"⟩, 14) := ⟨⟨by decide +kernel, by decide +kernel⟩, List.mem_of_getElem? (i := 26) (by decide +kernel), List.mem_of_getElem? (i := 838) (by decide +kernel), List.mem_of_getElem? (i := 839) (by decide +kernel)⟩
def lw_privs_2 : List (MethodName × Nat) := [(⟨"HalfHands$Reader", "passKnot", "()Z"⟩, 5), (⟨"HalfHands$Reader", "operand", "(I)Z"⟩, 5), (⟨"HalfHands$Reader", "enclosed", "(I)Z"⟩, 5), (⟨"HalfHands$Reader", "mayLine", "()Z"⟩, 5), (⟨"HalfHands$Journey", "start", "(LHalfHands$Telling;II)V"⟩, 14), (⟨"HalfHands$Journey", "pass", "()V"⟩, 14), (⟨"HalfHands$Journey", "isLeftOut", "(I)Z"⟩, 14), (⟨"HalfHands$Journey", "dispatch", "(I)V"⟩, 14), (⟨"HalfHands$Journey", "waysOf", "(I)I"⟩, 14), (⟨"HalfHands$Journey", "settle", "(II)V"⟩, 14), (⟨"HalfHands$Journey", "handOn", "(II)V"⟩, 14), (⟨"HalfHands$Journey", "bring", "(I)V"⟩, 14), (⟨"HalfHands$Journey", "shareOf", "(II)I"⟩, 14), (⟨"HalfHands$Journey", "ageOf", "(I)I"⟩, 14), (⟨"HalfHands", "isSent", "(IJI)Z"⟩, 14), (⟨"HalfHands", "isRow", "(IJ)Z"⟩, 14)]
theorem lw_r2 : ∀ q ∈ lw_privs_2, lw_okq q := List.forall_mem_cons.mpr ⟨lw_p16, List.forall_mem_cons.mpr ⟨lw_p17, List.forall_mem_cons.mpr ⟨lw_p18, List.forall_mem_cons.mpr ⟨lw_p19, List.forall_mem_cons.mpr ⟨lw_p20, List.forall_mem_cons.mpr ⟨lw_p21, List.forall_mem_cons.mpr ⟨lw_p22, List.forall_mem_cons.mpr ⟨lw_p23, List.forall_mem_cons.mpr ⟨lw_p24, List.forall_mem_cons.mpr ⟨lw_p25, List.forall_mem_cons.mpr ⟨lw_p26, List.forall_mem_cons.mpr ⟨lw_p27, List.forall_mem_cons.mpr ⟨lw_p28, List.forall_mem_cons.mpr ⟨lw_p29, List.forall_mem_cons.mpr ⟨lw_p30, List.forall_mem_cons.mpr ⟨lw_p31, fun _ h => absurd h List.not_mem_nil⟩⟩⟩⟩⟩⟩⟩⟩⟩⟩⟩⟩⟩⟩⟩⟩
theorem lw_p32 : lw_okq (⟨"HalfHands$Row", "ageAt", "(LHalfHands$Telling;I)I"⟩, 2) := ⟨⟨by decide +kernel, by decide +kernel⟩, List.mem_of_getElem? (i := 311) (by decide +kernel), List.mem_of_getElem? (i := 852) (by decide +kernel), List.mem_of_getElem? (i := 853) (by decide +kernel)⟩
theorem lw_p33 : lw_okq (⟨"HalfHands", "endOfBack", "(II)I"⟩, 14) := ⟨⟨by decide +kernel, by decide +kernel⟩, List.mem_of_getElem? (i := 26) (by decide +kernel), List.mem_of_getElem? (i := 877) (by decide +kernel), List.mem_of_getElem? (i := 878) (by decide +kernel)⟩
theorem lw_p34 : lw_okq (⟨"HalfHands$Orders", "askOddOnes", "()V"⟩, 12) := ⟨⟨by decide +kernel, by decide +kernel⟩, List.mem_of_getElem? (i := 326) (by decide +kernel), List.mem_of_getElem? (i := 910) (by decide +kernel), List.mem_of_getElem? (i := 911) (by decide +kernel)⟩
theorem lw_p35 : lw_okq (⟨"HalfHands$Orders", "askOddOne", "(IIII)V"⟩, 12) := ⟨⟨by decide +kernel, by decide +kernel⟩, List.mem_of_getElem? (i := 326) (by decide +kernel), List.mem_of_getElem? (i := 914) (by decide +kernel), List.mem_of_getElem? (i := 915) (by decide +kernel)⟩
theorem lw_p36 : lw_okq (⟨"HalfHands$Orders", "solved", "(II)I"⟩, 12) := ⟨⟨by decide +kernel, by decide +kernel⟩, List.mem_of_getElem? (i := 326) (by decide +kernel), List.mem_of_getElem? (i := 929) (by decide +kernel), List.mem_of_getElem? (i := 930) (by decide +kernel)⟩
theorem lw_p37 : lw_okq (⟨"HalfHands$Orders", "everybody", "()I"⟩, 12) := ⟨⟨by decide +kernel, by decide +kernel⟩, List.mem_of_getElem? (i := 326) (by decide +kernel), List.mem_of_getElem? (i := 933) (by decide +kernel), List.mem_of_getElem? (i := 934) (by decide +kernel)⟩
theorem lw_p38 : lw_okq (⟨"HalfHands$Orders", "judged", "(III)I"⟩, 12) := ⟨⟨by decide +kernel, by decide +kernel⟩, List.mem_of_getElem? (i := 326) (by decide +kernel), List.mem_of_getElem? (i := 943) (by decide +kernel), List.mem_of_getElem? (i := 944) (by decide +kernel)⟩
theorem lw_p39 : lw_okq (⟨"HalfHands$Orders", "judgedEnd", "(III)I"⟩, 12) := ⟨⟨by decide +kernel, by decide +kernel⟩, List.mem_of_getElem? (i := 326) (by decide +kernel), List.mem_of_getElem? (i := 953) (by decide +kernel), List.mem_of_getElem? (i := 954) (by decide +kernel)⟩
theorem lw_p40 : lw_okq (⟨"HalfHands$Orders", "handed", "(IIII)I"⟩, 12) := ⟨⟨by decide +kernel, by decide +kernel⟩, List.mem_of_getElem? (i := 326) (by decide +kernel), List.mem_of_getElem? (i := 957) (by decide +kernel), List.mem_of_getElem? (i := 958) (by decide +kernel)⟩
theorem lw_p41 : lw_okq (⟨"HalfHands$Orders", "isAskedOf", "(II)Z"⟩, 12) := ⟨⟨by decide +kernel, by decide +kernel⟩, List.mem_of_getElem? (i := 326) (by decide +kernel), List.mem_of_getElem? (i := 961) (by decide +kernel), List.mem_of_getElem? (i := 962) (by decide +kernel)⟩
theorem lw_p42 : lw_okq (⟨"HalfHands$Orders", "judgedStep", "(IIII)I"⟩, 12) := ⟨⟨by decide +kernel, by decide +kernel⟩, List.mem_of_getElem? (i := 326) (by decide +kernel), List.mem_of_getElem? (i := 966) (by decide +kernel), List.mem_of_getElem? (i := 967) (by decide +kernel)⟩
theorem lw_p43 : lw_okq (⟨"HalfHands$Orders", "overtaken", "(II)I"⟩, 12) := ⟨⟨by decide +kernel, by decide +kernel⟩, List.mem_of_getElem? (i := 326) (by decide +kernel), List.mem_of_getElem? (i := 970) (by decide +kernel), List.mem_of_getElem? (i := 971) (by decide +kernel)⟩
theorem lw_p44 : lw_okq (⟨"HalfHands$Orders", "joined", "(II)I"⟩, 12) := ⟨⟨by decide +kernel, by decide +kernel⟩, List.mem_of_getElem? (i := 326) (by decide +kernel), List.mem_of_getElem? (i := 974) (by decide +kernel), List.mem_of_getElem? (i := 975) (by decide +kernel)⟩
theorem lw_p45 : lw_okq (⟨"HalfHands$Orders", "laidRow", "(I)J"⟩, 12) := ⟨⟨by decide +kernel, by decide +kernel⟩, List.mem_of_getElem? (i := 326) (by decide +kernel), List.mem_of_getElem? (i := 997) (by decide +kernel), List.mem_of_getElem? (i := 998) (by decide +kernel)⟩
theorem lw_p46 : lw_okq (⟨"HalfHands$Orders", "lay", "(I)V"⟩, 12) := ⟨⟨by decide +kernel, by decide +kernel⟩, List.mem_of_getElem? (i := 326) (by decide +kernel), List.mem_of_getElem? (i := 1001) (by decide +kernel), List.mem_of_getElem? (i := 1002) (by decide +kernel)⟩
theorem lw_p47 : lw_okq (⟨"HalfHands$Orders", "chosen", "(IIII)I"⟩, 12) := ⟨⟨by decide +kernel, by decide +kernel⟩, List.mem_of_getElem? (i := 326) (by decide +kernel), List.mem_of_getElem? (i := 1005) (by decide +kernel), List.mem_of_getElem? (i := 1006) (by decide +kernel)⟩
def lw_privs_3 : List (MethodName × Nat) := [(⟨"HalfHands$Row", "ageAt", "(LHalfHands$Telling;I)I"⟩, 2), (⟨"HalfHands", "endOfBack", "(II)I"⟩, 14), (⟨"HalfHands$Orders", "askOddOnes", "()V"⟩, 12), (⟨"HalfHands$Orders", "askOddOne", "(IIII)V"⟩, 12), (⟨"HalfHands$Orders", "solved", "(II)I"⟩, 12), (⟨"HalfHands$Orders", "everybody", "()I"⟩, 12), (⟨"HalfHands$Orders", "judged", "(III)I"⟩, 12), (⟨"HalfHands$Orders", "judgedEnd", "(III)I"⟩, 12), (⟨"HalfHands$Orders", "handed", "(IIII)I"⟩, 12), (⟨"HalfHands$Orders", "isAskedOf", "(II)Z"⟩, 12), (⟨"HalfHands$Orders", "judgedStep", "(IIII)I"⟩, 12), (⟨"HalfHands$Orders", "overtaken", "(II)I"⟩, 12), (⟨"HalfHands$Orders", "joined", "(II)I"⟩, 12), (⟨"HalfHands$Orders", "laidRow", "(I)J"⟩, 12), (⟨"HalfHands$Orders", "lay", "(I)V"⟩, 12), (⟨"HalfHands$Orders", "chosen", "(IIII)I"⟩, 12)]
theorem lw_r3 : ∀ q ∈ lw_privs_3, lw_okq q := List.forall_mem_cons.mpr ⟨lw_p32, List.forall_mem_cons.mpr ⟨lw_p33, List.forall_mem_cons.mpr ⟨lw_p34, List.forall_mem_cons.mpr ⟨lw_p35, List.forall_mem_cons.mpr ⟨lw_p36, List.forall_mem_cons.mpr ⟨lw_p37, List.forall_mem_cons.mpr ⟨lw_p38, List.forall_mem_cons.mpr ⟨lw_p39, List.forall_mem_cons.mpr ⟨lw_p40, List.forall_mem_cons.mpr ⟨lw_p41, List.forall_mem_cons.mpr ⟨lw_p42, List.forall_mem_cons.mpr ⟨lw_p43, List.forall_mem_cons.mpr ⟨lw_p44, List.forall_mem_cons.mpr ⟨lw_p45, List.forall_mem_cons.mpr ⟨lw_p46, List.forall_mem_cons.mpr ⟨lw_p47, fun _ h => absurd h List.not_mem_nil⟩⟩⟩⟩⟩⟩⟩⟩⟩⟩⟩⟩⟩⟩⟩⟩
theorem lw_p48 : lw_okq (⟨"HalfHands$Orders", "leads", "(II)Z"⟩, 12) := ⟨⟨by decide +kernel, by decide +kernel⟩, List.mem_of_getElem? (i := 326) (by decide +kernel), List.mem_of_getElem? (i := 1009) (by decide +kernel), List.mem_of_getElem? (i := 1010) (by decide +kernel)⟩
theorem lw_p49 : lw_okq (⟨"HalfHands$Orders", "numberOf", "(I)I"⟩, 12) := ⟨⟨by decide +kernel, by decide +kernel⟩, List.mem_of_getElem? (i := 326) (by decide +kernel), List.mem_of_getElem? (i := 1040) (by decide +kernel), List.mem_of_getElem? (i := 1041) (by decide +kernel)⟩
theorem lw_p50 : lw_okq (⟨"HalfHands", "isOutdone", "(I)Z"⟩, 14) := ⟨⟨by decide +kernel, by decide +kernel⟩, List.mem_of_getElem? (i := 26) (by decide +kernel), List.mem_of_getElem? (i := 1079) (by decide +kernel), List.mem_of_getElem? (i := 1080) (by decide +kernel)⟩
theorem lw_p51 : lw_okq (⟨"HalfHands", "lawNumbered", "(I)I"⟩, 14) := ⟨⟨by decide +kernel, by decide +kernel⟩, List.mem_of_getElem? (i := 26) (by decide +kernel), List.mem_of_getElem? (i := 1121) (by decide +kernel), List.mem_of_getElem? (i := 1122) (by decide +kernel)⟩
theorem lw_p52 : lw_okq (⟨"HalfHands", "agrees", "(I)Z"⟩, 14) := ⟨⟨by decide +kernel, by decide +kernel⟩, List.mem_of_getElem? (i := 26) (by decide +kernel), List.mem_of_getElem? (i := 1125) (by decide +kernel), List.mem_of_getElem? (i := 1126) (by decide +kernel)⟩
theorem lw_p53 : lw_okq (⟨"HalfHands", "isTrial", "(II)Z"⟩, 14) := ⟨⟨by decide +kernel, by decide +kernel⟩, List.mem_of_getElem? (i := 26) (by decide +kernel), List.mem_of_getElem? (i := 1146) (by decide +kernel), List.mem_of_getElem? (i := 1147) (by decide +kernel)⟩
theorem lw_p54 : lw_okq (⟨"java/lang/Throwable", "fillInStackTrace", "(I)Ljava/lang/Throwable;"⟩, 6) := ⟨⟨by decide +kernel, by decide +kernel⟩, List.mem_of_getElem? (i := 1214) (by decide +kernel), List.mem_of_getElem? (i := 1212) (by decide +kernel), List.mem_of_getElem? (i := 1213) (by decide +kernel)⟩
theorem lw_p55 : lw_okq (⟨"HalfHandsModel", "token", "()V"⟩, 80) := ⟨⟨by decide +kernel, by decide +kernel⟩, List.mem_of_getElem? (i := 1255) (by decide +kernel), List.mem_of_getElem? (i := 1514) (by decide +kernel), List.mem_of_getElem? (i := 1515) (by decide +kernel)⟩
theorem lw_p56 : lw_okq (⟨"HalfHandsModel", "here", "()I"⟩, 80) := ⟨⟨by decide +kernel, by decide +kernel⟩, List.mem_of_getElem? (i := 1255) (by decide +kernel), List.mem_of_getElem? (i := 1518) (by decide +kernel), List.mem_of_getElem? (i := 1519) (by decide +kernel)⟩
theorem lw_p57 : lw_okq (⟨"HalfHandsModel", "word", "()I"⟩, 80) := ⟨⟨by decide +kernel, by decide +kernel⟩, List.mem_of_getElem? (i := 1255) (by decide +kernel), List.mem_of_getElem? (i := 1525) (by decide +kernel), List.mem_of_getElem? (i := 1526) (by decide +kernel)⟩
theorem lw_p58 : lw_okq (⟨"HalfHandsModel", "name", "()V"⟩, 80) := ⟨⟨by decide +kernel, by decide +kernel⟩, List.mem_of_getElem? (i := 1255) (by decide +kernel), List.mem_of_getElem? (i := 1532) (by decide +kernel), List.mem_of_getElem? (i := 1533) (by decide +kernel)⟩
theorem lw_p59 : lw_okq (⟨"HalfHandsModel", "sign", "(I)V"⟩, 80) := ⟨⟨by decide +kernel, by decide +kernel⟩, List.mem_of_getElem? (i := 1255) (by decide +kernel), List.mem_of_getElem? (i := 1540) (by decide +kernel), List.mem_of_getElem? (i := 1541) (by decide +kernel)⟩
theorem lw_p60 : lw_okq (⟨"HalfHandsModel", "line", "()V"⟩, 80) := ⟨⟨by decide +kernel, by decide +kernel⟩, List.mem_of_getElem? (i := 1255) (by decide +kernel), List.mem_of_getElem? (i := 1544) (by decide +kernel), List.mem_of_getElem? (i := 1545) (by decide +kernel)⟩
theorem lw_p61 : lw_okq (⟨"HalfHandsModel", "wrong", "(I)V"⟩, 80) := ⟨⟨by decide +kernel, by decide +kernel⟩, List.mem_of_getElem? (i := 1255) (by decide +kernel), List.mem_of_getElem? (i := 1548) (by decide +kernel), List.mem_of_getElem? (i := 1549) (by decide +kernel)⟩
theorem lw_p62 : lw_okq (⟨"HalfHandsModel", "fresher", "(I)I"⟩, 80) := ⟨⟨by decide +kernel, by decide +kernel⟩, List.mem_of_getElem? (i := 1255) (by decide +kernel), List.mem_of_getElem? (i := 1552) (by decide +kernel), List.mem_of_getElem? (i := 1553) (by decide +kernel)⟩
theorem lw_p63 : lw_okq (⟨"HalfHandsModel", "personLine", "(I)V"⟩, 80) := ⟨⟨by decide +kernel, by decide +kernel⟩, List.mem_of_getElem? (i := 1255) (by decide +kernel), List.mem_of_getElem? (i := 1556) (by decide +kernel), List.mem_of_getElem? (i := 1557) (by decide +kernel)⟩
def lw_privs_4 : List (MethodName × Nat) := [(⟨"HalfHands$Orders", "leads", "(II)Z"⟩, 12), (⟨"HalfHands$Orders", "numberOf", "(I)I"⟩, 12), (⟨"HalfHands", "isOutdone", "(I)Z"⟩, 14), (⟨"HalfHands", "lawNumbered", "(I)I"⟩, 14), (⟨"HalfHands", "agrees", "(I)Z"⟩, 14), (⟨"HalfHands", "isTrial", "(II)Z"⟩, 14), (⟨"java/lang/Throwable", "fillInStackTrace", "(I)Ljava/lang/Throwable;"⟩, 6), (⟨"HalfHandsModel", "token", "()V"⟩, 80), (⟨"HalfHandsModel", "here", "()I"⟩, 80), (⟨"HalfHandsModel", "word", "()I"⟩, 80), (⟨"HalfHandsModel", "name", "()V"⟩, 80), (⟨"HalfHandsModel", "sign", "(I)V"⟩, 80), (⟨"HalfHandsModel", "line", "()V"⟩, 80), (⟨"HalfHandsModel", "wrong", "(I)V"⟩, 80), (⟨"HalfHandsModel", "fresher", "(I)I"⟩, 80), (⟨"HalfHandsModel", "personLine", "(I)V"⟩, 80)]
theorem lw_r4 : ∀ q ∈ lw_privs_4, lw_okq q := List.forall_mem_cons.mpr ⟨lw_p48, List.forall_mem_cons.mpr ⟨lw_p49, List.forall_mem_cons.mpr ⟨lw_p50, List.forall_mem_cons.mpr ⟨lw_p51, List.forall_mem_cons.mpr ⟨lw_p52, List.forall_mem_cons.mpr ⟨lw_p53, List.forall_mem_cons.mpr ⟨lw_p54, List.forall_mem_cons.mpr ⟨lw_p55, List.forall_mem_cons.mpr ⟨lw_p56, List.forall_mem_cons.mpr ⟨lw_p57, List.forall_mem_cons.mpr ⟨lw_p58, List.forall_mem_cons.mpr ⟨lw_p59, List.forall_mem_cons.mpr ⟨lw_p60, List.forall_mem_cons.mpr ⟨lw_p61, List.forall_mem_cons.mpr ⟨lw_p62, List.forall_mem_cons.mpr ⟨lw_p63, fun _ h => absurd h List.not_mem_nil⟩⟩⟩⟩⟩⟩⟩⟩⟩⟩⟩⟩⟩⟩⟩⟩
theorem lw_p64 : lw_okq (⟨"HalfHandsModel", "fresh", "([III)I"⟩, 80) := ⟨⟨by decide +kernel, by decide +kernel⟩, List.mem_of_getElem? (i := 1255) (by decide +kernel), List.mem_of_getElem? (i := 1560) (by decide +kernel), List.mem_of_getElem? (i := 1561) (by decide +kernel)⟩
theorem lw_p65 : lw_okq (⟨"HalfHandsModel", "numeral", "(II)I"⟩, 80) := ⟨⟨by decide +kernel, by decide +kernel⟩, List.mem_of_getElem? (i := 1255) (by decide +kernel), List.mem_of_getElem? (i := 1567) (by decide +kernel), List.mem_of_getElem? (i := 1568) (by decide +kernel)⟩
theorem lw_p66 : lw_okq (⟨"HalfHandsModel", "isWord", "(I)Z"⟩, 80) := ⟨⟨by decide +kernel, by decide +kernel⟩, List.mem_of_getElem? (i := 1255) (by decide +kernel), List.mem_of_getElem? (i := 1571) (by decide +kernel), List.mem_of_getElem? (i := 1572) (by decide +kernel)⟩
theorem lw_p67 : lw_okq (⟨"HalfHandsModel", "oneMore", "(I)V"⟩, 80) := ⟨⟨by decide +kernel, by decide +kernel⟩, List.mem_of_getElem? (i := 1255) (by decide +kernel), List.mem_of_getElem? (i := 1575) (by decide +kernel), List.mem_of_getElem? (i := 1576) (by decide +kernel)⟩
theorem lw_p68 : lw_okq (⟨"HalfHandsModel", "handsLine", "()V"⟩, 80) := ⟨⟨by decide +kernel, by decide +kernel⟩, List.mem_of_getElem? (i := 1255) (by decide +kernel), List.mem_of_getElem? (i := 1579) (by decide +kernel), List.mem_of_getElem? (i := 1580) (by decide +kernel)⟩
theorem lw_p69 : lw_okq (⟨"HalfHandsModel", "person", "()I"⟩, 80) := ⟨⟨by decide +kernel, by decide +kernel⟩, List.mem_of_getElem? (i := 1255) (by decide +kernel), List.mem_of_getElem? (i := 1583) (by decide +kernel), List.mem_of_getElem? (i := 1584) (by decide +kernel)⟩
theorem lw_p70 : lw_okq (⟨"HalfHandsModel", "goOn", "()V"⟩, 80) := ⟨⟨by decide +kernel, by decide +kernel⟩, List.mem_of_getElem? (i := 1255) (by decide +kernel), List.mem_of_getElem? (i := 1587) (by decide +kernel), List.mem_of_getElem? (i := 1588) (by decide +kernel)⟩
theorem lw_p71 : lw_okq (⟨"HalfHandsModel", "handsOne", "(I)V"⟩, 80) := ⟨⟨by decide +kernel, by decide +kernel⟩, List.mem_of_getElem? (i := 1255) (by decide +kernel), List.mem_of_getElem? (i := 1591) (by decide +kernel), List.mem_of_getElem? (i := 1592) (by decide +kernel)⟩
theorem lw_p72 : lw_okq (⟨"HalfHandsModel", "parcelLine", "(I)V"⟩, 80) := ⟨⟨by decide +kernel, by decide +kernel⟩, List.mem_of_getElem? (i := 1255) (by decide +kernel), List.mem_of_getElem? (i := 1595) (by decide +kernel), List.mem_of_getElem? (i := 1596) (by decide +kernel)⟩
theorem lw_p73 : lw_okq (⟨"HalfHandsModel", "expression", "()V"⟩, 80) := ⟨⟨by decide +kernel, by decide +kernel⟩, List.mem_of_getElem? (i := 1255) (by decide +kernel), List.mem_of_getElem? (i := 1599) (by decide +kernel), List.mem_of_getElem? (i := 1600) (by decide +kernel)⟩
theorem lw_p74 : lw_okq (⟨"HalfHandsModel", "conjunction", "()V"⟩, 80) := ⟨⟨by decide +kernel, by decide +kernel⟩, List.mem_of_getElem? (i := 1255) (by decide +kernel), List.mem_of_getElem? (i := 1603) (by decide +kernel), List.mem_of_getElem? (i := 1604) (by decide +kernel)⟩
theorem lw_p75 : lw_okq (⟨"HalfHandsModel", "negation", "()V"⟩, 80) := ⟨⟨by decide +kernel, by decide +kernel⟩, List.mem_of_getElem? (i := 1255) (by decide +kernel), List.mem_of_getElem? (i := 1607) (by decide +kernel), List.mem_of_getElem? (i := 1608) (by decide +kernel)⟩
theorem lw_p76 : lw_okq (⟨"HalfHandsModel", "knot", "()V"⟩, 80) := ⟨⟨by decide +kernel, by decide +kernel⟩, List.mem_of_getElem? (i := 1255) (by decide +kernel), List.mem_of_getElem? (i := 1611) (by decide +kernel), List.mem_of_getElem? (i := 1612) (by decide +kernel)⟩
theorem lw_p77 : lw_okq (⟨"HalfHandsModel", "puts", "(II)V"⟩, 80) := ⟨⟨by decide +kernel, by decide +kernel⟩, List.mem_of_getElem? (i := 1255) (by decide +kernel), List.mem_of_getElem? (i := 1615) (by decide +kernel), List.mem_of_getElem? (i := 1616) (by decide +kernel)⟩
theorem lw_p78 : lw_okq (⟨"HalfHandsModel", "sum", "()V"⟩, 80) := ⟨⟨by decide +kernel, by decide +kernel⟩, List.mem_of_getElem? (i := 1255) (by decide +kernel), List.mem_of_getElem? (i := 1619) (by decide +kernel), List.mem_of_getElem? (i := 1620) (by decide +kernel)⟩
theorem lw_p79 : lw_okq (⟨"HalfHandsModel", "product", "()V"⟩, 80) := ⟨⟨by decide +kernel, by decide +kernel⟩, List.mem_of_getElem? (i := 1255) (by decide +kernel), List.mem_of_getElem? (i := 1623) (by decide +kernel), List.mem_of_getElem? (i := 1624) (by decide +kernel)⟩
def lw_privs_5 : List (MethodName × Nat) := [(⟨"HalfHandsModel", "fresh", "([III)I"⟩, 80), (⟨"HalfHandsModel", "numeral", "(II)I"⟩, 80), (⟨"HalfHandsModel", "isWord", "(I)Z"⟩, 80), (⟨"HalfHandsModel", "oneMore", "(I)V"⟩, 80), (⟨"HalfHandsModel", "handsLine", "()V"⟩, 80), (⟨"HalfHandsModel", "person", "()I"⟩, 80), (⟨"HalfHandsModel", "goOn", "()V"⟩, 80), (⟨"HalfHandsModel", "handsOne", "(I)V"⟩, 80), (⟨"HalfHandsModel", "parcelLine", "(I)V"⟩, 80), (⟨"HalfHandsModel", "expression", "()V"⟩, 80), (⟨"HalfHandsModel", "conjunction", "()V"⟩, 80), (⟨"HalfHandsModel", "negation", "()V"⟩, 80), (⟨"HalfHandsModel", "knot", "()V"⟩, 80), (⟨"HalfHandsModel", "puts", "(II)V"⟩, 80), (⟨"HalfHandsModel", "sum", "()V"⟩, 80), (⟨"HalfHandsModel", "product", "()V"⟩, 80)]
theorem lw_r5 : ∀ q ∈ lw_privs_5, lw_okq q := List.forall_mem_cons.mpr ⟨lw_p64, List.forall_mem_cons.mpr ⟨lw_p65, List.forall_mem_cons.mpr ⟨lw_p66, List.forall_mem_cons.mpr ⟨lw_p67, List.forall_mem_cons.mpr ⟨lw_p68, List.forall_mem_cons.mpr ⟨lw_p69, List.forall_mem_cons.mpr ⟨lw_p70, List.forall_mem_cons.mpr ⟨lw_p71, List.forall_mem_cons.mpr ⟨lw_p72, List.forall_mem_cons.mpr ⟨lw_p73, List.forall_mem_cons.mpr ⟨lw_p74, List.forall_mem_cons.mpr ⟨lw_p75, List.forall_mem_cons.mpr ⟨lw_p76, List.forall_mem_cons.mpr ⟨lw_p77, List.forall_mem_cons.mpr ⟨lw_p78, List.forall_mem_cons.mpr ⟨lw_p79, fun _ h => absurd h List.not_mem_nil⟩⟩⟩⟩⟩⟩⟩⟩⟩⟩⟩⟩⟩⟩⟩⟩
theorem lw_p80 : lw_okq (⟨"HalfHandsModel", "primary", "()V"⟩, 80) := ⟨⟨by decide +kernel, by decide +kernel⟩, List.mem_of_getElem? (i := 1255) (by decide +kernel), List.mem_of_getElem? (i := 1627) (by decide +kernel), List.mem_of_getElem? (i := 1628) (by decide +kernel)⟩
theorem lw_p81 : lw_okq (⟨"HalfHandsModel", "isSign", "(I)Z"⟩, 80) := ⟨⟨by decide +kernel, by decide +kernel⟩, List.mem_of_getElem? (i := 1255) (by decide +kernel), List.mem_of_getElem? (i := 1631) (by decide +kernel), List.mem_of_getElem? (i := 1632) (by decide +kernel)⟩
theorem lw_p82 : lw_okq (⟨"HalfHandsModel", "plain", "()V"⟩, 80) := ⟨⟨by decide +kernel, by decide +kernel⟩, List.mem_of_getElem? (i := 1255) (by decide +kernel), List.mem_of_getElem? (i := 1638) (by decide +kernel), List.mem_of_getElem? (i := 1639) (by decide +kernel)⟩
theorem lw_p83 : lw_okq (⟨"HalfHandsModel", "begins", "(I)V"⟩, 80) := ⟨⟨by decide +kernel, by decide +kernel⟩, List.mem_of_getElem? (i := 1255) (by decide +kernel), List.mem_of_getElem? (i := 1642) (by decide +kernel), List.mem_of_getElem? (i := 1643) (by decide +kernel)⟩
theorem lw_p84 : lw_okq (⟨"HalfHandsModel", "newParcel", "(I)V"⟩, 80) := ⟨⟨by decide +kernel, by decide +kernel⟩, List.mem_of_getElem? (i := 1255) (by decide +kernel), List.mem_of_getElem? (i := 1646) (by decide +kernel), List.mem_of_getElem? (i := 1647) (by decide +kernel)⟩
theorem lw_p85 : lw_okq (⟨"HalfHandsModel", "lays", "(IIIII)V"⟩, 80) := ⟨⟨by decide +kernel, by decide +kernel⟩, List.mem_of_getElem? (i := 1255) (by decide +kernel), List.mem_of_getElem? (i := 1663) (by decide +kernel), List.mem_of_getElem? (i := 1664) (by decide +kernel)⟩
theorem lw_p86 : lw_okq (⟨"HalfHandsModel", "goes", "(I)Z"⟩, 80) := ⟨⟨by decide +kernel, by decide +kernel⟩, List.mem_of_getElem? (i := 1255) (by decide +kernel), List.mem_of_getElem? (i := 1670) (by decide +kernel), List.mem_of_getElem? (i := 1671) (by decide +kernel)⟩
theorem lw_p87 : lw_okq (⟨"HalfHandsModel", "works", "(I)Z"⟩, 80) := ⟨⟨by decide +kernel, by decide +kernel⟩, List.mem_of_getElem? (i := 1255) (by decide +kernel), List.mem_of_getElem? (i := 1674) (by decide +kernel), List.mem_of_getElem? (i := 1675) (by decide +kernel)⟩
theorem lw_p88 : lw_okq (⟨"HalfHandsModel", "isPerson", "(I)Z"⟩, 80) := ⟨⟨by decide +kernel, by decide +kernel⟩, List.mem_of_getElem? (i := 1255) (by decide +kernel), List.mem_of_getElem? (i := 1687) (by decide +kernel), List.mem_of_getElem? (i := 1688) (by decide +kernel)⟩
theorem lw_p89 : lw_okq (⟨"HalfHandsModel", "passes", "(I)V"⟩, 80) := ⟨⟨by decide +kernel, by decide +kernel⟩, List.mem_of_getElem? (i := 1255) (by decide +kernel), List.mem_of_getElem? (i := 1695) (by decide +kernel), List.mem_of_getElem? (i := 1696) (by decide +kernel)⟩
theorem lw_p90 : lw_okq (⟨"HalfHandsModel", "manyOf", "(I)I"⟩, 80) := ⟨⟨by decide +kernel, by decide +kernel⟩, List.mem_of_getElem? (i := 1255) (by decide +kernel), List.mem_of_getElem? (i := 1699) (by decide +kernel), List.mem_of_getElem? (i := 1700) (by decide +kernel)⟩
theorem lw_p91 : lw_okq (⟨"HalfHandsModel", "rests", "(IIII)V"⟩, 80) := ⟨⟨by decide +kernel, by decide +kernel⟩, List.mem_of_getElem? (i := 1255) (by decide +kernel), List.mem_of_getElem? (i := 1704) (by decide +kernel), List.mem_of_getElem? (i := 1705) (by decide +kernel)⟩
theorem lw_p92 : lw_okq (⟨"HalfHandsModel", "handsOn", "(IIII)V"⟩, 80) := ⟨⟨by decide +kernel, by decide +kernel⟩, List.mem_of_getElem? (i := 1255) (by decide +kernel), List.mem_of_getElem? (i := 1708) (by decide +kernel), List.mem_of_getElem? (i := 1709) (by decide +kernel)⟩
theorem lw_p93 : lw_okq (⟨"HalfHandsModel", "nextOf", "(II)I"⟩, 80) := ⟨⟨by decide +kernel, by decide +kernel⟩, List.mem_of_getElem? (i := 1255) (by decide +kernel), List.mem_of_getElem? (i := 1712) (by decide +kernel), List.mem_of_getElem? (i := 1713) (by decide +kernel)⟩
theorem lw_p94 : lw_okq (⟨"HalfHandsModel", "comes", "(II)V"⟩, 80) := ⟨⟨by decide +kernel, by decide +kernel⟩, List.mem_of_getElem? (i := 1255) (by decide +kernel), List.mem_of_getElem? (i := 1716) (by decide +kernel), List.mem_of_getElem? (i := 1717) (by decide +kernel)⟩
theorem lw_p95 : lw_okq (⟨"HalfHandsModel", "kept", "(IIIII)I"⟩, 80) := ⟨⟨by decide +kernel, by decide +kernel⟩, List.mem_of_getElem? (i := 1255) (by decide +kernel), List.mem_of_getElem? (i := 1720) (by decide +kernel), List.mem_of_getElem? (i := 1721) (by decide +kernel)⟩
def lw_privs_6 : List (MethodName × Nat) := [(⟨"HalfHandsModel", "primary", "()V"⟩, 80), (⟨"HalfHandsModel", "isSign", "(I)Z"⟩, 80), (⟨"HalfHandsModel", "plain", "()V"⟩, 80), (⟨"HalfHandsModel", "begins", "(I)V"⟩, 80), (⟨"HalfHandsModel", "newParcel", "(I)V"⟩, 80), (⟨"HalfHandsModel", "lays", "(IIIII)V"⟩, 80), (⟨"HalfHandsModel", "goes", "(I)Z"⟩, 80), (⟨"HalfHandsModel", "works", "(I)Z"⟩, 80), (⟨"HalfHandsModel", "isPerson", "(I)Z"⟩, 80), (⟨"HalfHandsModel", "passes", "(I)V"⟩, 80), (⟨"HalfHandsModel", "manyOf", "(I)I"⟩, 80), (⟨"HalfHandsModel", "rests", "(IIII)V"⟩, 80), (⟨"HalfHandsModel", "handsOn", "(IIII)V"⟩, 80), (⟨"HalfHandsModel", "nextOf", "(II)I"⟩, 80), (⟨"HalfHandsModel", "comes", "(II)V"⟩, 80), (⟨"HalfHandsModel", "kept", "(IIIII)I"⟩, 80)]
theorem lw_r6 : ∀ q ∈ lw_privs_6, lw_okq q := List.forall_mem_cons.mpr ⟨lw_p80, List.forall_mem_cons.mpr ⟨lw_p81, List.forall_mem_cons.mpr ⟨lw_p82, List.forall_mem_cons.mpr ⟨lw_p83, List.forall_mem_cons.mpr ⟨lw_p84, List.forall_mem_cons.mpr ⟨lw_p85, List.forall_mem_cons.mpr ⟨lw_p86, List.forall_mem_cons.mpr ⟨lw_p87, List.forall_mem_cons.mpr ⟨lw_p88, List.forall_mem_cons.mpr ⟨lw_p89, List.forall_mem_cons.mpr ⟨lw_p90, List.forall_mem_cons.mpr ⟨lw_p91, List.forall_mem_cons.mpr ⟨lw_p92, List.forall_mem_cons.mpr ⟨lw_p93, List.forall_mem_cons.mpr ⟨lw_p94, List.forall_mem_cons.mpr ⟨lw_p95, fun _ h => absurd h List.not_mem_nil⟩⟩⟩⟩⟩⟩⟩⟩⟩⟩⟩⟩⟩⟩⟩⟩
theorem lw_p96 : lw_okq (⟨"HalfHandsModel", "ageOf", "(I)I"⟩, 80) := ⟨⟨by decide +kernel, by decide +kernel⟩, List.mem_of_getElem? (i := 1255) (by decide +kernel), List.mem_of_getElem? (i := 1724) (by decide +kernel), List.mem_of_getElem? (i := 1725) (by decide +kernel)⟩
theorem lw_p97 : lw_okq (⟨"HalfHandsModel", "isParcel", "(I)Z"⟩, 80) := ⟨⟨by decide +kernel, by decide +kernel⟩, List.mem_of_getElem? (i := 1255) (by decide +kernel), List.mem_of_getElem? (i := 1736) (by decide +kernel), List.mem_of_getElem? (i := 1737) (by decide +kernel)⟩
theorem lw_p98 : lw_okq (⟨"HalfHandsModel", "copies", "(II)V"⟩, 80) := ⟨⟨by decide +kernel, by decide +kernel⟩, List.mem_of_getElem? (i := 1255) (by decide +kernel), List.mem_of_getElem? (i := 1748) (by decide +kernel), List.mem_of_getElem? (i := 1749) (by decide +kernel)⟩
theorem lw_p99 : lw_okq (⟨"HalfHandsModel", "isAllRest", "(I)Z"⟩, 80) := ⟨⟨by decide +kernel, by decide +kernel⟩, List.mem_of_getElem? (i := 1255) (by decide +kernel), List.mem_of_getElem? (i := 1752) (by decide +kernel), List.mem_of_getElem? (i := 1753) (by decide +kernel)⟩
theorem lw_p100 : lw_okq (⟨"HalfHandsModel", "takesSent", "(IJI)Z"⟩, 80) := ⟨⟨by decide +kernel, by decide +kernel⟩, List.mem_of_getElem? (i := 1255) (by decide +kernel), List.mem_of_getElem? (i := 1760) (by decide +kernel), List.mem_of_getElem? (i := 1761) (by decide +kernel)⟩
theorem lw_p101 : lw_okq (⟨"HalfHandsModel", "takes", "(IJ)Z"⟩, 80) := ⟨⟨by decide +kernel, by decide +kernel⟩, List.mem_of_getElem? (i := 1255) (by decide +kernel), List.mem_of_getElem? (i := 1765) (by decide +kernel), List.mem_of_getElem? (i := 1766) (by decide +kernel)⟩
theorem lw_p102 : lw_okq (⟨"HalfHandsModel", "sends", "(I)I"⟩, 80) := ⟨⟨by decide +kernel, by decide +kernel⟩, List.mem_of_getElem? (i := 1255) (by decide +kernel), List.mem_of_getElem? (i := 1770) (by decide +kernel), List.mem_of_getElem? (i := 1771) (by decide +kernel)⟩
theorem lw_p103 : lw_okq (⟨"HalfHandsModel", "laysBack", "(IJI)Z"⟩, 80) := ⟨⟨by decide +kernel, by decide +kernel⟩, List.mem_of_getElem? (i := 1255) (by decide +kernel), List.mem_of_getElem? (i := 1782) (by decide +kernel), List.mem_of_getElem? (i := 1783) (by decide +kernel)⟩
theorem lw_p104 : lw_okq (⟨"HalfHandsModel", "backs", "(I)V"⟩, 80) := ⟨⟨by decide +kernel, by decide +kernel⟩, List.mem_of_getElem? (i := 1255) (by decide +kernel), List.mem_of_getElem? (i := 1786) (by decide +kernel), List.mem_of_getElem? (i := 1787) (by decide +kernel)⟩
theorem lw_p105 : lw_okq (⟨"HalfHandsModel", "goesOn", "(JI)I"⟩, 80) := ⟨⟨by decide +kernel, by decide +kernel⟩, List.mem_of_getElem? (i := 1255) (by decide +kernel), List.mem_of_getElem? (i := 1792) (by decide +kernel), List.mem_of_getElem? (i := 1793) (by decide +kernel)⟩
theorem lw_p106 : lw_okq (⟨"HalfHandsModel", "goesThrough", "(IIII)V"⟩, 80) := ⟨⟨by decide +kernel, by decide +kernel⟩, List.mem_of_getElem? (i := 1255) (by decide +kernel), List.mem_of_getElem? (i := 1808) (by decide +kernel), List.mem_of_getElem? (i := 1809) (by decide +kernel)⟩
theorem lw_p107 : lw_okq (⟨"HalfHandsModel", "turns", "(II)V"⟩, 80) := ⟨⟨by decide +kernel, by decide +kernel⟩, List.mem_of_getElem? (i := 1255) (by decide +kernel), List.mem_of_getElem? (i := 1812) (by decide +kernel), List.mem_of_getElem? (i := 1813) (by decide +kernel)⟩
theorem lw_p108 : lw_okq (⟨"HalfHandsModel", "sees", "()V"⟩, 80) := ⟨⟨by decide +kernel, by decide +kernel⟩, List.mem_of_getElem? (i := 1255) (by decide +kernel), List.mem_of_getElem? (i := 1816) (by decide +kernel), List.mem_of_getElem? (i := 1817) (by decide +kernel)⟩
theorem lw_p109 : lw_okq (⟨"HalfHandsModel", "rowAsLong", "()J"⟩, 80) := ⟨⟨by decide +kernel, by decide +kernel⟩, List.mem_of_getElem? (i := 1255) (by decide +kernel), List.mem_of_getElem? (i := 1820) (by decide +kernel), List.mem_of_getElem? (i := 1821) (by decide +kernel)⟩
theorem lw_p110 : lw_okq (⟨"HalfHandsModel", "changesTo", "()I"⟩, 80) := ⟨⟨by decide +kernel, by decide +kernel⟩, List.mem_of_getElem? (i := 1255) (by decide +kernel), List.mem_of_getElem? (i := 1824) (by decide +kernel), List.mem_of_getElem? (i := 1825) (by decide +kernel)⟩
theorem lw_p111 : lw_okq (⟨"HalfHandsModel", "placeOf", "(I)I"⟩, 80) := ⟨⟨by decide +kernel, by decide +kernel⟩, List.mem_of_getElem? (i := 1255) (by decide +kernel), List.mem_of_getElem? (i := 1828) (by decide +kernel), List.mem_of_getElem? (i := 1829) (by decide +kernel)⟩
def lw_privs_7 : List (MethodName × Nat) := [(⟨"HalfHandsModel", "ageOf", "(I)I"⟩, 80), (⟨"HalfHandsModel", "isParcel", "(I)Z"⟩, 80), (⟨"HalfHandsModel", "copies", "(II)V"⟩, 80), (⟨"HalfHandsModel", "isAllRest", "(I)Z"⟩, 80), (⟨"HalfHandsModel", "takesSent", "(IJI)Z"⟩, 80), (⟨"HalfHandsModel", "takes", "(IJ)Z"⟩, 80), (⟨"HalfHandsModel", "sends", "(I)I"⟩, 80), (⟨"HalfHandsModel", "laysBack", "(IJI)Z"⟩, 80), (⟨"HalfHandsModel", "backs", "(I)V"⟩, 80), (⟨"HalfHandsModel", "goesOn", "(JI)I"⟩, 80), (⟨"HalfHandsModel", "goesThrough", "(IIII)V"⟩, 80), (⟨"HalfHandsModel", "turns", "(II)V"⟩, 80), (⟨"HalfHandsModel", "sees", "()V"⟩, 80), (⟨"HalfHandsModel", "rowAsLong", "()J"⟩, 80), (⟨"HalfHandsModel", "changesTo", "()I"⟩, 80), (⟨"HalfHandsModel", "placeOf", "(I)I"⟩, 80)]
theorem lw_r7 : ∀ q ∈ lw_privs_7, lw_okq q := List.forall_mem_cons.mpr ⟨lw_p96, List.forall_mem_cons.mpr ⟨lw_p97, List.forall_mem_cons.mpr ⟨lw_p98, List.forall_mem_cons.mpr ⟨lw_p99, List.forall_mem_cons.mpr ⟨lw_p100, List.forall_mem_cons.mpr ⟨lw_p101, List.forall_mem_cons.mpr ⟨lw_p102, List.forall_mem_cons.mpr ⟨lw_p103, List.forall_mem_cons.mpr ⟨lw_p104, List.forall_mem_cons.mpr ⟨lw_p105, List.forall_mem_cons.mpr ⟨lw_p106, List.forall_mem_cons.mpr ⟨lw_p107, List.forall_mem_cons.mpr ⟨lw_p108, List.forall_mem_cons.mpr ⟨lw_p109, List.forall_mem_cons.mpr ⟨lw_p110, List.forall_mem_cons.mpr ⟨lw_p111, fun _ h => absurd h List.not_mem_nil⟩⟩⟩⟩⟩⟩⟩⟩⟩⟩⟩⟩⟩⟩⟩⟩
theorem lw_p112 : lw_okq (⟨"HalfHandsModel", "isAimed", "(IJII)Z"⟩, 80) := ⟨⟨by decide +kernel, by decide +kernel⟩, List.mem_of_getElem? (i := 1255) (by decide +kernel), List.mem_of_getElem? (i := 1841) (by decide +kernel), List.mem_of_getElem? (i := 1842) (by decide +kernel)⟩
theorem lw_p113 : lw_okq (⟨"HalfHandsModel", "knownMany", "()I"⟩, 80) := ⟨⟨by decide +kernel, by decide +kernel⟩, List.mem_of_getElem? (i := 1255) (by decide +kernel), List.mem_of_getElem? (i := 1891) (by decide +kernel), List.mem_of_getElem? (i := 1892) (by decide +kernel)⟩
theorem lw_p114 : lw_okq (⟨"HalfHandsModel", "lawOf", "(I)I"⟩, 80) := ⟨⟨by decide +kernel, by decide +kernel⟩, List.mem_of_getElem? (i := 1255) (by decide +kernel), List.mem_of_getElem? (i := 1895) (by decide +kernel), List.mem_of_getElem? (i := 1896) (by decide +kernel)⟩
theorem lw_p115 : lw_okq (⟨"HalfHandsModel", "goesAsNoted", "()Z"⟩, 80) := ⟨⟨by decide +kernel, by decide +kernel⟩, List.mem_of_getElem? (i := 1255) (by decide +kernel), List.mem_of_getElem? (i := 1899) (by decide +kernel), List.mem_of_getElem? (i := 1900) (by decide +kernel)⟩
def lw_privs_8 : List (MethodName × Nat) := [(⟨"HalfHandsModel", "isAimed", "(IJII)Z"⟩, 80), (⟨"HalfHandsModel", "knownMany", "()I"⟩, 80), (⟨"HalfHandsModel", "lawOf", "(I)I"⟩, 80), (⟨"HalfHandsModel", "goesAsNoted", "()Z"⟩, 80)]
theorem lw_r8 : ∀ q ∈ lw_privs_8, lw_okq q := List.forall_mem_cons.mpr ⟨lw_p112, List.forall_mem_cons.mpr ⟨lw_p113, List.forall_mem_cons.mpr ⟨lw_p114, List.forall_mem_cons.mpr ⟨lw_p115, fun _ h => absurd h List.not_mem_nil⟩⟩⟩⟩
def lw_privs : List (MethodName × Nat) := lw_privs_1 ++ (lw_privs_2 ++ (lw_privs_3 ++ (lw_privs_4 ++ (lw_privs_5 ++ (lw_privs_6 ++ (lw_privs_7 ++ (lw_privs_8)))))))
def lw_tbl : List Cond := k2_sels lw_privs ++ tables_1
theorem lw_privs_ok : ∀ q ∈ lw_privs, lw_okq q := by
  show ∀ q ∈ lw_privs_1 ++ (lw_privs_2 ++ (lw_privs_3 ++ (lw_privs_4 ++ (lw_privs_5 ++ (lw_privs_6 ++ (lw_privs_7 ++ (lw_privs_8))))))), lw_okq q
  exact List.forall_mem_append.mpr ⟨lw_r1, List.forall_mem_append.mpr ⟨lw_r2, List.forall_mem_append.mpr ⟨lw_r3, List.forall_mem_append.mpr ⟨lw_r4, List.forall_mem_append.mpr ⟨lw_r5, List.forall_mem_append.mpr ⟨lw_r6, List.forall_mem_append.mpr ⟨lw_r7, lw_r8⟩⟩⟩⟩⟩⟩⟩
-- ===== end of PART A; then your names; then what follows =====
end
section
/-! The cells: classes by number, their fields; which cells there are behind the constructors, and what the references hold that never change. Printed by wip/gen/cells.py. -/
def jR0 : String := "HalfHands$Journey"
def jT0 : u_T := fun k => match k with
  | 0 => ("HalfHands$Journey", "hour", "I", false)
  | 1 => ("HalfHands$Journey", "purses", "[I", true)
  | 2 => ("HalfHands$Journey", "turns", "[I", true)
  | 3 => ("HalfHands$Journey", "parcels", "I", false)
  | 4 => ("HalfHands$Journey", "from", "[I", true)
  | 5 => ("HalfHands$Journey", "wholes", "[I", true)
  | 6 => ("HalfHands$Journey", "due", "[I", true)
  | 7 => ("HalfHands$Journey", "states", "[I", true)
  | 8 => ("HalfHands$Journey", "left", "[I", true)
  | 9 => ("HalfHands$Journey", "hands", "[I", true)
  | 10 => ("HalfHands$Journey", "to", "[I", true)
  | 11 => ("HalfHands$Journey", "told", "LHalfHands$Telling;", false)
  | 12 => ("HalfHands$Journey", "otherwise", "I", false)
  | _ => ("HalfHands$Journey", "whose", "I", false)
def jY0 : Nat → FieldType := fun k => match k with
  | 0 => .int
  | 1 => .array .int
  | 2 => .array .int
  | 3 => .int
  | 4 => .array .int
  | 5 => .array .int
  | 6 => .array .int
  | 7 => .array .int
  | 8 => .array .int
  | 9 => .array .int
  | 10 => .array .int
  | 11 => .object "HalfHands$Telling"
  | 12 => .int
  | _ => .int
def jR1 : String := "HalfHands$Laws"
def jT1 : u_T := fun k => match k with
  | 0 => ("HalfHands$Laws", "knots", "I", false)
  | 1 => ("HalfHands$Laws", "toldLaw", "Z", false)
  | 2 => ("HalfHands$Laws", "written", "I", false)
  | 3 => ("HalfHands$Laws", "kinds", "[I", true)
  | 4 => ("HalfHands$Laws", "numbers", "[I", true)
  | 5 => ("HalfHands$Laws", "starts", "[I", true)
  | 6 => ("HalfHands$Laws", "ends", "[I", true)
  | 7 => ("HalfHands$Laws", "names", "[I", true)
  | _ => ("HalfHands$Laws", "stack", "[J", true)
def jY1 : Nat → FieldType := fun k => match k with
  | 0 => .int
  | 1 => .boolean
  | 2 => .int
  | 3 => .array .int
  | 4 => .array .int
  | 5 => .array .int
  | 6 => .array .int
  | 7 => .array .int
  | _ => .array .long
def jR2 : String := "HalfHands$Notes"
def jT2 : u_T := fun k => match k with
  | 0 => ("HalfHands$Notes", "size", "I", false)
  | 1 => ("HalfHands$Notes", "knownBy", "I", false)
  | 2 => ("HalfHands$Notes", "lengths", "[I", true)
  | 3 => ("HalfHands$Notes", "rows", "[J", true)
  | 4 => ("HalfHands$Notes", "coins", "[I", true)
  | 5 => ("HalfHands$Notes", "lows", "[I", true)
  | 6 => ("HalfHands$Notes", "highs", "[I", true)
  | 7 => ("HalfHands$Notes", "targets", "[I", true)
  | _ => ("HalfHands$Notes", "struck", "[Z", true)
def jY2 : Nat → FieldType := fun k => match k with
  | 0 => .int
  | 1 => .int
  | 2 => .array .int
  | 3 => .array .long
  | 4 => .array .int
  | 5 => .array .int
  | 6 => .array .int
  | 7 => .array .int
  | _ => .array .boolean
def jR3 : String := "HalfHands$Orders"
def jT3 : u_T := fun k => match k with
  | 0 => ("HalfHands$Orders", "row", "LHalfHands$Row;", true)
  | 1 => ("HalfHands$Orders", "told", "LHalfHands$Telling;", false)
  | 2 => ("HalfHands$Orders", "size", "I", false)
  | 3 => ("HalfHands$Orders", "carriers", "[I", true)
  | 4 => ("HalfHands$Orders", "homes", "[I", true)
  | 5 => ("HalfHands$Orders", "floors", "[I", true)
  | 6 => ("HalfHands$Orders", "stays", "[Z", true)
  | 7 => ("HalfHands$Orders", "table", "[I", true)
  | 8 => ("HalfHands$Orders", "laid", "[I", true)
  | 9 => ("HalfHands$Orders", "laidSize", "I", false)
  | 10 => ("HalfHands$Orders", "aim", "I", false)
  | _ => ("HalfHands$Orders", "wanted", "I", false)
def jY3 : Nat → FieldType := fun k => match k with
  | 0 => .object "HalfHands$Row"
  | 1 => .object "HalfHands$Telling"
  | 2 => .int
  | 3 => .array .int
  | 4 => .array .int
  | 5 => .array .int
  | 6 => .array .boolean
  | 7 => .array .int
  | 8 => .array .int
  | 9 => .int
  | 10 => .int
  | _ => .int
def jR4 : String := "HalfHands$Reader"
def jT4 : u_T := fun k => match k with
  | 0 => ("HalfHands$Reader", "fault", "I", false)
  | 1 => ("HalfHands$Reader", "faultPlace", "I", false)
  | 2 => ("HalfHands$Reader", "tokens", "LHalfHands$Tokens;", true)
  | 3 => ("HalfHands$Reader", "told", "LHalfHands$Telling;", false)
  | _ => ("HalfHands$Reader", "number", "I", false)
def jY4 : Nat → FieldType := fun k => match k with
  | 0 => .int
  | 1 => .int
  | 2 => .object "HalfHands$Tokens"
  | 3 => .object "HalfHands$Telling"
  | _ => .int
def jR5 : String := "HalfHands$Row"
def jT5 : u_T := fun k => match k with
  | 0 => ("HalfHands$Row", "length", "I", false)
  | _ => ("HalfHands$Row", "people", "[I", true)
def jY5 : Nat → FieldType := fun k => match k with
  | 0 => .int
  | _ => .array .int
def jR6 : String := "HalfHands$Telling"
def jT6 : u_T := fun k => match k with
  | 0 => ("HalfHands$Telling", "people", "I", false)
  | 1 => ("HalfHands$Telling", "personNames", "[I", true)
  | 2 => ("HalfHands$Telling", "ages", "[I", true)
  | 3 => ("HalfHands$Telling", "purses", "[I", true)
  | 4 => ("HalfHands$Telling", "ways", "[I", true)
  | 5 => ("HalfHands$Telling", "heirs", "[I", true)
  | 6 => ("HalfHands$Telling", "parcels", "I", false)
  | 7 => ("HalfHands$Telling", "from", "[I", true)
  | 8 => ("HalfHands$Telling", "coins", "[I", true)
  | 9 => ("HalfHands$Telling", "due", "[I", true)
  | 10 => ("HalfHands$Telling", "mays", "I", false)
  | 11 => ("HalfHands$Telling", "mayNames", "[I", true)
  | _ => ("HalfHands$Telling", "laws", "LHalfHands$Laws;", true)
def jY6 : Nat → FieldType := fun k => match k with
  | 0 => .int
  | 1 => .array .int
  | 2 => .array .int
  | 3 => .array .int
  | 4 => .array .int
  | 5 => .array .int
  | 6 => .int
  | 7 => .array .int
  | 8 => .array .int
  | 9 => .array .int
  | 10 => .int
  | 11 => .array .int
  | _ => .object "HalfHands$Laws"
def jR7 : String := "HalfHands$Tokens"
def jT7 : u_T := fun k => match k with
  | 0 => ("HalfHands$Tokens", "kind", "I", false)
  | 1 => ("HalfHands$Tokens", "place", "I", false)
  | 2 => ("HalfHands$Tokens", "value", "I", false)
  | 3 => ("HalfHands$Tokens", "behind", "I", false)
  | 4 => ("HalfHands$Tokens", "length", "I", false)
  | 5 => ("HalfHands$Tokens", "bytes", "[I", true)
  | _ => ("HalfHands$Tokens", "words", "[I", true)
def jY7 : Nat → FieldType := fun k => match k with
  | 0 => .int
  | 1 => .int
  | 2 => .int
  | 3 => .int
  | 4 => .int
  | 5 => .array .int
  | _ => .array .int
def jR8 : String := "HalfHands"
def jT8 : u_T := fun k => match k with
  | 0 => ("HalfHands", "tape", "[I", true)
  | 1 => ("HalfHands", "tapeLength", "I", false)
  | 2 => ("HalfHands", "told", "LHalfHands$Telling;", false)
  | 3 => ("HalfHands", "spare", "LHalfHands$Telling;", false)
  | 4 => ("HalfHands", "reader", "LHalfHands$Reader;", true)
  | 5 => ("HalfHands", "faultKind", "I", false)
  | 6 => ("HalfHands", "faultPlace", "I", false)
  | 7 => ("HalfHands", "run", "LHalfHands$Journey;", true)
  | 8 => ("HalfHands", "image", "LHalfHands$Journey;", true)
  | 9 => ("HalfHands", "imaged", "Z", false)
  | 10 => ("HalfHands", "trial", "LHalfHands$Journey;", true)
  | 11 => ("HalfHands", "chain", "LHalfHands$Row;", true)
  | 12 => ("HalfHands", "orders", "LHalfHands$Orders;", true)
  | _ => ("HalfHands", "notes", "LHalfHands$Notes;", true)
def jY8 : Nat → FieldType := fun k => match k with
  | 0 => .array .int
  | 1 => .int
  | 2 => .object "HalfHands$Telling"
  | 3 => .object "HalfHands$Telling"
  | 4 => .object "HalfHands$Reader"
  | 5 => .int
  | 6 => .int
  | 7 => .object "HalfHands$Journey"
  | 8 => .object "HalfHands$Journey"
  | 9 => .boolean
  | 10 => .object "HalfHands$Journey"
  | 11 => .object "HalfHands$Row"
  | 12 => .object "HalfHands$Orders"
  | _ => .object "HalfHands$Notes"
def jR9 : String := "HalfHandsModel"
def jT9 : u_T := fun k => match k with
  | 0 => ("HalfHandsModel", "thrown", "I", false)
  | 1 => ("HalfHandsModel", "tape", "[I", true)
  | 2 => ("HalfHandsModel", "taped", "I", false)
  | 3 => ("HalfHandsModel", "number", "[I", true)
  | 4 => ("HalfHandsModel", "personName", "[I", true)
  | 5 => ("HalfHandsModel", "age", "[I", true)
  | 6 => ("HalfHandsModel", "purse", "[I", true)
  | 7 => ("HalfHandsModel", "handsMany", "[I", true)
  | 8 => ("HalfHandsModel", "handsTo", "[I", true)
  | 9 => ("HalfHandsModel", "toldFrom", "[I", true)
  | 10 => ("HalfHandsModel", "toldCoins", "[I", true)
  | 11 => ("HalfHandsModel", "toldHour", "[I", true)
  | 12 => ("HalfHandsModel", "mayName", "[I", true)
  | 13 => ("HalfHandsModel", "sumFrom", "[I", true)
  | 14 => ("HalfHandsModel", "sumTo", "[I", true)
  | 15 => ("HalfHandsModel", "knotSort", "[I", true)
  | 16 => ("HalfHandsModel", "knotValue", "[I", true)
  | 17 => ("HalfHandsModel", "lines", "I", false)
  | 18 => ("HalfHandsModel", "size", "I", false)
  | 19 => ("HalfHandsModel", "at", "I", false)
  | 20 => ("HalfHandsModel", "place", "I", false)
  | 21 => ("HalfHandsModel", "sort", "I", false)
  | 22 => ("HalfHandsModel", "value", "I", false)
  | 23 => ("HalfHandsModel", "fault", "I", false)
  | 24 => ("HalfHandsModel", "faultPlace", "I", false)
  | 25 => ("HalfHandsModel", "lastFault", "I", false)
  | 26 => ("HalfHandsModel", "lastPlace", "I", false)
  | 27 => ("HalfHandsModel", "open", "I", false)
  | 28 => ("HalfHandsModel", "counted", "I", false)
  | 29 => ("HalfHandsModel", "hasLaw", "Z", false)
  | 30 => ("HalfHandsModel", "tryWhat", "I", false)
  | 31 => ("HalfHandsModel", "tryAt", "I", false)
  | 32 => ("HalfHandsModel", "lawBy", "I", false)
  | 33 => ("HalfHandsModel", "names", "[J", true)
  | 34 => ("HalfHandsModel", "worked", "[J", true)
  | 35 => ("HalfHandsModel", "workedMany", "I", false)
  | 36 => ("HalfHandsModel", "parcels", "I", false)
  | 37 => ("HalfHandsModel", "fromOf", "[I", true)
  | 38 => ("HalfHandsModel", "coinsOf", "[I", true)
  | 39 => ("HalfHandsModel", "hourOf", "[I", true)
  | 40 => ("HalfHandsModel", "next", "[I", true)
  | 41 => ("HalfHandsModel", "has", "[I", true)
  | 42 => ("HalfHandsModel", "turn", "[I", true)
  | 43 => ("HalfHandsModel", "state", "[I", true)
  | 44 => ("HalfHandsModel", "onWay", "[I", true)
  | 45 => ("HalfHandsModel", "handsIn", "[I", true)
  | 46 => ("HalfHandsModel", "toWhom", "[I", true)
  | 47 => ("HalfHandsModel", "imageParcels", "I", false)
  | 48 => ("HalfHandsModel", "hasImage", "Z", false)
  | 49 => ("HalfHandsModel", "row", "[I", true)
  | 50 => ("HalfHandsModel", "rowMany", "I", false)
  | 51 => ("HalfHandsModel", "keptBy", "[I", true)
  | 52 => ("HalfHandsModel", "backFrom", "J", false)
  | 53 => ("HalfHandsModel", "backTo", "J", false)
  | 54 => ("HalfHandsModel", "first", "[I", true)
  | 55 => ("HalfHandsModel", "task", "I", false)
  | 56 => ("HalfHandsModel", "sent", "I", false)
  | 57 => ("HalfHandsModel", "aim", "I", false)
  | 58 => ("HalfHandsModel", "watched", "I", false)
  | 59 => ("HalfHandsModel", "most", "I", false)
  | 60 => ("HalfHandsModel", "least", "I", false)
  | 61 => ("HalfHandsModel", "mostAt", "I", false)
  | 62 => ("HalfHandsModel", "leastAt", "I", false)
  | 63 => ("HalfHandsModel", "mostRow", "J", false)
  | 64 => ("HalfHandsModel", "leastRow", "J", false)
  | 65 => ("HalfHandsModel", "orders", "I", false)
  | 66 => ("HalfHandsModel", "aimRow", "J", false)
  | 67 => ("HalfHandsModel", "fewest", "I", false)
  | 68 => ("HalfHandsModel", "fewestRow", "J", false)
  | 69 => ("HalfHandsModel", "notes", "I", false)
  | 70 => ("HalfHandsModel", "knownBy", "I", false)
  | 71 => ("HalfHandsModel", "noteMany", "[I", true)
  | 72 => ("HalfHandsModel", "noteRow", "[J", true)
  | 73 => ("HalfHandsModel", "noteCoins", "[I", true)
  | 74 => ("HalfHandsModel", "noteLow", "[I", true)
  | 75 => ("HalfHandsModel", "noteHigh", "[I", true)
  | 76 => ("HalfHandsModel", "isStruck", "[Z", true)
  | 77 => ("HalfHandsModel", "imageFrom", "[I", true)
  | 78 => ("HalfHandsModel", "imageCoins", "[I", true)
  | _ => ("HalfHandsModel", "imageHour", "[I", true)
def jY9 : Nat → FieldType := fun k => match k with
  | 0 => .int
  | 1 => .array .int
  | 2 => .int
  | 3 => .array .int
  | 4 => .array .int
  | 5 => .array .int
  | 6 => .array .int
  | 7 => .array .int
  | 8 => .array .int
  | 9 => .array .int
  | 10 => .array .int
  | 11 => .array .int
  | 12 => .array .int
  | 13 => .array .int
  | 14 => .array .int
  | 15 => .array .int
  | 16 => .array .int
  | 17 => .int
  | 18 => .int
  | 19 => .int
  | 20 => .int
  | 21 => .int
  | 22 => .int
  | 23 => .int
  | 24 => .int
  | 25 => .int
  | 26 => .int
  | 27 => .int
  | 28 => .int
  | 29 => .boolean
  | 30 => .int
  | 31 => .int
  | 32 => .int
  | 33 => .array .long
  | 34 => .array .long
  | 35 => .int
  | 36 => .int
  | 37 => .array .int
  | 38 => .array .int
  | 39 => .array .int
  | 40 => .array .int
  | 41 => .array .int
  | 42 => .array .int
  | 43 => .array .int
  | 44 => .array .int
  | 45 => .array .int
  | 46 => .array .int
  | 47 => .int
  | 48 => .boolean
  | 49 => .array .int
  | 50 => .int
  | 51 => .array .int
  | 52 => .long
  | 53 => .long
  | 54 => .array .int
  | 55 => .int
  | 56 => .int
  | 57 => .int
  | 58 => .int
  | 59 => .int
  | 60 => .int
  | 61 => .int
  | 62 => .int
  | 63 => .long
  | 64 => .long
  | 65 => .int
  | 66 => .long
  | 67 => .int
  | 68 => .long
  | 69 => .int
  | 70 => .int
  | 71 => .array .int
  | 72 => .array .long
  | 73 => .array .int
  | 74 => .array .int
  | 75 => .array .int
  | 76 => .array .boolean
  | 77 => .array .int
  | 78 => .array .int
  | _ => .array .int
abbrev jcl : List vw_C := [(jR0, jT0, 14), (jR1, jT1, 9), (jR2, jT2, 9), (jR3, jT3, 12), (jR4, jT4, 5), (jR5, jT5, 2), (jR6, jT6, 13), (jR7, jT7, 7), (jR8, jT8, 14), (jR9, jT9, 80)]
def jyl : List (Nat → FieldType) := [jY0, jY1, jY2, jY3, jY4, jY5, jY6, jY7, jY8, jY9]
/-- kinds of fields: 0 int, 1 boolean, 2 long, 3 a reference that may change, 4 one that never does -/
def jFK : List (List Nat) := [[0, 4, 4, 0, 4, 4, 4, 4, 4, 4, 4, 3, 0, 0], [0, 1, 0, 4, 4, 4, 4, 4, 4], [0, 0, 4, 4, 4, 4, 4, 4, 4], [4, 3, 0, 4, 4, 4, 4, 4, 4, 0, 0, 0], [0, 0, 4, 3, 0], [0, 4], [0, 4, 4, 4, 4, 4, 0, 4, 4, 4, 0, 4, 4], [0, 0, 0, 0, 0, 4, 4], [4, 0, 3, 3, 4, 0, 0, 4, 4, 1, 4, 4, 4, 4], [0, 4, 0, 4, 4, 4, 4, 4, 4, 4, 4, 4, 4, 4, 4, 4, 4, 0, 0, 0, 0, 0, 0, 0, 0, 0, 0, 0, 0, 1, 0, 0, 0, 4, 4, 0, 0, 4, 4, 4, 4, 4, 4, 4, 4, 4, 4, 0, 1, 4, 0, 4, 2, 2, 4, 0, 0, 0, 0, 0, 0, 0, 0, 2, 2, 0, 2, 0, 2, 0, 0, 4, 4, 4, 4, 4, 4, 4, 4, 4]]
/-- the cells: (0 int, 1 boolean, 2 long; length) of an array, or the number of an object's class -/
def jSH : List ((Nat × Nat) ⊕ Nat) := [.inr 8, .inl (0, 700), .inr 6, .inl (0, 10), .inl (0, 10), .inl (0, 10), .inl (0, 10), .inl (0, 30), .inl (0, 12), .inl (0, 12), .inl (0, 12), .inl (0, 4), .inr 1, .inl (0, 64), .inl (0, 64), .inl (0, 5), .inl (0, 5), .inl (0, 6), .inl (2, 64), .inr 6, .inl (0, 10), .inl (0, 10), .inl (0, 10), .inl (0, 10), .inl (0, 30), .inl (0, 12), .inl (0, 12), .inl (0, 12), .inl (0, 4), .inr 1, .inl (0, 64), .inl (0, 64), .inl (0, 5), .inl (0, 5), .inl (0, 6), .inl (2, 64), .inr 4, .inr 7, .inl (0, 16), .inr 0, .inl (0, 10), .inl (0, 10), .inl (0, 30), .inl (0, 30), .inl (0, 30), .inl (0, 30), .inl (0, 30), .inl (0, 30), .inl (0, 30), .inr 0, .inl (0, 10), .inl (0, 10), .inl (0, 30), .inl (0, 30), .inl (0, 30), .inl (0, 30), .inl (0, 30), .inl (0, 30), .inl (0, 30), .inr 0, .inl (0, 10), .inl (0, 10), .inl (0, 30), .inl (0, 30), .inl (0, 30), .inl (0, 30), .inl (0, 30), .inl (0, 30), .inl (0, 30), .inr 5, .inl (0, 10), .inr 3, .inl (0, 8), .inl (0, 8), .inl (0, 10), .inl (1, 729), .inl (0, 4096), .inl (0, 8), .inr 2, .inl (0, 40), .inl (2, 40), .inl (0, 40), .inl (0, 40), .inl (0, 40), .inl (0, 40), .inl (1, 40), .inr 9, .inl (0, 700), .inl (0, 8), .inl (0, 20), .inl (0, 20), .inl (0, 20), .inl (0, 20), .inl (0, 60), .inl (0, 24), .inl (0, 24), .inl (0, 24), .inl (0, 8), .inl (0, 10), .inl (0, 10), .inl (0, 128), .inl (0, 128), .inl (2, 6), .inl (2, 64), .inl (0, 30), .inl (0, 30), .inl (0, 30), .inl (0, 3), .inl (0, 30), .inl (0, 30), .inl (0, 90), .inl (0, 90), .inl (0, 90), .inl (0, 90), .inl (0, 10), .inl (0, 10), .inl (0, 10), .inl (0, 40), .inl (2, 40), .inl (0, 40), .inl (0, 40), .inl (0, 40), .inl (1, 40), .inl (0, 30), .inl (0, 30), .inl (0, 30), .inl (2, 1)]
/-- references that never change, by cell and field -/
def jCR : List (List Nat) := [[1, 0, 0, 0, 36, 0, 0, 39, 49, 0, 59, 69, 71, 78], [], [0, 3, 4, 5, 6, 7, 0, 8, 9, 10, 0, 11, 12], [], [], [], [], [], [], [], [], [], [0, 0, 0, 13, 14, 15, 16, 17, 18], [], [], [], [], [], [], [0, 20, 21, 22, 23, 24, 0, 25, 26, 27, 0, 28, 29], [], [], [], [], [], [], [], [], [], [0, 0, 0, 30, 31, 32, 33, 34, 35], [], [], [], [], [], [], [0, 0, 37, 0, 0], [0, 0, 0, 0, 0, 1, 38], [], [0, 40, 41, 0, 42, 43, 44, 45, 46, 47, 48, 0, 0, 0], [], [], [], [], [], [], [], [], [], [0, 50, 51, 0, 52, 53, 54, 55, 56, 57, 58, 0, 0, 0], [], [], [], [], [], [], [], [], [], [0, 60, 61, 0, 62, 63, 64, 65, 66, 67, 68, 0, 0, 0], [], [], [], [], [], [], [], [], [], [0, 70], [], [69, 0, 0, 72, 73, 74, 75, 76, 77, 0, 0, 0], [], [], [], [], [], [], [0, 0, 79, 80, 81, 82, 83, 84, 85], [], [], [], [], [], [], [], [0, 87, 0, 88, 89, 90, 91, 92, 93, 94, 95, 96, 97, 98, 99, 100, 101, 0, 0, 0, 0, 0, 0, 0, 0, 0, 0, 0, 0, 0, 0, 0, 0, 102, 103, 0, 0, 104, 105, 106, 107, 108, 109, 110, 111, 112, 113, 0, 0, 114, 0, 115, 0, 0, 116, 0, 0, 0, 0, 0, 0, 0, 0, 0, 0, 0, 0, 0, 0, 0, 0, 117, 118, 119, 120, 121, 122, 123, 124, 125], [], [], [], [], [], [], [], [], [], [], [], [], [], [], [], [], [], [], [], [], [], [], [], [], [], [], [], [], [], [], [], [], [], [], [], [], [], [], [], []]
-- 0: x
-- 1: x.tape
-- 2: tA
-- 3: tA.personNames
-- 4: tA.ages
-- 5: tA.purses
-- 6: tA.ways
-- 7: tA.heirs
-- 8: tA.from
-- 9: tA.coins
-- 10: tA.due
-- 11: tA.mayNames
-- 12: tA.laws
-- 13: tA.laws.kinds
-- 14: tA.laws.numbers
-- 15: tA.laws.starts
-- 16: tA.laws.ends
-- 17: tA.laws.names
-- 18: tA.laws.stack
-- 19: tB
-- 20: tB.personNames
-- 21: tB.ages
-- 22: tB.purses
-- 23: tB.ways
-- 24: tB.heirs
-- 25: tB.from
-- 26: tB.coins
-- 27: tB.due
-- 28: tB.mayNames
-- 29: tB.laws
-- 30: tB.laws.kinds
-- 31: tB.laws.numbers
-- 32: tB.laws.starts
-- 33: tB.laws.ends
-- 34: tB.laws.names
-- 35: tB.laws.stack
-- 36: rd
-- 37: tk
-- 38: tk.words
-- 39: run
-- 40: run.purses
-- 41: run.turns
-- 42: run.from
-- 43: run.wholes
-- 44: run.due
-- 45: run.states
-- 46: run.left
-- 47: run.hands
-- 48: run.to
-- 49: image
-- 50: image.purses
-- 51: image.turns
-- 52: image.from
-- 53: image.wholes
-- 54: image.due
-- 55: image.states
-- 56: image.left
-- 57: image.hands
-- 58: image.to
-- 59: trial
-- 60: trial.purses
-- 61: trial.turns
-- 62: trial.from
-- 63: trial.wholes
-- 64: trial.due
-- 65: trial.states
-- 66: trial.left
-- 67: trial.hands
-- 68: trial.to
-- 69: chain
-- 70: chain.people
-- 71: orders
-- 72: orders.carriers
-- 73: orders.homes
-- 74: orders.floors
-- 75: orders.stays
-- 76: orders.table
-- 77: orders.laid
-- 78: notes
-- 79: notes.lengths
-- 80: notes.rows
-- 81: notes.coins
-- 82: notes.lows
-- 83: notes.highs
-- 84: notes.targets
-- 85: notes.struck
-- 86: m
-- 87: m.tape
-- 88: m.number
-- 89: m.personName
-- 90: m.age
-- 91: m.purse
-- 92: m.handsMany
-- 93: m.handsTo
-- 94: m.toldFrom
-- 95: m.toldCoins
-- 96: m.toldHour
-- 97: m.mayName
-- 98: m.sumFrom
-- 99: m.sumTo
-- 100: m.knotSort
-- 101: m.knotValue
-- 102: m.names
-- 103: m.worked
-- 104: m.fromOf
-- 105: m.coinsOf
-- 106: m.hourOf
-- 107: m.next
-- 108: m.has
-- 109: m.turn
-- 110: m.state
-- 111: m.onWay
-- 112: m.handsIn
-- 113: m.toWhom
-- 114: m.row
-- 115: m.keptBy
-- 116: m.first
-- 117: m.noteMany
-- 118: m.noteRow
-- 119: m.noteCoins
-- 120: m.noteLow
-- 121: m.noteHigh
-- 122: m.isStruck
-- 123: m.imageFrom
-- 124: m.imageCoins
-- 125: m.imageHour
-- 126: out
end
section
/-! A SMALL MACHINE OVER CELLS. Its state: what the cells' places of ints, longs and changing references hold (cell, place). It runs blocks of instructions; where it answers 'some', the Jvm does the same (part 05). -/
abbrev jS : Type := (Nat → Nat → Int32) × (Nat → Nat → Int64) × (Nat → Nat → Nat)
abbrev jR : Type := Option (Option Value × jS)
abbrev jN : Type := Instr × List Nat
abbrev jL : Type := List (Nat × Value)
/-- a block: where it begins, its locals, its instructions, the block behind it -/
abbrev jB : Type := Nat × List Nat × List jN × Nat
def j_setI (σ : jS) (a k : Nat) (v : Int32) : jS := (fun b j => if b = a ∧ j = k then v else σ.1 b j, σ.2)
def j_setL (σ : jS) (a k : Nat) (v : Int64) : jS := (σ.1, fun b j => if b = a ∧ j = k then v else σ.2.1 b j, σ.2.2)
def j_setR (σ : jS) (a k v : Nat) : jS := (σ.1, σ.2.1, fun b j => if b = a ∧ j = k then v else σ.2.2 b j)
def j_cpy (σ : jS) (a0 sp a1 dp n : Nat) : jS := (fun b j => if b = a1 ∧ dp ≤ j ∧ j < dp + n then σ.1 a0 (sp + (j - dp)) else σ.1 b j, σ.2)
def j_is (ci a : Nat) : Bool := match jSH[a]? with
  | some (.inr c) => c == ci
  | _ => false
def j_len (z a : Nat) : Option Nat := match jSH[a]? with
  | some (.inl q) => cond (q.1 == z) (some q.2) none
  | _ => none
def j_cr (a k : Nat) : Nat := (jCR.getD a []).getD k 0
def j_rdI (z : Nat) (σ : jS) (a : Nat) (i : Int32) : Option Int32 := (j_len z a).bind fun n => if i < 0 ∨ n ≤ i.toNatClampNeg then none else some (σ.1 a i.toNatClampNeg)
def j_rdL (σ : jS) (a : Nat) (i : Int32) : Option Int64 := (j_len 2 a).bind fun n => if i < 0 ∨ n ≤ i.toNatClampNeg then none else some (σ.2.1 a i.toNatClampNeg)
def j_wrI (σ : jS) (a : Nat) (i x : Int32) : Option jS := (j_len 0 a).bind fun n => if i < 0 ∨ n ≤ i.toNatClampNeg then none else some (j_setI σ a i.toNatClampNeg x)
def j_wrZ (σ : jS) (a : Nat) (i x : Int32) : Option jS := (j_len 1 a).bind fun n => if i < 0 ∨ n ≤ i.toNatClampNeg then none else if x = 0 ∨ x = 1 then some (j_setI σ a i.toNatClampNeg x) else none
def j_wrL (σ : jS) (a : Nat) (i : Int32) (x : Int64) : Option jS := (j_len 2 a).bind fun n => if i < 0 ∨ n ≤ i.toNatClampNeg then none else some (j_setL σ a i.toNatClampNeg x)
def j_copy (σ : jS) (a0 : Nat) (sp : Int32) (a1 : Nat) (dp n : Int32) : Option jS := (j_len 0 a0).bind fun n0 => (j_len 0 a1).bind fun n1 =>
  if sp < 0 ∨ dp < 0 ∨ n < 0 ∨ n0 < sp.toNatClampNeg + n.toNatClampNeg ∨ n1 < dp.toNatClampNeg + n.toNatClampNeg then none else some (j_cpy σ a0 sp.toNatClampNeg a1 dp.toNatClampNeg n.toNatClampNeg)
/-- the String constants, as their signs' numbers -/
def jST : List (List Nat) := [[99, 111, 105, 110, 115, 32, 97, 103, 101, 32, 110, 101, 120, 116, 32, 101, 108, 100, 101, 114, 32, 112, 108, 97, 99, 101, 32, 104, 111, 117, 114, 32, 112, 101, 114, 115, 111, 110, 32, 112, 117, 114, 115, 101, 32, 104, 97, 110, 100, 115, 32, 116, 111, 32, 111, 114, 32, 112, 97, 114, 99, 101, 108, 32, 108, 97, 119, 32, 109, 97, 121, 32, 110, 111, 116, 32, 97, 110, 100, 32], [59, 40, 41, 43, 45, 42, 47, 37, 60, 61, 62], [112, 101, 114, 115, 111, 110, 32, 104, 97, 110, 100, 115, 32, 112, 97, 114, 99, 101, 108, 32, 108, 97, 119, 32, 109, 97, 121, 32, 112, 117, 114, 115, 101, 32, 116, 111, 32, 111, 114, 32, 97, 110, 100, 32, 110, 111, 116, 32, 99, 111, 105, 110, 115, 32, 97, 103, 101, 32, 110, 101, 120, 116, 32, 101, 108, 100, 101, 114, 32, 112, 108, 97, 99, 101, 32, 104, 111, 117, 114, 32]]
/-- Strings stand at 1000 and on -/
def j_str (a : Nat) : Option (List Nat) := match a with
  | 1000 => some (jST.getD 0 [])
  | 1001 => some (jST.getD 1 [])
  | 1002 => some (jST.getD 2 [])
  | _ => none
def j_idx (c : Int32) : List Nat → Nat → Int32
  | [], _ => -1
  | q :: r, n => if Int32.ofNat q = c then Int32.ofNat n else j_idx c r (n + 1)
def p_I : List Value → Option (Int32 × List Value)
  | .int x :: st => some (x, st)
  | _ => none
def p_L : List Value → Option (Int64 × List Value)
  | .long x :: st => some (x, st)
  | _ => none
def p_R : List Value → Option (Nat × List Value)
  | .ref x :: st => some (x, st)
  | _ => none
def p_II : List Value → Option (Int32 × Int32 × List Value)
  | .int y :: .int x :: st => some (x, y, st)
  | _ => none
def p_LL : List Value → Option (Int64 × Int64 × List Value)
  | .long y :: .long x :: st => some (x, y, st)
  | _ => none
def p_LI : List Value → Option (Int64 × Int32 × List Value)
  | .int y :: .long x :: st => some (x, y, st)
  | _ => none
def p_RI : List Value → Option (Nat × Int32 × List Value)
  | .int y :: .ref x :: st => some (x, y, st)
  | _ => none
def p_RL : List Value → Option (Nat × Int64 × List Value)
  | .long y :: .ref x :: st => some (x, y, st)
  | _ => none
def p_RR : List Value → Option (Nat × Nat × List Value)
  | .ref y :: .ref x :: st => some (x, y, st)
  | _ => none
def p_RII : List Value → Option (Nat × Int32 × Int32 × List Value)
  | .int z :: .int y :: .ref x :: st => some (x, y, z, st)
  | _ => none
def p_RIL : List Value → Option (Nat × Int32 × Int64 × List Value)
  | .long z :: .int y :: .ref x :: st => some (x, y, z, st)
  | _ => none
def p_1 : List Value → Option (Value × List Value)
  | .int x :: st => some (.int x, st)
  | .ref x :: st => some (.ref x, st)
  | _ => none
def p_11 : List Value → Option (Value × Value × List Value)
  | .int y :: .ref x :: st => some (.ref x, .int y, st)
  | .int y :: .int x :: st => some (.int x, .int y, st)
  | _ => none
def p_cpy : List Value → Option (Nat × Int32 × Nat × Int32 × Int32 × List Value)
  | .int n :: .int dp :: .ref a1 :: .int sp :: .ref a0 :: st => some (a0, sp, a1, dp, n, st)
  | _ => none
/-- n arguments, in their order -/
def p_n : Nat → List Value → Option (List Value × List Value)
  | 0, st => some ([], st)
  | _ + 1, [] => none
  | n + 1, v :: st => (p_n n st).bind fun q => some (q.1 ++ [v], q.2)
def r_V : jR → Option jS
  | some (none, σ) => some σ
  | _ => none
def r_I : jR → Option (Int32 × jS)
  | some (some (.int x), σ) => some (x, σ)
  | _ => none
def r_L : jR → Option (Int64 × jS)
  | some (some (.long x), σ) => some (x, σ)
  | _ => none
def j_at : jL → Nat → Option Value
  | [], _ => none
  | q :: l, i => cond (q.1 == i) (some q.2) (j_at l i)
def j_atI (lv : jL) (i : Nat) : Option Int32 := (j_at lv i).bind fun v => match v with
  | .int x => some x
  | _ => none
def j_atL (lv : jL) (i : Nat) : Option Int64 := (j_at lv i).bind fun v => match v with
  | .long x => some x
  | _ => none
def j_atR (lv : jL) (i : Nat) : Option Nat := (j_at lv i).bind fun v => match v with
  | .ref x => some x
  | _ => none
def j_st1 (lv : jL) (i : Nat) (v : Value) : jL := (i, v) :: lv.filter (fun q => !(q.1 == i) && !(q.1 + 1 == i && q.2.category == 2))
def j_st2 (lv : jL) (i : Nat) (v : Value) : jL := (i, v) :: lv.filter (fun q => !(q.1 == i) && (!(q.1 == i + 1) && !(q.1 + 1 == i && q.2.category == 2)))
def j_pick : List Nat → jL → Option jL
  | [], _ => some []
  | i :: r, lv => (j_at lv i).bind fun v => (j_pick r lv).bind fun l => some ((i, v) :: l)
def j_sw (x : Int32) (d : jR) (f : Nat → jR) : List (Int × Nat) → jR
  | [] => d
  | q :: r => if x = Int32.ofInt q.1 then f q.2 else j_sw x d f r
def j_keys (lo : Int) : List Nat → List (Int × Nat)
  | [] => []
  | b :: r => (lo, b) :: j_keys (lo + 1) r
def j_ret (rk : Nat) (r : jR) (lv : jL) (st : List Value) (k : jL → List Value → jS → jR) : jR := match rk with
  | 0 => (r_V r).bind fun q => k lv st q
  | 1 => (r_I r).bind fun q => k lv (.int q.1 :: st) q.2
  | 2 => (r_L r).bind fun q => k lv (.long q.1 :: st) q.2
  | _ => none
def js (C : Nat → List Value → jS → jR) (rt : Nat) (K : Nat → jL → List Value → jS → jR) (i : Instr) (ex : List Nat) (lv : jL) (st : List Value) (σ : jS) (k : jL → List Value → jS → jR) : jR := match i with
  | .iconst n => k lv (.int (Int32.ofInt n) :: st) σ
  | .bipush n => k lv (.int (Int8.ofInt n).toInt32 :: st) σ
  | .sipush n => k lv (.int (Int16.ofInt n).toInt32 :: st) σ
  | .lconst n => k lv (.long (Int64.ofNat (n : Nat)) :: st) σ
  | .ldc _ => match ex with
    | [v] => k lv (.int (Int32.ofNat v) :: st) σ
    | [v, _] => k lv (.ref v :: st) σ
    | _ => none
  | .ldc_w _ => match ex with
    | [v] => k lv (.int (Int32.ofNat v) :: st) σ
    | _ => none
  | .ldc2_w _ => match ex with
    | [v] => k lv (.long (Int64.ofNat v) :: st) σ
    | _ => none
  | .iload_n n => (j_atI lv n).bind fun x => k lv (.int x :: st) σ
  | .iload n => (j_atI lv n).bind fun x => k lv (.int x :: st) σ
  | .lload_n n => (j_atL lv n).bind fun x => k lv (.long x :: st) σ
  | .lload n => (j_atL lv n).bind fun x => k lv (.long x :: st) σ
  | .aload_n n => (j_atR lv n).bind fun x => k lv (.ref x :: st) σ
  | .aload n => (j_atR lv n).bind fun x => k lv (.ref x :: st) σ
  | .istore_n n => (p_I st).bind fun q => k (j_st1 lv n (.int q.1)) q.2 σ
  | .istore n => (p_I st).bind fun q => k (j_st1 lv n (.int q.1)) q.2 σ
  | .lstore_n n => (p_L st).bind fun q => k (j_st2 lv n (.long q.1)) q.2 σ
  | .lstore n => (p_L st).bind fun q => k (j_st2 lv n (.long q.1)) q.2 σ
  | .astore_n n => (p_R st).bind fun q => k (j_st1 lv n (.ref q.1)) q.2 σ
  | .astore n => (p_R st).bind fun q => k (j_st1 lv n (.ref q.1)) q.2 σ
  | .iinc n c => (j_atI lv n).bind fun x => k (j_st1 lv n (.int (x + Int32.ofInt c))) st σ
  | .iadd => (p_II st).bind fun q => k lv (.int (q.1 + q.2.1) :: q.2.2) σ
  | .isub => (p_II st).bind fun q => k lv (.int (q.1 - q.2.1) :: q.2.2) σ
  | .imul => (p_II st).bind fun q => k lv (.int (q.1 * q.2.1) :: q.2.2) σ
  | .iand => (p_II st).bind fun q => k lv (.int (q.1 &&& q.2.1) :: q.2.2) σ
  | .ior => (p_II st).bind fun q => k lv (.int (q.1 ||| q.2.1) :: q.2.2) σ
  | .idiv => (p_II st).bind fun q => if q.2.1 = 0 then none else k lv (.int (q.1 / q.2.1) :: q.2.2) σ
  | .irem => (p_II st).bind fun q => if q.2.1 = 0 then none else k lv (.int (q.1 - q.1 / q.2.1 * q.2.1) :: q.2.2) σ
  | .ishl => (p_II st).bind fun q => k lv (.int (q.1 <<< (q.2.1 &&& 31)) :: q.2.2) σ
  | .ishr => (p_II st).bind fun q => k lv (.int (q.1 >>> (q.2.1 &&& 31)) :: q.2.2) σ
  | .iushr => (p_II st).bind fun q => k lv (.int (q.1.toUInt32 >>> (q.2.1.toUInt32 &&& Int32.toUInt32 31)).toInt32 :: q.2.2) σ
  | .ladd => (p_LL st).bind fun q => k lv (.long (q.1 + q.2.1) :: q.2.2) σ
  | .lsub => (p_LL st).bind fun q => k lv (.long (q.1 - q.2.1) :: q.2.2) σ
  | .lmul => (p_LL st).bind fun q => k lv (.long (q.1 * q.2.1) :: q.2.2) σ
  | .land => (p_LL st).bind fun q => k lv (.long (q.1 &&& q.2.1) :: q.2.2) σ
  | .lor => (p_LL st).bind fun q => k lv (.long (q.1 ||| q.2.1) :: q.2.2) σ
  | .ldiv => (p_LL st).bind fun q => if q.2.1 = 0 then none else k lv (.long (q.1 / q.2.1) :: q.2.2) σ
  | .lrem => (p_LL st).bind fun q => if q.2.1 = 0 then none else k lv (.long (q.1 - q.1 / q.2.1 * q.2.1) :: q.2.2) σ
  | .lneg => (p_L st).bind fun q => k lv (.long (-q.1) :: q.2) σ
  | .lcmp => (p_LL st).bind fun q => k lv (.int (lg_cmp q.1 q.2.1) :: q.2.2) σ
  | .lshl => (p_LI st).bind fun q => k lv (.long (q.1 <<< (q.2.1.toInt64 &&& 63)) :: q.2.2) σ
  | .lshr => (p_LI st).bind fun q => k lv (.long (q.1 >>> (q.2.1.toInt64 &&& 63)) :: q.2.2) σ
  | .lushr => (p_LI st).bind fun q => k lv (.long (q.1.toUInt64 >>> (q.2.1.toInt64.toUInt64 &&& Int64.toUInt64 63)).toInt64 :: q.2.2) σ
  | .i2l => (p_I st).bind fun q => k lv (.long q.1.toInt64 :: q.2) σ
  | .l2i => (p_L st).bind fun q => k lv (.int q.1.toInt32 :: q.2) σ
  | .i2c => (p_I st).bind fun q => k lv (.int (q.1.toUInt32 % 65536).toInt32 :: q.2) σ
  | .dup => (p_1 st).bind fun q => k lv (q.1 :: q.1 :: q.2) σ
  | .pop => (p_1 st).bind fun q => k lv q.2 σ
  | .dup2 => (p_11 st).bind fun q => k lv (q.2.1 :: q.1 :: q.2.1 :: q.1 :: q.2.2) σ
  | .iaload => match ex with
    | [] => (p_RI st).bind fun q => (j_rdI 0 σ q.1 q.2.1).bind fun x => k lv (.int x :: q.2.2) σ
    | [y] => (p_RI st).bind fun q => cond (q.1 == 2000) ((r_I (C y [.int q.2.1] σ)).bind fun w => k lv (.int w.1 :: q.2.2) w.2) none
    | _ => none
  | .baload => (p_RI st).bind fun q => (j_rdI 1 σ q.1 q.2.1).bind fun x => k lv (.int x :: q.2.2) σ
  | .laload => (p_RI st).bind fun q => (j_rdL σ q.1 q.2.1).bind fun x => k lv (.long x :: q.2.2) σ
  | .iastore => (p_RII st).bind fun q => (j_wrI σ q.1 q.2.1 q.2.2.1).bind fun t => k lv q.2.2.2 t
  | .bastore => (p_RII st).bind fun q => (j_wrZ σ q.1 q.2.1 q.2.2.1).bind fun t => k lv q.2.2.2 t
  | .lastore => (p_RIL st).bind fun q => (j_wrL σ q.1 q.2.1 q.2.2.1).bind fun t => k lv q.2.2.2 t
  | .arraylength => match ex with
    | [] => (p_R st).bind fun q => (j_len 0 q.1).bind fun n => k lv (.int (Int32.ofNat n) :: q.2) σ
    | [y] => (p_R st).bind fun q => cond (q.1 == 2000) ((r_I (C y [] σ)).bind fun w => k lv (.int w.1 :: q.2) w.2) none
    | _ => none
  | .getfield _ => match ex with
    | [ci, f, 0] => (p_R st).bind fun q => cond (j_is ci q.1) (k lv (.int (σ.1 q.1 f) :: q.2) σ) none
    | [ci, f, 1] => (p_R st).bind fun q => cond (j_is ci q.1) (k lv (.int (σ.1 q.1 f) :: q.2) σ) none
    | [ci, f, 2] => (p_R st).bind fun q => cond (j_is ci q.1) (k lv (.long (σ.2.1 q.1 f) :: q.2) σ) none
    | [ci, f, 3] => (p_R st).bind fun q => cond (j_is ci q.1) (k lv (.ref (σ.2.2 q.1 f) :: q.2) σ) none
    | [ci, f, 4] => (p_R st).bind fun q => cond (j_is ci q.1) (k lv (.ref (j_cr q.1 f) :: q.2) σ) none
    | _ => none
  | .putfield _ => match ex with
    | [ci, f, 0] => (p_RI st).bind fun q => cond (j_is ci q.1) (k lv q.2.2 (j_setI σ q.1 f q.2.1)) none
    | [ci, f, 1] => (p_RI st).bind fun q => cond (j_is ci q.1) (if q.2.1 = 0 ∨ q.2.1 = 1 then k lv q.2.2 (j_setI σ q.1 f q.2.1) else none) none
    | [ci, f, 2] => (p_RL st).bind fun q => cond (j_is ci q.1) (k lv q.2.2 (j_setL σ q.1 f q.2.1)) none
    | [ci, f, 3] => (p_RR st).bind fun q => cond (j_is ci q.1) (k lv q.2.2 (j_setR σ q.1 f q.2.1)) none
    | _ => none
  | .goto _ => match ex with
    | [t] => K t lv st σ
    | _ => none
  | .ifCond c _ => match ex with
    | [t] => (p_I st).bind fun q => match c with
      | .eq => if q.1 = 0 then K t lv q.2 σ else k lv q.2 σ
      | .ne => if q.1 = 0 then k lv q.2 σ else K t lv q.2 σ
      | .lt => if q.1 < 0 then K t lv q.2 σ else k lv q.2 σ
      | .ge => if 0 ≤ q.1 then K t lv q.2 σ else k lv q.2 σ
      | .gt => if 0 < q.1 then K t lv q.2 σ else k lv q.2 σ
      | .le => if q.1 ≤ 0 then K t lv q.2 σ else k lv q.2 σ
    | _ => none
  | .if_icmp c _ => match ex with
    | [t] => (p_II st).bind fun q => match c with
      | .eq => if q.1 = q.2.1 then K t lv q.2.2 σ else k lv q.2.2 σ
      | .ne => if q.1 = q.2.1 then k lv q.2.2 σ else K t lv q.2.2 σ
      | .lt => if q.1 < q.2.1 then K t lv q.2.2 σ else k lv q.2.2 σ
      | .ge => if q.2.1 ≤ q.1 then K t lv q.2.2 σ else k lv q.2.2 σ
      | .gt => if q.2.1 < q.1 then K t lv q.2.2 σ else k lv q.2.2 σ
      | .le => if q.1 ≤ q.2.1 then K t lv q.2.2 σ else k lv q.2.2 σ
    | _ => none
  | .tableswitch _ lo _ _ => match ex with
    | d :: bs => (p_I st).bind fun q => j_sw q.1 (K d lv q.2 σ) (fun b => K b lv q.2 σ) (j_keys lo bs)
    | _ => none
  | .lookupswitch _ ps => match ex with
    | d :: bs => (p_I st).bind fun q => j_sw q.1 (K d lv q.2 σ) (fun b => K b lv q.2 σ) ((ps.toList.map (fun z => z.1)).zip bs)
    | _ => none
  | .invokevirtual _ => match ex with
    | [901] => (p_R st).bind fun q => (j_str q.1).bind fun z => k lv (.int (Int32.ofNat z.length) :: q.2) σ
    | [902, _] => (p_RI st).bind fun q => (j_str q.1).bind fun z => if q.2.1 < 0 ∨ z.length ≤ q.2.1.toNatClampNeg then none else k lv (.int (Int32.ofNat (z.getD q.2.1.toNatClampNeg 0)) :: q.2.2) σ
    | [903, _, _] => (p_RI st).bind fun q => (j_str q.1).bind fun z => k lv (.int (j_idx q.2.1 z 0) :: q.2.2) σ
    | [y, n, ci, rk] => (p_n n st).bind fun q => (p_R q.2).bind fun w => cond (j_is ci w.1) (cond (Nat.ble (w.2.map fun v => v.category).sum 8) (j_ret rk (C y (.ref w.1 :: q.1) σ) lv w.2 k) none) none
    | _ => none
  | .invokestatic _ => match ex with
    | [_] => (p_cpy st).bind fun q => cond (Nat.ble (q.2.2.2.2.2.map fun v => v.category).sum 8) ((j_copy σ q.1 q.2.1 q.2.2.1 q.2.2.2.1 q.2.2.2.2.1).bind fun t => k lv q.2.2.2.2.2 t) none
    | [y, n, rk] => (p_n n st).bind fun q => cond (Nat.ble (q.2.map fun v => v.category).sum 8) (j_ret rk (C y q.1 σ) lv q.2 k) none
    | _ => none
  | .ireturn => match rt with
    | 1 => (p_I st).bind fun q => cond q.2.isEmpty (some (some (.int q.1), σ)) none
    | 2 => (p_I st).bind fun q => cond q.2.isEmpty (if q.1 = 0 ∨ q.1 = 1 then some (some (.int q.1), σ) else none) none
    | _ => none
  | .lreturn => match rt with
    | 3 => (p_L st).bind fun q => cond q.2.isEmpty (some (some (.long q.1), σ)) none
    | _ => none
  | .return_ => match rt with
    | 0 => cond st.isEmpty (some (none, σ)) none
    | _ => none
  | _ => none
def jb (C : Nat → List Value → jS → jR) (rt : Nat) (K : Nat → jL → List Value → jS → jR) (nx : Nat) : List jN → jL → List Value → jS → jR
  | [], lv, st, σ => K nx lv st σ
  | (i, ex) :: r, lv, st, σ => js C rt K i ex lv st σ (fun lv st σ => jb C rt K nx r lv st σ)
def j_go (B : List jB) (K : Nat → jL → List Value → jS → jR) (j : Nat) (lv : jL) (st : List Value) (σ : jS) : jR := (B[j]?).bind fun b => (j_pick b.2.1 lv).bind fun l => K j l st σ
def jstep (C : Nat → List Value → jS → jR) (rt : Nat) (B : List jB) (K : Nat → jL → List Value → jS → jR) (j : Nat) (lv : jL) (st : List Value) (σ : jS) : jR := (B[j]?).bind fun b => jb C rt (j_go B K) b.2.2.2 b.2.2.1 lv st σ
def jrun (C : Nat → List Value → jS → jR) (rt : Nat) (B : List jB) : Nat → Nat → jL → List Value → jS → jR
  | 0 => fun _ _ _ _ => none
  | n + 1 => fun j lv st σ => jstep C rt B (jrun C rt B n) j lv st σ
noncomputable def db (C : Nat → List Value → jS → jR) (rt : Nat) (B : List jB) (j : Nat) (lv : jL) (st : List Value) (σ : jS) : jR :=
  @dite _ (∃ r, ∃ n, jrun C rt B n j lv st σ = some r) (Classical.propDecidable _) (fun h => some (Classical.choose h)) (fun _ => none)
end
section
/-! What runs long enough runs as its own equation says: db_eq. -/
def jU (F : (Nat → jL → List Value → jS → jR) → (jL → List Value → jS → jR) → jR) : Prop := ∀ K k r, F K k = some r →
  (∃ lv st σ, k lv st σ = some r ∧ ∀ K' k', k' lv st σ = some r → F K' k' = some r) ∨ (∃ j lv st σ, K j lv st σ = some r ∧ ∀ K' k', K' j lv st σ = some r → F K' k' = some r) ∨ (∀ K' k', F K' k' = some r)
theorem jU_c (r0 : jR) : jU (fun _ _ => r0) := fun _ _ _ h => Or.inr (Or.inr (fun _ _ => h))
theorem jU_k (lv : jL) (st : List Value) (σ : jS) : jU (fun _ k => k lv st σ) := fun _ _ _ h => Or.inl ⟨lv, st, σ, h, fun _ _ h => h⟩
theorem jU_K (j : Nat) (lv : jL) (st : List Value) (σ : jS) : jU (fun K _ => K j lv st σ) := fun _ _ _ h => Or.inr (Or.inl ⟨j, lv, st, σ, h, fun _ _ h => h⟩)
theorem jU_bind {α : Type} (o : Option α) (F : α → (Nat → jL → List Value → jS → jR) → (jL → List Value → jS → jR) → jR) (h : ∀ x, jU (F x)) : jU (fun K k => o.bind fun x => F x K k) := by
  cases o with
  | none => exact jU_c none
  | some x => exact h x
theorem jU_ite (c : Prop) (dc : Decidable c) (F G : (Nat → jL → List Value → jS → jR) → (jL → List Value → jS → jR) → jR) (hF : jU F) (hG : jU G) : jU (fun K k => @ite _ c dc (F K k) (G K k)) := by
  cases dc with
  | isTrue h => exact hF
  | isFalse h => exact hG
theorem jU_cond (c : Bool) (F G : (Nat → jL → List Value → jS → jR) → (jL → List Value → jS → jR) → jR) (hF : jU F) (hG : jU G) : jU (fun K k => cond c (F K k) (G K k)) := by
  cases c with
  | true => exact hF
  | false => exact hG
theorem jU_ret (rk : Nat) (r : jR) (lv : jL) (st : List Value) : jU (fun _ k => j_ret rk r lv st k) := by
  unfold j_ret
  split
  · exact jU_bind _ _ fun q => jU_k _ _ _
  · exact jU_bind _ _ fun q => jU_k _ _ _
  · exact jU_bind _ _ fun q => jU_k _ _ _
  · exact jU_c none
theorem jU_sw (x : Int32) (d : Nat) (lv : jL) (st : List Value) (σ : jS) : ∀ l : List (Int × Nat), jU (fun K _ => j_sw x (K d lv st σ) (fun b => K b lv st σ) l) := by
  intro l
  induction l with
  | nil => exact jU_K d lv st σ
  | cons q r ih => exact jU_ite _ _ _ _ (jU_K q.2 lv st σ) ih
set_option maxHeartbeats 4000000 in
theorem js_use (C : Nat → List Value → jS → jR) (rt : Nat) (i : Instr) (ex : List Nat) (lv : jL) (st : List Value) (σ : jS) : jU (fun K k => js C rt K i ex lv st σ k) := by
  cases i
  case iconst | bipush | sipush | lconst => exact jU_k _ _ _
  case ldc =>
    unfold js
    rcases ex with _ | ⟨a, _ | ⟨b, _ | ⟨c, _⟩⟩⟩
    · exact jU_c none
    · exact jU_k _ _ _
    · exact jU_k _ _ _
    · exact jU_c none
  case ldc2_w | ldc_w =>
    rcases ex with _ | ⟨a, _ | ⟨b, _⟩⟩
    · exact jU_c none
    · exact jU_k _ _ _
    · exact jU_c none
  case iload_n | iload | lload_n | lload | aload_n | aload | istore_n | istore | lstore_n | lstore | astore_n | astore | iinc | iadd | isub | imul | iand | ior | ishl | ishr | iushr | ladd | lsub | lmul | land | lor | lneg | lcmp | lshl | lshr | lushr | i2l | l2i | i2c | dup | pop | dup2 => exact jU_bind _ _ fun q => jU_k _ _ _
  case idiv | irem | ldiv | lrem => exact jU_bind _ _ fun q => jU_ite _ _ _ _ (jU_c none) (jU_k _ _ _)
  case baload | laload | iastore | bastore | lastore => exact jU_bind _ _ fun q => jU_bind _ _ fun x => jU_k _ _ _
  case iaload =>
    unfold js
    dsimp only
    split
    · exact jU_bind _ _ fun q => jU_bind _ _ fun x => jU_k _ _ _
    · exact jU_bind _ _ fun q => jU_cond _ _ _ (jU_bind _ _ fun x => jU_k _ _ _) (jU_c none)
    · exact jU_c none
  case arraylength =>
    unfold js
    dsimp only
    split
    · exact jU_bind _ _ fun q => jU_bind _ _ fun x => jU_k _ _ _
    · exact jU_bind _ _ fun q => jU_cond _ _ _ (jU_bind _ _ fun x => jU_k _ _ _) (jU_c none)
    · exact jU_c none
  case getfield =>
    show jU (fun K k => js C rt K (.getfield _) ex lv st σ k)
    unfold js
    dsimp only
    split
    · exact jU_bind _ _ fun q => jU_cond _ _ _ (jU_k _ _ _) (jU_c none)
    · exact jU_bind _ _ fun q => jU_cond _ _ _ (jU_k _ _ _) (jU_c none)
    · exact jU_bind _ _ fun q => jU_cond _ _ _ (jU_k _ _ _) (jU_c none)
    · exact jU_bind _ _ fun q => jU_cond _ _ _ (jU_k _ _ _) (jU_c none)
    · exact jU_bind _ _ fun q => jU_cond _ _ _ (jU_k _ _ _) (jU_c none)
    · exact jU_c none
  case putfield =>
    unfold js
    dsimp only
    split
    · exact jU_bind _ _ fun q => jU_cond _ _ _ (jU_k _ _ _) (jU_c none)
    · exact jU_bind _ _ fun q => jU_cond _ _ _ (jU_ite _ _ _ _ (jU_k _ _ _) (jU_c none)) (jU_c none)
    · exact jU_bind _ _ fun q => jU_cond _ _ _ (jU_k _ _ _) (jU_c none)
    · exact jU_bind _ _ fun q => jU_cond _ _ _ (jU_k _ _ _) (jU_c none)
    · exact jU_c none
  case goto =>
    unfold js
    dsimp only
    split
    · exact jU_K _ _ _ _
    · exact jU_c none
  case ifCond c _ =>
    unfold js
    dsimp only
    split
    · refine jU_bind _ _ fun q => ?_
      cases c <;> first | exact jU_ite _ _ _ _ (jU_K _ _ _ _) (jU_k _ _ _) | exact jU_ite _ _ _ _ (jU_k _ _ _) (jU_K _ _ _ _)
    · exact jU_c none
  case if_icmp c _ =>
    unfold js
    dsimp only
    split
    · refine jU_bind _ _ fun q => ?_
      cases c <;> first | exact jU_ite _ _ _ _ (jU_K _ _ _ _) (jU_k _ _ _) | exact jU_ite _ _ _ _ (jU_k _ _ _) (jU_K _ _ _ _)
    · exact jU_c none
  case tableswitch =>
    unfold js
    dsimp only
    split
    · exact jU_bind _ _ fun q => jU_sw _ _ _ _ _ _
    · exact jU_c none
  case lookupswitch =>
    unfold js
    dsimp only
    split
    · exact jU_bind _ _ fun q => jU_sw _ _ _ _ _ _
    · exact jU_c none
  case invokevirtual =>
    unfold js
    dsimp only
    split
    · exact jU_bind _ _ fun q => jU_bind _ _ fun z => jU_k _ _ _
    · exact jU_bind _ _ fun q => jU_bind _ _ fun z => jU_ite _ _ _ _ (jU_c none) (jU_k _ _ _)
    · exact jU_bind _ _ fun q => jU_bind _ _ fun z => jU_k _ _ _
    · exact jU_bind _ _ fun q => jU_bind _ _ fun z => jU_cond _ _ _ (jU_cond _ _ _ (jU_ret _ _ _ _) (jU_c none)) (jU_c none)
    · exact jU_c none
  case invokestatic =>
    unfold js
    dsimp only
    split
    · exact jU_bind _ _ fun q => jU_cond _ _ _ (jU_bind _ _ fun z => jU_k _ _ _) (jU_c none)
    · exact jU_bind _ _ fun q => jU_cond _ _ _ (jU_ret _ _ _ _) (jU_c none)
    · exact jU_c none
  case ireturn =>
    unfold js
    dsimp only
    exact jU_c _
  case lreturn => exact jU_c _
  case return_ => exact jU_c _
  all_goals exact jU_c none
theorem jb_use (C : Nat → List Value → jS → jR) (rt : Nat) (nx : Nat) : ∀ (is : List jN) (lv : jL) (st : List Value) (σ : jS) (K : Nat → jL → List Value → jS → jR) (r : Option Value × jS), jb C rt K nx is lv st σ = some r →
    (∃ j l s t, K j l s t = some r ∧ ∀ K', K' j l s t = some r → jb C rt K' nx is lv st σ = some r) ∨ (∀ K', jb C rt K' nx is lv st σ = some r) := by
  intro is
  induction is with
  | nil =>
    intro lv st σ K r h
    exact Or.inl ⟨nx, lv, st, σ, h, fun _ h => h⟩
  | cons i is ih =>
    intro lv st σ K r h
    obtain ⟨i, ex⟩ := i
    rcases js_use C rt i ex lv st σ K (fun lv st σ => jb C rt K nx is lv st σ) r h with ⟨l, s, t, h1, h2⟩ | ⟨j, l, s, t, h1, h2⟩ | h2
    · rcases ih l s t K r h1 with ⟨j, l', s', t', h3, h4⟩ | h3
      · exact Or.inl ⟨j, l', s', t', h3, fun K' hK' => h2 K' (fun lv st σ => jb C rt K' nx is lv st σ) (h4 K' hK')⟩
      · exact Or.inr fun K' => h2 K' (fun lv st σ => jb C rt K' nx is lv st σ) (h3 K')
    · exact Or.inl ⟨j, l, s, t, h1, fun K' hK' => h2 K' (fun lv st σ => jb C rt K' nx is lv st σ) hK'⟩
    · exact Or.inr fun K' => h2 K' (fun lv st σ => jb C rt K' nx is lv st σ)
theorem jstep_use (C : Nat → List Value → jS → jR) (rt : Nat) (B : List jB) (j : Nat) (lv : jL) (st : List Value) (σ : jS) (K : Nat → jL → List Value → jS → jR) (r : Option Value × jS) (h : jstep C rt B K j lv st σ = some r) :
    (∃ j' l s t, K j' l s t = some r ∧ ∀ K', K' j' l s t = some r → jstep C rt B K' j lv st σ = some r) ∨ (∀ K', jstep C rt B K' j lv st σ = some r) := by
  unfold jstep at h ⊢
  cases hb : B[j]? with
  | none => rw [hb] at h; cases h
  | some b =>
    rw [hb] at h
    rcases jb_use C rt b.2.2.2 b.2.2.1 lv st σ (j_go B K) r h with ⟨j', l, s, t, h1, h2⟩ | h2
    · unfold j_go at h1
      cases hb' : B[j']? with
      | none => rw [hb'] at h1; cases h1
      | some b' =>
        rw [hb'] at h1
        simp only [Option.bind_some] at h1
        cases hp : j_pick b'.2.1 l with
        | none => rw [hp] at h1; cases h1
        | some l' =>
          rw [hp] at h1
          refine Or.inl ⟨j', l', s, t, h1, fun K' hK' => h2 (j_go B K') ?_⟩
          unfold j_go
          rw [hb']
          simp only [Option.bind_some, hp]
          exact hK'
    · exact Or.inr fun K' => h2 (j_go B K')
theorem jrun_mono (C : Nat → List Value → jS → jR) (rt : Nat) (B : List jB) : ∀ (n : Nat) (j : Nat) (lv : jL) (st : List Value) (σ : jS) (r : Option Value × jS), jrun C rt B n j lv st σ = some r → jrun C rt B (n + 1) j lv st σ = some r := by
  intro n
  induction n with
  | zero => intro j lv st σ r h; cases h
  | succ n ih =>
    intro j lv st σ r h
    rcases jstep_use C rt B j lv st σ (jrun C rt B n) r h with ⟨j', l, s, t, h1, h2⟩ | h2
    · exact h2 _ (ih j' l s t r h1)
    · exact h2 _
theorem jrun_le (C : Nat → List Value → jS → jR) (rt : Nat) (B : List jB) {n n' : Nat} (hn : n ≤ n') {j : Nat} {lv : jL} {st : List Value} {σ : jS} {r : Option Value × jS} (h : jrun C rt B n j lv st σ = some r) : jrun C rt B n' j lv st σ = some r := by
  induction hn with
  | refl => exact h
  | step _ ih => exact jrun_mono C rt B _ j lv st σ r ih
theorem db_iff (C : Nat → List Value → jS → jR) (rt : Nat) (B : List jB) (j : Nat) (lv : jL) (st : List Value) (σ : jS) (r : Option Value × jS) : db C rt B j lv st σ = some r ↔ ∃ n, jrun C rt B n j lv st σ = some r := by
  constructor
  · intro h
    unfold db at h
    by_cases he : ∃ r, ∃ n, jrun C rt B n j lv st σ = some r
    · rw [dif_pos he] at h
      cases h
      exact Classical.choose_spec he
    · rw [dif_neg he] at h
      cases h
  · intro ⟨n, h⟩
    have he : ∃ r, ∃ n, jrun C rt B n j lv st σ = some r := ⟨r, n, h⟩
    unfold db
    rw [dif_pos he]
    obtain ⟨n', h'⟩ := Classical.choose_spec he
    have h1 := jrun_le C rt B (Nat.le_max_left n n') h
    have h2 := jrun_le C rt B (Nat.le_max_right n n') h'
    rw [h1] at h2
    exact h2.symm
theorem db_eq (C : Nat → List Value → jS → jR) (rt : Nat) (B : List jB) (j : Nat) (lv : jL) (st : List Value) (σ : jS) : db C rt B j lv st σ = jstep C rt B (db C rt B) j lv st σ := by
  cases h : jstep C rt B (db C rt B) j lv st σ with
  | some r =>
    rw [db_iff]
    rcases jstep_use C rt B j lv st σ _ r h with ⟨j', l, s, t, h1, h2⟩ | h2
    · obtain ⟨n, hn⟩ := (db_iff C rt B j' l s t r).mp h1
      exact ⟨n + 1, h2 _ hn⟩
    · exact ⟨1, h2 _⟩
  | none =>
    cases h' : db C rt B j lv st σ with
    | none => rfl
    | some r =>
      exfalso
      obtain ⟨n, hn⟩ := (db_iff C rt B j lv st σ r).mp h'
      cases n with
      | zero => cases hn
      | succ n =>
        rcases jstep_use C rt B j lv st σ _ r hn with ⟨j', l, s, t, h1, h2⟩ | h2
        · have := h2 (db C rt B) ((db_iff C rt B j' l s t r).mpr ⟨n, h1⟩)
          rw [h] at this
          cases this
        · have := h2 (db C rt B)
          rw [h] at this
          cases this
end
section
/-! The machine's state as a world of the Jvm's heap: cell a of the machine is the heap's cell α a. -/
def tv (α : Nat → Nat) : Value → Value
  | .ref a => .ref (α a)
  | v => v
def tl (α : Nat → Nat) (lv : jL) : jL := lv.map fun q => (q.1, tv α q.2)
theorem tv_cat (α : Nat → Nat) (v : Value) : (tv α v).category = v.category := by cases v <;> rfl
theorem tv_cats (α : Nat → Nat) (st : List Value) : ((st.map (tv α)).map fun v => v.category) = st.map fun v => v.category := by
  induction st with
  | nil => rfl
  | cons v st ih => simp only [List.map_cons, tv_cat, ih]
abbrev jG : Type := ClassId × ClassId × ClassId
def j_ac (G : jG) (z : Nat) : ClassId := match z with
  | 0 => G.1
  | 1 => G.2.1
  | _ => G.2.2
def j_zt (z : Nat) : FieldType := match z with
  | 0 => .int
  | 1 => .boolean
  | _ => .long
abbrev jtys (G : jG) : List (ClassId × FieldType) := [(G.1, .int), (G.2.1, .boolean), (G.2.2, .long)]
def jfv (α : Nat → Nat) (σ : jS) (a k f : Nat) : Value := match f with
  | 0 => .int (σ.1 a k)
  | 1 => .int (σ.1 a k)
  | 2 => .long (σ.2.1 a k)
  | 3 => .ref (α (σ.2.2 a k))
  | _ => .ref (α (j_cr a k))
def j_fk (ci : Nat) : List Nat := jFK.getD ci []
def j_fs (α : Nat → Nat) (σ : jS) (a ci : Nat) : List Value := (j_fk ci).mapIdx fun k f => jfv α σ a k f
def jE (α : Nat → Nat) (G : jG) (σ : jS) (a : Nat) (e : (Nat × Nat) ⊕ Nat) : va_E := match e with
  | .inl q => .inl (j_ac G q.1, q.2, match q.1 with
    | 0 => .inl (σ.1 a)
    | 1 => .inl (σ.1 a)
    | _ => .inr (.inl (σ.2.1 a)))
  | .inr ci => .inr (ci, j_fs α σ a ci)
def jP (α : Nat → Nat) (G : jG) (σ : jS) : va_W := jSH.mapIdx fun a e => (α a, jE α G σ a e)
def jA (α : Nat → Nat) : Nat → Prop := fun q => ∃ a, a < jSH.length ∧ q = α a
theorem jP_get {α : Nat → Nat} {G : jG} {σ : jS} {a : Nat} {e : (Nat × Nat) ⊕ Nat} (h : jSH[a]? = some e) : (jP α G σ)[a]? = some (α a, jE α G σ a e) := by
  unfold jP
  rw [List.getElem?_mapIdx, h]
  rfl
theorem jP_inv {α : Nat → Nat} {G : jG} {σ : jS} {a : Nat} {q : Nat × va_E} (h : (jP α G σ)[a]? = some q) : ∃ e, jSH[a]? = some e ∧ q = (α a, jE α G σ a e) := by
  unfold jP at h
  rw [List.getElem?_mapIdx] at h
  cases he : jSH[a]? with
  | none => rw [he] at h; cases h
  | some e => rw [he] at h; exact ⟨e, rfl, (Option.some.inj h).symm⟩
theorem jP_D {α : Nat → Nat} {G : jG} {σ : jS} (hα : ∀ a b, a < jSH.length → b < jSH.length → α a = α b → a = b) : va_D (jA α) (jP α G σ) := by
  refine ⟨fun i j p q hi hj he => ?_, fun k q hk => ?_⟩
  · obtain ⟨e1, h1, rfl⟩ := jP_inv hi
    obtain ⟨e2, h2, rfl⟩ := jP_inv hj
    exact hα i j (List.getElem?_eq_some_iff.mp h1).1 (List.getElem?_eq_some_iff.mp h2).1 he
  · obtain ⟨e1, h1, rfl⟩ := jP_inv hk
    exact ⟨k, (List.getElem?_eq_some_iff.mp h1).1, rfl⟩
/-- one cell is changed: the others stay -/
theorem jP_set {α : Nat → Nat} {G : jG} {σ σ' : jS} {a : Nat} {e : (Nat × Nat) ⊕ Nat} {x : va_E} (h : jSH[a]? = some e) (h1 : ∀ b, b ≠ a → σ'.1 b = σ.1 b) (h2 : ∀ b, b ≠ a → σ'.2.1 b = σ.2.1 b) (h3 : ∀ b, b ≠ a → σ'.2.2 b = σ.2.2 b) (hx : x = jE α G σ' a e) : (jP α G σ).set a (α a, x) = jP α G σ' := by
  subst hx
  apply List.ext_getElem?
  intro b
  rw [List.getElem?_set]
  by_cases hab : a = b
  · subst hab
    have hl : a < (jP α G σ).length := (List.getElem?_eq_some_iff.mp (jP_get (α := α) (G := G) (σ := σ) h)).1
    rw [if_pos rfl, if_pos hl, jP_get h]
  · rw [if_neg hab]
    unfold jP
    rw [List.getElem?_mapIdx, List.getElem?_mapIdx]
    cases hb : jSH[b]? with
    | none => rfl
    | some e' =>
      have hne : b ≠ a := fun q => hab q.symm
      show some _ = some _
      congr 2
      cases e' with
      | inl q =>
        simp only [jE, h1 b hne, h2 b hne]
      | inr ci =>
        simp only [jE, j_fs, jfv, h1 b hne, h2 b hne, h3 b hne]
theorem j_is_sh {ci a : Nat} (h : j_is ci a = true) : jSH[a]? = some (.inr ci) := by
  unfold j_is at h
  split at h
  · rename_i c hc
    rw [hc, beq_iff_eq.mp h]
  · cases h
theorem j_len_sh {z a n : Nat} (h : j_len z a = some n) : jSH[a]? = some (.inl (z, n)) := by
  unfold j_len at h
  split at h
  · rename_i q hc
    obtain ⟨q1, q2⟩ := q
    cases hz : (q1 == z) with
    | true =>
      rw [hz] at h
      simp only [cond_true, Option.some.injEq] at h
      rw [hc, beq_iff_eq.mp hz, h]
    | false =>
      rw [hz] at h
      cases h
  · cases h
theorem p_I_s {st : List Value} {q : Int32 × List Value} (h : p_I st = some q) : st = .int q.1 :: q.2 := by
  unfold p_I at h; split at h
  · cases h; rfl
  · cases h
theorem p_L_s {st : List Value} {q : Int64 × List Value} (h : p_L st = some q) : st = .long q.1 :: q.2 := by
  unfold p_L at h; split at h
  · cases h; rfl
  · cases h
theorem p_R_s {st : List Value} {q : Nat × List Value} (h : p_R st = some q) : st = .ref q.1 :: q.2 := by
  unfold p_R at h; split at h
  · cases h; rfl
  · cases h
theorem p_II_s {st : List Value} {q : Int32 × Int32 × List Value} (h : p_II st = some q) : st = .int q.2.1 :: .int q.1 :: q.2.2 := by
  unfold p_II at h; split at h
  · cases h; rfl
  · cases h
theorem p_LL_s {st : List Value} {q : Int64 × Int64 × List Value} (h : p_LL st = some q) : st = .long q.2.1 :: .long q.1 :: q.2.2 := by
  unfold p_LL at h; split at h
  · cases h; rfl
  · cases h
theorem p_LI_s {st : List Value} {q : Int64 × Int32 × List Value} (h : p_LI st = some q) : st = .int q.2.1 :: .long q.1 :: q.2.2 := by
  unfold p_LI at h; split at h
  · cases h; rfl
  · cases h
theorem p_RI_s {st : List Value} {q : Nat × Int32 × List Value} (h : p_RI st = some q) : st = .int q.2.1 :: .ref q.1 :: q.2.2 := by
  unfold p_RI at h; split at h
  · cases h; rfl
  · cases h
theorem p_RL_s {st : List Value} {q : Nat × Int64 × List Value} (h : p_RL st = some q) : st = .long q.2.1 :: .ref q.1 :: q.2.2 := by
  unfold p_RL at h; split at h
  · cases h; rfl
  · cases h
theorem p_RR_s {st : List Value} {q : Nat × Nat × List Value} (h : p_RR st = some q) : st = .ref q.2.1 :: .ref q.1 :: q.2.2 := by
  unfold p_RR at h; split at h
  · cases h; rfl
  · cases h
theorem p_RII_s {st : List Value} {q : Nat × Int32 × Int32 × List Value} (h : p_RII st = some q) : st = .int q.2.2.1 :: .int q.2.1 :: .ref q.1 :: q.2.2.2 := by
  unfold p_RII at h; split at h
  · cases h; rfl
  · cases h
theorem p_RIL_s {st : List Value} {q : Nat × Int32 × Int64 × List Value} (h : p_RIL st = some q) : st = .long q.2.2.1 :: .int q.2.1 :: .ref q.1 :: q.2.2.2 := by
  unfold p_RIL at h; split at h
  · cases h; rfl
  · cases h
theorem p_1_s {st : List Value} {q : Value × List Value} (h : p_1 st = some q) : st = q.1 :: q.2 ∧ q.1.category = 1 := by
  unfold p_1 at h; split at h
  · cases h; exact ⟨rfl, rfl⟩
  · cases h; exact ⟨rfl, rfl⟩
  · cases h
theorem p_11_s {st : List Value} {q : Value × Value × List Value} (h : p_11 st = some q) : st = q.2.1 :: q.1 :: q.2.2 ∧ q.1.category = 1 ∧ q.2.1.category = 1 := by
  unfold p_11 at h; split at h
  · cases h; exact ⟨rfl, rfl, rfl⟩
  · cases h; exact ⟨rfl, rfl, rfl⟩
  · cases h
theorem p_cpy_s {st : List Value} {q : Nat × Int32 × Nat × Int32 × Int32 × List Value} (h : p_cpy st = some q) : st = .int q.2.2.2.2.1 :: .int q.2.2.2.1 :: .ref q.2.2.1 :: .int q.2.1 :: .ref q.1 :: q.2.2.2.2.2 := by
  unfold p_cpy at h; split at h
  · cases h; rfl
  · cases h
theorem p_n_s : ∀ (n : Nat) {st : List Value} {q : List Value × List Value}, p_n n st = some q → st = q.1.reverse ++ q.2 ∧ q.1.length = n
  | 0, st, q, h => by
    unfold p_n at h
    cases h
    exact ⟨rfl, rfl⟩
  | n + 1, [], q, h => by
    unfold p_n at h
    cases h
  | n + 1, v :: st, q, h => by
    unfold p_n at h
    obtain ⟨w, hw, h⟩ := Option.bind_eq_some_iff.mp h
    cases h
    obtain ⟨h1, h2⟩ := p_n_s n hw
    subst h1
    refine ⟨?_, ?_⟩
    · simp only [List.reverse_append, List.reverse_cons, List.reverse_nil, List.nil_append, List.cons_append]
    · simp only [List.length_append, List.length_cons, List.length_nil, h2]
theorem j_at_mem {lv : jL} {i : Nat} {v : Value} (h : j_at lv i = some v) : (i, v) ∈ lv := by
  induction lv with
  | nil => cases h
  | cons q l ih =>
    unfold j_at at h
    cases hq : (q.1 == i) with
    | true =>
      rw [hq] at h
      simp only [cond_true, Option.some.injEq] at h
      have e : q = (i, v) := Prod.ext (beq_iff_eq.mp hq) h
      rw [e]
      exact List.mem_cons_self
    | false =>
      rw [hq] at h
      exact List.mem_cons_of_mem _ (ih h)
theorem j_at_ls {α : Nat → Nat} {lv : jL} {i nL : Nat} {v : Value} {ls : Array Slot} (h : j_at lv i = some v) (hl : lv_has ls nL (tl α lv)) : ls[i]? = some (.val (tv α v)) :=
  hl.2.2 (i, tv α v) (List.mem_map.mpr ⟨(i, v), j_at_mem h, rfl⟩)
theorem j_atI_s {lv : jL} {i : Nat} {x : Int32} (h : j_atI lv i = some x) : j_at lv i = some (.int x) := by
  unfold j_atI at h
  obtain ⟨v, hv, h⟩ := Option.bind_eq_some_iff.mp h
  split at h
  · cases h; exact hv
  · cases h
theorem j_atL_s {lv : jL} {i : Nat} {x : Int64} (h : j_atL lv i = some x) : j_at lv i = some (.long x) := by
  unfold j_atL at h
  obtain ⟨v, hv, h⟩ := Option.bind_eq_some_iff.mp h
  split at h
  · cases h; exact hv
  · cases h
theorem j_atR_s {lv : jL} {i : Nat} {x : Nat} (h : j_atR lv i = some x) : j_at lv i = some (.ref x) := by
  unfold j_atR at h
  obtain ⟨v, hv, h⟩ := Option.bind_eq_some_iff.mp h
  split at h
  · cases h; exact hv
  · cases h
theorem j_pick_has {α : Nat → Nat} {lv : jL} {nL : Nat} {ls : Array Slot} (hl : lv_has ls nL (tl α lv)) : ∀ (vs : List Nat) {l : jL}, j_pick vs lv = some l → lv_has ls nL (tl α l)
  | [], l, h => by
    unfold j_pick at h
    cases h
    exact ⟨hl.1, hl.2.1, fun q hq => by cases hq⟩
  | i :: r, l, h => by
    unfold j_pick at h
    obtain ⟨v, hv, h⟩ := Option.bind_eq_some_iff.mp h
    obtain ⟨l', hl', h⟩ := Option.bind_eq_some_iff.mp h
    cases h
    have h1 := j_pick_has hl r hl'
    refine ⟨hl.1, hl.2.1, fun q hq => ?_⟩
    rcases List.mem_cons.mp hq with rfl | hq
    · exact j_at_ls hv hl
    · exact h1.2.2 q hq
theorem tl_st1 (α : Nat → Nat) (lv : jL) (i : Nat) (v : Value) : (i, tv α v) :: (tl α lv).filter (fun q => !(q.1 == i) && !(q.1 + 1 == i && q.2.category == 2)) = tl α (j_st1 lv i v) := by
  unfold j_st1 tl
  rw [List.map_cons, List.filter_map]
  congr 2
  apply List.filter_congr
  intro q _
  simp only [Function.comp, tv_cat]
theorem tl_st2 (α : Nat → Nat) (lv : jL) (i : Nat) (v : Value) : (i, tv α v) :: (tl α lv).filter (fun q => !(q.1 == i) && (!(q.1 == i + 1) && !(q.1 + 1 == i && q.2.category == 2))) = tl α (j_st2 lv i v) := by
  unfold j_st2 tl
  rw [List.map_cons, List.filter_map]
  congr 2
  apply List.filter_congr
  intro q _
  simp only [Function.comp, tv_cat]
theorem j_fs_get {α : Nat → Nat} {σ : jS} {a ci k f : Nat} (h : (j_fk ci)[k]? = some f) : (j_fs α σ a ci)[k]? = some (jfv α σ a k f) := by
  unfold j_fs
  rw [List.getElem?_mapIdx, h]
  rfl
/-- a field is set -/
theorem j_fs_set {α : Nat → Nat} {σ σ' : jS} {a ci k f : Nat} {v : Value} (h : (j_fk ci)[k]? = some f) (hv : v = jfv α σ' a k f) (h1 : ∀ j, j ≠ k → σ'.1 a j = σ.1 a j) (h2 : ∀ j, j ≠ k → σ'.2.1 a j = σ.2.1 a j) (h3 : ∀ j, j ≠ k → σ'.2.2 a j = σ.2.2 a j) : (j_fs α σ a ci).set k v = j_fs α σ' a ci := by
  subst hv
  apply List.ext_getElem?
  intro j
  rw [List.getElem?_set]
  by_cases hkj : k = j
  · subst hkj
    have hl : k < (j_fs α σ a ci).length := (List.getElem?_eq_some_iff.mp (j_fs_get (α := α) (σ := σ) (a := a) h)).1
    rw [if_pos rfl, if_pos hl, j_fs_get h]
  · rw [if_neg hkj]
    unfold j_fs
    rw [List.getElem?_mapIdx, List.getElem?_mapIdx]
    have hne : j ≠ k := fun q => hkj q.symm
    cases hj : (j_fk ci)[j]? with
    | none => rfl
    | some f' =>
      show some _ = some _
      congr 1
      simp only [jfv, h1 j hne, h2 j hne, h3 j hne]
end

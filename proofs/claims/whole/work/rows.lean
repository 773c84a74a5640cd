section
-- ===== PART A: goes FIRST, ahead of the names: the tables' words, and 'selects' of the private methods out of them =====
/-- a private method of a class that the tables say can be made, by its rows of tables_1 -/
def lw_okq (q : MethodName × Nat) : Prop := (q.1.cls ≠ "java/lang/invoke/MethodHandle" ∧ q.1.cls ≠ "java/lang/invoke/VarHandle") ∧ Cond.instantiable q.1.cls q.2 ∈ tables_1 ∧ Cond.privateMethod q.1 ∈ tables_1 ∧ Cond.instanceMethod q.1 ∈ tables_1
theorem lw_p0 : lw_okq (⟨"HalfHands", "append", "(I)V"⟩, 14) := ⟨⟨by decide +kernel, by decide +kernel⟩, List.mem_of_getElem? (i := 26) (by decide +kernel), List.mem_of_getElem? (i := 456) (by decide +kernel), List.mem_of_getElem? (i := 457) (by decide +kernel)⟩
theorem lw_p1 : lw_okq (⟨"HalfHands$Tokens", "readWord", "()V"⟩, 7) := ⟨⟨by decide +kernel, by decide +kernel⟩, List.mem_of_getElem? (i := 152) (by decide +kernel), List.mem_of_getElem? (i := 490) (by decide +kernel), List.mem_of_getElem? (i := 491) (by decide +kernel)⟩
theorem lw_p2 : lw_okq (⟨"HalfHands$Tokens", "readNumber", "()V"⟩, 7) := ⟨⟨by decide +kernel, by decide +kernel⟩, List.mem_of_getElem? (i := 152) (by decide +kernel), List.mem_of_getElem? (i := 494) (by decide +kernel), List.mem_of_getElem? (i := 495) (by decide +kernel)⟩
theorem lw_p3 : lw_okq (⟨"HalfHands$Tokens", "readSign", "()V"⟩, 7) := ⟨⟨by decide +kernel, by decide +kernel⟩, List.mem_of_getElem? (i := 152) (by decide +kernel), List.mem_of_getElem? (i := 499) (by decide +kernel), List.mem_of_getElem? (i := 500) (by decide +kernel)⟩
theorem lw_p4 : lw_okq (⟨"HalfHands$Reader", "personLine", "()Z"⟩, 5) := ⟨⟨by decide +kernel, by decide +kernel⟩, List.mem_of_getElem? (i := 146) (by decide +kernel), List.mem_of_getElem? (i := 569) (by decide +kernel), List.mem_of_getElem? (i := 570) (by decide +kernel)⟩
theorem lw_p5 : lw_okq (⟨"HalfHands$Reader", "fails", "(I)Z"⟩, 5) := ⟨⟨by decide +kernel, by decide +kernel⟩, List.mem_of_getElem? (i := 146) (by decide +kernel), List.mem_of_getElem? (i := 573) (by decide +kernel), List.mem_of_getElem? (i := 574) (by decide +kernel)⟩
theorem lw_p6 : lw_okq (⟨"HalfHands$Reader", "newName", "(I)Z"⟩, 5) := ⟨⟨by decide +kernel, by decide +kernel⟩, List.mem_of_getElem? (i := 146) (by decide +kernel), List.mem_of_getElem? (i := 585) (by decide +kernel), List.mem_of_getElem? (i := 586) (by decide +kernel)⟩
theorem lw_p7 : lw_okq (⟨"HalfHands$Reader", "readNumber", "(II)Z"⟩, 5) := ⟨⟨by decide +kernel, by decide +kernel⟩, List.mem_of_getElem? (i := 146) (by decide +kernel), List.mem_of_getElem? (i := 589) (by decide +kernel), List.mem_of_getElem? (i := 590) (by decide +kernel)⟩
theorem lw_p8 : lw_okq (⟨"HalfHands$Reader", "passes", "(I)Z"⟩, 5) := ⟨⟨by decide +kernel, by decide +kernel⟩, List.mem_of_getElem? (i := 146) (by decide +kernel), List.mem_of_getElem? (i := 599) (by decide +kernel), List.mem_of_getElem? (i := 600) (by decide +kernel)⟩
theorem lw_p9 : lw_okq (⟨"HalfHands$Reader", "handsLine", "()Z"⟩, 5) := ⟨⟨by decide +kernel, by decide +kernel⟩, List.mem_of_getElem? (i := 146) (by decide +kernel), List.mem_of_getElem? (i := 603) (by decide +kernel), List.mem_of_getElem? (i := 604) (by decide +kernel)⟩
theorem lw_p10 : lw_okq (⟨"HalfHands$Reader", "toldPerson", "()I"⟩, 5) := ⟨⟨by decide +kernel, by decide +kernel⟩, List.mem_of_getElem? (i := 146) (by decide +kernel), List.mem_of_getElem? (i := 607) (by decide +kernel), List.mem_of_getElem? (i := 608) (by decide +kernel)⟩
theorem lw_p11 : lw_okq (⟨"HalfHands$Reader", "heirOf", "(I)Z"⟩, 5) := ⟨⟨by decide +kernel, by decide +kernel⟩, List.mem_of_getElem? (i := 146) (by decide +kernel), List.mem_of_getElem? (i := 611) (by decide +kernel), List.mem_of_getElem? (i := 612) (by decide +kernel)⟩
theorem lw_p12 : lw_okq (⟨"HalfHands$Reader", "parcelLine", "()Z"⟩, 5) := ⟨⟨by decide +kernel, by decide +kernel⟩, List.mem_of_getElem? (i := 146) (by decide +kernel), List.mem_of_getElem? (i := 628) (by decide +kernel), List.mem_of_getElem? (i := 629) (by decide +kernel)⟩
theorem lw_p13 : lw_okq (⟨"HalfHands$Reader", "lawLine", "()Z"⟩, 5) := ⟨⟨by decide +kernel, by decide +kernel⟩, List.mem_of_getElem? (i := 146) (by decide +kernel), List.mem_of_getElem? (i := 636) (by decide +kernel), List.mem_of_getElem? (i := 637) (by decide +kernel)⟩
theorem lw_p14 : lw_okq (⟨"HalfHands$Reader", "expression", "(II)Z"⟩, 5) := ⟨⟨by decide +kernel, by decide +kernel⟩, List.mem_of_getElem? (i := 146) (by decide +kernel), List.mem_of_getElem? (i := 644) (by decide +kernel), List.mem_of_getElem? (i := 645) (by decide +kernel)⟩
theorem lw_p15 : lw_okq (⟨"HalfHands$Reader", "denial", "(I)Z"⟩, 5) := ⟨⟨by decide +kernel, by decide +kernel⟩, List.mem_of_getElem? (i := 146) (by decide +kernel), List.mem_of_getElem? (i := 648) (by decide +kernel), List.mem_of_getElem? (i := 649) (by decide +kernel)⟩
def lw_privs_1 : List (MethodName × Nat) := [(⟨"HalfHands", "append", "(I)V"⟩, 14), (⟨"HalfHands$Tokens", "readWord", "()V"⟩, 7), (⟨"HalfHands$Tokens", "readNumber", "()V"⟩, 7), (⟨"HalfHands$Tokens", "readSign", "()V"⟩, 7), (⟨"HalfHands$Reader", "personLine", "()Z"⟩, 5), (⟨"HalfHands$Reader", "fails", "(I)Z"⟩, 5), (⟨"HalfHands$Reader", "newName", "(I)Z"⟩, 5), (⟨"HalfHands$Reader", "readNumber", "(II)Z"⟩, 5), (⟨"HalfHands$Reader", "passes", "(I)Z"⟩, 5), (⟨"HalfHands$Reader", "handsLine", "()Z"⟩, 5), (⟨"HalfHands$Reader", "toldPerson", "()I"⟩, 5), (⟨"HalfHands$Reader", "heirOf", "(I)Z"⟩, 5), (⟨"HalfHands$Reader", "parcelLine", "()Z"⟩, 5), (⟨"HalfHands$Reader", "lawLine", "()Z"⟩, 5), (⟨"HalfHands$Reader", "expression", "(II)Z"⟩, 5), (⟨"HalfHands$Reader", "denial", "(I)Z"⟩, 5)]
theorem lw_r1 : ∀ q ∈ lw_privs_1, lw_okq q := List.forall_mem_cons.mpr ⟨lw_p0, List.forall_mem_cons.mpr ⟨lw_p1, List.forall_mem_cons.mpr ⟨lw_p2, List.forall_mem_cons.mpr ⟨lw_p3, List.forall_mem_cons.mpr ⟨lw_p4, List.forall_mem_cons.mpr ⟨lw_p5, List.forall_mem_cons.mpr ⟨lw_p6, List.forall_mem_cons.mpr ⟨lw_p7, List.forall_mem_cons.mpr ⟨lw_p8, List.forall_mem_cons.mpr ⟨lw_p9, List.forall_mem_cons.mpr ⟨lw_p10, List.forall_mem_cons.mpr ⟨lw_p11, List.forall_mem_cons.mpr ⟨lw_p12, List.forall_mem_cons.mpr ⟨lw_p13, List.forall_mem_cons.mpr ⟨lw_p14, List.forall_mem_cons.mpr ⟨lw_p15, fun _ h => absurd h List.not_mem_nil⟩⟩⟩⟩⟩⟩⟩⟩⟩⟩⟩⟩⟩⟩⟩⟩
theorem lw_p16 : lw_okq (⟨"HalfHands$Reader", "passKnot", "()Z"⟩, 5) := ⟨⟨by decide +kernel, by decide +kernel⟩, List.mem_of_getElem? (i := 146) (by decide +kernel), List.mem_of_getElem? (i := 652) (by decide +kernel), List.mem_of_getElem? (i := 653) (by decide +kernel)⟩
theorem lw_p17 : lw_okq (⟨"HalfHands$Reader", "operand", "(I)Z"⟩, 5) := ⟨⟨by decide +kernel, by decide +kernel⟩, List.mem_of_getElem? (i := 146) (by decide +kernel), List.mem_of_getElem? (i := 660) (by decide +kernel), List.mem_of_getElem? (i := 661) (by decide +kernel)⟩
theorem lw_p18 : lw_okq (⟨"HalfHands$Reader", "enclosed", "(I)Z"⟩, 5) := ⟨⟨by decide +kernel, by decide +kernel⟩, List.mem_of_getElem? (i := 146) (by decide +kernel), List.mem_of_getElem? (i := 664) (by decide +kernel), List.mem_of_getElem? (i := 665) (by decide +kernel)⟩
theorem lw_p19 : lw_okq (⟨"HalfHands$Reader", "mayLine", "()Z"⟩, 5) := ⟨⟨by decide +kernel, by decide +kernel⟩, List.mem_of_getElem? (i := 146) (by decide +kernel), List.mem_of_getElem? (i := 681) (by decide +kernel), List.mem_of_getElem? (i := 682) (by decide +kernel)⟩
theorem lw_p20 : lw_okq (⟨"HalfHands$Journey", "start", "(LHalfHands$Telling;II)V"⟩, 14) := ⟨⟨by decide +kernel, by decide +kernel⟩, List.mem_of_getElem? (i := 251) (by decide +kernel), List.mem_of_getElem? (i := 697) (by decide +kernel), List.mem_of_getElem? (i := 698) (by decide +kernel)⟩
theorem lw_p21 : lw_okq (⟨"HalfHands$Journey", "pass", "()V"⟩, 14) := ⟨⟨by decide +kernel, by decide +kernel⟩, List.mem_of_getElem? (i := 251) (by decide +kernel), List.mem_of_getElem? (i := 734) (by decide +kernel), List.mem_of_getElem? (i := 735) (by decide +kernel)⟩
theorem lw_p22 : lw_okq (⟨"HalfHands$Journey", "isLeftOut", "(I)Z"⟩, 14) := ⟨⟨by decide +kernel, by decide +kernel⟩, List.mem_of_getElem? (i := 251) (by decide +kernel), List.mem_of_getElem? (i := 738) (by decide +kernel), List.mem_of_getElem? (i := 739) (by decide +kernel)⟩
theorem lw_p23 : lw_okq (⟨"HalfHands$Journey", "dispatch", "(I)V"⟩, 14) := ⟨⟨by decide +kernel, by decide +kernel⟩, List.mem_of_getElem? (i := 251) (by decide +kernel), List.mem_of_getElem? (i := 742) (by decide +kernel), List.mem_of_getElem? (i := 743) (by decide +kernel)⟩
theorem lw_p24 : lw_okq (⟨"HalfHands$Journey", "waysOf", "(I)I"⟩, 14) := ⟨⟨by decide +kernel, by decide +kernel⟩, List.mem_of_getElem? (i := 251) (by decide +kernel), List.mem_of_getElem? (i := 746) (by decide +kernel), List.mem_of_getElem? (i := 747) (by decide +kernel)⟩
theorem lw_p25 : lw_okq (⟨"HalfHands$Journey", "settle", "(II)V"⟩, 14) := ⟨⟨by decide +kernel, by decide +kernel⟩, List.mem_of_getElem? (i := 251) (by decide +kernel), List.mem_of_getElem? (i := 751) (by decide +kernel), List.mem_of_getElem? (i := 752) (by decide +kernel)⟩
theorem lw_p26 : lw_okq (⟨"HalfHands$Journey", "handOn", "(II)V"⟩, 14) := ⟨⟨by decide +kernel, by decide +kernel⟩, List.mem_of_getElem? (i := 251) (by decide +kernel), List.mem_of_getElem? (i := 755) (by decide +kernel), List.mem_of_getElem? (i := 756) (by decide +kernel)⟩
theorem lw_p27 : lw_okq (⟨"HalfHands$Journey", "bring", "(I)V"⟩, 14) := ⟨⟨by decide +kernel, by decide +kernel⟩, List.mem_of_getElem? (i := 251) (by decide +kernel), List.mem_of_getElem? (i := 760) (by decide +kernel), List.mem_of_getElem? (i := 761) (by decide +kernel)⟩
theorem lw_p28 : lw_okq (⟨"HalfHands$Journey", "shareOf", "(II)I"⟩, 14) := ⟨⟨by decide +kernel, by decide +kernel⟩, List.mem_of_getElem? (i := 251) (by decide +kernel), List.mem_of_getElem? (i := 764) (by decide +kernel), List.mem_of_getElem? (i := 765) (by decide +kernel)⟩
theorem lw_p29 : lw_okq (⟨"HalfHands$Journey", "ageOf", "(I)I"⟩, 14) := ⟨⟨by decide +kernel, by decide +kernel⟩, List.mem_of_getElem? (i := 251) (by decide +kernel), List.mem_of_getElem? (i := 768) (by decide +kernel), List.mem_of_getElem? (i := 769) (by decide +kernel)⟩
theorem lw_p30 : lw_okq (⟨"HalfHands", "isSent", "(IJI)Z"⟩, 14) := ⟨⟨by decide +kernel, by decide +kernel⟩, List.mem_of_getElem? (i := 26) (by decide +kernel), List.mem_of_getElem? (i := 834) (by decide +kernel), List.mem_of_getElem? (i := 835) (by decide +kernel)⟩
theorem lw_p31 : lw_okq (⟨"HalfHands", "isRow", "(IJ)Z"⟩, 14) := ⟨⟨by decide +kernel, by decide +kernel⟩, List.mem_of_getElem? (i := 26) (by decide +kernel), List.mem_of_getElem? (i := 838) (by decide +kernel), List.mem_of_getElem? (i := 839) (by decide +kernel)⟩
def lw_privs_2 : List (MethodName × Nat) := [(⟨"HalfHands$Reader", "passKnot", "()Z"⟩, 5), (⟨"HalfHands$Reader", "operand", "(I)Z"⟩, 5), (⟨"HalfHands$Reader", "enclosed", "(I)Z"⟩, 5), (⟨"HalfHands$Reader", "mayLine", "()Z"⟩, 5), (⟨"HalfHands$Journey", "start", "(LHalfHands$Telling;II)V"⟩, 14), (⟨"HalfHands$Journey", "pass", "()V"⟩, 14), (⟨"HalfHands$Journey", "isLeftOut", "(I)Z"⟩, 14), (⟨"HalfHands$Journey", "dispatch", "(I)V"⟩, 14), (⟨"HalfHands$Journey", "waysOf", "(I)I"⟩, 14), (⟨"HalfHands$Journey", "settle", "(II)V"⟩, 14), (⟨"HalfHands$Journey", "handOn", "(II)V"⟩, 14), (⟨"HalfHands$Journey", "bring", "(I)V"⟩, 14), (⟨"HalfHands$Journey", "shareOf", "(II)I"⟩, 14), (⟨"HalfHands$Journey", "ageOf", "(I)I"⟩, 14), (⟨"HalfHands", "isSent", "(IJI)Z"⟩, 14), (⟨"HalfHands", "isRow", "(IJ)Z"⟩, 14)]
theorem lw_r2 : ∀ q ∈ lw_privs_2, lw_okq q := List.forall_mem_cons.mpr ⟨lw_p16, List.forall_mem_cons.mpr ⟨lw_p17, List.forall_mem_cons.mpr ⟨lw_p18, List.forall_mem_cons.mpr ⟨lw_p19, List.forall_mem_cons.mpr ⟨lw_p20, List.forall_mem_cons.mpr ⟨lw_p21, List.forall_mem_cons.mpr ⟨lw_p22, List.forall_mem_cons.mpr ⟨lw_p23, List.forall_mem_cons.mpr ⟨lw_p24, List.forall_mem_cons.mpr ⟨lw_p25, List.forall_mem_cons.mpr ⟨lw_p26, List.forall_mem_cons.mpr ⟨lw_p27, List.forall_mem_cons.mpr ⟨lw_p28, List.forall_mem_cons.mpr ⟨lw_p29, List.forall_mem_cons.mpr ⟨lw_p30, List.forall_mem_cons.mpr ⟨lw_p31, fun _ h => absurd h List.not_mem_nil⟩⟩⟩⟩⟩⟩⟩⟩⟩⟩⟩⟩⟩⟩⟩⟩
theorem lw_p32 : lw_okq (⟨"HalfHands$Row", "ageAt", "(LHalfHands$Telling;I)I"⟩, 2) := ⟨⟨by decide +kernel, by decide +kernel⟩, List.mem_of_getElem? (i := 311) (by decide +kernel), List.mem_of_getElem? (i := 852) (by decide +kernel), List.mem_of_getElem? (i := 853) (by decide +kernel)⟩
theorem lw_p33 : lw_okq (⟨"HalfHands", "endOfBack", "(II)I"⟩, 14) := ⟨⟨by decide +kernel, by decide +kernel⟩, List.mem_of_getElem? (i := 26) (by decide +kernel), List.mem_of_getElem? (i := 877) (by decide +kernel), List.mem_of_getElem? (i := 878) (by decide +kernel)⟩
theorem lw_p34 : lw_okq (⟨"HalfHands$Orders", "askOddOnes", "()V"⟩, 12) := ⟨⟨by decide +kernel, by decide +kernel⟩, List.mem_of_getElem? (i := 326) (by decide +kernel), List.mem_of_getElem? (i := 910) (by decide +kernel), List.mem_of_getElem? (i := 911) (by decide +kernel)⟩
theorem lw_p35 : lw_okq (⟨"HalfHands$Orders", "askOddOne", "(IIII)V"⟩, 12) := ⟨⟨by decide +kernel, by decide +kernel⟩, List.mem_of_getElem? (i := 326) (by decide +kernel), List.mem_of_getElem? (i := 914) (by decide +kernel), List.mem_of_getElem? (i := 915) (by decide +kernel)⟩
theorem lw_p36 : lw_okq (⟨"HalfHands$Orders", "solved", "(II)I"⟩, 12) := ⟨⟨by decide +kernel, by decide +kernel⟩, List.mem_of_getElem? (i := 326) (by decide +kernel), List.mem_of_getElem? (i := 929) (by decide +kernel), List.mem_of_getElem? (i := 930) (by decide +kernel)⟩
theorem lw_p37 : lw_okq (⟨"HalfHands$Orders", "everybody", "()I"⟩, 12) := ⟨⟨by decide +kernel, by decide +kernel⟩, List.mem_of_getElem? (i := 326) (by decide +kernel), List.mem_of_getElem? (i := 933) (by decide +kernel), List.mem_of_getElem? (i := 934) (by decide +kernel)⟩
theorem lw_p38 : lw_okq (⟨"HalfHands$Orders", "judged", "(III)I"⟩, 12) := ⟨⟨by decide +kernel, by decide +kernel⟩, List.mem_of_getElem? (i := 326) (by decide +kernel), List.mem_of_getElem? (i := 943) (by decide +kernel), List.mem_of_getElem? (i := 944) (by decide +kernel)⟩
theorem lw_p39 : lw_okq (⟨"HalfHands$Orders", "judgedEnd", "(III)I"⟩, 12) := ⟨⟨by decide +kernel, by decide +kernel⟩, List.mem_of_getElem? (i := 326) (by decide +kernel), List.mem_of_getElem? (i := 953) (by decide +kernel), List.mem_of_getElem? (i := 954) (by decide +kernel)⟩
theorem lw_p40 : lw_okq (⟨"HalfHands$Orders", "handed", "(IIII)I"⟩, 12) := ⟨⟨by decide +kernel, by decide +kernel⟩, List.mem_of_getElem? (i := 326) (by decide +kernel), List.mem_of_getElem? (i := 957) (by decide +kernel), List.mem_of_getElem? (i := 958) (by decide +kernel)⟩
theorem lw_p41 : lw_okq (⟨"HalfHands$Orders", "isAskedOf", "(II)Z"⟩, 12) := ⟨⟨by decide +kernel, by decide +kernel⟩, List.mem_of_getElem? (i := 326) (by decide +kernel), List.mem_of_getElem? (i := 961) (by decide +kernel), List.mem_of_getElem? (i := 962) (by decide +kernel)⟩
theorem lw_p42 : lw_okq (⟨"HalfHands$Orders", "judgedStep", "(IIII)I"⟩, 12) := ⟨⟨by decide +kernel, by decide +kernel⟩, List.mem_of_getElem? (i := 326) (by decide +kernel), List.mem_of_getElem? (i := 966) (by decide +kernel), List.mem_of_getElem? (i := 967) (by decide +kernel)⟩
theorem lw_p43 : lw_okq (⟨"HalfHands$Orders", "overtaken", "(II)I"⟩, 12) := ⟨⟨by decide +kernel, by decide +kernel⟩, List.mem_of_getElem? (i := 326) (by decide +kernel), List.mem_of_getElem? (i := 970) (by decide +kernel), List.mem_of_getElem? (i := 971) (by decide +kernel)⟩
theorem lw_p44 : lw_okq (⟨"HalfHands$Orders", "joined", "(II)I"⟩, 12) := ⟨⟨by decide +kernel, by decide +kernel⟩, List.mem_of_getElem? (i := 326) (by decide +kernel), List.mem_of_getElem? (i := 974) (by decide +kernel), List.mem_of_getElem? (i := 975) (by decide +kernel)⟩
theorem lw_p45 : lw_okq (⟨"HalfHands$Orders", "laidRow", "(I)J"⟩, 12) := ⟨⟨by decide +kernel, by decide +kernel⟩, List.mem_of_getElem? (i := 326) (by decide +kernel), List.mem_of_getElem? (i := 997) (by decide +kernel), List.mem_of_getElem? (i := 998) (by decide +kernel)⟩
theorem lw_p46 : lw_okq (⟨"HalfHands$Orders", "lay", "(I)V"⟩, 12) := ⟨⟨by decide +kernel, by decide +kernel⟩, List.mem_of_getElem? (i := 326) (by decide +kernel), List.mem_of_getElem? (i := 1001) (by decide +kernel), List.mem_of_getElem? (i := 1002) (by decide +kernel)⟩
theorem lw_p47 : lw_okq (⟨"HalfHands$Orders", "chosen", "(IIII)I"⟩, 12) := ⟨⟨by decide +kernel, by decide +kernel⟩, List.mem_of_getElem? (i := 326) (by decide +kernel), List.mem_of_getElem? (i := 1005) (by decide +kernel), List.mem_of_getElem? (i := 1006) (by decide +kernel)⟩
def lw_privs_3 : List (MethodName × Nat) := [(⟨"HalfHands$Row", "ageAt", "(LHalfHands$Telling;I)I"⟩, 2), (⟨"HalfHands", "endOfBack", "(II)I"⟩, 14), (⟨"HalfHands$Orders", "askOddOnes", "()V"⟩, 12), (⟨"HalfHands$Orders", "askOddOne", "(IIII)V"⟩, 12), (⟨"HalfHands$Orders", "solved", "(II)I"⟩, 12), (⟨"HalfHands$Orders", "everybody", "()I"⟩, 12), (⟨"HalfHands$Orders", "judged", "(III)I"⟩, 12), (⟨"HalfHands$Orders", "judgedEnd", "(III)I"⟩, 12), (⟨"HalfHands$Orders", "handed", "(IIII)I"⟩, 12), (⟨"HalfHands$Orders", "isAskedOf", "(II)Z"⟩, 12), (⟨"HalfHands$Orders", "judgedStep", "(IIII)I"⟩, 12), (⟨"HalfHands$Orders", "overtaken", "(II)I"⟩, 12), (⟨"HalfHands$Orders", "joined", "(II)I"⟩, 12), (⟨"HalfHands$Orders", "laidRow", "(I)J"⟩, 12), (⟨"HalfHands$Orders", "lay", "(I)V"⟩, 12), (⟨"HalfHands$Orders", "chosen", "(IIII)I"⟩, 12)]
theorem lw_r3 : ∀ q ∈ lw_privs_3, lw_okq q := List.forall_mem_cons.mpr ⟨lw_p32, List.forall_mem_cons.mpr ⟨lw_p33, List.forall_mem_cons.mpr ⟨lw_p34, List.forall_mem_cons.mpr ⟨lw_p35, List.forall_mem_cons.mpr ⟨lw_p36, List.forall_mem_cons.mpr ⟨lw_p37, List.forall_mem_cons.mpr ⟨lw_p38, List.forall_mem_cons.mpr ⟨lw_p39, List.forall_mem_cons.mpr ⟨lw_p40, List.forall_mem_cons.mpr ⟨lw_p41, List.forall_mem_cons.mpr ⟨lw_p42, List.forall_mem_cons.mpr ⟨lw_p43, List.forall_mem_cons.mpr ⟨lw_p44, List.forall_mem_cons.mpr ⟨lw_p45, List.forall_mem_cons.mpr ⟨lw_p46, List.forall_mem_cons.mpr ⟨lw_p47, fun _ h => absurd h List.not_mem_nil⟩⟩⟩⟩⟩⟩⟩⟩⟩⟩⟩⟩⟩⟩⟩⟩
theorem lw_p48 : lw_okq (⟨"HalfHands$Orders", "leads", "(II)Z"⟩, 12) := ⟨⟨by decide +kernel, by decide +kernel⟩, List.mem_of_getElem? (i := 326) (by decide +kernel), List.mem_of_getElem? (i := 1009) (by decide +kernel), List.mem_of_getElem? (i := 1010) (by decide +kernel)⟩
theorem lw_p49 : lw_okq (⟨"HalfHands$Orders", "numberOf", "(I)I"⟩, 12) := ⟨⟨by decide +kernel, by decide +kernel⟩, List.mem_of_getElem? (i := 326) (by decide +kernel), List.mem_of_getElem? (i := 1040) (by decide +kernel), List.mem_of_getElem? (i := 1041) (by decide +kernel)⟩
theorem lw_p50 : lw_okq (⟨"HalfHands", "isOutdone", "(I)Z"⟩, 14) := ⟨⟨by decide +kernel, by decide +kernel⟩, List.mem_of_getElem? (i := 26) (by decide +kernel), List.mem_of_getElem? (i := 1079) (by decide +kernel), List.mem_of_getElem? (i := 1080) (by decide +kernel)⟩
theorem lw_p51 : lw_okq (⟨"HalfHands", "lawNumbered", "(I)I"⟩, 14) := ⟨⟨by decide +kernel, by decide +kernel⟩, List.mem_of_getElem? (i := 26) (by decide +kernel), List.mem_of_getElem? (i := 1121) (by decide +kernel), List.mem_of_getElem? (i := 1122) (by decide +kernel)⟩
theorem lw_p52 : lw_okq (⟨"HalfHands", "agrees", "(I)Z"⟩, 14) := ⟨⟨by decide +kernel, by decide +kernel⟩, List.mem_of_getElem? (i := 26) (by decide +kernel), List.mem_of_getElem? (i := 1125) (by decide +kernel), List.mem_of_getElem? (i := 1126) (by decide +kernel)⟩
theorem lw_p53 : lw_okq (⟨"HalfHands", "isTrial", "(II)Z"⟩, 14) := ⟨⟨by decide +kernel, by decide +kernel⟩, List.mem_of_getElem? (i := 26) (by decide +kernel), List.mem_of_getElem? (i := 1146) (by decide +kernel), List.mem_of_getElem? (i := 1147) (by decide +kernel)⟩
theorem lw_p54 : lw_okq (⟨"java/lang/Throwable", "fillInStackTrace", "(I)Ljava/lang/Throwable;"⟩, 6) := ⟨⟨by decide +kernel, by decide +kernel⟩, List.mem_of_getElem? (i := 1214) (by decide +kernel), List.mem_of_getElem? (i := 1212) (by decide +kernel), List.mem_of_getElem? (i := 1213) (by decide +kernel)⟩
theorem lw_p55 : lw_okq (⟨"HalfHandsModel", "token", "()V"⟩, 80) := ⟨⟨by decide +kernel, by decide +kernel⟩, List.mem_of_getElem? (i := 1255) (by decide +kernel), List.mem_of_getElem? (i := 1514) (by decide +kernel), List.mem_of_getElem? (i := 1515) (by decide +kernel)⟩
theorem lw_p56 : lw_okq (⟨"HalfHandsModel", "here", "()I"⟩, 80) := ⟨⟨by decide +kernel, by decide +kernel⟩, List.mem_of_getElem? (i := 1255) (by decide +kernel), List.mem_of_getElem? (i := 1518) (by decide +kernel), List.mem_of_getElem? (i := 1519) (by decide +kernel)⟩
theorem lw_p57 : lw_okq (⟨"HalfHandsModel", "word", "()I"⟩, 80) := ⟨⟨by decide +kernel, by decide +kernel⟩, List.mem_of_getElem? (i := 1255) (by decide +kernel), List.mem_of_getElem? (i := 1525) (by decide +kernel), List.mem_of_getElem? (i := 1526) (by decide +kernel)⟩
theorem lw_p58 : lw_okq (⟨"HalfHandsModel", "name", "()V"⟩, 80) := ⟨⟨by decide +kernel, by decide +kernel⟩, List.mem_of_getElem? (i := 1255) (by decide +kernel), List.mem_of_getElem? (i := 1532) (by decide +kernel), List.mem_of_getElem? (i := 1533) (by decide +kernel)⟩
theorem lw_p59 : lw_okq (⟨"HalfHandsModel", "sign", "(I)V"⟩, 80) := ⟨⟨by decide +kernel, by decide +kernel⟩, List.mem_of_getElem? (i := 1255) (by decide +kernel), List.mem_of_getElem? (i := 1540) (by decide +kernel), List.mem_of_getElem? (i := 1541) (by decide +kernel)⟩
theorem lw_p60 : lw_okq (⟨"HalfHandsModel", "line", "()V"⟩, 80) := ⟨⟨by decide +kernel, by decide +kernel⟩, List.mem_of_getElem? (i := 1255) (by decide +kernel), List.mem_of_getElem? (i := 1544) (by decide +kernel), List.mem_of_getElem? (i := 1545) (by decide +kernel)⟩
theorem lw_p61 : lw_okq (⟨"HalfHandsModel", "wrong", "(I)V"⟩, 80) := ⟨⟨by decide +kernel, by decide +kernel⟩, List.mem_of_getElem? (i := 1255) (by decide +kernel), List.mem_of_getElem? (i := 1548) (by decide +kernel), List.mem_of_getElem? (i := 1549) (by decide +kernel)⟩
theorem lw_p62 : lw_okq (⟨"HalfHandsModel", "fresher", "(I)I"⟩, 80) := ⟨⟨by decide +kernel, by decide +kernel⟩, List.mem_of_getElem? (i := 1255) (by decide +kernel), List.mem_of_getElem? (i := 1552) (by decide +kernel), List.mem_of_getElem? (i := 1553) (by decide +kernel)⟩
theorem lw_p63 : lw_okq (⟨"HalfHandsModel", "personLine", "(I)V"⟩, 80) := ⟨⟨by decide +kernel, by decide +kernel⟩, List.mem_of_getElem? (i := 1255) (by decide +kernel), List.mem_of_getElem? (i := 1556) (by decide +kernel), List.mem_of_getElem? (i := 1557) (by decide +kernel)⟩
def lw_privs_4 : List (MethodName × Nat) := [(⟨"HalfHands$Orders", "leads", "(II)Z"⟩, 12), (⟨"HalfHands$Orders", "numberOf", "(I)I"⟩, 12), (⟨"HalfHands", "isOutdone", "(I)Z"⟩, 14), (⟨"HalfHands", "lawNumbered", "(I)I"⟩, 14), (⟨"HalfHands", "agrees", "(I)Z"⟩, 14), (⟨"HalfHands", "isTrial", "(II)Z"⟩, 14), (⟨"java/lang/Throwable", "fillInStackTrace", "(I)Ljava/lang/Throwable;"⟩, 6), (⟨"HalfHandsModel", "token", "()V"⟩, 80), (⟨"HalfHandsModel", "here", "()I"⟩, 80), (⟨"HalfHandsModel", "word", "()I"⟩, 80), (⟨"HalfHandsModel", "name", "()V"⟩, 80), (⟨"HalfHandsModel", "sign", "(I)V"⟩, 80), (⟨"HalfHandsModel", "line", "()V"⟩, 80), (⟨"HalfHandsModel", "wrong", "(I)V"⟩, 80), (⟨"HalfHandsModel", "fresher", "(I)I"⟩, 80), (⟨"HalfHandsModel", "personLine", "(I)V"⟩, 80)]
theorem lw_r4 : ∀ q ∈ lw_privs_4, lw_okq q := List.forall_mem_cons.mpr ⟨lw_p48, List.forall_mem_cons.mpr ⟨lw_p49, List.forall_mem_cons.mpr ⟨lw_p50, List.forall_mem_cons.mpr ⟨lw_p51, List.forall_mem_cons.mpr ⟨lw_p52, List.forall_mem_cons.mpr ⟨lw_p53, List.forall_mem_cons.mpr ⟨lw_p54, List.forall_mem_cons.mpr ⟨lw_p55, List.forall_mem_cons.mpr ⟨lw_p56, List.forall_mem_cons.mpr ⟨lw_p57, List.forall_mem_cons.mpr ⟨lw_p58, List.forall_mem_cons.mpr ⟨lw_p59, List.forall_mem_cons.mpr ⟨lw_p60, List.forall_mem_cons.mpr ⟨lw_p61, List.forall_mem_cons.mpr ⟨lw_p62, List.forall_mem_cons.mpr ⟨lw_p63, fun _ h => absurd h List.not_mem_nil⟩⟩⟩⟩⟩⟩⟩⟩⟩⟩⟩⟩⟩⟩⟩⟩
theorem lw_p64 : lw_okq (⟨"HalfHandsModel", "fresh", "([III)I"⟩, 80) := ⟨⟨by decide +kernel, by decide +kernel⟩, List.mem_of_getElem? (i := 1255) (by decide +kernel), List.mem_of_getElem? (i := 1560) (by decide +kernel), List.mem_of_getElem? (i := 1561) (by decide +kernel)⟩
theorem lw_p65 : lw_okq (⟨"HalfHandsModel", "numeral", "(II)I"⟩, 80) := ⟨⟨by decide +kernel, by decide +kernel⟩, List.mem_of_getElem? (i := 1255) (by decide +kernel), List.mem_of_getElem? (i := 1567) (by decide +kernel), List.mem_of_getElem? (i := 1568) (by decide +kernel)⟩
theorem lw_p66 : lw_okq (⟨"HalfHandsModel", "isWord", "(I)Z"⟩, 80) := ⟨⟨by decide +kernel, by decide +kernel⟩, List.mem_of_getElem? (i := 1255) (by decide +kernel), List.mem_of_getElem? (i := 1571) (by decide +kernel), List.mem_of_getElem? (i := 1572) (by decide +kernel)⟩
theorem lw_p67 : lw_okq (⟨"HalfHandsModel", "oneMore", "(I)V"⟩, 80) := ⟨⟨by decide +kernel, by decide +kernel⟩, List.mem_of_getElem? (i := 1255) (by decide +kernel), List.mem_of_getElem? (i := 1575) (by decide +kernel), List.mem_of_getElem? (i := 1576) (by decide +kernel)⟩
theorem lw_p68 : lw_okq (⟨"HalfHandsModel", "handsLine", "()V"⟩, 80) := ⟨⟨by decide +kernel, by decide +kernel⟩, List.mem_of_getElem? (i := 1255) (by decide +kernel), List.mem_of_getElem? (i := 1579) (by decide +kernel), List.mem_of_getElem? (i := 1580) (by decide +kernel)⟩
theorem lw_p69 : lw_okq (⟨"HalfHandsModel", "person", "()I"⟩, 80) := ⟨⟨by decide +kernel, by decide +kernel⟩, List.mem_of_getElem? (i := 1255) (by decide +kernel), List.mem_of_getElem? (i := 1583) (by decide +kernel), List.mem_of_getElem? (i := 1584) (by decide +kernel)⟩
theorem lw_p70 : lw_okq (⟨"HalfHandsModel", "goOn", "()V"⟩, 80) := ⟨⟨by decide +kernel, by decide +kernel⟩, List.mem_of_getElem? (i := 1255) (by decide +kernel), List.mem_of_getElem? (i := 1587) (by decide +kernel), List.mem_of_getElem? (i := 1588) (by decide +kernel)⟩
theorem lw_p71 : lw_okq (⟨"HalfHandsModel", "handsOne", "(I)V"⟩, 80) := ⟨⟨by decide +kernel, by decide +kernel⟩, List.mem_of_getElem? (i := 1255) (by decide +kernel), List.mem_of_getElem? (i := 1591) (by decide +kernel), List.mem_of_getElem? (i := 1592) (by decide +kernel)⟩
theorem lw_p72 : lw_okq (⟨"HalfHandsModel", "parcelLine", "(I)V"⟩, 80) := ⟨⟨by decide +kernel, by decide +kernel⟩, List.mem_of_getElem? (i := 1255) (by decide +kernel), List.mem_of_getElem? (i := 1595) (by decide +kernel), List.mem_of_getElem? (i := 1596) (by decide +kernel)⟩
theorem lw_p73 : lw_okq (⟨"HalfHandsModel", "expression", "()V"⟩, 80) := ⟨⟨by decide +kernel, by decide +kernel⟩, List.mem_of_getElem? (i := 1255) (by decide +kernel), List.mem_of_getElem? (i := 1599) (by decide +kernel), List.mem_of_getElem? (i := 1600) (by decide +kernel)⟩
theorem lw_p74 : lw_okq (⟨"HalfHandsModel", "conjunction", "()V"⟩, 80) := ⟨⟨by decide +kernel, by decide +kernel⟩, List.mem_of_getElem? (i := 1255) (by decide +kernel), List.mem_of_getElem? (i := 1603) (by decide +kernel), List.mem_of_getElem? (i := 1604) (by decide +kernel)⟩
theorem lw_p75 : lw_okq (⟨"HalfHandsModel", "negation", "()V"⟩, 80) := ⟨⟨by decide +kernel, by decide +kernel⟩, List.mem_of_getElem? (i := 1255) (by decide +kernel), List.mem_of_getElem? (i := 1607) (by decide +kernel), List.mem_of_getElem? (i := 1608) (by decide +kernel)⟩
theorem lw_p76 : lw_okq (⟨"HalfHandsModel", "knot", "()V"⟩, 80) := ⟨⟨by decide +kernel, by decide +kernel⟩, List.mem_of_getElem? (i := 1255) (by decide +kernel), List.mem_of_getElem? (i := 1611) (by decide +kernel), List.mem_of_getElem? (i := 1612) (by decide +kernel)⟩
theorem lw_p77 : lw_okq (⟨"HalfHandsModel", "puts", "(II)V"⟩, 80) := ⟨⟨by decide +kernel, by decide +kernel⟩, List.mem_of_getElem? (i := 1255) (by decide +kernel), List.mem_of_getElem? (i := 1615) (by decide +kernel), List.mem_of_getElem? (i := 1616) (by decide +kernel)⟩
theorem lw_p78 : lw_okq (⟨"HalfHandsModel", "sum", "()V"⟩, 80) := ⟨⟨by decide +kernel, by decide +kernel⟩, List.mem_of_getElem? (i := 1255) (by decide +kernel), List.mem_of_getElem? (i := 1619) (by decide +kernel), List.mem_of_getElem? (i := 1620) (by decide +kernel)⟩
theorem lw_p79 : lw_okq (⟨"HalfHandsModel", "product", "()V"⟩, 80) := ⟨⟨by decide +kernel, by decide +kernel⟩, List.mem_of_getElem? (i := 1255) (by decide +kernel), List.mem_of_getElem? (i := 1623) (by decide +kernel), List.mem_of_getElem? (i := 1624) (by decide +kernel)⟩
def lw_privs_5 : List (MethodName × Nat) := [(⟨"HalfHandsModel", "fresh", "([III)I"⟩, 80), (⟨"HalfHandsModel", "numeral", "(II)I"⟩, 80), (⟨"HalfHandsModel", "isWord", "(I)Z"⟩, 80), (⟨"HalfHandsModel", "oneMore", "(I)V"⟩, 80), (⟨"HalfHandsModel", "handsLine", "()V"⟩, 80), (⟨"HalfHandsModel", "person", "()I"⟩, 80), (⟨"HalfHandsModel", "goOn", "()V"⟩, 80), (⟨"HalfHandsModel", "handsOne", "(I)V"⟩, 80), (⟨"HalfHandsModel", "parcelLine", "(I)V"⟩, 80), (⟨"HalfHandsModel", "expression", "()V"⟩, 80), (⟨"HalfHandsModel", "conjunction", "()V"⟩, 80), (⟨"HalfHandsModel", "negation", "()V"⟩, 80), (⟨"HalfHandsModel", "knot", "()V"⟩, 80), (⟨"HalfHandsModel", "puts", "(II)V"⟩, 80), (⟨"HalfHandsModel", "sum", "()V"⟩, 80), (⟨"HalfHandsModel", "product", "()V"⟩, 80)]
theorem lw_r5 : ∀ q ∈ lw_privs_5, lw_okq q := List.forall_mem_cons.mpr ⟨lw_p64, List.forall_mem_cons.mpr ⟨lw_p65, List.forall_mem_cons.mpr ⟨lw_p66, List.forall_mem_cons.mpr ⟨lw_p67, List.forall_mem_cons.mpr ⟨lw_p68, List.forall_mem_cons.mpr ⟨lw_p69, List.forall_mem_cons.mpr ⟨lw_p70, List.forall_mem_cons.mpr ⟨lw_p71, List.forall_mem_cons.mpr ⟨lw_p72, List.forall_mem_cons.mpr ⟨lw_p73, List.forall_mem_cons.mpr ⟨lw_p74, List.forall_mem_cons.mpr ⟨lw_p75, List.forall_mem_cons.mpr ⟨lw_p76, List.forall_mem_cons.mpr ⟨lw_p77, List.forall_mem_cons.mpr ⟨lw_p78, List.forall_mem_cons.mpr ⟨lw_p79, fun _ h => absurd h List.not_mem_nil⟩⟩⟩⟩⟩⟩⟩⟩⟩⟩⟩⟩⟩⟩⟩⟩
theorem lw_p80 : lw_okq (⟨"HalfHandsModel", "primary", "()V"⟩, 80) := ⟨⟨by decide +kernel, by decide +kernel⟩, List.mem_of_getElem? (i := 1255) (by decide +kernel), List.mem_of_getElem? (i := 1627) (by decide +kernel), List.mem_of_getElem? (i := 1628) (by decide +kernel)⟩
theorem lw_p81 : lw_okq (⟨"HalfHandsModel", "isSign", "(I)Z"⟩, 80) := ⟨⟨by decide +kernel, by decide +kernel⟩, List.mem_of_getElem? (i := 1255) (by decide +kernel), List.mem_of_getElem? (i := 1631) (by decide +kernel), List.mem_of_getElem? (i := 1632) (by decide +kernel)⟩
theorem lw_p82 : lw_okq (⟨"HalfHandsModel", "plain", "()V"⟩, 80) := ⟨⟨by decide +kernel, by decide +kernel⟩, List.mem_of_getElem? (i := 1255) (by decide +kernel), List.mem_of_getElem? (i := 1638) (by decide +kernel), List.mem_of_getElem? (i := 1639) (by decide +kernel)⟩
theorem lw_p83 : lw_okq (⟨"HalfHandsModel", "begins", "(I)V"⟩, 80) := ⟨⟨by decide +kernel, by decide +kernel⟩, List.mem_of_getElem? (i := 1255) (by decide +kernel), List.mem_of_getElem? (i := 1642) (by decide +kernel), List.mem_of_getElem? (i := 1643) (by decide +kernel)⟩
theorem lw_p84 : lw_okq (⟨"HalfHandsModel", "newParcel", "(I)V"⟩, 80) := ⟨⟨by decide +kernel, by decide +kernel⟩, List.mem_of_getElem? (i := 1255) (by decide +kernel), List.mem_of_getElem? (i := 1646) (by decide +kernel), List.mem_of_getElem? (i := 1647) (by decide +kernel)⟩
theorem lw_p85 : lw_okq (⟨"HalfHandsModel", "lays", "(IIIII)V"⟩, 80) := ⟨⟨by decide +kernel, by decide +kernel⟩, List.mem_of_getElem? (i := 1255) (by decide +kernel), List.mem_of_getElem? (i := 1663) (by decide +kernel), List.mem_of_getElem? (i := 1664) (by decide +kernel)⟩
theorem lw_p86 : lw_okq (⟨"HalfHandsModel", "goes", "(I)Z"⟩, 80) := ⟨⟨by decide +kernel, by decide +kernel⟩, List.mem_of_getElem? (i := 1255) (by decide +kernel), List.mem_of_getElem? (i := 1670) (by decide +kernel), List.mem_of_getElem? (i := 1671) (by decide +kernel)⟩
theorem lw_p87 : lw_okq (⟨"HalfHandsModel", "works", "(I)Z"⟩, 80) := ⟨⟨by decide +kernel, by decide +kernel⟩, List.mem_of_getElem? (i := 1255) (by decide +kernel), List.mem_of_getElem? (i := 1674) (by decide +kernel), List.mem_of_getElem? (i := 1675) (by decide +kernel)⟩
theorem lw_p88 : lw_okq (⟨"HalfHandsModel", "isPerson", "(I)Z"⟩, 80) := ⟨⟨by decide +kernel, by decide +kernel⟩, List.mem_of_getElem? (i := 1255) (by decide +kernel), List.mem_of_getElem? (i := 1687) (by decide +kernel), List.mem_of_getElem? (i := 1688) (by decide +kernel)⟩
theorem lw_p89 : lw_okq (⟨"HalfHandsModel", "passes", "(I)V"⟩, 80) := ⟨⟨by decide +kernel, by decide +kernel⟩, List.mem_of_getElem? (i := 1255) (by decide +kernel), List.mem_of_getElem? (i := 1695) (by decide +kernel), List.mem_of_getElem? (i := 1696) (by decide +kernel)⟩
theorem lw_p90 : lw_okq (⟨"HalfHandsModel", "manyOf", "(I)I"⟩, 80) := ⟨⟨by decide +kernel, by decide +kernel⟩, List.mem_of_getElem? (i := 1255) (by decide +kernel), List.mem_of_getElem? (i := 1699) (by decide +kernel), List.mem_of_getElem? (i := 1700) (by decide +kernel)⟩
theorem lw_p91 : lw_okq (⟨"HalfHandsModel", "rests", "(IIII)V"⟩, 80) := ⟨⟨by decide +kernel, by decide +kernel⟩, List.mem_of_getElem? (i := 1255) (by decide +kernel), List.mem_of_getElem? (i := 1704) (by decide +kernel), List.mem_of_getElem? (i := 1705) (by decide +kernel)⟩
theorem lw_p92 : lw_okq (⟨"HalfHandsModel", "handsOn", "(IIII)V"⟩, 80) := ⟨⟨by decide +kernel, by decide +kernel⟩, List.mem_of_getElem? (i := 1255) (by decide +kernel), List.mem_of_getElem? (i := 1708) (by decide +kernel), List.mem_of_getElem? (i := 1709) (by decide +kernel)⟩
theorem lw_p93 : lw_okq (⟨"HalfHandsModel", "nextOf", "(II)I"⟩, 80) := ⟨⟨by decide +kernel, by decide +kernel⟩, List.mem_of_getElem? (i := 1255) (by decide +kernel), List.mem_of_getElem? (i := 1712) (by decide +kernel), List.mem_of_getElem? (i := 1713) (by decide +kernel)⟩
theorem lw_p94 : lw_okq (⟨"HalfHandsModel", "comes", "(II)V"⟩, 80) := ⟨⟨by decide +kernel, by decide +kernel⟩, List.mem_of_getElem? (i := 1255) (by decide +kernel), List.mem_of_getElem? (i := 1716) (by decide +kernel), List.mem_of_getElem? (i := 1717) (by decide +kernel)⟩
theorem lw_p95 : lw_okq (⟨"HalfHandsModel", "kept", "(IIIII)I"⟩, 80) := ⟨⟨by decide +kernel, by decide +kernel⟩, List.mem_of_getElem? (i := 1255) (by decide +kernel), List.mem_of_getElem? (i := 1720) (by decide +kernel), List.mem_of_getElem? (i := 1721) (by decide +kernel)⟩
def lw_privs_6 : List (MethodName × Nat) := [(⟨"HalfHandsModel", "primary", "()V"⟩, 80), (⟨"HalfHandsModel", "isSign", "(I)Z"⟩, 80), (⟨"HalfHandsModel", "plain", "()V"⟩, 80), (⟨"HalfHandsModel", "begins", "(I)V"⟩, 80), (⟨"HalfHandsModel", "newParcel", "(I)V"⟩, 80), (⟨"HalfHandsModel", "lays", "(IIIII)V"⟩, 80), (⟨"HalfHandsModel", "goes", "(I)Z"⟩, 80), (⟨"HalfHandsModel", "works", "(I)Z"⟩, 80), (⟨"HalfHandsModel", "isPerson", "(I)Z"⟩, 80), (⟨"HalfHandsModel", "passes", "(I)V"⟩, 80), (⟨"HalfHandsModel", "manyOf", "(I)I"⟩, 80), (⟨"HalfHandsModel", "rests", "(IIII)V"⟩, 80), (⟨"HalfHandsModel", "handsOn", "(IIII)V"⟩, 80), (⟨"HalfHandsModel", "nextOf", "(II)I"⟩, 80), (⟨"HalfHandsModel", "comes", "(II)V"⟩, 80), (⟨"HalfHandsModel", "kept", "(IIIII)I"⟩, 80)]
theorem lw_r6 : ∀ q ∈ lw_privs_6, lw_okq q := List.forall_mem_cons.mpr ⟨lw_p80, List.forall_mem_cons.mpr ⟨lw_p81, List.forall_mem_cons.mpr ⟨lw_p82, List.forall_mem_cons.mpr ⟨lw_p83, List.forall_mem_cons.mpr ⟨lw_p84, List.forall_mem_cons.mpr ⟨lw_p85, List.forall_mem_cons.mpr ⟨lw_p86, List.forall_mem_cons.mpr ⟨lw_p87, List.forall_mem_cons.mpr ⟨lw_p88, List.forall_mem_cons.mpr ⟨lw_p89, List.forall_mem_cons.mpr ⟨lw_p90, List.forall_mem_cons.mpr ⟨lw_p91, List.forall_mem_cons.mpr ⟨lw_p92, List.forall_mem_cons.mpr ⟨lw_p93, List.forall_mem_cons.mpr ⟨lw_p94, List.forall_mem_cons.mpr ⟨lw_p95, fun _ h => absurd h List.not_mem_nil⟩⟩⟩⟩⟩⟩⟩⟩⟩⟩⟩⟩⟩⟩⟩⟩
theorem lw_p96 : lw_okq (⟨"HalfHandsModel", "ageOf", "(I)I"⟩, 80) := ⟨⟨by decide +kernel, by decide +kernel⟩, List.mem_of_getElem? (i := 1255) (by decide +kernel), List.mem_of_getElem? (i := 1724) (by decide +kernel), List.mem_of_getElem? (i := 1725) (by decide +kernel)⟩
theorem lw_p97 : lw_okq (⟨"HalfHandsModel", "isParcel", "(I)Z"⟩, 80) := ⟨⟨by decide +kernel, by decide +kernel⟩, List.mem_of_getElem? (i := 1255) (by decide +kernel), List.mem_of_getElem? (i := 1736) (by decide +kernel), List.mem_of_getElem? (i := 1737) (by decide +kernel)⟩
theorem lw_p98 : lw_okq (⟨"HalfHandsModel", "copies", "(II)V"⟩, 80) := ⟨⟨by decide +kernel, by decide +kernel⟩, List.mem_of_getElem? (i := 1255) (by decide +kernel), List.mem_of_getElem? (i := 1748) (by decide +kernel), List.mem_of_getElem? (i := 1749) (by decide +kernel)⟩
theorem lw_p99 : lw_okq (⟨"HalfHandsModel", "isAllRest", "(I)Z"⟩, 80) := ⟨⟨by decide +kernel, by decide +kernel⟩, List.mem_of_getElem? (i := 1255) (by decide +kernel), List.mem_of_getElem? (i := 1752) (by decide +kernel), List.mem_of_getElem? (i := 1753) (by decide +kernel)⟩
theorem lw_p100 : lw_okq (⟨"HalfHandsModel", "takesSent", "(IJI)Z"⟩, 80) := ⟨⟨by decide +kernel, by decide +kernel⟩, List.mem_of_getElem? (i := 1255) (by decide +kernel), List.mem_of_getElem? (i := 1760) (by decide +kernel), List.mem_of_getElem? (i := 1761) (by decide +kernel)⟩
theorem lw_p101 : lw_okq (⟨"HalfHandsModel", "takes", "(IJ)Z"⟩, 80) := ⟨⟨by decide +kernel, by decide +kernel⟩, List.mem_of_getElem? (i := 1255) (by decide +kernel), List.mem_of_getElem? (i := 1765) (by decide +kernel), List.mem_of_getElem? (i := 1766) (by decide +kernel)⟩
theorem lw_p102 : lw_okq (⟨"HalfHandsModel", "sends", "(I)I"⟩, 80) := ⟨⟨by decide +kernel, by decide +kernel⟩, List.mem_of_getElem? (i := 1255) (by decide +kernel), List.mem_of_getElem? (i := 1770) (by decide +kernel), List.mem_of_getElem? (i := 1771) (by decide +kernel)⟩
theorem lw_p103 : lw_okq (⟨"HalfHandsModel", "laysBack", "(IJI)Z"⟩, 80) := ⟨⟨by decide +kernel, by decide +kernel⟩, List.mem_of_getElem? (i := 1255) (by decide +kernel), List.mem_of_getElem? (i := 1782) (by decide +kernel), List.mem_of_getElem? (i := 1783) (by decide +kernel)⟩
theorem lw_p104 : lw_okq (⟨"HalfHandsModel", "backs", "(I)V"⟩, 80) := ⟨⟨by decide +kernel, by decide +kernel⟩, List.mem_of_getElem? (i := 1255) (by decide +kernel), List.mem_of_getElem? (i := 1786) (by decide +kernel), List.mem_of_getElem? (i := 1787) (by decide +kernel)⟩
theorem lw_p105 : lw_okq (⟨"HalfHandsModel", "goesOn", "(JI)I"⟩, 80) := ⟨⟨by decide +kernel, by decide +kernel⟩, List.mem_of_getElem? (i := 1255) (by decide +kernel), List.mem_of_getElem? (i := 1792) (by decide +kernel), List.mem_of_getElem? (i := 1793) (by decide +kernel)⟩
theorem lw_p106 : lw_okq (⟨"HalfHandsModel", "goesThrough", "(IIII)V"⟩, 80) := ⟨⟨by decide +kernel, by decide +kernel⟩, List.mem_of_getElem? (i := 1255) (by decide +kernel), List.mem_of_getElem? (i := 1808) (by decide +kernel), List.mem_of_getElem? (i := 1809) (by decide +kernel)⟩
theorem lw_p107 : lw_okq (⟨"HalfHandsModel", "turns", "(II)V"⟩, 80) := ⟨⟨by decide +kernel, by decide +kernel⟩, List.mem_of_getElem? (i := 1255) (by decide +kernel), List.mem_of_getElem? (i := 1812) (by decide +kernel), List.mem_of_getElem? (i := 1813) (by decide +kernel)⟩
theorem lw_p108 : lw_okq (⟨"HalfHandsModel", "sees", "()V"⟩, 80) := ⟨⟨by decide +kernel, by decide +kernel⟩, List.mem_of_getElem? (i := 1255) (by decide +kernel), List.mem_of_getElem? (i := 1816) (by decide +kernel), List.mem_of_getElem? (i := 1817) (by decide +kernel)⟩
theorem lw_p109 : lw_okq (⟨"HalfHandsModel", "rowAsLong", "()J"⟩, 80) := ⟨⟨by decide +kernel, by decide +kernel⟩, List.mem_of_getElem? (i := 1255) (by decide +kernel), List.mem_of_getElem? (i := 1820) (by decide +kernel), List.mem_of_getElem? (i := 1821) (by decide +kernel)⟩
theorem lw_p110 : lw_okq (⟨"HalfHandsModel", "changesTo", "()I"⟩, 80) := ⟨⟨by decide +kernel, by decide +kernel⟩, List.mem_of_getElem? (i := 1255) (by decide +kernel), List.mem_of_getElem? (i := 1824) (by decide +kernel), List.mem_of_getElem? (i := 1825) (by decide +kernel)⟩
theorem lw_p111 : lw_okq (⟨"HalfHandsModel", "placeOf", "(I)I"⟩, 80) := ⟨⟨by decide +kernel, by decide +kernel⟩, List.mem_of_getElem? (i := 1255) (by decide +kernel), List.mem_of_getElem? (i := 1828) (by decide +kernel), List.mem_of_getElem? (i := 1829) (by decide +kernel)⟩
def lw_privs_7 : List (MethodName × Nat) := [(⟨"HalfHandsModel", "ageOf", "(I)I"⟩, 80), (⟨"HalfHandsModel", "isParcel", "(I)Z"⟩, 80), (⟨"HalfHandsModel", "copies", "(II)V"⟩, 80), (⟨"HalfHandsModel", "isAllRest", "(I)Z"⟩, 80), (⟨"HalfHandsModel", "takesSent", "(IJI)Z"⟩, 80), (⟨"HalfHandsModel", "takes", "(IJ)Z"⟩, 80), (⟨"HalfHandsModel", "sends", "(I)I"⟩, 80), (⟨"HalfHandsModel", "laysBack", "(IJI)Z"⟩, 80), (⟨"HalfHandsModel", "backs", "(I)V"⟩, 80), (⟨"HalfHandsModel", "goesOn", "(JI)I"⟩, 80), (⟨"HalfHandsModel", "goesThrough", "(IIII)V"⟩, 80), (⟨"HalfHandsModel", "turns", "(II)V"⟩, 80), (⟨"HalfHandsModel", "sees", "()V"⟩, 80), (⟨"HalfHandsModel", "rowAsLong", "()J"⟩, 80), (⟨"HalfHandsModel", "changesTo", "()I"⟩, 80), (⟨"HalfHandsModel", "placeOf", "(I)I"⟩, 80)]
theorem lw_r7 : ∀ q ∈ lw_privs_7, lw_okq q := List.forall_mem_cons.mpr ⟨lw_p96, List.forall_mem_cons.mpr ⟨lw_p97, List.forall_mem_cons.mpr ⟨lw_p98, List.forall_mem_cons.mpr ⟨lw_p99, List.forall_mem_cons.mpr ⟨lw_p100, List.forall_mem_cons.mpr ⟨lw_p101, List.forall_mem_cons.mpr ⟨lw_p102, List.forall_mem_cons.mpr ⟨lw_p103, List.forall_mem_cons.mpr ⟨lw_p104, List.forall_mem_cons.mpr ⟨lw_p105, List.forall_mem_cons.mpr ⟨lw_p106, List.forall_mem_cons.mpr ⟨lw_p107, List.forall_mem_cons.mpr ⟨lw_p108, List.forall_mem_cons.mpr ⟨lw_p109, List.forall_mem_cons.mpr ⟨lw_p110, List.forall_mem_cons.mpr ⟨lw_p111, fun _ h => absurd h List.not_mem_nil⟩⟩⟩⟩⟩⟩⟩⟩⟩⟩⟩⟩⟩⟩⟩⟩
theorem lw_p112 : lw_okq (⟨"HalfHandsModel", "isAimed", "(IJII)Z"⟩, 80) := ⟨⟨by decide +kernel, by decide +kernel⟩, List.mem_of_getElem? (i := 1255) (by decide +kernel), List.mem_of_getElem? (i := 1841) (by decide +kernel), List.mem_of_getElem? (i := 1842) (by decide +kernel)⟩
theorem lw_p113 : lw_okq (⟨"HalfHandsModel", "knownMany", "()I"⟩, 80) := ⟨⟨by decide +kernel, by decide +kernel⟩, List.mem_of_getElem? (i := 1255) (by decide +kernel), List.mem_of_getElem? (i := 1891) (by decide +kernel), List.mem_of_getElem? (i := 1892) (by decide +kernel)⟩
theorem lw_p114 : lw_okq (⟨"HalfHandsModel", "lawOf", "(I)I"⟩, 80) := ⟨⟨by decide +kernel, by decide +kernel⟩, List.mem_of_getElem? (i := 1255) (by decide +kernel), List.mem_of_getElem? (i := 1895) (by decide +kernel), List.mem_of_getElem? (i := 1896) (by decide +kernel)⟩
theorem lw_p115 : lw_okq (⟨"HalfHandsModel", "goesAsNoted", "()Z"⟩, 80) := ⟨⟨by decide +kernel, by decide +kernel⟩, List.mem_of_getElem? (i := 1255) (by decide +kernel), List.mem_of_getElem? (i := 1899) (by decide +kernel), List.mem_of_getElem? (i := 1900) (by decide +kernel)⟩
def lw_privs_8 : List (MethodName × Nat) := [(⟨"HalfHandsModel", "isAimed", "(IJII)Z"⟩, 80), (⟨"HalfHandsModel", "knownMany", "()I"⟩, 80), (⟨"HalfHandsModel", "lawOf", "(I)I"⟩, 80), (⟨"HalfHandsModel", "goesAsNoted", "()Z"⟩, 80)]
theorem lw_r8 : ∀ q ∈ lw_privs_8, lw_okq q := List.forall_mem_cons.mpr ⟨lw_p112, List.forall_mem_cons.mpr ⟨lw_p113, List.forall_mem_cons.mpr ⟨lw_p114, List.forall_mem_cons.mpr ⟨lw_p115, fun _ h => absurd h List.not_mem_nil⟩⟩⟩⟩
def lw_privs : List (MethodName × Nat) := lw_privs_1 ++ (lw_privs_2 ++ (lw_privs_3 ++ (lw_privs_4 ++ (lw_privs_5 ++ (lw_privs_6 ++ (lw_privs_7 ++ (lw_privs_8)))))))
def lw_tbl : List Cond := k2_sels lw_privs ++ tables_1
theorem lw_privs_ok : ∀ q ∈ lw_privs, lw_okq q := by
  show ∀ q ∈ lw_privs_1 ++ (lw_privs_2 ++ (lw_privs_3 ++ (lw_privs_4 ++ (lw_privs_5 ++ (lw_privs_6 ++ (lw_privs_7 ++ (lw_privs_8))))))), lw_okq q
  exact List.forall_mem_append.mpr ⟨lw_r1, List.forall_mem_append.mpr ⟨lw_r2, List.forall_mem_append.mpr ⟨lw_r3, List.forall_mem_append.mpr ⟨lw_r4, List.forall_mem_append.mpr ⟨lw_r5, List.forall_mem_append.mpr ⟨lw_r6, List.forall_mem_append.mpr ⟨lw_r7, lw_r8⟩⟩⟩⟩⟩⟩⟩
-- ===== end of PART A; then your names; then what follows =====
end
section
/-! The cells: classes by number, their fields; which cells there are behind the constructors, and what the references hold that never change. Printed by wip/gen/cells.py. -/
def jR0 : String := "HalfHands$Journey"
def jT0 : u_T := fun k => match k with
  | 0 => ("HalfHands$Journey", "hour", "I", false)
  | 1 => ("HalfHands$Journey", "purses", "[I", true)
  | 2 => ("HalfHands$Journey", "turns", "[I", true)
  | 3 => ("HalfHands$Journey", "parcels", "I", false)
  | 4 => ("HalfHands$Journey", "from", "[I", true)
  | 5 => ("HalfHands$Journey", "wholes", "[I", true)
  | 6 => ("HalfHands$Journey", "due", "[I", true)
  | 7 => ("HalfHands$Journey", "states", "[I", true)
  | 8 => ("HalfHands$Journey", "left", "[I", true)
  | 9 => ("HalfHands$Journey", "hands", "[I", true)
  | 10 => ("HalfHands$Journey", "to", "[I", true)
  | 11 => ("HalfHands$Journey", "told", "LHalfHands$Telling;", false)
  | 12 => ("HalfHands$Journey", "otherwise", "I", false)
  | _ => ("HalfHands$Journey", "whose", "I", false)
def jY0 : Nat → FieldType := fun k => match k with
  | 0 => .int
  | 1 => .array .int
  | 2 => .array .int
  | 3 => .int
  | 4 => .array .int
  | 5 => .array .int
  | 6 => .array .int
  | 7 => .array .int
  | 8 => .array .int
  | 9 => .array .int
  | 10 => .array .int
  | 11 => .object "HalfHands$Telling"
  | 12 => .int
  | _ => .int
def jR1 : String := "HalfHands$Laws"
def jT1 : u_T := fun k => match k with
  | 0 => ("HalfHands$Laws", "knots", "I", false)
  | 1 => ("HalfHands$Laws", "toldLaw", "Z", false)
  | 2 => ("HalfHands$Laws", "written", "I", false)
  | 3 => ("HalfHands$Laws", "kinds", "[I", true)
  | 4 => ("HalfHands$Laws", "numbers", "[I", true)
  | 5 => ("HalfHands$Laws", "starts", "[I", true)
  | 6 => ("HalfHands$Laws", "ends", "[I", true)
  | 7 => ("HalfHands$Laws", "names", "[I", true)
  | _ => ("HalfHands$Laws", "stack", "[J", true)
def jY1 : Nat → FieldType := fun k => match k with
  | 0 => .int
  | 1 => .boolean
  | 2 => .int
  | 3 => .array .int
  | 4 => .array .int
  | 5 => .array .int
  | 6 => .array .int
  | 7 => .array .int
  | _ => .array .long
def jR2 : String := "HalfHands$Notes"
def jT2 : u_T := fun k => match k with
  | 0 => ("HalfHands$Notes", "size", "I", false)
  | 1 => ("HalfHands$Notes", "knownBy", "I", false)
  | 2 => ("HalfHands$Notes", "lengths", "[I", true)
  | 3 => ("HalfHands$Notes", "rows", "[J", true)
  | 4 => ("HalfHands$Notes", "coins", "[I", true)
  | 5 => ("HalfHands$Notes", "lows", "[I", true)
  | 6 => ("HalfHands$Notes", "highs", "[I", true)
  | 7 => ("HalfHands$Notes", "targets", "[I", true)
  | _ => ("HalfHands$Notes", "struck", "[Z", true)
def jY2 : Nat → FieldType := fun k => match k with
  | 0 => .int
  | 1 => .int
  | 2 => .array .int
  | 3 => .array .long
  | 4 => .array .int
  | 5 => .array .int
  | 6 => .array .int
  | 7 => .array .int
  | _ => .array .boolean
def jR3 : String := "HalfHands$Orders"
def jT3 : u_T := fun k => match k with
  | 0 => ("HalfHands$Orders", "row", "LHalfHands$Row;", true)
  | 1 => ("HalfHands$Orders", "told", "LHalfHands$Telling;", false)
  | 2 => ("HalfHands$Orders", "size", "I", false)
  | 3 => ("HalfHands$Orders", "carriers", "[I", true)
  | 4 => ("HalfHands$Orders", "homes", "[I", true)
  | 5 => ("HalfHands$Orders", "floors", "[I", true)
  | 6 => ("HalfHands$Orders", "stays", "[Z", true)
  | 7 => ("HalfHands$Orders", "table", "[I", true)
  | 8 => ("HalfHands$Orders", "laid", "[I", true)
  | 9 => ("HalfHands$Orders", "laidSize", "I", false)
  | 10 => ("HalfHands$Orders", "aim", "I", false)
  | _ => ("HalfHands$Orders", "wanted", "I", false)
def jY3 : Nat → FieldType := fun k => match k with
  | 0 => .object "HalfHands$Row"
  | 1 => .object "HalfHands$Telling"
  | 2 => .int
  | 3 => .array .int
  | 4 => .array .int
  | 5 => .array .int
  | 6 => .array .boolean
  | 7 => .array .int
  | 8 => .array .int
  | 9 => .int
  | 10 => .int
  | _ => .int
def jR4 : String := "HalfHands$Reader"
def jT4 : u_T := fun k => match k with
  | 0 => ("HalfHands$Reader", "fault", "I", false)
  | 1 => ("HalfHands$Reader", "faultPlace", "I", false)
  | 2 => ("HalfHands$Reader", "tokens", "LHalfHands$Tokens;", true)
  | 3 => ("HalfHands$Reader", "told", "LHalfHands$Telling;", false)
  | _ => ("HalfHands$Reader", "number", "I", false)
def jY4 : Nat → FieldType := fun k => match k with
  | 0 => .int
  | 1 => .int
  | 2 => .object "HalfHands$Tokens"
  | 3 => .object "HalfHands$Telling"
  | _ => .int
def jR5 : String := "HalfHands$Row"
def jT5 : u_T := fun k => match k with
  | 0 => ("HalfHands$Row", "length", "I", false)
  | _ => ("HalfHands$Row", "people", "[I", true)
def jY5 : Nat → FieldType := fun k => match k with
  | 0 => .int
  | _ => .array .int
def jR6 : String := "HalfHands$Telling"
def jT6 : u_T := fun k => match k with
  | 0 => ("HalfHands$Telling", "people", "I", false)
  | 1 => ("HalfHands$Telling", "personNames", "[I", true)
  | 2 => ("HalfHands$Telling", "ages", "[I", true)
  | 3 => ("HalfHands$Telling", "purses", "[I", true)
  | 4 => ("HalfHands$Telling", "ways", "[I", true)
  | 5 => ("HalfHands$Telling", "heirs", "[I", true)
  | 6 => ("HalfHands$Telling", "parcels", "I", false)
  | 7 => ("HalfHands$Telling", "from", "[I", true)
  | 8 => ("HalfHands$Telling", "coins", "[I", true)
  | 9 => ("HalfHands$Telling", "due", "[I", true)
  | 10 => ("HalfHands$Telling", "mays", "I", false)
  | 11 => ("HalfHands$Telling", "mayNames", "[I", true)
  | _ => ("HalfHands$Telling", "laws", "LHalfHands$Laws;", true)
def jY6 : Nat → FieldType := fun k => match k with
  | 0 => .int
  | 1 => .array .int
  | 2 => .array .int
  | 3 => .array .int
  | 4 => .array .int
  | 5 => .array .int
  | 6 => .int
  | 7 => .array .int
  | 8 => .array .int
  | 9 => .array .int
  | 10 => .int
  | 11 => .array .int
  | _ => .object "HalfHands$Laws"
def jR7 : String := "HalfHands$Tokens"
def jT7 : u_T := fun k => match k with
  | 0 => ("HalfHands$Tokens", "kind", "I", false)
  | 1 => ("HalfHands$Tokens", "place", "I", false)
  | 2 => ("HalfHands$Tokens", "value", "I", false)
  | 3 => ("HalfHands$Tokens", "behind", "I", false)
  | 4 => ("HalfHands$Tokens", "length", "I", false)
  | 5 => ("HalfHands$Tokens", "bytes", "[I", true)
  | _ => ("HalfHands$Tokens", "words", "[I", true)
def jY7 : Nat → FieldType := fun k => match k with
  | 0 => .int
  | 1 => .int
  | 2 => .int
  | 3 => .int
  | 4 => .int
  | 5 => .array .int
  | _ => .array .int
def jR8 : String := "HalfHands"
def jT8 : u_T := fun k => match k with
  | 0 => ("HalfHands", "tape", "[I", true)
  | 1 => ("HalfHands", "tapeLength", "I", false)
  | 2 => ("HalfHands", "told", "LHalfHands$Telling;", false)
  | 3 => ("HalfHands", "spare", "LHalfHands$Telling;", false)
  | 4 => ("HalfHands", "reader", "LHalfHands$Reader;", true)
  | 5 => ("HalfHands", "faultKind", "I", false)
  | 6 => ("HalfHands", "faultPlace", "I", false)
  | 7 => ("HalfHands", "run", "LHalfHands$Journey;", true)
  | 8 => ("HalfHands", "image", "LHalfHands$Journey;", true)
  | 9 => ("HalfHands", "imaged", "Z", false)
  | 10 => ("HalfHands", "trial", "LHalfHands$Journey;", true)
  | 11 => ("HalfHands", "chain", "LHalfHands$Row;", true)
  | 12 => ("HalfHands", "orders", "LHalfHands$Orders;", true)
  | _ => ("HalfHands", "notes", "LHalfHands$Notes;", true)
def jY8 : Nat → FieldType := fun k => match k with
  | 0 => .array .int
  | 1 => .int
  | 2 => .object "HalfHands$Telling"
  | 3 => .object "HalfHands$Telling"
  | 4 => .object "HalfHands$Reader"
  | 5 => .int
  | 6 => .int
  | 7 => .object "HalfHands$Journey"
  | 8 => .object "HalfHands$Journey"
  | 9 => .boolean
  | 10 => .object "HalfHands$Journey"
  | 11 => .object "HalfHands$Row"
  | 12 => .object "HalfHands$Orders"
  | _ => .object "HalfHands$Notes"
def jR9 : String := "HalfHandsModel"
def jT9 : u_T := fun k => match k with
  | 0 => ("HalfHandsModel", "thrown", "I", false)
  | 1 => ("HalfHandsModel", "tape", "[I", true)
  | 2 => ("HalfHandsModel", "taped", "I", false)
  | 3 => ("HalfHandsModel", "number", "[I", true)
  | 4 => ("HalfHandsModel", "personName", "[I", true)
  | 5 => ("HalfHandsModel", "age", "[I", true)
  | 6 => ("HalfHandsModel", "purse", "[I", true)
  | 7 => ("HalfHandsModel", "handsMany", "[I", true)
  | 8 => ("HalfHandsModel", "handsTo", "[I", true)
  | 9 => ("HalfHandsModel", "toldFrom", "[I", true)
  | 10 => ("HalfHandsModel", "toldCoins", "[I", true)
  | 11 => ("HalfHandsModel", "toldHour", "[I", true)
  | 12 => ("HalfHandsModel", "mayName", "[I", true)
  | 13 => ("HalfHandsModel", "sumFrom", "[I", true)
  | 14 => ("HalfHandsModel", "sumTo", "[I", true)
  | 15 => ("HalfHandsModel", "knotSort", "[I", true)
  | 16 => ("HalfHandsModel", "knotValue", "[I", true)
  | 17 => ("HalfHandsModel", "lines", "I", false)
  | 18 => ("HalfHandsModel", "size", "I", false)
  | 19 => ("HalfHandsModel", "at", "I", false)
  | 20 => ("HalfHandsModel", "place", "I", false)
  | 21 => ("HalfHandsModel", "sort", "I", false)
  | 22 => ("HalfHandsModel", "value", "I", false)
  | 23 => ("HalfHandsModel", "fault", "I", false)
  | 24 => ("HalfHandsModel", "faultPlace", "I", false)
  | 25 => ("HalfHandsModel", "lastFault", "I", false)
  | 26 => ("HalfHandsModel", "lastPlace", "I", false)
  | 27 => ("HalfHandsModel", "open", "I", false)
  | 28 => ("HalfHandsModel", "counted", "I", false)
  | 29 => ("HalfHandsModel", "hasLaw", "Z", false)
  | 30 => ("HalfHandsModel", "tryWhat", "I", false)
  | 31 => ("HalfHandsModel", "tryAt", "I", false)
  | 32 => ("HalfHandsModel", "lawBy", "I", false)
  | 33 => ("HalfHandsModel", "names", "[J", true)
  | 34 => ("HalfHandsModel", "worked", "[J", true)
  | 35 => ("HalfHandsModel", "workedMany", "I", false)
  | 36 => ("HalfHandsModel", "parcels", "I", false)
  | 37 => ("HalfHandsModel", "fromOf", "[I", true)
  | 38 => ("HalfHandsModel", "coinsOf", "[I", true)
  | 39 => ("HalfHandsModel", "hourOf", "[I", true)
  | 40 => ("HalfHandsModel", "next", "[I", true)
  | 41 => ("HalfHandsModel", "has", "[I", true)
  | 42 => ("HalfHandsModel", "turn", "[I", true)
  | 43 => ("HalfHandsModel", "state", "[I", true)
  | 44 => ("HalfHandsModel", "onWay", "[I", true)
  | 45 => ("HalfHandsModel", "handsIn", "[I", true)
  | 46 => ("HalfHandsModel", "toWhom", "[I", true)
  | 47 => ("HalfHandsModel", "imageParcels", "I", false)
  | 48 => ("HalfHandsModel", "hasImage", "Z", false)
  | 49 => ("HalfHandsModel", "row", "[I", true)
  | 50 => ("HalfHandsModel", "rowMany", "I", false)
  | 51 => ("HalfHandsModel", "keptBy", "[I", true)
  | 52 => ("HalfHandsModel", "backFrom", "J", false)
  | 53 => ("HalfHandsModel", "backTo", "J", false)
  | 54 => ("HalfHandsModel", "first", "[I", true)
  | 55 => ("HalfHandsModel", "task", "I", false)
  | 56 => ("HalfHandsModel", "sent", "I", false)
  | 57 => ("HalfHandsModel", "aim", "I", false)
  | 58 => ("HalfHandsModel", "watched", "I", false)
  | 59 => ("HalfHandsModel", "most", "I", false)
  | 60 => ("HalfHandsModel", "least", "I", false)
  | 61 => ("HalfHandsModel", "mostAt", "I", false)
  | 62 => ("HalfHandsModel", "leastAt", "I", false)
  | 63 => ("HalfHandsModel", "mostRow", "J", false)
  | 64 => ("HalfHandsModel", "leastRow", "J", false)
  | 65 => ("HalfHandsModel", "orders", "I", false)
  | 66 => ("HalfHandsModel", "aimRow", "J", false)
  | 67 => ("HalfHandsModel", "fewest", "I", false)
  | 68 => ("HalfHandsModel", "fewestRow", "J", false)
  | 69 => ("HalfHandsModel", "notes", "I", false)
  | 70 => ("HalfHandsModel", "knownBy", "I", false)
  | 71 => ("HalfHandsModel", "noteMany", "[I", true)
  | 72 => ("HalfHandsModel", "noteRow", "[J", true)
  | 73 => ("HalfHandsModel", "noteCoins", "[I", true)
  | 74 => ("HalfHandsModel", "noteLow", "[I", true)
  | 75 => ("HalfHandsModel", "noteHigh", "[I", true)
  | 76 => ("HalfHandsModel", "isStruck", "[Z", true)
  | 77 => ("HalfHandsModel", "imageFrom", "[I", true)
  | 78 => ("HalfHandsModel", "imageCoins", "[I", true)
  | _ => ("HalfHandsModel", "imageHour", "[I", true)
def jY9 : Nat → FieldType := fun k => match k with
  | 0 => .int
  | 1 => .array .int
  | 2 => .int
  | 3 => .array .int
  | 4 => .array .int
  | 5 => .array .int
  | 6 => .array .int
  | 7 => .array .int
  | 8 => .array .int
  | 9 => .array .int
  | 10 => .array .int
  | 11 => .array .int
  | 12 => .array .int
  | 13 => .array .int
  | 14 => .array .int
  | 15 => .array .int
  | 16 => .array .int
  | 17 => .int
  | 18 => .int
  | 19 => .int
  | 20 => .int
  | 21 => .int
  | 22 => .int
  | 23 => .int
  | 24 => .int
  | 25 => .int
  | 26 => .int
  | 27 => .int
  | 28 => .int
  | 29 => .boolean
  | 30 => .int
  | 31 => .int
  | 32 => .int
  | 33 => .array .long
  | 34 => .array .long
  | 35 => .int
  | 36 => .int
  | 37 => .array .int
  | 38 => .array .int
  | 39 => .array .int
  | 40 => .array .int
  | 41 => .array .int
  | 42 => .array .int
  | 43 => .array .int
  | 44 => .array .int
  | 45 => .array .int
  | 46 => .array .int
  | 47 => .int
  | 48 => .boolean
  | 49 => .array .int
  | 50 => .int
  | 51 => .array .int
  | 52 => .long
  | 53 => .long
  | 54 => .array .int
  | 55 => .int
  | 56 => .int
  | 57 => .int
  | 58 => .int
  | 59 => .int
  | 60 => .int
  | 61 => .int
  | 62 => .int
  | 63 => .long
  | 64 => .long
  | 65 => .int
  | 66 => .long
  | 67 => .int
  | 68 => .long
  | 69 => .int
  | 70 => .int
  | 71 => .array .int
  | 72 => .array .long
  | 73 => .array .int
  | 74 => .array .int
  | 75 => .array .int
  | 76 => .array .boolean
  | 77 => .array .int
  | 78 => .array .int
  | _ => .array .int
abbrev jcl : List vw_C := [(jR0, jT0, 14), (jR1, jT1, 9), (jR2, jT2, 9), (jR3, jT3, 12), (jR4, jT4, 5), (jR5, jT5, 2), (jR6, jT6, 13), (jR7, jT7, 7), (jR8, jT8, 14), (jR9, jT9, 80)]
def jyl : List (Nat → FieldType) := [jY0, jY1, jY2, jY3, jY4, jY5, jY6, jY7, jY8, jY9]
/-- kinds of fields: 0 int, 1 boolean, 2 long, 3 a reference that may change, 4 one that never does -/
def jFK : List (List Nat) := [[0, 4, 4, 0, 4, 4, 4, 4, 4, 4, 4, 3, 0, 0], [0, 1, 0, 4, 4, 4, 4, 4, 4], [0, 0, 4, 4, 4, 4, 4, 4, 4], [4, 3, 0, 4, 4, 4, 4, 4, 4, 0, 0, 0], [0, 0, 4, 3, 0], [0, 4], [0, 4, 4, 4, 4, 4, 0, 4, 4, 4, 0, 4, 4], [0, 0, 0, 0, 0, 4, 4], [4, 0, 3, 3, 4, 0, 0, 4, 4, 1, 4, 4, 4, 4], [0, 4, 0, 4, 4, 4, 4, 4, 4, 4, 4, 4, 4, 4, 4, 4, 4, 0, 0, 0, 0, 0, 0, 0, 0, 0, 0, 0, 0, 1, 0, 0, 0, 4, 4, 0, 0, 4, 4, 4, 4, 4, 4, 4, 4, 4, 4, 0, 1, 4, 0, 4, 2, 2, 4, 0, 0, 0, 0, 0, 0, 0, 0, 2, 2, 0, 2, 0, 2, 0, 0, 4, 4, 4, 4, 4, 4, 4, 4, 4]]
def j_fk (ci : Nat) : List Nat := jFK.getD ci []
/-- the cells: (0 int, 1 boolean, 2 long; length) of an array, or the number of an object's class -/
def jSH : List ((Nat × Nat) ⊕ Nat) := [.inr 8, .inl (0, 700), .inr 6, .inl (0, 10), .inl (0, 10), .inl (0, 10), .inl (0, 10), .inl (0, 30), .inl (0, 12), .inl (0, 12), .inl (0, 12), .inl (0, 4), .inr 1, .inl (0, 64), .inl (0, 64), .inl (0, 5), .inl (0, 5), .inl (0, 6), .inl (2, 64), .inr 6, .inl (0, 10), .inl (0, 10), .inl (0, 10), .inl (0, 10), .inl (0, 30), .inl (0, 12), .inl (0, 12), .inl (0, 12), .inl (0, 4), .inr 1, .inl (0, 64), .inl (0, 64), .inl (0, 5), .inl (0, 5), .inl (0, 6), .inl (2, 64), .inr 4, .inr 7, .inl (0, 16), .inr 0, .inl (0, 10), .inl (0, 10), .inl (0, 30), .inl (0, 30), .inl (0, 30), .inl (0, 30), .inl (0, 30), .inl (0, 30), .inl (0, 30), .inr 0, .inl (0, 10), .inl (0, 10), .inl (0, 30), .inl (0, 30), .inl (0, 30), .inl (0, 30), .inl (0, 30), .inl (0, 30), .inl (0, 30), .inr 0, .inl (0, 10), .inl (0, 10), .inl (0, 30), .inl (0, 30), .inl (0, 30), .inl (0, 30), .inl (0, 30), .inl (0, 30), .inl (0, 30), .inr 5, .inl (0, 10), .inr 3, .inl (0, 8), .inl (0, 8), .inl (0, 10), .inl (1, 729), .inl (0, 4096), .inl (0, 8), .inr 2, .inl (0, 40), .inl (2, 40), .inl (0, 40), .inl (0, 40), .inl (0, 40), .inl (0, 40), .inl (1, 40), .inr 9, .inl (0, 700), .inl (0, 8), .inl (0, 20), .inl (0, 20), .inl (0, 20), .inl (0, 20), .inl (0, 60), .inl (0, 24), .inl (0, 24), .inl (0, 24), .inl (0, 8), .inl (0, 10), .inl (0, 10), .inl (0, 128), .inl (0, 128), .inl (2, 6), .inl (2, 64), .inl (0, 30), .inl (0, 30), .inl (0, 30), .inl (0, 3), .inl (0, 30), .inl (0, 30), .inl (0, 90), .inl (0, 90), .inl (0, 90), .inl (0, 90), .inl (0, 10), .inl (0, 10), .inl (0, 10), .inl (0, 40), .inl (2, 40), .inl (0, 40), .inl (0, 40), .inl (0, 40), .inl (1, 40), .inl (0, 30), .inl (0, 30), .inl (0, 30), .inl (2, 1)]
/-- references that never change, by cell and field -/
def jCR : List (List Nat) := [[1, 0, 0, 0, 36, 0, 0, 39, 49, 0, 59, 69, 71, 78], [], [0, 3, 4, 5, 6, 7, 0, 8, 9, 10, 0, 11, 12], [], [], [], [], [], [], [], [], [], [0, 0, 0, 13, 14, 15, 16, 17, 18], [], [], [], [], [], [], [0, 20, 21, 22, 23, 24, 0, 25, 26, 27, 0, 28, 29], [], [], [], [], [], [], [], [], [], [0, 0, 0, 30, 31, 32, 33, 34, 35], [], [], [], [], [], [], [0, 0, 37, 0, 0], [0, 0, 0, 0, 0, 1, 38], [], [0, 40, 41, 0, 42, 43, 44, 45, 46, 47, 48, 0, 0, 0], [], [], [], [], [], [], [], [], [], [0, 50, 51, 0, 52, 53, 54, 55, 56, 57, 58, 0, 0, 0], [], [], [], [], [], [], [], [], [], [0, 60, 61, 0, 62, 63, 64, 65, 66, 67, 68, 0, 0, 0], [], [], [], [], [], [], [], [], [], [0, 70], [], [69, 0, 0, 72, 73, 74, 75, 76, 77, 0, 0, 0], [], [], [], [], [], [], [0, 0, 79, 80, 81, 82, 83, 84, 85], [], [], [], [], [], [], [], [0, 87, 0, 88, 89, 90, 91, 92, 93, 94, 95, 96, 97, 98, 99, 100, 101, 0, 0, 0, 0, 0, 0, 0, 0, 0, 0, 0, 0, 0, 0, 0, 0, 102, 103, 0, 0, 104, 105, 106, 107, 108, 109, 110, 111, 112, 113, 0, 0, 114, 0, 115, 0, 0, 116, 0, 0, 0, 0, 0, 0, 0, 0, 0, 0, 0, 0, 0, 0, 0, 0, 117, 118, 119, 120, 121, 122, 123, 124, 125], [], [], [], [], [], [], [], [], [], [], [], [], [], [], [], [], [], [], [], [], [], [], [], [], [], [], [], [], [], [], [], [], [], [], [], [], [], [], [], []]
/-- a place of a list, worked out step by step -/
noncomputable def jlook {α : Type} (l : List α) : Nat → Option α := List.rec (motive := fun _ => Nat → Option α) (fun _ => none) (fun x _ ih n => Nat.casesOn (motive := fun _ => Option α) n (some x) (fun m => ih m)) l
theorem jlook_eq {α : Type} : ∀ (l : List α) (n : Nat), jlook l n = l[n]?
  | [], _ => rfl
  | _ :: _, 0 => rfl
  | _ :: l, n + 1 => jlook_eq l n
noncomputable def j_sh (a : Nat) : Option ((Nat × Nat) ⊕ Nat) := jlook jSH a
theorem j_sh_eq (a : Nat) : j_sh a = jSH[a]? := jlook_eq jSH a
-- 0: x
-- 1: x.tape
-- 2: tA
-- 3: tA.personNames
-- 4: tA.ages
-- 5: tA.purses
-- 6: tA.ways
-- 7: tA.heirs
-- 8: tA.from
-- 9: tA.coins
-- 10: tA.due
-- 11: tA.mayNames
-- 12: tA.laws
-- 13: tA.laws.kinds
-- 14: tA.laws.numbers
-- 15: tA.laws.starts
-- 16: tA.laws.ends
-- 17: tA.laws.names
-- 18: tA.laws.stack
-- 19: tB
-- 20: tB.personNames
-- 21: tB.ages
-- 22: tB.purses
-- 23: tB.ways
-- 24: tB.heirs
-- 25: tB.from
-- 26: tB.coins
-- 27: tB.due
-- 28: tB.mayNames
-- 29: tB.laws
-- 30: tB.laws.kinds
-- 31: tB.laws.numbers
-- 32: tB.laws.starts
-- 33: tB.laws.ends
-- 34: tB.laws.names
-- 35: tB.laws.stack
-- 36: rd
-- 37: tk
-- 38: tk.words
-- 39: run
-- 40: run.purses
-- 41: run.turns
-- 42: run.from
-- 43: run.wholes
-- 44: run.due
-- 45: run.states
-- 46: run.left
-- 47: run.hands
-- 48: run.to
-- 49: image
-- 50: image.purses
-- 51: image.turns
-- 52: image.from
-- 53: image.wholes
-- 54: image.due
-- 55: image.states
-- 56: image.left
-- 57: image.hands
-- 58: image.to
-- 59: trial
-- 60: trial.purses
-- 61: trial.turns
-- 62: trial.from
-- 63: trial.wholes
-- 64: trial.due
-- 65: trial.states
-- 66: trial.left
-- 67: trial.hands
-- 68: trial.to
-- 69: chain
-- 70: chain.people
-- 71: orders
-- 72: orders.carriers
-- 73: orders.homes
-- 74: orders.floors
-- 75: orders.stays
-- 76: orders.table
-- 77: orders.laid
-- 78: notes
-- 79: notes.lengths
-- 80: notes.rows
-- 81: notes.coins
-- 82: notes.lows
-- 83: notes.highs
-- 84: notes.targets
-- 85: notes.struck
-- 86: m
-- 87: m.tape
-- 88: m.number
-- 89: m.personName
-- 90: m.age
-- 91: m.purse
-- 92: m.handsMany
-- 93: m.handsTo
-- 94: m.toldFrom
-- 95: m.toldCoins
-- 96: m.toldHour
-- 97: m.mayName
-- 98: m.sumFrom
-- 99: m.sumTo
-- 100: m.knotSort
-- 101: m.knotValue
-- 102: m.names
-- 103: m.worked
-- 104: m.fromOf
-- 105: m.coinsOf
-- 106: m.hourOf
-- 107: m.next
-- 108: m.has
-- 109: m.turn
-- 110: m.state
-- 111: m.onWay
-- 112: m.handsIn
-- 113: m.toWhom
-- 114: m.row
-- 115: m.keptBy
-- 116: m.first
-- 117: m.noteMany
-- 118: m.noteRow
-- 119: m.noteCoins
-- 120: m.noteLow
-- 121: m.noteHigh
-- 122: m.isStruck
-- 123: m.imageFrom
-- 124: m.imageCoins
-- 125: m.imageHour
-- 126: out
end
section
/-! The methods by number, what the instructions link, and the words for it. Printed by wip/gen/links.py. -/
def jON : List String := ["HalfHands$Journey", "HalfHands$Laws", "HalfHands$Notes", "HalfHands$Orders", "HalfHands$Reader", "HalfHands$Row", "HalfHands$Telling", "HalfHands$Tokens", "HalfHands", "HalfHandsModel", "java/util/Arrays", "java/lang/Integer", "java/lang/Math", "HalfHandsLaw"]
def jon (n : Nat) : String := jON.getD n ""
def jws : List Cond := lw_tbl.filter goodWord
abbrev jM : Type := MethodName × ByteArray × Nat × Nat × Nat × Nat × Nat
/-- name, bytes, locals, what it answers (0 nothing, 1 int, 2 boolean, 3 long), owner, arguments, 1: static -/
def jm_0 : jM := (⟨"HalfHands$Journey", "begin", "(LHalfHands$Telling;)V"⟩, prog_2_method_2_code, 3, 0, 0, 1, 0)
def jm_1 : jM := (⟨"HalfHands$Journey", "beginLike", "(LHalfHands$Journey;II)V"⟩, prog_2_method_3_code, 5, 0, 0, 3, 0)
def jm_2 : jM := (⟨"HalfHands$Journey", "start", "(LHalfHands$Telling;II)V"⟩, prog_2_method_4_code, 4, 0, 0, 3, 0)
def jm_3 : jM := (⟨"HalfHands$Journey", "copyFrom", "(LHalfHands$Journey;)V"⟩, prog_2_method_5_code, 2, 0, 0, 1, 0)
def jm_4 : jM := (⟨"HalfHands$Journey", "add", "(III)I"⟩, prog_2_method_6_code, 4, 1, 0, 3, 0)
def jm_5 : jM := (⟨"HalfHands$Journey", "isParcel", "(I)Z"⟩, prog_2_method_7_code, 2, 2, 0, 1, 0)
def jm_6 : jM := (⟨"HalfHands$Journey", "inState", "(I)I"⟩, prog_2_method_8_code, 4, 1, 0, 1, 0)
def jm_7 : jM := (⟨"HalfHands$Journey", "allCoins", "()J"⟩, prog_2_method_9_code, 4, 3, 0, 0, 0)
def jm_8 : jM := (⟨"HalfHands$Journey", "hoursTillRest", "()I"⟩, prog_2_method_10_code, 2, 1, 0, 0, 0)
def jm_9 : jM := (⟨"HalfHands$Journey", "passTo", "(I)V"⟩, prog_2_method_11_code, 3, 0, 0, 1, 0)
def jm_10 : jM := (⟨"HalfHands$Journey", "pass", "()V"⟩, prog_2_method_12_code, 2, 0, 0, 0, 0)
def jm_11 : jM := (⟨"HalfHands$Journey", "isLeftOut", "(I)Z"⟩, prog_2_method_13_code, 2, 2, 0, 1, 0)
def jm_12 : jM := (⟨"HalfHands$Journey", "dispatch", "(I)V"⟩, prog_2_method_14_code, 2, 0, 0, 1, 0)
def jm_13 : jM := (⟨"HalfHands$Journey", "bring", "(I)V"⟩, prog_2_method_15_code, 4, 0, 0, 1, 0)
def jm_14 : jM := (⟨"HalfHands$Journey", "waysOf", "(I)I"⟩, prog_2_method_16_code, 3, 1, 0, 1, 0)
def jm_15 : jM := (⟨"HalfHands$Journey", "shareOf", "(II)I"⟩, prog_2_method_17_code, 7, 1, 0, 2, 0)
def jm_16 : jM := (⟨"HalfHands$Journey", "ageOf", "(I)I"⟩, prog_2_method_18_code, 2, 1, 0, 1, 0)
def jm_17 : jM := (⟨"HalfHands$Journey", "handOn", "(II)V"⟩, prog_2_method_19_code, 3, 0, 0, 2, 0)
def jm_18 : jM := (⟨"HalfHands$Journey", "settle", "(II)V"⟩, prog_2_method_20_code, 3, 0, 0, 2, 0)
def jm_19 : jM := (⟨"HalfHands$Laws", "clear", "()V"⟩, prog_3_method_2_code, 1, 0, 1, 0, 0)
def jm_20 : jM := (⟨"HalfHands$Laws", "open", "(I)V"⟩, prog_3_method_3_code, 2, 0, 1, 1, 0)
def jm_21 : jM := (⟨"HalfHands$Laws", "close", "(I)V"⟩, prog_3_method_4_code, 2, 0, 1, 1, 0)
def jm_22 : jM := (⟨"HalfHands$Laws", "write", "(II)V"⟩, prog_3_method_5_code, 3, 0, 1, 2, 0)
def jm_23 : jM := (⟨"HalfHands$Laws", "oddStays", "(IIIIII)Z"⟩, prog_3_method_6_code, 9, 2, 1, 6, 0)
def jm_24 : jM := (⟨"HalfHands$Laws", "share", "(IIIIII)I"⟩, prog_3_method_7_code, 8, 1, 1, 6, 0)
def jm_25 : jM := (⟨"HalfHands$Laws", "value", "(IIIIII)J"⟩, prog_3_method_8_code, 10, 3, 1, 6, 0)
def jm_26 : jM := (⟨"HalfHands$Laws", "joined", "(IJJ)J"⟩, prog_3_method_9_code, 9, 3, 1, 3, 1)
def jm_27 : jM := (⟨"HalfHands$Notes", "clear", "()V"⟩, prog_4_method_2_code, 1, 0, 2, 0, 0)
def jm_28 : jM := (⟨"HalfHands$Notes", "add", "(IJIII)I"⟩, prog_4_method_3_code, 7, 1, 2, 5, 0)
def jm_29 : jM := (⟨"HalfHands$Notes", "addStrike", "(I)I"⟩, prog_4_method_4_code, 2, 1, 2, 1, 0)
def jm_30 : jM := (⟨"HalfHands$Notes", "knownSize", "()I"⟩, prog_4_method_5_code, 1, 1, 2, 0, 0)
def jm_31 : jM := (⟨"HalfHands$Notes", "markStruck", "()V"⟩, prog_4_method_6_code, 2, 0, 2, 0, 0)
def jm_32 : jM := (⟨"HalfHands$Notes", "holds", "(I)Z"⟩, prog_4_method_7_code, 2, 2, 2, 1, 0)
def jm_33 : jM := (⟨"HalfHands$Notes", "allows", "(II)Z"⟩, prog_4_method_8_code, 3, 2, 2, 2, 0)
def jm_34 : jM := (⟨"HalfHands$Orders", "take", "(LHalfHands$Telling;I)V"⟩, prog_5_method_2_code, 4, 0, 3, 2, 0)
def jm_35 : jM := (⟨"HalfHands$Orders", "askOddOnes", "()V"⟩, prog_5_method_3_code, 5, 0, 3, 0, 0)
def jm_36 : jM := (⟨"HalfHands$Orders", "askOddOne", "(IIII)V"⟩, prog_5_method_4_code, 6, 0, 3, 4, 0)
def jm_37 : jM := (⟨"HalfHands$Orders", "way", "(III)I"⟩, prog_5_method_5_code, 3, 1, 3, 3, 1)
def jm_38 : jM := (⟨"HalfHands$Orders", "mostArriving", "()I"⟩, prog_5_method_6_code, 2, 1, 3, 0, 0)
def jm_39 : jM := (⟨"HalfHands$Orders", "leastArriving", "()I"⟩, prog_5_method_7_code, 2, 1, 3, 0, 0)
def jm_40 : jM := (⟨"HalfHands$Orders", "howManyBring", "(I)I"⟩, prog_5_method_8_code, 2, 1, 3, 1, 0)
def jm_41 : jM := (⟨"HalfHands$Orders", "firstBringing", "(I)J"⟩, prog_5_method_9_code, 2, 3, 3, 1, 0)
def jm_42 : jM := (⟨"HalfHands$Orders", "fewestSwaps", "(I)I"⟩, prog_5_method_10_code, 3, 1, 3, 1, 0)
def jm_43 : jM := (⟨"HalfHands$Orders", "nearestBringing", "(I)J"⟩, prog_5_method_11_code, 3, 3, 3, 1, 0)
def jm_44 : jM := (⟨"HalfHands$Orders", "gain", "(IZ)I"⟩, prog_5_method_12_code, 3, 1, 3, 2, 0)
def jm_45 : jM := (⟨"HalfHands$Orders", "gainPlace", "(IZ)I"⟩, prog_5_method_13_code, 3, 1, 3, 2, 0)
def jm_46 : jM := (⟨"HalfHands$Orders", "numberOf", "(I)I"⟩, prog_5_method_14_code, 3, 1, 3, 1, 0)
def jm_47 : jM := (⟨"HalfHands$Orders", "solved", "(II)I"⟩, prog_5_method_15_code, 5, 1, 3, 2, 0)
def jm_48 : jM := (⟨"HalfHands$Orders", "everybody", "()I"⟩, prog_5_method_16_code, 1, 1, 3, 0, 0)
def jm_49 : jM := (⟨"HalfHands$Orders", "has", "(II)Z"⟩, prog_5_method_17_code, 2, 2, 3, 2, 1)
def jm_50 : jM := (⟨"HalfHands$Orders", "state", "(III)I"⟩, prog_5_method_18_code, 3, 1, 3, 3, 1)
def jm_51 : jM := (⟨"HalfHands$Orders", "judged", "(III)I"⟩, prog_5_method_19_code, 7, 1, 3, 3, 0)
def jm_52 : jM := (⟨"HalfHands$Orders", "judgedEnd", "(III)I"⟩, prog_5_method_20_code, 6, 1, 3, 3, 0)
def jm_53 : jM := (⟨"HalfHands$Orders", "judgedStep", "(IIII)I"⟩, prog_5_method_21_code, 8, 1, 3, 4, 0)
def jm_54 : jM := (⟨"HalfHands$Orders", "isAskedOf", "(II)Z"⟩, prog_5_method_22_code, 3, 2, 3, 2, 0)
def jm_55 : jM := (⟨"HalfHands$Orders", "joined", "(II)I"⟩, prog_5_method_23_code, 3, 1, 3, 2, 0)
def jm_56 : jM := (⟨"HalfHands$Orders", "handed", "(IIII)I"⟩, prog_5_method_24_code, 6, 1, 3, 4, 0)
def jm_57 : jM := (⟨"HalfHands$Orders", "overtaken", "(II)I"⟩, prog_5_method_25_code, 5, 1, 3, 2, 0)
def jm_58 : jM := (⟨"HalfHands$Orders", "laidRow", "(I)J"⟩, prog_5_method_26_code, 5, 3, 3, 1, 0)
def jm_59 : jM := (⟨"HalfHands$Orders", "lay", "(I)V"⟩, prog_5_method_27_code, 7, 0, 3, 1, 0)
def jm_60 : jM := (⟨"HalfHands$Orders", "chosen", "(IIII)I"⟩, prog_5_method_28_code, 6, 1, 3, 4, 0)
def jm_61 : jM := (⟨"HalfHands$Orders", "leads", "(II)Z"⟩, prog_5_method_29_code, 3, 2, 3, 2, 0)
def jm_62 : jM := (⟨"HalfHands$Reader", "begin", "(ILHalfHands$Telling;)V"⟩, prog_6_method_2_code, 3, 0, 4, 2, 0)
def jm_63 : jM := (⟨"HalfHands$Reader", "goesOn", "()Z"⟩, prog_6_method_3_code, 1, 2, 4, 0, 0)
def jm_64 : jM := (⟨"HalfHands$Reader", "fails", "(I)Z"⟩, prog_6_method_4_code, 2, 2, 4, 1, 0)
def jm_65 : jM := (⟨"HalfHands$Reader", "passes", "(I)Z"⟩, prog_6_method_5_code, 2, 2, 4, 1, 0)
def jm_66 : jM := (⟨"HalfHands$Reader", "readLine", "()Z"⟩, prog_6_method_6_code, 1, 2, 4, 0, 0)
def jm_67 : jM := (⟨"HalfHands$Reader", "personLine", "()Z"⟩, prog_6_method_7_code, 3, 2, 4, 0, 0)
def jm_68 : jM := (⟨"HalfHands$Reader", "newName", "(I)Z"⟩, prog_6_method_8_code, 2, 2, 4, 1, 0)
def jm_69 : jM := (⟨"HalfHands$Reader", "readNumber", "(II)Z"⟩, prog_6_method_9_code, 3, 2, 4, 2, 0)
def jm_70 : jM := (⟨"HalfHands$Reader", "handsLine", "()Z"⟩, prog_6_method_10_code, 3, 2, 4, 0, 0)
def jm_71 : jM := (⟨"HalfHands$Reader", "toldPerson", "()I"⟩, prog_6_method_11_code, 2, 1, 4, 0, 0)
def jm_72 : jM := (⟨"HalfHands$Reader", "heirOf", "(I)Z"⟩, prog_6_method_12_code, 3, 2, 4, 1, 0)
def jm_73 : jM := (⟨"HalfHands$Reader", "parcelLine", "()Z"⟩, prog_6_method_13_code, 3, 2, 4, 0, 0)
def jm_74 : jM := (⟨"HalfHands$Reader", "lawLine", "()Z"⟩, prog_6_method_14_code, 2, 2, 4, 0, 0)
def jm_75 : jM := (⟨"HalfHands$Reader", "mayLine", "()Z"⟩, prog_6_method_15_code, 3, 2, 4, 0, 0)
def jm_76 : jM := (⟨"HalfHands$Reader", "expression", "(II)Z"⟩, prog_6_method_16_code, 6, 2, 4, 2, 0)
def jm_77 : jM := (⟨"HalfHands$Reader", "joins", "(II)Z"⟩, prog_6_method_17_code, 2, 2, 4, 2, 1)
def jm_78 : jM := (⟨"HalfHands$Reader", "passKnot", "()Z"⟩, prog_6_method_18_code, 1, 2, 4, 0, 0)
def jm_79 : jM := (⟨"HalfHands$Reader", "denial", "(I)Z"⟩, prog_6_method_19_code, 4, 2, 4, 1, 0)
def jm_80 : jM := (⟨"HalfHands$Reader", "operand", "(I)Z"⟩, prog_6_method_20_code, 4, 2, 4, 1, 0)
def jm_81 : jM := (⟨"HalfHands$Reader", "enclosed", "(I)Z"⟩, prog_6_method_21_code, 2, 2, 4, 1, 0)
def jm_82 : jM := (⟨"HalfHands$Row", "take", "(IJI)Z"⟩, prog_7_method_2_code, 8, 2, 5, 3, 0)
def jm_83 : jM := (⟨"HalfHands$Row", "placed", "(II)J"⟩, prog_7_method_3_code, 2, 3, 5, 2, 1)
def jm_84 : jM := (⟨"HalfHands$Row", "carriers", "()I"⟩, prog_7_method_4_code, 1, 1, 5, 0, 0)
def jm_85 : jM := (⟨"HalfHands$Row", "placeOf", "(I)I"⟩, prog_7_method_5_code, 3, 1, 5, 1, 0)
def jm_86 : jM := (⟨"HalfHands$Row", "isCarrier", "(I)Z"⟩, prog_7_method_6_code, 2, 2, 5, 1, 0)
def jm_87 : jM := (⟨"HalfHands$Row", "swapAt", "(I)V"⟩, prog_7_method_7_code, 3, 0, 5, 1, 0)
def jm_88 : jM := (⟨"HalfHands$Row", "arriving", "(LHalfHands$Telling;II)I"⟩, prog_7_method_8_code, 6, 1, 5, 3, 0)
def jm_89 : jM := (⟨"HalfHands$Row", "keptAt", "(LHalfHands$Telling;II)I"⟩, prog_7_method_9_code, 7, 1, 5, 3, 0)
def jm_90 : jM := (⟨"HalfHands$Row", "ageAt", "(LHalfHands$Telling;I)I"⟩, prog_7_method_10_code, 3, 1, 5, 2, 0)
def jm_91 : jM := (⟨"HalfHands$Row", "leastBringing", "(LHalfHands$Telling;I)I"⟩, prog_7_method_11_code, 8, 1, 5, 2, 0)
def jm_92 : jM := (⟨"HalfHands$Telling", "clear", "()V"⟩, prog_8_method_2_code, 1, 0, 6, 0, 0)
def jm_93 : jM := (⟨"HalfHands$Telling", "isPerson", "(I)Z"⟩, prog_8_method_3_code, 2, 2, 6, 1, 0)
def jm_94 : jM := (⟨"HalfHands$Telling", "personNamed", "(I)I"⟩, prog_8_method_4_code, 2, 1, 6, 1, 0)
def jm_95 : jM := (⟨"HalfHands$Telling", "mayNamed", "(I)I"⟩, prog_8_method_5_code, 2, 1, 6, 1, 0)
def jm_96 : jM := (⟨"HalfHands$Telling", "placeOf", "(I[II)I"⟩, prog_8_method_6_code, 4, 1, 6, 3, 1)
def jm_97 : jM := (⟨"HalfHands$Telling", "addPerson", "(II)V"⟩, prog_8_method_7_code, 3, 0, 6, 2, 0)
def jm_98 : jM := (⟨"HalfHands$Telling", "addHeir", "(II)V"⟩, prog_8_method_8_code, 3, 0, 6, 2, 0)
def jm_99 : jM := (⟨"HalfHands$Telling", "addParcel", "(III)V"⟩, prog_8_method_9_code, 4, 0, 6, 3, 0)
def jm_100 : jM := (⟨"HalfHands$Telling", "addMay", "(I)V"⟩, prog_8_method_10_code, 2, 0, 6, 1, 0)
def jm_101 : jM := (⟨"HalfHands$Telling", "heir", "(II)I"⟩, prog_8_method_11_code, 3, 1, 6, 2, 0)
def jm_102 : jM := (⟨"HalfHands$Telling", "handsTo", "(II)Z"⟩, prog_8_method_12_code, 4, 2, 6, 2, 0)
def jm_103 : jM := (⟨"HalfHands$Tokens", "isName", "(I)Z"⟩, prog_9_method_2_code, 1, 2, 7, 1, 1)
def jm_104 : jM := (⟨"HalfHands$Tokens", "isComparison", "(I)Z"⟩, prog_9_method_3_code, 1, 2, 7, 1, 1)
def jm_105 : jM := (⟨"HalfHands$Tokens", "begin", "(I)V"⟩, prog_9_method_4_code, 2, 0, 7, 1, 0)
def jm_106 : jM := (⟨"HalfHands$Tokens", "advance", "()V"⟩, prog_9_method_5_code, 1, 0, 7, 0, 0)
def jm_107 : jM := (⟨"HalfHands$Tokens", "readWord", "()V"⟩, prog_9_method_6_code, 3, 0, 7, 0, 0)
def jm_108 : jM := (⟨"HalfHands$Tokens", "readNumber", "()V"⟩, prog_9_method_7_code, 1, 0, 7, 0, 0)
def jm_109 : jM := (⟨"HalfHands$Tokens", "readSign", "()V"⟩, prog_9_method_8_code, 3, 0, 7, 0, 0)
def jm_110 : jM := (⟨"HalfHands", "feed", "(IIIII)I"⟩, prog_1_method_2_code, 6, 1, 8, 5, 0)
def jm_111 : jM := (⟨"HalfHands", "append", "(I)V"⟩, prog_1_method_3_code, 3, 0, 8, 1, 0)
def jm_112 : jM := (⟨"HalfHands", "text", "(I)I"⟩, prog_1_method_4_code, 4, 1, 8, 1, 0)
def jm_113 : jM := (⟨"HalfHands", "fault", "(I)I"⟩, prog_1_method_5_code, 2, 1, 8, 1, 0)
def jm_114 : jM := (⟨"HalfHands", "named", "(II)I"⟩, prog_1_method_6_code, 3, 1, 8, 2, 0)
def jm_115 : jM := (⟨"HalfHands", "look", "(II)I"⟩, prog_1_method_7_code, 3, 1, 8, 2, 0)
def jm_116 : jM := (⟨"HalfHands", "hours", "(I)I"⟩, prog_1_method_8_code, 2, 1, 8, 1, 0)
def jm_117 : jM := (⟨"HalfHands", "send", "(II)I"⟩, prog_1_method_9_code, 3, 1, 8, 2, 0)
def jm_118 : jM := (⟨"HalfHands", "parcel", "(II)I"⟩, prog_1_method_10_code, 3, 1, 8, 2, 0)
def jm_119 : jM := (⟨"HalfHands", "coins", "()J"⟩, prog_1_method_11_code, 1, 3, 8, 0, 0)
def jm_120 : jM := (⟨"HalfHands", "rest", "()I"⟩, prog_1_method_12_code, 1, 1, 8, 0, 0)
def jm_121 : jM := (⟨"HalfHands", "arrives", "(IJI)I"⟩, prog_1_method_13_code, 5, 1, 8, 3, 0)
def jm_122 : jM := (⟨"HalfHands", "keeps", "(IJII)I"⟩, prog_1_method_14_code, 6, 1, 8, 4, 0)
def jm_123 : jM := (⟨"HalfHands", "back", "(IJII)I"⟩, prog_1_method_15_code, 8, 1, 8, 4, 0)
def jm_124 : jM := (⟨"HalfHands", "span", "(IJIII)I"⟩, prog_1_method_16_code, 7, 1, 8, 5, 0)
def jm_125 : jM := (⟨"HalfHands", "endOfBack", "(II)I"⟩, prog_1_method_17_code, 4, 1, 8, 2, 0)
def jm_126 : jM := (⟨"HalfHands", "best", "(IJII)I"⟩, prog_1_method_18_code, 6, 1, 8, 4, 0)
def jm_127 : jM := (⟨"HalfHands", "order", "(IJII)J"⟩, prog_1_method_19_code, 6, 3, 8, 4, 0)
def jm_128 : jM := (⟨"HalfHands", "just", "(IJII)I"⟩, prog_1_method_20_code, 6, 1, 8, 4, 0)
def jm_129 : jM := (⟨"HalfHands", "first", "(IJII)J"⟩, prog_1_method_21_code, 6, 3, 8, 4, 0)
def jm_130 : jM := (⟨"HalfHands", "bound", "(III)I"⟩, prog_1_method_22_code, 4, 1, 8, 3, 0)
def jm_131 : jM := (⟨"HalfHands", "gains", "(IJIII)I"⟩, prog_1_method_23_code, 8, 1, 8, 5, 0)
def jm_132 : jM := (⟨"HalfHands", "changes", "(IJII)I"⟩, prog_1_method_24_code, 6, 1, 8, 4, 0)
def jm_133 : jM := (⟨"HalfHands", "changed", "(IJII)J"⟩, prog_1_method_25_code, 6, 3, 8, 4, 0)
def jm_134 : jM := (⟨"HalfHands", "worth", "(IJII)I"⟩, prog_1_method_26_code, 7, 1, 8, 4, 0)
def jm_135 : jM := (⟨"HalfHands", "serves", "(IJI)I"⟩, prog_1_method_27_code, 6, 1, 8, 3, 0)
def jm_136 : jM := (⟨"HalfHands", "isOutdone", "(I)Z"⟩, prog_1_method_28_code, 3, 2, 8, 1, 0)
def jm_137 : jM := (⟨"HalfHands", "law", "(IIIII)J"⟩, prog_1_method_29_code, 7, 3, 8, 5, 0)
def jm_138 : jM := (⟨"HalfHands", "note", "(IJIII)I"⟩, prog_1_method_30_code, 7, 1, 8, 5, 0)
def jm_139 : jM := (⟨"HalfHands", "strike", "(I)I"⟩, prog_1_method_31_code, 2, 1, 8, 1, 0)
def jm_140 : jM := (⟨"HalfHands", "known", "(I)Z"⟩, prog_1_method_32_code, 2, 2, 8, 1, 0)
def jm_141 : jM := (⟨"HalfHands", "fits", "()I"⟩, prog_1_method_33_code, 3, 1, 8, 0, 0)
def jm_142 : jM := (⟨"HalfHands", "agrees", "(I)Z"⟩, prog_1_method_34_code, 3, 2, 8, 1, 0)
def jm_143 : jM := (⟨"HalfHands", "lawNumbered", "(I)I"⟩, prog_1_method_35_code, 2, 1, 8, 1, 0)
def jm_144 : jM := (⟨"HalfHands", "apart", "(IJII)I"⟩, prog_1_method_36_code, 8, 1, 8, 4, 0)
def jm_145 : jM := (⟨"HalfHands", "tried", "(III)I"⟩, prog_1_method_37_code, 4, 1, 8, 3, 0)
def jm_146 : jM := (⟨"HalfHands", "isTrial", "(II)Z"⟩, prog_1_method_38_code, 3, 2, 8, 2, 0)
def jm_147 : jM := (⟨"HalfHands", "keep", "()I"⟩, prog_1_method_39_code, 1, 1, 8, 0, 0)
def jm_148 : jM := (⟨"HalfHands", "again", "()I"⟩, prog_1_method_40_code, 1, 1, 8, 0, 0)
def jm_149 : jM := (⟨"HalfHands", "count", "(I)I"⟩, prog_1_method_41_code, 2, 1, 8, 1, 0)
def jm_150 : jM := (⟨"HalfHands", "isRow", "(IJ)Z"⟩, prog_1_method_42_code, 4, 2, 8, 2, 0)
def jm_151 : jM := (⟨"HalfHands", "isSent", "(IJI)Z"⟩, prog_1_method_43_code, 5, 2, 8, 3, 0)
def jm_152 : jM := (⟨"HalfHands", "within", "(III)Z"⟩, prog_1_method_44_code, 3, 2, 8, 3, 1)
def jm_153 : jM := (⟨"HalfHands", "ceiling", "(II)I"⟩, prog_1_method_45_code, 2, 1, 8, 2, 1)
def jm_154 : jM := (⟨"HalfHandsModel", "thrown", "()I"⟩, prog_11_method_2_code, 1, 1, 9, 0, 0)
def jm_155 : jM := (⟨"HalfHandsModel", "feed", "(IIIII)I"⟩, prog_11_method_3_code, 8, 1, 9, 5, 0)
def jm_156 : jM := (⟨"HalfHandsModel", "here", "()I"⟩, prog_11_method_4_code, 1, 1, 9, 0, 0)
def jm_157 : jM := (⟨"HalfHandsModel", "isSmall", "(I)Z"⟩, prog_11_method_5_code, 1, 2, 9, 1, 1)
def jm_158 : jM := (⟨"HalfHandsModel", "isDigit", "(I)Z"⟩, prog_11_method_6_code, 1, 2, 9, 1, 1)
def jm_159 : jM := (⟨"HalfHandsModel", "token", "()V"⟩, prog_11_method_7_code, 2, 0, 9, 0, 0)
def jm_160 : jM := (⟨"HalfHandsModel", "sign", "(I)V"⟩, prog_11_method_8_code, 2, 0, 9, 1, 0)
def jm_161 : jM := (⟨"HalfHandsModel", "word", "()I"⟩, prog_11_method_9_code, 4, 1, 9, 0, 0)
def jm_162 : jM := (⟨"HalfHandsModel", "name", "()V"⟩, prog_11_method_10_code, 2, 0, 9, 0, 0)
def jm_163 : jM := (⟨"HalfHandsModel", "wrong", "(I)V"⟩, prog_11_method_11_code, 2, 0, 9, 1, 0)
def jm_164 : jM := (⟨"HalfHandsModel", "isWord", "(I)Z"⟩, prog_11_method_12_code, 2, 2, 9, 1, 0)
def jm_165 : jM := (⟨"HalfHandsModel", "isSign", "(I)Z"⟩, prog_11_method_13_code, 2, 2, 9, 1, 0)
def jm_166 : jM := (⟨"HalfHandsModel", "goOn", "()V"⟩, prog_11_method_14_code, 1, 0, 9, 0, 0)
def jm_167 : jM := (⟨"HalfHandsModel", "numeral", "(II)I"⟩, prog_11_method_15_code, 4, 1, 9, 2, 0)
def jm_168 : jM := (⟨"HalfHandsModel", "found", "([IIII)I"⟩, prog_11_method_16_code, 5, 1, 9, 4, 1)
def jm_169 : jM := (⟨"HalfHandsModel", "fresh", "([III)I"⟩, prog_11_method_17_code, 5, 1, 9, 3, 0)
def jm_170 : jM := (⟨"HalfHandsModel", "person", "()I"⟩, prog_11_method_18_code, 1, 1, 9, 0, 0)
def jm_171 : jM := (⟨"HalfHandsModel", "fresher", "(I)I"⟩, prog_11_method_19_code, 2, 1, 9, 1, 0)
def jm_172 : jM := (⟨"HalfHandsModel", "oneMore", "(I)V"⟩, prog_11_method_20_code, 2, 0, 9, 1, 0)
def jm_173 : jM := (⟨"HalfHandsModel", "line", "()V"⟩, prog_11_method_21_code, 3, 0, 9, 0, 0)
def jm_174 : jM := (⟨"HalfHandsModel", "personLine", "(I)V"⟩, prog_11_method_22_code, 2, 0, 9, 1, 0)
def jm_175 : jM := (⟨"HalfHandsModel", "handsLine", "()V"⟩, prog_11_method_23_code, 3, 0, 9, 0, 0)
def jm_176 : jM := (⟨"HalfHandsModel", "handsOne", "(I)V"⟩, prog_11_method_24_code, 5, 0, 9, 1, 0)
def jm_177 : jM := (⟨"HalfHandsModel", "parcelLine", "(I)V"⟩, prog_11_method_25_code, 2, 0, 9, 1, 0)
def jm_178 : jM := (⟨"HalfHandsModel", "puts", "(II)V"⟩, prog_11_method_26_code, 3, 0, 9, 2, 0)
def jm_179 : jM := (⟨"HalfHandsModel", "knot", "()V"⟩, prog_11_method_27_code, 1, 0, 9, 0, 0)
def jm_180 : jM := (⟨"HalfHandsModel", "expression", "()V"⟩, prog_11_method_28_code, 1, 0, 9, 0, 0)
def jm_181 : jM := (⟨"HalfHandsModel", "conjunction", "()V"⟩, prog_11_method_29_code, 1, 0, 9, 0, 0)
def jm_182 : jM := (⟨"HalfHandsModel", "negation", "()V"⟩, prog_11_method_30_code, 2, 0, 9, 0, 0)
def jm_183 : jM := (⟨"HalfHandsModel", "sum", "()V"⟩, prog_11_method_31_code, 2, 0, 9, 0, 0)
def jm_184 : jM := (⟨"HalfHandsModel", "product", "()V"⟩, prog_11_method_32_code, 2, 0, 9, 0, 0)
def jm_185 : jM := (⟨"HalfHandsModel", "primary", "()V"⟩, prog_11_method_33_code, 2, 0, 9, 0, 0)
def jm_186 : jM := (⟨"HalfHandsModel", "half", "([I)V"⟩, prog_11_method_34_code, 3, 0, 9, 1, 1)
def jm_187 : jM := (⟨"HalfHandsModel", "text", "(I)I"⟩, prog_11_method_35_code, 3, 1, 9, 1, 0)
def jm_188 : jM := (⟨"HalfHandsModel", "fault", "(I)I"⟩, prog_11_method_36_code, 2, 1, 9, 1, 0)
def jm_189 : jM := (⟨"HalfHandsModel", "named", "(II)I"⟩, prog_11_method_37_code, 3, 1, 9, 2, 0)
def jm_190 : jM := (⟨"HalfHandsModel", "isPerson", "(I)Z"⟩, prog_11_method_38_code, 2, 2, 9, 1, 0)
def jm_191 : jM := (⟨"HalfHandsModel", "plain", "()V"⟩, prog_11_method_39_code, 1, 0, 9, 0, 0)
def jm_192 : jM := (⟨"HalfHandsModel", "ageOf", "(I)I"⟩, prog_11_method_40_code, 2, 1, 9, 1, 0)
def jm_193 : jM := (⟨"HalfHandsModel", "manyOf", "(I)I"⟩, prog_11_method_41_code, 2, 1, 9, 1, 0)
def jm_194 : jM := (⟨"HalfHandsModel", "is", "(Z)J"⟩, prog_11_method_42_code, 1, 3, 9, 1, 1)
def jm_195 : jM := (⟨"HalfHandsModel", "works", "(I)Z"⟩, prog_11_method_43_code, 8, 2, 9, 1, 0)
def jm_196 : jM := (⟨"HalfHandsModel", "goes", "(I)Z"⟩, prog_11_method_44_code, 3, 2, 9, 1, 0)
def jm_197 : jM := (⟨"HalfHandsModel", "lays", "(IIIII)V"⟩, prog_11_method_45_code, 6, 0, 9, 5, 0)
def jm_198 : jM := (⟨"HalfHandsModel", "kept", "(IIIII)I"⟩, prog_11_method_46_code, 7, 1, 9, 5, 0)
def jm_199 : jM := (⟨"HalfHandsModel", "law", "(IIIII)J"⟩, prog_11_method_47_code, 7, 3, 9, 5, 0)
def jm_200 : jM := (⟨"HalfHandsModel", "begins", "(I)V"⟩, prog_11_method_48_code, 3, 0, 9, 1, 0)
def jm_201 : jM := (⟨"HalfHandsModel", "newParcel", "(I)V"⟩, prog_11_method_49_code, 2, 0, 9, 1, 0)
def jm_202 : jM := (⟨"HalfHandsModel", "copies", "(II)V"⟩, prog_11_method_50_code, 4, 0, 9, 2, 0)
def jm_203 : jM := (⟨"HalfHandsModel", "nextOf", "(II)I"⟩, prog_11_method_51_code, 3, 1, 9, 2, 0)
def jm_204 : jM := (⟨"HalfHandsModel", "handsOn", "(IIII)V"⟩, prog_11_method_52_code, 6, 0, 9, 4, 0)
def jm_205 : jM := (⟨"HalfHandsModel", "rests", "(IIII)V"⟩, prog_11_method_53_code, 6, 0, 9, 4, 0)
def jm_206 : jM := (⟨"HalfHandsModel", "passes", "(I)V"⟩, prog_11_method_54_code, 4, 0, 9, 1, 0)
def jm_207 : jM := (⟨"HalfHandsModel", "comes", "(II)V"⟩, prog_11_method_55_code, 7, 0, 9, 2, 0)
def jm_208 : jM := (⟨"HalfHandsModel", "look", "(II)I"⟩, prog_11_method_56_code, 3, 1, 9, 2, 0)
def jm_209 : jM := (⟨"HalfHandsModel", "hours", "(I)I"⟩, prog_11_method_57_code, 3, 1, 9, 1, 0)
def jm_210 : jM := (⟨"HalfHandsModel", "send", "(II)I"⟩, prog_11_method_58_code, 3, 1, 9, 2, 0)
def jm_211 : jM := (⟨"HalfHandsModel", "isParcel", "(I)Z"⟩, prog_11_method_59_code, 2, 2, 9, 1, 0)
def jm_212 : jM := (⟨"HalfHandsModel", "parcel", "(II)I"⟩, prog_11_method_60_code, 3, 1, 9, 2, 0)
def jm_213 : jM := (⟨"HalfHandsModel", "coins", "()J"⟩, prog_11_method_61_code, 4, 3, 9, 0, 0)
def jm_214 : jM := (⟨"HalfHandsModel", "isAllRest", "(I)Z"⟩, prog_11_method_62_code, 3, 2, 9, 1, 0)
def jm_215 : jM := (⟨"HalfHandsModel", "rest", "()I"⟩, prog_11_method_63_code, 2, 1, 9, 0, 0)
def jm_216 : jM := (⟨"HalfHandsModel", "takes", "(IJ)Z"⟩, prog_11_method_64_code, 7, 2, 9, 2, 0)
def jm_217 : jM := (⟨"HalfHandsModel", "takesSent", "(IJI)Z"⟩, prog_11_method_65_code, 5, 2, 9, 3, 0)
def jm_218 : jM := (⟨"HalfHandsModel", "sends", "(I)I"⟩, prog_11_method_66_code, 4, 1, 9, 1, 0)
def jm_219 : jM := (⟨"HalfHandsModel", "rowAsLong", "()J"⟩, prog_11_method_67_code, 4, 3, 9, 0, 0)
def jm_220 : jM := (⟨"HalfHandsModel", "arrives", "(IJI)I"⟩, prog_11_method_68_code, 5, 1, 9, 3, 0)
def jm_221 : jM := (⟨"HalfHandsModel", "keeps", "(IJII)I"⟩, prog_11_method_69_code, 6, 1, 9, 4, 0)
def jm_222 : jM := (⟨"HalfHandsModel", "goesOn", "(JI)I"⟩, prog_11_method_70_code, 5, 1, 9, 2, 0)
def jm_223 : jM := (⟨"HalfHandsModel", "backs", "(I)V"⟩, prog_11_method_71_code, 7, 0, 9, 1, 0)
def jm_224 : jM := (⟨"HalfHandsModel", "laysBack", "(IJI)Z"⟩, prog_11_method_72_code, 5, 2, 9, 3, 0)
def jm_225 : jM := (⟨"HalfHandsModel", "back", "(IJII)I"⟩, prog_11_method_73_code, 7, 1, 9, 4, 0)
def jm_226 : jM := (⟨"HalfHandsModel", "span", "(IJIII)I"⟩, prog_11_method_74_code, 7, 1, 9, 5, 0)
def jm_227 : jM := (⟨"HalfHandsModel", "turns", "(II)V"⟩, prog_11_method_75_code, 7, 0, 9, 2, 0)
def jm_228 : jM := (⟨"HalfHandsModel", "sees", "()V"⟩, prog_11_method_76_code, 5, 0, 9, 0, 0)
def jm_229 : jM := (⟨"HalfHandsModel", "changesTo", "()I"⟩, prog_11_method_77_code, 4, 1, 9, 0, 0)
def jm_230 : jM := (⟨"HalfHandsModel", "placeOf", "(I)I"⟩, prog_11_method_78_code, 3, 1, 9, 1, 0)
def jm_231 : jM := (⟨"HalfHandsModel", "goesThrough", "(IIII)V"⟩, prog_11_method_79_code, 6, 0, 9, 4, 0)
def jm_232 : jM := (⟨"HalfHandsModel", "best", "(IJII)I"⟩, prog_11_method_80_code, 6, 1, 9, 4, 0)
def jm_233 : jM := (⟨"HalfHandsModel", "order", "(IJII)J"⟩, prog_11_method_81_code, 6, 3, 9, 4, 0)
def jm_234 : jM := (⟨"HalfHandsModel", "isAimed", "(IJII)Z"⟩, prog_11_method_82_code, 6, 2, 9, 4, 0)
def jm_235 : jM := (⟨"HalfHandsModel", "just", "(IJII)I"⟩, prog_11_method_83_code, 6, 1, 9, 4, 0)
def jm_236 : jM := (⟨"HalfHandsModel", "first", "(IJII)J"⟩, prog_11_method_84_code, 6, 3, 9, 4, 0)
def jm_237 : jM := (⟨"HalfHandsModel", "bound", "(III)I"⟩, prog_11_method_85_code, 6, 1, 9, 3, 0)
def jm_238 : jM := (⟨"HalfHandsModel", "gains", "(IJIII)I"⟩, prog_11_method_86_code, 9, 1, 9, 5, 0)
def jm_239 : jM := (⟨"HalfHandsModel", "changes", "(IJII)I"⟩, prog_11_method_87_code, 6, 1, 9, 4, 0)
def jm_240 : jM := (⟨"HalfHandsModel", "changed", "(IJII)J"⟩, prog_11_method_88_code, 6, 3, 9, 4, 0)
def jm_241 : jM := (⟨"HalfHandsModel", "worth", "(IJII)I"⟩, prog_11_method_89_code, 8, 1, 9, 4, 0)
def jm_242 : jM := (⟨"HalfHandsModel", "serves", "(IJI)I"⟩, prog_11_method_90_code, 6, 1, 9, 3, 0)
def jm_243 : jM := (⟨"HalfHandsModel", "note", "(IJIII)I"⟩, prog_11_method_91_code, 7, 1, 9, 5, 0)
def jm_244 : jM := (⟨"HalfHandsModel", "strike", "(I)I"⟩, prog_11_method_92_code, 2, 1, 9, 1, 0)
def jm_245 : jM := (⟨"HalfHandsModel", "known", "(I)Z"⟩, prog_11_method_93_code, 2, 2, 9, 1, 0)
def jm_246 : jM := (⟨"HalfHandsModel", "knownMany", "()I"⟩, prog_11_method_94_code, 1, 1, 9, 0, 0)
def jm_247 : jM := (⟨"HalfHandsModel", "goesAsNoted", "()Z"⟩, prog_11_method_95_code, 3, 2, 9, 0, 0)
def jm_248 : jM := (⟨"HalfHandsModel", "lawOf", "(I)I"⟩, prog_11_method_96_code, 2, 1, 9, 1, 0)
def jm_249 : jM := (⟨"HalfHandsModel", "fits", "()I"⟩, prog_11_method_97_code, 3, 1, 9, 0, 0)
def jm_250 : jM := (⟨"HalfHandsModel", "apart", "(IJII)I"⟩, prog_11_method_98_code, 8, 1, 9, 4, 0)
def jm_251 : jM := (⟨"HalfHandsModel", "tried", "(III)I"⟩, prog_11_method_99_code, 6, 1, 9, 3, 0)
def jm_252 : jM := (⟨"HalfHandsModel", "keep", "()I"⟩, prog_11_method_100_code, 2, 1, 9, 0, 0)
def jm_253 : jM := (⟨"HalfHandsModel", "again", "()I"⟩, prog_11_method_101_code, 2, 1, 9, 0, 0)
def jm_254 : jM := (⟨"HalfHandsModel", "count", "(I)I"⟩, prog_11_method_102_code, 4, 1, 9, 1, 0)
def jm_255 : jM := (⟨"java/lang/Integer", "bitCount", "(I)I"⟩, prog_18_method_49_code, 1, 1, 11, 1, 1)
def jm_256 : jM := (⟨"java/util/Arrays", "fill", "([II)V"⟩, prog_28_method_103_code, 4, 0, 10, 2, 1)
def jMM : List jM := [jm_0, jm_1, jm_2, jm_3, jm_4, jm_5, jm_6, jm_7, jm_8, jm_9, jm_10, jm_11, jm_12, jm_13, jm_14, jm_15, jm_16, jm_17, jm_18, jm_19, jm_20, jm_21, jm_22, jm_23, jm_24, jm_25, jm_26, jm_27, jm_28, jm_29, jm_30, jm_31, jm_32, jm_33, jm_34, jm_35, jm_36, jm_37, jm_38, jm_39, jm_40, jm_41, jm_42, jm_43, jm_44, jm_45, jm_46, jm_47, jm_48, jm_49, jm_50, jm_51, jm_52, jm_53, jm_54, jm_55, jm_56, jm_57, jm_58, jm_59, jm_60, jm_61, jm_62, jm_63, jm_64, jm_65, jm_66, jm_67, jm_68, jm_69, jm_70, jm_71, jm_72, jm_73, jm_74, jm_75, jm_76, jm_77, jm_78, jm_79, jm_80, jm_81, jm_82, jm_83, jm_84, jm_85, jm_86, jm_87, jm_88, jm_89, jm_90, jm_91, jm_92, jm_93, jm_94, jm_95, jm_96, jm_97, jm_98, jm_99, jm_100, jm_101, jm_102, jm_103, jm_104, jm_105, jm_106, jm_107, jm_108, jm_109, jm_110, jm_111, jm_112, jm_113, jm_114, jm_115, jm_116, jm_117, jm_118, jm_119, jm_120, jm_121, jm_122, jm_123, jm_124, jm_125, jm_126, jm_127, jm_128, jm_129, jm_130, jm_131, jm_132, jm_133, jm_134, jm_135, jm_136, jm_137, jm_138, jm_139, jm_140, jm_141, jm_142, jm_143, jm_144, jm_145, jm_146, jm_147, jm_148, jm_149, jm_150, jm_151, jm_152, jm_153, jm_154, jm_155, jm_156, jm_157, jm_158, jm_159, jm_160, jm_161, jm_162, jm_163, jm_164, jm_165, jm_166, jm_167, jm_168, jm_169, jm_170, jm_171, jm_172, jm_173, jm_174, jm_175, jm_176, jm_177, jm_178, jm_179, jm_180, jm_181, jm_182, jm_183, jm_184, jm_185, jm_186, jm_187, jm_188, jm_189, jm_190, jm_191, jm_192, jm_193, jm_194, jm_195, jm_196, jm_197, jm_198, jm_199, jm_200, jm_201, jm_202, jm_203, jm_204, jm_205, jm_206, jm_207, jm_208, jm_209, jm_210, jm_211, jm_212, jm_213, jm_214, jm_215, jm_216, jm_217, jm_218, jm_219, jm_220, jm_221, jm_222, jm_223, jm_224, jm_225, jm_226, jm_227, jm_228, jm_229, jm_230, jm_231, jm_232, jm_233, jm_234, jm_235, jm_236, jm_237, jm_238, jm_239, jm_240, jm_241, jm_242, jm_243, jm_244, jm_245, jm_246, jm_247, jm_248, jm_249, jm_250, jm_251, jm_252, jm_253, jm_254, jm_255, jm_256]
def j_rt (n : Nat) : Option FieldType := match n with
  | 0 => none
  | 1 => some .int
  | 2 => some .boolean
  | _ => some .long
def jtt (ci : Nat) : u_T := (jcl.getD ci ("", fun _ => ("", "", "", false), 0)).2.1
def jrr (ci : Nat) : String := (jcl.getD ci ("", fun _ => ("", "", "", false), 0)).1
def jnn (ci : Nat) : Nat := (jcl.getD ci ("", fun _ => ("", "", "", false), 0)).2.2
def jyy (ci : Nat) : Nat → FieldType := jyl.getD ci (fun _ => .int)
def jLF : List (Nat × Nat × Nat × Nat) := [(0, 9, 0, 1), (0, 15, 0, 2), (0, 18, 0, 4), (0, 21, 0, 5), (0, 24, 0, 6), (0, 27, 0, 7), (0, 30, 0, 8), (0, 33, 0, 9), (0, 36, 0, 10), (0, 39, 0, 12), (0, 43, 0, 11), (0, 51, 6, 6), (0, 56, 6, 7), (0, 57, 6, 8), (0, 60, 6, 9), (0, 65, 0, 3), (0, 66, 0, 13), (0, 69, 0, 0), (0, 72, 6, 3), (0, 89, 6, 0), (0, 124, 6, 4), (0, 138, 6, 12), (0, 151, 6, 2), (1, 11, 1, 3), (1, 17, 1, 4), (1, 20, 1, 5), (1, 23, 1, 6), (1, 26, 1, 7), (1, 29, 1, 8), (1, 33, 1, 0), (1, 37, 1, 2), (1, 40, 1, 1), (2, 9, 2, 1), (2, 15, 2, 2), (2, 19, 2, 3), (2, 23, 2, 4), (2, 26, 2, 5), (2, 29, 2, 6), (2, 32, 2, 7), (2, 35, 2, 8), (2, 39, 2, 0), (3, 9, 3, 3), (3, 15, 3, 4), (3, 18, 3, 5), (3, 21, 3, 6), (3, 25, 3, 7), (3, 28, 3, 8), (3, 31, 3, 0), (3, 35, 3, 1), (3, 39, 3, 2), (3, 43, 6, 0), (3, 61, 5, 1), (3, 63, 5, 0), (3, 70, 6, 2), (3, 77, 6, 12), (3, 118, 3, 9), (3, 121, 3, 10), (3, 124, 3, 11), (4, 14, 4, 2), (4, 20, 4, 3), (4, 24, 4, 0), (4, 28, 4, 1), (4, 40, 7, 0), (4, 43, 7, 1), (4, 72, 6, 0), (4, 75, 7, 2), (4, 89, 4, 4), (4, 97, 6, 3), (4, 109, 6, 4), (4, 121, 6, 6), (4, 128, 6, 12), (4, 132, 1, 1), (4, 147, 6, 10), (4, 174, 1, 0), (5, 9, 5, 1), (5, 19, 5, 0), (5, 27, 6, 12), (5, 43, 6, 2), (6, 9, 6, 1), (6, 15, 6, 2), (6, 18, 6, 3), (6, 21, 6, 4), (6, 24, 6, 5), (6, 27, 6, 7), (6, 30, 6, 8), (6, 33, 6, 9), (6, 36, 6, 11), (6, 42, 6, 12), (6, 46, 6, 0), (6, 50, 6, 6), (6, 53, 6, 10), (7, 11, 7, 6), (7, 15, 7, 5), (7, 40, 7, 4), (7, 43, 7, 3), (7, 49, 7, 1), (7, 52, 7, 0), (7, 64, 7, 2), (8, 9, 8, 0), (8, 16, 8, 2), (8, 20, 8, 3), (8, 28, 8, 4), (8, 32, 8, 6), (8, 41, 8, 7), (8, 45, 8, 8), (8, 48, 8, 10), (8, 54, 8, 11), (8, 63, 8, 12), (8, 70, 8, 13), (8, 74, 8, 1), (8, 92, 4, 0), (8, 95, 8, 5), (8, 98, 4, 1), (8, 104, 8, 9), (8, 122, 6, 2), (8, 125, 0, 1), (8, 128, 6, 4), (8, 135, 0, 2), (8, 145, 0, 0), (8, 152, 0, 3), (8, 162, 0, 4), (8, 165, 0, 5), (8, 168, 0, 6), (8, 171, 0, 7), (8, 174, 0, 8), (8, 177, 0, 9), (8, 180, 0, 10), (8, 273, 6, 12), (8, 277, 1, 1), (8, 291, 2, 0), (8, 297, 2, 1), (8, 303, 6, 10), (8, 315, 2, 2), (8, 318, 2, 3), (8, 322, 2, 4), (8, 336, 6, 0), (8, 339, 1, 0), (8, 348, 6, 6), (9, 9, 9, 1), (9, 15, 9, 3), (9, 18, 9, 4), (9, 21, 9, 5), (9, 24, 9, 6), (9, 27, 9, 7), (9, 30, 9, 8), (9, 33, 9, 9), (9, 36, 9, 10), (9, 39, 9, 11), (9, 42, 9, 12), (9, 45, 9, 13), (9, 48, 9, 14), (9, 51, 9, 15), (9, 54, 9, 16), (9, 57, 9, 26), (9, 61, 9, 33), (9, 65, 9, 34), (9, 68, 9, 37), (9, 71, 9, 38), (9, 74, 9, 39), (9, 77, 9, 40), (9, 80, 9, 41), (9, 83, 9, 42), (9, 86, 9, 43), (9, 89, 9, 44), (9, 92, 9, 45), (9, 95, 9, 46), (9, 98, 9, 49), (9, 101, 9, 51), (9, 104, 9, 54), (9, 107, 9, 70), (9, 110, 9, 71), (9, 113, 9, 72), (9, 116, 9, 73), (9, 119, 9, 74), (9, 122, 9, 75), (9, 125, 9, 76), (9, 129, 9, 77), (9, 132, 9, 78), (9, 135, 9, 79), (9, 138, 9, 0), (9, 141, 9, 2), (9, 144, 9, 19), (9, 147, 9, 18), (9, 154, 9, 20), (9, 157, 9, 21), (9, 167, 9, 22), (9, 192, 9, 23), (9, 195, 9, 24), (9, 212, 9, 29), (9, 238, 9, 17), (9, 257, 9, 28), (9, 282, 9, 27), (9, 288, 9, 25), (9, 295, 9, 69), (9, 298, 9, 48), (9, 301, 9, 36), (9, 310, 9, 30), (9, 313, 9, 31), (9, 316, 9, 32), (9, 324, 9, 35), (9, 396, 9, 50), (9, 411, 9, 52), (9, 415, 9, 53), (9, 443, 9, 56), (9, 446, 9, 55), (9, 449, 9, 58), (9, 452, 9, 59), (9, 455, 9, 61), (9, 462, 9, 63), (9, 465, 9, 60), (9, 468, 9, 62), (9, 471, 9, 64), (9, 474, 9, 57), (9, 477, 9, 65), (9, 480, 9, 66), (9, 486, 9, 67), (9, 489, 9, 68), (9, 517, 9, 47)]
def jLM : List (Nat × Nat × Nat) := [(0, 47, 2), (0, 61, 4), (0, 79, 256), (0, 92, 6), (0, 96, 10), (0, 99, 11), (0, 103, 12), (0, 107, 13), (0, 110, 14), (0, 113, 18), (0, 117, 17), (0, 120, 15), (0, 132, 16), (0, 135, 101), (0, 142, 23), (0, 148, 93), (1, 44, 25), (1, 50, 23), (1, 56, 26), (2, 42, 30), (3, 48, 86), (3, 54, 85), (3, 58, 35), (3, 66, 36), (3, 73, 37), (3, 81, 23), (3, 91, 47), (3, 94, 40), (3, 97, 58), (3, 104, 42), (3, 107, 46), (3, 110, 44), (3, 114, 59), (3, 127, 48), (3, 131, 49), (3, 135, 50), (3, 138, 51), (3, 141, 255), (3, 146, 52), (3, 149, 53), (3, 153, 55), (3, 156, 56), (3, 159, 54), (3, 162, 57), (3, 173, 83), (3, 177, 60), (3, 180, 61), (4, 31, 92), (4, 36, 105), (4, 46, 64), (4, 50, 106), (4, 53, 67), (4, 57, 65), (4, 60, 70), (4, 63, 73), (4, 66, 74), (4, 69, 75), (4, 78, 94), (4, 82, 68), (4, 85, 69), (4, 92, 97), (4, 105, 71), (4, 112, 72), (4, 115, 102), (4, 118, 98), (4, 124, 99), (4, 138, 20), (4, 141, 76), (4, 144, 21), (4, 150, 95), (4, 153, 100), (4, 156, 79), (4, 159, 80), (4, 162, 77), (4, 165, 78), (4, 168, 22), (4, 171, 104), (4, 177, 81), (4, 180, 103), (5, 23, 85), (5, 33, 90), (5, 37, 24), (5, 46, 84), (5, 56, 88), (6, 56, 19), (6, 63, 96), (6, 67, 101), (7, 46, 106), (7, 55, 107), (7, 58, 108), (7, 61, 109), (8, 77, 111), (8, 81, 62), (8, 85, 63), (8, 89, 66), (8, 99, 0), (8, 101, 27), (8, 108, 94), (8, 112, 95), (8, 115, 93), (8, 131, 101), (8, 141, 152), (8, 148, 9), (8, 155, 4), (8, 159, 5), (8, 183, 7), (8, 187, 3), (8, 191, 8), (8, 195, 151), (8, 199, 88), (8, 203, 84), (8, 206, 89), (8, 209, 150), (8, 213, 125), (8, 216, 91), (8, 226, 34), (8, 230, 38), (8, 233, 39), (8, 238, 41), (8, 242, 40), (8, 245, 153), (8, 248, 86), (8, 251, 44), (8, 255, 45), (8, 258, 42), (8, 261, 43), (8, 267, 87), (8, 270, 136), (8, 284, 25), (8, 288, 28), (8, 294, 29), (8, 300, 31), (8, 306, 143), (8, 309, 142), (8, 312, 32), (8, 325, 33), (8, 329, 146), (8, 332, 1), (8, 342, 30), (8, 345, 6), (8, 349, 82), (9, 150, 156), (9, 160, 157), (9, 164, 161), (9, 170, 162), (9, 173, 158), (9, 177, 160), (9, 198, 159), (9, 201, 163), (9, 204, 168), (9, 208, 171), (9, 216, 174), (9, 219, 175), (9, 222, 177), (9, 225, 180), (9, 228, 169), (9, 232, 172), (9, 235, 165), (9, 241, 167), (9, 245, 164), (9, 248, 170), (9, 251, 166), (9, 254, 176), (9, 260, 181), (9, 263, 179), (9, 266, 178), (9, 270, 182), (9, 273, 183), (9, 276, 184), (9, 279, 185), (9, 285, 173), (9, 291, 186), (9, 304, 191), (9, 307, 200), (9, 327, 194), (9, 339, 195), (9, 342, 192), (9, 345, 197), (9, 349, 196), (9, 356, 201), (9, 359, 193), (9, 362, 203), (9, 365, 205), (9, 369, 204), (9, 372, 207), (9, 375, 198), (9, 379, 190), (9, 382, 206), (9, 385, 211), (9, 388, 202), (9, 391, 214), (9, 400, 216), (9, 404, 217), (9, 408, 218), (9, 422, 222), (9, 429, 223), (9, 434, 224), (9, 437, 228), (9, 440, 227), (9, 458, 219), (9, 483, 229), (9, 492, 230), (9, 495, 231), (9, 500, 234), (9, 507, 246), (9, 510, 248), (9, 513, 247), (13, 21, 110), (13, 25, 155), (13, 26, 112), (13, 30, 187), (13, 31, 113), (13, 34, 188), (13, 35, 114), (13, 38, 189), (13, 44, 208), (13, 45, 154), (13, 49, 116), (13, 52, 209), (13, 53, 117), (13, 56, 210), (13, 57, 118), (13, 60, 212), (13, 61, 119), (13, 65, 213), (13, 66, 120), (13, 69, 215), (13, 72, 121), (13, 76, 220), (13, 77, 122), (13, 81, 221), (13, 82, 123), (13, 85, 225), (13, 86, 124), (13, 90, 226), (13, 91, 126), (13, 94, 232), (13, 95, 127), (13, 99, 233), (13, 100, 128), (13, 103, 235), (13, 104, 129), (13, 107, 236), (13, 108, 130), (13, 112, 237), (13, 113, 131), (13, 116, 238), (13, 117, 132), (13, 120, 239), (13, 121, 133), (13, 124, 240), (13, 125, 134), (13, 128, 241), (13, 129, 135), (13, 132, 242), (13, 133, 137), (13, 137, 199), (13, 138, 138), (13, 141, 243), (13, 142, 139), (13, 145, 244), (13, 146, 140), (13, 150, 245), (13, 151, 141), (13, 154, 249), (13, 155, 144), (13, 158, 250), (13, 159, 145), (13, 162, 251), (13, 163, 147), (13, 166, 252), (13, 167, 148), (13, 170, 253), (13, 171, 149), (13, 174, 254)]
def jLN : List (Nat × Nat × Nat) := [(0, 85, 152), (2, 46, 152), (3, 87, 153), (4, 101, 152), (5, 15, 152), (6, 59, 152), (7, 30, 152)]
def jLC : List (Nat × Nat × Nat) := [(3, 103, 536870912), (4, 96, 99999), (7, 67, 1000000), (8, 151, 99999), (8, 220, 999999), (8, 266, 2147483648), (9, 176, 99999), (9, 399, 999999), (9, 506, 2147483648), (11, 265, 1431655765), (11, 266, 858993459), (11, 267, 252645135)]
def jLJ : List (Nat × Nat × Nat) := [(1, 48, 9223372036854775808), (1, 60, 1000000000000), (1, 62, 18446743073709551616), (3, 101, 18446744073709551614), (8, 236, 18446744073709551615), (8, 282, 9223372036854775808), (9, 335, 1000000000000), (9, 337, 18446743073709551616), (9, 354, 9223372036854775808), (9, 394, 15), (9, 418, 2), (9, 420, 1999998), (9, 432, 999999), (9, 498, 18446744073709551615), (9, 504, 18446744073709551614), (13, 70, 4294967295)]
def jLS : List (Nat × Nat × Nat) := [(7, 68, 1001), (9, 181, 1002)]
def jLA : List (Nat × Nat) := [(0, 73)]
def jLX : List (Nat × Nat × Nat) := [(7, 70, 903), (9, 183, 901), (9, 188, 902)]
def jLH : List (Nat × Nat × Nat) := [(0, 127, 911), (3, 165, 910), (3, 170, 911), (5, 50, 910), (7, 34, 911), (8, 221, 911), (9, 319, 911), (9, 331, 913), (9, 426, 912)]
abbrev jmd : jM := (⟨"", "", ""⟩, ⟨#[]⟩, 0, 0, 0, 0, 0)
def jmn (y : Nat) : MethodName := (jMM.getD y jmd).1
def jwF (q : Nat × Nat × Nat × Nat) : Cond := .fieldLink (jon q.1) q.2.1 (jtt q.2.2.1 q.2.2.2).1 (jtt q.2.2.1 q.2.2.2).2.1 (jtt q.2.2.1 q.2.2.2).2.2.1
def jwM (q : Nat × Nat × Nat) : Cond := .methodLink (jon q.1) q.2.1 (jmn q.2.2)
def jwN (q : Nat × Nat × Nat) : Cond := .methodLinkNest (jon q.1) q.2.1 (jmn q.2.2) "HalfHands"
def jwC (q : Nat × Nat × Nat) : Cond := .constant (jon q.1) q.2.1 (Int32.ofNat q.2.2)
def jwJ (q : Nat × Nat × Nat) : Cond := .constantLong (jon q.1) q.2.1 (Int64.ofNat q.2.2)
def jwA (q : Nat × Nat) : Cond := .methodLink (jon q.1) q.2 arraycopyName
def jmh (c : Nat) : MethodName := match c with
  | 910 => Lib.Math.max.name
  | 911 => Lib.Math.min.name
  | 912 => Lib.MathLoose.min_long.x
  | _ => Lib.MathLoose.abs_long.x
def jwH (q : Nat × Nat × Nat) : Cond := .methodLink (jon q.1) q.2.1 (jmh q.2.2)
theorem jw_of {ws : List Cond} (ps : List Nat) (h : ws = ps.filterMap (fun i => lw_tbl[i]?)) : ∀ w ∈ ws, w ∈ lw_tbl := by
  intro w hw
  rw [h] at hw
  obtain ⟨i, -, hi⟩ := List.mem_filterMap.mp hw
  exact List.mem_of_getElem? hi
theorem jws_of {ws : List Cond} (h : ∀ w ∈ ws, w ∈ lw_tbl) (hg : ws.all goodWord = true) : ∀ w ∈ ws, w ∈ jws := fun w hw => List.mem_filter.mpr ⟨h w hw, List.all_eq_true.mp hg w hw⟩
set_option maxRecDepth 100000 in
theorem jwF_t : ∀ w ∈ jLF.map jwF, w ∈ lw_tbl := jw_of [374, 376, 380, 382, 384, 386, 388, 390, 392, 395, 394, 215, 219, 221, 223, 378, 396, 372, 207, 198, 212, 232, 205, 168, 169, 170, 171, 172, 173, 161, 167, 164, 493, 495, 497, 499, 501, 502, 503, 504, 491, 450, 451, 452, 453, 454, 455, 447, 448, 449, 196, 435, 433, 202, 229, 456, 457, 458, 352, 353, 348, 350, 322, 324, 197, 327, 354, 208, 211, 216, 231, 165, 225, 162, 434, 432, 230, 204, 200, 201, 206, 209, 213, 218, 220, 222, 227, 228, 195, 214, 224, 331, 330, 329, 328, 325, 323, 326, 524, 526, 527, 528, 530, 531, 532, 534, 535, 536, 537, 525, 349, 529, 351, 533, 203, 375, 210, 377, 373, 379, 381, 383, 385, 387, 389, 391, 393, 233, 166, 492, 494, 226, 496, 498, 500, 199, 163, 217, 1377, 1379, 1380, 1381, 1382, 1383, 1384, 1385, 1386, 1387, 1388, 1389, 1390, 1391, 1392, 1402, 1409, 1410, 1413, 1414, 1415, 1416, 1417, 1418, 1419, 1420, 1421, 1422, 1425, 1427, 1430, 1446, 1447, 1448, 1449, 1450, 1451, 1452, 1453, 1454, 1455, 1376, 1378, 1395, 1394, 1396, 1397, 1398, 1399, 1400, 1405, 1393, 1404, 1403, 1401, 1445, 1424, 1412, 1406, 1407, 1408, 1411, 1426, 1428, 1429, 1432, 1431, 1434, 1435, 1437, 1439, 1436, 1438, 1440, 1433, 1441, 1442, 1443, 1444, 1423] (by decide +kernel)
set_option maxRecDepth 100000 in
theorem jwM_t : ∀ w ∈ jLM.map jwM, w ∈ lw_tbl := jw_of [812, 822, 819, 941, 849, 853, 857, 875, 861, 866, 870, 879, 883, 874, 891, 887, 895, 975, 899, 1232, 1016, 1024, 1025, 1029, 1033, 1036, 1044, 1108, 1112, 1180, 1155, 1163, 1116, 1048, 1052, 1055, 1058, 1062, 1068, 1081, 1089, 1072, 1076, 1085, 1128, 1120, 1124, 583, 591, 688, 692, 684, 714, 718, 743, 751, 796, 693, 700, 704, 709, 722, 726, 730, 739, 747, 755, 759, 792, 800, 804, 763, 775, 786, 767, 771, 789, 779, 783, 1020, 967, 971, 1000, 1002, 587, 697, 734, 598, 605, 609, 614, 571, 579, 676, 680, 808, 826, 838, 839, 909, 1354, 844, 845, 911, 916, 925, 933, 937, 949, 963, 980, 984, 953, 992, 996, 1012, 1037, 1095, 1104, 1136, 1145, 1150, 1151, 1159, 1168, 1176, 1186, 1194, 1203, 1208, 1216, 1228, 1236, 1240, 1244, 1248, 1261, 1265, 1281, 1282, 957, 1633, 1637, 1640, 1647, 1651, 1655, 1629, 1663, 1679, 1667, 1671, 1694, 1710, 1714, 1675, 1690, 1746, 1682, 1686, 1698, 1702, 1706, 1718, 1726, 1730, 1722, 1734, 1738, 1742, 1659, 1750, 1753, 1757, 1782, 1789, 1839, 1778, 1785, 1761, 1814, 1827, 1819, 1823, 1831, 1835, 1802, 1810, 1851, 1863, 1867, 1880, 1875, 1885, 1907, 1901, 1897, 1931, 1927, 1935, 1939, 1943, 1923, 1956, 2006, 2010, 2014, 567, 1621, 575, 1625, 830, 1765, 834, 1769, 1798, 1617, 840, 1806, 905, 1843, 912, 1847, 921, 1855, 929, 1859, 945, 1871, 976, 1889, 988, 1893, 1004, 1915, 1008, 1919, 1099, 1947, 1132, 1952, 1137, 1960, 1141, 1965, 1146, 1969, 1164, 1973, 1172, 1977, 1181, 1981, 1190, 1986, 1198, 1773, 1204, 1990, 1212, 1994, 1220, 1998, 1224, 2002, 1253, 2018, 1257, 2022, 1269, 2026, 1273, 2030, 1277, 2034] (by decide +kernel)
set_option maxRecDepth 100000 in
theorem jwN_t : ∀ w ∈ jLN.map jwN, w ∈ lw_tbl := jw_of [920, 1252, 1041, 708, 961, 738, 602] (by decide +kernel)
set_option maxRecDepth 100000 in
theorem jwC_t : ∀ w ∈ jLC.map jwC, w ∈ lw_tbl := jw_of [1080, 713, 613, 910, 962, 1185, 1654, 1879, 1985, 1065, 1066, 1067] (by decide +kernel)
set_option maxRecDepth 100000 in
theorem jwJ_t : ∀ w ∈ jLJ.map jwJ, w ∈ lw_tbl := jw_of [903, 902, 904, 1131, 1103, 1202, 1796, 1797, 1777, 1884, 1905, 1906, 1914, 1951, 1964, 2038] (by decide +kernel)
set_option maxRecDepth 100000 in
theorem jwA_t : ∀ w ∈ jLA.map jwA, w ∈ lw_tbl := jw_of [816] (by decide +kernel)
set_option maxRecDepth 100000 in
theorem jwH_t : ∀ w ∈ jLH.map jwH, w ∈ lw_tbl := jw_of [865, 1093, 1094, 1001, 595, 1003, 1818, 1793, 1911] (by decide +kernel)
theorem jwF_g : ∀ w ∈ jLF.map jwF, w ∈ jws := jws_of jwF_t (by decide +kernel)
theorem jwM_g : ∀ w ∈ jLM.map jwM, w ∈ jws := jws_of jwM_t (by decide +kernel)
theorem jwC_g : ∀ w ∈ jLC.map jwC, w ∈ jws := jws_of jwC_t (by decide +kernel)
theorem jwJ_g : ∀ w ∈ jLJ.map jwJ, w ∈ jws := jws_of jwJ_t (by decide +kernel)
theorem jwA_g : ∀ w ∈ jLA.map jwA, w ∈ jws := jws_of jwA_t (by decide +kernel)
theorem jwH_g : ∀ w ∈ jLH.map jwH, w ∈ jws := jws_of jwH_t (by decide +kernel)
set_option maxRecDepth 100000 in
theorem jlay_0 : ∀ w ∈ u_ws jR0 jT0 14, w ∈ jws := jws_of (jw_of [397, 399, 401, 403, 405, 407, 409, 411, 413, 415, 417, 419, 421, 423] (by decide +kernel)) (by decide +kernel)
theorem jnm_0 : ∀ a, a < 14 → ∀ b, b < 14 → a ≠ b → (jT0 a).2.1 ≠ (jT0 b).2.1 := by decide +kernel
theorem jty_0 : ∀ k, k < 14 → parseFieldDescriptor (jT0 k).2.2.1 = some (jY0 k) := by decide +kernel
set_option maxRecDepth 100000 in
theorem jlay_1 : ∀ w ∈ u_ws jR1 jT1 9, w ∈ jws := jws_of (jw_of [174, 176, 178, 180, 182, 184, 186, 188, 190] (by decide +kernel)) (by decide +kernel)
theorem jnm_1 : ∀ a, a < 9 → ∀ b, b < 9 → a ≠ b → (jT1 a).2.1 ≠ (jT1 b).2.1 := by decide +kernel
theorem jty_1 : ∀ k, k < 9 → parseFieldDescriptor (jT1 k).2.2.1 = some (jY1 k) := by decide +kernel
set_option maxRecDepth 100000 in
theorem jlay_2 : ∀ w ∈ u_ws jR2 jT2 9, w ∈ jws := jws_of (jw_of [505, 507, 509, 511, 513, 515, 517, 519, 521] (by decide +kernel)) (by decide +kernel)
theorem jnm_2 : ∀ a, a < 9 → ∀ b, b < 9 → a ≠ b → (jT2 a).2.1 ≠ (jT2 b).2.1 := by decide +kernel
theorem jty_2 : ∀ k, k < 9 → parseFieldDescriptor (jT2 k).2.2.1 = some (jY2 k) := by decide +kernel
set_option maxRecDepth 100000 in
theorem jlay_3 : ∀ w ∈ u_ws jR3 jT3 12, w ∈ jws := jws_of (jw_of [459, 461, 463, 465, 467, 469, 471, 473, 475, 477, 479, 481] (by decide +kernel)) (by decide +kernel)
theorem jnm_3 : ∀ a, a < 12 → ∀ b, b < 12 → a ≠ b → (jT3 a).2.1 ≠ (jT3 b).2.1 := by decide +kernel
theorem jty_3 : ∀ k, k < 12 → parseFieldDescriptor (jT3 k).2.2.1 = some (jY3 k) := by decide +kernel
set_option maxRecDepth 100000 in
theorem jlay_4 : ∀ w ∈ u_ws jR4 jT4 5, w ∈ jws := jws_of (jw_of [355, 357, 359, 361, 363] (by decide +kernel)) (by decide +kernel)
theorem jnm_4 : ∀ a, a < 5 → ∀ b, b < 5 → a ≠ b → (jT4 a).2.1 ≠ (jT4 b).2.1 := by decide +kernel
theorem jty_4 : ∀ k, k < 5 → parseFieldDescriptor (jT4 k).2.2.1 = some (jY4 k) := by decide +kernel
set_option maxRecDepth 100000 in
theorem jlay_5 : ∀ w ∈ u_ws jR5 jT5 2, w ∈ jws := jws_of (jw_of [436, 438] (by decide +kernel)) (by decide +kernel)
theorem jnm_5 : ∀ a, a < 2 → ∀ b, b < 2 → a ≠ b → (jT5 a).2.1 ≠ (jT5 b).2.1 := by decide +kernel
theorem jty_5 : ∀ k, k < 2 → parseFieldDescriptor (jT5 k).2.2.1 = some (jY5 k) := by decide +kernel
set_option maxRecDepth 100000 in
theorem jlay_6 : ∀ w ∈ u_ws jR6 jT6 13, w ∈ jws := jws_of (jw_of [234, 236, 238, 240, 242, 244, 246, 248, 250, 252, 254, 256, 258] (by decide +kernel)) (by decide +kernel)
theorem jnm_6 : ∀ a, a < 13 → ∀ b, b < 13 → a ≠ b → (jT6 a).2.1 ≠ (jT6 b).2.1 := by decide +kernel
theorem jty_6 : ∀ k, k < 13 → parseFieldDescriptor (jT6 k).2.2.1 = some (jY6 k) := by decide +kernel
set_option maxRecDepth 100000 in
theorem jlay_7 : ∀ w ∈ u_ws jR7 jT7 7, w ∈ jws := jws_of (jw_of [332, 334, 336, 338, 340, 342, 344] (by decide +kernel)) (by decide +kernel)
theorem jnm_7 : ∀ a, a < 7 → ∀ b, b < 7 → a ≠ b → (jT7 a).2.1 ≠ (jT7 b).2.1 := by decide +kernel
theorem jty_7 : ∀ k, k < 7 → parseFieldDescriptor (jT7 k).2.2.1 = some (jY7 k) := by decide +kernel
set_option maxRecDepth 100000 in
theorem jlay_8 : ∀ w ∈ u_ws jR8 jT8 14, w ∈ jws := jws_of (jw_of [538, 540, 542, 544, 546, 548, 550, 552, 554, 556, 558, 560, 562, 564] (by decide +kernel)) (by decide +kernel)
theorem jnm_8 : ∀ a, a < 14 → ∀ b, b < 14 → a ≠ b → (jT8 a).2.1 ≠ (jT8 b).2.1 := by decide +kernel
theorem jty_8 : ∀ k, k < 14 → parseFieldDescriptor (jT8 k).2.2.1 = some (jY8 k) := by decide +kernel
set_option maxRecDepth 100000 in
theorem jlay_9 : ∀ w ∈ u_ws jR9 jT9 80, w ∈ jws := jws_of (jw_of [1456, 1458, 1460, 1462, 1464, 1466, 1468, 1470, 1472, 1474, 1476, 1478, 1480, 1482, 1484, 1486, 1488, 1490, 1492, 1494, 1496, 1498, 1500, 1502, 1504, 1506, 1508, 1510, 1512, 1514, 1516, 1518, 1520, 1522, 1524, 1526, 1528, 1530, 1532, 1534, 1536, 1538, 1540, 1542, 1544, 1546, 1548, 1550, 1552, 1554, 1556, 1558, 1560, 1562, 1564, 1566, 1568, 1570, 1572, 1574, 1576, 1578, 1580, 1582, 1584, 1586, 1588, 1590, 1592, 1594, 1596, 1598, 1600, 1602, 1604, 1606, 1608, 1610, 1612, 1614] (by decide +kernel)) (by decide +kernel)
theorem jnm_9 : ∀ a, a < 80 → ∀ b, b < 80 → a ≠ b → (jT9 a).2.1 ≠ (jT9 b).2.1 := by decide +kernel
theorem jty_9 : ∀ k, k < 80 → parseFieldDescriptor (jT9 k).2.2.1 = some (jY9 k) := by decide +kernel
set_option maxRecDepth 100000 in
theorem jmI_t : ∀ w ∈ ([0, 1, 2, 3, 4, 5, 6, 7, 8, 9, 10, 11, 12, 13, 14, 15, 16, 17, 18, 19, 20, 21, 22, 23, 24, 25, 26, 27, 28, 29, 30, 31, 32, 33, 34, 35, 36, 37, 38, 39, 40, 41, 42, 43, 44, 45, 46, 47, 48, 49, 50, 51, 52, 53, 54, 55, 56, 57, 58, 59, 60, 61, 62, 63, 64, 65, 66, 67, 68, 69, 70, 71, 72, 73, 74, 75, 76, 77, 78, 79, 80, 81, 82, 83, 84, 85, 86, 87, 88, 89, 90, 91, 92, 93, 94, 95, 96, 97, 98, 99, 100, 101, 102, 103, 104, 105, 106, 107, 108, 109, 110, 111, 112, 113, 114, 115, 116, 117, 118, 119, 120, 121, 122, 123, 124, 125, 126, 127, 128, 129, 130, 131, 132, 133, 134, 135, 136, 137, 138, 139, 140, 141, 142, 143, 144, 145, 146, 147, 148, 149, 150, 151, 152, 153, 154, 155, 156, 157, 158, 159, 160, 161, 162, 163, 164, 165, 166, 167, 168, 169, 170, 171, 172, 173, 174, 175, 176, 177, 178, 179, 180, 181, 182, 183, 184, 185, 186, 187, 188, 189, 190, 191, 192, 193, 194, 195, 196, 197, 198, 199, 200, 201, 202, 203, 204, 205, 206, 207, 208, 209, 210, 211, 212, 213, 214, 215, 216, 217, 218, 219, 220, 221, 222, 223, 224, 225, 226, 227, 228, 229, 230, 231, 232, 233, 234, 235, 236, 237, 238, 239, 240, 241, 242, 243, 244, 245, 246, 247, 248, 249, 250, 251, 252, 253, 254, 255, 256].map fun y => Cond.initialized (jmn y).cls), w ∈ lw_tbl := jw_of [126, 126, 126, 126, 126, 126, 126, 126, 126, 126, 126, 126, 126, 126, 126, 126, 126, 126, 126, 119, 119, 119, 119, 119, 119, 119, 119, 129, 129, 129, 129, 129, 129, 129, 128, 128, 128, 128, 128, 128, 128, 128, 128, 128, 128, 128, 128, 128, 128, 128, 128, 128, 128, 128, 128, 128, 128, 128, 128, 128, 128, 128, 120, 120, 120, 120, 120, 120, 120, 120, 120, 120, 120, 120, 120, 120, 120, 120, 120, 120, 120, 120, 127, 127, 127, 127, 127, 127, 127, 127, 127, 127, 118, 118, 118, 118, 118, 118, 118, 118, 118, 118, 118, 121, 121, 121, 121, 121, 121, 121, 117, 117, 117, 117, 117, 117, 117, 117, 117, 117, 117, 117, 117, 117, 117, 117, 117, 117, 117, 117, 117, 117, 117, 117, 117, 117, 117, 117, 117, 117, 117, 117, 117, 117, 117, 117, 117, 117, 117, 117, 117, 117, 117, 117, 130, 130, 130, 130, 130, 130, 130, 130, 130, 130, 130, 130, 130, 130, 130, 130, 130, 130, 130, 130, 130, 130, 130, 130, 130, 130, 130, 130, 130, 130, 130, 130, 130, 130, 130, 130, 130, 130, 130, 130, 130, 130, 130, 130, 130, 130, 130, 130, 130, 130, 130, 130, 130, 130, 130, 130, 130, 130, 130, 130, 130, 130, 130, 130, 130, 130, 130, 130, 130, 130, 130, 130, 130, 130, 130, 130, 130, 130, 130, 130, 130, 130, 130, 130, 130, 130, 130, 130, 130, 130, 130, 130, 130, 130, 130, 130, 130, 130, 130, 130, 130, 140, 134] (by decide +kernel)
theorem jmI_g : ∀ w ∈ ([0, 1, 2, 3, 4, 5, 6, 7, 8, 9, 10, 11, 12, 13, 14, 15, 16, 17, 18, 19, 20, 21, 22, 23, 24, 25, 26, 27, 28, 29, 30, 31, 32, 33, 34, 35, 36, 37, 38, 39, 40, 41, 42, 43, 44, 45, 46, 47, 48, 49, 50, 51, 52, 53, 54, 55, 56, 57, 58, 59, 60, 61, 62, 63, 64, 65, 66, 67, 68, 69, 70, 71, 72, 73, 74, 75, 76, 77, 78, 79, 80, 81, 82, 83, 84, 85, 86, 87, 88, 89, 90, 91, 92, 93, 94, 95, 96, 97, 98, 99, 100, 101, 102, 103, 104, 105, 106, 107, 108, 109, 110, 111, 112, 113, 114, 115, 116, 117, 118, 119, 120, 121, 122, 123, 124, 125, 126, 127, 128, 129, 130, 131, 132, 133, 134, 135, 136, 137, 138, 139, 140, 141, 142, 143, 144, 145, 146, 147, 148, 149, 150, 151, 152, 153, 154, 155, 156, 157, 158, 159, 160, 161, 162, 163, 164, 165, 166, 167, 168, 169, 170, 171, 172, 173, 174, 175, 176, 177, 178, 179, 180, 181, 182, 183, 184, 185, 186, 187, 188, 189, 190, 191, 192, 193, 194, 195, 196, 197, 198, 199, 200, 201, 202, 203, 204, 205, 206, 207, 208, 209, 210, 211, 212, 213, 214, 215, 216, 217, 218, 219, 220, 221, 222, 223, 224, 225, 226, 227, 228, 229, 230, 231, 232, 233, 234, 235, 236, 237, 238, 239, 240, 241, 242, 243, 244, 245, 246, 247, 248, 249, 250, 251, 252, 253, 254, 255, 256].map fun y => Cond.initialized (jmn y).cls), w ∈ jws := jws_of jmI_t (by decide +kernel)
set_option maxRecDepth 100000 in
theorem jmS_t : ∀ w ∈ ([26, 37, 49, 50, 77, 83, 96, 103, 104, 152, 153, 157, 158, 168, 186, 194, 255, 256].map fun y => Cond.static (jmn y)), w ∈ lw_tbl := jw_of [900, 1034, 1053, 1056, 787, 1129, 698, 784, 790, 603, 1042, 1638, 1652, 1680, 1751, 1783, 1063, 820] (by decide +kernel)
theorem jmS_g : ∀ w ∈ ([26, 37, 49, 50, 77, 83, 96, 103, 104, 152, 153, 157, 158, 168, 186, 194, 255, 256].map fun y => Cond.static (jmn y)), w ∈ jws := jws_of jmS_t (by decide +kernel)
set_option maxRecDepth 100000 in
theorem jmV_t : ∀ w ∈ ([0, 1, 2, 3, 4, 5, 6, 7, 8, 9, 10, 11, 12, 13, 14, 15, 16, 17, 18, 19, 20, 21, 22, 23, 24, 25, 27, 28, 29, 30, 31, 32, 33, 34, 35, 36, 38, 39, 40, 41, 42, 43, 44, 45, 46, 47, 48, 51, 52, 53, 54, 55, 56, 57, 58, 59, 60, 61, 62, 63, 64, 65, 66, 67, 68, 69, 70, 71, 72, 73, 74, 75, 76, 78, 79, 80, 81, 82, 84, 85, 86, 87, 88, 89, 90, 91, 92, 93, 94, 95, 97, 98, 99, 100, 101, 102, 105, 106, 107, 108, 109, 110, 111, 112, 113, 114, 115, 116, 117, 118, 119, 120, 121, 122, 123, 124, 125, 126, 127, 128, 129, 130, 131, 132, 133, 134, 135, 136, 137, 138, 139, 140, 141, 142, 143, 144, 145, 146, 147, 148, 149, 150, 151, 154, 155, 156, 159, 160, 161, 162, 163, 164, 165, 166, 167, 169, 170, 171, 172, 173, 174, 175, 176, 177, 178, 179, 180, 181, 182, 183, 184, 185, 187, 188, 189, 190, 191, 192, 193, 195, 196, 197, 198, 199, 200, 201, 202, 203, 204, 205, 206, 207, 208, 209, 210, 211, 212, 213, 214, 215, 216, 217, 218, 219, 220, 221, 222, 223, 224, 225, 226, 227, 228, 229, 230, 231, 232, 233, 234, 235, 236, 237, 238, 239, 240, 241, 242, 243, 244, 245, 246, 247, 248, 249, 250, 251, 252, 253, 254].map fun y => Cond.instanceMethod (jmn y)), w ∈ lw_tbl := jw_of [809, 1266, 814, 934, 823, 917, 942, 926, 938, 846, 851, 855, 859, 877, 863, 881, 885, 872, 868, 588, 756, 793, 772, 892, 972, 896, 827, 1209, 1217, 1233, 1229, 1245, 1249, 1013, 1027, 1031, 1038, 1096, 1109, 1105, 1169, 1177, 1152, 1160, 1157, 1046, 1050, 1060, 1070, 1083, 1078, 1091, 1074, 1087, 1114, 1118, 1122, 1126, 580, 677, 690, 716, 681, 686, 702, 706, 720, 724, 728, 745, 753, 798, 761, 769, 765, 777, 781, 958, 981, 1021, 1017, 1187, 964, 985, 969, 997, 584, 888, 694, 801, 710, 740, 748, 805, 735, 731, 592, 599, 607, 611, 616, 568, 573, 576, 831, 835, 1289, 841, 906, 913, 922, 930, 946, 977, 989, 1005, 994, 1009, 1100, 1133, 1138, 1142, 1147, 1165, 1173, 1182, 1191, 1196, 1199, 1205, 1213, 1221, 1225, 1242, 1238, 1254, 1258, 1263, 1270, 1274, 1278, 955, 951, 1618, 1622, 1635, 1631, 1657, 1642, 1649, 1665, 1688, 1748, 1704, 1684, 1677, 1700, 1669, 1692, 1661, 1673, 1696, 1708, 1712, 1732, 1728, 1716, 1720, 1724, 1736, 1740, 1744, 1626, 1766, 1770, 1804, 1755, 1841, 1816, 1791, 1787, 1780, 1837, 1774, 1759, 1763, 1865, 1829, 1825, 1821, 1812, 1833, 1799, 1807, 1844, 1853, 1848, 1856, 1869, 1860, 1882, 1877, 1887, 1937, 1872, 1890, 1909, 1903, 1899, 1894, 1916, 1929, 1933, 1941, 1945, 1925, 1920, 1948, 1958, 1953, 1961, 1966, 1970, 1974, 1978, 1982, 1987, 1991, 1995, 1999, 2008, 2016, 2012, 2003, 2019, 2023, 2027, 2031, 2035] (by decide +kernel)
theorem jmV_g : ∀ w ∈ ([0, 1, 2, 3, 4, 5, 6, 7, 8, 9, 10, 11, 12, 13, 14, 15, 16, 17, 18, 19, 20, 21, 22, 23, 24, 25, 27, 28, 29, 30, 31, 32, 33, 34, 35, 36, 38, 39, 40, 41, 42, 43, 44, 45, 46, 47, 48, 51, 52, 53, 54, 55, 56, 57, 58, 59, 60, 61, 62, 63, 64, 65, 66, 67, 68, 69, 70, 71, 72, 73, 74, 75, 76, 78, 79, 80, 81, 82, 84, 85, 86, 87, 88, 89, 90, 91, 92, 93, 94, 95, 97, 98, 99, 100, 101, 102, 105, 106, 107, 108, 109, 110, 111, 112, 113, 114, 115, 116, 117, 118, 119, 120, 121, 122, 123, 124, 125, 126, 127, 128, 129, 130, 131, 132, 133, 134, 135, 136, 137, 138, 139, 140, 141, 142, 143, 144, 145, 146, 147, 148, 149, 150, 151, 154, 155, 156, 159, 160, 161, 162, 163, 164, 165, 166, 167, 169, 170, 171, 172, 173, 174, 175, 176, 177, 178, 179, 180, 181, 182, 183, 184, 185, 187, 188, 189, 190, 191, 192, 193, 195, 196, 197, 198, 199, 200, 201, 202, 203, 204, 205, 206, 207, 208, 209, 210, 211, 212, 213, 214, 215, 216, 217, 218, 219, 220, 221, 222, 223, 224, 225, 226, 227, 228, 229, 230, 231, 232, 233, 234, 235, 236, 237, 238, 239, 240, 241, 242, 243, 244, 245, 246, 247, 248, 249, 250, 251, 252, 253, 254].map fun y => Cond.instanceMethod (jmn y)), w ∈ jws := jws_of jmV_t (by decide +kernel)
set_option maxRecDepth 100000 in
theorem jmL_t : ∀ w ∈ ([0, 1, 2, 3, 4, 5, 6, 7, 8, 9, 10, 11, 12, 13, 14, 15, 16, 17, 18, 19, 20, 21, 22, 23, 24, 25, 27, 28, 29, 30, 31, 32, 33, 34, 35, 36, 38, 39, 40, 41, 42, 43, 44, 45, 46, 47, 48, 51, 52, 53, 54, 55, 56, 57, 58, 59, 60, 61, 62, 63, 64, 65, 66, 67, 68, 69, 70, 71, 72, 73, 74, 75, 76, 78, 79, 80, 81, 82, 84, 85, 86, 87, 88, 89, 90, 91, 92, 93, 94, 95, 97, 98, 99, 100, 101, 102, 105, 106, 107, 108, 109, 110, 111, 112, 113, 114, 115, 116, 117, 118, 119, 120, 121, 122, 123, 124, 125, 126, 127, 128, 129, 130, 131, 132, 133, 134, 135, 136, 137, 138, 139, 140, 141, 142, 143, 144, 145, 146, 147, 148, 149, 150, 151, 154, 155, 156, 159, 160, 161, 162, 163, 164, 165, 166, 167, 169, 170, 171, 172, 173, 174, 175, 176, 177, 178, 179, 180, 181, 182, 183, 184, 185, 187, 188, 189, 190, 191, 192, 193, 195, 196, 197, 198, 199, 200, 201, 202, 203, 204, 205, 206, 207, 208, 209, 210, 211, 212, 213, 214, 215, 216, 217, 218, 219, 220, 221, 222, 223, 224, 225, 226, 227, 228, 229, 230, 231, 232, 233, 234, 235, 236, 237, 238, 239, 240, 241, 242, 243, 244, 245, 246, 247, 248, 249, 250, 251, 252, 253, 254].map fun y => Cond.selects (jmn y).cls (jmn y) (jmn y)), w ∈ lw_tbl := jw_of [810, 1267, 20, 935, 824, 918, 943, 927, 939, 847, 21, 22, 23, 27, 24, 28, 29, 26, 25, 589, 757, 794, 773, 893, 973, 897, 828, 1210, 1218, 1234, 1230, 1246, 1250, 1014, 34, 35, 1039, 1097, 1110, 1106, 1170, 1178, 1153, 1161, 49, 36, 37, 38, 39, 42, 41, 44, 40, 43, 45, 46, 47, 48, 581, 678, 5, 8, 682, 4, 6, 7, 9, 10, 11, 12, 13, 19, 14, 16, 15, 17, 18, 959, 982, 1022, 1018, 1188, 965, 986, 32, 998, 585, 889, 695, 802, 711, 741, 749, 806, 736, 732, 593, 600, 1, 2, 3, 569, 0, 577, 832, 836, 1290, 842, 907, 914, 923, 931, 947, 978, 990, 1006, 33, 1010, 1101, 1134, 1139, 1143, 1148, 1166, 1174, 1183, 1192, 50, 1200, 1206, 1214, 1222, 1226, 52, 51, 1255, 1259, 53, 1271, 1275, 1279, 31, 30, 1619, 1623, 56, 55, 59, 57, 58, 61, 66, 81, 70, 65, 64, 69, 62, 67, 60, 63, 68, 71, 72, 77, 76, 73, 74, 75, 78, 79, 80, 1627, 1767, 1771, 88, 82, 96, 90, 87, 86, 85, 95, 1775, 83, 84, 98, 93, 92, 91, 89, 94, 1800, 1808, 1845, 97, 1849, 1857, 99, 1861, 101, 100, 102, 109, 1873, 1891, 105, 104, 103, 1895, 1917, 107, 108, 110, 111, 106, 1921, 1949, 112, 1954, 1962, 1967, 1971, 1975, 1979, 1983, 1988, 1992, 1996, 2000, 113, 115, 114, 2004, 2020, 2024, 2028, 2032, 2036] (by decide +kernel)
theorem jmL_g : ∀ w ∈ ([0, 1, 2, 3, 4, 5, 6, 7, 8, 9, 10, 11, 12, 13, 14, 15, 16, 17, 18, 19, 20, 21, 22, 23, 24, 25, 27, 28, 29, 30, 31, 32, 33, 34, 35, 36, 38, 39, 40, 41, 42, 43, 44, 45, 46, 47, 48, 51, 52, 53, 54, 55, 56, 57, 58, 59, 60, 61, 62, 63, 64, 65, 66, 67, 68, 69, 70, 71, 72, 73, 74, 75, 76, 78, 79, 80, 81, 82, 84, 85, 86, 87, 88, 89, 90, 91, 92, 93, 94, 95, 97, 98, 99, 100, 101, 102, 105, 106, 107, 108, 109, 110, 111, 112, 113, 114, 115, 116, 117, 118, 119, 120, 121, 122, 123, 124, 125, 126, 127, 128, 129, 130, 131, 132, 133, 134, 135, 136, 137, 138, 139, 140, 141, 142, 143, 144, 145, 146, 147, 148, 149, 150, 151, 154, 155, 156, 159, 160, 161, 162, 163, 164, 165, 166, 167, 169, 170, 171, 172, 173, 174, 175, 176, 177, 178, 179, 180, 181, 182, 183, 184, 185, 187, 188, 189, 190, 191, 192, 193, 195, 196, 197, 198, 199, 200, 201, 202, 203, 204, 205, 206, 207, 208, 209, 210, 211, 212, 213, 214, 215, 216, 217, 218, 219, 220, 221, 222, 223, 224, 225, 226, 227, 228, 229, 230, 231, 232, 233, 234, 235, 236, 237, 238, 239, 240, 241, 242, 243, 244, 245, 246, 247, 248, 249, 250, 251, 252, 253, 254].map fun y => Cond.selects (jmn y).cls (jmn y) (jmn y)), w ∈ jws := jws_of jmL_t (by decide +kernel)
def jwk (M : jM) : Cond := .code M.1 M.2.1 M.2.2.1 (j_rt M.2.2.2.1)
set_option maxRecDepth 100000 in
theorem jmK_0 : ∀ w ∈ [jm_0, jm_1, jm_2, jm_3, jm_4, jm_5, jm_6, jm_7, jm_8, jm_9, jm_10, jm_11, jm_12, jm_13, jm_14, jm_15, jm_16, jm_17, jm_18, jm_19, jm_20, jm_21, jm_22, jm_23, jm_24, jm_25, jm_26, jm_27, jm_28, jm_29].map jwk, w ∈ lw_tbl := jw_of [811, 1268, 815, 936, 825, 919, 944, 928, 940, 848, 852, 856, 860, 878, 864, 882, 886, 873, 869, 590, 758, 795, 774, 894, 974, 898, 901, 829, 1211, 1219] rfl
set_option maxRecDepth 100000 in
theorem jmK_1 : ∀ w ∈ [jm_30, jm_31, jm_32, jm_33, jm_34, jm_35, jm_36, jm_37, jm_38, jm_39, jm_40, jm_41, jm_42, jm_43, jm_44, jm_45, jm_46, jm_47, jm_48, jm_49, jm_50, jm_51, jm_52, jm_53, jm_54, jm_55, jm_56, jm_57, jm_58, jm_59].map jwk, w ∈ lw_tbl := jw_of [1235, 1231, 1247, 1251, 1015, 1028, 1032, 1035, 1040, 1098, 1111, 1107, 1171, 1179, 1154, 1162, 1158, 1047, 1051, 1054, 1057, 1061, 1071, 1084, 1079, 1092, 1075, 1088, 1115, 1119] rfl
set_option maxRecDepth 100000 in
theorem jmK_2 : ∀ w ∈ [jm_60, jm_61, jm_62, jm_63, jm_64, jm_65, jm_66, jm_67, jm_68, jm_69, jm_70, jm_71, jm_72, jm_73, jm_74, jm_75, jm_76, jm_77, jm_78, jm_79, jm_80, jm_81, jm_82, jm_83, jm_84, jm_85, jm_86, jm_87, jm_88, jm_89].map jwk, w ∈ lw_tbl := jw_of [1123, 1127, 582, 679, 691, 717, 683, 687, 703, 707, 721, 725, 729, 746, 754, 799, 762, 788, 770, 766, 778, 782, 960, 1130, 983, 1023, 1019, 1189, 966, 987] rfl
set_option maxRecDepth 100000 in
theorem jmK_3 : ∀ w ∈ [jm_90, jm_91, jm_92, jm_93, jm_94, jm_95, jm_96, jm_97, jm_98, jm_99, jm_100, jm_101, jm_102, jm_103, jm_104, jm_105, jm_106, jm_107, jm_108, jm_109, jm_110, jm_111, jm_112, jm_113, jm_114, jm_115, jm_116, jm_117, jm_118, jm_119].map jwk, w ∈ lw_tbl := jw_of [970, 999, 586, 890, 696, 803, 699, 712, 742, 750, 807, 737, 733, 785, 791, 594, 601, 608, 612, 617, 570, 574, 578, 833, 837, 1291, 843, 908, 915, 924] rfl
set_option maxRecDepth 100000 in
theorem jmK_4 : ∀ w ∈ [jm_120, jm_121, jm_122, jm_123, jm_124, jm_125, jm_126, jm_127, jm_128, jm_129, jm_130, jm_131, jm_132, jm_133, jm_134, jm_135, jm_136, jm_137, jm_138, jm_139, jm_140, jm_141, jm_142, jm_143, jm_144, jm_145, jm_146, jm_147, jm_148, jm_149].map jwk, w ∈ lw_tbl := jw_of [932, 948, 979, 991, 1007, 995, 1011, 1102, 1135, 1140, 1144, 1149, 1167, 1175, 1184, 1193, 1197, 1201, 1207, 1215, 1223, 1227, 1243, 1239, 1256, 1260, 1264, 1272, 1276, 1280] rfl
set_option maxRecDepth 100000 in
theorem jmK_5 : ∀ w ∈ [jm_150, jm_151, jm_152, jm_153, jm_154, jm_155, jm_156, jm_157, jm_158, jm_159, jm_160, jm_161, jm_162, jm_163, jm_164, jm_165, jm_166, jm_167, jm_168, jm_169, jm_170, jm_171, jm_172, jm_173, jm_174, jm_175, jm_176, jm_177, jm_178, jm_179].map jwk, w ∈ lw_tbl := jw_of [956, 952, 604, 1043, 1620, 1624, 1636, 1639, 1653, 1632, 1658, 1643, 1650, 1666, 1689, 1749, 1705, 1685, 1681, 1678, 1701, 1670, 1693, 1662, 1674, 1697, 1709, 1713, 1733, 1729] rfl
set_option maxRecDepth 100000 in
theorem jmK_6 : ∀ w ∈ [jm_180, jm_181, jm_182, jm_183, jm_184, jm_185, jm_186, jm_187, jm_188, jm_189, jm_190, jm_191, jm_192, jm_193, jm_194, jm_195, jm_196, jm_197, jm_198, jm_199, jm_200, jm_201, jm_202, jm_203, jm_204, jm_205, jm_206, jm_207, jm_208, jm_209].map jwk, w ∈ lw_tbl := jw_of [1717, 1721, 1725, 1737, 1741, 1745, 1752, 1628, 1768, 1772, 1805, 1756, 1842, 1817, 1784, 1792, 1788, 1781, 1838, 1776, 1760, 1764, 1866, 1830, 1826, 1822, 1813, 1834, 1801, 1809] rfl
set_option maxRecDepth 100000 in
theorem jmK_7 : ∀ w ∈ [jm_210, jm_211, jm_212, jm_213, jm_214, jm_215, jm_216, jm_217, jm_218, jm_219, jm_220, jm_221, jm_222, jm_223, jm_224, jm_225, jm_226, jm_227, jm_228, jm_229, jm_230, jm_231, jm_232, jm_233, jm_234, jm_235, jm_236, jm_237, jm_238, jm_239].map jwk, w ∈ lw_tbl := jw_of [1846, 1854, 1850, 1858, 1870, 1862, 1883, 1878, 1888, 1938, 1874, 1892, 1910, 1904, 1900, 1896, 1918, 1930, 1934, 1942, 1946, 1926, 1922, 1950, 1959, 1955, 1963, 1968, 1972, 1976] rfl
set_option maxRecDepth 100000 in
theorem jmK_8 : ∀ w ∈ [jm_240, jm_241, jm_242, jm_243, jm_244, jm_245, jm_246, jm_247, jm_248, jm_249, jm_250, jm_251, jm_252, jm_253, jm_254, jm_255, jm_256].map jwk, w ∈ lw_tbl := jw_of [1980, 1984, 1989, 1993, 1997, 2001, 2009, 2017, 2013, 2005, 2021, 2025, 2029, 2033, 2037, 1064, 821] rfl
def jwX : List Cond := [.static (jmh 910), .static (jmh 911), .static (jmh 912), .static (jmh 913), .initialized "java/lang/Math", .code (jmh 910) Lib.Math.max.code 2 (some .int), .code (jmh 911) Lib.Math.min.code 2 (some .int), .code (jmh 912) Lib.MathLoose.min_long.code 4 (some .long), .code (jmh 913) Lib.MathLoose.abs_long.code 2 (some .long), .static arraycopyName, .native arraycopyName, .initialized "java/lang/System"]
set_option maxRecDepth 100000 in
theorem jwX_t : ∀ w ∈ jwX, w ∈ lw_tbl := jw_of [635, 596, 1912, 1794, 131, 636, 597, 1913, 1795, 817, 818, 133] (by decide +kernel)
theorem jwX_g : ∀ w ∈ jwX, w ∈ jws := jws_of jwX_t (by decide +kernel)
end
section
/-! What is known of a method of the table. Printed by wip/gen/facts.py. -/
def jVl : List Nat := [0, 1, 2, 3, 4, 5, 6, 7, 8, 9, 10, 11, 12, 13, 14, 15, 16, 17, 18, 19, 20, 21, 22, 23, 24, 25, 27, 28, 29, 30, 31, 32, 33, 34, 35, 36, 38, 39, 40, 41, 42, 43, 44, 45, 46, 47, 48, 51, 52, 53, 54, 55, 56, 57, 58, 59, 60, 61, 62, 63, 64, 65, 66, 67, 68, 69, 70, 71, 72, 73, 74, 75, 76, 78, 79, 80, 81, 82, 84, 85, 86, 87, 88, 89, 90, 91, 92, 93, 94, 95, 97, 98, 99, 100, 101, 102, 105, 106, 107, 108, 109, 110, 111, 112, 113, 114, 115, 116, 117, 118, 119, 120, 121, 122, 123, 124, 125, 126, 127, 128, 129, 130, 131, 132, 133, 134, 135, 136, 137, 138, 139, 140, 141, 142, 143, 144, 145, 146, 147, 148, 149, 150, 151, 154, 155, 156, 159, 160, 161, 162, 163, 164, 165, 166, 167, 169, 170, 171, 172, 173, 174, 175, 176, 177, 178, 179, 180, 181, 182, 183, 184, 185, 187, 188, 189, 190, 191, 192, 193, 195, 196, 197, 198, 199, 200, 201, 202, 203, 204, 205, 206, 207, 208, 209, 210, 211, 212, 213, 214, 215, 216, 217, 218, 219, 220, 221, 222, 223, 224, 225, 226, 227, 228, 229, 230, 231, 232, 233, 234, 235, 236, 237, 238, 239, 240, 241, 242, 243, 244, 245, 246, 247, 248, 249, 250, 251, 252, 253, 254]
def jSl : List Nat := [26, 37, 49, 50, 77, 83, 96, 103, 104, 152, 153, 157, 158, 168, 186, 194, 255, 256]
set_option maxRecDepth 100000 in
theorem jMM_code : ∀ M ∈ jMM, jwk M ∈ lw_tbl := by
  intro M h
  have e0 := jmK_0
  have e1 := jmK_1
  have e2 := jmK_2
  have e3 := jmK_3
  have e4 := jmK_4
  have e5 := jmK_5
  have e6 := jmK_6
  have e7 := jmK_7
  have e8 := jmK_8
  have h : M ∈ [jm_0, jm_1, jm_2, jm_3, jm_4, jm_5, jm_6, jm_7, jm_8, jm_9, jm_10, jm_11, jm_12, jm_13, jm_14, jm_15, jm_16, jm_17, jm_18, jm_19, jm_20, jm_21, jm_22, jm_23, jm_24, jm_25, jm_26, jm_27, jm_28, jm_29] ++ ([jm_30, jm_31, jm_32, jm_33, jm_34, jm_35, jm_36, jm_37, jm_38, jm_39, jm_40, jm_41, jm_42, jm_43, jm_44, jm_45, jm_46, jm_47, jm_48, jm_49, jm_50, jm_51, jm_52, jm_53, jm_54, jm_55, jm_56, jm_57, jm_58, jm_59] ++ ([jm_60, jm_61, jm_62, jm_63, jm_64, jm_65, jm_66, jm_67, jm_68, jm_69, jm_70, jm_71, jm_72, jm_73, jm_74, jm_75, jm_76, jm_77, jm_78, jm_79, jm_80, jm_81, jm_82, jm_83, jm_84, jm_85, jm_86, jm_87, jm_88, jm_89] ++ ([jm_90, jm_91, jm_92, jm_93, jm_94, jm_95, jm_96, jm_97, jm_98, jm_99, jm_100, jm_101, jm_102, jm_103, jm_104, jm_105, jm_106, jm_107, jm_108, jm_109, jm_110, jm_111, jm_112, jm_113, jm_114, jm_115, jm_116, jm_117, jm_118, jm_119] ++ ([jm_120, jm_121, jm_122, jm_123, jm_124, jm_125, jm_126, jm_127, jm_128, jm_129, jm_130, jm_131, jm_132, jm_133, jm_134, jm_135, jm_136, jm_137, jm_138, jm_139, jm_140, jm_141, jm_142, jm_143, jm_144, jm_145, jm_146, jm_147, jm_148, jm_149] ++ ([jm_150, jm_151, jm_152, jm_153, jm_154, jm_155, jm_156, jm_157, jm_158, jm_159, jm_160, jm_161, jm_162, jm_163, jm_164, jm_165, jm_166, jm_167, jm_168, jm_169, jm_170, jm_171, jm_172, jm_173, jm_174, jm_175, jm_176, jm_177, jm_178, jm_179] ++ ([jm_180, jm_181, jm_182, jm_183, jm_184, jm_185, jm_186, jm_187, jm_188, jm_189, jm_190, jm_191, jm_192, jm_193, jm_194, jm_195, jm_196, jm_197, jm_198, jm_199, jm_200, jm_201, jm_202, jm_203, jm_204, jm_205, jm_206, jm_207, jm_208, jm_209] ++ ([jm_210, jm_211, jm_212, jm_213, jm_214, jm_215, jm_216, jm_217, jm_218, jm_219, jm_220, jm_221, jm_222, jm_223, jm_224, jm_225, jm_226, jm_227, jm_228, jm_229, jm_230, jm_231, jm_232, jm_233, jm_234, jm_235, jm_236, jm_237, jm_238, jm_239] ++ ([jm_240, jm_241, jm_242, jm_243, jm_244, jm_245, jm_246, jm_247, jm_248, jm_249, jm_250, jm_251, jm_252, jm_253, jm_254, jm_255, jm_256])))))))) := h
  rcases List.mem_append.mp h with h | h
  · exact e0 _ (List.mem_map.mpr ⟨M, h, rfl⟩)
  rcases List.mem_append.mp h with h | h
  · exact e1 _ (List.mem_map.mpr ⟨M, h, rfl⟩)
  rcases List.mem_append.mp h with h | h
  · exact e2 _ (List.mem_map.mpr ⟨M, h, rfl⟩)
  rcases List.mem_append.mp h with h | h
  · exact e3 _ (List.mem_map.mpr ⟨M, h, rfl⟩)
  rcases List.mem_append.mp h with h | h
  · exact e4 _ (List.mem_map.mpr ⟨M, h, rfl⟩)
  rcases List.mem_append.mp h with h | h
  · exact e5 _ (List.mem_map.mpr ⟨M, h, rfl⟩)
  rcases List.mem_append.mp h with h | h
  · exact e6 _ (List.mem_map.mpr ⟨M, h, rfl⟩)
  rcases List.mem_append.mp h with h | h
  · exact e7 _ (List.mem_map.mpr ⟨M, h, rfl⟩)
  exact e8 _ (List.mem_map.mpr ⟨M, h, rfl⟩)
theorem jMM_all : jMM.all (fun M => plainName M.1.cls && decide (M.1.cls ≠ "java/lang/invoke/MethodHandle") && decide (M.1.cls ≠ "java/lang/invoke/VarHandle") && decide ((parseMethodDescriptor M.1.desc).map (fun d => d.parameters.length) = some M.2.2.2.2.2.1) && decide (jon M.2.2.2.2.1 = M.1.cls) && decide (M.2.2.1 ≤ 30) && decide (M.2.2.2.1 ≤ 3)) = true := by decide +kernel
theorem jMM_good : (jMM.map jwk).all goodWord = true := by decide +kernel
theorem jMM_kind : ∀ y, y < 257 → ((jMM.getD y jmd).2.2.2.2.2.2 = 0 → y ∈ jVl) ∧ ((jMM.getD y jmd).2.2.2.2.2.2 = 1 → y ∈ jSl) := by decide +kernel
theorem jMM_len : jMM.length = 257 := by decide +kernel
theorem jMM_all_in : ∀ y, y < 257 → y ∈ [0, 1, 2, 3, 4, 5, 6, 7, 8, 9, 10, 11, 12, 13, 14, 15, 16, 17, 18, 19, 20, 21, 22, 23, 24, 25, 26, 27, 28, 29, 30, 31, 32, 33, 34, 35, 36, 37, 38, 39, 40, 41, 42, 43, 44, 45, 46, 47, 48, 49, 50, 51, 52, 53, 54, 55, 56, 57, 58, 59, 60, 61, 62, 63, 64, 65, 66, 67, 68, 69, 70, 71, 72, 73, 74, 75, 76, 77, 78, 79, 80, 81, 82, 83, 84, 85, 86, 87, 88, 89, 90, 91, 92, 93, 94, 95, 96, 97, 98, 99, 100, 101, 102, 103, 104, 105, 106, 107, 108, 109, 110, 111, 112, 113, 114, 115, 116, 117, 118, 119, 120, 121, 122, 123, 124, 125, 126, 127, 128, 129, 130, 131, 132, 133, 134, 135, 136, 137, 138, 139, 140, 141, 142, 143, 144, 145, 146, 147, 148, 149, 150, 151, 152, 153, 154, 155, 156, 157, 158, 159, 160, 161, 162, 163, 164, 165, 166, 167, 168, 169, 170, 171, 172, 173, 174, 175, 176, 177, 178, 179, 180, 181, 182, 183, 184, 185, 186, 187, 188, 189, 190, 191, 192, 193, 194, 195, 196, 197, 198, 199, 200, 201, 202, 203, 204, 205, 206, 207, 208, 209, 210, 211, 212, 213, 214, 215, 216, 217, 218, 219, 220, 221, 222, 223, 224, 225, 226, 227, 228, 229, 230, 231, 232, 233, 234, 235, 236, 237, 238, 239, 240, 241, 242, 243, 244, 245, 246, 247, 248, 249, 250, 251, 252, 253, 254, 255, 256] := by decide +kernel
theorem jmn_eq {y : Nat} {M : jM} (h : jMM[y]? = some M) : jMM.getD y jmd = M := by
  rw [List.getD_eq_getElem?_getD, h]
  rfl
theorem jm_lt {y : Nat} {M : jM} (h : jMM[y]? = some M) : y < 257 := by
  have h1 := (List.getElem?_eq_some_iff.mp h).1
  rw [jMM_len] at h1
  exact h1
theorem jm_code {y : Nat} {M : jM} (h : jMM[y]? = some M) : jwk M ∈ jws := List.mem_filter.mpr ⟨jMM_code M (List.mem_of_getElem? h), List.all_eq_true.mp jMM_good _ (List.mem_map.mpr ⟨M, List.mem_of_getElem? h, rfl⟩)⟩
theorem jm_init {y : Nat} {M : jM} (h : jMM[y]? = some M) : Cond.initialized M.1.cls ∈ jws := by
  have h1 := jmI_g (Cond.initialized (jmn y).cls) (List.mem_map.mpr ⟨y, jMM_all_in y (jm_lt h), rfl⟩)
  unfold jmn at h1
  rw [jmn_eq h] at h1
  exact h1
theorem jm_virt {y : Nat} {M : jM} (h : jMM[y]? = some M) (hs : M.2.2.2.2.2.2 = 0) : Cond.instanceMethod M.1 ∈ jws ∧ Cond.selects M.1.cls M.1 M.1 ∈ jws := by
  have h0 := (jMM_kind y (jm_lt h)).1
  rw [jmn_eq h] at h0
  have h1 := jmV_g (Cond.instanceMethod (jmn y)) (List.mem_map.mpr ⟨y, h0 hs, rfl⟩)
  have h2 := jmL_g (Cond.selects (jmn y).cls (jmn y) (jmn y)) (List.mem_map.mpr ⟨y, h0 hs, rfl⟩)
  unfold jmn at h1 h2
  rw [jmn_eq h] at h1 h2
  exact ⟨h1, h2⟩
theorem jm_stat {y : Nat} {M : jM} (h : jMM[y]? = some M) (hs : M.2.2.2.2.2.2 = 1) : Cond.static M.1 ∈ jws := by
  have h0 := (jMM_kind y (jm_lt h)).2
  rw [jmn_eq h] at h0
  have h1 := jmS_g (Cond.static (jmn y)) (List.mem_map.mpr ⟨y, h0 hs, rfl⟩)
  unfold jmn at h1
  rw [jmn_eq h] at h1
  exact h1
theorem jm_ok {y : Nat} {M : jM} (h : jMM[y]? = some M) : plainName M.1.cls = true ∧ M.1.cls ≠ "java/lang/invoke/MethodHandle" ∧ M.1.cls ≠ "java/lang/invoke/VarHandle" ∧ (parseMethodDescriptor M.1.desc).map (fun d => d.parameters.length) = some M.2.2.2.2.2.1 ∧ jon M.2.2.2.2.1 = M.1.cls ∧ M.2.2.1 ≤ 30 ∧ M.2.2.2.1 ≤ 3 := by
  have h1 := List.all_eq_true.mp jMM_all M (List.mem_of_getElem? h)
  simp only [Bool.and_eq_true, decide_eq_true_eq] at h1
  obtain ⟨⟨⟨⟨⟨⟨a, b⟩, c⟩, d⟩, e⟩, f⟩, g⟩ := h1
  exact ⟨a, b, c, d, e, f, g⟩
theorem jc_ok : ∀ ci, ci < 10 → jcl[ci]? = some (jrr ci, jtt ci, jnn ci) ∧ (∀ w ∈ u_ws (jrr ci) (jtt ci) (jnn ci), w ∈ jws) ∧ (∀ a, a < jnn ci → ∀ b, b < jnn ci → a ≠ b → (jtt ci a).2.1 ≠ (jtt ci b).2.1) ∧ (∀ k, k < jnn ci → parseFieldDescriptor (jtt ci k).2.2.1 = some (jyy ci k)) ∧ jon ci = jrr ci := by
  intro ci h
  match ci, h with
  | 0, _ => exact ⟨rfl, jlay_0, jnm_0, jty_0, rfl⟩
  | 1, _ => exact ⟨rfl, jlay_1, jnm_1, jty_1, rfl⟩
  | 2, _ => exact ⟨rfl, jlay_2, jnm_2, jty_2, rfl⟩
  | 3, _ => exact ⟨rfl, jlay_3, jnm_3, jty_3, rfl⟩
  | 4, _ => exact ⟨rfl, jlay_4, jnm_4, jty_4, rfl⟩
  | 5, _ => exact ⟨rfl, jlay_5, jnm_5, jty_5, rfl⟩
  | 6, _ => exact ⟨rfl, jlay_6, jnm_6, jty_6, rfl⟩
  | 7, _ => exact ⟨rfl, jlay_7, jnm_7, jty_7, rfl⟩
  | 8, _ => exact ⟨rfl, jlay_8, jnm_8, jty_8, rfl⟩
  | 9, _ => exact ⟨rfl, jlay_9, jnm_9, jty_9, rfl⟩
def jfk_b (ci f : Nat) : Bool := decide (f < jnn ci) && (match (j_fk ci).getD f 9 with
  | 0 => decide (jyy ci f = .int) && !(jtt ci f).2.2.2
  | 1 => decide (jyy ci f = .boolean) && !(jtt ci f).2.2.2
  | 2 => decide (jyy ci f = .long) && !(jtt ci f).2.2.2
  | 3 => decide (jyy ci f = .object (jrr 6)) && !(jtt ci f).2.2.2
  | _ => true)
theorem jfk_all : (List.range 10).all (fun ci => (List.range (j_fk ci).length).all (fun f => jfk_b ci f)) = true := by decide +kernel
theorem jfk_len : ∀ ci, (j_fk ci).length ≠ 0 → ci < 10 := by
  intro ci h
  rcases Nat.lt_or_ge ci 10 with q | q
  · exact q
  · exfalso
    apply h
    have : jFK[ci]? = none := List.getElem?_eq_none_iff.mpr q
    unfold j_fk
    rw [List.getD_eq_getElem?_getD, this]
    rfl
end
section
/-! A SMALL MACHINE OVER CELLS. Its state: what the cells' places of ints, longs and changing references hold (cell, place). It runs blocks of instructions; where it answers 'some', the Jvm does the same (part 05). -/
abbrev jS : Type := (Nat → Nat → Int32) × (Nat → Nat → Int64) × (Nat → Nat → Nat)
abbrev jR : Type := Option (Option Value × jS)
abbrev jN : Type := Instr × List Nat
abbrev jL : Type := List (Nat × Value)
/-- a block: where it begins, its locals, its instructions, the block behind it -/
abbrev jB : Type := Nat × List Nat × List jN × Nat
def j_setI (σ : jS) (a k : Nat) (v : Int32) : jS := (fun b j => if b = a ∧ j = k then v else σ.1 b j, σ.2)
def j_setL (σ : jS) (a k : Nat) (v : Int64) : jS := (σ.1, fun b j => if b = a ∧ j = k then v else σ.2.1 b j, σ.2.2)
def j_setR (σ : jS) (a k v : Nat) : jS := (σ.1, σ.2.1, fun b j => if b = a ∧ j = k then v else σ.2.2 b j)
def j_cpy (σ : jS) (a0 sp a1 dp n : Nat) : jS := (fun b j => if b = a1 ∧ dp ≤ j ∧ j < dp + n then σ.1 a0 (sp + (j - dp)) else σ.1 b j, σ.2)
noncomputable def j_is (ci a : Nat) : Bool := match j_sh a with
  | some (.inr c) => c == ci
  | _ => false
noncomputable def j_len (z a : Nat) : Option Nat := match j_sh a with
  | some (.inl q) => cond (q.1 == z) (some q.2) none
  | _ => none
noncomputable def j_cr (a k : Nat) : Nat := (jlook ((jlook jCR a).getD []) k).getD 0
noncomputable def j_rdI (z : Nat) (σ : jS) (a : Nat) (i : Int32) : Option Int32 := (j_len z a).bind fun n => @ite _ (i < 0 ∨ n ≤ i.toNatClampNeg) (Classical.propDecidable _) none <| some (σ.1 a i.toNatClampNeg)
noncomputable def j_rdL (σ : jS) (a : Nat) (i : Int32) : Option Int64 := (j_len 2 a).bind fun n => @ite _ (i < 0 ∨ n ≤ i.toNatClampNeg) (Classical.propDecidable _) none <| some (σ.2.1 a i.toNatClampNeg)
noncomputable def j_wrI (σ : jS) (a : Nat) (i x : Int32) : Option jS := (j_len 0 a).bind fun n => @ite _ (i < 0 ∨ n ≤ i.toNatClampNeg) (Classical.propDecidable _) none <| some (j_setI σ a i.toNatClampNeg x)
noncomputable def j_wrZ (σ : jS) (a : Nat) (i x : Int32) : Option jS := (j_len 1 a).bind fun n => @ite _ (i < 0 ∨ n ≤ i.toNatClampNeg) (Classical.propDecidable _) none <| if x = 0 ∨ x = 1 then some (j_setI σ a i.toNatClampNeg x) else none
noncomputable def j_wrL (σ : jS) (a : Nat) (i : Int32) (x : Int64) : Option jS := (j_len 2 a).bind fun n => @ite _ (i < 0 ∨ n ≤ i.toNatClampNeg) (Classical.propDecidable _) none <| some (j_setL σ a i.toNatClampNeg x)
noncomputable def j_copy (σ : jS) (a0 : Nat) (sp : Int32) (a1 : Nat) (dp n : Int32) : Option jS := (j_len 0 a0).bind fun n0 => (j_len 0 a1).bind fun n1 =>
  @ite _ (sp < 0 ∨ dp < 0 ∨ n < 0 ∨ n0 < sp.toNatClampNeg + n.toNatClampNeg ∨ n1 < dp.toNatClampNeg + n.toNatClampNeg) (Classical.propDecidable _) none <| some (j_cpy σ a0 sp.toNatClampNeg a1 dp.toNatClampNeg n.toNatClampNeg)
/-- the String constants, as their signs' numbers -/
def jST : List (List Nat) := [[99, 111, 105, 110, 115, 32, 97, 103, 101, 32, 110, 101, 120, 116, 32, 101, 108, 100, 101, 114, 32, 112, 108, 97, 99, 101, 32, 104, 111, 117, 114, 32, 112, 101, 114, 115, 111, 110, 32, 112, 117, 114, 115, 101, 32, 104, 97, 110, 100, 115, 32, 116, 111, 32, 111, 114, 32, 112, 97, 114, 99, 101, 108, 32, 108, 97, 119, 32, 109, 97, 121, 32, 110, 111, 116, 32, 97, 110, 100, 32], [59, 40, 41, 43, 45, 42, 47, 37, 60, 61, 62], [112, 101, 114, 115, 111, 110, 32, 104, 97, 110, 100, 115, 32, 112, 97, 114, 99, 101, 108, 32, 108, 97, 119, 32, 109, 97, 121, 32, 112, 117, 114, 115, 101, 32, 116, 111, 32, 111, 114, 32, 97, 110, 100, 32, 110, 111, 116, 32, 99, 111, 105, 110, 115, 32, 97, 103, 101, 32, 110, 101, 120, 116, 32, 101, 108, 100, 101, 114, 32, 112, 108, 97, 99, 101, 32, 104, 111, 117, 114, 32]]
/-- Strings stand at 1000 and on -/
def j_str (a : Nat) : Option (List Nat) := match a with
  | 1000 => some (jST.getD 0 [])
  | 1001 => some (jST.getD 1 [])
  | 1002 => some (jST.getD 2 [])
  | _ => none
def j_idx (c : Int32) : List Nat → Nat → Int32
  | [], _ => -1
  | q :: r, n => if Int32.ofNat q = c then Int32.ofNat n else j_idx c r (n + 1)
/-- what an instruction takes off the frame -/
def jq0 {α : Type} (o : Option α) (f : α → jR) : jR := match o with
  | some x => f x
  | none => none
def jq1 {α : Type} (o : Option α) (f : α → jR) : jR := jq0 o f
def jq2 {α : Type} (o : Option α) (f : α → jR) : jR := jq1 o f
def jq3 {α : Type} (o : Option α) (f : α → jR) : jR := jq2 o f
def jq4 {α : Type} (o : Option α) (f : α → jR) : jR := jq3 o f
def jq {α : Type} (o : Option α) (f : α → jR) : jR := jq4 o f
def jc0 (b : Bool) (x : jR) : jR := match b with
  | true => x
  | false => none
def jc1 (b : Bool) (x : jR) : jR := jc0 b x
def jc2 (b : Bool) (x : jR) : jR := jc1 b x
def jc3 (b : Bool) (x : jR) : jR := jc2 b x
def jc4 (b : Bool) (x : jR) : jR := jc3 b x
def jc (b : Bool) (x : jR) : jR := jc4 b x
def p_I : List Value → Option (Int32 × List Value)
  | .int x :: st => some (x, st)
  | _ => none
def p_L : List Value → Option (Int64 × List Value)
  | .long x :: st => some (x, st)
  | _ => none
def p_R : List Value → Option (Nat × List Value)
  | .ref x :: st => some (x, st)
  | _ => none
def p_II : List Value → Option (Int32 × Int32 × List Value)
  | .int y :: .int x :: st => some (x, y, st)
  | _ => none
def p_LL : List Value → Option (Int64 × Int64 × List Value)
  | .long y :: .long x :: st => some (x, y, st)
  | _ => none
def p_LI : List Value → Option (Int64 × Int32 × List Value)
  | .int y :: .long x :: st => some (x, y, st)
  | _ => none
def p_RI : List Value → Option (Nat × Int32 × List Value)
  | .int y :: .ref x :: st => some (x, y, st)
  | _ => none
def p_RL : List Value → Option (Nat × Int64 × List Value)
  | .long y :: .ref x :: st => some (x, y, st)
  | _ => none
def p_RR : List Value → Option (Nat × Nat × List Value)
  | .ref y :: .ref x :: st => some (x, y, st)
  | _ => none
def p_RII : List Value → Option (Nat × Int32 × Int32 × List Value)
  | .int z :: .int y :: .ref x :: st => some (x, y, z, st)
  | _ => none
def p_RIL : List Value → Option (Nat × Int32 × Int64 × List Value)
  | .long z :: .int y :: .ref x :: st => some (x, y, z, st)
  | _ => none
def p_1 : List Value → Option (Value × List Value)
  | .int x :: st => some (.int x, st)
  | .ref x :: st => some (.ref x, st)
  | _ => none
def p_11 : List Value → Option (Value × Value × List Value)
  | .int y :: .ref x :: st => some (.ref x, .int y, st)
  | .int y :: .int x :: st => some (.int x, .int y, st)
  | _ => none
def p_cpy : List Value → Option (Nat × Int32 × Nat × Int32 × Int32 × List Value)
  | .int n :: .int dp :: .ref a1 :: .int sp :: .ref a0 :: st => some (a0, sp, a1, dp, n, st)
  | _ => none
/-- n arguments, in their order -/
def p_n : Nat → List Value → Option (List Value × List Value)
  | 0, st => some ([], st)
  | _ + 1, [] => none
  | n + 1, v :: st => (p_n n st).bind fun q => some (q.1 ++ [v], q.2)
def r_V : jR → Option jS
  | some (none, σ) => some σ
  | _ => none
def r_I : jR → Option (Int32 × jS)
  | some (some (.int x), σ) => some (x, σ)
  | _ => none
def r_L : jR → Option (Int64 × jS)
  | some (some (.long x), σ) => some (x, σ)
  | _ => none
def j_at : jL → Nat → Option Value
  | [], _ => none
  | q :: l, i => cond (q.1 == i) (some q.2) (j_at l i)
def j_atI (lv : jL) (i : Nat) : Option Int32 := (j_at lv i).bind fun v => match v with
  | .int x => some x
  | _ => none
def j_atL (lv : jL) (i : Nat) : Option Int64 := (j_at lv i).bind fun v => match v with
  | .long x => some x
  | _ => none
def j_atR (lv : jL) (i : Nat) : Option Nat := (j_at lv i).bind fun v => match v with
  | .ref x => some x
  | _ => none
def j_st1 (lv : jL) (i : Nat) (v : Value) : jL := (i, v) :: lv.filter (fun q => !(q.1 == i) && !(q.1 + 1 == i && q.2.category == 2))
def j_st2 (lv : jL) (i : Nat) (v : Value) : jL := (i, v) :: lv.filter (fun q => !(q.1 == i) && (!(q.1 == i + 1) && !(q.1 + 1 == i && q.2.category == 2)))
def j_pick : List Nat → jL → Option jL
  | [], _ => some []
  | i :: r, lv => (j_at lv i).bind fun v => (j_pick r lv).bind fun l => some ((i, v) :: l)
/-- a branch, by a condition that is never worked out -/
noncomputable def jif (c : Prop) (a b : jR) : jR := @ite _ c (Classical.propDecidable c) a b
noncomputable def j_sw (x : Int32) (d : jR) (f : Nat → jR) : List (Int × Nat) → jR
  | [] => d
  | q :: r => jif (x = Int32.ofInt q.1) (f q.2) (j_sw x d f r)
def j_keys (lo : Int) : List Nat → List (Int × Nat)
  | [] => []
  | b :: r => (lo, b) :: j_keys (lo + 1) r
def j_ret (rk : Nat) (r : jR) (lv : jL) (st : List Value) (k : jL → List Value → jS → jR) : jR := match rk with
  | 0 => (r_V r).bind fun q => k lv st q
  | 1 => (r_I r).bind fun q => k lv (.int q.1 :: st) q.2
  | 2 => (r_L r).bind fun q => k lv (.long q.1 :: st) q.2
  | _ => none
noncomputable def js (C : Nat → List Value → jS → jR) (rt : Nat) (K : Nat → jL → List Value → jS → jR) (i : Instr) (ex : List Nat) (lv : jL) (st : List Value) (σ : jS) (k : jL → List Value → jS → jR) : jR := match i with
  | .iconst n => k lv (.int (Int32.ofInt n) :: st) σ
  | .bipush n => k lv (.int (Int8.ofInt n).toInt32 :: st) σ
  | .sipush n => k lv (.int (Int16.ofInt n).toInt32 :: st) σ
  | .lconst n => k lv (.long (Int64.ofNat (n : Nat)) :: st) σ
  | .ldc _ => match ex with
    | [v] => k lv (.int (Int32.ofNat v) :: st) σ
    | [v, _] => k lv (.ref v :: st) σ
    | _ => none
  | .ldc_w _ => match ex with
    | [v] => k lv (.int (Int32.ofNat v) :: st) σ
    | _ => none
  | .ldc2_w _ => match ex with
    | [v] => k lv (.long (Int64.ofNat v) :: st) σ
    | _ => none
  | .iload_n n => jq (j_atI lv n) fun x => k lv (.int x :: st) σ
  | .iload n => jq (j_atI lv n) fun x => k lv (.int x :: st) σ
  | .lload_n n => jq (j_atL lv n) fun x => k lv (.long x :: st) σ
  | .lload n => jq (j_atL lv n) fun x => k lv (.long x :: st) σ
  | .aload_n n => jq (j_atR lv n) fun x => k lv (.ref x :: st) σ
  | .aload n => jq (j_atR lv n) fun x => k lv (.ref x :: st) σ
  | .istore_n n => jq (p_I st) fun q => k (j_st1 lv n (.int q.1)) q.2 σ
  | .istore n => jq (p_I st) fun q => k (j_st1 lv n (.int q.1)) q.2 σ
  | .lstore_n n => jq (p_L st) fun q => k (j_st2 lv n (.long q.1)) q.2 σ
  | .lstore n => jq (p_L st) fun q => k (j_st2 lv n (.long q.1)) q.2 σ
  | .astore_n n => jq (p_R st) fun q => k (j_st1 lv n (.ref q.1)) q.2 σ
  | .astore n => jq (p_R st) fun q => k (j_st1 lv n (.ref q.1)) q.2 σ
  | .iinc n c => jq (j_atI lv n) fun x => k (j_st1 lv n (.int (x + Int32.ofInt c))) st σ
  | .iadd => jq (p_II st) fun q => k lv (.int (q.1 + q.2.1) :: q.2.2) σ
  | .isub => jq (p_II st) fun q => k lv (.int (q.1 - q.2.1) :: q.2.2) σ
  | .imul => jq (p_II st) fun q => k lv (.int (q.1 * q.2.1) :: q.2.2) σ
  | .iand => jq (p_II st) fun q => k lv (.int (q.1 &&& q.2.1) :: q.2.2) σ
  | .ior => jq (p_II st) fun q => k lv (.int (q.1 ||| q.2.1) :: q.2.2) σ
  | .idiv => jq (p_II st) fun q => if q.2.1 = 0 then none else k lv (.int (q.1 / q.2.1) :: q.2.2) σ
  | .irem => jq (p_II st) fun q => if q.2.1 = 0 then none else k lv (.int (q.1 - q.1 / q.2.1 * q.2.1) :: q.2.2) σ
  | .ishl => jq (p_II st) fun q => k lv (.int (q.1 <<< (q.2.1 &&& 31)) :: q.2.2) σ
  | .ishr => jq (p_II st) fun q => k lv (.int (q.1 >>> (q.2.1 &&& 31)) :: q.2.2) σ
  | .iushr => jq (p_II st) fun q => k lv (.int (q.1.toUInt32 >>> (q.2.1.toUInt32 &&& Int32.toUInt32 31)).toInt32 :: q.2.2) σ
  | .ladd => jq (p_LL st) fun q => k lv (.long (q.1 + q.2.1) :: q.2.2) σ
  | .lsub => jq (p_LL st) fun q => k lv (.long (q.1 - q.2.1) :: q.2.2) σ
  | .lmul => jq (p_LL st) fun q => k lv (.long (q.1 * q.2.1) :: q.2.2) σ
  | .land => jq (p_LL st) fun q => k lv (.long (q.1 &&& q.2.1) :: q.2.2) σ
  | .lor => jq (p_LL st) fun q => k lv (.long (q.1 ||| q.2.1) :: q.2.2) σ
  | .ldiv => jq (p_LL st) fun q => if q.2.1 = 0 then none else k lv (.long (q.1 / q.2.1) :: q.2.2) σ
  | .lrem => jq (p_LL st) fun q => if q.2.1 = 0 then none else k lv (.long (q.1 - q.1 / q.2.1 * q.2.1) :: q.2.2) σ
  | .lneg => jq (p_L st) fun q => k lv (.long (-q.1) :: q.2) σ
  | .lcmp => jq (p_LL st) fun q => k lv (.int (lg_cmp q.1 q.2.1) :: q.2.2) σ
  | .lshl => jq (p_LI st) fun q => k lv (.long (q.1 <<< (q.2.1.toInt64 &&& 63)) :: q.2.2) σ
  | .lshr => jq (p_LI st) fun q => k lv (.long (q.1 >>> (q.2.1.toInt64 &&& 63)) :: q.2.2) σ
  | .lushr => jq (p_LI st) fun q => k lv (.long (q.1.toUInt64 >>> (q.2.1.toInt64.toUInt64 &&& Int64.toUInt64 63)).toInt64 :: q.2.2) σ
  | .i2l => jq (p_I st) fun q => k lv (.long q.1.toInt64 :: q.2) σ
  | .l2i => jq (p_L st) fun q => k lv (.int q.1.toInt32 :: q.2) σ
  | .i2c => jq (p_I st) fun q => k lv (.int (q.1.toUInt32 % 65536).toInt32 :: q.2) σ
  | .dup => jq (p_1 st) fun q => k lv (q.1 :: q.1 :: q.2) σ
  | .pop => jq (p_1 st) fun q => k lv q.2 σ
  | .dup2 => jq (p_11 st) fun q => k lv (q.2.1 :: q.1 :: q.2.1 :: q.1 :: q.2.2) σ
  | .iaload => match ex with
    | [] => jq (p_RI st) fun q => (j_rdI 0 σ q.1 q.2.1).bind fun x => k lv (.int x :: q.2.2) σ
    | [y] => jq (p_RI st) fun q => jc (q.1 == 2000) ((r_I (C y [.int q.2.1] σ)).bind fun w => k lv (.int w.1 :: q.2.2) w.2)
    | _ => none
  | .baload => jq (p_RI st) fun q => (j_rdI 1 σ q.1 q.2.1).bind fun x => k lv (.int x :: q.2.2) σ
  | .laload => jq (p_RI st) fun q => (j_rdL σ q.1 q.2.1).bind fun x => k lv (.long x :: q.2.2) σ
  | .iastore => jq (p_RII st) fun q => (j_wrI σ q.1 q.2.1 q.2.2.1).bind fun t => k lv q.2.2.2 t
  | .bastore => jq (p_RII st) fun q => (j_wrZ σ q.1 q.2.1 q.2.2.1).bind fun t => k lv q.2.2.2 t
  | .lastore => jq (p_RIL st) fun q => (j_wrL σ q.1 q.2.1 q.2.2.1).bind fun t => k lv q.2.2.2 t
  | .arraylength => match ex with
    | [] => jq (p_R st) fun q => (j_len 0 q.1).bind fun n => k lv (.int (Int32.ofNat n) :: q.2) σ
    | [y] => jq (p_R st) fun q => jc (q.1 == 2000) ((r_I (C y [] σ)).bind fun w => k lv (.int w.1 :: q.2) w.2)
    | _ => none
  | .getfield _ => match ex with
    | [ci, f, 0] => jq (p_R st) fun q => jc (j_is ci q.1) (k lv (.int (σ.1 q.1 f) :: q.2) σ)
    | [ci, f, 1] => jq (p_R st) fun q => jc (j_is ci q.1) (k lv (.int (σ.1 q.1 f) :: q.2) σ)
    | [ci, f, 2] => jq (p_R st) fun q => jc (j_is ci q.1) (k lv (.long (σ.2.1 q.1 f) :: q.2) σ)
    | [ci, f, 3] => jq (p_R st) fun q => jc (j_is ci q.1) (k lv (.ref (σ.2.2 q.1 f) :: q.2) σ)
    | [ci, f, 4] => jq (p_R st) fun q => jc (j_is ci q.1) (k lv (.ref (j_cr q.1 f) :: q.2) σ)
    | _ => none
  | .putfield _ => match ex with
    | [ci, f, 0] => jq (p_RI st) fun q => jc (j_is ci q.1) (k lv q.2.2 (j_setI σ q.1 f q.2.1))
    | [ci, f, 1] => jq (p_RI st) fun q => jc (j_is ci q.1) (if q.2.1 = 0 ∨ q.2.1 = 1 then k lv q.2.2 (j_setI σ q.1 f q.2.1) else none)
    | [ci, f, 2] => jq (p_RL st) fun q => jc (j_is ci q.1) (k lv q.2.2 (j_setL σ q.1 f q.2.1))
    | [ci, f, 3] => jq (p_RR st) fun q => jc (j_is ci q.1) (k lv q.2.2 (j_setR σ q.1 f q.2.1))
    | _ => none
  | .goto _ => match ex with
    | [t] => K t lv st σ
    | _ => none
  | .ifCond c _ => match ex with
    | [t] => jq (p_I st) fun q => match c with
      | .eq => jif (q.1 = 0) (K t lv q.2 σ) (k lv q.2 σ)
      | .ne => jif (q.1 = 0) (k lv q.2 σ) (K t lv q.2 σ)
      | .lt => jif (q.1 < 0) (K t lv q.2 σ) (k lv q.2 σ)
      | .ge => jif (0 ≤ q.1) (K t lv q.2 σ) (k lv q.2 σ)
      | .gt => jif (0 < q.1) (K t lv q.2 σ) (k lv q.2 σ)
      | .le => jif (q.1 ≤ 0) (K t lv q.2 σ) (k lv q.2 σ)
    | _ => none
  | .if_icmp c _ => match ex with
    | [t] => jq (p_II st) fun q => match c with
      | .eq => jif (q.1 = q.2.1) (K t lv q.2.2 σ) (k lv q.2.2 σ)
      | .ne => jif (q.1 = q.2.1) (k lv q.2.2 σ) (K t lv q.2.2 σ)
      | .lt => jif (q.1 < q.2.1) (K t lv q.2.2 σ) (k lv q.2.2 σ)
      | .ge => jif (q.2.1 ≤ q.1) (K t lv q.2.2 σ) (k lv q.2.2 σ)
      | .gt => jif (q.2.1 < q.1) (K t lv q.2.2 σ) (k lv q.2.2 σ)
      | .le => jif (q.1 ≤ q.2.1) (K t lv q.2.2 σ) (k lv q.2.2 σ)
    | _ => none
  | .tableswitch _ lo _ _ => match ex with
    | d :: bs => jq (p_I st) fun q => j_sw q.1 (K d lv q.2 σ) (fun b => K b lv q.2 σ) (j_keys lo bs)
    | _ => none
  | .lookupswitch _ ps => match ex with
    | d :: bs => jq (p_I st) fun q => j_sw q.1 (K d lv q.2 σ) (fun b => K b lv q.2 σ) ((ps.toList.map (fun z => z.1)).zip bs)
    | _ => none
  | .invokevirtual _ => match ex with
    | [901] => jq (p_R st) fun q => (j_str q.1).bind fun z => jc (Nat.ble (q.2.map fun v => v.category).sum 8) (k lv (.int (Int32.ofNat z.length) :: q.2) σ)
    | [902, _] => jq (p_RI st) fun q => (j_str q.1).bind fun z => if q.2.1 < 0 ∨ z.length ≤ q.2.1.toNatClampNeg then none else jc (Nat.ble (q.2.2.map fun v => v.category).sum 8) (k lv (.int (Int32.ofNat (z.getD q.2.1.toNatClampNeg 0)) :: q.2.2) σ)
    | [903, _, _] => jq (p_RI st) fun q => (j_str q.1).bind fun z => jc (Nat.ble (q.2.2.map fun v => v.category).sum 8) (k lv (.int (j_idx q.2.1 z 0) :: q.2.2) σ)
    | [y, n, ci, rk] => jq (p_n n st) fun q => jq (p_R q.2) fun w => jc (j_is ci w.1) (jc (Nat.ble (w.2.map fun v => v.category).sum 8) (j_ret rk (C y (.ref w.1 :: q.1) σ) lv w.2 k))
    | _ => none
  | .invokestatic _ => match ex with
    | [_] => jq (p_cpy st) fun q => jc (Nat.ble (q.2.2.2.2.2.map fun v => v.category).sum 8) ((j_copy σ q.1 q.2.1 q.2.2.1 q.2.2.2.1 q.2.2.2.2.1).bind fun t => k lv q.2.2.2.2.2 t)
    | [910, _] => jq (p_II st) fun q => jc (Nat.ble (q.2.2.map fun v => v.category).sum 8) (k lv (.int (if q.1 < q.2.1 then q.2.1 else q.1) :: q.2.2) σ)
    | [911, _] => jq (p_II st) fun q => jc (Nat.ble (q.2.2.map fun v => v.category).sum 8) (k lv (.int (if q.2.1 < q.1 then q.2.1 else q.1) :: q.2.2) σ)
    | [912, _] => jq (p_LL st) fun q => jc (Nat.ble (q.2.2.map fun v => v.category).sum 8) (k lv (.long (if q.2.1 < q.1 then q.2.1 else q.1) :: q.2.2) σ)
    | [913, _] => jq (p_L st) fun q => jc (Nat.ble (q.2.map fun v => v.category).sum 8) (k lv (.long (if 0 < q.1 then q.1 else -q.1) :: q.2) σ)
    | [y, n, rk] => jq (p_n n st) fun q => jc (Nat.ble (q.2.map fun v => v.category).sum 8) (j_ret rk (C y q.1 σ) lv q.2 k)
    | _ => none
  | .ireturn => match rt with
    | 1 => jq (p_I st) fun q => jc q.2.isEmpty (some (some (.int q.1), σ))
    | 2 => jq (p_I st) fun q => jc q.2.isEmpty (if q.1 = 0 ∨ q.1 = 1 then some (some (.int q.1), σ) else none)
    | _ => none
  | .lreturn => match rt with
    | 3 => jq (p_L st) fun q => jc q.2.isEmpty (some (some (.long q.1), σ))
    | _ => none
  | .return_ => match rt with
    | 0 => jc st.isEmpty (some (none, σ))
    | _ => none
  | _ => none
noncomputable def jb (C : Nat → List Value → jS → jR) (rt : Nat) (K : Nat → jL → List Value → jS → jR) (nx : Nat) : List jN → jL → List Value → jS → jR
  | [], lv, st, σ => K nx lv st σ
  | (i, ex) :: r, lv, st, σ => js C rt K i ex lv st σ (fun lv st σ => jb C rt K nx r lv st σ)
def j_go (B : List jB) (K : Nat → jL → List Value → jS → jR) (j : Nat) (lv : jL) (st : List Value) (σ : jS) : jR := (B[j]?).bind fun b => (j_pick b.2.1 lv).bind fun l => K j l st σ
noncomputable def jstep (C : Nat → List Value → jS → jR) (rt : Nat) (B : List jB) (K : Nat → jL → List Value → jS → jR) (j : Nat) (lv : jL) (st : List Value) (σ : jS) : jR := (B[j]?).bind fun b => jb C rt (j_go B K) b.2.2.2 b.2.2.1 lv st σ
noncomputable def jrun (C : Nat → List Value → jS → jR) (rt : Nat) (B : List jB) : Nat → Nat → jL → List Value → jS → jR
  | 0 => fun _ _ _ _ => none
  | n + 1 => fun j lv st σ => jstep C rt B (jrun C rt B n) j lv st σ
noncomputable def db (C : Nat → List Value → jS → jR) (rt : Nat) (B : List jB) (j : Nat) (lv : jL) (st : List Value) (σ : jS) : jR :=
  @dite _ (∃ r, ∃ n, jrun C rt B n j lv st σ = some r) (Classical.propDecidable _) (fun h => some (Classical.choose h)) (fun _ => none)
end
section
/-! What runs long enough runs as its own equation says: db_eq. -/
def jU (F : (Nat → jL → List Value → jS → jR) → (jL → List Value → jS → jR) → jR) : Prop := ∀ K k r, F K k = some r →
  (∃ lv st σ, k lv st σ = some r ∧ ∀ K' k', k' lv st σ = some r → F K' k' = some r) ∨ (∃ j lv st σ, K j lv st σ = some r ∧ ∀ K' k', K' j lv st σ = some r → F K' k' = some r) ∨ (∀ K' k', F K' k' = some r)
theorem jU_c (r0 : jR) : jU (fun _ _ => r0) := fun _ _ _ h => Or.inr (Or.inr (fun _ _ => h))
theorem jU_k (lv : jL) (st : List Value) (σ : jS) : jU (fun _ k => k lv st σ) := fun _ _ _ h => Or.inl ⟨lv, st, σ, h, fun _ _ h => h⟩
theorem jU_K (j : Nat) (lv : jL) (st : List Value) (σ : jS) : jU (fun K _ => K j lv st σ) := fun _ _ _ h => Or.inr (Or.inl ⟨j, lv, st, σ, h, fun _ _ h => h⟩)
theorem jU_bind {α : Type} (o : Option α) (F : α → (Nat → jL → List Value → jS → jR) → (jL → List Value → jS → jR) → jR) (h : ∀ x, jU (F x)) : jU (fun K k => o.bind fun x => F x K k) := by
  cases o with
  | none => exact jU_c none
  | some x => exact h x
theorem jU_q {α : Type} (o : Option α) (F : α → (Nat → jL → List Value → jS → jR) → (jL → List Value → jS → jR) → jR) (h : ∀ x, jU (F x)) : jU (fun K k => jq o fun x => F x K k) := by
  cases o with
  | none => exact jU_c none
  | some x => exact h x
theorem jU_jc (c : Bool) (F : (Nat → jL → List Value → jS → jR) → (jL → List Value → jS → jR) → jR) (hF : jU F) : jU (fun K k => jc c (F K k)) := by
  cases c with
  | true => exact hF
  | false => exact jU_c none
theorem jU_ite (c : Prop) (dc : Decidable c) (F G : (Nat → jL → List Value → jS → jR) → (jL → List Value → jS → jR) → jR) (hF : jU F) (hG : jU G) : jU (fun K k => @ite _ c dc (F K k) (G K k)) := by
  cases dc with
  | isTrue h => exact hF
  | isFalse h => exact hG
theorem jU_jif (c : Prop) (F G : (Nat → jL → List Value → jS → jR) → (jL → List Value → jS → jR) → jR) (hF : jU F) (hG : jU G) : jU (fun K k => jif c (F K k) (G K k)) := jU_ite c (Classical.propDecidable c) F G hF hG
theorem jU_cond (c : Bool) (F G : (Nat → jL → List Value → jS → jR) → (jL → List Value → jS → jR) → jR) (hF : jU F) (hG : jU G) : jU (fun K k => cond c (F K k) (G K k)) := by
  cases c with
  | true => exact hF
  | false => exact hG
theorem jU_ret (rk : Nat) (r : jR) (lv : jL) (st : List Value) : jU (fun _ k => j_ret rk r lv st k) := by
  unfold j_ret
  split
  · exact jU_bind _ _ fun q => jU_k _ _ _
  · exact jU_bind _ _ fun q => jU_k _ _ _
  · exact jU_bind _ _ fun q => jU_k _ _ _
  · exact jU_c none
theorem jU_sw (x : Int32) (d : Nat) (lv : jL) (st : List Value) (σ : jS) : ∀ l : List (Int × Nat), jU (fun K _ => j_sw x (K d lv st σ) (fun b => K b lv st σ) l) := by
  intro l
  induction l with
  | nil => exact jU_K d lv st σ
  | cons q r ih => exact jU_jif _ _ _ (jU_K q.2 lv st σ) ih
set_option maxHeartbeats 4000000 in
theorem js_use (C : Nat → List Value → jS → jR) (rt : Nat) (i : Instr) (ex : List Nat) (lv : jL) (st : List Value) (σ : jS) : jU (fun K k => js C rt K i ex lv st σ k) := by
  cases i
  case iconst | bipush | sipush | lconst => exact jU_k _ _ _
  case ldc =>
    unfold js
    rcases ex with _ | ⟨a, _ | ⟨b, _ | ⟨c, _⟩⟩⟩
    · exact jU_c none
    · exact jU_k _ _ _
    · exact jU_k _ _ _
    · exact jU_c none
  case ldc2_w | ldc_w =>
    rcases ex with _ | ⟨a, _ | ⟨b, _⟩⟩
    · exact jU_c none
    · exact jU_k _ _ _
    · exact jU_c none
  case iload_n | iload | lload_n | lload | aload_n | aload | istore_n | istore | lstore_n | lstore | astore_n | astore | iinc | iadd | isub | imul | iand | ior | ishl | ishr | iushr | ladd | lsub | lmul | land | lor | lneg | lcmp | lshl | lshr | lushr | i2l | l2i | i2c | dup | pop | dup2 => exact jU_q _ _ fun q => jU_k _ _ _
  case idiv | irem | ldiv | lrem => exact jU_q _ _ fun q => jU_ite _ _ _ _ (jU_c none) (jU_k _ _ _)
  case baload | laload | iastore | bastore | lastore => exact jU_q _ _ fun q => jU_bind _ _ fun x => jU_k _ _ _
  case iaload =>
    unfold js
    dsimp only
    split
    · exact jU_q _ _ fun q => jU_bind _ _ fun x => jU_k _ _ _
    · exact jU_q _ _ fun q => jU_jc _ _ (jU_bind _ _ fun x => jU_k _ _ _)
    · exact jU_c none
  case arraylength =>
    unfold js
    dsimp only
    split
    · exact jU_q _ _ fun q => jU_bind _ _ fun x => jU_k _ _ _
    · exact jU_q _ _ fun q => jU_jc _ _ (jU_bind _ _ fun x => jU_k _ _ _)
    · exact jU_c none
  case getfield =>
    show jU (fun K k => js C rt K (.getfield _) ex lv st σ k)
    unfold js
    dsimp only
    split
    · exact jU_q _ _ fun q => jU_jc _ _ (jU_k _ _ _)
    · exact jU_q _ _ fun q => jU_jc _ _ (jU_k _ _ _)
    · exact jU_q _ _ fun q => jU_jc _ _ (jU_k _ _ _)
    · exact jU_q _ _ fun q => jU_jc _ _ (jU_k _ _ _)
    · exact jU_q _ _ fun q => jU_jc _ _ (jU_k _ _ _)
    · exact jU_c none
  case putfield =>
    unfold js
    dsimp only
    split
    · exact jU_q _ _ fun q => jU_jc _ _ (jU_k _ _ _)
    · exact jU_q _ _ fun q => jU_jc _ _ (jU_ite _ _ _ _ (jU_k _ _ _) (jU_c none))
    · exact jU_q _ _ fun q => jU_jc _ _ (jU_k _ _ _)
    · exact jU_q _ _ fun q => jU_jc _ _ (jU_k _ _ _)
    · exact jU_c none
  case goto =>
    unfold js
    dsimp only
    split
    · exact jU_K _ _ _ _
    · exact jU_c none
  case ifCond c _ =>
    unfold js
    dsimp only
    split
    · refine jU_q _ _ fun q => ?_
      cases c <;> first | exact jU_jif _ _ _ (jU_K _ _ _ _) (jU_k _ _ _) | exact jU_jif _ _ _ (jU_k _ _ _) (jU_K _ _ _ _)
    · exact jU_c none
  case if_icmp c _ =>
    unfold js
    dsimp only
    split
    · refine jU_q _ _ fun q => ?_
      cases c <;> first | exact jU_jif _ _ _ (jU_K _ _ _ _) (jU_k _ _ _) | exact jU_jif _ _ _ (jU_k _ _ _) (jU_K _ _ _ _)
    · exact jU_c none
  case tableswitch =>
    unfold js
    dsimp only
    split
    · exact jU_q _ _ fun q => jU_sw _ _ _ _ _ _
    · exact jU_c none
  case lookupswitch =>
    unfold js
    dsimp only
    split
    · exact jU_q _ _ fun q => jU_sw _ _ _ _ _ _
    · exact jU_c none
  case invokevirtual =>
    unfold js
    dsimp only
    split
    · exact jU_q _ _ fun q => jU_bind _ _ fun z => jU_jc _ _ (jU_k _ _ _)
    · exact jU_q _ _ fun q => jU_bind _ _ fun z => jU_ite _ _ _ _ (jU_c none) (jU_jc _ _ (jU_k _ _ _))
    · exact jU_q _ _ fun q => jU_bind _ _ fun z => jU_jc _ _ (jU_k _ _ _)
    · exact jU_q _ _ fun q => jU_q _ _ fun z => jU_jc _ _ (jU_jc _ _ (jU_ret _ _ _ _))
    · exact jU_c none
  case invokestatic =>
    unfold js
    dsimp only
    split
    · exact jU_q _ _ fun q => jU_jc _ _ (jU_bind _ _ fun z => jU_k _ _ _)
    · exact jU_q _ _ fun q => jU_jc _ _ (jU_k _ _ _)
    · exact jU_q _ _ fun q => jU_jc _ _ (jU_k _ _ _)
    · exact jU_q _ _ fun q => jU_jc _ _ (jU_k _ _ _)
    · exact jU_q _ _ fun q => jU_jc _ _ (jU_k _ _ _)
    · exact jU_q _ _ fun q => jU_jc _ _ (jU_ret _ _ _ _)
    · exact jU_c none
  case ireturn =>
    unfold js
    dsimp only
    exact jU_c _
  case lreturn => exact jU_c _
  case return_ => exact jU_c _
  all_goals exact jU_c none
theorem jb_use (C : Nat → List Value → jS → jR) (rt : Nat) (nx : Nat) : ∀ (is : List jN) (lv : jL) (st : List Value) (σ : jS) (K : Nat → jL → List Value → jS → jR) (r : Option Value × jS), jb C rt K nx is lv st σ = some r →
    (∃ j l s t, K j l s t = some r ∧ ∀ K', K' j l s t = some r → jb C rt K' nx is lv st σ = some r) ∨ (∀ K', jb C rt K' nx is lv st σ = some r) := by
  intro is
  induction is with
  | nil =>
    intro lv st σ K r h
    exact Or.inl ⟨nx, lv, st, σ, h, fun _ h => h⟩
  | cons i is ih =>
    intro lv st σ K r h
    obtain ⟨i, ex⟩ := i
    rcases js_use C rt i ex lv st σ K (fun lv st σ => jb C rt K nx is lv st σ) r h with ⟨l, s, t, h1, h2⟩ | ⟨j, l, s, t, h1, h2⟩ | h2
    · rcases ih l s t K r h1 with ⟨j, l', s', t', h3, h4⟩ | h3
      · exact Or.inl ⟨j, l', s', t', h3, fun K' hK' => h2 K' (fun lv st σ => jb C rt K' nx is lv st σ) (h4 K' hK')⟩
      · exact Or.inr fun K' => h2 K' (fun lv st σ => jb C rt K' nx is lv st σ) (h3 K')
    · exact Or.inl ⟨j, l, s, t, h1, fun K' hK' => h2 K' (fun lv st σ => jb C rt K' nx is lv st σ) hK'⟩
    · exact Or.inr fun K' => h2 K' (fun lv st σ => jb C rt K' nx is lv st σ)
theorem jstep_use (C : Nat → List Value → jS → jR) (rt : Nat) (B : List jB) (j : Nat) (lv : jL) (st : List Value) (σ : jS) (K : Nat → jL → List Value → jS → jR) (r : Option Value × jS) (h : jstep C rt B K j lv st σ = some r) :
    (∃ j' l s t, K j' l s t = some r ∧ ∀ K', K' j' l s t = some r → jstep C rt B K' j lv st σ = some r) ∨ (∀ K', jstep C rt B K' j lv st σ = some r) := by
  unfold jstep at h ⊢
  cases hb : B[j]? with
  | none => rw [hb] at h; cases h
  | some b =>
    rw [hb] at h
    rcases jb_use C rt b.2.2.2 b.2.2.1 lv st σ (j_go B K) r h with ⟨j', l, s, t, h1, h2⟩ | h2
    · unfold j_go at h1
      cases hb' : B[j']? with
      | none => rw [hb'] at h1; cases h1
      | some b' =>
        rw [hb'] at h1
        simp only [Option.bind_some] at h1
        cases hp : j_pick b'.2.1 l with
        | none => rw [hp] at h1; cases h1
        | some l' =>
          rw [hp] at h1
          refine Or.inl ⟨j', l', s, t, h1, fun K' hK' => h2 (j_go B K') ?_⟩
          unfold j_go
          rw [hb']
          simp only [Option.bind_some, hp]
          exact hK'
    · exact Or.inr fun K' => h2 (j_go B K')
theorem jrun_mono (C : Nat → List Value → jS → jR) (rt : Nat) (B : List jB) : ∀ (n : Nat) (j : Nat) (lv : jL) (st : List Value) (σ : jS) (r : Option Value × jS), jrun C rt B n j lv st σ = some r → jrun C rt B (n + 1) j lv st σ = some r := by
  intro n
  induction n with
  | zero => intro j lv st σ r h; cases h
  | succ n ih =>
    intro j lv st σ r h
    rcases jstep_use C rt B j lv st σ (jrun C rt B n) r h with ⟨j', l, s, t, h1, h2⟩ | h2
    · exact h2 _ (ih j' l s t r h1)
    · exact h2 _
theorem jrun_le (C : Nat → List Value → jS → jR) (rt : Nat) (B : List jB) {n n' : Nat} (hn : n ≤ n') {j : Nat} {lv : jL} {st : List Value} {σ : jS} {r : Option Value × jS} (h : jrun C rt B n j lv st σ = some r) : jrun C rt B n' j lv st σ = some r := by
  induction hn with
  | refl => exact h
  | step _ ih => exact jrun_mono C rt B _ j lv st σ r ih
theorem db_iff (C : Nat → List Value → jS → jR) (rt : Nat) (B : List jB) (j : Nat) (lv : jL) (st : List Value) (σ : jS) (r : Option Value × jS) : db C rt B j lv st σ = some r ↔ ∃ n, jrun C rt B n j lv st σ = some r := by
  constructor
  · intro h
    unfold db at h
    by_cases he : ∃ r, ∃ n, jrun C rt B n j lv st σ = some r
    · rw [dif_pos he] at h
      cases h
      exact Classical.choose_spec he
    · rw [dif_neg he] at h
      cases h
  · intro ⟨n, h⟩
    have he : ∃ r, ∃ n, jrun C rt B n j lv st σ = some r := ⟨r, n, h⟩
    unfold db
    rw [dif_pos he]
    obtain ⟨n', h'⟩ := Classical.choose_spec he
    have h1 := jrun_le C rt B (Nat.le_max_left n n') h
    have h2 := jrun_le C rt B (Nat.le_max_right n n') h'
    rw [h1] at h2
    exact h2.symm
theorem db_eq (C : Nat → List Value → jS → jR) (rt : Nat) (B : List jB) (j : Nat) (lv : jL) (st : List Value) (σ : jS) : db C rt B j lv st σ = jstep C rt B (db C rt B) j lv st σ := by
  cases h : jstep C rt B (db C rt B) j lv st σ with
  | some r =>
    rw [db_iff]
    rcases jstep_use C rt B j lv st σ _ r h with ⟨j', l, s, t, h1, h2⟩ | h2
    · obtain ⟨n, hn⟩ := (db_iff C rt B j' l s t r).mp h1
      exact ⟨n + 1, h2 _ hn⟩
    · exact ⟨1, h2 _⟩
  | none =>
    cases h' : db C rt B j lv st σ with
    | none => rfl
    | some r =>
      exfalso
      obtain ⟨n, hn⟩ := (db_iff C rt B j lv st σ r).mp h'
      cases n with
      | zero => cases hn
      | succ n =>
        rcases jstep_use C rt B j lv st σ _ r hn with ⟨j', l, s, t, h1, h2⟩ | h2
        · have := h2 (db C rt B) ((db_iff C rt B j' l s t r).mpr ⟨n, h1⟩)
          rw [h] at this
          cases this
        · have := h2 (db C rt B)
          rw [h] at this
          cases this
end
section
/-! The machine's state as a world of the Jvm's heap: cell a of the machine is the heap's cell α a. -/
def tv (α : Nat → Nat) : Value → Value
  | .ref a => .ref (α a)
  | v => v
def tl (α : Nat → Nat) (lv : jL) : jL := lv.map fun q => (q.1, tv α q.2)
theorem tv_cat (α : Nat → Nat) (v : Value) : (tv α v).category = v.category := by cases v <;> rfl
theorem tv_cats (α : Nat → Nat) (st : List Value) : ((st.map (tv α)).map fun v => v.category) = st.map fun v => v.category := by
  induction st with
  | nil => rfl
  | cons v st ih => simp only [List.map_cons, tv_cat, ih]
abbrev jG : Type := ClassId × ClassId × ClassId
def j_ac (G : jG) (z : Nat) : ClassId := match z with
  | 0 => G.1
  | 1 => G.2.1
  | _ => G.2.2
def j_zt (z : Nat) : FieldType := match z with
  | 0 => .int
  | 1 => .boolean
  | _ => .long
abbrev jtys (G : jG) : List (ClassId × FieldType) := [(G.1, .int), (G.2.1, .boolean), (G.2.2, .long)]
noncomputable def jfv (α : Nat → Nat) (σ : jS) (a k f : Nat) : Value := match f with
  | 0 => .int (σ.1 a k)
  | 1 => .int (σ.1 a k)
  | 2 => .long (σ.2.1 a k)
  | 3 => .ref (α (σ.2.2 a k))
  | _ => .ref (α (j_cr a k))
noncomputable def j_fs (α : Nat → Nat) (σ : jS) (a ci : Nat) : List Value := (j_fk ci).mapIdx fun k f => jfv α σ a k f
noncomputable def jE (α : Nat → Nat) (G : jG) (σ : jS) (a : Nat) (e : (Nat × Nat) ⊕ Nat) : va_E := match e with
  | .inl q => .inl (j_ac G q.1, q.2, match q.1 with
    | 0 => .inl (σ.1 a)
    | 1 => .inl (σ.1 a)
    | _ => .inr (.inl (σ.2.1 a)))
  | .inr ci => .inr (ci, j_fs α σ a ci)
noncomputable def jP (α : Nat → Nat) (G : jG) (σ : jS) : va_W := jSH.mapIdx fun a e => (α a, jE α G σ a e)
def jA (α : Nat → Nat) : Nat → Prop := fun q => ∃ a, a < jSH.length ∧ q = α a
theorem jP_get {α : Nat → Nat} {G : jG} {σ : jS} {a : Nat} {e : (Nat × Nat) ⊕ Nat} (h : jSH[a]? = some e) : (jP α G σ)[a]? = some (α a, jE α G σ a e) := by
  unfold jP
  rw [List.getElem?_mapIdx, h]
  rfl
theorem jP_inv {α : Nat → Nat} {G : jG} {σ : jS} {a : Nat} {q : Nat × va_E} (h : (jP α G σ)[a]? = some q) : ∃ e, jSH[a]? = some e ∧ q = (α a, jE α G σ a e) := by
  unfold jP at h
  rw [List.getElem?_mapIdx] at h
  cases he : jSH[a]? with
  | none => rw [he] at h; cases h
  | some e => rw [he] at h; exact ⟨e, rfl, (Option.some.inj h).symm⟩
theorem jP_D {α : Nat → Nat} {G : jG} {σ : jS} (hα : ∀ a b, a < jSH.length → b < jSH.length → α a = α b → a = b) : va_D (jA α) (jP α G σ) := by
  refine ⟨fun i j p q hi hj he => ?_, fun k q hk => ?_⟩
  · obtain ⟨e1, h1, rfl⟩ := jP_inv hi
    obtain ⟨e2, h2, rfl⟩ := jP_inv hj
    exact hα i j (List.getElem?_eq_some_iff.mp h1).1 (List.getElem?_eq_some_iff.mp h2).1 he
  · obtain ⟨e1, h1, rfl⟩ := jP_inv hk
    exact ⟨k, (List.getElem?_eq_some_iff.mp h1).1, rfl⟩
/-- one cell is changed: the others stay -/
theorem jP_set {α : Nat → Nat} {G : jG} {σ σ' : jS} {a : Nat} {e : (Nat × Nat) ⊕ Nat} {x : va_E} (h : jSH[a]? = some e) (h1 : ∀ b, b ≠ a → σ'.1 b = σ.1 b) (h2 : ∀ b, b ≠ a → σ'.2.1 b = σ.2.1 b) (h3 : ∀ b, b ≠ a → σ'.2.2 b = σ.2.2 b) (hx : x = jE α G σ' a e) : (jP α G σ).set a (α a, x) = jP α G σ' := by
  subst hx
  apply List.ext_getElem?
  intro b
  rw [List.getElem?_set]
  by_cases hab : a = b
  · subst hab
    have hl : a < (jP α G σ).length := (List.getElem?_eq_some_iff.mp (jP_get (α := α) (G := G) (σ := σ) h)).1
    rw [if_pos rfl, if_pos hl, jP_get h]
  · rw [if_neg hab]
    unfold jP
    rw [List.getElem?_mapIdx, List.getElem?_mapIdx]
    cases hb : jSH[b]? with
    | none => rfl
    | some e' =>
      have hne : b ≠ a := fun q => hab q.symm
      show some _ = some _
      congr 2
      cases e' with
      | inl q =>
        simp only [jE, h1 b hne, h2 b hne]
      | inr ci =>
        simp only [jE, j_fs, jfv, h1 b hne, h2 b hne, h3 b hne]
theorem j_is_sh {ci a : Nat} (h : j_is ci a = true) : jSH[a]? = some (.inr ci) := by
  unfold j_is at h
  rw [j_sh_eq] at h
  split at h
  · rename_i c hc
    rw [hc, beq_iff_eq.mp h]
  · cases h
theorem j_len_sh {z a n : Nat} (h : j_len z a = some n) : jSH[a]? = some (.inl (z, n)) := by
  unfold j_len at h
  rw [j_sh_eq] at h
  split at h
  · rename_i q hc
    obtain ⟨q1, q2⟩ := q
    cases hz : (q1 == z) with
    | true =>
      rw [hz] at h
      simp only [cond_true, Option.some.injEq] at h
      rw [hc, beq_iff_eq.mp hz, h]
    | false =>
      rw [hz] at h
      cases h
  · cases h
theorem p_I_s {st : List Value} {q : Int32 × List Value} (h : p_I st = some q) : st = .int q.1 :: q.2 := by
  unfold p_I at h; split at h
  · cases h; rfl
  · cases h
theorem p_L_s {st : List Value} {q : Int64 × List Value} (h : p_L st = some q) : st = .long q.1 :: q.2 := by
  unfold p_L at h; split at h
  · cases h; rfl
  · cases h
theorem p_R_s {st : List Value} {q : Nat × List Value} (h : p_R st = some q) : st = .ref q.1 :: q.2 := by
  unfold p_R at h; split at h
  · cases h; rfl
  · cases h
theorem p_II_s {st : List Value} {q : Int32 × Int32 × List Value} (h : p_II st = some q) : st = .int q.2.1 :: .int q.1 :: q.2.2 := by
  unfold p_II at h; split at h
  · cases h; rfl
  · cases h
theorem p_LL_s {st : List Value} {q : Int64 × Int64 × List Value} (h : p_LL st = some q) : st = .long q.2.1 :: .long q.1 :: q.2.2 := by
  unfold p_LL at h; split at h
  · cases h; rfl
  · cases h
theorem p_LI_s {st : List Value} {q : Int64 × Int32 × List Value} (h : p_LI st = some q) : st = .int q.2.1 :: .long q.1 :: q.2.2 := by
  unfold p_LI at h; split at h
  · cases h; rfl
  · cases h
theorem p_RI_s {st : List Value} {q : Nat × Int32 × List Value} (h : p_RI st = some q) : st = .int q.2.1 :: .ref q.1 :: q.2.2 := by
  unfold p_RI at h; split at h
  · cases h; rfl
  · cases h
theorem p_RL_s {st : List Value} {q : Nat × Int64 × List Value} (h : p_RL st = some q) : st = .long q.2.1 :: .ref q.1 :: q.2.2 := by
  unfold p_RL at h; split at h
  · cases h; rfl
  · cases h
theorem p_RR_s {st : List Value} {q : Nat × Nat × List Value} (h : p_RR st = some q) : st = .ref q.2.1 :: .ref q.1 :: q.2.2 := by
  unfold p_RR at h; split at h
  · cases h; rfl
  · cases h
theorem p_RII_s {st : List Value} {q : Nat × Int32 × Int32 × List Value} (h : p_RII st = some q) : st = .int q.2.2.1 :: .int q.2.1 :: .ref q.1 :: q.2.2.2 := by
  unfold p_RII at h; split at h
  · cases h; rfl
  · cases h
theorem p_RIL_s {st : List Value} {q : Nat × Int32 × Int64 × List Value} (h : p_RIL st = some q) : st = .long q.2.2.1 :: .int q.2.1 :: .ref q.1 :: q.2.2.2 := by
  unfold p_RIL at h; split at h
  · cases h; rfl
  · cases h
theorem p_1_s {st : List Value} {q : Value × List Value} (h : p_1 st = some q) : st = q.1 :: q.2 ∧ q.1.category = 1 := by
  unfold p_1 at h; split at h
  · cases h; exact ⟨rfl, rfl⟩
  · cases h; exact ⟨rfl, rfl⟩
  · cases h
theorem p_11_s {st : List Value} {q : Value × Value × List Value} (h : p_11 st = some q) : st = q.2.1 :: q.1 :: q.2.2 ∧ q.1.category = 1 ∧ q.2.1.category = 1 := by
  unfold p_11 at h; split at h
  · cases h; exact ⟨rfl, rfl, rfl⟩
  · cases h; exact ⟨rfl, rfl, rfl⟩
  · cases h
theorem p_cpy_s {st : List Value} {q : Nat × Int32 × Nat × Int32 × Int32 × List Value} (h : p_cpy st = some q) : st = .int q.2.2.2.2.1 :: .int q.2.2.2.1 :: .ref q.2.2.1 :: .int q.2.1 :: .ref q.1 :: q.2.2.2.2.2 := by
  unfold p_cpy at h; split at h
  · cases h; rfl
  · cases h
theorem p_n_s : ∀ (n : Nat) {st : List Value} {q : List Value × List Value}, p_n n st = some q → st = q.1.reverse ++ q.2 ∧ q.1.length = n
  | 0, st, q, h => by
    unfold p_n at h
    cases h
    exact ⟨rfl, rfl⟩
  | n + 1, [], q, h => by
    unfold p_n at h
    cases h
  | n + 1, v :: st, q, h => by
    unfold p_n at h
    obtain ⟨w, hw, h⟩ := Option.bind_eq_some_iff.mp h
    cases h
    obtain ⟨h1, h2⟩ := p_n_s n hw
    subst h1
    refine ⟨?_, ?_⟩
    · simp only [List.reverse_append, List.reverse_cons, List.reverse_nil, List.nil_append, List.cons_append]
    · simp only [List.length_append, List.length_cons, List.length_nil, h2]
theorem j_at_mem {lv : jL} {i : Nat} {v : Value} (h : j_at lv i = some v) : (i, v) ∈ lv := by
  induction lv with
  | nil => cases h
  | cons q l ih =>
    unfold j_at at h
    cases hq : (q.1 == i) with
    | true =>
      rw [hq] at h
      simp only [cond_true, Option.some.injEq] at h
      have e : q = (i, v) := Prod.ext (beq_iff_eq.mp hq) h
      rw [e]
      exact List.mem_cons_self
    | false =>
      rw [hq] at h
      exact List.mem_cons_of_mem _ (ih h)
theorem j_at_ls {α : Nat → Nat} {lv : jL} {i nL : Nat} {v : Value} {ls : Array Slot} (h : j_at lv i = some v) (hl : lv_has ls nL (tl α lv)) : ls[i]? = some (.val (tv α v)) :=
  hl.2.2 (i, tv α v) (List.mem_map.mpr ⟨(i, v), j_at_mem h, rfl⟩)
theorem j_atI_s {lv : jL} {i : Nat} {x : Int32} (h : j_atI lv i = some x) : j_at lv i = some (.int x) := by
  unfold j_atI at h
  obtain ⟨v, hv, h⟩ := Option.bind_eq_some_iff.mp h
  split at h
  · cases h; exact hv
  · cases h
theorem j_atL_s {lv : jL} {i : Nat} {x : Int64} (h : j_atL lv i = some x) : j_at lv i = some (.long x) := by
  unfold j_atL at h
  obtain ⟨v, hv, h⟩ := Option.bind_eq_some_iff.mp h
  split at h
  · cases h; exact hv
  · cases h
theorem j_atR_s {lv : jL} {i : Nat} {x : Nat} (h : j_atR lv i = some x) : j_at lv i = some (.ref x) := by
  unfold j_atR at h
  obtain ⟨v, hv, h⟩ := Option.bind_eq_some_iff.mp h
  split at h
  · cases h; exact hv
  · cases h
theorem j_pick_has {α : Nat → Nat} {lv : jL} {nL : Nat} {ls : Array Slot} (hl : lv_has ls nL (tl α lv)) : ∀ (vs : List Nat) {l : jL}, j_pick vs lv = some l → lv_has ls nL (tl α l)
  | [], l, h => by
    unfold j_pick at h
    cases h
    exact ⟨hl.1, hl.2.1, fun q hq => by cases hq⟩
  | i :: r, l, h => by
    unfold j_pick at h
    obtain ⟨v, hv, h⟩ := Option.bind_eq_some_iff.mp h
    obtain ⟨l', hl', h⟩ := Option.bind_eq_some_iff.mp h
    cases h
    have h1 := j_pick_has hl r hl'
    refine ⟨hl.1, hl.2.1, fun q hq => ?_⟩
    rcases List.mem_cons.mp hq with rfl | hq
    · exact j_at_ls hv hl
    · exact h1.2.2 q hq
theorem tl_st1 (α : Nat → Nat) (lv : jL) (i : Nat) (v : Value) : (i, tv α v) :: (tl α lv).filter (fun q => !(q.1 == i) && !(q.1 + 1 == i && q.2.category == 2)) = tl α (j_st1 lv i v) := by
  unfold j_st1 tl
  rw [List.map_cons, List.filter_map]
  congr 2
  apply List.filter_congr
  intro q _
  simp only [Function.comp, tv_cat]
theorem tl_st2 (α : Nat → Nat) (lv : jL) (i : Nat) (v : Value) : (i, tv α v) :: (tl α lv).filter (fun q => !(q.1 == i) && (!(q.1 == i + 1) && !(q.1 + 1 == i && q.2.category == 2))) = tl α (j_st2 lv i v) := by
  unfold j_st2 tl
  rw [List.map_cons, List.filter_map]
  congr 2
  apply List.filter_congr
  intro q _
  simp only [Function.comp, tv_cat]
theorem j_fs_get {α : Nat → Nat} {σ : jS} {a ci k f : Nat} (h : (j_fk ci)[k]? = some f) : (j_fs α σ a ci)[k]? = some (jfv α σ a k f) := by
  unfold j_fs
  rw [List.getElem?_mapIdx, h]
  rfl
/-- a field is set -/
theorem j_fs_set {α : Nat → Nat} {σ σ' : jS} {a ci k f : Nat} {v : Value} (h : (j_fk ci)[k]? = some f) (hv : v = jfv α σ' a k f) (h1 : ∀ j, j ≠ k → σ'.1 a j = σ.1 a j) (h2 : ∀ j, j ≠ k → σ'.2.1 a j = σ.2.1 a j) (h3 : ∀ j, j ≠ k → σ'.2.2 a j = σ.2.2 a j) : (j_fs α σ a ci).set k v = j_fs α σ' a ci := by
  subst hv
  apply List.ext_getElem?
  intro j
  rw [List.getElem?_set]
  by_cases hkj : k = j
  · subst hkj
    have hl : k < (j_fs α σ a ci).length := (List.getElem?_eq_some_iff.mp (j_fs_get (α := α) (σ := σ) (a := a) h)).1
    rw [if_pos rfl, if_pos hl, j_fs_get h]
  · rw [if_neg hkj]
    unfold j_fs
    rw [List.getElem?_mapIdx, List.getElem?_mapIdx]
    have hne : j ≠ k := fun q => hkj q.symm
    cases hj : (j_fk ci)[j]? with
    | none => rfl
    | some f' =>
      show some _ = some _
      congr 1
      simp only [jfv, h1 j hne, h2 j hne, h3 j hne]
end
section
/-! Each instruction of the small machine is the Jvm's. -/
def jlen (i : Instr) : Nat := match i with
  | .bipush _ => 2
  | .sipush _ => 3
  | .ldc _ => 2
  | .ldc_w _ => 3
  | .ldc2_w _ => 3
  | .iload _ => 2
  | .lload _ => 2
  | .aload _ => 2
  | .istore _ => 2
  | .lstore _ => 2
  | .astore _ => 2
  | .iinc _ _ => 3
  | .getfield _ => 3
  | .putfield _ => 3
  | .goto _ => 3
  | .ifCond _ _ => 3
  | .if_icmp _ _ => 3
  | .invokevirtual _ => 3
  | .invokestatic _ => 3
  | .new _ => 3
  | .invokespecial _ => 3
  | _ => 1
def j_switch (i : Instr) : Bool := match i with
  | .tableswitch _ _ _ _ => true
  | .lookupswitch _ _ => true
  | _ => false
def j_term (i : Instr) : Bool := match i with
  | .goto _ => true
  | .tableswitch _ _ _ _ => true
  | .lookupswitch _ _ => true
  | .ireturn => true
  | .lreturn => true
  | .return_ => true
  | .athrow => true
  | _ => false
def jpc (B : List jB) (j : Nat) : Option Nat := (B[j]?).map fun b => b.1
def j_tgt (B : List jB) (t pc : Nat) (off : Int) : Bool := match jpc B t with
  | some q => decide ((pc : Int) + off = (q : Int))
  | none => false
def j_tgts (B : List jB) (pc : Nat) : List Nat → List Int → Bool
  | [], [] => true
  | t :: ts, o :: os => j_tgt B t pc o && j_tgts B pc ts os
  | _, _ => false
def j_rk (rt : Nat) : Nat := match rt with
  | 0 => 0
  | 1 => 1
  | 2 => 1
  | _ => 2
/-- what is asked of an instruction: own, the class of the method by number; nL, its locals -/
def okI (scr : Bool) (own nL : Nat) (B : List jB) (pc : Nat) (i : Instr) (ex : List Nat) : Bool := match i with
  | .ldc idx => match ex with
    | [v] => jLC.contains (own, idx, v)
    | [v, _] => jLS.contains (own, idx, v)
    | _ => false
  | .ldc_w idx => match ex with
    | [v] => jLC.contains (own, idx, v)
    | _ => false
  | .ldc2_w idx => match ex with
    | [v] => jLJ.contains (own, idx, v)
    | _ => false
  | .istore_n n => decide ((n : Nat) < nL)
  | .istore n => decide (n < nL)
  | .astore_n n => decide ((n : Nat) < nL)
  | .astore n => decide (n < nL)
  | .iinc n _ => decide (n < nL)
  | .lstore_n n => decide ((n : Nat) + 1 < nL)
  | .lstore n => decide (n + 1 < nL)
  | .iaload => match ex with
    | [] => true
    | [y] => scr && decide (y = 9998)
    | _ => false
  | .arraylength => match ex with
    | [] => true
    | [y] => scr && decide (y = 9999)
    | _ => false
  | .getfield idx => match ex with
    | [ci, f, k] => jLF.contains (own, idx, ci, f) && decide ((j_fk ci)[f]? = some k)
    | _ => false
  | .putfield idx => match ex with
    | [ci, f, k] => jLF.contains (own, idx, ci, f) && decide ((j_fk ci)[f]? = some k)
    | _ => false
  | .goto off => match ex with
    | [t] => j_tgt B t pc off
    | _ => false
  | .ifCond _ off => match ex with
    | [t] => j_tgt B t pc off
    | _ => false
  | .if_icmp _ off => match ex with
    | [t] => j_tgt B t pc off
    | _ => false
  | .tableswitch d lo hi offs => match ex with
    | t :: ts => j_tgt B t pc d && j_tgts B pc ts offs.toList && decide (hi + 1 = lo + ts.length) && decide (-2147483648 ≤ lo) && decide (hi < 2147483648)
    | _ => false
  | .lookupswitch d ps => match ex with
    | t :: ts => j_tgt B t pc d && j_tgts B pc ts (ps.toList.map fun q => q.2) && ((ps.toList.zip (ps.toList.drop 1)).all (fun (a, next) => a.1 < next.1)) && ps.toList.all (fun q => decide (-2147483648 ≤ q.1) && decide (q.1 < 2147483648))
    | _ => false
  | .invokevirtual idx => match ex with
    | [x] => decide (x = 901) && jLX.contains (own, idx, 901)
    | [x, _] => decide (x = 902) && jLX.contains (own, idx, 902)
    | [x, _, _] => decide (x = 903) && jLX.contains (own, idx, 903)
    | [y, n, ci, rk] => match jMM[y]? with
      | some M => (jLM.contains (own, idx, y) || jLN.contains (own, idx, y)) && decide (M.2.2.2.2.2.2 = 0) && decide (M.2.2.2.2.2.1 = n) && decide (M.2.2.2.2.1 = ci) && decide (j_rk M.2.2.2.1 = rk) && decide (ci < 10)
      | none => false
    | _ => false
  | .invokestatic idx => match ex with
    | [_] => jLA.contains (own, idx)
    | [x, _] => jLH.contains (own, idx, x)
    | [y, n, rk] => match jMM[y]? with
      | some M => (jLM.contains (own, idx, y) || jLN.contains (own, idx, y)) && decide (M.2.2.2.2.2.2 = 1) && decide (M.2.2.2.2.2.1 = n) && decide (j_rk M.2.2.2.1 = rk)
      | none => false
    | _ => false
  | _ => true
def chkB (scr : Bool) (own nL : Nat) (B : List jB) (cc : ByteArray) (nx : Nat) : List jN → Nat → Bool
  | [], pc => decide (jpc B nx = some pc)
  | (i, ex) :: r, pc => match decode cc pc with
    | .ok (i', len) => decide (i' = i) && (decide (len = jlen i) || j_switch i) && okI scr own nL B pc i ex && (j_term i || chkB scr own nL B cc nx r (pc + len))
    | .error _ => false
theorem chk_cons {scr : Bool} {own nL : Nat} {B : List jB} {cc : ByteArray} {nx pc : Nat} {i : Instr} {ex : List Nat} {r : List jN} (h : chkB scr own nL B cc nx ((i, ex) :: r) pc = true) :
    (∃ len, decode cc pc = .ok (i, len)) ∧ okI scr own nL B pc i ex = true ∧ (j_switch i = false → decode cc pc = .ok (i, jlen i)) ∧ (j_switch i = false → j_term i = false → chkB scr own nL B cc nx r (pc + jlen i) = true) := by
  unfold chkB at h
  split at h
  · rename_i i' len hd
    simp only [Bool.and_eq_true, Bool.or_eq_true, decide_eq_true_eq] at h
    obtain ⟨⟨⟨rfl, h2⟩, h3⟩, h4⟩ := h
    refine ⟨⟨len, hd⟩, h3, fun hs => ?_, fun hs ht => ?_⟩
    · rcases h2 with h2 | h2
      · rw [hd, h2]
      · rw [hs] at h2; cases h2
    · rcases h2 with h2 | h2
      · rcases h4 with h4 | h4
        · rw [ht] at h4; cases h4
        · rw [← h2]; exact h4
      · rw [hs] at h2; cases h2
  · cases h
theorem j_tgt_s {B : List jB} {t pc : Nat} {off : Int} (h : j_tgt B t pc off = true) : ∃ q, jpc B t = some q ∧ (pc : Int) + off = (q : Int) := by
  unfold j_tgt at h
  split at h
  · rename_i q hq
    exact ⟨q, hq, decide_eq_true_eq.mp h⟩
  · cases h
theorem j_tgts_s {B : List jB} {pc : Nat} : ∀ (ts : List Nat) (os : List Int), j_tgts B pc ts os = true → ts.length = os.length ∧ ∀ (k t : Nat), ts[k]? = some t → ∃ o, os[k]? = some o ∧ j_tgt B t pc o = true
  | [], [], _ => ⟨rfl, fun k t h => by cases h⟩
  | [], _ :: _, h => by cases h
  | _ :: _, [], h => by cases h
  | t :: ts, o :: os, h => by
    unfold j_tgts at h
    rw [Bool.and_eq_true] at h
    obtain ⟨h1, h2⟩ := j_tgts_s ts os h.2
    refine ⟨by rw [List.length_cons, List.length_cons, h1], fun k t' hk => ?_⟩
    cases k with
    | zero =>
      cases hk
      exact ⟨o, rfl, h.1⟩
    | succ k => exact h2 k t' hk
theorem toInt_ofI {n : Int} (h1 : -2147483648 ≤ n) (h2 : n < 2147483648) : (Int32.ofInt n).toInt = n := Int32.toInt_ofInt_of_le (by omega) (by omega)
theorem sw_table {x : Int32} {d : jR} {f : Nat → jR} {r : Option Value × jS} : ∀ (bs : List Nat) (lo : Int), -2147483648 ≤ lo → lo + bs.length ≤ 2147483648 → j_sw x d f (j_keys lo bs) = some r →
    (∃ k b : Nat, bs[k]? = some b ∧ x.toInt = lo + k ∧ f b = some r) ∨ ((x.toInt < lo ∨ lo + bs.length ≤ x.toInt) ∧ d = some r)
  | [], lo, _, _, h => by
    refine Or.inr ⟨?_, h⟩
    simp only [List.length_nil]
    omega
  | b :: bs, lo, h1, h2, h => by
    simp only [List.length_cons] at h2
    unfold j_keys j_sw jif at h
    have e0 := toInt_ofI h1 (by omega)
    by_cases hx : x = Int32.ofInt lo
    · rw [if_pos hx] at h
      refine Or.inl ⟨0, b, rfl, ?_, h⟩
      rw [hx, e0]
      simp
    · rw [if_neg hx] at h
      have hne : ¬ x.toInt = lo := fun q => hx (Int32.toInt_inj.mp (by rw [e0]; exact q))
      rcases sw_table bs (lo + 1) (by omega) (by omega) h with ⟨k, b', hk, e, hf⟩ | ⟨e, hd⟩
      · exact Or.inl ⟨k + 1, b', hk, by rw [e]; simp only [Int.natCast_add, Int.cast_ofNat_Int]; omega, hf⟩
      · refine Or.inr ⟨?_, hd⟩
        simp only [List.length_cons]
        omega
theorem sw_look {x : Int32} {d : jR} {f : Nat → jR} {r : Option Value × jS} {dflt : Int} : ∀ (ps : List (Int × Int)) (bs : List Nat), bs.length = ps.length → ps.all (fun q => decide (-2147483648 ≤ q.1) && decide (q.1 < 2147483648)) = true → j_sw x d f ((ps.map fun z => z.1).zip bs) = some r →
    (∃ (k b : Nat) (o : Int), bs[k]? = some b ∧ (ps.map fun z => z.2)[k]? = some o ∧ Op.lookupswitch.offset ps dflt x.toInt = o ∧ f b = some r) ∨ (Op.lookupswitch.offset ps dflt x.toInt = dflt ∧ d = some r)
  | [], [], _, _, h => Or.inr ⟨rfl, h⟩
  | [], _ :: _, hl, _, _ => by cases hl
  | _ :: _, [], hl, _, _ => by cases hl
  | (a, o) :: ps, b :: bs, hl, ha, h => by
    simp only [List.all_cons, Bool.and_eq_true, decide_eq_true_eq] at ha
    have h : j_sw x d f ((a, b) :: ((ps.map fun z => z.1).zip bs)) = some r := h
    unfold j_sw jif at h
    have e0 := toInt_ofI ha.1.1 ha.1.2
    by_cases hx : x = Int32.ofInt a
    · rw [if_pos hx] at h
      refine Or.inl ⟨0, b, o, rfl, rfl, ?_, h⟩
      rw [Op.lookupswitch.offset_cons, if_pos]
      rw [hx, e0]
    · rw [if_neg hx] at h
      rw [lv_osw hx e0]
      rcases sw_look (dflt := dflt) ps bs (by simpa using hl) (by simpa using ha.2) h with ⟨k, b', o', h1, h2, h3, h4⟩ | h1
      · exact Or.inl ⟨k + 1, b', o', h1, h2, h3, h4⟩
      · exact Or.inr h1
end
section
/-! A method's contract over the machine's state; the call. -/
def jrm (d : Nat) : Room := { frames := d + 8, cells := 0, slots := 0, locals := 60 * d + 480 }
def jPc (α : Nat → Nat) (G : jG) (D : va_G) (Z : State → Prop) (σ : jS) (av : List Value) : Array Value → State → Prop := fun v U => v = av.toArray ∧ va_P D jcl (jP α G σ) U.heap ∧ va_K D jcl (jtys G) U ∧ Z U
def jQc (α : Nat → Nat) (G : jG) (D : va_G) (r : Option Value) (σ : jS) : Array Value → State → Outcome → State → Prop := fun _ st oc t => oc = .returned (r.map (tv α)) ∧ va_P D jcl (jP α G σ) t.heap ∧ va_F (jA α) st t
/-- what is true of the state and stays true, whatever happens to the world's cells -/
def jZok (α : Nat → Nat) (Z : State → Prop) : Prop := (∀ U V : State, Z U → U.WarmedH V.vm → U.heap.size ≤ V.heap.size → (∀ q : Nat, q < U.heap.size → ¬ jA α q → V.heap[q]? = U.heap[q]?) → Z V) ∧ (∀ U : State, Z U → ∀ q ∈ jLN, va_Nw (jwN q) U)
def jMt (l : Launch) (α : Nat → Nat) (G : jG) (D : va_G) (Z : State → Prop) (d : Nat) (M : jM) (a : List Value) (σ : jS) (r : Option Value) (σ' : jS) : Prop :=
  Met l M.1 (jwk M :: jws) (jrm d) (jPc α G D Z σ (a.map (tv α))) (jQc α G D r σ') 0 0 (jA α)
theorem jZ_call {α : Nat → Nat} {Z : State → Prop} (hz : jZok α Z) {U : State} (h : Z U) (g : JFrame) (mk : MethodId) (a : Array Value) : Z (U.calling g mk a) :=
  hz.1 U (U.calling g mk a) h (State.WarmedH.refl U) (Nat.le_refl _) (fun _ _ _ => rfl)
theorem jPc_blind {α : Nat → Nat} {G : jG} {D : va_G} {Z : State → Prop} (hz : jZok α Z) (σ : jS) (av : List Value) : FrameBlind (jPc α G D Z σ av) := by
  intro a U g mk h
  obtain ⟨h1, h2, h3, h4⟩ := h
  exact ⟨h1, h2, va_K.moved (u := U) (U := U.calling g mk a) (Vm.Alike.refl U.vm) h3, jZ_call hz h4 g mk a⟩
theorem jws_good {w : Cond} (h : w ∈ jws) : w ∈ jws ∧ ((w.onTables && w.keeps) = true ∨ ∃ ty, w = .arrayClass ty) := ⟨h, good_of_word (List.mem_filter.mp h).2⟩
theorem jws_in {y : Nat} {M : jM} (h : jMM[y]? = some M) : GoodIn jws (jwk M :: jws) := by
  intro w hw
  rcases List.mem_cons.mp hw with rfl | hw
  · exact jws_good (jm_code h)
  · exact jws_good hw
section JCALL
variable {p : Program} {l : Launch} {e : Env} {R : Room} {s : State} {m : MethodId} {args : Array Value} {below : List Frame} {meth : Method} {c : Code} {H : Heap} {locs : List Loc} {cells slots : Nat} {Q : State → Prop}
variable {cc : ByteArray} {nL own : Nat} {D : va_G} {G : jG} {α : Nat → Nat} {Z : State → Prop} {dd : Nat}
/-- what stays the same along a method's walk -/
def jFx (p : Program) (R : Room) (s : State) (m : MethodId) (args : Array Value) (c : Code) (cc : ByteArray) (nL own : Nat) (D : va_G) (G : jG) (α : Nat → Nat) (Z : State → Prop) (dd cells slots : Nat) : Prop :=
  p.tables.exec = Jvm.exec ∧ c.code = cc ∧ c.maxLocals = nL ∧ s.vm.findClass (jon own) = some m.cls ∧ (∀ w ∈ jws, w.before args s = true) ∧ va_K D jcl (jtys G) s ∧ Z s ∧ jZok α Z ∧ (∀ a b, a < jSH.length → b < jSH.length → α a = α b → a = b) ∧ dd + 9 ≤ R.frames ∧ 60 * dd + 540 ≤ R.locals ∧ cells ≤ R.cells ∧ slots ≤ R.slots
theorem j_call {pc : Nat} {ls : Array Slot} {rest st0 : List Value} {aa : Array Value} {r : Option Value} {σ' : jS} {H0 : Heap} (hr : va_Run p l e R s m args below meth c H locs cells slots 0 0 (F0 m pc ls st0) rest (jQc α G D r σ' aa) (jA α)) (hS : va_S (jA α) H0 H locs)
    (kk : ∀ (H1 : Heap) (locs1 : List Loc), va_P D jcl (jP α G σ') H1 → va_S (jA α) H0 H1 locs1 → W p l e R s m args below meth c H1 locs1 cells slots Q (F0 m (pc + 3) ls ((r.map (tv α)).toList ++ rest))) : W p l e R s m args below meth c H locs cells slots Q (F0 m pc ls st0) := by
  intro T hT X
  obtain ⟨v, st₀, t, T', L, h0, X', hL, e1, e2, ⟨hv, hp, hz, hk⟩, st⟩ := hr T hT X
  cases hv
  rw [h0] at hz hk
  obtain ⟨t2, a1, b1⟩ := kk T'.heap (locs ++ L) (by rw [e1]; exact hp)
    ⟨Nat.le_trans hS.1 (by rw [e1]; exact hz), fun q h1 h2 => by rw [e1, hk q (Nat.lt_of_lt_of_le h1 hS.1) h2]; exact hS.2.1 q h1 h2, fun q hq => by
      rcases List.mem_append.mp hq with h | h
      · exact hS.2.2 q h
      · exact hL q h⟩ T' rfl X'
  exact ⟨t2, st t2 a1, b1⟩
theorem jZ_at (F : jFx p R s m args c cc nL own D G α Z dd cells slots) (hS : va_S (jA α) s.heap H locs) {U : State} (hU : U.heap = H) (hW : s.WarmedH U.vm) : Z U := by
  obtain ⟨-, -, -, -, -, -, hZ, hz, -⟩ := F
  exact hz.1 s U hZ hW (by rw [hU]; exact hS.1) (fun q h1 h2 => by rw [hU]; exact hS.2.1 q h1 h2)
theorem jPre (F : jFx p R s m args c cc nL own D G α Z dd cells slots) (hS : va_S (jA α) s.heap H locs) {σ : jS} (hP : va_P D jcl (jP α G σ) H) (av : List Value) : ∀ U : State, U.heap = H → s.WarmedH U.vm → jPc α G D Z σ av av.toArray U := by
  intro U hU hW
  have hZ := jZ_at F hS hU hW
  obtain ⟨-, -, -, -, -, hK, -⟩ := F
  exact ⟨rfl, by rw [hU]; exact hP, va_K.moved hW.alike hK, hZ⟩
theorem jCB (F : jFx p R s m args c cc nL own D G α Z dd cells slots) {y : Nat} {M : jM} (h : jMM[y]? = some M) : (jrm dd).cells = 0 ∧ (jrm dd).slots = 0 ∧ (jrm dd).frames + 1 ≤ R.frames ∧ 8 + (M.2.2.1 + 11) + (jrm dd).locals ≤ R.locals := by
  obtain ⟨-, -, -, -, -, -, -, -, -, h1, h2, -⟩ := F
  obtain ⟨-, -, -, -, -, h3, -⟩ := jm_ok h
  refine ⟨rfl, rfl, h1, ?_⟩
  show 8 + (M.2.2.1 + 11) + (60 * dd + 480) ≤ R.locals
  refine Nat.le_trans ?_ h2
  revert h3
  clear h1 h2 h
  generalize M.2.2.1 = x
  intro h3
  omega
theorem jCallB (F : jFx p R s m args c cc nL own D G α Z dd cells slots) {y idx : Nat} {M : jM} (h : jMM[y]? = some M) (hl : (own, idx, y) ∈ jLM) : CallB R s args (jon own) idx M.1 M.2.1 M.2.2.1 (j_rt M.2.2.2.1) (jwk M :: jws) (jrm dd) 0 0 M.2.2.2.2.2.1 := by
  obtain ⟨b1, b2, b3, b4⟩ := jCB F h
  have hts := F.2.2.2.2.1
  obtain ⟨k1, k2, k3, k4, k5, k6, k7⟩ := jm_ok h
  have hw := jwM_g _ (List.mem_map.mpr ⟨_, hl, rfl⟩)
  have hw2 : Cond.methodLink (jon own) idx M.1 ∈ jws := by
    have e : jwM (own, idx, y) = Cond.methodLink (jon own) idx (jmn y) := rfl
    rw [e] at hw
    unfold jmn at hw
    rw [jmn_eq h] at hw
    exact hw
  exact callB_of M.2.2.2.2.2.1 hts (jws_in h) rfl b1 b2 (hts _ (jm_init h)) (hts _ hw2) ⟨k2, k3, k4⟩ ⟨b3, b4⟩
theorem jCallN (F : jFx p R s m args c cc nL own D G α Z dd cells slots) {y idx : Nat} {M : jM} (h : jMM[y]? = some M) (hl : (own, idx, y) ∈ jLN) : va_CN R s args (jon own) idx M.1 "HalfHands" M.2.1 M.2.2.1 (j_rt M.2.2.2.1) (jwk M :: jws) (jrm dd) 0 0 M.2.2.2.2.2.1 := by
  obtain ⟨b1, b2, b3, b4⟩ := jCB F h
  have hts := F.2.2.2.2.1
  obtain ⟨k1, k2, k3, k4, k5, k6, k7⟩ := jm_ok h
  have hZ := F.2.2.2.2.2.2.1
  have hz := F.2.2.2.2.2.2.2.1
  have hw := hz.2 s hZ _ hl
  have hw2 : va_Nw (Cond.methodLinkNest (jon own) idx M.1 "HalfHands") s := by
    have e : jwN (own, idx, y) = Cond.methodLinkNest (jon own) idx (jmn y) "HalfHands" := rfl
    rw [e] at hw
    unfold jmn at hw
    rw [jmn_eq h] at hw
    exact hw
  exact va_cnB M.2.2.2.2.2.1 hts (jws_in h) rfl b1 b2 hw2 (hts _ (jm_init h)) ⟨k2, k3, k4⟩ ⟨b3, b4⟩
/-- a virtual call of a method of the table -/
theorem j_callV (F : jFx p R s m args c cc nL own D G α Z dd cells slots) {pc idx y : Nat} {M : jM} {a ci : Nat} {av rest : List Value} {ls : Array Slot} {σ σ' : jS} {r : Option Value} (h : jMM[y]? = some M) (hs : M.2.2.2.2.2.2 = 0) (hl : (own, idx, y) ∈ jLM ∨ (own, idx, y) ∈ jLN) (hn : M.2.2.2.2.2.1 = av.length) (hci : M.2.2.2.2.1 = ci) (hc10 : ci < 10) (hi : j_is ci a = true)
    (hM : jMt l α G D Z dd M (.ref a :: av) σ r σ') (hrm : (rest.map fun v => v.category).sum ≤ 8) (hsz : ls.size = nL) (hdg : decode cc pc = .ok (.invokevirtual idx, 3)) (hP : va_P D jcl (jP α G σ) H) (hS : va_S (jA α) s.heap H locs)
    (kk : ∀ (H1 : Heap) (locs1 : List Loc), va_P D jcl (jP α G σ') H1 → va_S (jA α) s.heap H1 locs1 → W p l e R s m args below meth c H1 locs1 cells slots Q (F0 m (pc + 3) ls ((r.map (tv α)).toList ++ rest.map (tv α)))) :
    W p l e R s m args below meth c H locs cells slots Q (F0 m pc ls ((av.map (tv α)).reverse ++ .ref (α a) :: rest.map (tv α))) := by
  have hsh := j_is_sh hi
  have hPa := jP_get (α := α) (G := G) (σ := σ) hsh
  obtain ⟨c1, c2, c3, c4, c5⟩ := jc_ok ci hc10
  obtain ⟨k1, k2, k3, k4, k5, k6, k7⟩ := jm_ok h
  have hcls : M.1.cls = jrr ci := by rw [← k5, hci, c5]
  obtain ⟨v1, v2⟩ := jm_virt h hs
  have hfit : cells + 0 ≤ R.cells ∧ slots + 0 ≤ R.slots := ⟨F.2.2.2.2.2.2.2.2.2.2.2.1, F.2.2.2.2.2.2.2.2.2.2.2.2⟩
  have hpv : PreV s H M.1.cls (α a) (jPc α G D Z σ ((Value.ref a :: av).map (tv α))) (av.map (tv α)) := by
    refine ⟨jPc_blind F.2.2.2.2.2.2.2.1 _ _, ?_, fun U hU hW => jPre F hS hP ((Value.ref a :: av).map (tv α)) U hU hW⟩
    rw [hcls]
    exact va_recv F.2.2.2.2.2.1 hP c1 hPa
  have hts := F.2.2.2.2.1
  have S : CallFix p m c cc nL s args jws (jon own) := ⟨F.1, F.2.1, F.2.2.1, F.2.2.2.1, hts⟩
  have hroom : 2 * (F0 m pc ls ((av.map (tv α)).reverse ++ .ref (α a) :: rest.map (tv α))).monitorRoom + ((rest.map (tv α)).map fun v => v.category).sum ≤ 8 := lv_room (by rw [tv_cats]; exact hrm)
  rcases hl with hl | hl
  · refine j_call (r := r) (va_runV (As := av.map (tv α)) (rest := rest.map (tv α)) S hM ⟨jCallB F h hl, hts _ v1, hts _ v2⟩ hpv rfl (by rw [List.length_map, hn]) hsz rfl hroom hdg hfit) hS kk
  · refine j_call (r := r) (va_runVN (As := av.map (tv α)) (rest := rest.map (tv α)) S hM ⟨jCallN F h hl, hts _ v1, hts _ v2⟩ hpv rfl (by rw [List.length_map, hn]) hsz rfl hroom hdg hfit) hS kk
/-- a static call of a method of the table -/
theorem j_callS (F : jFx p R s m args c cc nL own D G α Z dd cells slots) {pc idx y : Nat} {M : jM} {av rest : List Value} {ls : Array Slot} {σ σ' : jS} {r : Option Value} (h : jMM[y]? = some M) (hs : M.2.2.2.2.2.2 = 1) (hl : (own, idx, y) ∈ jLM ∨ (own, idx, y) ∈ jLN) (hn : M.2.2.2.2.2.1 = av.length)
    (hM : jMt l α G D Z dd M av σ r σ') (hrm : (rest.map fun v => v.category).sum ≤ 8) (hsz : ls.size = nL) (hdg : decode cc pc = .ok (.invokestatic idx, 3)) (hP : va_P D jcl (jP α G σ) H) (hS : va_S (jA α) s.heap H locs)
    (kk : ∀ (H1 : Heap) (locs1 : List Loc), va_P D jcl (jP α G σ') H1 → va_S (jA α) s.heap H1 locs1 → W p l e R s m args below meth c H1 locs1 cells slots Q (F0 m (pc + 3) ls ((r.map (tv α)).toList ++ rest.map (tv α)))) :
    W p l e R s m args below meth c H locs cells slots Q (F0 m pc ls ((av.map (tv α)).reverse ++ rest.map (tv α))) := by
  have v1 := jm_stat h hs
  have hfit : cells + 0 ≤ R.cells ∧ slots + 0 ≤ R.slots := ⟨F.2.2.2.2.2.2.2.2.2.2.2.1, F.2.2.2.2.2.2.2.2.2.2.2.2⟩
  have hpv : PreS s H (jPc α G D Z σ (av.map (tv α))) (av.map (tv α)) := ⟨jPc_blind F.2.2.2.2.2.2.2.1 _ _, fun U hU hW => jPre F hS hP (av.map (tv α)) U hU hW⟩
  have hts := F.2.2.2.2.1
  have S : CallFix p m c cc nL s args jws (jon own) := ⟨F.1, F.2.1, F.2.2.1, F.2.2.2.1, hts⟩
  have hroom : 2 * (F0 m pc ls ((av.map (tv α)).reverse ++ rest.map (tv α))).monitorRoom + ((rest.map (tv α)).map fun v => v.category).sum ≤ 8 := lv_room (by rw [tv_cats]; exact hrm)
  rcases hl with hl | hl
  · refine j_call (r := r) (va_runS (As := av.map (tv α)) (rest := rest.map (tv α)) S hM ⟨jCallB F h hl, hts _ v1⟩ hpv rfl (by rw [List.length_map, hn]) hsz rfl hroom hdg hfit) hS kk
  · refine j_call (r := r) (va_runSN (As := av.map (tv α)) (rest := rest.map (tv α)) S hM ⟨jCallN F h hl, hts _ v1, trivial⟩ hpv rfl (by rw [List.length_map, hn]) hsz rfl hroom hdg hfit) hS kk
end JCALL
end
section
/-! js_ok: an instruction that the small machine does, the Jvm does. -/
section JI
variable {p : Program} {l : Launch} {e : Env} {R : Room} {s : State} {m : MethodId} {args : Array Value} {below : List Frame} {meth : Method} {c : Code} {cells slots : Nat} {Q : State → Prop}
variable {cc : ByteArray} {nL own rt : Nat} {D : va_G} {G : jG} {α : Nat → Nat} {Z : State → Prop} {dd : Nat} {B : List jB} {C : Nat → List Value → jS → jR} {r : Option Value × jS} {scr : Bool}
/-- the walk from a frame of the machine -/
def jWk (p : Program) (l : Launch) (e : Env) (R : Room) (s : State) (m : MethodId) (args : Array Value) (below : List Frame) (meth : Method) (c : Code) (cells slots : Nat) (Q : State → Prop) (nL : Nat) (D : va_G) (G : jG) (α : Nat → Nat) (pc : Nat) (lv : jL) (st : List Value) (σ : jS) : Prop :=
  ∀ (ls : Array Slot) (H : Heap) (locs : List Loc), lv_has ls nL (tl α lv) → va_P D jcl (jP α G σ) H → va_S (jA α) s.heap H locs → W p l e R s m args below meth c H locs cells slots Q (F0 m pc ls (st.map (tv α)))
/-- what the walk takes from outside: contracts of the callees, the script, the Strings, the ends -/
def jHC (l : Launch) (α : Nat → Nat) (G : jG) (D : va_G) (Z : State → Prop) (dd : Nat) (C : Nat → List Value → jS → jR) : Prop := ∀ (y : Nat) (M : jM) (a : List Value) (σ : jS) (v : Option Value) (σ2 : jS), jMM[y]? = some M → C y a σ = some (v, σ2) → jMt l α G D Z dd M a σ v σ2
def jHS (s : State) (α : Nat → Nat) (scr : Bool) (C : Nat → List Value → jS → jR) : Prop := scr = true → ∃ (L : Nat) (xs : Nat → Int32), va_X (α 2000) L xs s s.heap ∧ α 2000 < s.heap.size ∧ ¬ jA α (α 2000) ∧ (∀ (i : Int32) (σ : jS) (w : Int32 × jS), r_I (C 9998 [.int i] σ) = some w → vp_in i L ∧ w = (xs i.toNatClampNeg, σ)) ∧ ∀ (σ : jS) (w : Int32 × jS), r_I (C 9999 [] σ) = some w → w = (Int32.ofNat L, σ)
def jHT (p : Program) (l : Launch) (e : Env) (R : Room) (s : State) (m : MethodId) (args : Array Value) (below : List Frame) (meth : Method) (c : Code) (cells slots : Nat) (Q : State → Prop) (cc : ByteArray) (nL own : Nat) (α : Nat → Nat) : Prop :=
  (∀ (pc idx a : Nat) (ls : Array Slot) (H : Heap) (locs : List Loc) (rest : List Value), ls.size = nL → (own, idx, a) ∈ jLS → decode cc pc = .ok (.ldc idx, 2) → va_S (jA α) s.heap H locs → W p l e R s m args below meth c H locs cells slots Q (F0 m (pc + 2) ls (.ref (α a) :: rest)) → W p l e R s m args below meth c H locs cells slots Q (F0 m pc ls rest)) ∧
  (∀ (pc idx a : Nat) (z : List Nat) (ls : Array Slot) (H : Heap) (locs : List Loc) (rest : List Value), ls.size = nL → (own, idx, 901) ∈ jLX → j_str a = some z → (rest.map fun v => v.category).sum ≤ 8 → decode cc pc = .ok (.invokevirtual idx, 3) → va_S (jA α) s.heap H locs → W p l e R s m args below meth c H locs cells slots Q (F0 m (pc + 3) ls (.int (Int32.ofNat z.length) :: rest)) → W p l e R s m args below meth c H locs cells slots Q (F0 m pc ls (.ref (α a) :: rest))) ∧
  (∀ (pc idx a : Nat) (z : List Nat) (i : Int32) (ls : Array Slot) (H : Heap) (locs : List Loc) (rest : List Value), ls.size = nL → (own, idx, 902) ∈ jLX → j_str a = some z → (rest.map fun v => v.category).sum ≤ 8 → ¬ (i < 0 ∨ z.length ≤ i.toNatClampNeg) → decode cc pc = .ok (.invokevirtual idx, 3) → va_S (jA α) s.heap H locs → W p l e R s m args below meth c H locs cells slots Q (F0 m (pc + 3) ls (.int (Int32.ofNat (z.getD i.toNatClampNeg 0)) :: rest)) → W p l e R s m args below meth c H locs cells slots Q (F0 m pc ls (.int i :: .ref (α a) :: rest))) ∧
  (∀ (pc idx a : Nat) (z : List Nat) (i : Int32) (ls : Array Slot) (H : Heap) (locs : List Loc) (rest : List Value), ls.size = nL → (own, idx, 903) ∈ jLX → j_str a = some z → (rest.map fun v => v.category).sum ≤ 8 → decode cc pc = .ok (.invokevirtual idx, 3) → va_S (jA α) s.heap H locs → W p l e R s m args below meth c H locs cells slots Q (F0 m (pc + 3) ls (.int (j_idx i z 0) :: rest)) → W p l e R s m args below meth c H locs cells slots Q (F0 m pc ls (.int i :: .ref (α a) :: rest)))
def jHR (p : Program) (l : Launch) (e : Env) (R : Room) (s : State) (m : MethodId) (args : Array Value) (below : List Frame) (meth : Method) (c : Code) (cells slots : Nat) (Q : State → Prop) (cc : ByteArray) (rt : Nat) (D : va_G) (G : jG) (α : Nat → Nat) (r : Option Value × jS) : Prop :=
  ∀ (pc : Nat) (ls : Array Slot) (H : Heap) (locs : List Loc), va_P D jcl (jP α G r.2) H → va_S (jA α) s.heap H locs →
    (∀ v, r.1 = some (.int v) → (rt = 1 ∨ rt = 2 ∧ (v = 0 ∨ v = 1)) → decode cc pc = .ok (.ireturn, 1) → W p l e R s m args below meth c H locs cells slots Q (F0 m pc ls [.int v])) ∧
    (∀ v, r.1 = some (.long v) → rt = 3 → decode cc pc = .ok (.lreturn, 1) → W p l e R s m args below meth c H locs cells slots Q (F0 m pc ls [.long v])) ∧
    (r.1 = none → rt = 0 → decode cc pc = .ok (.return_, 1) → W p l e R s m args below meth c H locs cells slots Q (F0 m pc ls []))
theorem contains_s {α : Type} [BEq α] [LawfulBEq α] {l : List α} {a : α} (h : l.contains a = true) : a ∈ l := List.contains_iff_mem.mp h
theorem j_rdI_s {z : Nat} {σ : jS} {a : Nat} {i x : Int32} (h : j_rdI z σ a i = some x) : ∃ n, jSH[a]? = some (.inl (z, n)) ∧ vp_in i n ∧ x = σ.1 a i.toNatClampNeg := by
  unfold j_rdI at h
  obtain ⟨n, hn, h⟩ := Option.bind_eq_some_iff.mp h
  by_cases hc : i < 0 ∨ n ≤ i.toNatClampNeg
  · rw [if_pos hc] at h; cases h
  · rw [if_neg hc] at h; cases h
    exact ⟨n, j_len_sh hn, hc, rfl⟩
theorem j_rdL_s {σ : jS} {a : Nat} {i : Int32} {x : Int64} (h : j_rdL σ a i = some x) : ∃ n, jSH[a]? = some (.inl (2, n)) ∧ vp_in i n ∧ x = σ.2.1 a i.toNatClampNeg := by
  unfold j_rdL at h
  obtain ⟨n, hn, h⟩ := Option.bind_eq_some_iff.mp h
  by_cases hc : i < 0 ∨ n ≤ i.toNatClampNeg
  · rw [if_pos hc] at h; cases h
  · rw [if_neg hc] at h; cases h
    exact ⟨n, j_len_sh hn, hc, rfl⟩
theorem j_wrI_s {σ σ' : jS} {a : Nat} {i x : Int32} (h : j_wrI σ a i x = some σ') : ∃ n, jSH[a]? = some (.inl (0, n)) ∧ vp_in i n ∧ σ' = j_setI σ a i.toNatClampNeg x := by
  unfold j_wrI at h
  obtain ⟨n, hn, h⟩ := Option.bind_eq_some_iff.mp h
  by_cases hc : i < 0 ∨ n ≤ i.toNatClampNeg
  · rw [if_pos hc] at h; cases h
  · rw [if_neg hc] at h; cases h
    exact ⟨n, j_len_sh hn, hc, rfl⟩
theorem j_wrZ_s {σ σ' : jS} {a : Nat} {i x : Int32} (h : j_wrZ σ a i x = some σ') : ∃ n, jSH[a]? = some (.inl (1, n)) ∧ vp_in i n ∧ (x = 0 ∨ x = 1) ∧ σ' = j_setI σ a i.toNatClampNeg x := by
  unfold j_wrZ at h
  obtain ⟨n, hn, h⟩ := Option.bind_eq_some_iff.mp h
  by_cases hc : i < 0 ∨ n ≤ i.toNatClampNeg
  · rw [if_pos hc] at h; cases h
  · rw [if_neg hc] at h
    by_cases hx : x = 0 ∨ x = 1
    · rw [if_pos hx] at h; cases h
      exact ⟨n, j_len_sh hn, hc, hx, rfl⟩
    · rw [if_neg hx] at h; cases h
theorem j_wrL_s {σ σ' : jS} {a : Nat} {i : Int32} {x : Int64} (h : j_wrL σ a i x = some σ') : ∃ n, jSH[a]? = some (.inl (2, n)) ∧ vp_in i n ∧ σ' = j_setL σ a i.toNatClampNeg x := by
  unfold j_wrL at h
  obtain ⟨n, hn, h⟩ := Option.bind_eq_some_iff.mp h
  by_cases hc : i < 0 ∨ n ≤ i.toNatClampNeg
  · rw [if_pos hc] at h; cases h
  · rw [if_neg hc] at h; cases h
    exact ⟨n, j_len_sh hn, hc, rfl⟩
theorem j_setI_ne {σ : jS} {a k b : Nat} {v : Int32} (h : b ≠ a) : (j_setI σ a k v).1 b = σ.1 b := by
  funext j
  show (if b = a ∧ j = k then v else σ.1 b j) = _
  rw [if_neg (fun q => h q.1)]
theorem j_setL_ne {σ : jS} {a k b : Nat} {v : Int64} (h : b ≠ a) : (j_setL σ a k v).2.1 b = σ.2.1 b := by
  funext j
  show (if b = a ∧ j = k then v else σ.2.1 b j) = _
  rw [if_neg (fun q => h q.1)]
theorem j_setR_ne {σ : jS} {a k b v : Nat} (h : b ≠ a) : (j_setR σ a k v).2.2 b = σ.2.2 b := by
  funext j
  show (if b = a ∧ j = k then v else σ.2.2 b j) = _
  rw [if_neg (fun q => h q.1)]
theorem j_setI_arr (σ : jS) (a k : Nat) (v : Int32) : (j_setI σ a k v).1 a = upd (σ.1 a) k v := by
  funext j
  show (if a = a ∧ j = k then v else σ.1 a j) = if j = k then v else σ.1 a j
  simp
theorem j_setL_arr (σ : jS) (a k : Nat) (v : Int64) : (j_setL σ a k v).2.1 a = vp_updL (σ.2.1 a) k v := by
  funext j
  show (if a = a ∧ j = k then v else σ.2.1 a j) = if j = k then v else σ.2.1 a j
  simp
theorem jP_setI {α : Nat → Nat} {G : jG} {σ : jS} {a n k : Nat} {x : Int32} (z : Nat) (hz : z = 0 ∨ z = 1) (h : jSH[a]? = some (.inl (z, n))) : (jP α G σ).set a (α a, .inl (j_ac G z, n, .inl (upd (σ.1 a) k x))) = jP α G (j_setI σ a k x) := by
  refine jP_set h (fun b hb => j_setI_ne hb) (fun _ _ => rfl) (fun _ _ => rfl) ?_
  rcases hz with rfl | rfl
  · show _ = Sum.inl (_, _, _)
    simp only [j_setI_arr]
  · show _ = Sum.inl (_, _, _)
    simp only [j_setI_arr]
theorem jP_setL {α : Nat → Nat} {G : jG} {σ : jS} {a n k : Nat} {x : Int64} (h : jSH[a]? = some (.inl (2, n))) : (jP α G σ).set a (α a, .inl (j_ac G 2, n, .inr (.inl (vp_updL (σ.2.1 a) k x)))) = jP α G (j_setL σ a k x) := by
  refine jP_set h (fun _ _ => rfl) (fun b hb => j_setL_ne hb) (fun _ _ => rfl) ?_
  show _ = Sum.inl (_, _, _)
  simp only [j_setL_arr]
theorem vp_nar_b {x : Int32} (h : x = 0 ∨ x = 1) : vp_nar .boolean x = x ∧ narrow .boolean (.int x) = .int x ∧ fits .boolean (.int x) = true := by
  rcases h with rfl | rfl <;> exact ⟨by decide, by decide, by decide⟩
theorem jfk_s {ci f k : Nat} (h : (j_fk ci)[f]? = some k) : ci < 10 ∧ f < jnn ci ∧ (k = 0 → jyy ci f = .int ∧ (jtt ci f).2.2.2 = false) ∧ (k = 1 → jyy ci f = .boolean ∧ (jtt ci f).2.2.2 = false) ∧ (k = 2 → jyy ci f = .long ∧ (jtt ci f).2.2.2 = false) ∧ (k = 3 → jyy ci f = .object (jrr 6) ∧ (jtt ci f).2.2.2 = false) := by
  have hl := (List.getElem?_eq_some_iff.mp h).1
  have hci : ci < 10 := jfk_len ci (by omega)
  have h1 := List.all_eq_true.mp jfk_all ci (List.mem_range.mpr hci)
  have h2 := List.all_eq_true.mp h1 f (List.mem_range.mpr hl)
  have hg : (j_fk ci).getD f 9 = k := by rw [List.getD_eq_getElem?_getD, h]; rfl
  unfold jfk_b at h2
  rw [hg] at h2
  simp only [Bool.and_eq_true, decide_eq_true_eq] at h2
  refine ⟨hci, h2.1, ?_, ?_, ?_, ?_⟩
  all_goals
    intro hk
    subst hk
    have h3 := h2.2
    simp only [Bool.and_eq_true, decide_eq_true_eq, Bool.not_eq_true'] at h3
    exact h3
end JI
end
section
section JS
variable {p : Program} {l : Launch} {e : Env} {R : Room} {s : State} {m : MethodId} {args : Array Value} {below : List Frame} {meth : Method} {c : Code} {cells slots : Nat} {Q : State → Prop}
variable {cc : ByteArray} {nL own rt : Nat} {D : va_G} {G : jG} {α : Nat → Nat} {Z : State → Prop} {dd : Nat} {B : List jB} {C : Nat → List Value → jS → jR} {r : Option Value × jS} {scr : Bool}
theorem j_ret_s {rk : Nat} {x : jR} {lv : jL} {st : List Value} {k : jL → List Value → jS → jR} {r : Option Value × jS} (h : j_ret rk x lv st k = some r) : ∃ (v : Option Value) (σ' : jS), x = some (v, σ') ∧ k lv (v.toList ++ st) σ' = some r ∧ (∀ α, (v.map (tv α)).toList = v.toList) := by
  unfold j_ret at h
  split at h
  · obtain ⟨q, hq, h⟩ := Option.bind_eq_some_iff.mp h
    unfold r_V at hq
    split at hq
    · cases hq; exact ⟨none, _, rfl, h, fun _ => rfl⟩
    · cases hq
  · obtain ⟨q, hq, h⟩ := Option.bind_eq_some_iff.mp h
    unfold r_I at hq
    split at hq
    · cases hq; exact ⟨some (.int _), _, rfl, h, fun _ => rfl⟩
    · cases hq
  · obtain ⟨q, hq, h⟩ := Option.bind_eq_some_iff.mp h
    unfold r_L at hq
    split at hq
    · cases hq; exact ⟨some (.long _), _, rfl, h, fun _ => rfl⟩
    · cases hq
  · cases h
theorem cond_s {α : Type} {b : Bool} {x : Option α} {y : α} (h : cond b x none = some y) : b = true ∧ x = some y := by
  cases b with
  | true => exact ⟨rfl, h⟩
  | false => cases h
theorem jq_s {α : Type} {o : Option α} {f : α → jR} {r : Option Value × jS} (h : jq o f = some r) : ∃ x, o = some x ∧ f x = some r := by
  cases o with
  | none => cases h
  | some x => exact ⟨x, rfl, h⟩
theorem jc_s {b : Bool} {x : jR} {y : Option Value × jS} (h : jc b x = some y) : b = true ∧ x = some y := by
  cases b with
  | true => exact ⟨rfl, h⟩
  | false => cases h
theorem ble_s {a b : Nat} (h : Nat.ble a b = true) : a ≤ b := Nat.le_of_ble_eq_true h
theorem jP_put {α : Nat → Nat} {G : jG} {σ σ' : jS} {a ci f k : Nat} {v : Value} (hsh : jSH[a]? = some (.inr ci)) (hfk : (j_fk ci)[f]? = some k) (h1 : ∀ b, b ≠ a → σ'.1 b = σ.1 b) (h2 : ∀ b, b ≠ a → σ'.2.1 b = σ.2.1 b) (h3 : ∀ b, b ≠ a → σ'.2.2 b = σ.2.2 b) (g1 : ∀ j, j ≠ f → σ'.1 a j = σ.1 a j) (g2 : ∀ j, j ≠ f → σ'.2.1 a j = σ.2.1 a j) (g3 : ∀ j, j ≠ f → σ'.2.2 a j = σ.2.2 a j) (hv : v = jfv α σ' a f k) :
    (jP α G σ).set a (α a, .inr (ci, (j_fs α σ a ci).set f v)) = jP α G σ' := by
  refine jP_set hsh h1 h2 h3 ?_
  show Sum.inr (ci, _) = Sum.inr (ci, _)
  rw [j_fs_set hfk hv g1 g2 g3]
theorem jP_putI {α : Nat → Nat} {G : jG} {σ : jS} {a ci f k : Nat} {x : Int32} (hsh : jSH[a]? = some (.inr ci)) (hfk : (j_fk ci)[f]? = some k) (hk : k = 0 ∨ k = 1) : (jP α G σ).set a (α a, .inr (ci, (j_fs α σ a ci).set f (.int x))) = jP α G (j_setI σ a f x) := by
  refine jP_put hsh hfk (fun b hb => j_setI_ne hb) (fun _ _ => rfl) (fun _ _ => rfl) (fun j hj => ?_) (fun _ _ => rfl) (fun _ _ => rfl) ?_
  · show (if a = a ∧ j = f then x else σ.1 a j) = _
    rw [if_neg (fun q => hj q.2)]
  · have e : (j_setI σ a f x).1 a f = x := by
      show (if a = a ∧ f = f then x else σ.1 a f) = x
      rw [if_pos ⟨rfl, rfl⟩]
    rcases hk with rfl | rfl
    · show _ = Value.int ((j_setI σ a f x).1 a f)
      rw [e]
    · show _ = Value.int ((j_setI σ a f x).1 a f)
      rw [e]
theorem jP_putL {α : Nat → Nat} {G : jG} {σ : jS} {a ci f : Nat} {x : Int64} (hsh : jSH[a]? = some (.inr ci)) (hfk : (j_fk ci)[f]? = some 2) : (jP α G σ).set a (α a, .inr (ci, (j_fs α σ a ci).set f (.long x))) = jP α G (j_setL σ a f x) := by
  refine jP_put hsh hfk (fun _ _ => rfl) (fun b hb => j_setL_ne hb) (fun _ _ => rfl) (fun _ _ => rfl) (fun j hj => ?_) (fun _ _ => rfl) ?_
  · show (if a = a ∧ j = f then x else σ.2.1 a j) = _
    rw [if_neg (fun q => hj q.2)]
  · have e : (j_setL σ a f x).2.1 a f = x := by
      show (if a = a ∧ f = f then x else σ.2.1 a f) = x
      rw [if_pos ⟨rfl, rfl⟩]
    show _ = Value.long ((j_setL σ a f x).2.1 a f)
    rw [e]
theorem jP_putR {α : Nat → Nat} {G : jG} {σ : jS} {a ci f x : Nat} (hsh : jSH[a]? = some (.inr ci)) (hfk : (j_fk ci)[f]? = some 3) : (jP α G σ).set a (α a, .inr (ci, (j_fs α σ a ci).set f (.ref (α x)))) = jP α G (j_setR σ a f x) := by
  refine jP_put hsh hfk (fun _ _ => rfl) (fun _ _ => rfl) (fun b hb => j_setR_ne hb) (fun _ _ => rfl) (fun _ _ => rfl) (fun j hj => ?_) ?_
  · show (if a = a ∧ j = f then x else σ.2.2 a j) = _
    rw [if_neg (fun q => hj q.2)]
  · have e : (j_setR σ a f x).2.2 a f = x := by
      show (if a = a ∧ f = f then x else σ.2.2 a f) = x
      rw [if_pos ⟨rfl, rfl⟩]
    show _ = Value.ref (α ((j_setR σ a f x).2.2 a f))
    rw [e]
theorem jP_cpy {α : Nat → Nat} {G : jG} {σ : jS} {a0 sp a1 dp n n1 : Nat} (h : jSH[a1]? = some (.inl (0, n1))) : (jP α G σ).set a1 (α a1, .inl (j_ac G 0, n1, .inl (va_cpy (σ.1 a0) (σ.1 a1) sp dp n))) = jP α G (j_cpy σ a0 sp a1 dp n) := by
  refine jP_set h (fun b hb => ?_) (fun _ _ => rfl) (fun _ _ => rfl) ?_
  · funext j
    show (if b = a1 ∧ dp ≤ j ∧ j < dp + n then σ.1 a0 (sp + (j - dp)) else σ.1 b j) = _
    rw [if_neg (fun q => hb q.1)]
  · show Sum.inl (_, _, Sum.inl _) = Sum.inl (_, _, Sum.inl _)
    congr 3
    congr 1
    funext j
    show (if dp ≤ j ∧ j < dp + n then _ else _) = (if a1 = a1 ∧ dp ≤ j ∧ j < dp + n then _ else _)
    simp
theorem map_toList (α : Nat → Nat) (v : Option Value) (st : List Value) : (v.toList ++ st).map (tv α) = (v.map (tv α)).toList ++ st.map (tv α) := by
  cases v <;> rfl
set_option maxHeartbeats 8000000 in
theorem js_ok (F : jFx p R s m args c cc nL own D G α Z dd cells slots) (hC : jHC l α G D Z dd C) (hSc : jHS s α scr C) (hT : jHT p l e R s m args below meth c cells slots Q cc nL own α) (hR : jHR p l e R s m args below meth c cells slots Q cc rt D G α r)
    {K : Nat → jL → List Value → jS → jR} (hK : ∀ j lv st σ q, K j lv st σ = some r → jpc B j = some q → jWk p l e R s m args below meth c cells slots Q nL D G α q lv st σ)
    {i : Instr} {ex : List Nat} {pc : Nat} (hok : okI scr own nL B pc i ex = true) (hd0 : ∃ len, decode cc pc = .ok (i, len)) (hd : j_switch i = false → decode cc pc = .ok (i, jlen i)) {k : jL → List Value → jS → jR} {lv : jL} {st : List Value} {σ : jS} (h : js C rt K i ex lv st σ k = some r)
    (hk : j_switch i = false → j_term i = false → ∀ lv st σ, k lv st σ = some r → jWk p l e R s m args below meth c cells slots Q nL D G α (pc + jlen i) lv st σ) :
    jWk p l e R s m args below meth c cells slots Q nL D G α pc lv st σ := by
  obtain ⟨hx, hb, hml, hown, hts, hKw, hZ, hz, hα, hfr, hlo, hcell, hslot⟩ := id F
  have hDD : ∀ σ : jS, va_D (jA α) (jP α G σ) := fun σ => jP_D hα
  intro ls H locs hl hP hS
  cases i
  case iconst n => exact lv_iconst hx hb (hd rfl) rfl (hk rfl rfl _ _ _ h ls H locs hl hP hS)
  case bipush n => exact lv_bipush hx hb (hd rfl) rfl (hk rfl rfl _ _ _ h ls H locs hl hP hS)
  case sipush n => exact lv_sipush hx hb (hd rfl) rfl (hk rfl rfl _ _ _ h ls H locs hl hP hS)
  case lconst n => exact lv_lconst hx hb (hd rfl) rfl (hk rfl rfl _ _ _ h ls H locs hl hP hS)
  case ldc n =>
    rcases ex with _ | ⟨v, _ | ⟨w, _ | ⟨u, _⟩⟩⟩
    · cases h
    · have hw := hts _ (jwC_g _ (List.mem_map.mpr ⟨_, contains_s hok, rfl⟩))
      exact lv_ldc hx hb hown hw (hd rfl) (hk rfl rfl _ _ _ h ls H locs hl hP hS)
    · exact hT.1 pc n v ls H locs _ hl.1 (contains_s hok) (hd rfl) hS (hk rfl rfl _ _ _ h ls H locs hl hP hS)
    · cases h
  case ldc_w n =>
    rcases ex with _ | ⟨v, _ | ⟨w, _⟩⟩
    · cases h
    · have hw := hts _ (jwC_g _ (List.mem_map.mpr ⟨_, contains_s hok, rfl⟩))
      exact lv_ldcw hx hb hown hw (hd rfl) (hk rfl rfl _ _ _ h ls H locs hl hP hS)
    · cases h
  case ldc2_w n =>
    rcases ex with _ | ⟨v, _ | ⟨w, _⟩⟩
    · cases h
    · have hw := hts _ (jwJ_g _ (List.mem_map.mpr ⟨_, contains_s hok, rfl⟩))
      exact lv_ldc2 hx hb hown hw (hd rfl) (hk rfl rfl _ _ _ h ls H locs hl hP hS)
    · cases h
  case iload_n n =>
    obtain ⟨x, hq, hh⟩ := jq_s h; clear h; have h := hh; clear hh
    exact lv_iload_n hx hb (hd rfl) rfl (j_at_ls (j_atI_s hq) hl) (hk rfl rfl _ _ _ h ls H locs hl hP hS)
  case iload n =>
    obtain ⟨x, hq, hh⟩ := jq_s h; clear h; have h := hh; clear hh
    exact lv_iload hx hb (hd rfl) (j_at_ls (j_atI_s hq) hl) (hk rfl rfl _ _ _ h ls H locs hl hP hS)
  case lload_n n =>
    obtain ⟨x, hq, hh⟩ := jq_s h; clear h; have h := hh; clear hh
    exact lv_lload_n hx hb (hd rfl) rfl (j_at_ls (j_atL_s hq) hl) (hk rfl rfl _ _ _ h ls H locs hl hP hS)
  case lload n =>
    obtain ⟨x, hq, hh⟩ := jq_s h; clear h; have h := hh; clear hh
    exact lv_lload hx hb (hd rfl) (j_at_ls (j_atL_s hq) hl) (hk rfl rfl _ _ _ h ls H locs hl hP hS)
  case aload_n n =>
    obtain ⟨x, hq, hh⟩ := jq_s h; clear h; have h := hh; clear hh
    exact lv_aload_n hx hb (hd rfl) rfl (j_at_ls (j_atR_s hq) hl) (hk rfl rfl _ _ _ h ls H locs hl hP hS)
  case aload n =>
    obtain ⟨x, hq, hh⟩ := jq_s h; clear h; have h := hh; clear hh
    exact lv_aload hx hb (hd rfl) (j_at_ls (j_atR_s hq) hl) (hk rfl rfl _ _ _ h ls H locs hl hP hS)
  case istore_n n =>
    obtain ⟨q, hq, hh⟩ := jq_s h; clear h; have h := hh; clear hh
    have e := p_I_s hq
    subst e
    exact lv_istore_n hx hb (hd rfl) rfl hl (decide_eq_true_eq.mp hok) (tl_st1 α lv _ (.int q.1)) (fun ls' hl' => hk rfl rfl _ _ _ h ls' H locs hl' hP hS)
  case istore n =>
    obtain ⟨q, hq, hh⟩ := jq_s h; clear h; have h := hh; clear hh
    have e := p_I_s hq
    subst e
    exact lv_istore hx hb (hd rfl) hl (decide_eq_true_eq.mp hok) (tl_st1 α lv _ (.int q.1)) (fun ls' hl' => hk rfl rfl _ _ _ h ls' H locs hl' hP hS)
  case lstore_n n =>
    obtain ⟨q, hq, hh⟩ := jq_s h; clear h; have h := hh; clear hh
    have e := p_L_s hq
    subst e
    exact lv_lstore_n hx hb (hd rfl) rfl hl (decide_eq_true_eq.mp hok) (tl_st2 α lv _ (.long q.1)) (fun ls' hl' => hk rfl rfl _ _ _ h ls' H locs hl' hP hS)
  case lstore n =>
    obtain ⟨q, hq, hh⟩ := jq_s h; clear h; have h := hh; clear hh
    have e := p_L_s hq
    subst e
    exact lv_lstore hx hb (hd rfl) hl (decide_eq_true_eq.mp hok) (tl_st2 α lv _ (.long q.1)) (fun ls' hl' => hk rfl rfl _ _ _ h ls' H locs hl' hP hS)
  case astore_n n =>
    obtain ⟨q, hq, hh⟩ := jq_s h; clear h; have h := hh; clear hh
    have e := p_R_s hq
    subst e
    exact lv_astore_n hx hb (hd rfl) rfl hl (decide_eq_true_eq.mp hok) (tl_st1 α lv _ (.ref q.1)) (fun ls' hl' => hk rfl rfl _ _ _ h ls' H locs hl' hP hS)
  case astore n =>
    obtain ⟨q, hq, hh⟩ := jq_s h; clear h; have h := hh; clear hh
    have e := p_R_s hq
    subst e
    exact lv_astore hx hb (hd rfl) hl (decide_eq_true_eq.mp hok) (tl_st1 α lv _ (.ref q.1)) (fun ls' hl' => hk rfl rfl _ _ _ h ls' H locs hl' hP hS)
  case iinc n cst =>
    obtain ⟨x, hq, hh⟩ := jq_s h; clear h; have h := hh; clear hh
    have hm := j_at_mem (j_atI_s hq)
    have hm2 : (n, Value.int x) ∈ tl α lv := List.mem_map.mpr ⟨_, hm, rfl⟩
    obtain ⟨kk, hkk⟩ := List.getElem?_of_mem hm2
    exact lv_iinc hx hb (hd rfl) hl hkk rfl (decide_eq_true_eq.mp hok) (tl_st1 α lv _ (.int (x + Int32.ofInt cst))) (fun ls' hl' => hk rfl rfl _ _ _ h ls' H locs hl' hP hS)
  case iadd =>
    obtain ⟨q, hq, hh⟩ := jq_s h; clear h; have h := hh; clear hh
    have e := p_II_s hq
    subst e
    exact lv_iadd hx hb (hd rfl) (hk rfl rfl _ _ _ h ls H locs hl hP hS)
  case isub =>
    obtain ⟨q, hq, hh⟩ := jq_s h; clear h; have h := hh; clear hh
    have e := p_II_s hq
    subst e
    exact lv_isub hx hb (hd rfl) (hk rfl rfl _ _ _ h ls H locs hl hP hS)
  case imul =>
    obtain ⟨q, hq, hh⟩ := jq_s h; clear h; have h := hh; clear hh
    have e := p_II_s hq
    subst e
    exact lv_imul hx hb (hd rfl) (hk rfl rfl _ _ _ h ls H locs hl hP hS)
  case iand =>
    obtain ⟨q, hq, hh⟩ := jq_s h; clear h; have h := hh; clear hh
    have e := p_II_s hq
    subst e
    exact lv_iand hx hb (hd rfl) (hk rfl rfl _ _ _ h ls H locs hl hP hS)
  case ior =>
    obtain ⟨q, hq, hh⟩ := jq_s h; clear h; have h := hh; clear hh
    have e := p_II_s hq
    subst e
    exact lv_ior hx hb (hd rfl) (hk rfl rfl _ _ _ h ls H locs hl hP hS)
  case ishl =>
    obtain ⟨q, hq, hh⟩ := jq_s h; clear h; have h := hh; clear hh
    have e := p_II_s hq
    subst e
    exact lv_ishl hx hb (hd rfl) (hk rfl rfl _ _ _ h ls H locs hl hP hS)
  case ishr =>
    obtain ⟨q, hq, hh⟩ := jq_s h; clear h; have h := hh; clear hh
    have e := p_II_s hq
    subst e
    exact lv_ishr hx hb (hd rfl) (hk rfl rfl _ _ _ h ls H locs hl hP hS)
  case iushr =>
    obtain ⟨q, hq, hh⟩ := jq_s h; clear h; have h := hh; clear hh
    have e := p_II_s hq
    subst e
    exact lv_iushr hx hb (hd rfl) rfl (hk rfl rfl _ _ _ h ls H locs hl hP hS)
  case idiv =>
    obtain ⟨q, hq, hh⟩ := jq_s h; clear h; have h := hh; clear hh
    have e := p_II_s hq
    subst e
    by_cases h0 : q.2.1 = 0
    · rw [if_pos h0] at h; cases h
    · rw [if_neg h0] at h
      exact lv_idiv hx hb (hd rfl) h0 (hk rfl rfl _ _ _ h ls H locs hl hP hS)
  case irem =>
    obtain ⟨q, hq, hh⟩ := jq_s h; clear h; have h := hh; clear hh
    have e := p_II_s hq
    subst e
    by_cases h0 : q.2.1 = 0
    · rw [if_pos h0] at h; cases h
    · rw [if_neg h0] at h
      exact lv_irem hx hb (hd rfl) h0 (hk rfl rfl _ _ _ h ls H locs hl hP hS)
  case ladd =>
    obtain ⟨q, hq, hh⟩ := jq_s h; clear h; have h := hh; clear hh
    have e := p_LL_s hq
    subst e
    exact lv_ladd hx hb (hd rfl) (hk rfl rfl _ _ _ h ls H locs hl hP hS)
  case lsub =>
    obtain ⟨q, hq, hh⟩ := jq_s h; clear h; have h := hh; clear hh
    have e := p_LL_s hq
    subst e
    exact lv_lsub hx hb (hd rfl) (hk rfl rfl _ _ _ h ls H locs hl hP hS)
  case lmul =>
    obtain ⟨q, hq, hh⟩ := jq_s h; clear h; have h := hh; clear hh
    have e := p_LL_s hq
    subst e
    exact lv_lmul hx hb (hd rfl) (hk rfl rfl _ _ _ h ls H locs hl hP hS)
  case land =>
    obtain ⟨q, hq, hh⟩ := jq_s h; clear h; have h := hh; clear hh
    have e := p_LL_s hq
    subst e
    exact lv_land hx hb (hd rfl) (hk rfl rfl _ _ _ h ls H locs hl hP hS)
  case lor =>
    obtain ⟨q, hq, hh⟩ := jq_s h; clear h; have h := hh; clear hh
    have e := p_LL_s hq
    subst e
    exact lv_lor hx hb (hd rfl) (hk rfl rfl _ _ _ h ls H locs hl hP hS)
  case ldiv =>
    obtain ⟨q, hq, hh⟩ := jq_s h; clear h; have h := hh; clear hh
    have e := p_LL_s hq
    subst e
    by_cases h0 : q.2.1 = 0
    · rw [if_pos h0] at h; cases h
    · rw [if_neg h0] at h
      exact lv_ldiv hx hb (hd rfl) h0 (hk rfl rfl _ _ _ h ls H locs hl hP hS)
  case lrem =>
    obtain ⟨q, hq, hh⟩ := jq_s h; clear h; have h := hh; clear hh
    have e := p_LL_s hq
    subst e
    by_cases h0 : q.2.1 = 0
    · rw [if_pos h0] at h; cases h
    · rw [if_neg h0] at h
      exact lv_lrem hx hb (hd rfl) h0 (hk rfl rfl _ _ _ h ls H locs hl hP hS)
  case lneg =>
    obtain ⟨q, hq, hh⟩ := jq_s h; clear h; have h := hh; clear hh
    have e := p_L_s hq
    subst e
    exact lv_lneg hx hb (hd rfl) (hk rfl rfl _ _ _ h ls H locs hl hP hS)
  case lcmp =>
    obtain ⟨q, hq, hh⟩ := jq_s h; clear h; have h := hh; clear hh
    have e := p_LL_s hq
    subst e
    exact W.lcmp hx hb (hd rfl) (hk rfl rfl _ _ _ h ls H locs hl hP hS)
  case lshl =>
    obtain ⟨q, hq, hh⟩ := jq_s h; clear h; have h := hh; clear hh
    have e := p_LI_s hq
    subst e
    exact lv_lshl hx hb (hd rfl) rfl (hk rfl rfl _ _ _ h ls H locs hl hP hS)
  case lshr =>
    obtain ⟨q, hq, hh⟩ := jq_s h; clear h; have h := hh; clear hh
    have e := p_LI_s hq
    subst e
    exact lv_lshr hx hb (hd rfl) rfl (hk rfl rfl _ _ _ h ls H locs hl hP hS)
  case lushr =>
    obtain ⟨q, hq, hh⟩ := jq_s h; clear h; have h := hh; clear hh
    have e := p_LI_s hq
    subst e
    exact lv_lushr hx hb (hd rfl) rfl (hk rfl rfl _ _ _ h ls H locs hl hP hS)
  case i2l =>
    obtain ⟨q, hq, hh⟩ := jq_s h; clear h; have h := hh; clear hh
    have e := p_I_s hq
    subst e
    exact lv_i2l hx hb (hd rfl) rfl (hk rfl rfl _ _ _ h ls H locs hl hP hS)
  case l2i =>
    obtain ⟨q, hq, hh⟩ := jq_s h; clear h; have h := hh; clear hh
    have e := p_L_s hq
    subst e
    exact lv_l2i hx hb (hd rfl) rfl (hk rfl rfl _ _ _ h ls H locs hl hP hS)
  case i2c =>
    obtain ⟨q, hq, hh⟩ := jq_s h; clear h; have h := hh; clear hh
    have e := p_I_s hq
    subst e
    exact lv_i2c hx hb (hd rfl) rfl (hk rfl rfl _ _ _ h ls H locs hl hP hS)
  case dup =>
    obtain ⟨q, hq, hh⟩ := jq_s h; clear h; have h := hh; clear hh
    obtain ⟨e, hc1⟩ := p_1_s hq
    subst e
    exact lv_dup hx hb (hd rfl) (by rw [tv_cat]; exact hc1) (hk rfl rfl _ _ _ h ls H locs hl hP hS)
  case pop =>
    obtain ⟨q, hq, hh⟩ := jq_s h; clear h; have h := hh; clear hh
    obtain ⟨e, hc1⟩ := p_1_s hq
    subst e
    exact lv_pop hx hb (hd rfl) (by rw [tv_cat]; exact hc1) (hk rfl rfl _ _ _ h ls H locs hl hP hS)
  case dup2 =>
    obtain ⟨q, hq, hh⟩ := jq_s h; clear h; have h := hh; clear hh
    obtain ⟨e, hc1, hc2⟩ := p_11_s hq
    subst e
    exact lv_dup2_11 hx hb (hd rfl) (by rw [tv_cat]; exact hc2) (by rw [tv_cat]; exact hc1) (hk rfl rfl _ _ _ h ls H locs hl hP hS)
  case iaload =>
    rcases ex with _ | ⟨y, _ | ⟨w, _⟩⟩
    · obtain ⟨q, hq, hh⟩ := jq_s h; clear h; have h := hh; clear hh
      obtain ⟨x, hr, hh⟩ := Option.bind_eq_some_iff.mp h; clear h; have h := hh; clear hh
      have e := p_RI_s hq
      subst e
      obtain ⟨n, hn, hin, e⟩ := j_rdI_s hr
      subst e
      exact va_iald hx hb hKw hP q.1 0 (jP_get hn) rfl hin (hd rfl) (hk rfl rfl _ _ _ h ls H locs hl hP hS)
    · obtain ⟨q, hq, hh⟩ := jq_s h; clear h; have h := hh; clear hh
      obtain ⟨h20, hh⟩ := jc_s h; clear h; have h := hh; clear hh
      obtain ⟨w, hw, hh⟩ := Option.bind_eq_some_iff.mp h; clear h; have h := hh; clear hh
      have e := p_RI_s hq
      subst e
      have hok : (scr && decide (y = 9998)) = true := hok
      rw [Bool.and_eq_true, decide_eq_true_eq] at hok
      obtain ⟨hs1, hs2⟩ := hok
      subst hs2
      obtain ⟨L, xs, hX, hbl, hbA, hrd, -⟩ := hSc hs1
      obtain ⟨hin, e⟩ := hrd _ _ _ hw
      subst e
      have e2 : q.1 = 2000 := beq_iff_eq.mp h20
      show W p l e R s m args below meth c H locs cells slots Q (F0 m pc ls (.int q.2.1 :: .ref (α q.1) :: q.2.2.map (tv α)))
      rw [e2]
      exact va_sld hx hb hX hbl hbA hS hin (hd rfl) (hk rfl rfl _ _ _ h ls H locs hl hP hS)
    · cases h
  case baload =>
    obtain ⟨q, hq, hh⟩ := jq_s h; clear h; have h := hh; clear hh
    obtain ⟨x, hr, hh⟩ := Option.bind_eq_some_iff.mp h; clear h; have h := hh; clear hh
    have e := p_RI_s hq
    subst e
    obtain ⟨n, hn, hin, e⟩ := j_rdI_s hr
    subst e
    exact va_zald hx hb hKw hP q.1 1 (jP_get hn) rfl hin (hd rfl) (hk rfl rfl _ _ _ h ls H locs hl hP hS)
  case laload =>
    obtain ⟨q, hq, hh⟩ := jq_s h; clear h; have h := hh; clear hh
    obtain ⟨x, hr, hh⟩ := Option.bind_eq_some_iff.mp h; clear h; have h := hh; clear hh
    have e := p_RI_s hq
    subst e
    obtain ⟨n, hn, hin, e⟩ := j_rdL_s hr
    subst e
    exact va_lald hx hb hKw hP q.1 2 (jP_get hn) rfl hin (hd rfl) (hk rfl rfl _ _ _ h ls H locs hl hP hS)
  case iastore =>
    obtain ⟨q, hq, hh⟩ := jq_s h; clear h; have h := hh; clear hh
    obtain ⟨x, hr, hh⟩ := Option.bind_eq_some_iff.mp h; clear h; have h := hh; clear hh
    have e := p_RII_s hq
    subst e
    obtain ⟨n, hn, hin, e⟩ := j_wrI_s hr
    subst e
    exact va_iast hx hb hKw hP (hDD σ) hS q.1 0 (jP_get hn) rfl hin (hd rfl) (fun H1 locs1 hP1 _ hS1 => hk rfl rfl _ _ _ h ls H1 locs1 hl (by rw [← jP_setI 0 (Or.inl rfl) hn]; exact hP1) hS1)
  case bastore =>
    obtain ⟨q, hq, hh⟩ := jq_s h; clear h; have h := hh; clear hh
    obtain ⟨x, hr, hh⟩ := Option.bind_eq_some_iff.mp h; clear h; have h := hh; clear hh
    have e := p_RII_s hq
    subst e
    obtain ⟨n, hn, hin, hz01, e⟩ := j_wrZ_s hr
    subst e
    refine va_zast hx hb hKw hP (hDD σ) hS q.1 1 (jP_get hn) rfl hin (hd rfl) (fun H1 locs1 hP1 _ hS1 => hk rfl rfl _ _ _ h ls H1 locs1 hl ?_ hS1)
    rw [(vp_nar_b hz01).1] at hP1
    rw [← jP_setI 1 (Or.inr rfl) hn]
    exact hP1
  case lastore =>
    obtain ⟨q, hq, hh⟩ := jq_s h; clear h; have h := hh; clear hh
    obtain ⟨x, hr, hh⟩ := Option.bind_eq_some_iff.mp h; clear h; have h := hh; clear hh
    have e := p_RIL_s hq
    subst e
    obtain ⟨n, hn, hin, e⟩ := j_wrL_s hr
    subst e
    exact va_last hx hb hKw hP (hDD σ) hS q.1 2 (jP_get hn) rfl hin (hd rfl) (fun H1 locs1 hP1 _ hS1 => hk rfl rfl _ _ _ h ls H1 locs1 hl (by rw [← jP_setL hn]; exact hP1) hS1)
  case arraylength =>
    rcases ex with _ | ⟨y, _ | ⟨w, _⟩⟩
    · obtain ⟨q, hq, hh⟩ := jq_s h; clear h; have h := hh; clear hh
      obtain ⟨n, hn, hh⟩ := Option.bind_eq_some_iff.mp h; clear h; have h := hh; clear hh
      have e := p_R_s hq
      subst e
      exact va_alen hx hb hKw hP q.1 0 (jP_get (j_len_sh hn)) rfl rfl (hd rfl) (hk rfl rfl _ _ _ h ls H locs hl hP hS)
    · obtain ⟨q, hq, hh⟩ := jq_s h; clear h; have h := hh; clear hh
      obtain ⟨h20, hh⟩ := jc_s h; clear h; have h := hh; clear hh
      obtain ⟨w, hw, hh⟩ := Option.bind_eq_some_iff.mp h; clear h; have h := hh; clear hh
      have e := p_R_s hq
      subst e
      have hok : (scr && decide (y = 9999)) = true := hok
      rw [Bool.and_eq_true, decide_eq_true_eq] at hok
      obtain ⟨hs1, hs2⟩ := hok
      subst hs2
      obtain ⟨L, xs, hX, hbl, hbA, -, hrd⟩ := hSc hs1
      have e := hrd _ _ hw
      subst e
      have e2 : q.1 = 2000 := beq_iff_eq.mp h20
      show W p l e R s m args below meth c H locs cells slots Q (F0 m pc ls (.ref (α q.1) :: q.2.map (tv α)))
      rw [e2]
      exact va_slen hx hb hX hbl hbA hS (hd rfl) (hk rfl rfl _ _ _ h ls H locs hl hP hS)
    · cases h
  case goto off =>
    rcases ex with _ | ⟨t, _ | ⟨w, _⟩⟩
    · cases h
    · obtain ⟨q, hq, ht⟩ := j_tgt_s hok
      exact lv_goto hx hb (hd rfl) ht (hK _ _ _ _ _ h hq ls H locs hl hP hS)
    · cases h
  case ifCond cnd off =>
    rcases ex with _ | ⟨t, _ | ⟨w, _⟩⟩
    · cases h
    · obtain ⟨tq, htq, ht⟩ := j_tgt_s hok
      obtain ⟨q, hq, hh⟩ := jq_s h; clear h; have h := hh; clear hh
      have e := p_I_s hq
      subst e
      cases cnd
      case eq => exact lv_if_eq hx hb (hd rfl) ht (fun hc => hK _ _ _ _ _ (by dsimp only [jif] at h; rw [if_pos hc] at h; exact h) htq ls H locs hl hP hS) (fun hc => hk rfl rfl _ _ _ (by dsimp only [jif] at h; rw [if_neg hc] at h; exact h) ls H locs hl hP hS)
      case ne => exact lv_if_ne hx hb (hd rfl) ht (fun hc => hK _ _ _ _ _ (by dsimp only [jif] at h; rw [if_neg hc] at h; exact h) htq ls H locs hl hP hS) (fun hc => hk rfl rfl _ _ _ (by dsimp only [jif] at h; rw [if_pos hc] at h; exact h) ls H locs hl hP hS)
      case lt => exact lv_if_lt hx hb (hd rfl) ht (fun hc => hK _ _ _ _ _ (by dsimp only [jif] at h; rw [if_pos hc] at h; exact h) htq ls H locs hl hP hS) (fun hc => hk rfl rfl _ _ _ (by dsimp only [jif] at h; rw [if_neg hc] at h; exact h) ls H locs hl hP hS)
      case ge => exact lv_if_ge hx hb (hd rfl) ht (fun hc => hK _ _ _ _ _ (by dsimp only [jif] at h; rw [if_pos hc] at h; exact h) htq ls H locs hl hP hS) (fun hc => hk rfl rfl _ _ _ (by dsimp only [jif] at h; rw [if_neg hc] at h; exact h) ls H locs hl hP hS)
      case gt => exact lv_if_gt hx hb (hd rfl) ht (fun hc => hK _ _ _ _ _ (by dsimp only [jif] at h; rw [if_pos hc] at h; exact h) htq ls H locs hl hP hS) (fun hc => hk rfl rfl _ _ _ (by dsimp only [jif] at h; rw [if_neg hc] at h; exact h) ls H locs hl hP hS)
      case le => exact lv_if_le hx hb (hd rfl) ht (fun hc => hK _ _ _ _ _ (by dsimp only [jif] at h; rw [if_pos hc] at h; exact h) htq ls H locs hl hP hS) (fun hc => hk rfl rfl _ _ _ (by dsimp only [jif] at h; rw [if_neg hc] at h; exact h) ls H locs hl hP hS)
    · cases h
  case if_icmp cnd off =>
    rcases ex with _ | ⟨t, _ | ⟨w, _⟩⟩
    · cases h
    · obtain ⟨tq, htq, ht⟩ := j_tgt_s hok
      obtain ⟨q, hq, hh⟩ := jq_s h; clear h; have h := hh; clear hh
      have e := p_II_s hq
      subst e
      cases cnd
      case eq => exact lv_icmp_eq hx hb (hd rfl) ht (fun hc => hK _ _ _ _ _ (by dsimp only [jif] at h; rw [if_pos hc] at h; exact h) htq ls H locs hl hP hS) (fun hc => hk rfl rfl _ _ _ (by dsimp only [jif] at h; rw [if_neg hc] at h; exact h) ls H locs hl hP hS)
      case ne => exact lv_icmp_ne hx hb (hd rfl) ht (fun hc => hK _ _ _ _ _ (by dsimp only [jif] at h; rw [if_neg hc] at h; exact h) htq ls H locs hl hP hS) (fun hc => hk rfl rfl _ _ _ (by dsimp only [jif] at h; rw [if_pos hc] at h; exact h) ls H locs hl hP hS)
      case lt => exact lv_icmp_lt hx hb (hd rfl) ht (fun hc => hK _ _ _ _ _ (by dsimp only [jif] at h; rw [if_pos hc] at h; exact h) htq ls H locs hl hP hS) (fun hc => hk rfl rfl _ _ _ (by dsimp only [jif] at h; rw [if_neg hc] at h; exact h) ls H locs hl hP hS)
      case ge => exact lv_icmp_ge hx hb (hd rfl) ht (fun hc => hK _ _ _ _ _ (by dsimp only [jif] at h; rw [if_pos hc] at h; exact h) htq ls H locs hl hP hS) (fun hc => hk rfl rfl _ _ _ (by dsimp only [jif] at h; rw [if_neg hc] at h; exact h) ls H locs hl hP hS)
      case gt => exact lv_icmp_gt hx hb (hd rfl) ht (fun hc => hK _ _ _ _ _ (by dsimp only [jif] at h; rw [if_pos hc] at h; exact h) htq ls H locs hl hP hS) (fun hc => hk rfl rfl _ _ _ (by dsimp only [jif] at h; rw [if_neg hc] at h; exact h) ls H locs hl hP hS)
      case le => exact lv_icmp_le hx hb (hd rfl) ht (fun hc => hK _ _ _ _ _ (by dsimp only [jif] at h; rw [if_pos hc] at h; exact h) htq ls H locs hl hP hS) (fun hc => hk rfl rfl _ _ _ (by dsimp only [jif] at h; rw [if_neg hc] at h; exact h) ls H locs hl hP hS)
    · cases h
  case tableswitch d lo hi offs =>
    rcases ex with _ | ⟨t, ts⟩
    · cases h
    · have hok : (j_tgt B t pc d && j_tgts B pc ts offs.toList && decide (hi + 1 = lo + ts.length) && decide (-2147483648 ≤ lo) && decide (hi < 2147483648)) = true := hok
      simp only [Bool.and_eq_true, decide_eq_true_eq] at hok
      obtain ⟨⟨⟨⟨o1, o2⟩, o3⟩, o4⟩, o5⟩ := hok
      obtain ⟨q, hq, hh⟩ := jq_s h; clear h; have h := hh; clear hh
      have e := p_I_s hq
      subst e
      obtain ⟨len, hdl⟩ := hd0
      obtain ⟨l1, l2⟩ := j_tgts_s _ _ o2
      rcases sw_table ts lo o4 (by omega) h with ⟨kq, b, hb1, hx1, hf⟩ | ⟨hx1, hf⟩
      · obtain ⟨off, hoff, htg⟩ := l2 kq b hb1
        obtain ⟨tq, htq, ht⟩ := j_tgt_s htg
        have hkl : kq < ts.length := (List.getElem?_eq_some_iff.mp hb1).1
        refine lv_tableIn hx hb hdl (by omega) (by omega) (off := off) ?_ ht (hK _ _ _ _ _ hf htq ls H locs hl hP hS)
        have e3 : (q.1.toInt - lo).toNat = kq := by omega
        rw [e3, ← Array.getElem?_toList]
        exact hoff
      · obtain ⟨tq, htq, ht⟩ := j_tgt_s o1
        exact lv_tableOut hx hb hdl (by omega) ht (hK _ _ _ _ _ hf htq ls H locs hl hP hS)
  case lookupswitch d ps =>
    rcases ex with _ | ⟨t, ts⟩
    · cases h
    · have hok : (j_tgt B t pc d && j_tgts B pc ts (ps.toList.map fun q => q.2) && ((ps.toList.zip (ps.toList.drop 1)).all (fun (a, next) => a.1 < next.1)) && ps.toList.all (fun q => decide (-2147483648 ≤ q.1) && decide (q.1 < 2147483648))) = true := hok
      rw [Bool.and_eq_true, Bool.and_eq_true, Bool.and_eq_true] at hok
      obtain ⟨⟨⟨o1, o2⟩, o3⟩, o4⟩ := hok
      obtain ⟨q, hq, hh⟩ := jq_s h; clear h; have h := hh; clear hh
      have e := p_I_s hq
      subst e
      obtain ⟨len, hdl⟩ := hd0
      obtain ⟨l1, l2⟩ := j_tgts_s _ _ o2
      rcases sw_look (dflt := d) ps.toList ts (by rw [l1, List.length_map]) o4 h with ⟨kq, b, off, hb1, ho1, ho2, hf⟩ | ⟨ho2, hf⟩
      · obtain ⟨off', hoff, htg⟩ := l2 kq b hb1
        have e4 : off' = off := Option.some.inj (hoff.symm.trans ho1)
        subst e4
        obtain ⟨tq, htq, ht⟩ := j_tgt_s htg
        exact lv_lookup hx hb hdl o3 ho2 ht (hK _ _ _ _ _ hf htq ls H locs hl hP hS)
      · obtain ⟨tq, htq, ht⟩ := j_tgt_s o1
        exact lv_lookup hx hb hdl o3 ho2 ht (hK _ _ _ _ _ hf htq ls H locs hl hP hS)
  case getfield idx =>
    unfold js at h
    dsimp only at h
    split at h
    · rename_i ci f
      have hok : (jLF.contains (own, idx, ci, f) && decide ((j_fk ci)[f]? = some 0)) = true := hok
      rw [Bool.and_eq_true, decide_eq_true_eq] at hok
      obtain ⟨o1, o2⟩ := hok
      obtain ⟨q, hq, hh⟩ := jq_s h; clear h; have h := hh; clear hh
      obtain ⟨hi, hh⟩ := jc_s h; clear h; have h := hh; clear hh
      have e := p_R_s hq
      subst e
      obtain ⟨hci, hf, -⟩ := jfk_s o2
      obtain ⟨c1, c2, c3, c4, c5⟩ := jc_ok ci hci
      have hw := hts _ (jwF_g _ (List.mem_map.mpr ⟨_, contains_s o1, rfl⟩))
      exact va_get hx hb hts c2 hown hKw hP q.1 (jP_get (j_is_sh hi)) c1 f hf hw (fun _ h => h) (j_fs_get o2) (hd rfl) (hk rfl rfl _ _ _ h ls H locs hl hP hS)
    · rename_i ci f
      have hok : (jLF.contains (own, idx, ci, f) && decide ((j_fk ci)[f]? = some 1)) = true := hok
      rw [Bool.and_eq_true, decide_eq_true_eq] at hok
      obtain ⟨o1, o2⟩ := hok
      obtain ⟨q, hq, hh⟩ := jq_s h; clear h; have h := hh; clear hh
      obtain ⟨hi, hh⟩ := jc_s h; clear h; have h := hh; clear hh
      have e := p_R_s hq
      subst e
      obtain ⟨hci, hf, -⟩ := jfk_s o2
      obtain ⟨c1, c2, c3, c4, c5⟩ := jc_ok ci hci
      have hw := hts _ (jwF_g _ (List.mem_map.mpr ⟨_, contains_s o1, rfl⟩))
      exact va_get hx hb hts c2 hown hKw hP q.1 (jP_get (j_is_sh hi)) c1 f hf hw (fun _ h => h) (j_fs_get o2) (hd rfl) (hk rfl rfl _ _ _ h ls H locs hl hP hS)
    · rename_i ci f
      have hok : (jLF.contains (own, idx, ci, f) && decide ((j_fk ci)[f]? = some 2)) = true := hok
      rw [Bool.and_eq_true, decide_eq_true_eq] at hok
      obtain ⟨o1, o2⟩ := hok
      obtain ⟨q, hq, hh⟩ := jq_s h; clear h; have h := hh; clear hh
      obtain ⟨hi, hh⟩ := jc_s h; clear h; have h := hh; clear hh
      have e := p_R_s hq
      subst e
      obtain ⟨hci, hf, -⟩ := jfk_s o2
      obtain ⟨c1, c2, c3, c4, c5⟩ := jc_ok ci hci
      have hw := hts _ (jwF_g _ (List.mem_map.mpr ⟨_, contains_s o1, rfl⟩))
      exact va_get hx hb hts c2 hown hKw hP q.1 (jP_get (j_is_sh hi)) c1 f hf hw (fun _ h => h) (j_fs_get o2) (hd rfl) (hk rfl rfl _ _ _ h ls H locs hl hP hS)
    · rename_i ci f
      have hok : (jLF.contains (own, idx, ci, f) && decide ((j_fk ci)[f]? = some 3)) = true := hok
      rw [Bool.and_eq_true, decide_eq_true_eq] at hok
      obtain ⟨o1, o2⟩ := hok
      obtain ⟨q, hq, hh⟩ := jq_s h; clear h; have h := hh; clear hh
      obtain ⟨hi, hh⟩ := jc_s h; clear h; have h := hh; clear hh
      have e := p_R_s hq
      subst e
      obtain ⟨hci, hf, -⟩ := jfk_s o2
      obtain ⟨c1, c2, c3, c4, c5⟩ := jc_ok ci hci
      have hw := hts _ (jwF_g _ (List.mem_map.mpr ⟨_, contains_s o1, rfl⟩))
      exact va_get hx hb hts c2 hown hKw hP q.1 (jP_get (j_is_sh hi)) c1 f hf hw (fun _ h => h) (j_fs_get o2) (hd rfl) (hk rfl rfl _ _ _ h ls H locs hl hP hS)
    · rename_i ci f
      have hok : (jLF.contains (own, idx, ci, f) && decide ((j_fk ci)[f]? = some 4)) = true := hok
      rw [Bool.and_eq_true, decide_eq_true_eq] at hok
      obtain ⟨o1, o2⟩ := hok
      obtain ⟨q, hq, hh⟩ := jq_s h; clear h; have h := hh; clear hh
      obtain ⟨hi, hh⟩ := jc_s h; clear h; have h := hh; clear hh
      have e := p_R_s hq
      subst e
      obtain ⟨hci, hf, -⟩ := jfk_s o2
      obtain ⟨c1, c2, c3, c4, c5⟩ := jc_ok ci hci
      have hw := hts _ (jwF_g _ (List.mem_map.mpr ⟨_, contains_s o1, rfl⟩))
      exact va_get hx hb hts c2 hown hKw hP q.1 (jP_get (j_is_sh hi)) c1 f hf hw (fun _ h => h) (j_fs_get o2) (hd rfl) (hk rfl rfl _ _ _ h ls H locs hl hP hS)
    · cases h
  case putfield idx =>
    unfold js at h
    dsimp only at h
    split at h
    · rename_i ci f
      have hok : (jLF.contains (own, idx, ci, f) && decide ((j_fk ci)[f]? = some 0)) = true := hok
      rw [Bool.and_eq_true, decide_eq_true_eq] at hok
      obtain ⟨o1, o2⟩ := hok
      obtain ⟨q, hq, hh⟩ := jq_s h; clear h; have h := hh; clear hh
      obtain ⟨hi, hh⟩ := jc_s h; clear h; have h := hh; clear hh
      have e := p_RI_s hq
      subst e
      obtain ⟨hci, hf, t0, t1, t2, t3⟩ := jfk_s o2
      obtain ⟨c1, c2, c3, c4, c5⟩ := jc_ok ci hci
      have hw := hts _ (jwF_g _ (List.mem_map.mpr ⟨_, contains_s o1, rfl⟩))
      have hlen : f < (j_fs α σ q.1 ci).length := (List.getElem?_eq_some_iff.mp (j_fs_get (α := α) (σ := σ) (a := q.1) o2)).1
      exact va_put (ty := .int) hx hb hts c2 (jyy ci) c4 c3 hown hKw hP (hDD σ) hS q.1 (jP_get (j_is_sh hi)) c1 f hf hw (fun _ h => h) (t0 rfl).2 (by rw [c4 f hf, (t0 rfl).1]) rfl rfl hlen (hd rfl) (fun H1 locs1 hP1 _ hS1 => hk rfl rfl _ _ _ h ls H1 locs1 hl (by rw [← (jP_putI (j_is_sh hi) o2 (Or.inl rfl))]; exact hP1) hS1)
    · rename_i ci f
      have hok : (jLF.contains (own, idx, ci, f) && decide ((j_fk ci)[f]? = some 1)) = true := hok
      rw [Bool.and_eq_true, decide_eq_true_eq] at hok
      obtain ⟨o1, o2⟩ := hok
      obtain ⟨q, hq, hh⟩ := jq_s h; clear h; have h := hh; clear hh
      obtain ⟨hi, hh⟩ := jc_s h; clear h; have h := hh; clear hh
      have e := p_RI_s hq
      subst e
      have h01 : q.2.1 = 0 ∨ q.2.1 = 1 := by
        rcases Decidable.em (q.2.1 = 0 ∨ q.2.1 = 1) with g | g
        · exact g
        · rw [if_neg g] at h; cases h
      rw [if_pos h01] at h
      obtain ⟨hci, hf, t0, t1, t2, t3⟩ := jfk_s o2
      obtain ⟨c1, c2, c3, c4, c5⟩ := jc_ok ci hci
      have hw := hts _ (jwF_g _ (List.mem_map.mpr ⟨_, contains_s o1, rfl⟩))
      have hlen : f < (j_fs α σ q.1 ci).length := (List.getElem?_eq_some_iff.mp (j_fs_get (α := α) (σ := σ) (a := q.1) o2)).1
      exact va_put (ty := .boolean) hx hb hts c2 (jyy ci) c4 c3 hown hKw hP (hDD σ) hS q.1 (jP_get (j_is_sh hi)) c1 f hf hw (fun _ h => h) (t1 rfl).2 (by rw [c4 f hf, (t1 rfl).1]) (vp_nar_b h01).2.1 (vp_nar_b h01).2.2 hlen (hd rfl) (fun H1 locs1 hP1 _ hS1 => hk rfl rfl _ _ _ h ls H1 locs1 hl (by rw [← (jP_putI (j_is_sh hi) o2 (Or.inr rfl))]; exact hP1) hS1)
    · rename_i ci f
      have hok : (jLF.contains (own, idx, ci, f) && decide ((j_fk ci)[f]? = some 2)) = true := hok
      rw [Bool.and_eq_true, decide_eq_true_eq] at hok
      obtain ⟨o1, o2⟩ := hok
      obtain ⟨q, hq, hh⟩ := jq_s h; clear h; have h := hh; clear hh
      obtain ⟨hi, hh⟩ := jc_s h; clear h; have h := hh; clear hh
      have e := p_RL_s hq
      subst e
      obtain ⟨hci, hf, t0, t1, t2, t3⟩ := jfk_s o2
      obtain ⟨c1, c2, c3, c4, c5⟩ := jc_ok ci hci
      have hw := hts _ (jwF_g _ (List.mem_map.mpr ⟨_, contains_s o1, rfl⟩))
      have hlen : f < (j_fs α σ q.1 ci).length := (List.getElem?_eq_some_iff.mp (j_fs_get (α := α) (σ := σ) (a := q.1) o2)).1
      exact va_put (ty := .long) hx hb hts c2 (jyy ci) c4 c3 hown hKw hP (hDD σ) hS q.1 (jP_get (j_is_sh hi)) c1 f hf hw (fun _ h => h) (t2 rfl).2 (by rw [c4 f hf, (t2 rfl).1]) rfl rfl hlen (hd rfl) (fun H1 locs1 hP1 _ hS1 => hk rfl rfl _ _ _ h ls H1 locs1 hl (by rw [← (jP_putL (j_is_sh hi) o2)]; exact hP1) hS1)
    · rename_i ci f
      have hok : (jLF.contains (own, idx, ci, f) && decide ((j_fk ci)[f]? = some 3)) = true := hok
      rw [Bool.and_eq_true, decide_eq_true_eq] at hok
      obtain ⟨o1, o2⟩ := hok
      obtain ⟨q, hq, hh⟩ := jq_s h; clear h; have h := hh; clear hh
      obtain ⟨hi, hh⟩ := jc_s h; clear h; have h := hh; clear hh
      have e := p_RR_s hq
      subst e
      obtain ⟨hci, hf, t0, t1, t2, t3⟩ := jfk_s o2
      obtain ⟨c1, c2, c3, c4, c5⟩ := jc_ok ci hci
      have hw := hts _ (jwF_g _ (List.mem_map.mpr ⟨_, contains_s o1, rfl⟩))
      have hlen : f < (j_fs α σ q.1 ci).length := (List.getElem?_eq_some_iff.mp (j_fs_get (α := α) (σ := σ) (a := q.1) o2)).1
      exact va_put (ty := .object (jrr 6)) hx hb hts c2 (jyy ci) c4 c3 hown hKw hP (hDD σ) hS q.1 (jP_get (j_is_sh hi)) c1 f hf hw (fun _ h => h) (t3 rfl).2 (by rw [c4 f hf, (t3 rfl).1]) rfl rfl hlen (hd rfl) (fun H1 locs1 hP1 _ hS1 => hk rfl rfl _ _ _ h ls H1 locs1 hl (by rw [← (jP_putR (j_is_sh hi) o2)]; exact hP1) hS1)
    · cases h
  case invokevirtual idx =>
    unfold js at h
    dsimp only at h
    split at h
    · obtain ⟨q, hq, hh⟩ := jq_s h; clear h; have h := hh; clear hh
      obtain ⟨z, hz1, hh⟩ := Option.bind_eq_some_iff.mp h; clear h; have h := hh; clear hh
      obtain ⟨hrm, hh⟩ := jc_s h; clear h; have h := hh; clear hh
      have e := p_R_s hq
      subst e
      have hok : (decide (901 = 901) && jLX.contains (own, idx, 901)) = true := hok
      rw [Bool.and_eq_true] at hok
      exact hT.2.1 pc idx q.1 z ls H locs _ hl.1 (contains_s hok.2) hz1 (by rw [tv_cats]; exact ble_s hrm) (hd rfl) hS (hk rfl rfl _ _ _ h ls H locs hl hP hS)
    · obtain ⟨q, hq, hh⟩ := jq_s h; clear h; have h := hh; clear hh
      obtain ⟨z, hz1, hh⟩ := Option.bind_eq_some_iff.mp h; clear h; have h := hh; clear hh
      by_cases hin : q.2.1 < 0 ∨ z.length ≤ q.2.1.toNatClampNeg
      · rw [if_pos hin] at h; cases h
      rw [if_neg hin] at h
      obtain ⟨hrm, hh⟩ := jc_s h; clear h; have h := hh; clear hh
      have e := p_RI_s hq
      subst e
      have hok : (decide (902 = 902) && jLX.contains (own, idx, 902)) = true := hok
      rw [Bool.and_eq_true] at hok
      exact hT.2.2.1 pc idx q.1 z q.2.1 ls H locs _ hl.1 (contains_s hok.2) hz1 (by rw [tv_cats]; exact ble_s hrm) hin (hd rfl) hS (hk rfl rfl _ _ _ h ls H locs hl hP hS)
    · obtain ⟨q, hq, hh⟩ := jq_s h; clear h; have h := hh; clear hh
      obtain ⟨z, hz1, hh⟩ := Option.bind_eq_some_iff.mp h; clear h; have h := hh; clear hh
      obtain ⟨hrm, hh⟩ := jc_s h; clear h; have h := hh; clear hh
      have e := p_RI_s hq
      subst e
      have hok : (decide (903 = 903) && jLX.contains (own, idx, 903)) = true := hok
      rw [Bool.and_eq_true] at hok
      exact hT.2.2.2 pc idx q.1 z q.2.1 ls H locs _ hl.1 (contains_s hok.2) hz1 (by rw [tv_cats]; exact ble_s hrm) (hd rfl) hS (hk rfl rfl _ _ _ h ls H locs hl hP hS)
    · rename_i y n ci rk
      obtain ⟨q, hq, hh⟩ := jq_s h; clear h; have h := hh; clear hh
      obtain ⟨w, hw, hh⟩ := jq_s h; clear h; have h := hh; clear hh
      obtain ⟨hi, hh⟩ := jc_s h; clear h; have h := hh; clear hh
      obtain ⟨hrm, hh⟩ := jc_s h; clear h; have h := hh; clear hh
      obtain ⟨v, σ', hx', hk', -⟩ := j_ret_s h
      obtain ⟨e1, hn⟩ := p_n_s n hq
      have e2 := p_R_s hw
      rw [e2] at e1
      subst e1
      cases hM : jMM[y]? with
      | none =>
        exfalso
        have hok : (match jMM[y]? with
          | some M => (jLM.contains (own, idx, y) || jLN.contains (own, idx, y)) && decide (M.2.2.2.2.2.2 = 0) && decide (M.2.2.2.2.2.1 = n) && decide (M.2.2.2.2.1 = ci) && decide (j_rk M.2.2.2.1 = rk) && decide (ci < 10)
          | none => false) = true := hok
        rw [hM] at hok
        cases hok
      | some M =>
        have hok : (match jMM[y]? with
          | some M => (jLM.contains (own, idx, y) || jLN.contains (own, idx, y)) && decide (M.2.2.2.2.2.2 = 0) && decide (M.2.2.2.2.2.1 = n) && decide (M.2.2.2.2.1 = ci) && decide (j_rk M.2.2.2.1 = rk) && decide (ci < 10)
          | none => false) = true := hok
        rw [hM] at hok
        simp only [Bool.and_eq_true, Bool.or_eq_true, decide_eq_true_eq] at hok
        obtain ⟨⟨⟨⟨⟨o1, o2⟩, o3⟩, o4⟩, o5⟩, o6⟩ := hok
        have hlk : (own, idx, y) ∈ jLM ∨ (own, idx, y) ∈ jLN := o1.imp contains_s contains_s
        rw [List.map_append, List.map_reverse, List.map_cons]
        exact j_callV F hM o2 hlk (by rw [o3, hn]) o4 o6 hi (hC y M _ σ v σ' hM hx') (ble_s hrm) hl.1 (hd rfl) hP hS (fun H1 locs1 hP1 hS1 => by
          have g := hk rfl rfl _ _ _ hk' ls H1 locs1 hl hP1 hS1
          rw [map_toList] at g
          exact g)
    · cases h
  case invokestatic idx =>
    unfold js at h
    dsimp only at h
    split at h
    · obtain ⟨q, hq, hh⟩ := jq_s h; clear h; have h := hh; clear hh
      obtain ⟨hrm, hh⟩ := jc_s h; clear h; have h := hh; clear hh
      obtain ⟨t, ht, hh⟩ := Option.bind_eq_some_iff.mp h; clear h; have h := hh; clear hh
      have e := p_cpy_s hq
      subst e
      have hw := hts _ (jwA_g _ (List.mem_map.mpr ⟨_, contains_s hok, rfl⟩))
      unfold j_copy at ht
      obtain ⟨n0, hn0, hh⟩ := Option.bind_eq_some_iff.mp ht; clear ht; have ht := hh; clear hh
      obtain ⟨n1, hn1, hh⟩ := Option.bind_eq_some_iff.mp ht; clear ht; have ht := hh; clear hh
      rcases Decidable.em (q.2.1 < 0 ∨ q.2.2.2.1 < 0 ∨ q.2.2.2.2.1 < 0 ∨ n0 < q.2.1.toNatClampNeg + q.2.2.2.2.1.toNatClampNeg ∨ n1 < q.2.2.2.1.toNatClampNeg + q.2.2.2.2.1.toNatClampNeg) with g | g
      · rw [if_pos g] at ht; cases ht
      rw [if_neg g] at ht
      cases ht
      have hnat : nativeFrameWords "java/lang/System" "arraycopy" 5 = 7 := by decide
      have hcat : ((q.2.2.2.2.2.map (tv α)).map fun v => v.category).sum ≤ 8 := by rw [tv_cats]; exact ble_s hrm
      exact va_copyi (ty := .int) hx hb (by rw [hml, hl.1]) hown hw (hts _ (jwX_g _ (by simp [jwX]))) (hts _ (jwX_g _ (by simp [jwX]))) (hts _ (jwX_g _ (by simp [jwX]))) hKw hP (hDD σ) hS q.1 q.2.2.1 0 0 (jP_get (j_len_sh hn0)) (jP_get (j_len_sh hn1)) rfl rfl rfl (fun a => g (Or.inl a)) (fun a => g (Or.inr (Or.inl a))) (fun a => g (Or.inr (Or.inr (Or.inl a)))) (Nat.not_lt.mp fun a => g (Or.inr (Or.inr (Or.inr (Or.inl a))))) (Nat.not_lt.mp fun a => g (Or.inr (Or.inr (Or.inr (Or.inr a))))) (fun _ _ => rfl) (by omega) (by rw [hnat]; omega) (hd rfl) (fun H1 locs1 hP1 _ hS1 => hk rfl rfl _ _ _ h ls H1 locs1 hl (by rw [← jP_cpy (j_len_sh hn1)]; exact hP1) hS1)
    · obtain ⟨q, hq, hh⟩ := jq_s h; clear h; have h := hh; clear hh
      obtain ⟨hrm, hh⟩ := jc_s h; clear h; have h := hh; clear hh
      have e := p_II_s hq
      subst e
      have hw := hts _ (jwH_g _ (List.mem_map.mpr ⟨_, contains_s hok, rfl⟩))
      have hcat : ((q.2.2.map (tv α)).map fun v => v.category).sum ≤ 8 := by rw [tv_cats]; exact ble_s hrm
      exact va_mmax hx hb (by rw [hml, hl.1]) hown hw (hts _ (jwX_g _ (by simp [jwX, jmh]))) (hts _ (jwX_g _ (by simp [jwX]))) (hts _ (jwX_g _ (by simp [jwX, jmh]))) (by omega) (by omega) hcell hslot (hd rfl) (hk rfl rfl _ _ _ h ls H locs hl hP hS)
    · obtain ⟨q, hq, hh⟩ := jq_s h; clear h; have h := hh; clear hh
      obtain ⟨hrm, hh⟩ := jc_s h; clear h; have h := hh; clear hh
      have e := p_II_s hq
      subst e
      have hw := hts _ (jwH_g _ (List.mem_map.mpr ⟨_, contains_s hok, rfl⟩))
      have hcat : ((q.2.2.map (tv α)).map fun v => v.category).sum ≤ 8 := by rw [tv_cats]; exact ble_s hrm
      exact va_mmin hx hb (by rw [hml, hl.1]) hown hw (hts _ (jwX_g _ (by simp [jwX, jmh]))) (hts _ (jwX_g _ (by simp [jwX]))) (hts _ (jwX_g _ (by simp [jwX, jmh]))) (by omega) (by omega) hcell hslot (hd rfl) (hk rfl rfl _ _ _ h ls H locs hl hP hS)
    · obtain ⟨q, hq, hh⟩ := jq_s h; clear h; have h := hh; clear hh
      obtain ⟨hrm, hh⟩ := jc_s h; clear h; have h := hh; clear hh
      have e := p_LL_s hq
      subst e
      have hw := hts _ (jwH_g _ (List.mem_map.mpr ⟨_, contains_s hok, rfl⟩))
      have hcat : ((q.2.2.map (tv α)).map fun v => v.category).sum ≤ 8 := by rw [tv_cats]; exact ble_s hrm
      exact va_mmin_long hx hb (by rw [hml, hl.1]) hown hw (hts _ (jwX_g _ (by simp [jwX, jmh]))) (hts _ (jwX_g _ (by simp [jwX]))) (hts _ (jwX_g _ (by simp [jwX, jmh]))) (by omega) (by omega) hcell hslot (hd rfl) (hk rfl rfl _ _ _ h ls H locs hl hP hS)
    · obtain ⟨q, hq, hh⟩ := jq_s h; clear h; have h := hh; clear hh
      obtain ⟨hrm, hh⟩ := jc_s h; clear h; have h := hh; clear hh
      have e := p_L_s hq
      subst e
      have hw := hts _ (jwH_g _ (List.mem_map.mpr ⟨_, contains_s hok, rfl⟩))
      have hcat : ((q.2.map (tv α)).map fun v => v.category).sum ≤ 8 := by rw [tv_cats]; exact ble_s hrm
      exact va_mabs_long hx hb (by rw [hml, hl.1]) hown hw (hts _ (jwX_g _ (by simp [jwX, jmh]))) (hts _ (jwX_g _ (by simp [jwX]))) (hts _ (jwX_g _ (by simp [jwX, jmh]))) (by omega) (by omega) hcell hslot (hd rfl) (hk rfl rfl _ _ _ h ls H locs hl hP hS)
    · rename_i y n rk
      obtain ⟨q, hq, hh⟩ := jq_s h; clear h; have h := hh; clear hh
      obtain ⟨hrm, hh⟩ := jc_s h; clear h; have h := hh; clear hh
      obtain ⟨v, σ', hx', hk', -⟩ := j_ret_s h
      obtain ⟨e1, hn⟩ := p_n_s n hq
      subst e1
      cases hM : jMM[y]? with
      | none =>
        exfalso
        have hok : (match jMM[y]? with
          | some M => (jLM.contains (own, idx, y) || jLN.contains (own, idx, y)) && decide (M.2.2.2.2.2.2 = 1) && decide (M.2.2.2.2.2.1 = n) && decide (j_rk M.2.2.2.1 = rk)
          | none => false) = true := hok
        rw [hM] at hok
        cases hok
      | some M =>
        have hok : (match jMM[y]? with
          | some M => (jLM.contains (own, idx, y) || jLN.contains (own, idx, y)) && decide (M.2.2.2.2.2.2 = 1) && decide (M.2.2.2.2.2.1 = n) && decide (j_rk M.2.2.2.1 = rk)
          | none => false) = true := hok
        rw [hM] at hok
        simp only [Bool.and_eq_true, Bool.or_eq_true, decide_eq_true_eq] at hok
        obtain ⟨⟨⟨o1, o2⟩, o3⟩, o4⟩ := hok
        have hlk : (own, idx, y) ∈ jLM ∨ (own, idx, y) ∈ jLN := o1.imp contains_s contains_s
        rw [List.map_append, List.map_reverse]
        exact j_callS F hM o2 hlk (by rw [o3, hn]) (hC y M _ σ v σ' hM hx') (ble_s hrm) hl.1 (hd rfl) hP hS (fun H1 locs1 hP1 hS1 => by
          have g := hk rfl rfl _ _ _ hk' ls H1 locs1 hl hP1 hS1
          rw [map_toList] at g
          exact g)
    · cases h
  case ireturn =>
    unfold js at h
    dsimp only at h
    split at h
    · obtain ⟨q, hq, hh⟩ := jq_s h; clear h; have h := hh; clear hh
      obtain ⟨he, hh⟩ := jc_s h; clear h; have h := hh; clear hh
      have e := p_I_s hq
      have e2 := List.isEmpty_iff.mp he
      rw [e2] at e
      subst e
      cases h
      exact (hR pc ls H locs hP hS).1 q.1 rfl (Or.inl rfl) (hd rfl)
    · obtain ⟨q, hq, hh⟩ := jq_s h; clear h; have h := hh; clear hh
      obtain ⟨he, hh⟩ := jc_s h; clear h; have h := hh; clear hh
      have e := p_I_s hq
      have e2 := List.isEmpty_iff.mp he
      rw [e2] at e
      subst e
      rcases Decidable.em (q.1 = 0 ∨ q.1 = 1) with g | g
      · rw [if_pos g] at h
        cases h
        exact (hR pc ls H locs hP hS).1 q.1 rfl (Or.inr ⟨rfl, g⟩) (hd rfl)
      · rw [if_neg g] at h; cases h
    · cases h
  case lreturn =>
    unfold js at h
    dsimp only at h
    split at h
    · obtain ⟨q, hq, hh⟩ := jq_s h; clear h; have h := hh; clear hh
      obtain ⟨he, hh⟩ := jc_s h; clear h; have h := hh; clear hh
      have e := p_L_s hq
      have e2 := List.isEmpty_iff.mp he
      rw [e2] at e
      subst e
      cases h
      exact (hR pc ls H locs hP hS).2.1 q.1 rfl rfl (hd rfl)
    · cases h
  case return_ =>
    unfold js at h
    dsimp only at h
    split at h
    · obtain ⟨he, hh⟩ := jc_s h; clear h; have h := hh; clear hh
      have e2 := List.isEmpty_iff.mp he
      subst e2
      cases h
      exact (hR pc ls H locs hP hS).2.2 rfl rfl (hd rfl)
    · cases h
  all_goals (exfalso; revert h; intro h; cases h)
end JS
end
section
/-! Blocks, loops and calls of the small machine are the Jvm's: jd_ok. -/
section JRUN
variable {p : Program} {l : Launch} {e : Env} {R : Room} {s : State} {m : MethodId} {args : Array Value} {below : List Frame} {meth : Method} {c : Code} {cells slots : Nat} {Q : State → Prop}
variable {cc : ByteArray} {nL own rt : Nat} {D : va_G} {G : jG} {α : Nat → Nat} {Z : State → Prop} {dd : Nat} {B : List jB} {C : Nat → List Value → jS → jR} {r : Option Value × jS} {scr : Bool}
theorem jb_ok (F : jFx p R s m args c cc nL own D G α Z dd cells slots) (hC : jHC l α G D Z dd C) (hSc : jHS s α scr C) (hT : jHT p l e R s m args below meth c cells slots Q cc nL own α) (hR : jHR p l e R s m args below meth c cells slots Q cc rt D G α r)
    {K : Nat → jL → List Value → jS → jR} (hK : ∀ j lv st σ q, K j lv st σ = some r → jpc B j = some q → jWk p l e R s m args below meth c cells slots Q nL D G α q lv st σ) {nx : Nat} :
    ∀ (is : List jN) (pc : Nat) (lv : jL) (st : List Value) (σ : jS), chkB scr own nL B cc nx is pc = true → jb C rt K nx is lv st σ = some r → jWk p l e R s m args below meth c cells slots Q nL D G α pc lv st σ := by
  intro is
  induction is with
  | nil =>
    intro pc lv st σ hc h
    exact hK nx lv st σ pc h (decide_eq_true_eq.mp hc)
  | cons i is ih =>
    intro pc lv st σ hc h
    obtain ⟨i, ex⟩ := i
    obtain ⟨c1, c2, c3, c4⟩ := chk_cons hc
    exact js_ok F hC hSc hT hR hK c2 c1 c3 h (fun hs ht lv st σ h => ih (pc + jlen i) lv st σ (c4 hs ht) h)
def jchk (scr : Bool) (own nL : Nat) (B : List jB) (cc : ByteArray) : Bool := B.all fun b => chkB scr own nL B cc b.2.2.2 b.2.2.1 b.1
theorem jrun_ok (F : jFx p R s m args c cc nL own D G α Z dd cells slots) (hC : jHC l α G D Z dd C) (hSc : jHS s α scr C) (hT : jHT p l e R s m args below meth c cells slots Q cc nL own α) (hR : jHR p l e R s m args below meth c cells slots Q cc rt D G α r) (hB : jchk scr own nL B cc = true) :
    ∀ (n j : Nat) (lv : jL) (st : List Value) (σ : jS) (q : Nat), jrun C rt B n j lv st σ = some r → jpc B j = some q → jWk p l e R s m args below meth c cells slots Q nL D G α q lv st σ := by
  intro n
  induction n with
  | zero => intro j lv st σ q h; cases h
  | succ n ih =>
    intro j lv st σ q h hq
    have h : jstep C rt B (jrun C rt B n) j lv st σ = some r := h
    unfold jstep at h
    obtain ⟨b, hb, h⟩ := Option.bind_eq_some_iff.mp h
    unfold jpc at hq
    rw [hb] at hq
    cases hq
    refine jb_ok F hC hSc hT hR (K := j_go B (jrun C rt B n)) ?_ b.2.2.1 b.1 lv st σ (List.all_eq_true.mp hB b (List.mem_of_getElem? hb)) h
    intro j' lv' st' σ' q' h' hq'
    unfold j_go at h'
    obtain ⟨b', hb', h'⟩ := Option.bind_eq_some_iff.mp h'
    obtain ⟨l', hl', h'⟩ := Option.bind_eq_some_iff.mp h'
    intro ls H locs hl hP hS
    exact ih j' l' st' σ' q' h' hq' ls H locs (j_pick_has hl _ hl') hP hS
theorem db_ok (F : jFx p R s m args c cc nL own D G α Z dd cells slots) (hC : jHC l α G D Z dd C) (hSc : jHS s α scr C) (hT : jHT p l e R s m args below meth c cells slots Q cc nL own α) (hR : jHR p l e R s m args below meth c cells slots Q cc rt D G α r) (hB : jchk scr own nL B cc = true)
    {j : Nat} {lv : jL} {st : List Value} {σ : jS} {q : Nat} (h : j_go B (db C rt B) j lv st σ = some r) (hq : jpc B j = some q) : jWk p l e R s m args below meth c cells slots Q nL D G α q lv st σ := by
  unfold j_go at h
  obtain ⟨b, hb, h⟩ := Option.bind_eq_some_iff.mp h
  obtain ⟨l', hl', h⟩ := Option.bind_eq_some_iff.mp h
  obtain ⟨n, hn⟩ := (db_iff C rt B j l' st σ r).mp h
  intro ls H locs hl hP hS
  exact jrun_ok F hC hSc hT hR hB n j l' st σ q hn hq ls H locs (j_pick_has hl _ hl') hP hS
end JRUN
/-- methods by number: what they answer, their locals, their blocks -/
noncomputable def jd (MT : List (Nat × Nat × List jB)) : Nat → Nat → List Value → jS → jR
  | 0 => fun _ _ _ => none
  | d + 1 => fun y a σ => (MT[y]?).bind fun q => cond (Nat.ble (a.map fun v => v.category).sum q.2.1) (j_go q.2.2 (db (jd MT d) q.1 q.2.2) 0 (lv_args 0 a) [] σ) none
theorem lg_sl_len (vs : List Value) : (lg_sl vs).length = (vs.map fun v => v.category).sum := by
  induction vs with
  | nil => rfl
  | cons v vs ih =>
    have e : lg_sl (v :: vs) = (if v.category = 2 then [Slot.val v, Slot.second] else [Slot.val v]) ++ lg_sl vs := rfl
    rw [e, List.length_append, ih, List.map_cons, List.sum_cons]
    congr 1
    cases v <;> rfl
theorem tl_args (α : Nat → Nat) : ∀ (i : Nat) (vs : List Value), tl α (lv_args i vs) = lv_args i (vs.map (tv α))
  | _, [] => rfl
  | i, v :: vs => by
    have h := tl_args α (if v.category = 2 then i + 2 else i + 1) vs
    show (i, tv α v) :: tl α (lv_args _ vs) = (i, tv α v) :: lv_args (if (tv α v).category = 2 then i + 2 else i + 1) (vs.map (tv α))
    rw [tv_cat, h]
/-- the table of blocks is that of the methods -/
def jMTok (MT : List (Nat × Nat × List jB)) : Prop := ∀ (y : Nat) (M : jM) (q : Nat × Nat × List jB), jMM[y]? = some M → MT[y]? = some q → q.1 = M.2.2.2.1 ∧ q.2.1 = M.2.2.1 ∧ jpc q.2.2 0 = some 0 ∧ jchk false M.2.2.2.2.1 M.2.2.1 q.2.2 M.2.1 = true
def jStrs (l : Launch) (α : Nat → Nat) (G : jG) (D : va_G) (Z : State → Prop) : Prop := ∀ (p : Program) (e : Env) (R : Room) (s : State) (m : MethodId) (args : Array Value) (below : List Frame) (meth : Method) (c : Code) (cells slots : Nat) (Q : State → Prop) (cc : ByteArray) (nL own dd : Nat), jFx p R s m args c cc nL own D G α Z dd cells slots → jHT p l e R s m args below meth c cells slots Q cc nL own α
theorem jd_ok {l : Launch} {D : va_G} {G : jG} {α : Nat → Nat} {Z : State → Prop} {MT : List (Nat × Nat × List jB)} (hMT : jMTok MT) (hα : ∀ a b, a < jSH.length → b < jSH.length → α a = α b → a = b) (hz : jZok α Z) (hst : jStrs l α G D Z) : ∀ d : Nat, jHC l α G D Z d (jd MT d) := by
  intro d
  induction d with
  | zero => intro y M a σ v σ2 hM h; cases h
  | succ d ih =>
    intro y M a σ v σ2 hM h
    have h : ((MT[y]?).bind fun q => cond (Nat.ble (a.map fun v => v.category).sum q.2.1) (j_go q.2.2 (db (jd MT d) q.1 q.2.2) 0 (lv_args 0 a) [] σ) none) = some (v, σ2) := h
    obtain ⟨q, hq, h⟩ := Option.bind_eq_some_iff.mp h
    obtain ⟨hle, h⟩ := cond_s h
    obtain ⟨e1, e2, hp0, hB⟩ := hMT y M q hM hq
    obtain ⟨k1, k2, k3, k4, k5, k6, k7⟩ := jm_ok hM
    refine Met.ofW (cc := M.2.1) (maxL := M.2.2.1) (ret := j_rt M.2.2.2.1) k1 rfl ?_
    intro p e s m args below meth c s₁ Bd hml hv
    obtain ⟨rfl, hP, hK, hZ⟩ := hv
    have hts := atoms_spec (ws := jwk M :: jws) Bd.pre
    have hown : s.vm.findClass M.1.cls = some m.cls := findClass_of_methodNamed Bd.named
    have hlocks := Bd.notSynchronized
    have F : jFx p (headSpec (jwk M :: jws) (jrm (d + 1))).room s m (a.map (tv α)).toArray c M.2.1 M.2.2.1 M.2.2.2.2.1 D G α Z d 0 0 := by
      refine ⟨Bd.exec, Bd.bytes, hml, by rw [k5]; exact hown, fun w hw => hts w (List.mem_cons_of_mem _ hw), hK, hZ, hz, hα, ?_, ?_, Nat.zero_le _, Nat.zero_le _⟩
      · show d + 9 ≤ d + 1 + 8; omega
      · show 60 * d + 540 ≤ 60 * (d + 1) + 480; omega
    have hlen : (lg_sl (a.map (tv α))).length ≤ M.2.2.1 := by
      rw [lg_sl_len, tv_cats, ← e2]
      exact ble_s hle
    have hl := lv_entry (a.map (tv α)) (n := M.2.2.1) hlen
    rw [lg_entry_eq]
    have hR : jHR p l e (headSpec (jwk M :: jws) (jrm (d + 1))).room s m (a.map (tv α)).toArray below meth c 0 0 (MQ below (jQc α G D v σ2) (a.map (tv α)).toArray s 0 0 (jA α)) M.2.1 q.1 D G α (v, σ2) := by
      intro pc ls H locs hP hS
      have hr := Bd.returns
      refine ⟨fun x hx h12 hdg => ?_, fun x hx h3 hdg => ?_, fun hx h0 hdg => ?_⟩
      · have hx : v = some (.int x) := hx
        subst hx
        rcases h12 with h1 | ⟨h2, h01⟩
        · rw [← e1, h1] at hr
          exact W.iret Bd.exec Bd.bytes hr (fun t ht _ => ⟨rfl, by rw [ht]; exact hP, hS.F ht⟩) hS.2.2 hdg
        · rw [← e1, h2] at hr
          exact W.zret Bd.exec Bd.bytes hr (vp_nar_b h01).2.1 (fun t ht _ => ⟨rfl, by rw [ht]; exact hP, hS.F ht⟩) hS.2.2 hdg
      · have hx : v = some (.long x) := hx
        subst hx
        rw [← e1, h3] at hr
        exact W.lret Bd.exec Bd.bytes hr (fun t ht _ => ⟨rfl, by rw [ht]; exact hP, hS.F ht⟩) hS.2.2 hdg
      · have hx : v = none := hx
        subst hx
        rw [← e1, h0] at hr
        exact W.vret Bd.exec Bd.bytes hr (fun t ht _ => ⟨rfl, by rw [ht]; exact hP, hS.F ht⟩) hS.2.2 hdg
    have hSc : jHS s α false (jd MT d) := fun h => by cases h
    exact db_ok F ih hSc (hst p e _ s m _ below meth c 0 0 _ _ _ _ d F) hR hB h hp0 _ s.heap [] (by rw [tl_args]; exact hl) hP va_S.rf
end

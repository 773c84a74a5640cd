/-! The methods by number, what the instructions link, and the words for it. Printed by wip/gen/links.py. -/
def jON : List String := ["HalfHands$Journey", "HalfHands$Laws", "HalfHands$Notes", "HalfHands$Orders", "HalfHands$Reader", "HalfHands$Row", "HalfHands$Telling", "HalfHands$Tokens", "HalfHands", "HalfHandsModel", "java/util/Arrays", "java/lang/Integer", "java/lang/Math", "HalfHandsLaw"]
def jon (n : Nat) : String := jON.getD n ""
def jws : List Cond := lw_tbl.filter goodWord
abbrev jM : Type := MethodName × ByteArray × Nat × Nat × Nat × Nat × Nat
/-- name, bytes, locals, what it answers (0 nothing, 1 int, 2 boolean, 3 long), owner, arguments, 1: static -/
def jm_0 : jM := (⟨"HalfHands$Journey", "begin", "(LHalfHands$Telling;)V"⟩, prog_2_method_2_code, 3, 0, 0, 1, 0)
def jm_1 : jM := (⟨"HalfHands$Journey", "beginLike", "(LHalfHands$Journey;II)V"⟩, prog_2_method_3_code, 5, 0, 0, 3, 0)
def jm_2 : jM := (⟨"HalfHands$Journey", "start", "(LHalfHands$Telling;II)V"⟩, prog_2_method_4_code, 4, 0, 0, 3, 0)
def jm_3 : jM := (⟨"HalfHands$Journey", "copyFrom", "(LHalfHands$Journey;)V"⟩, prog_2_method_5_code, 2, 0, 0, 1, 0)
def jm_4 : jM := (⟨"HalfHands$Journey", "add", "(III)I"⟩, prog_2_method_6_code, 4, 1, 0, 3, 0)
def jm_5 : jM := (⟨"HalfHands$Journey", "isParcel", "(I)Z"⟩, prog_2_method_7_code, 2, 2, 0, 1, 0)
def jm_6 : jM := (⟨"HalfHands$Journey", "inState", "(I)I"⟩, prog_2_method_8_code, 4, 1, 0, 1, 0)
def jm_7 : jM := (⟨"HalfHands$Journey", "allCoins", "()J"⟩, prog_2_method_9_code, 4, 3, 0, 0, 0)
def jm_8 : jM := (⟨"HalfHands$Journey", "hoursTillRest", "()I"⟩, prog_2_method_10_code, 2, 1, 0, 0, 0)
def jm_9 : jM := (⟨"HalfHands$Journey", "passTo", "(I)V"⟩, prog_2_method_11_code, 3, 0, 0, 1, 0)
def jm_10 : jM := (⟨"HalfHands$Journey", "pass", "()V"⟩, prog_2_method_12_code, 2, 0, 0, 0, 0)
def jm_11 : jM := (⟨"HalfHands$Journey", "isLeftOut", "(I)Z"⟩, prog_2_method_13_code, 2, 2, 0, 1, 0)
def jm_12 : jM := (⟨"HalfHands$Journey", "dispatch", "(I)V"⟩, prog_2_method_14_code, 2, 0, 0, 1, 0)
def jm_13 : jM := (⟨"HalfHands$Journey", "bring", "(I)V"⟩, prog_2_method_15_code, 4, 0, 0, 1, 0)
def jm_14 : jM := (⟨"HalfHands$Journey", "waysOf", "(I)I"⟩, prog_2_method_16_code, 3, 1, 0, 1, 0)
def jm_15 : jM := (⟨"HalfHands$Journey", "shareOf", "(II)I"⟩, prog_2_method_17_code, 7, 1, 0, 2, 0)
def jm_16 : jM := (⟨"HalfHands$Journey", "ageOf", "(I)I"⟩, prog_2_method_18_code, 2, 1, 0, 1, 0)
def jm_17 : jM := (⟨"HalfHands$Journey", "handOn", "(II)V"⟩, prog_2_method_19_code, 3, 0, 0, 2, 0)
def jm_18 : jM := (⟨"HalfHands$Journey", "settle", "(II)V"⟩, prog_2_method_20_code, 3, 0, 0, 2, 0)
def jm_19 : jM := (⟨"HalfHands$Laws", "clear", "()V"⟩, prog_3_method_2_code, 1, 0, 1, 0, 0)
def jm_20 : jM := (⟨"HalfHands$Laws", "open", "(I)V"⟩, prog_3_method_3_code, 2, 0, 1, 1, 0)
def jm_21 : jM := (⟨"HalfHands$Laws", "close", "(I)V"⟩, prog_3_method_4_code, 2, 0, 1, 1, 0)
def jm_22 : jM := (⟨"HalfHands$Laws", "write", "(II)V"⟩, prog_3_method_5_code, 3, 0, 1, 2, 0)
def jm_23 : jM := (⟨"HalfHands$Laws", "oddStays", "(IIIIII)Z"⟩, prog_3_method_6_code, 9, 2, 1, 6, 0)
def jm_24 : jM := (⟨"HalfHands$Laws", "share", "(IIIIII)I"⟩, prog_3_method_7_code, 8, 1, 1, 6, 0)
def jm_25 : jM := (⟨"HalfHands$Laws", "value", "(IIIIII)J"⟩, prog_3_method_8_code, 10, 3, 1, 6, 0)
def jm_26 : jM := (⟨"HalfHands$Laws", "joined", "(IJJ)J"⟩, prog_3_method_9_code, 9, 3, 1, 3, 1)
def jm_27 : jM := (⟨"HalfHands$Notes", "clear", "()V"⟩, prog_4_method_2_code, 1, 0, 2, 0, 0)
def jm_28 : jM := (⟨"HalfHands$Notes", "add", "(IJIII)I"⟩, prog_4_method_3_code, 7, 1, 2, 5, 0)
def jm_29 : jM := (⟨"HalfHands$Notes", "addStrike", "(I)I"⟩, prog_4_method_4_code, 2, 1, 2, 1, 0)
def jm_30 : jM := (⟨"HalfHands$Notes", "knownSize", "()I"⟩, prog_4_method_5_code, 1, 1, 2, 0, 0)
def jm_31 : jM := (⟨"HalfHands$Notes", "markStruck", "()V"⟩, prog_4_method_6_code, 2, 0, 2, 0, 0)
def jm_32 : jM := (⟨"HalfHands$Notes", "holds", "(I)Z"⟩, prog_4_method_7_code, 2, 2, 2, 1, 0)
def jm_33 : jM := (⟨"HalfHands$Notes", "allows", "(II)Z"⟩, prog_4_method_8_code, 3, 2, 2, 2, 0)
def jm_34 : jM := (⟨"HalfHands$Orders", "take", "(LHalfHands$Telling;I)V"⟩, prog_5_method_2_code, 4, 0, 3, 2, 0)
def jm_35 : jM := (⟨"HalfHands$Orders", "askOddOnes", "()V"⟩, prog_5_method_3_code, 5, 0, 3, 0, 0)
def jm_36 : jM := (⟨"HalfHands$Orders", "askOddOne", "(IIII)V"⟩, prog_5_method_4_code, 6, 0, 3, 4, 0)
def jm_37 : jM := (⟨"HalfHands$Orders", "way", "(III)I"⟩, prog_5_method_5_code, 3, 1, 3, 3, 1)
def jm_38 : jM := (⟨"HalfHands$Orders", "mostArriving", "()I"⟩, prog_5_method_6_code, 2, 1, 3, 0, 0)
def jm_39 : jM := (⟨"HalfHands$Orders", "leastArriving", "()I"⟩, prog_5_method_7_code, 2, 1, 3, 0, 0)
def jm_40 : jM := (⟨"HalfHands$Orders", "howManyBring", "(I)I"⟩, prog_5_method_8_code, 2, 1, 3, 1, 0)
def jm_41 : jM := (⟨"HalfHands$Orders", "firstBringing", "(I)J"⟩, prog_5_method_9_code, 2, 3, 3, 1, 0)
def jm_42 : jM := (⟨"HalfHands$Orders", "fewestSwaps", "(I)I"⟩, prog_5_method_10_code, 3, 1, 3, 1, 0)
def jm_43 : jM := (⟨"HalfHands$Orders", "nearestBringing", "(I)J"⟩, prog_5_method_11_code, 3, 3, 3, 1, 0)
def jm_44 : jM := (⟨"HalfHands$Orders", "gain", "(IZ)I"⟩, prog_5_method_12_code, 3, 1, 3, 2, 0)
def jm_45 : jM := (⟨"HalfHands$Orders", "gainPlace", "(IZ)I"⟩, prog_5_method_13_code, 3, 1, 3, 2, 0)
def jm_46 : jM := (⟨"HalfHands$Orders", "numberOf", "(I)I"⟩, prog_5_method_14_code, 3, 1, 3, 1, 0)
def jm_47 : jM := (⟨"HalfHands$Orders", "solved", "(II)I"⟩, prog_5_method_15_code, 5, 1, 3, 2, 0)
def jm_48 : jM := (⟨"HalfHands$Orders", "everybody", "()I"⟩, prog_5_method_16_code, 1, 1, 3, 0, 0)
def jm_49 : jM := (⟨"HalfHands$Orders", "has", "(II)Z"⟩, prog_5_method_17_code, 2, 2, 3, 2, 1)
def jm_50 : jM := (⟨"HalfHands$Orders", "state", "(III)I"⟩, prog_5_method_18_code, 3, 1, 3, 3, 1)
def jm_51 : jM := (⟨"HalfHands$Orders", "judged", "(III)I"⟩, prog_5_method_19_code, 7, 1, 3, 3, 0)
def jm_52 : jM := (⟨"HalfHands$Orders", "judgedEnd", "(III)I"⟩, prog_5_method_20_code, 6, 1, 3, 3, 0)
def jm_53 : jM := (⟨"HalfHands$Orders", "judgedStep", "(IIII)I"⟩, prog_5_method_21_code, 8, 1, 3, 4, 0)
def jm_54 : jM := (⟨"HalfHands$Orders", "isAskedOf", "(II)Z"⟩, prog_5_method_22_code, 3, 2, 3, 2, 0)
def jm_55 : jM := (⟨"HalfHands$Orders", "joined", "(II)I"⟩, prog_5_method_23_code, 3, 1, 3, 2, 0)
def jm_56 : jM := (⟨"HalfHands$Orders", "handed", "(IIII)I"⟩, prog_5_method_24_code, 6, 1, 3, 4, 0)
def jm_57 : jM := (⟨"HalfHands$Orders", "overtaken", "(II)I"⟩, prog_5_method_25_code, 5, 1, 3, 2, 0)
def jm_58 : jM := (⟨"HalfHands$Orders", "laidRow", "(I)J"⟩, prog_5_method_26_code, 5, 3, 3, 1, 0)
def jm_59 : jM := (⟨"HalfHands$Orders", "lay", "(I)V"⟩, prog_5_method_27_code, 7, 0, 3, 1, 0)
def jm_60 : jM := (⟨"HalfHands$Orders", "chosen", "(IIII)I"⟩, prog_5_method_28_code, 6, 1, 3, 4, 0)
def jm_61 : jM := (⟨"HalfHands$Orders", "leads", "(II)Z"⟩, prog_5_method_29_code, 3, 2, 3, 2, 0)
def jm_62 : jM := (⟨"HalfHands$Reader", "begin", "(ILHalfHands$Telling;)V"⟩, prog_6_method_2_code, 3, 0, 4, 2, 0)
def jm_63 : jM := (⟨"HalfHands$Reader", "goesOn", "()Z"⟩, prog_6_method_3_code, 1, 2, 4, 0, 0)
def jm_64 : jM := (⟨"HalfHands$Reader", "fails", "(I)Z"⟩, prog_6_method_4_code, 2, 2, 4, 1, 0)
def jm_65 : jM := (⟨"HalfHands$Reader", "passes", "(I)Z"⟩, prog_6_method_5_code, 2, 2, 4, 1, 0)
def jm_66 : jM := (⟨"HalfHands$Reader", "readLine", "()Z"⟩, prog_6_method_6_code, 1, 2, 4, 0, 0)
def jm_67 : jM := (⟨"HalfHands$Reader", "personLine", "()Z"⟩, prog_6_method_7_code, 3, 2, 4, 0, 0)
def jm_68 : jM := (⟨"HalfHands$Reader", "newName", "(I)Z"⟩, prog_6_method_8_code, 2, 2, 4, 1, 0)
def jm_69 : jM := (⟨"HalfHands$Reader", "readNumber", "(II)Z"⟩, prog_6_method_9_code, 3, 2, 4, 2, 0)
def jm_70 : jM := (⟨"HalfHands$Reader", "handsLine", "()Z"⟩, prog_6_method_10_code, 3, 2, 4, 0, 0)
def jm_71 : jM := (⟨"HalfHands$Reader", "toldPerson", "()I"⟩, prog_6_method_11_code, 2, 1, 4, 0, 0)
def jm_72 : jM := (⟨"HalfHands$Reader", "heirOf", "(I)Z"⟩, prog_6_method_12_code, 3, 2, 4, 1, 0)
def jm_73 : jM := (⟨"HalfHands$Reader", "parcelLine", "()Z"⟩, prog_6_method_13_code, 3, 2, 4, 0, 0)
def jm_74 : jM := (⟨"HalfHands$Reader", "lawLine", "()Z"⟩, prog_6_method_14_code, 2, 2, 4, 0, 0)
def jm_75 : jM := (⟨"HalfHands$Reader", "mayLine", "()Z"⟩, prog_6_method_15_code, 3, 2, 4, 0, 0)
def jm_76 : jM := (⟨"HalfHands$Reader", "expression", "(II)Z"⟩, prog_6_method_16_code, 6, 2, 4, 2, 0)
def jm_77 : jM := (⟨"HalfHands$Reader", "joins", "(II)Z"⟩, prog_6_method_17_code, 2, 2, 4, 2, 1)
def jm_78 : jM := (⟨"HalfHands$Reader", "passKnot", "()Z"⟩, prog_6_method_18_code, 1, 2, 4, 0, 0)
def jm_79 : jM := (⟨"HalfHands$Reader", "denial", "(I)Z"⟩, prog_6_method_19_code, 4, 2, 4, 1, 0)
def jm_80 : jM := (⟨"HalfHands$Reader", "operand", "(I)Z"⟩, prog_6_method_20_code, 4, 2, 4, 1, 0)
def jm_81 : jM := (⟨"HalfHands$Reader", "enclosed", "(I)Z"⟩, prog_6_method_21_code, 2, 2, 4, 1, 0)
def jm_82 : jM := (⟨"HalfHands$Row", "take", "(IJI)Z"⟩, prog_7_method_2_code, 8, 2, 5, 3, 0)
def jm_83 : jM := (⟨"HalfHands$Row", "placed", "(II)J"⟩, prog_7_method_3_code, 2, 3, 5, 2, 1)
def jm_84 : jM := (⟨"HalfHands$Row", "carriers", "()I"⟩, prog_7_method_4_code, 1, 1, 5, 0, 0)
def jm_85 : jM := (⟨"HalfHands$Row", "placeOf", "(I)I"⟩, prog_7_method_5_code, 3, 1, 5, 1, 0)
def jm_86 : jM := (⟨"HalfHands$Row", "isCarrier", "(I)Z"⟩, prog_7_method_6_code, 2, 2, 5, 1, 0)
def jm_87 : jM := (⟨"HalfHands$Row", "swapAt", "(I)V"⟩, prog_7_method_7_code, 3, 0, 5, 1, 0)
def jm_88 : jM := (⟨"HalfHands$Row", "arriving", "(LHalfHands$Telling;II)I"⟩, prog_7_method_8_code, 6, 1, 5, 3, 0)
def jm_89 : jM := (⟨"HalfHands$Row", "keptAt", "(LHalfHands$Telling;II)I"⟩, prog_7_method_9_code, 7, 1, 5, 3, 0)
def jm_90 : jM := (⟨"HalfHands$Row", "ageAt", "(LHalfHands$Telling;I)I"⟩, prog_7_method_10_code, 3, 1, 5, 2, 0)
def jm_91 : jM := (⟨"HalfHands$Row", "leastBringing", "(LHalfHands$Telling;I)I"⟩, prog_7_method_11_code, 8, 1, 5, 2, 0)
def jm_92 : jM := (⟨"HalfHands$Telling", "clear", "()V"⟩, prog_8_method_2_code, 1, 0, 6, 0, 0)
def jm_93 : jM := (⟨"HalfHands$Telling", "isPerson", "(I)Z"⟩, prog_8_method_3_code, 2, 2, 6, 1, 0)
def jm_94 : jM := (⟨"HalfHands$Telling", "personNamed", "(I)I"⟩, prog_8_method_4_code, 2, 1, 6, 1, 0)
def jm_95 : jM := (⟨"HalfHands$Telling", "mayNamed", "(I)I"⟩, prog_8_method_5_code, 2, 1, 6, 1, 0)
def jm_96 : jM := (⟨"HalfHands$Telling", "placeOf", "(I[II)I"⟩, prog_8_method_6_code, 4, 1, 6, 3, 1)
def jm_97 : jM := (⟨"HalfHands$Telling", "addPerson", "(II)V"⟩, prog_8_method_7_code, 3, 0, 6, 2, 0)
def jm_98 : jM := (⟨"HalfHands$Telling", "addHeir", "(II)V"⟩, prog_8_method_8_code, 3, 0, 6, 2, 0)
def jm_99 : jM := (⟨"HalfHands$Telling", "addParcel", "(III)V"⟩, prog_8_method_9_code, 4, 0, 6, 3, 0)
def jm_100 : jM := (⟨"HalfHands$Telling", "addMay", "(I)V"⟩, prog_8_method_10_code, 2, 0, 6, 1, 0)
def jm_101 : jM := (⟨"HalfHands$Telling", "heir", "(II)I"⟩, prog_8_method_11_code, 3, 1, 6, 2, 0)
def jm_102 : jM := (⟨"HalfHands$Telling", "handsTo", "(II)Z"⟩, prog_8_method_12_code, 4, 2, 6, 2, 0)
def jm_103 : jM := (⟨"HalfHands$Tokens", "isName", "(I)Z"⟩, prog_9_method_2_code, 1, 2, 7, 1, 1)
def jm_104 : jM := (⟨"HalfHands$Tokens", "isComparison", "(I)Z"⟩, prog_9_method_3_code, 1, 2, 7, 1, 1)
def jm_105 : jM := (⟨"HalfHands$Tokens", "begin", "(I)V"⟩, prog_9_method_4_code, 2, 0, 7, 1, 0)
def jm_106 : jM := (⟨"HalfHands$Tokens", "advance", "()V"⟩, prog_9_method_5_code, 1, 0, 7, 0, 0)
def jm_107 : jM := (⟨"HalfHands$Tokens", "readWord", "()V"⟩, prog_9_method_6_code, 3, 0, 7, 0, 0)
def jm_108 : jM := (⟨"HalfHands$Tokens", "readNumber", "()V"⟩, prog_9_method_7_code, 1, 0, 7, 0, 0)
def jm_109 : jM := (⟨"HalfHands$Tokens", "readSign", "()V"⟩, prog_9_method_8_code, 3, 0, 7, 0, 0)
def jm_110 : jM := (⟨"HalfHands", "feed", "(IIIII)I"⟩, prog_1_method_2_code, 6, 1, 8, 5, 0)
def jm_111 : jM := (⟨"HalfHands", "append", "(I)V"⟩, prog_1_method_3_code, 3, 0, 8, 1, 0)
def jm_112 : jM := (⟨"HalfHands", "text", "(I)I"⟩, prog_1_method_4_code, 4, 1, 8, 1, 0)
def jm_113 : jM := (⟨"HalfHands", "fault", "(I)I"⟩, prog_1_method_5_code, 2, 1, 8, 1, 0)
def jm_114 : jM := (⟨"HalfHands", "named", "(II)I"⟩, prog_1_method_6_code, 3, 1, 8, 2, 0)
def jm_115 : jM := (⟨"HalfHands", "look", "(II)I"⟩, prog_1_method_7_code, 3, 1, 8, 2, 0)
def jm_116 : jM := (⟨"HalfHands", "hours", "(I)I"⟩, prog_1_method_8_code, 2, 1, 8, 1, 0)
def jm_117 : jM := (⟨"HalfHands", "send", "(II)I"⟩, prog_1_method_9_code, 3, 1, 8, 2, 0)
def jm_118 : jM := (⟨"HalfHands", "parcel", "(II)I"⟩, prog_1_method_10_code, 3, 1, 8, 2, 0)
def jm_119 : jM := (⟨"HalfHands", "coins", "()J"⟩, prog_1_method_11_code, 1, 3, 8, 0, 0)
def jm_120 : jM := (⟨"HalfHands", "rest", "()I"⟩, prog_1_method_12_code, 1, 1, 8, 0, 0)
def jm_121 : jM := (⟨"HalfHands", "arrives", "(IJI)I"⟩, prog_1_method_13_code, 5, 1, 8, 3, 0)
def jm_122 : jM := (⟨"HalfHands", "keeps", "(IJII)I"⟩, prog_1_method_14_code, 6, 1, 8, 4, 0)
def jm_123 : jM := (⟨"HalfHands", "back", "(IJII)I"⟩, prog_1_method_15_code, 8, 1, 8, 4, 0)
def jm_124 : jM := (⟨"HalfHands", "span", "(IJIII)I"⟩, prog_1_method_16_code, 7, 1, 8, 5, 0)
def jm_125 : jM := (⟨"HalfHands", "endOfBack", "(II)I"⟩, prog_1_method_17_code, 4, 1, 8, 2, 0)
def jm_126 : jM := (⟨"HalfHands", "best", "(IJII)I"⟩, prog_1_method_18_code, 6, 1, 8, 4, 0)
def jm_127 : jM := (⟨"HalfHands", "order", "(IJII)J"⟩, prog_1_method_19_code, 6, 3, 8, 4, 0)
def jm_128 : jM := (⟨"HalfHands", "just", "(IJII)I"⟩, prog_1_method_20_code, 6, 1, 8, 4, 0)
def jm_129 : jM := (⟨"HalfHands", "first", "(IJII)J"⟩, prog_1_method_21_code, 6, 3, 8, 4, 0)
def jm_130 : jM := (⟨"HalfHands", "bound", "(III)I"⟩, prog_1_method_22_code, 4, 1, 8, 3, 0)
def jm_131 : jM := (⟨"HalfHands", "gains", "(IJIII)I"⟩, prog_1_method_23_code, 8, 1, 8, 5, 0)
def jm_132 : jM := (⟨"HalfHands", "changes", "(IJII)I"⟩, prog_1_method_24_code, 6, 1, 8, 4, 0)
def jm_133 : jM := (⟨"HalfHands", "changed", "(IJII)J"⟩, prog_1_method_25_code, 6, 3, 8, 4, 0)
def jm_134 : jM := (⟨"HalfHands", "worth", "(IJII)I"⟩, prog_1_method_26_code, 7, 1, 8, 4, 0)
def jm_135 : jM := (⟨"HalfHands", "serves", "(IJI)I"⟩, prog_1_method_27_code, 6, 1, 8, 3, 0)
def jm_136 : jM := (⟨"HalfHands", "isOutdone", "(I)Z"⟩, prog_1_method_28_code, 3, 2, 8, 1, 0)
def jm_137 : jM := (⟨"HalfHands", "law", "(IIIII)J"⟩, prog_1_method_29_code, 7, 3, 8, 5, 0)
def jm_138 : jM := (⟨"HalfHands", "note", "(IJIII)I"⟩, prog_1_method_30_code, 7, 1, 8, 5, 0)
def jm_139 : jM := (⟨"HalfHands", "strike", "(I)I"⟩, prog_1_method_31_code, 2, 1, 8, 1, 0)
def jm_140 : jM := (⟨"HalfHands", "known", "(I)Z"⟩, prog_1_method_32_code, 2, 2, 8, 1, 0)
def jm_141 : jM := (⟨"HalfHands", "fits", "()I"⟩, prog_1_method_33_code, 3, 1, 8, 0, 0)
def jm_142 : jM := (⟨"HalfHands", "agrees", "(I)Z"⟩, prog_1_method_34_code, 3, 2, 8, 1, 0)
def jm_143 : jM := (⟨"HalfHands", "lawNumbered", "(I)I"⟩, prog_1_method_35_code, 2, 1, 8, 1, 0)
def jm_144 : jM := (⟨"HalfHands", "apart", "(IJII)I"⟩, prog_1_method_36_code, 8, 1, 8, 4, 0)
def jm_145 : jM := (⟨"HalfHands", "tried", "(III)I"⟩, prog_1_method_37_code, 4, 1, 8, 3, 0)
def jm_146 : jM := (⟨"HalfHands", "isTrial", "(II)Z"⟩, prog_1_method_38_code, 3, 2, 8, 2, 0)
def jm_147 : jM := (⟨"HalfHands", "keep", "()I"⟩, prog_1_method_39_code, 1, 1, 8, 0, 0)
def jm_148 : jM := (⟨"HalfHands", "again", "()I"⟩, prog_1_method_40_code, 1, 1, 8, 0, 0)
def jm_149 : jM := (⟨"HalfHands", "count", "(I)I"⟩, prog_1_method_41_code, 2, 1, 8, 1, 0)
def jm_150 : jM := (⟨"HalfHands", "isRow", "(IJ)Z"⟩, prog_1_method_42_code, 4, 2, 8, 2, 0)
def jm_151 : jM := (⟨"HalfHands", "isSent", "(IJI)Z"⟩, prog_1_method_43_code, 5, 2, 8, 3, 0)
def jm_152 : jM := (⟨"HalfHands", "within", "(III)Z"⟩, prog_1_method_44_code, 3, 2, 8, 3, 1)
def jm_153 : jM := (⟨"HalfHands", "ceiling", "(II)I"⟩, prog_1_method_45_code, 2, 1, 8, 2, 1)
def jm_154 : jM := (⟨"HalfHandsModel", "thrown", "()I"⟩, prog_11_method_2_code, 1, 1, 9, 0, 0)
def jm_155 : jM := (⟨"HalfHandsModel", "feed", "(IIIII)I"⟩, prog_11_method_3_code, 8, 1, 9, 5, 0)
def jm_156 : jM := (⟨"HalfHandsModel", "here", "()I"⟩, prog_11_method_4_code, 1, 1, 9, 0, 0)
def jm_157 : jM := (⟨"HalfHandsModel", "isSmall", "(I)Z"⟩, prog_11_method_5_code, 1, 2, 9, 1, 1)
def jm_158 : jM := (⟨"HalfHandsModel", "isDigit", "(I)Z"⟩, prog_11_method_6_code, 1, 2, 9, 1, 1)
def jm_159 : jM := (⟨"HalfHandsModel", "token", "()V"⟩, prog_11_method_7_code, 2, 0, 9, 0, 0)
def jm_160 : jM := (⟨"HalfHandsModel", "sign", "(I)V"⟩, prog_11_method_8_code, 2, 0, 9, 1, 0)
def jm_161 : jM := (⟨"HalfHandsModel", "word", "()I"⟩, prog_11_method_9_code, 4, 1, 9, 0, 0)
def jm_162 : jM := (⟨"HalfHandsModel", "name", "()V"⟩, prog_11_method_10_code, 2, 0, 9, 0, 0)
def jm_163 : jM := (⟨"HalfHandsModel", "wrong", "(I)V"⟩, prog_11_method_11_code, 2, 0, 9, 1, 0)
def jm_164 : jM := (⟨"HalfHandsModel", "isWord", "(I)Z"⟩, prog_11_method_12_code, 2, 2, 9, 1, 0)
def jm_165 : jM := (⟨"HalfHandsModel", "isSign", "(I)Z"⟩, prog_11_method_13_code, 2, 2, 9, 1, 0)
def jm_166 : jM := (⟨"HalfHandsModel", "goOn", "()V"⟩, prog_11_method_14_code, 1, 0, 9, 0, 0)
def jm_167 : jM := (⟨"HalfHandsModel", "numeral", "(II)I"⟩, prog_11_method_15_code, 4, 1, 9, 2, 0)
def jm_168 : jM := (⟨"HalfHandsModel", "found", "([IIII)I"⟩, prog_11_method_16_code, 5, 1, 9, 4, 1)
def jm_169 : jM := (⟨"HalfHandsModel", "fresh", "([III)I"⟩, prog_11_method_17_code, 5, 1, 9, 3, 0)
def jm_170 : jM := (⟨"HalfHandsModel", "person", "()I"⟩, prog_11_method_18_code, 1, 1, 9, 0, 0)
def jm_171 : jM := (⟨"HalfHandsModel", "fresher", "(I)I"⟩, prog_11_method_19_code, 2, 1, 9, 1, 0)
def jm_172 : jM := (⟨"HalfHandsModel", "oneMore", "(I)V"⟩, prog_11_method_20_code, 2, 0, 9, 1, 0)
def jm_173 : jM := (⟨"HalfHandsModel", "line", "()V"⟩, prog_11_method_21_code, 3, 0, 9, 0, 0)
def jm_174 : jM := (⟨"HalfHandsModel", "personLine", "(I)V"⟩, prog_11_method_22_code, 2, 0, 9, 1, 0)
def jm_175 : jM := (⟨"HalfHandsModel", "handsLine", "()V"⟩, prog_11_method_23_code, 3, 0, 9, 0, 0)
def jm_176 : jM := (⟨"HalfHandsModel", "handsOne", "(I)V"⟩, prog_11_method_24_code, 5, 0, 9, 1, 0)
def jm_177 : jM := (⟨"HalfHandsModel", "parcelLine", "(I)V"⟩, prog_11_method_25_code, 2, 0, 9, 1, 0)
def jm_178 : jM := (⟨"HalfHandsModel", "puts", "(II)V"⟩, prog_11_method_26_code, 3, 0, 9, 2, 0)
def jm_179 : jM := (⟨"HalfHandsModel", "knot", "()V"⟩, prog_11_method_27_code, 1, 0, 9, 0, 0)
def jm_180 : jM := (⟨"HalfHandsModel", "expression", "()V"⟩, prog_11_method_28_code, 1, 0, 9, 0, 0)
def jm_181 : jM := (⟨"HalfHandsModel", "conjunction", "()V"⟩, prog_11_method_29_code, 1, 0, 9, 0, 0)
def jm_182 : jM := (⟨"HalfHandsModel", "negation", "()V"⟩, prog_11_method_30_code, 2, 0, 9, 0, 0)
def jm_183 : jM := (⟨"HalfHandsModel", "sum", "()V"⟩, prog_11_method_31_code, 2, 0, 9, 0, 0)
def jm_184 : jM := (⟨"HalfHandsModel", "product", "()V"⟩, prog_11_method_32_code, 2, 0, 9, 0, 0)
def jm_185 : jM := (⟨"HalfHandsModel", "primary", "()V"⟩, prog_11_method_33_code, 2, 0, 9, 0, 0)
def jm_186 : jM := (⟨"HalfHandsModel", "half", "([I)V"⟩, prog_11_method_34_code, 3, 0, 9, 1, 1)
def jm_187 : jM := (⟨"HalfHandsModel", "text", "(I)I"⟩, prog_11_method_35_code, 3, 1, 9, 1, 0)
def jm_188 : jM := (⟨"HalfHandsModel", "fault", "(I)I"⟩, prog_11_method_36_code, 2, 1, 9, 1, 0)
def jm_189 : jM := (⟨"HalfHandsModel", "named", "(II)I"⟩, prog_11_method_37_code, 3, 1, 9, 2, 0)
def jm_190 : jM := (⟨"HalfHandsModel", "isPerson", "(I)Z"⟩, prog_11_method_38_code, 2, 2, 9, 1, 0)
def jm_191 : jM := (⟨"HalfHandsModel", "plain", "()V"⟩, prog_11_method_39_code, 1, 0, 9, 0, 0)
def jm_192 : jM := (⟨"HalfHandsModel", "ageOf", "(I)I"⟩, prog_11_method_40_code, 2, 1, 9, 1, 0)
def jm_193 : jM := (⟨"HalfHandsModel", "manyOf", "(I)I"⟩, prog_11_method_41_code, 2, 1, 9, 1, 0)
def jm_194 : jM := (⟨"HalfHandsModel", "is", "(Z)J"⟩, prog_11_method_42_code, 1, 3, 9, 1, 1)
def jm_195 : jM := (⟨"HalfHandsModel", "works", "(I)Z"⟩, prog_11_method_43_code, 8, 2, 9, 1, 0)
def jm_196 : jM := (⟨"HalfHandsModel", "goes", "(I)Z"⟩, prog_11_method_44_code, 3, 2, 9, 1, 0)
def jm_197 : jM := (⟨"HalfHandsModel", "lays", "(IIIII)V"⟩, prog_11_method_45_code, 6, 0, 9, 5, 0)
def jm_198 : jM := (⟨"HalfHandsModel", "kept", "(IIIII)I"⟩, prog_11_method_46_code, 7, 1, 9, 5, 0)
def jm_199 : jM := (⟨"HalfHandsModel", "law", "(IIIII)J"⟩, prog_11_method_47_code, 7, 3, 9, 5, 0)
def jm_200 : jM := (⟨"HalfHandsModel", "begins", "(I)V"⟩, prog_11_method_48_code, 3, 0, 9, 1, 0)
def jm_201 : jM := (⟨"HalfHandsModel", "newParcel", "(I)V"⟩, prog_11_method_49_code, 2, 0, 9, 1, 0)
def jm_202 : jM := (⟨"HalfHandsModel", "copies", "(II)V"⟩, prog_11_method_50_code, 4, 0, 9, 2, 0)
def jm_203 : jM := (⟨"HalfHandsModel", "nextOf", "(II)I"⟩, prog_11_method_51_code, 3, 1, 9, 2, 0)
def jm_204 : jM := (⟨"HalfHandsModel", "handsOn", "(IIII)V"⟩, prog_11_method_52_code, 6, 0, 9, 4, 0)
def jm_205 : jM := (⟨"HalfHandsModel", "rests", "(IIII)V"⟩, prog_11_method_53_code, 6, 0, 9, 4, 0)
def jm_206 : jM := (⟨"HalfHandsModel", "passes", "(I)V"⟩, prog_11_method_54_code, 4, 0, 9, 1, 0)
def jm_207 : jM := (⟨"HalfHandsModel", "comes", "(II)V"⟩, prog_11_method_55_code, 7, 0, 9, 2, 0)
def jm_208 : jM := (⟨"HalfHandsModel", "look", "(II)I"⟩, prog_11_method_56_code, 3, 1, 9, 2, 0)
def jm_209 : jM := (⟨"HalfHandsModel", "hours", "(I)I"⟩, prog_11_method_57_code, 3, 1, 9, 1, 0)
def jm_210 : jM := (⟨"HalfHandsModel", "send", "(II)I"⟩, prog_11_method_58_code, 3, 1, 9, 2, 0)
def jm_211 : jM := (⟨"HalfHandsModel", "isParcel", "(I)Z"⟩, prog_11_method_59_code, 2, 2, 9, 1, 0)
def jm_212 : jM := (⟨"HalfHandsModel", "parcel", "(II)I"⟩, prog_11_method_60_code, 3, 1, 9, 2, 0)
def jm_213 : jM := (⟨"HalfHandsModel", "coins", "()J"⟩, prog_11_method_61_code, 4, 3, 9, 0, 0)
def jm_214 : jM := (⟨"HalfHandsModel", "isAllRest", "(I)Z"⟩, prog_11_method_62_code, 3, 2, 9, 1, 0)
def jm_215 : jM := (⟨"HalfHandsModel", "rest", "()I"⟩, prog_11_method_63_code, 2, 1, 9, 0, 0)
def jm_216 : jM := (⟨"HalfHandsModel", "takes", "(IJ)Z"⟩, prog_11_method_64_code, 7, 2, 9, 2, 0)
def jm_217 : jM := (⟨"HalfHandsModel", "takesSent", "(IJI)Z"⟩, prog_11_method_65_code, 5, 2, 9, 3, 0)
def jm_218 : jM := (⟨"HalfHandsModel", "sends", "(I)I"⟩, prog_11_method_66_code, 4, 1, 9, 1, 0)
def jm_219 : jM := (⟨"HalfHandsModel", "rowAsLong", "()J"⟩, prog_11_method_67_code, 4, 3, 9, 0, 0)
def jm_220 : jM := (⟨"HalfHandsModel", "arrives", "(IJI)I"⟩, prog_11_method_68_code, 5, 1, 9, 3, 0)
def jm_221 : jM := (⟨"HalfHandsModel", "keeps", "(IJII)I"⟩, prog_11_method_69_code, 6, 1, 9, 4, 0)
def jm_222 : jM := (⟨"HalfHandsModel", "goesOn", "(JI)I"⟩, prog_11_method_70_code, 5, 1, 9, 2, 0)
def jm_223 : jM := (⟨"HalfHandsModel", "backs", "(I)V"⟩, prog_11_method_71_code, 7, 0, 9, 1, 0)
def jm_224 : jM := (⟨"HalfHandsModel", "laysBack", "(IJI)Z"⟩, prog_11_method_72_code, 5, 2, 9, 3, 0)
def jm_225 : jM := (⟨"HalfHandsModel", "back", "(IJII)I"⟩, prog_11_method_73_code, 7, 1, 9, 4, 0)
def jm_226 : jM := (⟨"HalfHandsModel", "span", "(IJIII)I"⟩, prog_11_method_74_code, 7, 1, 9, 5, 0)
def jm_227 : jM := (⟨"HalfHandsModel", "turns", "(II)V"⟩, prog_11_method_75_code, 7, 0, 9, 2, 0)
def jm_228 : jM := (⟨"HalfHandsModel", "sees", "()V"⟩, prog_11_method_76_code, 5, 0, 9, 0, 0)
def jm_229 : jM := (⟨"HalfHandsModel", "changesTo", "()I"⟩, prog_11_method_77_code, 4, 1, 9, 0, 0)
def jm_230 : jM := (⟨"HalfHandsModel", "placeOf", "(I)I"⟩, prog_11_method_78_code, 3, 1, 9, 1, 0)
def jm_231 : jM := (⟨"HalfHandsModel", "goesThrough", "(IIII)V"⟩, prog_11_method_79_code, 6, 0, 9, 4, 0)
def jm_232 : jM := (⟨"HalfHandsModel", "best", "(IJII)I"⟩, prog_11_method_80_code, 6, 1, 9, 4, 0)
def jm_233 : jM := (⟨"HalfHandsModel", "order", "(IJII)J"⟩, prog_11_method_81_code, 6, 3, 9, 4, 0)
def jm_234 : jM := (⟨"HalfHandsModel", "isAimed", "(IJII)Z"⟩, prog_11_method_82_code, 6, 2, 9, 4, 0)
def jm_235 : jM := (⟨"HalfHandsModel", "just", "(IJII)I"⟩, prog_11_method_83_code, 6, 1, 9, 4, 0)
def jm_236 : jM := (⟨"HalfHandsModel", "first", "(IJII)J"⟩, prog_11_method_84_code, 6, 3, 9, 4, 0)
def jm_237 : jM := (⟨"HalfHandsModel", "bound", "(III)I"⟩, prog_11_method_85_code, 6, 1, 9, 3, 0)
def jm_238 : jM := (⟨"HalfHandsModel", "gains", "(IJIII)I"⟩, prog_11_method_86_code, 9, 1, 9, 5, 0)
def jm_239 : jM := (⟨"HalfHandsModel", "changes", "(IJII)I"⟩, prog_11_method_87_code, 6, 1, 9, 4, 0)
def jm_240 : jM := (⟨"HalfHandsModel", "changed", "(IJII)J"⟩, prog_11_method_88_code, 6, 3, 9, 4, 0)
def jm_241 : jM := (⟨"HalfHandsModel", "worth", "(IJII)I"⟩, prog_11_method_89_code, 8, 1, 9, 4, 0)
def jm_242 : jM := (⟨"HalfHandsModel", "serves", "(IJI)I"⟩, prog_11_method_90_code, 6, 1, 9, 3, 0)
def jm_243 : jM := (⟨"HalfHandsModel", "note", "(IJIII)I"⟩, prog_11_method_91_code, 7, 1, 9, 5, 0)
def jm_244 : jM := (⟨"HalfHandsModel", "strike", "(I)I"⟩, prog_11_method_92_code, 2, 1, 9, 1, 0)
def jm_245 : jM := (⟨"HalfHandsModel", "known", "(I)Z"⟩, prog_11_method_93_code, 2, 2, 9, 1, 0)
def jm_246 : jM := (⟨"HalfHandsModel", "knownMany", "()I"⟩, prog_11_method_94_code, 1, 1, 9, 0, 0)
def jm_247 : jM := (⟨"HalfHandsModel", "goesAsNoted", "()Z"⟩, prog_11_method_95_code, 3, 2, 9, 0, 0)
def jm_248 : jM := (⟨"HalfHandsModel", "lawOf", "(I)I"⟩, prog_11_method_96_code, 2, 1, 9, 1, 0)
def jm_249 : jM := (⟨"HalfHandsModel", "fits", "()I"⟩, prog_11_method_97_code, 3, 1, 9, 0, 0)
def jm_250 : jM := (⟨"HalfHandsModel", "apart", "(IJII)I"⟩, prog_11_method_98_code, 8, 1, 9, 4, 0)
def jm_251 : jM := (⟨"HalfHandsModel", "tried", "(III)I"⟩, prog_11_method_99_code, 6, 1, 9, 3, 0)
def jm_252 : jM := (⟨"HalfHandsModel", "keep", "()I"⟩, prog_11_method_100_code, 2, 1, 9, 0, 0)
def jm_253 : jM := (⟨"HalfHandsModel", "again", "()I"⟩, prog_11_method_101_code, 2, 1, 9, 0, 0)
def jm_254 : jM := (⟨"HalfHandsModel", "count", "(I)I"⟩, prog_11_method_102_code, 4, 1, 9, 1, 0)
def jm_255 : jM := (⟨"java/lang/Integer", "bitCount", "(I)I"⟩, prog_18_method_49_code, 1, 1, 11, 1, 1)
def jm_256 : jM := (⟨"java/util/Arrays", "fill", "([II)V"⟩, prog_28_method_103_code, 4, 0, 10, 2, 1)
def jMM : List jM := [jm_0, jm_1, jm_2, jm_3, jm_4, jm_5, jm_6, jm_7, jm_8, jm_9, jm_10, jm_11, jm_12, jm_13, jm_14, jm_15, jm_16, jm_17, jm_18, jm_19, jm_20, jm_21, jm_22, jm_23, jm_24, jm_25, jm_26, jm_27, jm_28, jm_29, jm_30, jm_31, jm_32, jm_33, jm_34, jm_35, jm_36, jm_37, jm_38, jm_39, jm_40, jm_41, jm_42, jm_43, jm_44, jm_45, jm_46, jm_47, jm_48, jm_49, jm_50, jm_51, jm_52, jm_53, jm_54, jm_55, jm_56, jm_57, jm_58, jm_59, jm_60, jm_61, jm_62, jm_63, jm_64, jm_65, jm_66, jm_67, jm_68, jm_69, jm_70, jm_71, jm_72, jm_73, jm_74, jm_75, jm_76, jm_77, jm_78, jm_79, jm_80, jm_81, jm_82, jm_83, jm_84, jm_85, jm_86, jm_87, jm_88, jm_89, jm_90, jm_91, jm_92, jm_93, jm_94, jm_95, jm_96, jm_97, jm_98, jm_99, jm_100, jm_101, jm_102, jm_103, jm_104, jm_105, jm_106, jm_107, jm_108, jm_109, jm_110, jm_111, jm_112, jm_113, jm_114, jm_115, jm_116, jm_117, jm_118, jm_119, jm_120, jm_121, jm_122, jm_123, jm_124, jm_125, jm_126, jm_127, jm_128, jm_129, jm_130, jm_131, jm_132, jm_133, jm_134, jm_135, jm_136, jm_137, jm_138, jm_139, jm_140, jm_141, jm_142, jm_143, jm_144, jm_145, jm_146, jm_147, jm_148, jm_149, jm_150, jm_151, jm_152, jm_153, jm_154, jm_155, jm_156, jm_157, jm_158, jm_159, jm_160, jm_161, jm_162, jm_163, jm_164, jm_165, jm_166, jm_167, jm_168, jm_169, jm_170, jm_171, jm_172, jm_173, jm_174, jm_175, jm_176, jm_177, jm_178, jm_179, jm_180, jm_181, jm_182, jm_183, jm_184, jm_185, jm_186, jm_187, jm_188, jm_189, jm_190, jm_191, jm_192, jm_193, jm_194, jm_195, jm_196, jm_197, jm_198, jm_199, jm_200, jm_201, jm_202, jm_203, jm_204, jm_205, jm_206, jm_207, jm_208, jm_209, jm_210, jm_211, jm_212, jm_213, jm_214, jm_215, jm_216, jm_217, jm_218, jm_219, jm_220, jm_221, jm_222, jm_223, jm_224, jm_225, jm_226, jm_227, jm_228, jm_229, jm_230, jm_231, jm_232, jm_233, jm_234, jm_235, jm_236, jm_237, jm_238, jm_239, jm_240, jm_241, jm_242, jm_243, jm_244, jm_245, jm_246, jm_247, jm_248, jm_249, jm_250, jm_251, jm_252, jm_253, jm_254, jm_255, jm_256]
def j_rt (n : Nat) : Option FieldType := match n with
  | 0 => none
  | 1 => some .int
  | 2 => some .boolean
  | _ => some .long
def jtt (ci : Nat) : u_T := (jcl.getD ci ("", fun _ => ("", "", "", false), 0)).2.1
def jrr (ci : Nat) : String := (jcl.getD ci ("", fun _ => ("", "", "", false), 0)).1
def jnn (ci : Nat) : Nat := (jcl.getD ci ("", fun _ => ("", "", "", false), 0)).2.2
def jyy (ci : Nat) : Nat → FieldType := jyl.getD ci (fun _ => .int)
def jLF : List (Nat × Nat × Nat × Nat) := [(0, 9, 0, 1), (0, 15, 0, 2), (0, 18, 0, 4), (0, 21, 0, 5), (0, 24, 0, 6), (0, 27, 0, 7), (0, 30, 0, 8), (0, 33, 0, 9), (0, 36, 0, 10), (0, 39, 0, 12), (0, 43, 0, 11), (0, 51, 6, 6), (0, 56, 6, 7), (0, 57, 6, 8), (0, 60, 6, 9), (0, 65, 0, 3), (0, 66, 0, 13), (0, 69, 0, 0), (0, 72, 6, 3), (0, 89, 6, 0), (0, 124, 6, 4), (0, 138, 6, 12), (0, 151, 6, 2), (1, 11, 1, 3), (1, 17, 1, 4), (1, 20, 1, 5), (1, 23, 1, 6), (1, 26, 1, 7), (1, 29, 1, 8), (1, 33, 1, 0), (1, 37, 1, 2), (1, 40, 1, 1), (2, 9, 2, 1), (2, 15, 2, 2), (2, 19, 2, 3), (2, 23, 2, 4), (2, 26, 2, 5), (2, 29, 2, 6), (2, 32, 2, 7), (2, 35, 2, 8), (2, 39, 2, 0), (3, 9, 3, 3), (3, 15, 3, 4), (3, 18, 3, 5), (3, 21, 3, 6), (3, 25, 3, 7), (3, 28, 3, 8), (3, 31, 3, 0), (3, 35, 3, 1), (3, 39, 3, 2), (3, 43, 6, 0), (3, 61, 5, 1), (3, 63, 5, 0), (3, 70, 6, 2), (3, 77, 6, 12), (3, 118, 3, 9), (3, 121, 3, 10), (3, 124, 3, 11), (4, 14, 4, 2), (4, 20, 4, 3), (4, 24, 4, 0), (4, 28, 4, 1), (4, 40, 7, 0), (4, 43, 7, 1), (4, 72, 6, 0), (4, 75, 7, 2), (4, 89, 4, 4), (4, 97, 6, 3), (4, 109, 6, 4), (4, 121, 6, 6), (4, 128, 6, 12), (4, 132, 1, 1), (4, 147, 6, 10), (4, 174, 1, 0), (5, 9, 5, 1), (5, 19, 5, 0), (5, 27, 6, 12), (5, 43, 6, 2), (6, 9, 6, 1), (6, 15, 6, 2), (6, 18, 6, 3), (6, 21, 6, 4), (6, 24, 6, 5), (6, 27, 6, 7), (6, 30, 6, 8), (6, 33, 6, 9), (6, 36, 6, 11), (6, 42, 6, 12), (6, 46, 6, 0), (6, 50, 6, 6), (6, 53, 6, 10), (7, 11, 7, 6), (7, 15, 7, 5), (7, 40, 7, 4), (7, 43, 7, 3), (7, 49, 7, 1), (7, 52, 7, 0), (7, 64, 7, 2), (8, 9, 8, 0), (8, 16, 8, 2), (8, 20, 8, 3), (8, 28, 8, 4), (8, 32, 8, 6), (8, 41, 8, 7), (8, 45, 8, 8), (8, 48, 8, 10), (8, 54, 8, 11), (8, 63, 8, 12), (8, 70, 8, 13), (8, 74, 8, 1), (8, 92, 4, 0), (8, 95, 8, 5), (8, 98, 4, 1), (8, 104, 8, 9), (8, 122, 6, 2), (8, 125, 0, 1), (8, 128, 6, 4), (8, 135, 0, 2), (8, 145, 0, 0), (8, 152, 0, 3), (8, 162, 0, 4), (8, 165, 0, 5), (8, 168, 0, 6), (8, 171, 0, 7), (8, 174, 0, 8), (8, 177, 0, 9), (8, 180, 0, 10), (8, 273, 6, 12), (8, 277, 1, 1), (8, 291, 2, 0), (8, 297, 2, 1), (8, 303, 6, 10), (8, 315, 2, 2), (8, 318, 2, 3), (8, 322, 2, 4), (8, 336, 6, 0), (8, 339, 1, 0), (8, 348, 6, 6), (9, 9, 9, 1), (9, 15, 9, 3), (9, 18, 9, 4), (9, 21, 9, 5), (9, 24, 9, 6), (9, 27, 9, 7), (9, 30, 9, 8), (9, 33, 9, 9), (9, 36, 9, 10), (9, 39, 9, 11), (9, 42, 9, 12), (9, 45, 9, 13), (9, 48, 9, 14), (9, 51, 9, 15), (9, 54, 9, 16), (9, 57, 9, 26), (9, 61, 9, 33), (9, 65, 9, 34), (9, 68, 9, 37), (9, 71, 9, 38), (9, 74, 9, 39), (9, 77, 9, 40), (9, 80, 9, 41), (9, 83, 9, 42), (9, 86, 9, 43), (9, 89, 9, 44), (9, 92, 9, 45), (9, 95, 9, 46), (9, 98, 9, 49), (9, 101, 9, 51), (9, 104, 9, 54), (9, 107, 9, 70), (9, 110, 9, 71), (9, 113, 9, 72), (9, 116, 9, 73), (9, 119, 9, 74), (9, 122, 9, 75), (9, 125, 9, 76), (9, 129, 9, 77), (9, 132, 9, 78), (9, 135, 9, 79), (9, 138, 9, 0), (9, 141, 9, 2), (9, 144, 9, 19), (9, 147, 9, 18), (9, 154, 9, 20), (9, 157, 9, 21), (9, 167, 9, 22), (9, 192, 9, 23), (9, 195, 9, 24), (9, 212, 9, 29), (9, 238, 9, 17), (9, 257, 9, 28), (9, 282, 9, 27), (9, 288, 9, 25), (9, 295, 9, 69), (9, 298, 9, 48), (9, 301, 9, 36), (9, 310, 9, 30), (9, 313, 9, 31), (9, 316, 9, 32), (9, 324, 9, 35), (9, 396, 9, 50), (9, 411, 9, 52), (9, 415, 9, 53), (9, 443, 9, 56), (9, 446, 9, 55), (9, 449, 9, 58), (9, 452, 9, 59), (9, 455, 9, 61), (9, 462, 9, 63), (9, 465, 9, 60), (9, 468, 9, 62), (9, 471, 9, 64), (9, 474, 9, 57), (9, 477, 9, 65), (9, 480, 9, 66), (9, 486, 9, 67), (9, 489, 9, 68), (9, 517, 9, 47)]
def jLM : List (Nat × Nat × Nat) := [(0, 47, 2), (0, 61, 4), (0, 79, 256), (0, 92, 6), (0, 96, 10), (0, 99, 11), (0, 103, 12), (0, 107, 13), (0, 110, 14), (0, 113, 18), (0, 117, 17), (0, 120, 15), (0, 132, 16), (0, 135, 101), (0, 142, 23), (0, 148, 93), (1, 44, 25), (1, 50, 23), (1, 56, 26), (2, 42, 30), (3, 48, 86), (3, 54, 85), (3, 58, 35), (3, 66, 36), (3, 73, 37), (3, 81, 23), (3, 91, 47), (3, 94, 40), (3, 97, 58), (3, 104, 42), (3, 107, 46), (3, 110, 44), (3, 114, 59), (3, 127, 48), (3, 131, 49), (3, 135, 50), (3, 138, 51), (3, 141, 255), (3, 146, 52), (3, 149, 53), (3, 153, 55), (3, 156, 56), (3, 159, 54), (3, 162, 57), (3, 173, 83), (3, 177, 60), (3, 180, 61), (4, 31, 92), (4, 36, 105), (4, 46, 64), (4, 50, 106), (4, 53, 67), (4, 57, 65), (4, 60, 70), (4, 63, 73), (4, 66, 74), (4, 69, 75), (4, 78, 94), (4, 82, 68), (4, 85, 69), (4, 92, 97), (4, 105, 71), (4, 112, 72), (4, 115, 102), (4, 118, 98), (4, 124, 99), (4, 138, 20), (4, 141, 76), (4, 144, 21), (4, 150, 95), (4, 153, 100), (4, 156, 79), (4, 159, 80), (4, 162, 77), (4, 165, 78), (4, 168, 22), (4, 171, 104), (4, 177, 81), (4, 180, 103), (5, 23, 85), (5, 33, 90), (5, 37, 24), (5, 46, 84), (5, 56, 88), (6, 56, 19), (6, 63, 96), (6, 67, 101), (7, 46, 106), (7, 55, 107), (7, 58, 108), (7, 61, 109), (8, 77, 111), (8, 81, 62), (8, 85, 63), (8, 89, 66), (8, 99, 0), (8, 101, 27), (8, 108, 94), (8, 112, 95), (8, 115, 93), (8, 131, 101), (8, 141, 152), (8, 148, 9), (8, 155, 4), (8, 159, 5), (8, 183, 7), (8, 187, 3), (8, 191, 8), (8, 195, 151), (8, 199, 88), (8, 203, 84), (8, 206, 89), (8, 209, 150), (8, 213, 125), (8, 216, 91), (8, 226, 34), (8, 230, 38), (8, 233, 39), (8, 238, 41), (8, 242, 40), (8, 245, 153), (8, 248, 86), (8, 251, 44), (8, 255, 45), (8, 258, 42), (8, 261, 43), (8, 267, 87), (8, 270, 136), (8, 284, 25), (8, 288, 28), (8, 294, 29), (8, 300, 31), (8, 306, 143), (8, 309, 142), (8, 312, 32), (8, 325, 33), (8, 329, 146), (8, 332, 1), (8, 342, 30), (8, 345, 6), (8, 349, 82), (9, 150, 156), (9, 160, 157), (9, 164, 161), (9, 170, 162), (9, 173, 158), (9, 177, 160), (9, 198, 159), (9, 201, 163), (9, 204, 168), (9, 208, 171), (9, 216, 174), (9, 219, 175), (9, 222, 177), (9, 225, 180), (9, 228, 169), (9, 232, 172), (9, 235, 165), (9, 241, 167), (9, 245, 164), (9, 248, 170), (9, 251, 166), (9, 254, 176), (9, 260, 181), (9, 263, 179), (9, 266, 178), (9, 270, 182), (9, 273, 183), (9, 276, 184), (9, 279, 185), (9, 285, 173), (9, 291, 186), (9, 304, 191), (9, 307, 200), (9, 327, 194), (9, 339, 195), (9, 342, 192), (9, 345, 197), (9, 349, 196), (9, 356, 201), (9, 359, 193), (9, 362, 203), (9, 365, 205), (9, 369, 204), (9, 372, 207), (9, 375, 198), (9, 379, 190), (9, 382, 206), (9, 385, 211), (9, 388, 202), (9, 391, 214), (9, 400, 216), (9, 404, 217), (9, 408, 218), (9, 422, 222), (9, 429, 223), (9, 434, 224), (9, 437, 228), (9, 440, 227), (9, 458, 219), (9, 483, 229), (9, 492, 230), (9, 495, 231), (9, 500, 234), (9, 507, 246), (9, 510, 248), (9, 513, 247), (13, 21, 110), (13, 25, 155), (13, 26, 112), (13, 30, 187), (13, 31, 113), (13, 34, 188), (13, 35, 114), (13, 38, 189), (13, 44, 208), (13, 45, 154), (13, 49, 116), (13, 52, 209), (13, 53, 117), (13, 56, 210), (13, 57, 118), (13, 60, 212), (13, 61, 119), (13, 65, 213), (13, 66, 120), (13, 69, 215), (13, 72, 121), (13, 76, 220), (13, 77, 122), (13, 81, 221), (13, 82, 123), (13, 85, 225), (13, 86, 124), (13, 90, 226), (13, 91, 126), (13, 94, 232), (13, 95, 127), (13, 99, 233), (13, 100, 128), (13, 103, 235), (13, 104, 129), (13, 107, 236), (13, 108, 130), (13, 112, 237), (13, 113, 131), (13, 116, 238), (13, 117, 132), (13, 120, 239), (13, 121, 133), (13, 124, 240), (13, 125, 134), (13, 128, 241), (13, 129, 135), (13, 132, 242), (13, 133, 137), (13, 137, 199), (13, 138, 138), (13, 141, 243), (13, 142, 139), (13, 145, 244), (13, 146, 140), (13, 150, 245), (13, 151, 141), (13, 154, 249), (13, 155, 144), (13, 158, 250), (13, 159, 145), (13, 162, 251), (13, 163, 147), (13, 166, 252), (13, 167, 148), (13, 170, 253), (13, 171, 149), (13, 174, 254)]
def jLN : List (Nat × Nat × Nat) := [(0, 85, 152), (2, 46, 152), (3, 87, 153), (4, 101, 152), (5, 15, 152), (6, 59, 152), (7, 30, 152)]
def jLC : List (Nat × Nat × Nat) := [(3, 103, 536870912), (4, 96, 99999), (7, 67, 1000000), (8, 151, 99999), (8, 220, 999999), (8, 266, 2147483648), (9, 176, 99999), (9, 399, 999999), (9, 506, 2147483648), (11, 265, 1431655765), (11, 266, 858993459), (11, 267, 252645135)]
def jLJ : List (Nat × Nat × Nat) := [(1, 48, 9223372036854775808), (1, 60, 1000000000000), (1, 62, 18446743073709551616), (3, 101, 18446744073709551614), (8, 236, 18446744073709551615), (8, 282, 9223372036854775808), (9, 335, 1000000000000), (9, 337, 18446743073709551616), (9, 354, 9223372036854775808), (9, 394, 15), (9, 418, 2), (9, 420, 1999998), (9, 432, 999999), (9, 498, 18446744073709551615), (9, 504, 18446744073709551614), (13, 70, 4294967295)]
def jLS : List (Nat × Nat × Nat) := [(7, 68, 1001), (9, 181, 1002)]
def jLA : List (Nat × Nat) := [(0, 73)]
def jLX : List (Nat × Nat × Nat) := [(7, 70, 903), (9, 183, 901), (9, 188, 902)]
def jLH : List (Nat × Nat × Nat) := [(0, 127, 911), (3, 165, 910), (3, 170, 911), (5, 50, 910), (7, 34, 911), (8, 221, 911), (9, 319, 911), (9, 331, 913), (9, 426, 912)]
abbrev jmd : jM := (⟨"", "", ""⟩, ⟨#[]⟩, 0, 0, 0, 0, 0)
def jmn (y : Nat) : MethodName := (jMM.getD y jmd).1
def jwF (q : Nat × Nat × Nat × Nat) : Cond := .fieldLink (jon q.1) q.2.1 (jtt q.2.2.1 q.2.2.2).1 (jtt q.2.2.1 q.2.2.2).2.1 (jtt q.2.2.1 q.2.2.2).2.2.1
def jwM (q : Nat × Nat × Nat) : Cond := .methodLink (jon q.1) q.2.1 (jmn q.2.2)
def jwN (q : Nat × Nat × Nat) : Cond := .methodLinkNest (jon q.1) q.2.1 (jmn q.2.2) "HalfHands"
def jwC (q : Nat × Nat × Nat) : Cond := .constant (jon q.1) q.2.1 (Int32.ofNat q.2.2)
def jwJ (q : Nat × Nat × Nat) : Cond := .constantLong (jon q.1) q.2.1 (Int64.ofNat q.2.2)
def jwA (q : Nat × Nat) : Cond := .methodLink (jon q.1) q.2 arraycopyName
def jmh (c : Nat) : MethodName := match c with
  | 910 => Lib.Math.max.name
  | 911 => Lib.Math.min.name
  | 912 => Lib.MathLoose.min_long.x
  | _ => Lib.MathLoose.abs_long.x
def jwH (q : Nat × Nat × Nat) : Cond := .methodLink (jon q.1) q.2.1 (jmh q.2.2)
theorem jw_of {ws : List Cond} (ps : List Nat) (h : ws = ps.filterMap (fun i => lw_tbl[i]?)) : ∀ w ∈ ws, w ∈ lw_tbl := by
  intro w hw
  rw [h] at hw
  obtain ⟨i, -, hi⟩ := List.mem_filterMap.mp hw
  exact List.mem_of_getElem? hi
theorem jws_of {ws : List Cond} (h : ∀ w ∈ ws, w ∈ lw_tbl) (hg : ws.all goodWord = true) : ∀ w ∈ ws, w ∈ jws := fun w hw => List.mem_filter.mpr ⟨h w hw, List.all_eq_true.mp hg w hw⟩
set_option maxRecDepth 100000 in
theorem jwF_t : ∀ w ∈ jLF.map jwF, w ∈ lw_tbl := jw_of [374, 376, 380, 382, 384, 386, 388, 390, 392, 395, 394, 215, 219, 221, 223, 378, 396, 372, 207, 198, 212, 232, 205, 168, 169, 170, 171, 172, 173, 161, 167, 164, 493, 495, 497, 499, 501, 502, 503, 504, 491, 450, 451, 452, 453, 454, 455, 447, 448, 449, 196, 435, 433, 202, 229, 456, 457, 458, 352, 353, 348, 350, 322, 324, 197, 327, 354, 208, 211, 216, 231, 165, 225, 162, 434, 432, 230, 204, 200, 201, 206, 209, 213, 218, 220, 222, 227, 228, 195, 214, 224, 331, 330, 329, 328, 325, 323, 326, 524, 526, 527, 528, 530, 531, 532, 534, 535, 536, 537, 525, 349, 529, 351, 533, 203, 375, 210, 377, 373, 379, 381, 383, 385, 387, 389, 391, 393, 233, 166, 492, 494, 226, 496, 498, 500, 199, 163, 217, 1377, 1379, 1380, 1381, 1382, 1383, 1384, 1385, 1386, 1387, 1388, 1389, 1390, 1391, 1392, 1402, 1409, 1410, 1413, 1414, 1415, 1416, 1417, 1418, 1419, 1420, 1421, 1422, 1425, 1427, 1430, 1446, 1447, 1448, 1449, 1450, 1451, 1452, 1453, 1454, 1455, 1376, 1378, 1395, 1394, 1396, 1397, 1398, 1399, 1400, 1405, 1393, 1404, 1403, 1401, 1445, 1424, 1412, 1406, 1407, 1408, 1411, 1426, 1428, 1429, 1432, 1431, 1434, 1435, 1437, 1439, 1436, 1438, 1440, 1433, 1441, 1442, 1443, 1444, 1423] (by decide +kernel)
set_option maxRecDepth 100000 in
theorem jwM_t : ∀ w ∈ jLM.map jwM, w ∈ lw_tbl := jw_of [812, 822, 819, 941, 849, 853, 857, 875, 861, 866, 870, 879, 883, 874, 891, 887, 895, 975, 899, 1232, 1016, 1024, 1025, 1029, 1033, 1036, 1044, 1108, 1112, 1180, 1155, 1163, 1116, 1048, 1052, 1055, 1058, 1062, 1068, 1081, 1089, 1072, 1076, 1085, 1128, 1120, 1124, 583, 591, 688, 692, 684, 714, 718, 743, 751, 796, 693, 700, 704, 709, 722, 726, 730, 739, 747, 755, 759, 792, 800, 804, 763, 775, 786, 767, 771, 789, 779, 783, 1020, 967, 971, 1000, 1002, 587, 697, 734, 598, 605, 609, 614, 571, 579, 676, 680, 808, 826, 838, 839, 909, 1354, 844, 845, 911, 916, 925, 933, 937, 949, 963, 980, 984, 953, 992, 996, 1012, 1037, 1095, 1104, 1136, 1145, 1150, 1151, 1159, 1168, 1176, 1186, 1194, 1203, 1208, 1216, 1228, 1236, 1240, 1244, 1248, 1261, 1265, 1281, 1282, 957, 1633, 1637, 1640, 1647, 1651, 1655, 1629, 1663, 1679, 1667, 1671, 1694, 1710, 1714, 1675, 1690, 1746, 1682, 1686, 1698, 1702, 1706, 1718, 1726, 1730, 1722, 1734, 1738, 1742, 1659, 1750, 1753, 1757, 1782, 1789, 1839, 1778, 1785, 1761, 1814, 1827, 1819, 1823, 1831, 1835, 1802, 1810, 1851, 1863, 1867, 1880, 1875, 1885, 1907, 1901, 1897, 1931, 1927, 1935, 1939, 1943, 1923, 1956, 2006, 2010, 2014, 567, 1621, 575, 1625, 830, 1765, 834, 1769, 1798, 1617, 840, 1806, 905, 1843, 912, 1847, 921, 1855, 929, 1859, 945, 1871, 976, 1889, 988, 1893, 1004, 1915, 1008, 1919, 1099, 1947, 1132, 1952, 1137, 1960, 1141, 1965, 1146, 1969, 1164, 1973, 1172, 1977, 1181, 1981, 1190, 1986, 1198, 1773, 1204, 1990, 1212, 1994, 1220, 1998, 1224, 2002, 1253, 2018, 1257, 2022, 1269, 2026, 1273, 2030, 1277, 2034] (by decide +kernel)
set_option maxRecDepth 100000 in
theorem jwN_t : ∀ w ∈ jLN.map jwN, w ∈ lw_tbl := jw_of [920, 1252, 1041, 708, 961, 738, 602] (by decide +kernel)
set_option maxRecDepth 100000 in
theorem jwC_t : ∀ w ∈ jLC.map jwC, w ∈ lw_tbl := jw_of [1080, 713, 613, 910, 962, 1185, 1654, 1879, 1985, 1065, 1066, 1067] (by decide +kernel)
set_option maxRecDepth 100000 in
theorem jwJ_t : ∀ w ∈ jLJ.map jwJ, w ∈ lw_tbl := jw_of [903, 902, 904, 1131, 1103, 1202, 1796, 1797, 1777, 1884, 1905, 1906, 1914, 1951, 1964, 2038] (by decide +kernel)
set_option maxRecDepth 100000 in
theorem jwA_t : ∀ w ∈ jLA.map jwA, w ∈ lw_tbl := jw_of [816] (by decide +kernel)
set_option maxRecDepth 100000 in
theorem jwH_t : ∀ w ∈ jLH.map jwH, w ∈ lw_tbl := jw_of [865, 1093, 1094, 1001, 595, 1003, 1818, 1793, 1911] (by decide +kernel)
theorem jwF_g : ∀ w ∈ jLF.map jwF, w ∈ jws := jws_of jwF_t (by decide +kernel)
theorem jwM_g : ∀ w ∈ jLM.map jwM, w ∈ jws := jws_of jwM_t (by decide +kernel)
theorem jwC_g : ∀ w ∈ jLC.map jwC, w ∈ jws := jws_of jwC_t (by decide +kernel)
theorem jwJ_g : ∀ w ∈ jLJ.map jwJ, w ∈ jws := jws_of jwJ_t (by decide +kernel)
theorem jwA_g : ∀ w ∈ jLA.map jwA, w ∈ jws := jws_of jwA_t (by decide +kernel)
theorem jwH_g : ∀ w ∈ jLH.map jwH, w ∈ jws := jws_of jwH_t (by decide +kernel)
set_option maxRecDepth 100000 in
theorem jlay_0 : ∀ w ∈ u_ws jR0 jT0 14, w ∈ jws := jws_of (jw_of [397, 399, 401, 403, 405, 407, 409, 411, 413, 415, 417, 419, 421, 423] (by decide +kernel)) (by decide +kernel)
theorem jnm_0 : ∀ a, a < 14 → ∀ b, b < 14 → a ≠ b → (jT0 a).2.1 ≠ (jT0 b).2.1 := by decide +kernel
theorem jty_0 : ∀ k, k < 14 → parseFieldDescriptor (jT0 k).2.2.1 = some (jY0 k) := by decide +kernel
set_option maxRecDepth 100000 in
theorem jlay_1 : ∀ w ∈ u_ws jR1 jT1 9, w ∈ jws := jws_of (jw_of [174, 176, 178, 180, 182, 184, 186, 188, 190] (by decide +kernel)) (by decide +kernel)
theorem jnm_1 : ∀ a, a < 9 → ∀ b, b < 9 → a ≠ b → (jT1 a).2.1 ≠ (jT1 b).2.1 := by decide +kernel
theorem jty_1 : ∀ k, k < 9 → parseFieldDescriptor (jT1 k).2.2.1 = some (jY1 k) := by decide +kernel
set_option maxRecDepth 100000 in
theorem jlay_2 : ∀ w ∈ u_ws jR2 jT2 9, w ∈ jws := jws_of (jw_of [505, 507, 509, 511, 513, 515, 517, 519, 521] (by decide +kernel)) (by decide +kernel)
theorem jnm_2 : ∀ a, a < 9 → ∀ b, b < 9 → a ≠ b → (jT2 a).2.1 ≠ (jT2 b).2.1 := by decide +kernel
theorem jty_2 : ∀ k, k < 9 → parseFieldDescriptor (jT2 k).2.2.1 = some (jY2 k) := by decide +kernel
set_option maxRecDepth 100000 in
theorem jlay_3 : ∀ w ∈ u_ws jR3 jT3 12, w ∈ jws := jws_of (jw_of [459, 461, 463, 465, 467, 469, 471, 473, 475, 477, 479, 481] (by decide +kernel)) (by decide +kernel)
theorem jnm_3 : ∀ a, a < 12 → ∀ b, b < 12 → a ≠ b → (jT3 a).2.1 ≠ (jT3 b).2.1 := by decide +kernel
theorem jty_3 : ∀ k, k < 12 → parseFieldDescriptor (jT3 k).2.2.1 = some (jY3 k) := by decide +kernel
set_option maxRecDepth 100000 in
theorem jlay_4 : ∀ w ∈ u_ws jR4 jT4 5, w ∈ jws := jws_of (jw_of [355, 357, 359, 361, 363] (by decide +kernel)) (by decide +kernel)
theorem jnm_4 : ∀ a, a < 5 → ∀ b, b < 5 → a ≠ b → (jT4 a).2.1 ≠ (jT4 b).2.1 := by decide +kernel
theorem jty_4 : ∀ k, k < 5 → parseFieldDescriptor (jT4 k).2.2.1 = some (jY4 k) := by decide +kernel
set_option maxRecDepth 100000 in
theorem jlay_5 : ∀ w ∈ u_ws jR5 jT5 2, w ∈ jws := jws_of (jw_of [436, 438] (by decide +kernel)) (by decide +kernel)
theorem jnm_5 : ∀ a, a < 2 → ∀ b, b < 2 → a ≠ b → (jT5 a).2.1 ≠ (jT5 b).2.1 := by decide +kernel
theorem jty_5 : ∀ k, k < 2 → parseFieldDescriptor (jT5 k).2.2.1 = some (jY5 k) := by decide +kernel
set_option maxRecDepth 100000 in
theorem jlay_6 : ∀ w ∈ u_ws jR6 jT6 13, w ∈ jws := jws_of (jw_of [234, 236, 238, 240, 242, 244, 246, 248, 250, 252, 254, 256, 258] (by decide +kernel)) (by decide +kernel)
theorem jnm_6 : ∀ a, a < 13 → ∀ b, b < 13 → a ≠ b → (jT6 a).2.1 ≠ (jT6 b).2.1 := by decide +kernel
theorem jty_6 : ∀ k, k < 13 → parseFieldDescriptor (jT6 k).2.2.1 = some (jY6 k) := by decide +kernel
set_option maxRecDepth 100000 in
theorem jlay_7 : ∀ w ∈ u_ws jR7 jT7 7, w ∈ jws := jws_of (jw_of [332, 334, 336, 338, 340, 342, 344] (by decide +kernel)) (by decide +kernel)
theorem jnm_7 : ∀ a, a < 7 → ∀ b, b < 7 → a ≠ b → (jT7 a).2.1 ≠ (jT7 b).2.1 := by decide +kernel
theorem jty_7 : ∀ k, k < 7 → parseFieldDescriptor (jT7 k).2.2.1 = some (jY7 k) := by decide +kernel
set_option maxRecDepth 100000 in
theorem jlay_8 : ∀ w ∈ u_ws jR8 jT8 14, w ∈ jws := jws_of (jw_of [538, 540, 542, 544, 546, 548, 550, 552, 554, 556, 558, 560, 562, 564] (by decide +kernel)) (by decide +kernel)
theorem jnm_8 : ∀ a, a < 14 → ∀ b, b < 14 → a ≠ b → (jT8 a).2.1 ≠ (jT8 b).2.1 := by decide +kernel
theorem jty_8 : ∀ k, k < 14 → parseFieldDescriptor (jT8 k).2.2.1 = some (jY8 k) := by decide +kernel
set_option maxRecDepth 100000 in
theorem jlay_9 : ∀ w ∈ u_ws jR9 jT9 80, w ∈ jws := jws_of (jw_of [1456, 1458, 1460, 1462, 1464, 1466, 1468, 1470, 1472, 1474, 1476, 1478, 1480, 1482, 1484, 1486, 1488, 1490, 1492, 1494, 1496, 1498, 1500, 1502, 1504, 1506, 1508, 1510, 1512, 1514, 1516, 1518, 1520, 1522, 1524, 1526, 1528, 1530, 1532, 1534, 1536, 1538, 1540, 1542, 1544, 1546, 1548, 1550, 1552, 1554, 1556, 1558, 1560, 1562, 1564, 1566, 1568, 1570, 1572, 1574, 1576, 1578, 1580, 1582, 1584, 1586, 1588, 1590, 1592, 1594, 1596, 1598, 1600, 1602, 1604, 1606, 1608, 1610, 1612, 1614] (by decide +kernel)) (by decide +kernel)
theorem jnm_9 : ∀ a, a < 80 → ∀ b, b < 80 → a ≠ b → (jT9 a).2.1 ≠ (jT9 b).2.1 := by decide +kernel
theorem jty_9 : ∀ k, k < 80 → parseFieldDescriptor (jT9 k).2.2.1 = some (jY9 k) := by decide +kernel
set_option maxRecDepth 100000 in
theorem jmI_t : ∀ w ∈ ([0, 1, 2, 3, 4, 5, 6, 7, 8, 9, 10, 11, 12, 13, 14, 15, 16, 17, 18, 19, 20, 21, 22, 23, 24, 25, 26, 27, 28, 29, 30, 31, 32, 33, 34, 35, 36, 37, 38, 39, 40, 41, 42, 43, 44, 45, 46, 47, 48, 49, 50, 51, 52, 53, 54, 55, 56, 57, 58, 59, 60, 61, 62, 63, 64, 65, 66, 67, 68, 69, 70, 71, 72, 73, 74, 75, 76, 77, 78, 79, 80, 81, 82, 83, 84, 85, 86, 87, 88, 89, 90, 91, 92, 93, 94, 95, 96, 97, 98, 99, 100, 101, 102, 103, 104, 105, 106, 107, 108, 109, 110, 111, 112, 113, 114, 115, 116, 117, 118, 119, 120, 121, 122, 123, 124, 125, 126, 127, 128, 129, 130, 131, 132, 133, 134, 135, 136, 137, 138, 139, 140, 141, 142, 143, 144, 145, 146, 147, 148, 149, 150, 151, 152, 153, 154, 155, 156, 157, 158, 159, 160, 161, 162, 163, 164, 165, 166, 167, 168, 169, 170, 171, 172, 173, 174, 175, 176, 177, 178, 179, 180, 181, 182, 183, 184, 185, 186, 187, 188, 189, 190, 191, 192, 193, 194, 195, 196, 197, 198, 199, 200, 201, 202, 203, 204, 205, 206, 207, 208, 209, 210, 211, 212, 213, 214, 215, 216, 217, 218, 219, 220, 221, 222, 223, 224, 225, 226, 227, 228, 229, 230, 231, 232, 233, 234, 235, 236, 237, 238, 239, 240, 241, 242, 243, 244, 245, 246, 247, 248, 249, 250, 251, 252, 253, 254, 255, 256].map fun y => Cond.initialized (jmn y).cls), w ∈ lw_tbl := jw_of [126, 126, 126, 126, 126, 126, 126, 126, 126, 126, 126, 126, 126, 126, 126, 126, 126, 126, 126, 119, 119, 119, 119, 119, 119, 119, 119, 129, 129, 129, 129, 129, 129, 129, 128, 128, 128, 128, 128, 128, 128, 128, 128, 128, 128, 128, 128, 128, 128, 128, 128, 128, 128, 128, 128, 128, 128, 128, 128, 128, 128, 128, 120, 120, 120, 120, 120, 120, 120, 120, 120, 120, 120, 120, 120, 120, 120, 120, 120, 120, 120, 120, 127, 127, 127, 127, 127, 127, 127, 127, 127, 127, 118, 118, 118, 118, 118, 118, 118, 118, 118, 118, 118, 121, 121, 121, 121, 121, 121, 121, 117, 117, 117, 117, 117, 117, 117, 117, 117, 117, 117, 117, 117, 117, 117, 117, 117, 117, 117, 117, 117, 117, 117, 117, 117, 117, 117, 117, 117, 117, 117, 117, 117, 117, 117, 117, 117, 117, 117, 117, 117, 117, 117, 117, 130, 130, 130, 130, 130, 130, 130, 130, 130, 130, 130, 130, 130, 130, 130, 130, 130, 130, 130, 130, 130, 130, 130, 130, 130, 130, 130, 130, 130, 130, 130, 130, 130, 130, 130, 130, 130, 130, 130, 130, 130, 130, 130, 130, 130, 130, 130, 130, 130, 130, 130, 130, 130, 130, 130, 130, 130, 130, 130, 130, 130, 130, 130, 130, 130, 130, 130, 130, 130, 130, 130, 130, 130, 130, 130, 130, 130, 130, 130, 130, 130, 130, 130, 130, 130, 130, 130, 130, 130, 130, 130, 130, 130, 130, 130, 130, 130, 130, 130, 130, 130, 140, 134] (by decide +kernel)
theorem jmI_g : ∀ w ∈ ([0, 1, 2, 3, 4, 5, 6, 7, 8, 9, 10, 11, 12, 13, 14, 15, 16, 17, 18, 19, 20, 21, 22, 23, 24, 25, 26, 27, 28, 29, 30, 31, 32, 33, 34, 35, 36, 37, 38, 39, 40, 41, 42, 43, 44, 45, 46, 47, 48, 49, 50, 51, 52, 53, 54, 55, 56, 57, 58, 59, 60, 61, 62, 63, 64, 65, 66, 67, 68, 69, 70, 71, 72, 73, 74, 75, 76, 77, 78, 79, 80, 81, 82, 83, 84, 85, 86, 87, 88, 89, 90, 91, 92, 93, 94, 95, 96, 97, 98, 99, 100, 101, 102, 103, 104, 105, 106, 107, 108, 109, 110, 111, 112, 113, 114, 115, 116, 117, 118, 119, 120, 121, 122, 123, 124, 125, 126, 127, 128, 129, 130, 131, 132, 133, 134, 135, 136, 137, 138, 139, 140, 141, 142, 143, 144, 145, 146, 147, 148, 149, 150, 151, 152, 153, 154, 155, 156, 157, 158, 159, 160, 161, 162, 163, 164, 165, 166, 167, 168, 169, 170, 171, 172, 173, 174, 175, 176, 177, 178, 179, 180, 181, 182, 183, 184, 185, 186, 187, 188, 189, 190, 191, 192, 193, 194, 195, 196, 197, 198, 199, 200, 201, 202, 203, 204, 205, 206, 207, 208, 209, 210, 211, 212, 213, 214, 215, 216, 217, 218, 219, 220, 221, 222, 223, 224, 225, 226, 227, 228, 229, 230, 231, 232, 233, 234, 235, 236, 237, 238, 239, 240, 241, 242, 243, 244, 245, 246, 247, 248, 249, 250, 251, 252, 253, 254, 255, 256].map fun y => Cond.initialized (jmn y).cls), w ∈ jws := jws_of jmI_t (by decide +kernel)
set_option maxRecDepth 100000 in
theorem jmS_t : ∀ w ∈ ([26, 37, 49, 50, 77, 83, 96, 103, 104, 152, 153, 157, 158, 168, 186, 194, 255, 256].map fun y => Cond.static (jmn y)), w ∈ lw_tbl := jw_of [900, 1034, 1053, 1056, 787, 1129, 698, 784, 790, 603, 1042, 1638, 1652, 1680, 1751, 1783, 1063, 820] (by decide +kernel)
theorem jmS_g : ∀ w ∈ ([26, 37, 49, 50, 77, 83, 96, 103, 104, 152, 153, 157, 158, 168, 186, 194, 255, 256].map fun y => Cond.static (jmn y)), w ∈ jws := jws_of jmS_t (by decide +kernel)
set_option maxRecDepth 100000 in
theorem jmV_t : ∀ w ∈ ([0, 1, 2, 3, 4, 5, 6, 7, 8, 9, 10, 11, 12, 13, 14, 15, 16, 17, 18, 19, 20, 21, 22, 23, 24, 25, 27, 28, 29, 30, 31, 32, 33, 34, 35, 36, 38, 39, 40, 41, 42, 43, 44, 45, 46, 47, 48, 51, 52, 53, 54, 55, 56, 57, 58, 59, 60, 61, 62, 63, 64, 65, 66, 67, 68, 69, 70, 71, 72, 73, 74, 75, 76, 78, 79, 80, 81, 82, 84, 85, 86, 87, 88, 89, 90, 91, 92, 93, 94, 95, 97, 98, 99, 100, 101, 102, 105, 106, 107, 108, 109, 110, 111, 112, 113, 114, 115, 116, 117, 118, 119, 120, 121, 122, 123, 124, 125, 126, 127, 128, 129, 130, 131, 132, 133, 134, 135, 136, 137, 138, 139, 140, 141, 142, 143, 144, 145, 146, 147, 148, 149, 150, 151, 154, 155, 156, 159, 160, 161, 162, 163, 164, 165, 166, 167, 169, 170, 171, 172, 173, 174, 175, 176, 177, 178, 179, 180, 181, 182, 183, 184, 185, 187, 188, 189, 190, 191, 192, 193, 195, 196, 197, 198, 199, 200, 201, 202, 203, 204, 205, 206, 207, 208, 209, 210, 211, 212, 213, 214, 215, 216, 217, 218, 219, 220, 221, 222, 223, 224, 225, 226, 227, 228, 229, 230, 231, 232, 233, 234, 235, 236, 237, 238, 239, 240, 241, 242, 243, 244, 245, 246, 247, 248, 249, 250, 251, 252, 253, 254].map fun y => Cond.instanceMethod (jmn y)), w ∈ lw_tbl := jw_of [809, 1266, 814, 934, 823, 917, 942, 926, 938, 846, 851, 855, 859, 877, 863, 881, 885, 872, 868, 588, 756, 793, 772, 892, 972, 896, 827, 1209, 1217, 1233, 1229, 1245, 1249, 1013, 1027, 1031, 1038, 1096, 1109, 1105, 1169, 1177, 1152, 1160, 1157, 1046, 1050, 1060, 1070, 1083, 1078, 1091, 1074, 1087, 1114, 1118, 1122, 1126, 580, 677, 690, 716, 681, 686, 702, 706, 720, 724, 728, 745, 753, 798, 761, 769, 765, 777, 781, 958, 981, 1021, 1017, 1187, 964, 985, 969, 997, 584, 888, 694, 801, 710, 740, 748, 805, 735, 731, 592, 599, 607, 611, 616, 568, 573, 576, 831, 835, 1289, 841, 906, 913, 922, 930, 946, 977, 989, 1005, 994, 1009, 1100, 1133, 1138, 1142, 1147, 1165, 1173, 1182, 1191, 1196, 1199, 1205, 1213, 1221, 1225, 1242, 1238, 1254, 1258, 1263, 1270, 1274, 1278, 955, 951, 1618, 1622, 1635, 1631, 1657, 1642, 1649, 1665, 1688, 1748, 1704, 1684, 1677, 1700, 1669, 1692, 1661, 1673, 1696, 1708, 1712, 1732, 1728, 1716, 1720, 1724, 1736, 1740, 1744, 1626, 1766, 1770, 1804, 1755, 1841, 1816, 1791, 1787, 1780, 1837, 1774, 1759, 1763, 1865, 1829, 1825, 1821, 1812, 1833, 1799, 1807, 1844, 1853, 1848, 1856, 1869, 1860, 1882, 1877, 1887, 1937, 1872, 1890, 1909, 1903, 1899, 1894, 1916, 1929, 1933, 1941, 1945, 1925, 1920, 1948, 1958, 1953, 1961, 1966, 1970, 1974, 1978, 1982, 1987, 1991, 1995, 1999, 2008, 2016, 2012, 2003, 2019, 2023, 2027, 2031, 2035] (by decide +kernel)
theorem jmV_g : ∀ w ∈ ([0, 1, 2, 3, 4, 5, 6, 7, 8, 9, 10, 11, 12, 13, 14, 15, 16, 17, 18, 19, 20, 21, 22, 23, 24, 25, 27, 28, 29, 30, 31, 32, 33, 34, 35, 36, 38, 39, 40, 41, 42, 43, 44, 45, 46, 47, 48, 51, 52, 53, 54, 55, 56, 57, 58, 59, 60, 61, 62, 63, 64, 65, 66, 67, 68, 69, 70, 71, 72, 73, 74, 75, 76, 78, 79, 80, 81, 82, 84, 85, 86, 87, 88, 89, 90, 91, 92, 93, 94, 95, 97, 98, 99, 100, 101, 102, 105, 106, 107, 108, 109, 110, 111, 112, 113, 114, 115, 116, 117, 118, 119, 120, 121, 122, 123, 124, 125, 126, 127, 128, 129, 130, 131, 132, 133, 134, 135, 136, 137, 138, 139, 140, 141, 142, 143, 144, 145, 146, 147, 148, 149, 150, 151, 154, 155, 156, 159, 160, 161, 162, 163, 164, 165, 166, 167, 169, 170, 171, 172, 173, 174, 175, 176, 177, 178, 179, 180, 181, 182, 183, 184, 185, 187, 188, 189, 190, 191, 192, 193, 195, 196, 197, 198, 199, 200, 201, 202, 203, 204, 205, 206, 207, 208, 209, 210, 211, 212, 213, 214, 215, 216, 217, 218, 219, 220, 221, 222, 223, 224, 225, 226, 227, 228, 229, 230, 231, 232, 233, 234, 235, 236, 237, 238, 239, 240, 241, 242, 243, 244, 245, 246, 247, 248, 249, 250, 251, 252, 253, 254].map fun y => Cond.instanceMethod (jmn y)), w ∈ jws := jws_of jmV_t (by decide +kernel)
set_option maxRecDepth 100000 in
theorem jmL_t : ∀ w ∈ ([0, 1, 2, 3, 4, 5, 6, 7, 8, 9, 10, 11, 12, 13, 14, 15, 16, 17, 18, 19, 20, 21, 22, 23, 24, 25, 27, 28, 29, 30, 31, 32, 33, 34, 35, 36, 38, 39, 40, 41, 42, 43, 44, 45, 46, 47, 48, 51, 52, 53, 54, 55, 56, 57, 58, 59, 60, 61, 62, 63, 64, 65, 66, 67, 68, 69, 70, 71, 72, 73, 74, 75, 76, 78, 79, 80, 81, 82, 84, 85, 86, 87, 88, 89, 90, 91, 92, 93, 94, 95, 97, 98, 99, 100, 101, 102, 105, 106, 107, 108, 109, 110, 111, 112, 113, 114, 115, 116, 117, 118, 119, 120, 121, 122, 123, 124, 125, 126, 127, 128, 129, 130, 131, 132, 133, 134, 135, 136, 137, 138, 139, 140, 141, 142, 143, 144, 145, 146, 147, 148, 149, 150, 151, 154, 155, 156, 159, 160, 161, 162, 163, 164, 165, 166, 167, 169, 170, 171, 172, 173, 174, 175, 176, 177, 178, 179, 180, 181, 182, 183, 184, 185, 187, 188, 189, 190, 191, 192, 193, 195, 196, 197, 198, 199, 200, 201, 202, 203, 204, 205, 206, 207, 208, 209, 210, 211, 212, 213, 214, 215, 216, 217, 218, 219, 220, 221, 222, 223, 224, 225, 226, 227, 228, 229, 230, 231, 232, 233, 234, 235, 236, 237, 238, 239, 240, 241, 242, 243, 244, 245, 246, 247, 248, 249, 250, 251, 252, 253, 254].map fun y => Cond.selects (jmn y).cls (jmn y) (jmn y)), w ∈ lw_tbl := jw_of [810, 1267, 20, 935, 824, 918, 943, 927, 939, 847, 21, 22, 23, 27, 24, 28, 29, 26, 25, 589, 757, 794, 773, 893, 973, 897, 828, 1210, 1218, 1234, 1230, 1246, 1250, 1014, 34, 35, 1039, 1097, 1110, 1106, 1170, 1178, 1153, 1161, 49, 36, 37, 38, 39, 42, 41, 44, 40, 43, 45, 46, 47, 48, 581, 678, 5, 8, 682, 4, 6, 7, 9, 10, 11, 12, 13, 19, 14, 16, 15, 17, 18, 959, 982, 1022, 1018, 1188, 965, 986, 32, 998, 585, 889, 695, 802, 711, 741, 749, 806, 736, 732, 593, 600, 1, 2, 3, 569, 0, 577, 832, 836, 1290, 842, 907, 914, 923, 931, 947, 978, 990, 1006, 33, 1010, 1101, 1134, 1139, 1143, 1148, 1166, 1174, 1183, 1192, 50, 1200, 1206, 1214, 1222, 1226, 52, 51, 1255, 1259, 53, 1271, 1275, 1279, 31, 30, 1619, 1623, 56, 55, 59, 57, 58, 61, 66, 81, 70, 65, 64, 69, 62, 67, 60, 63, 68, 71, 72, 77, 76, 73, 74, 75, 78, 79, 80, 1627, 1767, 1771, 88, 82, 96, 90, 87, 86, 85, 95, 1775, 83, 84, 98, 93, 92, 91, 89, 94, 1800, 1808, 1845, 97, 1849, 1857, 99, 1861, 101, 100, 102, 109, 1873, 1891, 105, 104, 103, 1895, 1917, 107, 108, 110, 111, 106, 1921, 1949, 112, 1954, 1962, 1967, 1971, 1975, 1979, 1983, 1988, 1992, 1996, 2000, 113, 115, 114, 2004, 2020, 2024, 2028, 2032, 2036] (by decide +kernel)
theorem jmL_g : ∀ w ∈ ([0, 1, 2, 3, 4, 5, 6, 7, 8, 9, 10, 11, 12, 13, 14, 15, 16, 17, 18, 19, 20, 21, 22, 23, 24, 25, 27, 28, 29, 30, 31, 32, 33, 34, 35, 36, 38, 39, 40, 41, 42, 43, 44, 45, 46, 47, 48, 51, 52, 53, 54, 55, 56, 57, 58, 59, 60, 61, 62, 63, 64, 65, 66, 67, 68, 69, 70, 71, 72, 73, 74, 75, 76, 78, 79, 80, 81, 82, 84, 85, 86, 87, 88, 89, 90, 91, 92, 93, 94, 95, 97, 98, 99, 100, 101, 102, 105, 106, 107, 108, 109, 110, 111, 112, 113, 114, 115, 116, 117, 118, 119, 120, 121, 122, 123, 124, 125, 126, 127, 128, 129, 130, 131, 132, 133, 134, 135, 136, 137, 138, 139, 140, 141, 142, 143, 144, 145, 146, 147, 148, 149, 150, 151, 154, 155, 156, 159, 160, 161, 162, 163, 164, 165, 166, 167, 169, 170, 171, 172, 173, 174, 175, 176, 177, 178, 179, 180, 181, 182, 183, 184, 185, 187, 188, 189, 190, 191, 192, 193, 195, 196, 197, 198, 199, 200, 201, 202, 203, 204, 205, 206, 207, 208, 209, 210, 211, 212, 213, 214, 215, 216, 217, 218, 219, 220, 221, 222, 223, 224, 225, 226, 227, 228, 229, 230, 231, 232, 233, 234, 235, 236, 237, 238, 239, 240, 241, 242, 243, 244, 245, 246, 247, 248, 249, 250, 251, 252, 253, 254].map fun y => Cond.selects (jmn y).cls (jmn y) (jmn y)), w ∈ jws := jws_of jmL_t (by decide +kernel)
def jwk (M : jM) : Cond := .code M.1 M.2.1 M.2.2.1 (j_rt M.2.2.2.1)
set_option maxRecDepth 100000 in
theorem jmK_0 : ∀ w ∈ [jm_0, jm_1, jm_2, jm_3, jm_4, jm_5, jm_6, jm_7, jm_8, jm_9, jm_10, jm_11, jm_12, jm_13, jm_14, jm_15, jm_16, jm_17, jm_18, jm_19, jm_20, jm_21, jm_22, jm_23, jm_24, jm_25, jm_26, jm_27, jm_28, jm_29].map jwk, w ∈ lw_tbl := jw_of [811, 1268, 815, 936, 825, 919, 944, 928, 940, 848, 852, 856, 860, 878, 864, 882, 886, 873, 869, 590, 758, 795, 774, 894, 974, 898, 901, 829, 1211, 1219] rfl
set_option maxRecDepth 100000 in
theorem jmK_1 : ∀ w ∈ [jm_30, jm_31, jm_32, jm_33, jm_34, jm_35, jm_36, jm_37, jm_38, jm_39, jm_40, jm_41, jm_42, jm_43, jm_44, jm_45, jm_46, jm_47, jm_48, jm_49, jm_50, jm_51, jm_52, jm_53, jm_54, jm_55, jm_56, jm_57, jm_58, jm_59].map jwk, w ∈ lw_tbl := jw_of [1235, 1231, 1247, 1251, 1015, 1028, 1032, 1035, 1040, 1098, 1111, 1107, 1171, 1179, 1154, 1162, 1158, 1047, 1051, 1054, 1057, 1061, 1071, 1084, 1079, 1092, 1075, 1088, 1115, 1119] rfl
set_option maxRecDepth 100000 in
theorem jmK_2 : ∀ w ∈ [jm_60, jm_61, jm_62, jm_63, jm_64, jm_65, jm_66, jm_67, jm_68, jm_69, jm_70, jm_71, jm_72, jm_73, jm_74, jm_75, jm_76, jm_77, jm_78, jm_79, jm_80, jm_81, jm_82, jm_83, jm_84, jm_85, jm_86, jm_87, jm_88, jm_89].map jwk, w ∈ lw_tbl := jw_of [1123, 1127, 582, 679, 691, 717, 683, 687, 703, 707, 721, 725, 729, 746, 754, 799, 762, 788, 770, 766, 778, 782, 960, 1130, 983, 1023, 1019, 1189, 966, 987] rfl
set_option maxRecDepth 100000 in
theorem jmK_3 : ∀ w ∈ [jm_90, jm_91, jm_92, jm_93, jm_94, jm_95, jm_96, jm_97, jm_98, jm_99, jm_100, jm_101, jm_102, jm_103, jm_104, jm_105, jm_106, jm_107, jm_108, jm_109, jm_110, jm_111, jm_112, jm_113, jm_114, jm_115, jm_116, jm_117, jm_118, jm_119].map jwk, w ∈ lw_tbl := jw_of [970, 999, 586, 890, 696, 803, 699, 712, 742, 750, 807, 737, 733, 785, 791, 594, 601, 608, 612, 617, 570, 574, 578, 833, 837, 1291, 843, 908, 915, 924] rfl
set_option maxRecDepth 100000 in
theorem jmK_4 : ∀ w ∈ [jm_120, jm_121, jm_122, jm_123, jm_124, jm_125, jm_126, jm_127, jm_128, jm_129, jm_130, jm_131, jm_132, jm_133, jm_134, jm_135, jm_136, jm_137, jm_138, jm_139, jm_140, jm_141, jm_142, jm_143, jm_144, jm_145, jm_146, jm_147, jm_148, jm_149].map jwk, w ∈ lw_tbl := jw_of [932, 948, 979, 991, 1007, 995, 1011, 1102, 1135, 1140, 1144, 1149, 1167, 1175, 1184, 1193, 1197, 1201, 1207, 1215, 1223, 1227, 1243, 1239, 1256, 1260, 1264, 1272, 1276, 1280] rfl
set_option maxRecDepth 100000 in
theorem jmK_5 : ∀ w ∈ [jm_150, jm_151, jm_152, jm_153, jm_154, jm_155, jm_156, jm_157, jm_158, jm_159, jm_160, jm_161, jm_162, jm_163, jm_164, jm_165, jm_166, jm_167, jm_168, jm_169, jm_170, jm_171, jm_172, jm_173, jm_174, jm_175, jm_176, jm_177, jm_178, jm_179].map jwk, w ∈ lw_tbl := jw_of [956, 952, 604, 1043, 1620, 1624, 1636, 1639, 1653, 1632, 1658, 1643, 1650, 1666, 1689, 1749, 1705, 1685, 1681, 1678, 1701, 1670, 1693, 1662, 1674, 1697, 1709, 1713, 1733, 1729] rfl
set_option maxRecDepth 100000 in
theorem jmK_6 : ∀ w ∈ [jm_180, jm_181, jm_182, jm_183, jm_184, jm_185, jm_186, jm_187, jm_188, jm_189, jm_190, jm_191, jm_192, jm_193, jm_194, jm_195, jm_196, jm_197, jm_198, jm_199, jm_200, jm_201, jm_202, jm_203, jm_204, jm_205, jm_206, jm_207, jm_208, jm_209].map jwk, w ∈ lw_tbl := jw_of [1717, 1721, 1725, 1737, 1741, 1745, 1752, 1628, 1768, 1772, 1805, 1756, 1842, 1817, 1784, 1792, 1788, 1781, 1838, 1776, 1760, 1764, 1866, 1830, 1826, 1822, 1813, 1834, 1801, 1809] rfl
set_option maxRecDepth 100000 in
theorem jmK_7 : ∀ w ∈ [jm_210, jm_211, jm_212, jm_213, jm_214, jm_215, jm_216, jm_217, jm_218, jm_219, jm_220, jm_221, jm_222, jm_223, jm_224, jm_225, jm_226, jm_227, jm_228, jm_229, jm_230, jm_231, jm_232, jm_233, jm_234, jm_235, jm_236, jm_237, jm_238, jm_239].map jwk, w ∈ lw_tbl := jw_of [1846, 1854, 1850, 1858, 1870, 1862, 1883, 1878, 1888, 1938, 1874, 1892, 1910, 1904, 1900, 1896, 1918, 1930, 1934, 1942, 1946, 1926, 1922, 1950, 1959, 1955, 1963, 1968, 1972, 1976] rfl
set_option maxRecDepth 100000 in
theorem jmK_8 : ∀ w ∈ [jm_240, jm_241, jm_242, jm_243, jm_244, jm_245, jm_246, jm_247, jm_248, jm_249, jm_250, jm_251, jm_252, jm_253, jm_254, jm_255, jm_256].map jwk, w ∈ lw_tbl := jw_of [1980, 1984, 1989, 1993, 1997, 2001, 2009, 2017, 2013, 2005, 2021, 2025, 2029, 2033, 2037, 1064, 821] rfl
def jwX : List Cond := [.static (jmh 910), .static (jmh 911), .static (jmh 912), .static (jmh 913), .initialized "java/lang/Math", .code (jmh 910) Lib.Math.max.code 2 (some .int), .code (jmh 911) Lib.Math.min.code 2 (some .int), .code (jmh 912) Lib.MathLoose.min_long.code 4 (some .long), .code (jmh 913) Lib.MathLoose.abs_long.code 2 (some .long), .static arraycopyName, .native arraycopyName, .initialized "java/lang/System"]
set_option maxRecDepth 100000 in
theorem jwX_t : ∀ w ∈ jwX, w ∈ lw_tbl := jw_of [635, 596, 1912, 1794, 131, 636, 597, 1913, 1795, 817, 818, 133] (by decide +kernel)
theorem jwX_g : ∀ w ∈ jwX, w ∈ jws := jws_of jwX_t (by decide +kernel)

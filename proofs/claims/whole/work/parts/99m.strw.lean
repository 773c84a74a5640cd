/-! Strings: names, words, decoded instructions of the methods of String that are called. Printed by wip/gen/strs.py. -/
def sy_len : MethodName := ⟨"java/lang/String", "length", "()I"⟩
abbrev sc_len : ByteArray := prog_21_method_54_code
def sy_coder : MethodName := ⟨"java/lang/String", "coder", "()B"⟩
abbrev sc_coder : ByteArray := prog_21_method_152_code
def sy_lat : MethodName := ⟨"java/lang/String", "isLatin1", "()Z"⟩
abbrev sc_lat : ByteArray := prog_21_method_154_code
def sy_chr : MethodName := ⟨"java/lang/String", "charAt", "(I)C"⟩
abbrev sc_chr : ByteArray := prog_21_method_56_code
def sy_chk : MethodName := ⟨"java/lang/String", "checkIndex", "(II)V"⟩
abbrev sc_chk : ByteArray := prog_21_method_155_code
def sy_pchk : MethodName := ⟨"jdk/internal/util/Preconditions", "checkIndex", "(IILjava/util/function/BiFunction;)I"⟩
abbrev sc_pchk : ByteArray := prog_30_method_11_code
def sy_chr1 : MethodName := ⟨"java/lang/StringLatin1", "charAt", "([BI)C"⟩
abbrev sc_chr1 : ByteArray := prog_22_method_2_code
def sy_enc : MethodName := ⟨"java/lang/StringLatin1", "canEncode", "(I)Z"⟩
abbrev sc_enc : ByteArray := prog_22_method_4_code
def sy_ixc : MethodName := ⟨"java/lang/StringLatin1", "indexOfChar", "([BIII)I"⟩
abbrev sc_ixc : ByteArray := prog_22_method_23_code
def sy_ix1 : MethodName := ⟨"java/lang/StringLatin1", "indexOf", "([BIII)I"⟩
abbrev sc_ix1 : ByteArray := prog_22_method_22_code
def sy_ix2 : MethodName := ⟨"java/lang/String", "indexOf", "(II)I"⟩
abbrev sc_ix2 : ByteArray := prog_21_method_80_code
def sy_ix : MethodName := ⟨"java/lang/String", "indexOf", "(I)I"⟩
abbrev sc_ix : ByteArray := prog_21_method_79_code
def sW : List Cond := [.code sy_len sc_len 1 (some .int), .instanceMethod sy_len, .selects "java/lang/String" sy_len sy_len, .code sy_coder sc_coder 1 (some .byte), .instanceMethod sy_coder, .selects "java/lang/String" sy_coder sy_coder, .code sy_lat sc_lat 1 (some .boolean), .instanceMethod sy_lat, .selects "java/lang/String" sy_lat sy_lat, .code sy_chr sc_chr 2 (some .char), .instanceMethod sy_chr, .selects "java/lang/String" sy_chr sy_chr, .code sy_chk sc_chk 2 none, .static sy_chk, .code sy_pchk sc_pchk 3 (some .int), .static sy_pchk, .code sy_chr1 sc_chr1 2 (some .char), .static sy_chr1, .code sy_enc sc_enc 1 (some .boolean), .static sy_enc, .code sy_ixc sc_ixc 6 (some .int), .static sy_ixc, .code sy_ix1 sc_ix1 4 (some .int), .static sy_ix1, .code sy_ix2 sc_ix2 3 (some .int), .instanceMethod sy_ix2, .selects "java/lang/String" sy_ix2 sy_ix2, .code sy_ix sc_ix 2 (some .int), .instanceMethod sy_ix, .selects "java/lang/String" sy_ix sy_ix, .initialized "java/lang/String", .initialized "java/lang/StringLatin1", .initialized "jdk/internal/util/Preconditions", .methodLink "HalfHands$Tokens" 20 sy_len, .methodLink "java/lang/String" 335 sy_coder, .fieldLink "java/lang/String" 38 "java/lang/String" "COMPACT_STRINGS" "Z", .methodLink "HalfHands$Tokens" 26 sy_chr, .methodLink "java/lang/String" 492 sy_lat, .methodLink "java/lang/String" 495 sy_chr1, .methodLink "java/lang/StringLatin1" 9 sy_chk, .fieldLink "java/lang/String" 1053 "jdk/internal/util/Preconditions" "SIOOBE_FORMATTER" "Ljava/util/function/BiFunction;", .methodLink "java/lang/String" 1059 sy_pchk, .methodLink "HalfHands$Tokens" 70 sy_ix, .methodLink "java/lang/String" 633 sy_ix2, .methodLink "java/lang/String" 505 sy_len, .methodLink "java/lang/String" 637 sy_ix1, .methodLink "java/lang/StringLatin1" 88 sy_enc, .methodLink "java/lang/StringLatin1" 92 Lib.Math.max.name, .methodLink "java/lang/StringLatin1" 38 Lib.Math.min.name, .methodLink "java/lang/StringLatin1" 95 sy_ixc, .methodLink "HalfHandsModel" 183 sy_len, .methodLink "HalfHandsModel" 188 sy_chr, .fieldLink "java/lang/String" 9 "java/lang/String" "value" "[B", .fieldLink "java/lang/String" 15 "java/lang/String" "coder" "B"]
set_option maxRecDepth 100000 in
theorem sW_t : ∀ w ∈ sW, w ∈ lw_tbl := jw_of [277, 275, 276, 281, 279, 280, 291, 289, 290, 287, 285, 286, 297, 296, 302, 301, 294, 293, 633, 632, 640, 639, 630, 629, 626, 624, 625, 622, 620, 621, 122, 123, 124, 274, 278, 282, 284, 288, 292, 295, 298, 300, 619, 623, 627, 628, 631, 634, 637, 638, 1645, 1646, 2054, 2055] rfl
theorem sW_g : ∀ w ∈ sW, w ∈ jws := jws_of sW_t (by decide +kernel)
/-- words that are of the start alone -/
def sV : List Cond := [.stringRef "HalfHands$Tokens" 18 "coins age next elder place hour person purse hands to or parcel law may not and ", .laysStatic "java/lang/String" "COMPACT_STRINGS" "Z", .laysStatic "jdk/internal/util/Preconditions" "SIOOBE_FORMATTER" "Ljava/util/function/BiFunction;", .stringRef "HalfHands$Tokens" 68 ";()+-*/%<=>", .stringRef "HalfHandsModel" 181 "person hands parcel law may purse to or and not coins age next elder place hour "]
set_option maxRecDepth 100000 in
theorem sV_t : ∀ w ∈ sV, w ∈ lw_tbl := jw_of [273, 283, 299, 618, 1644] rfl
theorem sd_len_0 : decode sc_len 0 = .ok (.aload_n 0, 1) := by decide +kernel
theorem sd_len_1 : decode sc_len 1 = .ok (.getfield 9, 3) := by decide +kernel
theorem sd_len_4 : decode sc_len 4 = .ok (.arraylength, 1) := by decide +kernel
theorem sd_len_5 : decode sc_len 5 = .ok (.aload_n 0, 1) := by decide +kernel
theorem sd_len_6 : decode sc_len 6 = .ok (.invokevirtual 335, 3) := by decide +kernel
theorem sd_len_9 : decode sc_len 9 = .ok (.ishr, 1) := by decide +kernel
theorem sd_len_10 : decode sc_len 10 = .ok (.ireturn, 1) := by decide +kernel
theorem sd_coder_0 : decode sc_coder 0 = .ok (.getstatic 38, 3) := by decide +kernel
theorem sd_coder_3 : decode sc_coder 3 = .ok (.ifCond .eq 10, 3) := by decide +kernel
theorem sd_coder_6 : decode sc_coder 6 = .ok (.aload_n 0, 1) := by decide +kernel
theorem sd_coder_7 : decode sc_coder 7 = .ok (.getfield 15, 3) := by decide +kernel
theorem sd_coder_10 : decode sc_coder 10 = .ok (.goto 4, 3) := by decide +kernel
theorem sd_coder_13 : decode sc_coder 13 = .ok (.iconst 1, 1) := by decide +kernel
theorem sd_coder_14 : decode sc_coder 14 = .ok (.ireturn, 1) := by decide +kernel
theorem sd_lat_0 : decode sc_lat 0 = .ok (.getstatic 38, 3) := by decide +kernel
theorem sd_lat_3 : decode sc_lat 3 = .ok (.ifCond .eq 14, 3) := by decide +kernel
theorem sd_lat_6 : decode sc_lat 6 = .ok (.aload_n 0, 1) := by decide +kernel
theorem sd_lat_7 : decode sc_lat 7 = .ok (.getfield 15, 3) := by decide +kernel
theorem sd_lat_10 : decode sc_lat 10 = .ok (.ifCond .ne 7, 3) := by decide +kernel
theorem sd_lat_13 : decode sc_lat 13 = .ok (.iconst 1, 1) := by decide +kernel
theorem sd_lat_14 : decode sc_lat 14 = .ok (.goto 4, 3) := by decide +kernel
theorem sd_lat_17 : decode sc_lat 17 = .ok (.iconst 0, 1) := by decide +kernel
theorem sd_lat_18 : decode sc_lat 18 = .ok (.ireturn, 1) := by decide +kernel
theorem sd_chr_0 : decode sc_chr 0 = .ok (.aload_n 0, 1) := by decide +kernel
theorem sd_chr_1 : decode sc_chr 1 = .ok (.invokevirtual 492, 3) := by decide +kernel
theorem sd_chr_4 : decode sc_chr 4 = .ok (.ifCond .eq 12, 3) := by decide +kernel
theorem sd_chr_7 : decode sc_chr 7 = .ok (.aload_n 0, 1) := by decide +kernel
theorem sd_chr_8 : decode sc_chr 8 = .ok (.getfield 9, 3) := by decide +kernel
theorem sd_chr_11 : decode sc_chr 11 = .ok (.iload_n 1, 1) := by decide +kernel
theorem sd_chr_12 : decode sc_chr 12 = .ok (.invokestatic 495, 3) := by decide +kernel
theorem sd_chr_15 : decode sc_chr 15 = .ok (.ireturn, 1) := by decide +kernel
theorem sd_chr_16 : decode sc_chr 16 = .ok (.aload_n 0, 1) := by decide +kernel
theorem sd_chr_17 : decode sc_chr 17 = .ok (.getfield 9, 3) := by decide +kernel
theorem sd_chr_20 : decode sc_chr 20 = .ok (.iload_n 1, 1) := by decide +kernel
theorem sd_chr_21 : decode sc_chr 21 = .ok (.invokestatic 498, 3) := by decide +kernel
theorem sd_chr_24 : decode sc_chr 24 = .ok (.ireturn, 1) := by decide +kernel
theorem sd_chk_0 : decode sc_chk 0 = .ok (.iload_n 0, 1) := by decide +kernel
theorem sd_chk_1 : decode sc_chk 1 = .ok (.iload_n 1, 1) := by decide +kernel
theorem sd_chk_2 : decode sc_chk 2 = .ok (.getstatic 1053, 3) := by decide +kernel
theorem sd_chk_5 : decode sc_chk 5 = .ok (.invokestatic 1059, 3) := by decide +kernel
theorem sd_chk_8 : decode sc_chk 8 = .ok (.pop, 1) := by decide +kernel
theorem sd_chk_9 : decode sc_chk 9 = .ok (.return_, 1) := by decide +kernel
theorem sd_pchk_0 : decode sc_pchk 0 = .ok (.iload_n 0, 1) := by decide +kernel
theorem sd_pchk_1 : decode sc_pchk 1 = .ok (.ifCond .lt 8, 3) := by decide +kernel
theorem sd_pchk_4 : decode sc_pchk 4 = .ok (.iload_n 0, 1) := by decide +kernel
theorem sd_pchk_5 : decode sc_pchk 5 = .ok (.iload_n 1, 1) := by decide +kernel
theorem sd_pchk_6 : decode sc_pchk 6 = .ok (.if_icmp .lt 10, 3) := by decide +kernel
theorem sd_pchk_9 : decode sc_pchk 9 = .ok (.aload_n 2, 1) := by decide +kernel
theorem sd_pchk_10 : decode sc_pchk 10 = .ok (.iload_n 0, 1) := by decide +kernel
theorem sd_pchk_11 : decode sc_pchk 11 = .ok (.iload_n 1, 1) := by decide +kernel
theorem sd_pchk_12 : decode sc_pchk 12 = .ok (.invokestatic 95, 3) := by decide +kernel
theorem sd_pchk_15 : decode sc_pchk 15 = .ok (.athrow, 1) := by decide +kernel
theorem sd_pchk_16 : decode sc_pchk 16 = .ok (.iload_n 0, 1) := by decide +kernel
theorem sd_pchk_17 : decode sc_pchk 17 = .ok (.ireturn, 1) := by decide +kernel
theorem sd_chr1_0 : decode sc_chr1 0 = .ok (.iload_n 1, 1) := by decide +kernel
theorem sd_chr1_1 : decode sc_chr1 1 = .ok (.aload_n 0, 1) := by decide +kernel
theorem sd_chr1_2 : decode sc_chr1 2 = .ok (.arraylength, 1) := by decide +kernel
theorem sd_chr1_3 : decode sc_chr1 3 = .ok (.invokestatic 9, 3) := by decide +kernel
theorem sd_chr1_6 : decode sc_chr1 6 = .ok (.aload_n 0, 1) := by decide +kernel
theorem sd_chr1_7 : decode sc_chr1 7 = .ok (.iload_n 1, 1) := by decide +kernel
theorem sd_chr1_8 : decode sc_chr1 8 = .ok (.baload, 1) := by decide +kernel
theorem sd_chr1_9 : decode sc_chr1 9 = .ok (.sipush 255, 3) := by decide +kernel
theorem sd_chr1_12 : decode sc_chr1 12 = .ok (.iand, 1) := by decide +kernel
theorem sd_chr1_13 : decode sc_chr1 13 = .ok (.i2c, 1) := by decide +kernel
theorem sd_chr1_14 : decode sc_chr1 14 = .ok (.ireturn, 1) := by decide +kernel
theorem sd_enc_0 : decode sc_enc 0 = .ok (.iload_n 0, 1) := by decide +kernel
theorem sd_enc_1 : decode sc_enc 1 = .ok (.ifCond .lt 14, 3) := by decide +kernel
theorem sd_enc_4 : decode sc_enc 4 = .ok (.iload_n 0, 1) := by decide +kernel
theorem sd_enc_5 : decode sc_enc 5 = .ok (.sipush 255, 3) := by decide +kernel
theorem sd_enc_8 : decode sc_enc 8 = .ok (.if_icmp .gt 7, 3) := by decide +kernel
theorem sd_enc_11 : decode sc_enc 11 = .ok (.iconst 1, 1) := by decide +kernel
theorem sd_enc_12 : decode sc_enc 12 = .ok (.goto 4, 3) := by decide +kernel
theorem sd_enc_15 : decode sc_enc 15 = .ok (.iconst 0, 1) := by decide +kernel
theorem sd_enc_16 : decode sc_enc 16 = .ok (.ireturn, 1) := by decide +kernel
theorem sd_ixc_0 : decode sc_ixc 0 = .ok (.iload_n 1, 1) := by decide +kernel
theorem sd_ixc_1 : decode sc_ixc 1 = .ok (.i2b, 1) := by decide +kernel
theorem sd_ixc_2 : decode sc_ixc 2 = .ok (.istore 4, 2) := by decide +kernel
theorem sd_ixc_4 : decode sc_ixc 4 = .ok (.iload_n 2, 1) := by decide +kernel
theorem sd_ixc_5 : decode sc_ixc 5 = .ok (.istore 5, 2) := by decide +kernel
theorem sd_ixc_7 : decode sc_ixc 7 = .ok (.iload 5, 2) := by decide +kernel
theorem sd_ixc_9 : decode sc_ixc 9 = .ok (.iload_n 3, 1) := by decide +kernel
theorem sd_ixc_10 : decode sc_ixc 10 = .ok (.if_icmp .ge 21, 3) := by decide +kernel
theorem sd_ixc_13 : decode sc_ixc 13 = .ok (.aload_n 0, 1) := by decide +kernel
theorem sd_ixc_14 : decode sc_ixc 14 = .ok (.iload 5, 2) := by decide +kernel
theorem sd_ixc_16 : decode sc_ixc 16 = .ok (.baload, 1) := by decide +kernel
theorem sd_ixc_17 : decode sc_ixc 17 = .ok (.iload 4, 2) := by decide +kernel
theorem sd_ixc_19 : decode sc_ixc 19 = .ok (.if_icmp .ne 6, 3) := by decide +kernel
theorem sd_ixc_22 : decode sc_ixc 22 = .ok (.iload 5, 2) := by decide +kernel
theorem sd_ixc_24 : decode sc_ixc 24 = .ok (.ireturn, 1) := by decide +kernel
theorem sd_ixc_25 : decode sc_ixc 25 = .ok (.iinc 5 1, 3) := by decide +kernel
theorem sd_ixc_28 : decode sc_ixc 28 = .ok (.goto (-21), 3) := by decide +kernel
theorem sd_ixc_31 : decode sc_ixc 31 = .ok (.iconst (-1), 1) := by decide +kernel
theorem sd_ixc_32 : decode sc_ixc 32 = .ok (.ireturn, 1) := by decide +kernel
theorem sd_ix1_0 : decode sc_ix1 0 = .ok (.iload_n 1, 1) := by decide +kernel
theorem sd_ix1_1 : decode sc_ix1 1 = .ok (.invokestatic 88, 3) := by decide +kernel
theorem sd_ix1_4 : decode sc_ix1 4 = .ok (.ifCond .ne 5, 3) := by decide +kernel
theorem sd_ix1_7 : decode sc_ix1 7 = .ok (.iconst (-1), 1) := by decide +kernel
theorem sd_ix1_8 : decode sc_ix1 8 = .ok (.ireturn, 1) := by decide +kernel
theorem sd_ix1_9 : decode sc_ix1 9 = .ok (.iload_n 2, 1) := by decide +kernel
theorem sd_ix1_10 : decode sc_ix1 10 = .ok (.iconst 0, 1) := by decide +kernel
theorem sd_ix1_11 : decode sc_ix1 11 = .ok (.invokestatic 92, 3) := by decide +kernel
theorem sd_ix1_14 : decode sc_ix1 14 = .ok (.istore_n 2, 1) := by decide +kernel
theorem sd_ix1_15 : decode sc_ix1 15 = .ok (.iload_n 3, 1) := by decide +kernel
theorem sd_ix1_16 : decode sc_ix1 16 = .ok (.aload_n 0, 1) := by decide +kernel
theorem sd_ix1_17 : decode sc_ix1 17 = .ok (.arraylength, 1) := by decide +kernel
theorem sd_ix1_18 : decode sc_ix1 18 = .ok (.invokestatic 38, 3) := by decide +kernel
theorem sd_ix1_21 : decode sc_ix1 21 = .ok (.istore_n 3, 1) := by decide +kernel
theorem sd_ix1_22 : decode sc_ix1 22 = .ok (.iload_n 2, 1) := by decide +kernel
theorem sd_ix1_23 : decode sc_ix1 23 = .ok (.iload_n 3, 1) := by decide +kernel
theorem sd_ix1_24 : decode sc_ix1 24 = .ok (.if_icmp .lt 5, 3) := by decide +kernel
theorem sd_ix1_27 : decode sc_ix1 27 = .ok (.iconst (-1), 1) := by decide +kernel
theorem sd_ix1_28 : decode sc_ix1 28 = .ok (.ireturn, 1) := by decide +kernel
theorem sd_ix1_29 : decode sc_ix1 29 = .ok (.aload_n 0, 1) := by decide +kernel
theorem sd_ix1_30 : decode sc_ix1 30 = .ok (.iload_n 1, 1) := by decide +kernel
theorem sd_ix1_31 : decode sc_ix1 31 = .ok (.iload_n 2, 1) := by decide +kernel
theorem sd_ix1_32 : decode sc_ix1 32 = .ok (.iload_n 3, 1) := by decide +kernel
theorem sd_ix1_33 : decode sc_ix1 33 = .ok (.invokestatic 95, 3) := by decide +kernel
theorem sd_ix1_36 : decode sc_ix1 36 = .ok (.ireturn, 1) := by decide +kernel
theorem sd_ix2_0 : decode sc_ix2 0 = .ok (.aload_n 0, 1) := by decide +kernel
theorem sd_ix2_1 : decode sc_ix2 1 = .ok (.invokevirtual 492, 3) := by decide +kernel
theorem sd_ix2_4 : decode sc_ix2 4 = .ok (.ifCond .eq 19, 3) := by decide +kernel
theorem sd_ix2_7 : decode sc_ix2 7 = .ok (.aload_n 0, 1) := by decide +kernel
theorem sd_ix2_8 : decode sc_ix2 8 = .ok (.getfield 9, 3) := by decide +kernel
theorem sd_ix2_11 : decode sc_ix2 11 = .ok (.iload_n 1, 1) := by decide +kernel
theorem sd_ix2_12 : decode sc_ix2 12 = .ok (.iload_n 2, 1) := by decide +kernel
theorem sd_ix2_13 : decode sc_ix2 13 = .ok (.aload_n 0, 1) := by decide +kernel
theorem sd_ix2_14 : decode sc_ix2 14 = .ok (.invokevirtual 505, 3) := by decide +kernel
theorem sd_ix2_17 : decode sc_ix2 17 = .ok (.invokestatic 637, 3) := by decide +kernel
theorem sd_ix2_20 : decode sc_ix2 20 = .ok (.goto 16, 3) := by decide +kernel
theorem sd_ix2_23 : decode sc_ix2 23 = .ok (.aload_n 0, 1) := by decide +kernel
theorem sd_ix2_24 : decode sc_ix2 24 = .ok (.getfield 9, 3) := by decide +kernel
theorem sd_ix2_27 : decode sc_ix2 27 = .ok (.iload_n 1, 1) := by decide +kernel
theorem sd_ix2_28 : decode sc_ix2 28 = .ok (.iload_n 2, 1) := by decide +kernel
theorem sd_ix2_29 : decode sc_ix2 29 = .ok (.aload_n 0, 1) := by decide +kernel
theorem sd_ix2_30 : decode sc_ix2 30 = .ok (.invokevirtual 505, 3) := by decide +kernel
theorem sd_ix2_33 : decode sc_ix2 33 = .ok (.invokestatic 640, 3) := by decide +kernel
theorem sd_ix2_36 : decode sc_ix2 36 = .ok (.ireturn, 1) := by decide +kernel
theorem sd_ix_0 : decode sc_ix 0 = .ok (.aload_n 0, 1) := by decide +kernel
theorem sd_ix_1 : decode sc_ix 1 = .ok (.iload_n 1, 1) := by decide +kernel
theorem sd_ix_2 : decode sc_ix 2 = .ok (.iconst 0, 1) := by decide +kernel
theorem sd_ix_3 : decode sc_ix 3 = .ok (.invokevirtual 633, 3) := by decide +kernel
theorem sd_ix_6 : decode sc_ix 6 = .ok (.ireturn, 1) := by decide +kernel

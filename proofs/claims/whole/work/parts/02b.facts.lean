/-! What is known of a method of the table. Printed by wip/gen/facts.py. -/
def jVl : List Nat := [0, 1, 2, 3, 4, 5, 6, 7, 8, 9, 10, 11, 12, 13, 14, 15, 16, 17, 18, 19, 20, 21, 22, 23, 24, 25, 27, 28, 29, 30, 31, 32, 33, 34, 35, 36, 38, 39, 40, 41, 42, 43, 44, 45, 46, 47, 48, 51, 52, 53, 54, 55, 56, 57, 58, 59, 60, 61, 62, 63, 64, 65, 66, 67, 68, 69, 70, 71, 72, 73, 74, 75, 76, 78, 79, 80, 81, 82, 84, 85, 86, 87, 88, 89, 90, 91, 92, 93, 94, 95, 97, 98, 99, 100, 101, 102, 105, 106, 107, 108, 109, 110, 111, 112, 113, 114, 115, 116, 117, 118, 119, 120, 121, 122, 123, 124, 125, 126, 127, 128, 129, 130, 131, 132, 133, 134, 135, 136, 137, 138, 139, 140, 141, 142, 143, 144, 145, 146, 147, 148, 149, 150, 151, 154, 155, 156, 159, 160, 161, 162, 163, 164, 165, 166, 167, 169, 170, 171, 172, 173, 174, 175, 176, 177, 178, 179, 180, 181, 182, 183, 184, 185, 187, 188, 189, 190, 191, 192, 193, 195, 196, 197, 198, 199, 200, 201, 202, 203, 204, 205, 206, 207, 208, 209, 210, 211, 212, 213, 214, 215, 216, 217, 218, 219, 220, 221, 222, 223, 224, 225, 226, 227, 228, 229, 230, 231, 232, 233, 234, 235, 236, 237, 238, 239, 240, 241, 242, 243, 244, 245, 246, 247, 248, 249, 250, 251, 252, 253, 254]
def jSl : List Nat := [26, 37, 49, 50, 77, 83, 96, 103, 104, 152, 153, 157, 158, 168, 186, 194, 255, 256]
set_option maxRecDepth 100000 in
theorem jMM_code : ∀ M ∈ jMM, jwk M ∈ lw_tbl := by
  intro M h
  have e0 := jmK_0
  have e1 := jmK_1
  have e2 := jmK_2
  have e3 := jmK_3
  have e4 := jmK_4
  have e5 := jmK_5
  have e6 := jmK_6
  have e7 := jmK_7
  have e8 := jmK_8
  have h : M ∈ [jm_0, jm_1, jm_2, jm_3, jm_4, jm_5, jm_6, jm_7, jm_8, jm_9, jm_10, jm_11, jm_12, jm_13, jm_14, jm_15, jm_16, jm_17, jm_18, jm_19, jm_20, jm_21, jm_22, jm_23, jm_24, jm_25, jm_26, jm_27, jm_28, jm_29] ++ ([jm_30, jm_31, jm_32, jm_33, jm_34, jm_35, jm_36, jm_37, jm_38, jm_39, jm_40, jm_41, jm_42, jm_43, jm_44, jm_45, jm_46, jm_47, jm_48, jm_49, jm_50, jm_51, jm_52, jm_53, jm_54, jm_55, jm_56, jm_57, jm_58, jm_59] ++ ([jm_60, jm_61, jm_62, jm_63, jm_64, jm_65, jm_66, jm_67, jm_68, jm_69, jm_70, jm_71, jm_72, jm_73, jm_74, jm_75, jm_76, jm_77, jm_78, jm_79, jm_80, jm_81, jm_82, jm_83, jm_84, jm_85, jm_86, jm_87, jm_88, jm_89] ++ ([jm_90, jm_91, jm_92, jm_93, jm_94, jm_95, jm_96, jm_97, jm_98, jm_99, jm_100, jm_101, jm_102, jm_103, jm_104, jm_105, jm_106, jm_107, jm_108, jm_109, jm_110, jm_111, jm_112, jm_113, jm_114, jm_115, jm_116, jm_117, jm_118, jm_119] ++ ([jm_120, jm_121, jm_122, jm_123, jm_124, jm_125, jm_126, jm_127, jm_128, jm_129, jm_130, jm_131, jm_132, jm_133, jm_134, jm_135, jm_136, jm_137, jm_138, jm_139, jm_140, jm_141, jm_142, jm_143, jm_144, jm_145, jm_146, jm_147, jm_148, jm_149] ++ ([jm_150, jm_151, jm_152, jm_153, jm_154, jm_155, jm_156, jm_157, jm_158, jm_159, jm_160, jm_161, jm_162, jm_163, jm_164, jm_165, jm_166, jm_167, jm_168, jm_169, jm_170, jm_171, jm_172, jm_173, jm_174, jm_175, jm_176, jm_177, jm_178, jm_179] ++ ([jm_180, jm_181, jm_182, jm_183, jm_184, jm_185, jm_186, jm_187, jm_188, jm_189, jm_190, jm_191, jm_192, jm_193, jm_194, jm_195, jm_196, jm_197, jm_198, jm_199, jm_200, jm_201, jm_202, jm_203, jm_204, jm_205, jm_206, jm_207, jm_208, jm_209] ++ ([jm_210, jm_211, jm_212, jm_213, jm_214, jm_215, jm_216, jm_217, jm_218, jm_219, jm_220, jm_221, jm_222, jm_223, jm_224, jm_225, jm_226, jm_227, jm_228, jm_229, jm_230, jm_231, jm_232, jm_233, jm_234, jm_235, jm_236, jm_237, jm_238, jm_239] ++ ([jm_240, jm_241, jm_242, jm_243, jm_244, jm_245, jm_246, jm_247, jm_248, jm_249, jm_250, jm_251, jm_252, jm_253, jm_254, jm_255, jm_256])))))))) := h
  rcases List.mem_append.mp h with h | h
  · exact e0 _ (List.mem_map.mpr ⟨M, h, rfl⟩)
  rcases List.mem_append.mp h with h | h
  · exact e1 _ (List.mem_map.mpr ⟨M, h, rfl⟩)
  rcases List.mem_append.mp h with h | h
  · exact e2 _ (List.mem_map.mpr ⟨M, h, rfl⟩)
  rcases List.mem_append.mp h with h | h
  · exact e3 _ (List.mem_map.mpr ⟨M, h, rfl⟩)
  rcases List.mem_append.mp h with h | h
  · exact e4 _ (List.mem_map.mpr ⟨M, h, rfl⟩)
  rcases List.mem_append.mp h with h | h
  · exact e5 _ (List.mem_map.mpr ⟨M, h, rfl⟩)
  rcases List.mem_append.mp h with h | h
  · exact e6 _ (List.mem_map.mpr ⟨M, h, rfl⟩)
  rcases List.mem_append.mp h with h | h
  · exact e7 _ (List.mem_map.mpr ⟨M, h, rfl⟩)
  exact e8 _ (List.mem_map.mpr ⟨M, h, rfl⟩)
theorem jMM_all : jMM.all (fun M => plainName M.1.cls && decide (M.1.cls ≠ "java/lang/invoke/MethodHandle") && decide (M.1.cls ≠ "java/lang/invoke/VarHandle") && decide ((parseMethodDescriptor M.1.desc).map (fun d => d.parameters.length) = some M.2.2.2.2.2.1) && decide (jon M.2.2.2.2.1 = M.1.cls) && decide (M.2.2.1 ≤ 30) && decide (M.2.2.2.1 ≤ 3)) = true := by decide +kernel
theorem jMM_good : (jMM.map jwk).all goodWord = true := by decide +kernel
theorem jMM_kind : ∀ y, y < 257 → ((jMM.getD y jmd).2.2.2.2.2.2 = 0 → y ∈ jVl) ∧ ((jMM.getD y jmd).2.2.2.2.2.2 = 1 → y ∈ jSl) := by decide +kernel
theorem jMM_len : jMM.length = 257 := by decide +kernel
theorem jMM_all_in : ∀ y, y < 257 → y ∈ [0, 1, 2, 3, 4, 5, 6, 7, 8, 9, 10, 11, 12, 13, 14, 15, 16, 17, 18, 19, 20, 21, 22, 23, 24, 25, 26, 27, 28, 29, 30, 31, 32, 33, 34, 35, 36, 37, 38, 39, 40, 41, 42, 43, 44, 45, 46, 47, 48, 49, 50, 51, 52, 53, 54, 55, 56, 57, 58, 59, 60, 61, 62, 63, 64, 65, 66, 67, 68, 69, 70, 71, 72, 73, 74, 75, 76, 77, 78, 79, 80, 81, 82, 83, 84, 85, 86, 87, 88, 89, 90, 91, 92, 93, 94, 95, 96, 97, 98, 99, 100, 101, 102, 103, 104, 105, 106, 107, 108, 109, 110, 111, 112, 113, 114, 115, 116, 117, 118, 119, 120, 121, 122, 123, 124, 125, 126, 127, 128, 129, 130, 131, 132, 133, 134, 135, 136, 137, 138, 139, 140, 141, 142, 143, 144, 145, 146, 147, 148, 149, 150, 151, 152, 153, 154, 155, 156, 157, 158, 159, 160, 161, 162, 163, 164, 165, 166, 167, 168, 169, 170, 171, 172, 173, 174, 175, 176, 177, 178, 179, 180, 181, 182, 183, 184, 185, 186, 187, 188, 189, 190, 191, 192, 193, 194, 195, 196, 197, 198, 199, 200, 201, 202, 203, 204, 205, 206, 207, 208, 209, 210, 211, 212, 213, 214, 215, 216, 217, 218, 219, 220, 221, 222, 223, 224, 225, 226, 227, 228, 229, 230, 231, 232, 233, 234, 235, 236, 237, 238, 239, 240, 241, 242, 243, 244, 245, 246, 247, 248, 249, 250, 251, 252, 253, 254, 255, 256] := by decide +kernel
theorem jmn_eq {y : Nat} {M : jM} (h : jMM[y]? = some M) : jMM.getD y jmd = M := by
  rw [List.getD_eq_getElem?_getD, h]
  rfl
theorem jm_lt {y : Nat} {M : jM} (h : jMM[y]? = some M) : y < 257 := by
  have h1 := (List.getElem?_eq_some_iff.mp h).1
  rw [jMM_len] at h1
  exact h1
theorem jm_code {y : Nat} {M : jM} (h : jMM[y]? = some M) : jwk M ∈ jws := List.mem_filter.mpr ⟨jMM_code M (List.mem_of_getElem? h), List.all_eq_true.mp jMM_good _ (List.mem_map.mpr ⟨M, List.mem_of_getElem? h, rfl⟩)⟩
theorem jm_init {y : Nat} {M : jM} (h : jMM[y]? = some M) : Cond.initialized M.1.cls ∈ jws := by
  have h1 := jmI_g (Cond.initialized (jmn y).cls) (List.mem_map.mpr ⟨y, jMM_all_in y (jm_lt h), rfl⟩)
  unfold jmn at h1
  rw [jmn_eq h] at h1
  exact h1
theorem jm_virt {y : Nat} {M : jM} (h : jMM[y]? = some M) (hs : M.2.2.2.2.2.2 = 0) : Cond.instanceMethod M.1 ∈ jws ∧ Cond.selects M.1.cls M.1 M.1 ∈ jws := by
  have h0 := (jMM_kind y (jm_lt h)).1
  rw [jmn_eq h] at h0
  have h1 := jmV_g (Cond.instanceMethod (jmn y)) (List.mem_map.mpr ⟨y, h0 hs, rfl⟩)
  have h2 := jmL_g (Cond.selects (jmn y).cls (jmn y) (jmn y)) (List.mem_map.mpr ⟨y, h0 hs, rfl⟩)
  unfold jmn at h1 h2
  rw [jmn_eq h] at h1 h2
  exact ⟨h1, h2⟩
theorem jm_stat {y : Nat} {M : jM} (h : jMM[y]? = some M) (hs : M.2.2.2.2.2.2 = 1) : Cond.static M.1 ∈ jws := by
  have h0 := (jMM_kind y (jm_lt h)).2
  rw [jmn_eq h] at h0
  have h1 := jmS_g (Cond.static (jmn y)) (List.mem_map.mpr ⟨y, h0 hs, rfl⟩)
  unfold jmn at h1
  rw [jmn_eq h] at h1
  exact h1
theorem jm_ok {y : Nat} {M : jM} (h : jMM[y]? = some M) : plainName M.1.cls = true ∧ M.1.cls ≠ "java/lang/invoke/MethodHandle" ∧ M.1.cls ≠ "java/lang/invoke/VarHandle" ∧ (parseMethodDescriptor M.1.desc).map (fun d => d.parameters.length) = some M.2.2.2.2.2.1 ∧ jon M.2.2.2.2.1 = M.1.cls ∧ M.2.2.1 ≤ 30 ∧ M.2.2.2.1 ≤ 3 := by
  have h1 := List.all_eq_true.mp jMM_all M (List.mem_of_getElem? h)
  simp only [Bool.and_eq_true, decide_eq_true_eq] at h1
  obtain ⟨⟨⟨⟨⟨⟨a, b⟩, c⟩, d⟩, e⟩, f⟩, g⟩ := h1
  exact ⟨a, b, c, d, e, f, g⟩
theorem jc_ok : ∀ ci, ci < 10 → jcl[ci]? = some (jrr ci, jtt ci, jnn ci) ∧ (∀ w ∈ u_ws (jrr ci) (jtt ci) (jnn ci), w ∈ jws) ∧ (∀ a, a < jnn ci → ∀ b, b < jnn ci → a ≠ b → (jtt ci a).2.1 ≠ (jtt ci b).2.1) ∧ (∀ k, k < jnn ci → parseFieldDescriptor (jtt ci k).2.2.1 = some (jyy ci k)) ∧ jon ci = jrr ci := by
  intro ci h
  match ci, h with
  | 0, _ => exact ⟨rfl, jlay_0, jnm_0, jty_0, rfl⟩
  | 1, _ => exact ⟨rfl, jlay_1, jnm_1, jty_1, rfl⟩
  | 2, _ => exact ⟨rfl, jlay_2, jnm_2, jty_2, rfl⟩
  | 3, _ => exact ⟨rfl, jlay_3, jnm_3, jty_3, rfl⟩
  | 4, _ => exact ⟨rfl, jlay_4, jnm_4, jty_4, rfl⟩
  | 5, _ => exact ⟨rfl, jlay_5, jnm_5, jty_5, rfl⟩
  | 6, _ => exact ⟨rfl, jlay_6, jnm_6, jty_6, rfl⟩
  | 7, _ => exact ⟨rfl, jlay_7, jnm_7, jty_7, rfl⟩
  | 8, _ => exact ⟨rfl, jlay_8, jnm_8, jty_8, rfl⟩
  | 9, _ => exact ⟨rfl, jlay_9, jnm_9, jty_9, rfl⟩
def jfk_b (ci f : Nat) : Bool := decide (f < jnn ci) && (match (j_fk ci).getD f 9 with
  | 0 => decide (jyy ci f = .int) && !(jtt ci f).2.2.2
  | 1 => decide (jyy ci f = .boolean) && !(jtt ci f).2.2.2
  | 2 => decide (jyy ci f = .long) && !(jtt ci f).2.2.2
  | 3 => decide (jyy ci f = .object (jrr 6)) && !(jtt ci f).2.2.2
  | _ => true)
theorem jfk_all : (List.range 10).all (fun ci => (List.range (j_fk ci).length).all (fun f => jfk_b ci f)) = true := by decide +kernel
theorem jfk_len : ∀ ci, (j_fk ci).length ≠ 0 → ci < 10 := by
  intro ci h
  rcases Nat.lt_or_ge ci 10 with q | q
  · exact q
  · exfalso
    apply h
    have : jFK[ci]? = none := List.getElem?_eq_none_iff.mpr q
    unfold j_fk
    rw [List.getD_eq_getElem?_getD, this]
    rfl

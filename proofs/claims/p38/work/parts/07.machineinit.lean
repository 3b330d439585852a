abbrev rm_Machine_init : Room := { frames := 5, cells := 7, slots := 8461, locals := 105 }
abbrev b_Machine_init : ByteArray := prog_6_method_1_code
def y_Machine_init : MethodName := ⟨"Leastcode$Machine", "<init>", "()V"⟩
def w_Machine_init : List Cond := [.code ⟨"Leastcode$Machine", "<init>", "()V"⟩ prog_6_method_1_code 8 none, .methodLink "Leastcode$Machine" 3 ⟨"java/lang/Object", "<init>", "()V"⟩, .instanceMethod ⟨"java/lang/Object", "<init>", "()V"⟩, .code ⟨"java/lang/Object", "<init>", "()V"⟩ object_method_1_code 1 none, .arrayClass .int, .laysFinal "Leastcode$Machine" "Leastcode$Machine" "next" "[I", .laysFinal "Leastcode$Machine" "Leastcode$Machine" "readParts" "[I", .laysFinal "Leastcode$Machine" "Leastcode$Machine" "writtenParts" "[I", .laysFinal "Leastcode$Machine" "Leastcode$Machine" "mirrors" "[I", .laysFinal "Leastcode$Machine" "Leastcode$Machine" "toRegister0" "[J", .laysFinal "Leastcode$Machine" "Leastcode$Machine" "toRegister1" "[J", .laysFinal "Leastcode$Machine" "Leastcode$Machine" "toFlag" "[J", .fieldLink "Leastcode$Machine" 9 "Leastcode$Machine" "next" "[I", .fieldLink "Leastcode$Machine" 15 "Leastcode$Machine" "readParts" "[I", .fieldLink "Leastcode$Machine" 18 "Leastcode$Machine" "writtenParts" "[I", .fieldLink "Leastcode$Machine" 21 "Leastcode$Machine" "mirrors" "[I", .arrayClass .long, .fieldLink "Leastcode$Machine" 24 "Leastcode$Machine" "toRegister0" "[J", .fieldLink "Leastcode$Machine" 28 "Leastcode$Machine" "toRegister1" "[J", .fieldLink "Leastcode$Machine" 31 "Leastcode$Machine" "toFlag" "[J", .methodLink "Leastcode$Machine" 34 ⟨"Leastcode$Machine", "kindOf", "(I)I"⟩, .static ⟨"Leastcode$Machine", "kindOf", "(I)I"⟩, .initialized "Leastcode$Machine", .code ⟨"Leastcode$Machine", "kindOf", "(I)I"⟩ prog_6_method_4_code 1 (some .int), .methodLink "Leastcode$Machine" 38 ⟨"Leastcode$Machine", "letterOf", "(I)C"⟩, .static ⟨"Leastcode$Machine", "letterOf", "(I)C"⟩, .code ⟨"Leastcode$Machine", "letterOf", "(I)C"⟩ prog_6_method_3_code 1 (some .char), .methodLink "Leastcode$Machine" 69 ⟨"java/lang/String", "length", "()I"⟩, .instanceMethod ⟨"java/lang/String", "length", "()I"⟩, .selects "java/lang/String" ⟨"java/lang/String", "length", "()I"⟩ ⟨"java/lang/String", "length", "()I"⟩, .initialized "java/lang/String", .code ⟨"java/lang/String", "length", "()I"⟩ prog_34_method_54_code 1 (some .int), .fieldLink "java/lang/String" 9 "java/lang/String" "value" "[B", .methodLink "java/lang/String" 335 ⟨"java/lang/String", "coder", "()B"⟩, .instanceMethod ⟨"java/lang/String", "coder", "()B"⟩, .selects "java/lang/String" ⟨"java/lang/String", "coder", "()B"⟩ ⟨"java/lang/String", "coder", "()B"⟩, .code ⟨"java/lang/String", "coder", "()B"⟩ prog_34_method_152_code 1 (some .byte), .fieldLink "java/lang/String" 38 "java/lang/String" "COMPACT_STRINGS" "Z", .fieldLink "java/lang/String" 15 "java/lang/String" "coder" "B", .methodLink "Leastcode$Machine" 75 ⟨"java/lang/String", "charAt", "(I)C"⟩, .instanceMethod ⟨"java/lang/String", "charAt", "(I)C"⟩, .selects "java/lang/String" ⟨"java/lang/String", "charAt", "(I)C"⟩ ⟨"java/lang/String", "charAt", "(I)C"⟩, .code ⟨"java/lang/String", "charAt", "(I)C"⟩ prog_34_method_56_code 2 (some .char), .methodLink "java/lang/String" 492 ⟨"java/lang/String", "isLatin1", "()Z"⟩, .instanceMethod ⟨"java/lang/String", "isLatin1", "()Z"⟩, .selects "java/lang/String" ⟨"java/lang/String", "isLatin1", "()Z"⟩ ⟨"java/lang/String", "isLatin1", "()Z"⟩, .code ⟨"java/lang/String", "isLatin1", "()Z"⟩ prog_34_method_154_code 1 (some .boolean), .methodLink "java/lang/String" 495 ⟨"java/lang/StringLatin1", "charAt", "([BI)C"⟩, .static ⟨"java/lang/StringLatin1", "charAt", "([BI)C"⟩, .initialized "java/lang/StringLatin1", .code ⟨"java/lang/StringLatin1", "charAt", "([BI)C"⟩ prog_36_method_2_code 2 (some .char), .methodLink "java/lang/StringLatin1" 9 ⟨"java/lang/String", "checkIndex", "(II)V"⟩, .static ⟨"java/lang/String", "checkIndex", "(II)V"⟩, .code ⟨"java/lang/String", "checkIndex", "(II)V"⟩ prog_34_method_155_code 2 none, .fieldLink "java/lang/String" 1053 "jdk/internal/util/Preconditions" "SIOOBE_FORMATTER" "Ljava/util/function/BiFunction;", .methodLink "java/lang/String" 1059 ⟨"jdk/internal/util/Preconditions", "checkIndex", "(IILjava/util/function/BiFunction;)I"⟩, .static ⟨"jdk/internal/util/Preconditions", "checkIndex", "(IILjava/util/function/BiFunction;)I"⟩, .initialized "jdk/internal/util/Preconditions", .code ⟨"jdk/internal/util/Preconditions", "checkIndex", "(IILjava/util/function/BiFunction;)I"⟩ prog_81_method_11_code 3 (some .int), .methodLink "Leastcode$Machine" 42 ⟨"Leastcode$Machine", "firstOf", "(I)I"⟩, .static ⟨"Leastcode$Machine", "firstOf", "(I)I"⟩, .code ⟨"Leastcode$Machine", "firstOf", "(I)I"⟩ prog_6_method_5_code 1 (some .int), .methodLink "Leastcode$Machine" 45 ⟨"Leastcode$Machine", "secondOf", "(I)I"⟩, .static ⟨"Leastcode$Machine", "secondOf", "(I)I"⟩, .code ⟨"Leastcode$Machine", "secondOf", "(I)I"⟩ prog_6_method_6_code 1 (some .int), .methodLink "Leastcode$Machine" 48 ⟨"Leastcode$Machine", "partsRead", "(CIII)I"⟩, .static ⟨"Leastcode$Machine", "partsRead", "(CIII)I"⟩, .code ⟨"Leastcode$Machine", "partsRead", "(CIII)I"⟩ prog_6_method_7_code 4 (some .int), .methodLink "Leastcode$Machine" 52 ⟨"Leastcode$Machine", "partsWritten", "(CI)I"⟩, .static ⟨"Leastcode$Machine", "partsWritten", "(CI)I"⟩, .code ⟨"Leastcode$Machine", "partsWritten", "(CI)I"⟩ prog_6_method_8_code 2 (some .int), .methodLink "Leastcode$Machine" 56 ⟨"Leastcode$Machine", "numberOf", "(III)I"⟩, .static ⟨"Leastcode$Machine", "numberOf", "(III)I"⟩, .code ⟨"Leastcode$Machine", "numberOf", "(III)I"⟩ prog_6_method_2_code 3 (some .int), .methodLink "Leastcode$Machine" 60 ⟨"Leastcode$Machine", "effect", "(CIII)I"⟩, .static ⟨"Leastcode$Machine", "effect", "(CIII)I"⟩, .code ⟨"Leastcode$Machine", "effect", "(CIII)I"⟩ prog_6_method_9_code 7 (some .int), .methodLink "Leastcode$Machine" 63 ⟨"Leastcode$Machine", "register", "(II)I"⟩, .static ⟨"Leastcode$Machine", "register", "(II)I"⟩, .code ⟨"Leastcode$Machine", "register", "(II)I"⟩ prog_6_method_10_code 2 (some .int), .methodLink "Leastcode$Machine" 78 ⟨"Leastcode$Machine", "withRegister", "(III)I"⟩, .static ⟨"Leastcode$Machine", "withRegister", "(III)I"⟩, .code ⟨"Leastcode$Machine", "withRegister", "(III)I"⟩ prog_6_method_11_code 3 (some .int), .methodLink "Leastcode$Machine" 81 ⟨"Leastcode$Machine", "withFlag", "(IZ)I"⟩, .static ⟨"Leastcode$Machine", "withFlag", "(IZ)I"⟩, .code ⟨"Leastcode$Machine", "withFlag", "(IZ)I"⟩ prog_6_method_12_code 2 (some .int)]
theorem d_Machine_init_0 : decode b_Machine_init 0 = .ok (.aload_n 0, 1) := by decide +kernel
theorem d_Machine_init_1 : decode b_Machine_init 1 = .ok (.invokespecial 3, 3) := by decide +kernel
theorem d_Machine_init_4 : decode b_Machine_init 4 = .ok (.aload_n 0, 1) := by decide +kernel
theorem d_Machine_init_5 : decode b_Machine_init 5 = .ok (.sipush 6016, 3) := by decide +kernel
theorem d_Machine_init_8 : decode b_Machine_init 8 = .ok (.newarray .int, 2) := by decide +kernel
theorem d_Machine_init_10 : decode b_Machine_init 10 = .ok (.putfield 9, 3) := by decide +kernel
theorem d_Machine_init_13 : decode b_Machine_init 13 = .ok (.aload_n 0, 1) := by decide +kernel
theorem d_Machine_init_14 : decode b_Machine_init 14 = .ok (.bipush 47, 2) := by decide +kernel
theorem d_Machine_init_16 : decode b_Machine_init 16 = .ok (.newarray .int, 2) := by decide +kernel
theorem d_Machine_init_18 : decode b_Machine_init 18 = .ok (.putfield 15, 3) := by decide +kernel
theorem d_Machine_init_21 : decode b_Machine_init 21 = .ok (.aload_n 0, 1) := by decide +kernel
theorem d_Machine_init_22 : decode b_Machine_init 22 = .ok (.bipush 47, 2) := by decide +kernel
theorem d_Machine_init_24 : decode b_Machine_init 24 = .ok (.newarray .int, 2) := by decide +kernel
theorem d_Machine_init_26 : decode b_Machine_init 26 = .ok (.putfield 18, 3) := by decide +kernel
theorem d_Machine_init_29 : decode b_Machine_init 29 = .ok (.aload_n 0, 1) := by decide +kernel
theorem d_Machine_init_30 : decode b_Machine_init 30 = .ok (.bipush 47, 2) := by decide +kernel
theorem d_Machine_init_32 : decode b_Machine_init 32 = .ok (.newarray .int, 2) := by decide +kernel
theorem d_Machine_init_34 : decode b_Machine_init 34 = .ok (.putfield 21, 3) := by decide +kernel
theorem d_Machine_init_37 : decode b_Machine_init 37 = .ok (.aload_n 0, 1) := by decide +kernel
theorem d_Machine_init_38 : decode b_Machine_init 38 = .ok (.sipush 1024, 3) := by decide +kernel
theorem d_Machine_init_41 : decode b_Machine_init 41 = .ok (.newarray .long, 2) := by decide +kernel
theorem d_Machine_init_43 : decode b_Machine_init 43 = .ok (.putfield 24, 3) := by decide +kernel
theorem d_Machine_init_46 : decode b_Machine_init 46 = .ok (.aload_n 0, 1) := by decide +kernel
theorem d_Machine_init_47 : decode b_Machine_init 47 = .ok (.sipush 1024, 3) := by decide +kernel
theorem d_Machine_init_50 : decode b_Machine_init 50 = .ok (.newarray .long, 2) := by decide +kernel
theorem d_Machine_init_52 : decode b_Machine_init 52 = .ok (.putfield 28, 3) := by decide +kernel
theorem d_Machine_init_55 : decode b_Machine_init 55 = .ok (.aload_n 0, 1) := by decide +kernel
theorem d_Machine_init_56 : decode b_Machine_init 56 = .ok (.sipush 256, 3) := by decide +kernel
theorem d_Machine_init_59 : decode b_Machine_init 59 = .ok (.newarray .long, 2) := by decide +kernel
theorem d_Machine_init_61 : decode b_Machine_init 61 = .ok (.putfield 31, 3) := by decide +kernel
theorem d_Machine_init_64 : decode b_Machine_init 64 = .ok (.iconst 0, 1) := by decide +kernel
theorem d_Machine_init_65 : decode b_Machine_init 65 = .ok (.istore_n 1, 1) := by decide +kernel
theorem d_Machine_init_66 : decode b_Machine_init 66 = .ok (.iload_n 1, 1) := by decide +kernel
theorem d_Machine_init_67 : decode b_Machine_init 67 = .ok (.bipush 47, 2) := by decide +kernel
theorem d_Machine_init_69 : decode b_Machine_init 69 = .ok (.if_icmp .ge 186, 3) := by decide +kernel
theorem d_Machine_init_72 : decode b_Machine_init 72 = .ok (.iload_n 1, 1) := by decide +kernel
theorem d_Machine_init_73 : decode b_Machine_init 73 = .ok (.invokestatic 34, 3) := by decide +kernel
theorem d_Machine_init_76 : decode b_Machine_init 76 = .ok (.istore_n 2, 1) := by decide +kernel
theorem d_Machine_init_77 : decode b_Machine_init 77 = .ok (.iload_n 2, 1) := by decide +kernel
theorem d_Machine_init_78 : decode b_Machine_init 78 = .ok (.invokestatic 38, 3) := by decide +kernel
theorem d_Machine_init_81 : decode b_Machine_init 81 = .ok (.istore_n 3, 1) := by decide +kernel
theorem d_Machine_init_82 : decode b_Machine_init 82 = .ok (.iload_n 1, 1) := by decide +kernel
theorem d_Machine_init_83 : decode b_Machine_init 83 = .ok (.invokestatic 42, 3) := by decide +kernel
theorem d_Machine_init_86 : decode b_Machine_init 86 = .ok (.istore 4, 2) := by decide +kernel
theorem d_Machine_init_88 : decode b_Machine_init 88 = .ok (.iload_n 1, 1) := by decide +kernel
theorem d_Machine_init_89 : decode b_Machine_init 89 = .ok (.invokestatic 45, 3) := by decide +kernel
theorem d_Machine_init_92 : decode b_Machine_init 92 = .ok (.istore 5, 2) := by decide +kernel
theorem d_Machine_init_94 : decode b_Machine_init 94 = .ok (.aload_n 0, 1) := by decide +kernel
theorem d_Machine_init_95 : decode b_Machine_init 95 = .ok (.getfield 15, 3) := by decide +kernel
theorem d_Machine_init_98 : decode b_Machine_init 98 = .ok (.iload_n 1, 1) := by decide +kernel
theorem d_Machine_init_99 : decode b_Machine_init 99 = .ok (.iload_n 3, 1) := by decide +kernel
theorem d_Machine_init_100 : decode b_Machine_init 100 = .ok (.iload_n 2, 1) := by decide +kernel
theorem d_Machine_init_101 : decode b_Machine_init 101 = .ok (.iload 4, 2) := by decide +kernel
theorem d_Machine_init_103 : decode b_Machine_init 103 = .ok (.iload 5, 2) := by decide +kernel
theorem d_Machine_init_105 : decode b_Machine_init 105 = .ok (.invokestatic 48, 3) := by decide +kernel
theorem d_Machine_init_108 : decode b_Machine_init 108 = .ok (.iastore, 1) := by decide +kernel
theorem d_Machine_init_109 : decode b_Machine_init 109 = .ok (.aload_n 0, 1) := by decide +kernel
theorem d_Machine_init_110 : decode b_Machine_init 110 = .ok (.getfield 18, 3) := by decide +kernel
theorem d_Machine_init_113 : decode b_Machine_init 113 = .ok (.iload_n 1, 1) := by decide +kernel
theorem d_Machine_init_114 : decode b_Machine_init 114 = .ok (.iload_n 3, 1) := by decide +kernel
theorem d_Machine_init_115 : decode b_Machine_init 115 = .ok (.iload 4, 2) := by decide +kernel
theorem d_Machine_init_117 : decode b_Machine_init 117 = .ok (.invokestatic 52, 3) := by decide +kernel
theorem d_Machine_init_120 : decode b_Machine_init 120 = .ok (.iastore, 1) := by decide +kernel
theorem d_Machine_init_121 : decode b_Machine_init 121 = .ok (.aload_n 0, 1) := by decide +kernel
theorem d_Machine_init_122 : decode b_Machine_init 122 = .ok (.getfield 21, 3) := by decide +kernel
theorem d_Machine_init_125 : decode b_Machine_init 125 = .ok (.iload_n 1, 1) := by decide +kernel
theorem d_Machine_init_126 : decode b_Machine_init 126 = .ok (.iload_n 2, 1) := by decide +kernel
theorem d_Machine_init_127 : decode b_Machine_init 127 = .ok (.iconst 1, 1) := by decide +kernel
theorem d_Machine_init_128 : decode b_Machine_init 128 = .ok (.iload 4, 2) := by decide +kernel
theorem d_Machine_init_130 : decode b_Machine_init 130 = .ok (.isub, 1) := by decide +kernel
theorem d_Machine_init_131 : decode b_Machine_init 131 = .ok (.iconst 1, 1) := by decide +kernel
theorem d_Machine_init_132 : decode b_Machine_init 132 = .ok (.iload 5, 2) := by decide +kernel
theorem d_Machine_init_134 : decode b_Machine_init 134 = .ok (.isub, 1) := by decide +kernel
theorem d_Machine_init_135 : decode b_Machine_init 135 = .ok (.invokestatic 56, 3) := by decide +kernel
theorem d_Machine_init_138 : decode b_Machine_init 138 = .ok (.iastore, 1) := by decide +kernel
theorem d_Machine_init_139 : decode b_Machine_init 139 = .ok (.iconst 0, 1) := by decide +kernel
theorem d_Machine_init_140 : decode b_Machine_init 140 = .ok (.istore 6, 2) := by decide +kernel
theorem d_Machine_init_142 : decode b_Machine_init 142 = .ok (.iload 6, 2) := by decide +kernel
theorem d_Machine_init_144 : decode b_Machine_init 144 = .ok (.sipush 128, 3) := by decide +kernel
theorem d_Machine_init_147 : decode b_Machine_init 147 = .ok (.if_icmp .ge 102, 3) := by decide +kernel
theorem d_Machine_init_150 : decode b_Machine_init 150 = .ok (.iload_n 3, 1) := by decide +kernel
theorem d_Machine_init_151 : decode b_Machine_init 151 = .ok (.iload 4, 2) := by decide +kernel
theorem d_Machine_init_153 : decode b_Machine_init 153 = .ok (.iload 5, 2) := by decide +kernel
theorem d_Machine_init_155 : decode b_Machine_init 155 = .ok (.iload 6, 2) := by decide +kernel
theorem d_Machine_init_157 : decode b_Machine_init 157 = .ok (.invokestatic 60, 3) := by decide +kernel
theorem d_Machine_init_160 : decode b_Machine_init 160 = .ok (.istore 7, 2) := by decide +kernel
theorem d_Machine_init_162 : decode b_Machine_init 162 = .ok (.aload_n 0, 1) := by decide +kernel
theorem d_Machine_init_163 : decode b_Machine_init 163 = .ok (.getfield 9, 3) := by decide +kernel
theorem d_Machine_init_166 : decode b_Machine_init 166 = .ok (.iload_n 1, 1) := by decide +kernel
theorem d_Machine_init_167 : decode b_Machine_init 167 = .ok (.sipush 128, 3) := by decide +kernel
theorem d_Machine_init_170 : decode b_Machine_init 170 = .ok (.imul, 1) := by decide +kernel
theorem d_Machine_init_171 : decode b_Machine_init 171 = .ok (.iload 6, 2) := by decide +kernel
theorem d_Machine_init_173 : decode b_Machine_init 173 = .ok (.iadd, 1) := by decide +kernel
theorem d_Machine_init_174 : decode b_Machine_init 174 = .ok (.iload 7, 2) := by decide +kernel
theorem d_Machine_init_176 : decode b_Machine_init 176 = .ok (.iastore, 1) := by decide +kernel
theorem d_Machine_init_177 : decode b_Machine_init 177 = .ok (.aload_n 0, 1) := by decide +kernel
theorem d_Machine_init_178 : decode b_Machine_init 178 = .ok (.getfield 24, 3) := by decide +kernel
theorem d_Machine_init_181 : decode b_Machine_init 181 = .ok (.iload 6, 2) := by decide +kernel
theorem d_Machine_init_183 : decode b_Machine_init 183 = .ok (.bipush 8, 2) := by decide +kernel
theorem d_Machine_init_185 : decode b_Machine_init 185 = .ok (.imul, 1) := by decide +kernel
theorem d_Machine_init_186 : decode b_Machine_init 186 = .ok (.iload 7, 2) := by decide +kernel
theorem d_Machine_init_188 : decode b_Machine_init 188 = .ok (.iconst 0, 1) := by decide +kernel
theorem d_Machine_init_189 : decode b_Machine_init 189 = .ok (.invokestatic 63, 3) := by decide +kernel
theorem d_Machine_init_192 : decode b_Machine_init 192 = .ok (.iadd, 1) := by decide +kernel
theorem d_Machine_init_193 : decode b_Machine_init 193 = .ok (.dup2, 1) := by decide +kernel
theorem d_Machine_init_194 : decode b_Machine_init 194 = .ok (.laload, 1) := by decide +kernel
theorem d_Machine_init_195 : decode b_Machine_init 195 = .ok (.lconst 1, 1) := by decide +kernel
theorem d_Machine_init_196 : decode b_Machine_init 196 = .ok (.iload_n 1, 1) := by decide +kernel
theorem d_Machine_init_197 : decode b_Machine_init 197 = .ok (.lshl, 1) := by decide +kernel
theorem d_Machine_init_198 : decode b_Machine_init 198 = .ok (.lor, 1) := by decide +kernel
theorem d_Machine_init_199 : decode b_Machine_init 199 = .ok (.lastore, 1) := by decide +kernel
theorem d_Machine_init_200 : decode b_Machine_init 200 = .ok (.aload_n 0, 1) := by decide +kernel
theorem d_Machine_init_201 : decode b_Machine_init 201 = .ok (.getfield 28, 3) := by decide +kernel
theorem d_Machine_init_204 : decode b_Machine_init 204 = .ok (.iload 6, 2) := by decide +kernel
theorem d_Machine_init_206 : decode b_Machine_init 206 = .ok (.bipush 8, 2) := by decide +kernel
theorem d_Machine_init_208 : decode b_Machine_init 208 = .ok (.imul, 1) := by decide +kernel
theorem d_Machine_init_209 : decode b_Machine_init 209 = .ok (.iload 7, 2) := by decide +kernel
theorem d_Machine_init_211 : decode b_Machine_init 211 = .ok (.iconst 1, 1) := by decide +kernel
theorem d_Machine_init_212 : decode b_Machine_init 212 = .ok (.invokestatic 63, 3) := by decide +kernel
theorem d_Machine_init_215 : decode b_Machine_init 215 = .ok (.iadd, 1) := by decide +kernel
theorem d_Machine_init_216 : decode b_Machine_init 216 = .ok (.dup2, 1) := by decide +kernel
theorem d_Machine_init_217 : decode b_Machine_init 217 = .ok (.laload, 1) := by decide +kernel
theorem d_Machine_init_218 : decode b_Machine_init 218 = .ok (.lconst 1, 1) := by decide +kernel
theorem d_Machine_init_219 : decode b_Machine_init 219 = .ok (.iload_n 1, 1) := by decide +kernel
theorem d_Machine_init_220 : decode b_Machine_init 220 = .ok (.lshl, 1) := by decide +kernel
theorem d_Machine_init_221 : decode b_Machine_init 221 = .ok (.lor, 1) := by decide +kernel
theorem d_Machine_init_222 : decode b_Machine_init 222 = .ok (.lastore, 1) := by decide +kernel
theorem d_Machine_init_223 : decode b_Machine_init 223 = .ok (.aload_n 0, 1) := by decide +kernel
theorem d_Machine_init_224 : decode b_Machine_init 224 = .ok (.getfield 31, 3) := by decide +kernel
theorem d_Machine_init_227 : decode b_Machine_init 227 = .ok (.iload 6, 2) := by decide +kernel
theorem d_Machine_init_229 : decode b_Machine_init 229 = .ok (.iconst 2, 1) := by decide +kernel
theorem d_Machine_init_230 : decode b_Machine_init 230 = .ok (.imul, 1) := by decide +kernel
theorem d_Machine_init_231 : decode b_Machine_init 231 = .ok (.iload 7, 2) := by decide +kernel
theorem d_Machine_init_233 : decode b_Machine_init 233 = .ok (.iconst 1, 1) := by decide +kernel
theorem d_Machine_init_234 : decode b_Machine_init 234 = .ok (.iand, 1) := by decide +kernel
theorem d_Machine_init_235 : decode b_Machine_init 235 = .ok (.iadd, 1) := by decide +kernel
theorem d_Machine_init_236 : decode b_Machine_init 236 = .ok (.dup2, 1) := by decide +kernel
theorem d_Machine_init_237 : decode b_Machine_init 237 = .ok (.laload, 1) := by decide +kernel
theorem d_Machine_init_238 : decode b_Machine_init 238 = .ok (.lconst 1, 1) := by decide +kernel
theorem d_Machine_init_239 : decode b_Machine_init 239 = .ok (.iload_n 1, 1) := by decide +kernel
theorem d_Machine_init_240 : decode b_Machine_init 240 = .ok (.lshl, 1) := by decide +kernel
theorem d_Machine_init_241 : decode b_Machine_init 241 = .ok (.lor, 1) := by decide +kernel
theorem d_Machine_init_242 : decode b_Machine_init 242 = .ok (.lastore, 1) := by decide +kernel
theorem d_Machine_init_243 : decode b_Machine_init 243 = .ok (.iinc 6 1, 3) := by decide +kernel
theorem d_Machine_init_246 : decode b_Machine_init 246 = .ok (.goto (-104), 3) := by decide +kernel
theorem d_Machine_init_249 : decode b_Machine_init 249 = .ok (.iinc 1 1, 3) := by decide +kernel
theorem d_Machine_init_252 : decode b_Machine_init 252 = .ok (.goto (-186), 3) := by decide +kernel
theorem d_Machine_init_255 : decode b_Machine_init 255 = .ok (.return_, 1) := by decide +kernel
theorem in_Machine_init_MA : ∀ v ∈ u_ws R_MA T_MA 7, v ∈ w_Machine_init := by decide +kernel
set_option maxRecDepth 20000 in
theorem g_Machine_init_73 : GoodIn w_Machine_init (wsS "Leastcode$Machine" 34 ⟨"Leastcode$Machine", "kindOf", "(I)I"⟩ w_kindOf) := goodIn_r _ [20, 21, 22, 23] rfl (by decide +kernel)
set_option maxRecDepth 20000 in
theorem g_Machine_init_78 : GoodIn w_Machine_init (wsS "Leastcode$Machine" 38 ⟨"Leastcode$Machine", "letterOf", "(I)C"⟩ w_letterOf) := goodIn_r _ [24, 25, 22, 26, 27, 28, 29, 30, 31, 32, 33, 34, 35, 36, 37, 38, 39, 40, 41, 42, 43, 44, 45, 46, 47, 48, 49, 50, 51, 52, 53, 54, 55, 56, 57, 58] rfl (by decide +kernel)
set_option maxRecDepth 20000 in
theorem g_Machine_init_83 : GoodIn w_Machine_init (wsS "Leastcode$Machine" 42 ⟨"Leastcode$Machine", "firstOf", "(I)I"⟩ w_firstOf) := goodIn_r _ [59, 60, 22, 61] rfl (by decide +kernel)
set_option maxRecDepth 20000 in
theorem g_Machine_init_89 : GoodIn w_Machine_init (wsS "Leastcode$Machine" 45 ⟨"Leastcode$Machine", "secondOf", "(I)I"⟩ w_secondOf) := goodIn_r _ [62, 63, 22, 64] rfl (by decide +kernel)
set_option maxRecDepth 20000 in
theorem g_Machine_init_105 : GoodIn w_Machine_init (wsS "Leastcode$Machine" 48 ⟨"Leastcode$Machine", "partsRead", "(CIII)I"⟩ w_partsRead) := goodIn_r _ [65, 66, 22, 67] rfl (by decide +kernel)
set_option maxRecDepth 20000 in
theorem g_Machine_init_117 : GoodIn w_Machine_init (wsS "Leastcode$Machine" 52 ⟨"Leastcode$Machine", "partsWritten", "(CI)I"⟩ w_partsWritten) := goodIn_r _ [68, 69, 22, 70] rfl (by decide +kernel)
set_option maxRecDepth 20000 in
theorem g_Machine_init_135 : GoodIn w_Machine_init (wsS "Leastcode$Machine" 56 ⟨"Leastcode$Machine", "numberOf", "(III)I"⟩ w_numberOf) := goodIn_r _ [71, 72, 22, 73] rfl (by decide +kernel)
set_option maxRecDepth 20000 in
theorem g_Machine_init_157 : GoodIn w_Machine_init (wsS "Leastcode$Machine" 60 ⟨"Leastcode$Machine", "effect", "(CIII)I"⟩ w_effect) := goodIn_r _ [74, 75, 22, 76, 77, 78, 22, 79, 80, 81, 82, 83, 84, 85] rfl (by decide +kernel)
set_option maxRecDepth 20000 in
theorem g_Machine_init_189 : GoodIn w_Machine_init (wsS "Leastcode$Machine" 63 ⟨"Leastcode$Machine", "register", "(II)I"⟩ w_register) := goodIn_r _ [77, 78, 22, 79] rfl (by decide +kernel)
set_option maxRecDepth 20000 in
theorem g_Machine_init_212 : GoodIn w_Machine_init (wsS "Leastcode$Machine" 63 ⟨"Leastcode$Machine", "register", "(II)I"⟩ w_register) := goodIn_r _ [77, 78, 22, 79] rfl (by decide +kernel)
set_option maxHeartbeats 4000000 in
set_option maxRecDepth 100000 in
theorem c_Machine_init (l : Launch) (dC : Nat → ClassId) (dI : Nat → Nat → Nat) (sa : Nat) (va : Nat) (h0 : Nat) (sz : Nat) : Met l y_Machine_init w_Machine_init rm_Machine_init (va_Pc [.ref h0] (fun U => U.heap.size = sz ∧ va_P (dC, dI) classes [(h0, .inr (1, [.null, .null, .null, .null, .null, .null, .null]))] U.heap ∧ va_K (dC, dI) classes [] U ∧ va_D (fun _ => True) [(h0, .inr (1, [.null, .null, .null, .null, .null, .null, .null]))] ∧ va_O "java/lang/String" sa (va_A [(h0, .inr (1, [.null, .null, .null, .null, .null, .null, .null]))] sz) U U.heap ∧ va_OF "java/lang/String" "value" "[B" (.ref va) sa (va_A [(h0, .inr (1, [.null, .null, .null, .null, .null, .null, .null]))] sz) U U.heap ∧ va_OF "java/lang/String" "coder" "B" (.int 0) sa (va_A [(h0, .inr (1, [.null, .null, .null, .null, .null, .null, .null]))] sz) U U.heap ∧ va_T .byte va 16 kb (va_A [(h0, .inr (1, [.null, .null, .null, .null, .null, .null, .null]))] sz) U U.heap ∧ va_Z "java/lang/String" "COMPACT_STRINGS" "Z" (.int 1) (va_A [(h0, .inr (1, [.null, .null, .null, .null, .null, .null, .null]))] sz) U U.heap ∧ va_Zq "jdk/internal/util/Preconditions" "SIOOBE_FORMATTER" "Ljava/util/function/BiFunction;" (va_A [(h0, .inr (1, [.null, .null, .null, .null, .null, .null, .null]))] sz) U U.heap ∧ vk_R "Leastcode$Machine" 67 "masnoxkcidlrtzbf" sa U)) (va_Qv (fun (_ : Unit) => True) (fun _ t => ∃ qn : Nat, ∃ qa : Nat, ∃ qb : Nat, ∃ qc : Nat, ∃ qd : Nat, ∃ qe : Nat, ∃ qf : Nat, ∃ cA : ClassId, ∃ f : Nat → Int32, va_P (dC, dI) classes [(h0, .inr (1, [.ref qn, .ref qa, .ref qb, .ref qc, .ref qd, .ref qe, .ref qf])), (qn, .inl (cA, 6016, .inl (f)))] t.heap ∧ va_K (dC, dI) classes [(cA, .int)] t ∧ va_D (va_A [(h0, .inr (1, [.null, .null, .null, .null, .null, .null, .null]))] sz) [(h0, .inr (1, [.ref qn, .ref qa, .ref qb, .ref qc, .ref qd, .ref qe, .ref qf])), (qn, .inl (cA, 6016, .inl (f)))]) (va_A [(h0, .inr (1, [.null, .null, .null, .null, .null, .null, .null]))] sz)) 7 8461 (va_A [(h0, .inr (1, [.null, .null, .null, .null, .null, .null, .null]))] sz) := by
  refine Met.ofW (cc := b_Machine_init) (maxL := 8) (ret := none) (by decide) rfl ?_
  intro p e s m args below meth c s₁ B hml hv
  obtain ⟨rfl, hsz, hP, hK, hD0, hE0, hE1, hE2, hE3, hE4, hE5, hE6⟩ := hv
  have hx := B.exec
  have hb := B.bytes
  have hr := B.returns
  have hts := atoms_spec (ws := w_Machine_init) B.pre
  have hown : s.vm.findClass "Leastcode$Machine" = some m.cls := findClass_of_methodNamed B.named
  have hlocks := B.notSynchronized
  have hin : meth.name = "<init>" := (name_of_methodNamed B.named B.method).1
  subst hsz
  have hD := hD0.self (sz := s.heap.size)
  generalize hAe : va_A [(h0, .inr (1, [.null, .null, .null, .null, .null, .null, .null]))] s.heap.size = A at hD hE0 hE1 hE2 hE3 hE4 hE5 hE6 ⊢
  have hA : ∀ q : Nat, s.heap.size ≤ q → A q := fun q h => by rw [← hAe]; exact Or.inr h
  have hS : va_S A s.heap s.heap [] := va_S.rf
  have hP : va_P (dC, dI) classes [(h0, .inr (1, [.null, .null, .null, .null, .null, .null, .null]))] s.heap := hP
  have hl := lv_entry ([.ref h0]) (n := 8) (Nat.le_of_ble_eq_true rfl)
  rw [lg_entry_eq]
  generalize (lg_sl ([.ref h0]) ++ List.replicate (8 - (lg_sl ([.ref h0])).length) Slot.unset).toArray = ls at hl ⊢
  have hl : lv_has ls 8 [(0, .ref h0)] := hl
  refine lv_aload_n hx hb d_Machine_init_0 rfl (lv_at hl 0 rfl) ?_
  refine W.objInit hx hb hown (hts (.methodLink "Leastcode$Machine" 3 ⟨"java/lang/Object", "<init>", "()V"⟩) (List.mem_of_getElem? (i := 1) rfl)) (hts (.instanceMethod ⟨"java/lang/Object", "<init>", "()V"⟩) (List.mem_of_getElem? (i := 2) rfl)) (hts (.code ⟨"java/lang/Object", "<init>", "()V"⟩ object_method_1_code 1 none) (List.mem_of_getElem? (i := 3) rfl)) rfl (by rw [hml]; exact hl.1) rfl d_Machine_init_1 (Nat.le_of_ble_eq_true rfl) (Nat.le_of_ble_eq_true rfl) ?_
  refine W.eq (g2 := F0 m 4 ls []) rfl ?_
  refine lv_aload_n hx hb d_Machine_init_4 rfl (lv_at hl 0 rfl) ?_
  refine lv_sipush (v := 6016) hx hb d_Machine_init_5 (by decide) ?_
  refine va_newa (D := (dC, dI)) (atype := .int) (a0 := (6016, .inl (fun _ => 0))) (ty := .int) (N' := 6016) hx hb (hts (.arrayClass .int) (List.mem_of_getElem? (i := 4) rfl)) rfl hK hP hD hS hA (fun cA => rfl) (by decide) (by decide) (Nat.le_of_ble_eq_true rfl) (Nat.le_of_ble_eq_true rfl) (Nat.le_of_ble_eq_true rfl) d_Machine_init_8 (fun q1 cA2 H hK hP hD hS => ?_)
  have hP : va_P (dC, dI) classes [(h0, .inr (1, [.null, .null, .null, .null, .null, .null, .null])), (q1, .inl (cA2, 6016, .inl (fun _ => 0)))] H := hP
  have hK : va_K (dC, dI) classes [(cA2, .int)] s := hK
  have hD : va_D A [(h0, .inr (1, [.null, .null, .null, .null, .null, .null, .null])), (q1, .inl (cA2, 6016, .inl (fun _ => 0)))] := hD
  refine W.widen (k := 1) (n := 6016) (by omega) (by omega) ?_
  refine va_putF (D := (dC, dI)) (ci := 1) (v := .ref q1) (ty := .array .int) (C := R_MA) (T := T_MA) (N := 7) hx hb hts in_Machine_init_MA t_MA t_MA_ok n_MA hown hK hP hD hS 0 rfl rfl 0 (by decide) (hts (.fieldLink "Leastcode$Machine" 9 "Leastcode$Machine" "next" "[I") (List.mem_of_getElem? (i := 12) rfl)) (fun _ h9 => h9) rfl hin rfl (by decide +kernel) rfl rfl (Nat.le_of_ble_eq_true rfl) d_Machine_init_10 (fun H locs hP hD hS => ?_)
  have hP : va_P (dC, dI) classes [(h0, .inr (1, [.ref q1, .null, .null, .null, .null, .null, .null])), (q1, .inl (cA2, 6016, .inl (fun _ => 0)))] H := hP
  have hD : va_D A [(h0, .inr (1, [.ref q1, .null, .null, .null, .null, .null, .null])), (q1, .inl (cA2, 6016, .inl (fun _ => 0)))] := hD
  refine lv_aload_n hx hb d_Machine_init_13 rfl (lv_at hl 0 rfl) ?_
  refine lv_bipush (v := 47) hx hb d_Machine_init_14 (by decide) ?_
  refine va_newa (D := (dC, dI)) (atype := .int) (a0 := (47, .inl (fun _ => 0))) (ty := .int) (N' := 47) hx hb (hts (.arrayClass .int) (List.mem_of_getElem? (i := 4) rfl)) rfl hK hP hD hS hA (fun cA => rfl) (by decide) (by decide) (Nat.le_of_ble_eq_true rfl) (Nat.le_of_ble_eq_true rfl) (Nat.le_of_ble_eq_true rfl) d_Machine_init_16 (fun q3 cA4 H hK hP hD hS => ?_)
  have hP : va_P (dC, dI) classes [(h0, .inr (1, [.ref q1, .null, .null, .null, .null, .null, .null])), (q1, .inl (cA2, 6016, .inl (fun _ => 0))), (q3, .inl (cA4, 47, .inl (fun _ => 0)))] H := hP
  have hK : va_K (dC, dI) classes [(cA2, .int), (cA4, .int)] s := hK
  have hD : va_D A [(h0, .inr (1, [.ref q1, .null, .null, .null, .null, .null, .null])), (q1, .inl (cA2, 6016, .inl (fun _ => 0))), (q3, .inl (cA4, 47, .inl (fun _ => 0)))] := hD
  refine W.widen (k := 2) (n := 6063) (by omega) (by omega) ?_
  refine va_putF (D := (dC, dI)) (ci := 1) (v := .ref q3) (ty := .array .int) (C := R_MA) (T := T_MA) (N := 7) hx hb hts in_Machine_init_MA t_MA t_MA_ok n_MA hown hK hP hD hS 0 rfl rfl 1 (by decide) (hts (.fieldLink "Leastcode$Machine" 15 "Leastcode$Machine" "readParts" "[I") (List.mem_of_getElem? (i := 13) rfl)) (fun _ h9 => h9) rfl hin rfl (by decide +kernel) rfl rfl (Nat.le_of_ble_eq_true rfl) d_Machine_init_18 (fun H locs hP hD hS => ?_)
  have hP : va_P (dC, dI) classes [(h0, .inr (1, [.ref q1, .ref q3, .null, .null, .null, .null, .null])), (q1, .inl (cA2, 6016, .inl (fun _ => 0))), (q3, .inl (cA4, 47, .inl (fun _ => 0)))] H := hP
  have hD : va_D A [(h0, .inr (1, [.ref q1, .ref q3, .null, .null, .null, .null, .null])), (q1, .inl (cA2, 6016, .inl (fun _ => 0))), (q3, .inl (cA4, 47, .inl (fun _ => 0)))] := hD
  refine lv_aload_n hx hb d_Machine_init_21 rfl (lv_at hl 0 rfl) ?_
  refine lv_bipush (v := 47) hx hb d_Machine_init_22 (by decide) ?_
  refine va_newa (D := (dC, dI)) (atype := .int) (a0 := (47, .inl (fun _ => 0))) (ty := .int) (N' := 47) hx hb (hts (.arrayClass .int) (List.mem_of_getElem? (i := 4) rfl)) rfl hK hP hD hS hA (fun cA => rfl) (by decide) (by decide) (Nat.le_of_ble_eq_true rfl) (Nat.le_of_ble_eq_true rfl) (Nat.le_of_ble_eq_true rfl) d_Machine_init_24 (fun q5 cA6 H hK hP hD hS => ?_)
  have hP : va_P (dC, dI) classes [(h0, .inr (1, [.ref q1, .ref q3, .null, .null, .null, .null, .null])), (q1, .inl (cA2, 6016, .inl (fun _ => 0))), (q3, .inl (cA4, 47, .inl (fun _ => 0))), (q5, .inl (cA6, 47, .inl (fun _ => 0)))] H := hP
  have hK : va_K (dC, dI) classes [(cA2, .int), (cA4, .int), (cA6, .int)] s := hK
  have hD : va_D A [(h0, .inr (1, [.ref q1, .ref q3, .null, .null, .null, .null, .null])), (q1, .inl (cA2, 6016, .inl (fun _ => 0))), (q3, .inl (cA4, 47, .inl (fun _ => 0))), (q5, .inl (cA6, 47, .inl (fun _ => 0)))] := hD
  refine W.widen (k := 3) (n := 6110) (by omega) (by omega) ?_
  refine va_putF (D := (dC, dI)) (ci := 1) (v := .ref q5) (ty := .array .int) (C := R_MA) (T := T_MA) (N := 7) hx hb hts in_Machine_init_MA t_MA t_MA_ok n_MA hown hK hP hD hS 0 rfl rfl 2 (by decide) (hts (.fieldLink "Leastcode$Machine" 18 "Leastcode$Machine" "writtenParts" "[I") (List.mem_of_getElem? (i := 14) rfl)) (fun _ h9 => h9) rfl hin rfl (by decide +kernel) rfl rfl (Nat.le_of_ble_eq_true rfl) d_Machine_init_26 (fun H locs hP hD hS => ?_)
  have hP : va_P (dC, dI) classes [(h0, .inr (1, [.ref q1, .ref q3, .ref q5, .null, .null, .null, .null])), (q1, .inl (cA2, 6016, .inl (fun _ => 0))), (q3, .inl (cA4, 47, .inl (fun _ => 0))), (q5, .inl (cA6, 47, .inl (fun _ => 0)))] H := hP
  have hD : va_D A [(h0, .inr (1, [.ref q1, .ref q3, .ref q5, .null, .null, .null, .null])), (q1, .inl (cA2, 6016, .inl (fun _ => 0))), (q3, .inl (cA4, 47, .inl (fun _ => 0))), (q5, .inl (cA6, 47, .inl (fun _ => 0)))] := hD
  refine lv_aload_n hx hb d_Machine_init_29 rfl (lv_at hl 0 rfl) ?_
  refine lv_bipush (v := 47) hx hb d_Machine_init_30 (by decide) ?_
  refine va_newa (D := (dC, dI)) (atype := .int) (a0 := (47, .inl (fun _ => 0))) (ty := .int) (N' := 47) hx hb (hts (.arrayClass .int) (List.mem_of_getElem? (i := 4) rfl)) rfl hK hP hD hS hA (fun cA => rfl) (by decide) (by decide) (Nat.le_of_ble_eq_true rfl) (Nat.le_of_ble_eq_true rfl) (Nat.le_of_ble_eq_true rfl) d_Machine_init_32 (fun q7 cA8 H hK hP hD hS => ?_)
  have hP : va_P (dC, dI) classes [(h0, .inr (1, [.ref q1, .ref q3, .ref q5, .null, .null, .null, .null])), (q1, .inl (cA2, 6016, .inl (fun _ => 0))), (q3, .inl (cA4, 47, .inl (fun _ => 0))), (q5, .inl (cA6, 47, .inl (fun _ => 0))), (q7, .inl (cA8, 47, .inl (fun _ => 0)))] H := hP
  have hK : va_K (dC, dI) classes [(cA2, .int), (cA4, .int), (cA6, .int), (cA8, .int)] s := hK
  have hD : va_D A [(h0, .inr (1, [.ref q1, .ref q3, .ref q5, .null, .null, .null, .null])), (q1, .inl (cA2, 6016, .inl (fun _ => 0))), (q3, .inl (cA4, 47, .inl (fun _ => 0))), (q5, .inl (cA6, 47, .inl (fun _ => 0))), (q7, .inl (cA8, 47, .inl (fun _ => 0)))] := hD
  refine W.widen (k := 4) (n := 6157) (by omega) (by omega) ?_
  refine va_putF (D := (dC, dI)) (ci := 1) (v := .ref q7) (ty := .array .int) (C := R_MA) (T := T_MA) (N := 7) hx hb hts in_Machine_init_MA t_MA t_MA_ok n_MA hown hK hP hD hS 0 rfl rfl 3 (by decide) (hts (.fieldLink "Leastcode$Machine" 21 "Leastcode$Machine" "mirrors" "[I") (List.mem_of_getElem? (i := 15) rfl)) (fun _ h9 => h9) rfl hin rfl (by decide +kernel) rfl rfl (Nat.le_of_ble_eq_true rfl) d_Machine_init_34 (fun H locs hP hD hS => ?_)
  have hP : va_P (dC, dI) classes [(h0, .inr (1, [.ref q1, .ref q3, .ref q5, .ref q7, .null, .null, .null])), (q1, .inl (cA2, 6016, .inl (fun _ => 0))), (q3, .inl (cA4, 47, .inl (fun _ => 0))), (q5, .inl (cA6, 47, .inl (fun _ => 0))), (q7, .inl (cA8, 47, .inl (fun _ => 0)))] H := hP
  have hD : va_D A [(h0, .inr (1, [.ref q1, .ref q3, .ref q5, .ref q7, .null, .null, .null])), (q1, .inl (cA2, 6016, .inl (fun _ => 0))), (q3, .inl (cA4, 47, .inl (fun _ => 0))), (q5, .inl (cA6, 47, .inl (fun _ => 0))), (q7, .inl (cA8, 47, .inl (fun _ => 0)))] := hD
  refine lv_aload_n hx hb d_Machine_init_37 rfl (lv_at hl 0 rfl) ?_
  refine lv_sipush (v := 1024) hx hb d_Machine_init_38 (by decide) ?_
  refine va_newa (D := (dC, dI)) (atype := .long) (a0 := (1024, .inr (.inl (fun _ => 0)))) (ty := .long) (N' := 1024) hx hb (hts (.arrayClass .long) (List.mem_of_getElem? (i := 16) rfl)) rfl hK hP hD hS hA (fun cA => rfl) (by decide) (by decide) (Nat.le_of_ble_eq_true rfl) (Nat.le_of_ble_eq_true rfl) (Nat.le_of_ble_eq_true rfl) d_Machine_init_41 (fun q9 cA10 H hK hP hD hS => ?_)
  have hP : va_P (dC, dI) classes [(h0, .inr (1, [.ref q1, .ref q3, .ref q5, .ref q7, .null, .null, .null])), (q1, .inl (cA2, 6016, .inl (fun _ => 0))), (q3, .inl (cA4, 47, .inl (fun _ => 0))), (q5, .inl (cA6, 47, .inl (fun _ => 0))), (q7, .inl (cA8, 47, .inl (fun _ => 0))), (q9, .inl (cA10, 1024, .inr (.inl (fun _ => 0))))] H := hP
  have hK : va_K (dC, dI) classes [(cA2, .int), (cA4, .int), (cA6, .int), (cA8, .int), (cA10, .long)] s := hK
  have hD : va_D A [(h0, .inr (1, [.ref q1, .ref q3, .ref q5, .ref q7, .null, .null, .null])), (q1, .inl (cA2, 6016, .inl (fun _ => 0))), (q3, .inl (cA4, 47, .inl (fun _ => 0))), (q5, .inl (cA6, 47, .inl (fun _ => 0))), (q7, .inl (cA8, 47, .inl (fun _ => 0))), (q9, .inl (cA10, 1024, .inr (.inl (fun _ => 0))))] := hD
  refine W.widen (k := 5) (n := 7181) (by omega) (by omega) ?_
  refine va_putF (D := (dC, dI)) (ci := 1) (v := .ref q9) (ty := .array .long) (C := R_MA) (T := T_MA) (N := 7) hx hb hts in_Machine_init_MA t_MA t_MA_ok n_MA hown hK hP hD hS 0 rfl rfl 4 (by decide) (hts (.fieldLink "Leastcode$Machine" 24 "Leastcode$Machine" "toRegister0" "[J") (List.mem_of_getElem? (i := 17) rfl)) (fun _ h9 => h9) rfl hin rfl (by decide +kernel) rfl rfl (Nat.le_of_ble_eq_true rfl) d_Machine_init_43 (fun H locs hP hD hS => ?_)
  have hP : va_P (dC, dI) classes [(h0, .inr (1, [.ref q1, .ref q3, .ref q5, .ref q7, .ref q9, .null, .null])), (q1, .inl (cA2, 6016, .inl (fun _ => 0))), (q3, .inl (cA4, 47, .inl (fun _ => 0))), (q5, .inl (cA6, 47, .inl (fun _ => 0))), (q7, .inl (cA8, 47, .inl (fun _ => 0))), (q9, .inl (cA10, 1024, .inr (.inl (fun _ => 0))))] H := hP
  have hD : va_D A [(h0, .inr (1, [.ref q1, .ref q3, .ref q5, .ref q7, .ref q9, .null, .null])), (q1, .inl (cA2, 6016, .inl (fun _ => 0))), (q3, .inl (cA4, 47, .inl (fun _ => 0))), (q5, .inl (cA6, 47, .inl (fun _ => 0))), (q7, .inl (cA8, 47, .inl (fun _ => 0))), (q9, .inl (cA10, 1024, .inr (.inl (fun _ => 0))))] := hD
  refine lv_aload_n hx hb d_Machine_init_46 rfl (lv_at hl 0 rfl) ?_
  refine lv_sipush (v := 1024) hx hb d_Machine_init_47 (by decide) ?_
  refine va_newa (D := (dC, dI)) (atype := .long) (a0 := (1024, .inr (.inl (fun _ => 0)))) (ty := .long) (N' := 1024) hx hb (hts (.arrayClass .long) (List.mem_of_getElem? (i := 16) rfl)) rfl hK hP hD hS hA (fun cA => rfl) (by decide) (by decide) (Nat.le_of_ble_eq_true rfl) (Nat.le_of_ble_eq_true rfl) (Nat.le_of_ble_eq_true rfl) d_Machine_init_50 (fun q11 cA12 H hK hP hD hS => ?_)
  have hP : va_P (dC, dI) classes [(h0, .inr (1, [.ref q1, .ref q3, .ref q5, .ref q7, .ref q9, .null, .null])), (q1, .inl (cA2, 6016, .inl (fun _ => 0))), (q3, .inl (cA4, 47, .inl (fun _ => 0))), (q5, .inl (cA6, 47, .inl (fun _ => 0))), (q7, .inl (cA8, 47, .inl (fun _ => 0))), (q9, .inl (cA10, 1024, .inr (.inl (fun _ => 0)))), (q11, .inl (cA12, 1024, .inr (.inl (fun _ => 0))))] H := hP
  have hK : va_K (dC, dI) classes [(cA2, .int), (cA4, .int), (cA6, .int), (cA8, .int), (cA10, .long), (cA12, .long)] s := hK
  have hD : va_D A [(h0, .inr (1, [.ref q1, .ref q3, .ref q5, .ref q7, .ref q9, .null, .null])), (q1, .inl (cA2, 6016, .inl (fun _ => 0))), (q3, .inl (cA4, 47, .inl (fun _ => 0))), (q5, .inl (cA6, 47, .inl (fun _ => 0))), (q7, .inl (cA8, 47, .inl (fun _ => 0))), (q9, .inl (cA10, 1024, .inr (.inl (fun _ => 0)))), (q11, .inl (cA12, 1024, .inr (.inl (fun _ => 0))))] := hD
  refine W.widen (k := 6) (n := 8205) (by omega) (by omega) ?_
  refine va_putF (D := (dC, dI)) (ci := 1) (v := .ref q11) (ty := .array .long) (C := R_MA) (T := T_MA) (N := 7) hx hb hts in_Machine_init_MA t_MA t_MA_ok n_MA hown hK hP hD hS 0 rfl rfl 5 (by decide) (hts (.fieldLink "Leastcode$Machine" 28 "Leastcode$Machine" "toRegister1" "[J") (List.mem_of_getElem? (i := 18) rfl)) (fun _ h9 => h9) rfl hin rfl (by decide +kernel) rfl rfl (Nat.le_of_ble_eq_true rfl) d_Machine_init_52 (fun H locs hP hD hS => ?_)
  have hP : va_P (dC, dI) classes [(h0, .inr (1, [.ref q1, .ref q3, .ref q5, .ref q7, .ref q9, .ref q11, .null])), (q1, .inl (cA2, 6016, .inl (fun _ => 0))), (q3, .inl (cA4, 47, .inl (fun _ => 0))), (q5, .inl (cA6, 47, .inl (fun _ => 0))), (q7, .inl (cA8, 47, .inl (fun _ => 0))), (q9, .inl (cA10, 1024, .inr (.inl (fun _ => 0)))), (q11, .inl (cA12, 1024, .inr (.inl (fun _ => 0))))] H := hP
  have hD : va_D A [(h0, .inr (1, [.ref q1, .ref q3, .ref q5, .ref q7, .ref q9, .ref q11, .null])), (q1, .inl (cA2, 6016, .inl (fun _ => 0))), (q3, .inl (cA4, 47, .inl (fun _ => 0))), (q5, .inl (cA6, 47, .inl (fun _ => 0))), (q7, .inl (cA8, 47, .inl (fun _ => 0))), (q9, .inl (cA10, 1024, .inr (.inl (fun _ => 0)))), (q11, .inl (cA12, 1024, .inr (.inl (fun _ => 0))))] := hD
  refine lv_aload_n hx hb d_Machine_init_55 rfl (lv_at hl 0 rfl) ?_
  refine lv_sipush (v := 256) hx hb d_Machine_init_56 (by decide) ?_
  refine va_newa (D := (dC, dI)) (atype := .long) (a0 := (256, .inr (.inl (fun _ => 0)))) (ty := .long) (N' := 256) hx hb (hts (.arrayClass .long) (List.mem_of_getElem? (i := 16) rfl)) rfl hK hP hD hS hA (fun cA => rfl) (by decide) (by decide) (Nat.le_of_ble_eq_true rfl) (Nat.le_of_ble_eq_true rfl) (Nat.le_of_ble_eq_true rfl) d_Machine_init_59 (fun q13 cA14 H hK hP hD hS => ?_)
  have hP : va_P (dC, dI) classes [(h0, .inr (1, [.ref q1, .ref q3, .ref q5, .ref q7, .ref q9, .ref q11, .null])), (q1, .inl (cA2, 6016, .inl (fun _ => 0))), (q3, .inl (cA4, 47, .inl (fun _ => 0))), (q5, .inl (cA6, 47, .inl (fun _ => 0))), (q7, .inl (cA8, 47, .inl (fun _ => 0))), (q9, .inl (cA10, 1024, .inr (.inl (fun _ => 0)))), (q11, .inl (cA12, 1024, .inr (.inl (fun _ => 0)))), (q13, .inl (cA14, 256, .inr (.inl (fun _ => 0))))] H := hP
  have hK : va_K (dC, dI) classes [(cA2, .int), (cA4, .int), (cA6, .int), (cA8, .int), (cA10, .long), (cA12, .long), (cA14, .long)] s := hK
  have hD : va_D A [(h0, .inr (1, [.ref q1, .ref q3, .ref q5, .ref q7, .ref q9, .ref q11, .null])), (q1, .inl (cA2, 6016, .inl (fun _ => 0))), (q3, .inl (cA4, 47, .inl (fun _ => 0))), (q5, .inl (cA6, 47, .inl (fun _ => 0))), (q7, .inl (cA8, 47, .inl (fun _ => 0))), (q9, .inl (cA10, 1024, .inr (.inl (fun _ => 0)))), (q11, .inl (cA12, 1024, .inr (.inl (fun _ => 0)))), (q13, .inl (cA14, 256, .inr (.inl (fun _ => 0))))] := hD
  refine W.widen (k := 7) (n := 8461) (by omega) (by omega) ?_
  refine va_putF (D := (dC, dI)) (ci := 1) (v := .ref q13) (ty := .array .long) (C := R_MA) (T := T_MA) (N := 7) hx hb hts in_Machine_init_MA t_MA t_MA_ok n_MA hown hK hP hD hS 0 rfl rfl 6 (by decide) (hts (.fieldLink "Leastcode$Machine" 31 "Leastcode$Machine" "toFlag" "[J") (List.mem_of_getElem? (i := 19) rfl)) (fun _ h9 => h9) rfl hin rfl (by decide +kernel) rfl rfl (Nat.le_of_ble_eq_true rfl) d_Machine_init_61 (fun H locs hP hD hS => ?_)
  have hP : va_P (dC, dI) classes [(h0, .inr (1, [.ref q1, .ref q3, .ref q5, .ref q7, .ref q9, .ref q11, .ref q13])), (q1, .inl (cA2, 6016, .inl (fun _ => 0))), (q3, .inl (cA4, 47, .inl (fun _ => 0))), (q5, .inl (cA6, 47, .inl (fun _ => 0))), (q7, .inl (cA8, 47, .inl (fun _ => 0))), (q9, .inl (cA10, 1024, .inr (.inl (fun _ => 0)))), (q11, .inl (cA12, 1024, .inr (.inl (fun _ => 0)))), (q13, .inl (cA14, 256, .inr (.inl (fun _ => 0))))] H := hP
  have hD : va_D A [(h0, .inr (1, [.ref q1, .ref q3, .ref q5, .ref q7, .ref q9, .ref q11, .ref q13])), (q1, .inl (cA2, 6016, .inl (fun _ => 0))), (q3, .inl (cA4, 47, .inl (fun _ => 0))), (q5, .inl (cA6, 47, .inl (fun _ => 0))), (q7, .inl (cA8, 47, .inl (fun _ => 0))), (q9, .inl (cA10, 1024, .inr (.inl (fun _ => 0)))), (q11, .inl (cA12, 1024, .inr (.inl (fun _ => 0)))), (q13, .inl (cA14, 256, .inr (.inl (fun _ => 0))))] := hD
  refine lv_iconst (v := 0) hx hb d_Machine_init_64 (by decide) ?_
  refine lv_istore_n (lv' := [(1, .int 0), (0, .ref h0)]) hx hb d_Machine_init_65 rfl hl (by decide) rfl (fun ls hl => ?_)
  refine ry_abs (fun QQ hQ => ?_)
  have loop : ∀ (k i : Nat), i + k = 47 → ∀ (H : Heap) (locs : List Loc) (f1 : Nat → Int32) (f2 : Nat → Int32) (f3 : Nat → Int32) (f4 : Nat → Int32) (g1 : Nat → Int64) (g2 : Nat → Int64) (g3 : Nat → Int64) (ls : Array Slot) (x : Int32), x = nI i → va_P (dC, dI) classes [(h0, .inr (1, [.ref q1, .ref q3, .ref q5, .ref q7, .ref q9, .ref q11, .ref q13])), (q1, .inl (cA2, 6016, .inl (f1))), (q3, .inl (cA4, 47, .inl (f2))), (q5, .inl (cA6, 47, .inl (f3))), (q7, .inl (cA8, 47, .inl (f4))), (q9, .inl (cA10, 1024, .inr (.inl (g1)))), (q11, .inl (cA12, 1024, .inr (.inl (g2)))), (q13, .inl (cA14, 256, .inr (.inl (g3))))] H → va_D A [(h0, .inr (1, [.ref q1, .ref q3, .ref q5, .ref q7, .ref q9, .ref q11, .ref q13])), (q1, .inl (cA2, 6016, .inl (f1))), (q3, .inl (cA4, 47, .inl (f2))), (q5, .inl (cA6, 47, .inl (f3))), (q7, .inl (cA8, 47, .inl (f4))), (q9, .inl (cA10, 1024, .inr (.inl (g1)))), (q11, .inl (cA12, 1024, .inr (.inl (g2)))), (q13, .inl (cA14, 256, .inr (.inl (g3))))] → va_S A s.heap H locs → lv_has ls 8 [(1, .int x), (0, .ref h0)] → W p l e (headSpec w_Machine_init rm_Machine_init).room s m ([.ref h0] : List Value).toArray below meth c H locs (7) (8461) QQ (F0 m 66 ls []) := by
    intro k
    induction k with
    | zero =>
      intro i hi H locs f1 f2 f3 f4 g1 g2 g3 ls x ex0 hP hD hS hl
      obtain rfl : i = 47 := by omega
      refine lv_iload_n hx hb d_Machine_init_66 rfl (lv_at hl 0 rfl) ?_
      refine lv_bipush (v := 47) hx hb d_Machine_init_67 (by decide) ?_
      refine lv_icmp_ge (tgt := 255) hx hb d_Machine_init_69 (by decide) (fun c_69 => ?_) (fun c_69 => ?_)
      · skip
        subst hQ
        have hP9 : va_P (dC, dI) classes [(h0, .inr (1, [.ref q1, .ref q3, .ref q5, .ref q7, .ref q9, .ref q11, .ref q13])), (q1, .inl (cA2, 6016, .inl (f1)))] H := hP.sub (ws' := [(h0, .inr (1, [.ref q1, .ref q3, .ref q5, .ref q7, .ref q9, .ref q11, .ref q13])), (q1, .inl (cA2, 6016, .inl (f1)))]) [0, 1] rfl
        have hD9 := hD.sub (ws' := [(h0, .inr (1, [.ref q1, .ref q3, .ref q5, .ref q7, .ref q9, .ref q11, .ref q13])), (q1, .inl (cA2, 6016, .inl (f1)))]) [0, 1] (by decide) rfl
        have hK9 := hK.sub (tys' := [(cA2, .int)]) [0] rfl
        refine W.widen (k := 7) (n := 8461) (by omega) (by omega) ?_
        exact W.vret hx hb hr (fun t ht hW => ⟨⟨(), rfl, trivial, ⟨q1, ⟨q3, ⟨q5, ⟨q7, ⟨q9, ⟨q11, ⟨q13, ⟨cA2, ⟨f1, ⟨by rw [ht]; exact hP9, va_K.moved hW.alike hK9, hD9⟩⟩⟩⟩⟩⟩⟩⟩⟩⟩⟩, hS.F ht⟩) hS.2.2 d_Machine_init_255
      · exact absurd (by rw [ex0]; exact (show nI 47 ≤ nI 47 from nI_le (Nat.le_refl 47) (by omega))) c_69
    | succ k ih =>
      intro i hi H locs f1 f2 f3 f4 g1 g2 g3 ls x ex0 hP hD hS hl
      have hlt : i < 47 := by omega
      refine lv_iload_n hx hb d_Machine_init_66 rfl (lv_at hl 0 rfl) ?_
      refine lv_bipush (v := 47) hx hb d_Machine_init_67 (by decide) ?_
      refine lv_icmp_ge (tgt := 255) hx hb d_Machine_init_69 (by decide) (fun c_69 => ?_) (fun c_69 => ?_)
      · exact absurd c_69 (by rw [ex0]; exact (show ¬ nI 47 ≤ nI i from nI_ge hlt (by omega)))
      · skip
        refine lv_iload_n hx hb d_Machine_init_72 rfl (lv_at hl 0 rfl) ?_
        refine vp_callSi (W.runS (As := [.int x]) (rest := []) ⟨hx, hb, hml, hown, hts⟩ (c_kindOf l x) (cwS 1 hts g_Machine_init_73 rfl rfl rfl (by decide +kernel) ⟨Nat.le_of_ble_eq_true rfl, Nat.le_of_ble_eq_true rfl⟩) ⟨fun a U g mk z => z, fun U hU hW => ⟨rfl, trivial⟩⟩ rfl rfl hl.1 rfl (lv_room (Nat.le_of_ble_eq_true rfl)) d_Machine_init_73 ⟨(Nat.le_of_ble_eq_true rfl), (Nat.le_of_ble_eq_true rfl)⟩) (fun r15 hr15 => ?_)
        refine lv_istore_n (lv' := [(2, .int r15), (1, .int x), (0, .ref h0)]) hx hb d_Machine_init_76 rfl hl (by decide) rfl (fun ls hl => ?_)
        refine lv_iload_n hx hb d_Machine_init_77 rfl (lv_at hl 0 rfl) ?_
        refine vp_callSi (W.runS (As := [.int r15]) (rest := []) ⟨hx, hb, hml, hown, hts⟩ (c_letterOf l sa va r15) (cwS 1 hts g_Machine_init_78 rfl rfl rfl (by decide +kernel) ⟨Nat.le_of_ble_eq_true rfl, Nat.le_of_ble_eq_true rfl⟩) ⟨fun a U g mk z => by obtain ⟨z0, zE0, zE1, zE2, zE3, zE4, zE5, zE6⟩ := z; exact ⟨z0, zE0.moved (u := U) (U := U.calling g mk a) (Vm.Alike.refl U.vm), zE1.moved (u := U) (U := U.calling g mk a) (Vm.Alike.refl U.vm), zE2.moved (u := U) (U := U.calling g mk a) (Vm.Alike.refl U.vm), zE3.moved (u := U) (U := U.calling g mk a) (Vm.Alike.refl U.vm), zE4.moved (u := U) (U := U.calling g mk a) (Vm.Alike.refl U.vm), zE5.moved (u := U) (U := U.calling g mk a) (Vm.Alike.refl U.vm), vk_R.same (u := U) (U := U.calling g mk a) rfl zE6⟩, fun U hU hW => ⟨rfl, by (try dsimp only); rw [hU]; exact ((hE0.kept (fun a h1 h2 => hS.2.1 a h1 h2)).narrow (B := fun _ => False) (fun _ h => h.elim)).moved hW.alike, by (try dsimp only); rw [hU]; exact ((hE1.kept (fun a h1 h2 => hS.2.1 a h1 h2)).narrow (B := fun _ => False) (fun _ h => h.elim)).moved hW.alike, by (try dsimp only); rw [hU]; exact ((hE2.kept (fun a h1 h2 => hS.2.1 a h1 h2)).narrow (B := fun _ => False) (fun _ h => h.elim)).moved hW.alike, by (try dsimp only); rw [hU]; exact ((hE3.kept (fun a h1 h2 => hS.2.1 a h1 h2)).narrow (B := fun _ => False) (fun _ h => h.elim)).moved hW.alike, by (try dsimp only); rw [hU]; exact ((hE4.kept (fun a h1 h2 => hS.2.1 a h1 h2)).narrow (B := fun _ => False) (fun _ h => h.elim)).moved hW.alike, by (try dsimp only); rw [hU]; exact ((hE5.kept (fun a h1 h2 => hS.2.1 a h1 h2)).narrow (B := fun _ => False) (fun _ h => h.elim)).moved hW.alike, vk_R.warm hW hE6⟩⟩ rfl rfl hl.1 rfl (lv_room (Nat.le_of_ble_eq_true rfl)) d_Machine_init_78 ⟨(Nat.le_of_ble_eq_true rfl), (Nat.le_of_ble_eq_true rfl)⟩) (fun r16 hr16 => ?_)
        refine lv_istore_n (lv' := [(3, .int r16), (2, .int r15), (1, .int x), (0, .ref h0)]) hx hb d_Machine_init_81 rfl hl (by decide) rfl (fun ls hl => ?_)
        refine lv_iload_n hx hb d_Machine_init_82 rfl (lv_at hl 2 rfl) ?_
        refine vp_callSi (W.runS (As := [.int x]) (rest := []) ⟨hx, hb, hml, hown, hts⟩ (c_firstOf l x) (cwS 1 hts g_Machine_init_83 rfl rfl rfl (by decide +kernel) ⟨Nat.le_of_ble_eq_true rfl, Nat.le_of_ble_eq_true rfl⟩) ⟨fun a U g mk z => z, fun U hU hW => ⟨rfl, trivial⟩⟩ rfl rfl hl.1 rfl (lv_room (Nat.le_of_ble_eq_true rfl)) d_Machine_init_83 ⟨(Nat.le_of_ble_eq_true rfl), (Nat.le_of_ble_eq_true rfl)⟩) (fun r17 hr17 => ?_)
        refine lv_istore (lv' := [(4, .int r17), (3, .int r16), (2, .int r15), (1, .int x), (0, .ref h0)]) hx hb d_Machine_init_86 hl (by decide) rfl (fun ls hl => ?_)
        refine lv_iload_n hx hb d_Machine_init_88 rfl (lv_at hl 3 rfl) ?_
        refine vp_callSi (W.runS (As := [.int x]) (rest := []) ⟨hx, hb, hml, hown, hts⟩ (c_secondOf l x) (cwS 1 hts g_Machine_init_89 rfl rfl rfl (by decide +kernel) ⟨Nat.le_of_ble_eq_true rfl, Nat.le_of_ble_eq_true rfl⟩) ⟨fun a U g mk z => z, fun U hU hW => ⟨rfl, trivial⟩⟩ rfl rfl hl.1 rfl (lv_room (Nat.le_of_ble_eq_true rfl)) d_Machine_init_89 ⟨(Nat.le_of_ble_eq_true rfl), (Nat.le_of_ble_eq_true rfl)⟩) (fun r18 hr18 => ?_)
        refine lv_istore (lv' := [(5, .int r18), (4, .int r17), (3, .int r16), (2, .int r15), (1, .int x), (0, .ref h0)]) hx hb d_Machine_init_92 hl (by decide) rfl (fun ls hl => ?_)
        refine lv_aload_n hx hb d_Machine_init_94 rfl (lv_at hl 5 rfl) ?_
        refine va_get (D := (dC, dI)) (ci := 1) (v := .ref q3) (C := R_MA) (T := T_MA) (N := 7) hx hb hts in_Machine_init_MA hown hK hP 0 rfl rfl 1 (by decide) (hts (.fieldLink "Leastcode$Machine" 15 "Leastcode$Machine" "readParts" "[I") (List.mem_of_getElem? (i := 13) rfl)) (fun _ h9 => h9) rfl d_Machine_init_95 ?_
        refine lv_iload_n hx hb d_Machine_init_98 rfl (lv_at hl 4 rfl) ?_
        refine lv_iload_n hx hb d_Machine_init_99 rfl (lv_at hl 2 rfl) ?_
        refine lv_iload_n hx hb d_Machine_init_100 rfl (lv_at hl 3 rfl) ?_
        refine lv_iload hx hb d_Machine_init_101 (lv_at hl 1 rfl) ?_
        refine lv_iload hx hb d_Machine_init_103 (lv_at hl 0 rfl) ?_
        refine vp_callSi (W.runS (As := [.int r16, .int r15, .int r17, .int r18]) (rest := [.int x, .ref q3]) ⟨hx, hb, hml, hown, hts⟩ (c_partsRead l r16 r15 r17 r18) (cwS 4 hts g_Machine_init_105 rfl rfl rfl (by decide +kernel) ⟨Nat.le_of_ble_eq_true rfl, Nat.le_of_ble_eq_true rfl⟩) ⟨fun a U g mk z => z, fun U hU hW => ⟨rfl, trivial⟩⟩ rfl rfl hl.1 rfl (lv_room (Nat.le_of_ble_eq_true rfl)) d_Machine_init_105 ⟨(Nat.le_of_ble_eq_true rfl), (Nat.le_of_ble_eq_true rfl)⟩) (fun r19 hr19 => ?_)
        refine va_iast (D := (dC, dI)) hx hb hK hP hD hS 2 1 rfl rfl (by rw [ex0]; exact vp_in_nI hlt (by omega)) d_Machine_init_108 (fun H locs hP hD hS => ?_)
        have hP : va_P (dC, dI) classes [(h0, .inr (1, [.ref q1, .ref q3, .ref q5, .ref q7, .ref q9, .ref q11, .ref q13])), (q1, .inl (cA2, 6016, .inl (f1))), (q3, .inl (cA4, 47, .inl (upd f2 (x : Int32).toNatClampNeg (r19)))), (q5, .inl (cA6, 47, .inl (f3))), (q7, .inl (cA8, 47, .inl (f4))), (q9, .inl (cA10, 1024, .inr (.inl (g1)))), (q11, .inl (cA12, 1024, .inr (.inl (g2)))), (q13, .inl (cA14, 256, .inr (.inl (g3))))] H := hP
        have hD : va_D A [(h0, .inr (1, [.ref q1, .ref q3, .ref q5, .ref q7, .ref q9, .ref q11, .ref q13])), (q1, .inl (cA2, 6016, .inl (f1))), (q3, .inl (cA4, 47, .inl (upd f2 (x : Int32).toNatClampNeg (r19)))), (q5, .inl (cA6, 47, .inl (f3))), (q7, .inl (cA8, 47, .inl (f4))), (q9, .inl (cA10, 1024, .inr (.inl (g1)))), (q11, .inl (cA12, 1024, .inr (.inl (g2)))), (q13, .inl (cA14, 256, .inr (.inl (g3))))] := hD
        generalize upd f2 (x : Int32).toNatClampNeg (r19) = f20 at hP hD
        refine lv_aload_n hx hb d_Machine_init_109 rfl (lv_at hl 5 rfl) ?_
        refine va_get (D := (dC, dI)) (ci := 1) (v := .ref q5) (C := R_MA) (T := T_MA) (N := 7) hx hb hts in_Machine_init_MA hown hK hP 0 rfl rfl 2 (by decide) (hts (.fieldLink "Leastcode$Machine" 18 "Leastcode$Machine" "writtenParts" "[I") (List.mem_of_getElem? (i := 14) rfl)) (fun _ h9 => h9) rfl d_Machine_init_110 ?_
        refine lv_iload_n hx hb d_Machine_init_113 rfl (lv_at hl 4 rfl) ?_
        refine lv_iload_n hx hb d_Machine_init_114 rfl (lv_at hl 2 rfl) ?_
        refine lv_iload hx hb d_Machine_init_115 (lv_at hl 1 rfl) ?_
        refine vp_callSi (W.runS (As := [.int r16, .int r17]) (rest := [.int x, .ref q5]) ⟨hx, hb, hml, hown, hts⟩ (c_partsWritten l r16 r17) (cwS 2 hts g_Machine_init_117 rfl rfl rfl (by decide +kernel) ⟨Nat.le_of_ble_eq_true rfl, Nat.le_of_ble_eq_true rfl⟩) ⟨fun a U g mk z => z, fun U hU hW => ⟨rfl, trivial⟩⟩ rfl rfl hl.1 rfl (lv_room (Nat.le_of_ble_eq_true rfl)) d_Machine_init_117 ⟨(Nat.le_of_ble_eq_true rfl), (Nat.le_of_ble_eq_true rfl)⟩) (fun r21 hr21 => ?_)
        refine va_iast (D := (dC, dI)) hx hb hK hP hD hS 3 2 rfl rfl (by rw [ex0]; exact vp_in_nI hlt (by omega)) d_Machine_init_120 (fun H locs hP hD hS => ?_)
        have hP : va_P (dC, dI) classes [(h0, .inr (1, [.ref q1, .ref q3, .ref q5, .ref q7, .ref q9, .ref q11, .ref q13])), (q1, .inl (cA2, 6016, .inl (f1))), (q3, .inl (cA4, 47, .inl (f20))), (q5, .inl (cA6, 47, .inl (upd f3 (x : Int32).toNatClampNeg (r21)))), (q7, .inl (cA8, 47, .inl (f4))), (q9, .inl (cA10, 1024, .inr (.inl (g1)))), (q11, .inl (cA12, 1024, .inr (.inl (g2)))), (q13, .inl (cA14, 256, .inr (.inl (g3))))] H := hP
        have hD : va_D A [(h0, .inr (1, [.ref q1, .ref q3, .ref q5, .ref q7, .ref q9, .ref q11, .ref q13])), (q1, .inl (cA2, 6016, .inl (f1))), (q3, .inl (cA4, 47, .inl (f20))), (q5, .inl (cA6, 47, .inl (upd f3 (x : Int32).toNatClampNeg (r21)))), (q7, .inl (cA8, 47, .inl (f4))), (q9, .inl (cA10, 1024, .inr (.inl (g1)))), (q11, .inl (cA12, 1024, .inr (.inl (g2)))), (q13, .inl (cA14, 256, .inr (.inl (g3))))] := hD
        generalize upd f3 (x : Int32).toNatClampNeg (r21) = f22 at hP hD
        refine lv_aload_n hx hb d_Machine_init_121 rfl (lv_at hl 5 rfl) ?_
        refine va_get (D := (dC, dI)) (ci := 1) (v := .ref q7) (C := R_MA) (T := T_MA) (N := 7) hx hb hts in_Machine_init_MA hown hK hP 0 rfl rfl 3 (by decide) (hts (.fieldLink "Leastcode$Machine" 21 "Leastcode$Machine" "mirrors" "[I") (List.mem_of_getElem? (i := 15) rfl)) (fun _ h9 => h9) rfl d_Machine_init_122 ?_
        refine lv_iload_n hx hb d_Machine_init_125 rfl (lv_at hl 4 rfl) ?_
        refine lv_iload_n hx hb d_Machine_init_126 rfl (lv_at hl 3 rfl) ?_
        refine lv_iconst (v := 1) hx hb d_Machine_init_127 (by decide) ?_
        refine lv_iload hx hb d_Machine_init_128 (lv_at hl 1 rfl) ?_
        refine lv_isub hx hb d_Machine_init_130 ?_
        refine lv_topi (fun x23 ex23 => ?_)
        refine lv_iconst (v := 1) hx hb d_Machine_init_131 (by decide) ?_
        refine lv_iload hx hb d_Machine_init_132 (lv_at hl 0 rfl) ?_
        refine lv_isub hx hb d_Machine_init_134 ?_
        refine lv_topi (fun x24 ex24 => ?_)
        refine vp_callSi (W.runS (As := [.int r15, .int x23, .int x24]) (rest := [.int x, .ref q7]) ⟨hx, hb, hml, hown, hts⟩ (c_numberOf l r15 x23 x24) (cwS 3 hts g_Machine_init_135 rfl rfl rfl (by decide +kernel) ⟨Nat.le_of_ble_eq_true rfl, Nat.le_of_ble_eq_true rfl⟩) ⟨fun a U g mk z => z, fun U hU hW => ⟨rfl, trivial⟩⟩ rfl rfl hl.1 rfl (lv_room (Nat.le_of_ble_eq_true rfl)) d_Machine_init_135 ⟨(Nat.le_of_ble_eq_true rfl), (Nat.le_of_ble_eq_true rfl)⟩) (fun r25 hr25 => ?_)
        refine va_iast (D := (dC, dI)) hx hb hK hP hD hS 4 3 rfl rfl (by rw [ex0]; exact vp_in_nI hlt (by omega)) d_Machine_init_138 (fun H locs hP hD hS => ?_)
        have hP : va_P (dC, dI) classes [(h0, .inr (1, [.ref q1, .ref q3, .ref q5, .ref q7, .ref q9, .ref q11, .ref q13])), (q1, .inl (cA2, 6016, .inl (f1))), (q3, .inl (cA4, 47, .inl (f20))), (q5, .inl (cA6, 47, .inl (f22))), (q7, .inl (cA8, 47, .inl (upd f4 (x : Int32).toNatClampNeg (r25)))), (q9, .inl (cA10, 1024, .inr (.inl (g1)))), (q11, .inl (cA12, 1024, .inr (.inl (g2)))), (q13, .inl (cA14, 256, .inr (.inl (g3))))] H := hP
        have hD : va_D A [(h0, .inr (1, [.ref q1, .ref q3, .ref q5, .ref q7, .ref q9, .ref q11, .ref q13])), (q1, .inl (cA2, 6016, .inl (f1))), (q3, .inl (cA4, 47, .inl (f20))), (q5, .inl (cA6, 47, .inl (f22))), (q7, .inl (cA8, 47, .inl (upd f4 (x : Int32).toNatClampNeg (r25)))), (q9, .inl (cA10, 1024, .inr (.inl (g1)))), (q11, .inl (cA12, 1024, .inr (.inl (g2)))), (q13, .inl (cA14, 256, .inr (.inl (g3))))] := hD
        generalize upd f4 (x : Int32).toNatClampNeg (r25) = f26 at hP hD
        refine lv_iconst (v := 0) hx hb d_Machine_init_139 (by decide) ?_
        refine lv_istore (lv' := [(6, .int 0), (5, .int r18), (4, .int r17), (3, .int r16), (2, .int r15), (1, .int x), (0, .ref h0)]) hx hb d_Machine_init_140 hl (by decide) rfl (fun ls hl => ?_)
        have loopj : ∀ (kj ij : Nat), ij + kj = 128 → ∀ (H : Heap) (locs : List Loc) (f1 : Nat → Int32) (f2 : Nat → Int32) (f3 : Nat → Int32) (f4 : Nat → Int32) (g1 : Nat → Int64) (g2 : Nat → Int64) (g3 : Nat → Int64) (ls : Array Slot) (xj : Int32), xj = nI ij → va_P (dC, dI) classes [(h0, .inr (1, [.ref q1, .ref q3, .ref q5, .ref q7, .ref q9, .ref q11, .ref q13])), (q1, .inl (cA2, 6016, .inl (f1))), (q3, .inl (cA4, 47, .inl (f2))), (q5, .inl (cA6, 47, .inl (f3))), (q7, .inl (cA8, 47, .inl (f4))), (q9, .inl (cA10, 1024, .inr (.inl (g1)))), (q11, .inl (cA12, 1024, .inr (.inl (g2)))), (q13, .inl (cA14, 256, .inr (.inl (g3))))] H → va_D A [(h0, .inr (1, [.ref q1, .ref q3, .ref q5, .ref q7, .ref q9, .ref q11, .ref q13])), (q1, .inl (cA2, 6016, .inl (f1))), (q3, .inl (cA4, 47, .inl (f2))), (q5, .inl (cA6, 47, .inl (f3))), (q7, .inl (cA8, 47, .inl (f4))), (q9, .inl (cA10, 1024, .inr (.inl (g1)))), (q11, .inl (cA12, 1024, .inr (.inl (g2)))), (q13, .inl (cA14, 256, .inr (.inl (g3))))] → va_S A s.heap H locs → lv_has ls 8 [(6, .int xj), (5, .int r18), (4, .int r17), (3, .int r16), (2, .int r15), (1, .int x), (0, .ref h0)] → W p l e (headSpec w_Machine_init rm_Machine_init).room s m ([.ref h0] : List Value).toArray below meth c H locs (7) (8461) QQ (F0 m 142 ls []) := by
          intro kj
          induction kj with
          | zero =>
            intro ij hij H locs f1 f2 f3 f4 g1 g2 g3 ls xj ex0j hP hD hS hl
            obtain rfl : ij = 128 := by omega
            refine lv_iload hx hb d_Machine_init_142 (lv_at hl 0 rfl) ?_
            refine lv_sipush (v := 128) hx hb d_Machine_init_144 (by decide) ?_
            refine lv_icmp_ge (tgt := 249) hx hb d_Machine_init_147 (by decide) (fun c_147 => ?_) (fun c_147 => ?_)
            · skip
              obtain ⟨x27, ex27⟩ : ∃ y_ : Int32, y_ = x + 1 := ⟨_, rfl⟩
              refine lv_iinc (v := x27) (lv' := [(1, .int x27), (6, .int xj), (5, .int r18), (4, .int r17), (3, .int r16), (2, .int r15), (0, .ref h0)]) hx hb d_Machine_init_249 hl (k := 5) rfl (by rw [ex27]; rfl) (by decide) rfl (fun ls hl => ?_)
              refine lv_goto (tgt := 66) hx hb d_Machine_init_252 (by decide) ?_
              exact ih (i + 1) (by omega) _ _ f1 f2 f3 f4 g1 g2 g3 _ x27 (by rw [ex27, ex0]; exact nI_1 i) (hP.sub [0, 1, 2, 3, 4, 5, 6, 7] rfl) (hD.sub [0, 1, 2, 3, 4, 5, 6, 7] (by decide) rfl) hS (lv_sub hl [0, 6] rfl)
            · exact absurd (by rw [ex0j]; exact (show nI 128 ≤ nI 128 from nI_le (Nat.le_refl 128) (by omega))) c_147
          | succ kj ihj =>
            intro ij hij H locs f1 f2 f3 f4 g1 g2 g3 ls xj ex0j hP hD hS hl
            have hltj : ij < 128 := by omega
            refine lv_iload hx hb d_Machine_init_142 (lv_at hl 0 rfl) ?_
            refine lv_sipush (v := 128) hx hb d_Machine_init_144 (by decide) ?_
            refine lv_icmp_ge (tgt := 249) hx hb d_Machine_init_147 (by decide) (fun c_147 => ?_) (fun c_147 => ?_)
            · exact absurd c_147 (by rw [ex0j]; exact (show ¬ nI 128 ≤ nI ij from nI_ge hltj (by omega)))
            · skip
              refine lv_iload_n hx hb d_Machine_init_150 rfl (lv_at hl 3 rfl) ?_
              refine lv_iload hx hb d_Machine_init_151 (lv_at hl 2 rfl) ?_
              refine lv_iload hx hb d_Machine_init_153 (lv_at hl 1 rfl) ?_
              refine lv_iload hx hb d_Machine_init_155 (lv_at hl 0 rfl) ?_
              refine vp_callSi (W.runS (As := [.int r16, .int r17, .int r18, .int xj]) (rest := []) ⟨hx, hb, hml, hown, hts⟩ (c_effect l r16 r17 r18 xj) (cwS 4 hts g_Machine_init_157 rfl rfl rfl (by decide +kernel) ⟨Nat.le_of_ble_eq_true rfl, Nat.le_of_ble_eq_true rfl⟩) ⟨fun a U g mk z => z, fun U hU hW => ⟨rfl, trivial⟩⟩ rfl rfl hl.1 rfl (lv_room (Nat.le_of_ble_eq_true rfl)) d_Machine_init_157 ⟨(Nat.le_of_ble_eq_true rfl), (Nat.le_of_ble_eq_true rfl)⟩) (fun r28 hr28 => ?_)
              refine lv_istore (lv' := [(7, .int r28), (6, .int xj), (5, .int r18), (4, .int r17), (3, .int r16), (2, .int r15), (1, .int x), (0, .ref h0)]) hx hb d_Machine_init_160 hl (by decide) rfl (fun ls hl => ?_)
              refine lv_aload_n hx hb d_Machine_init_162 rfl (lv_at hl 7 rfl) ?_
              refine va_get (D := (dC, dI)) (ci := 1) (v := .ref q1) (C := R_MA) (T := T_MA) (N := 7) hx hb hts in_Machine_init_MA hown hK hP 0 rfl rfl 0 (by decide) (hts (.fieldLink "Leastcode$Machine" 9 "Leastcode$Machine" "next" "[I") (List.mem_of_getElem? (i := 12) rfl)) (fun _ h9 => h9) rfl d_Machine_init_163 ?_
              refine lv_iload_n hx hb d_Machine_init_166 rfl (lv_at hl 6 rfl) ?_
              refine lv_sipush (v := 128) hx hb d_Machine_init_167 (by decide) ?_
              refine lv_imul hx hb d_Machine_init_170 ?_
              refine lv_topi (fun x29 ex29 => ?_)
              refine lv_iload hx hb d_Machine_init_171 (lv_at hl 1 rfl) ?_
              refine lv_iadd hx hb d_Machine_init_173 ?_
              refine lv_topi (fun x30 ex30 => ?_)
              refine lv_iload hx hb d_Machine_init_174 (lv_at hl 0 rfl) ?_
              have hb176 : vp_in x30 6016 := by rw [ex30, ex29, ex0, ex0j]; rw [show nI i * 128 = nI (i * 128) from pk_mul i 128, nI_add]; exact vp_in_nI (by omega) (by omega)
              refine va_iast (D := (dC, dI)) hx hb hK hP hD hS 1 0 rfl rfl hb176 d_Machine_init_176 (fun H locs hP hD hS => ?_)
              have hP : va_P (dC, dI) classes [(h0, .inr (1, [.ref q1, .ref q3, .ref q5, .ref q7, .ref q9, .ref q11, .ref q13])), (q1, .inl (cA2, 6016, .inl (upd f1 (x30 : Int32).toNatClampNeg (r28)))), (q3, .inl (cA4, 47, .inl (f2))), (q5, .inl (cA6, 47, .inl (f3))), (q7, .inl (cA8, 47, .inl (f4))), (q9, .inl (cA10, 1024, .inr (.inl (g1)))), (q11, .inl (cA12, 1024, .inr (.inl (g2)))), (q13, .inl (cA14, 256, .inr (.inl (g3))))] H := hP
              have hD : va_D A [(h0, .inr (1, [.ref q1, .ref q3, .ref q5, .ref q7, .ref q9, .ref q11, .ref q13])), (q1, .inl (cA2, 6016, .inl (upd f1 (x30 : Int32).toNatClampNeg (r28)))), (q3, .inl (cA4, 47, .inl (f2))), (q5, .inl (cA6, 47, .inl (f3))), (q7, .inl (cA8, 47, .inl (f4))), (q9, .inl (cA10, 1024, .inr (.inl (g1)))), (q11, .inl (cA12, 1024, .inr (.inl (g2)))), (q13, .inl (cA14, 256, .inr (.inl (g3))))] := hD
              generalize upd f1 (x30 : Int32).toNatClampNeg (r28) = f31 at hP hD
              refine lv_aload_n hx hb d_Machine_init_177 rfl (lv_at hl 7 rfl) ?_
              refine va_get (D := (dC, dI)) (ci := 1) (v := .ref q9) (C := R_MA) (T := T_MA) (N := 7) hx hb hts in_Machine_init_MA hown hK hP 0 rfl rfl 4 (by decide) (hts (.fieldLink "Leastcode$Machine" 24 "Leastcode$Machine" "toRegister0" "[J") (List.mem_of_getElem? (i := 17) rfl)) (fun _ h9 => h9) rfl d_Machine_init_178 ?_
              refine lv_iload hx hb d_Machine_init_181 (lv_at hl 1 rfl) ?_
              refine lv_bipush (v := 8) hx hb d_Machine_init_183 (by decide) ?_
              refine lv_imul hx hb d_Machine_init_185 ?_
              refine lv_topi (fun x32 ex32 => ?_)
              refine lv_iload hx hb d_Machine_init_186 (lv_at hl 0 rfl) ?_
              refine lv_iconst (v := 0) hx hb d_Machine_init_188 (by decide) ?_
              refine vp_callSi (W.runS (As := [.int r28, .int 0]) (rest := [.int x32, .ref q9]) ⟨hx, hb, hml, hown, hts⟩ (c_register l r28 0) (cwS 2 hts g_Machine_init_189 rfl rfl rfl (by decide +kernel) ⟨Nat.le_of_ble_eq_true rfl, Nat.le_of_ble_eq_true rfl⟩) ⟨fun a U g mk z => z, fun U hU hW => ⟨rfl, trivial⟩⟩ rfl rfl hl.1 rfl (lv_room (Nat.le_of_ble_eq_true rfl)) d_Machine_init_189 ⟨(Nat.le_of_ble_eq_true rfl), (Nat.le_of_ble_eq_true rfl)⟩) (fun r33 hr33 => ?_)
              refine lv_iadd hx hb d_Machine_init_192 ?_
              refine lv_topi (fun x34 ex34 => ?_)
              obtain ⟨jr194, hjr194, hjre194⟩ := hr33
              have hb194 : vp_in x34 1024 := by rw [ex34, ex32, ex0j, hjre194]; rw [show nI ij * 8 = nI (ij * 8) from pk_mul ij 8, nI_add]; exact vp_in_nI (by omega) (by omega)
              refine lv_dup2_11 hx hb d_Machine_init_193 rfl rfl ?_
              refine va_lald hx hb hK hP 5 4 rfl rfl hb194 d_Machine_init_194 ?_
              refine lv_topl (fun z35 ez35 => ?_)
              refine lv_lconst (v := 1) hx hb d_Machine_init_195 (by decide) ?_
              refine lv_iload_n hx hb d_Machine_init_196 rfl (lv_at hl 6 rfl) ?_
              refine lv_lshl hx hb d_Machine_init_197 rfl ?_
              refine lv_topl (fun z36 ez36 => ?_)
              refine lv_lor hx hb d_Machine_init_198 ?_
              refine lv_topl (fun z37 ez37 => ?_)
              refine va_last (D := (dC, dI)) hx hb hK hP hD hS 5 4 rfl rfl hb194 d_Machine_init_199 (fun H locs hP hD hS => ?_)
              have hP : va_P (dC, dI) classes [(h0, .inr (1, [.ref q1, .ref q3, .ref q5, .ref q7, .ref q9, .ref q11, .ref q13])), (q1, .inl (cA2, 6016, .inl (f31))), (q3, .inl (cA4, 47, .inl (f2))), (q5, .inl (cA6, 47, .inl (f3))), (q7, .inl (cA8, 47, .inl (f4))), (q9, .inl (cA10, 1024, .inr (.inl (vp_updL g1 (x34 : Int32).toNatClampNeg (z37))))), (q11, .inl (cA12, 1024, .inr (.inl (g2)))), (q13, .inl (cA14, 256, .inr (.inl (g3))))] H := hP
              have hD : va_D A [(h0, .inr (1, [.ref q1, .ref q3, .ref q5, .ref q7, .ref q9, .ref q11, .ref q13])), (q1, .inl (cA2, 6016, .inl (f31))), (q3, .inl (cA4, 47, .inl (f2))), (q5, .inl (cA6, 47, .inl (f3))), (q7, .inl (cA8, 47, .inl (f4))), (q9, .inl (cA10, 1024, .inr (.inl (vp_updL g1 (x34 : Int32).toNatClampNeg (z37))))), (q11, .inl (cA12, 1024, .inr (.inl (g2)))), (q13, .inl (cA14, 256, .inr (.inl (g3))))] := hD
              generalize vp_updL g1 (x34 : Int32).toNatClampNeg (z37) = f38 at hP hD
              refine lv_aload_n hx hb d_Machine_init_200 rfl (lv_at hl 7 rfl) ?_
              refine va_get (D := (dC, dI)) (ci := 1) (v := .ref q11) (C := R_MA) (T := T_MA) (N := 7) hx hb hts in_Machine_init_MA hown hK hP 0 rfl rfl 5 (by decide) (hts (.fieldLink "Leastcode$Machine" 28 "Leastcode$Machine" "toRegister1" "[J") (List.mem_of_getElem? (i := 18) rfl)) (fun _ h9 => h9) rfl d_Machine_init_201 ?_
              refine lv_iload hx hb d_Machine_init_204 (lv_at hl 1 rfl) ?_
              refine lv_bipush (v := 8) hx hb d_Machine_init_206 (by decide) ?_
              refine lv_imul hx hb d_Machine_init_208 ?_
              refine lv_topi (fun x39 ex39 => ?_)
              refine lv_iload hx hb d_Machine_init_209 (lv_at hl 0 rfl) ?_
              refine lv_iconst (v := 1) hx hb d_Machine_init_211 (by decide) ?_
              refine vp_callSi (W.runS (As := [.int r28, .int 1]) (rest := [.int x39, .ref q11]) ⟨hx, hb, hml, hown, hts⟩ (c_register l r28 1) (cwS 2 hts g_Machine_init_212 rfl rfl rfl (by decide +kernel) ⟨Nat.le_of_ble_eq_true rfl, Nat.le_of_ble_eq_true rfl⟩) ⟨fun a U g mk z => z, fun U hU hW => ⟨rfl, trivial⟩⟩ rfl rfl hl.1 rfl (lv_room (Nat.le_of_ble_eq_true rfl)) d_Machine_init_212 ⟨(Nat.le_of_ble_eq_true rfl), (Nat.le_of_ble_eq_true rfl)⟩) (fun r40 hr40 => ?_)
              refine lv_iadd hx hb d_Machine_init_215 ?_
              refine lv_topi (fun x41 ex41 => ?_)
              obtain ⟨jr217, hjr217, hjre217⟩ := hr40
              have hb217 : vp_in x41 1024 := by rw [ex41, ex39, ex0j, hjre217]; rw [show nI ij * 8 = nI (ij * 8) from pk_mul ij 8, nI_add]; exact vp_in_nI (by omega) (by omega)
              refine lv_dup2_11 hx hb d_Machine_init_216 rfl rfl ?_
              refine va_lald hx hb hK hP 6 5 rfl rfl hb217 d_Machine_init_217 ?_
              refine lv_topl (fun z42 ez42 => ?_)
              refine lv_lconst (v := 1) hx hb d_Machine_init_218 (by decide) ?_
              refine lv_iload_n hx hb d_Machine_init_219 rfl (lv_at hl 6 rfl) ?_
              refine lv_lshl hx hb d_Machine_init_220 rfl ?_
              refine lv_topl (fun z43 ez43 => ?_)
              refine lv_lor hx hb d_Machine_init_221 ?_
              refine lv_topl (fun z44 ez44 => ?_)
              refine va_last (D := (dC, dI)) hx hb hK hP hD hS 6 5 rfl rfl hb217 d_Machine_init_222 (fun H locs hP hD hS => ?_)
              have hP : va_P (dC, dI) classes [(h0, .inr (1, [.ref q1, .ref q3, .ref q5, .ref q7, .ref q9, .ref q11, .ref q13])), (q1, .inl (cA2, 6016, .inl (f31))), (q3, .inl (cA4, 47, .inl (f2))), (q5, .inl (cA6, 47, .inl (f3))), (q7, .inl (cA8, 47, .inl (f4))), (q9, .inl (cA10, 1024, .inr (.inl (f38)))), (q11, .inl (cA12, 1024, .inr (.inl (vp_updL g2 (x41 : Int32).toNatClampNeg (z44))))), (q13, .inl (cA14, 256, .inr (.inl (g3))))] H := hP
              have hD : va_D A [(h0, .inr (1, [.ref q1, .ref q3, .ref q5, .ref q7, .ref q9, .ref q11, .ref q13])), (q1, .inl (cA2, 6016, .inl (f31))), (q3, .inl (cA4, 47, .inl (f2))), (q5, .inl (cA6, 47, .inl (f3))), (q7, .inl (cA8, 47, .inl (f4))), (q9, .inl (cA10, 1024, .inr (.inl (f38)))), (q11, .inl (cA12, 1024, .inr (.inl (vp_updL g2 (x41 : Int32).toNatClampNeg (z44))))), (q13, .inl (cA14, 256, .inr (.inl (g3))))] := hD
              generalize vp_updL g2 (x41 : Int32).toNatClampNeg (z44) = f45 at hP hD
              refine lv_aload_n hx hb d_Machine_init_223 rfl (lv_at hl 7 rfl) ?_
              refine va_get (D := (dC, dI)) (ci := 1) (v := .ref q13) (C := R_MA) (T := T_MA) (N := 7) hx hb hts in_Machine_init_MA hown hK hP 0 rfl rfl 6 (by decide) (hts (.fieldLink "Leastcode$Machine" 31 "Leastcode$Machine" "toFlag" "[J") (List.mem_of_getElem? (i := 19) rfl)) (fun _ h9 => h9) rfl d_Machine_init_224 ?_
              refine lv_iload hx hb d_Machine_init_227 (lv_at hl 1 rfl) ?_
              refine lv_iconst (v := 2) hx hb d_Machine_init_229 (by decide) ?_
              refine lv_imul hx hb d_Machine_init_230 ?_
              refine lv_topi (fun x46 ex46 => ?_)
              refine lv_iload hx hb d_Machine_init_231 (lv_at hl 0 rfl) ?_
              refine lv_iconst (v := 1) hx hb d_Machine_init_233 (by decide) ?_
              refine lv_iand hx hb d_Machine_init_234 ?_
              refine lv_topi (fun x47 ex47 => ?_)
              refine lv_iadd hx hb d_Machine_init_235 ?_
              refine lv_topi (fun x48 ex48 => ?_)
              obtain ⟨jf, hjf, hjfe⟩ := pk_andE r28 (m := 1) 1 (by decide)
              have hb237 : vp_in x48 256 := by rw [ex48, ex46, ex0j, ex47, hjfe]; rw [show nI ij * 2 = nI (ij * 2) from pk_mul ij 2, nI_add]; exact vp_in_nI (by omega) (by omega)
              refine lv_dup2_11 hx hb d_Machine_init_236 rfl rfl ?_
              refine va_lald hx hb hK hP 7 6 rfl rfl hb237 d_Machine_init_237 ?_
              refine lv_topl (fun z49 ez49 => ?_)
              refine lv_lconst (v := 1) hx hb d_Machine_init_238 (by decide) ?_
              refine lv_iload_n hx hb d_Machine_init_239 rfl (lv_at hl 6 rfl) ?_
              refine lv_lshl hx hb d_Machine_init_240 rfl ?_
              refine lv_topl (fun z50 ez50 => ?_)
              refine lv_lor hx hb d_Machine_init_241 ?_
              refine lv_topl (fun z51 ez51 => ?_)
              refine va_last (D := (dC, dI)) hx hb hK hP hD hS 7 6 rfl rfl hb237 d_Machine_init_242 (fun H locs hP hD hS => ?_)
              have hP : va_P (dC, dI) classes [(h0, .inr (1, [.ref q1, .ref q3, .ref q5, .ref q7, .ref q9, .ref q11, .ref q13])), (q1, .inl (cA2, 6016, .inl (f31))), (q3, .inl (cA4, 47, .inl (f2))), (q5, .inl (cA6, 47, .inl (f3))), (q7, .inl (cA8, 47, .inl (f4))), (q9, .inl (cA10, 1024, .inr (.inl (f38)))), (q11, .inl (cA12, 1024, .inr (.inl (f45)))), (q13, .inl (cA14, 256, .inr (.inl (vp_updL g3 (x48 : Int32).toNatClampNeg (z51)))))] H := hP
              have hD : va_D A [(h0, .inr (1, [.ref q1, .ref q3, .ref q5, .ref q7, .ref q9, .ref q11, .ref q13])), (q1, .inl (cA2, 6016, .inl (f31))), (q3, .inl (cA4, 47, .inl (f2))), (q5, .inl (cA6, 47, .inl (f3))), (q7, .inl (cA8, 47, .inl (f4))), (q9, .inl (cA10, 1024, .inr (.inl (f38)))), (q11, .inl (cA12, 1024, .inr (.inl (f45)))), (q13, .inl (cA14, 256, .inr (.inl (vp_updL g3 (x48 : Int32).toNatClampNeg (z51)))))] := hD
              generalize vp_updL g3 (x48 : Int32).toNatClampNeg (z51) = f52 at hP hD
              obtain ⟨x53, ex53⟩ : ∃ y_ : Int32, y_ = xj + 1 := ⟨_, rfl⟩
              refine lv_iinc (v := x53) (lv' := [(6, .int x53), (7, .int r28), (5, .int r18), (4, .int r17), (3, .int r16), (2, .int r15), (1, .int x), (0, .ref h0)]) hx hb d_Machine_init_243 hl (k := 1) rfl (by rw [ex53]; rfl) (by decide) rfl (fun ls hl => ?_)
              refine lv_goto (tgt := 142) hx hb d_Machine_init_246 (by decide) ?_
              exact ihj (ij + 1) (by omega) _ _ f31 f2 f3 f4 f38 f45 f52 _ x53 (by rw [ex53, ex0j]; exact nI_1 ij) (hP.sub [0, 1, 2, 3, 4, 5, 6, 7] rfl) (hD.sub [0, 1, 2, 3, 4, 5, 6, 7] (by decide) rfl) hS (lv_sub hl [0, 2, 3, 4, 5, 6, 7] rfl)
        exact loopj 128 0 rfl _ _ f1 f20 f22 f26 g1 g2 g3 _ _ nI_0.symm (hP.sub [0, 1, 2, 3, 4, 5, 6, 7] rfl) (hD.sub [0, 1, 2, 3, 4, 5, 6, 7] (by decide) rfl) hS (lv_sub hl [0, 1, 2, 3, 4, 5, 6] rfl)
  exact loop 47 0 rfl _ _ (fun _ => 0) (fun _ => 0) (fun _ => 0) (fun _ => 0) (fun _ => 0) (fun _ => 0) (fun _ => 0) _ _ nI_0.symm (hP.sub [0, 1, 2, 3, 4, 5, 6, 7] rfl) (hD.sub [0, 1, 2, 3, 4, 5, 6, 7] (by decide) rfl) hS (lv_sub hl [0, 1] rfl)

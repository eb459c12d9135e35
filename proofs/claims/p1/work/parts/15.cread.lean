theorem k_2_134 : (Jvm.Cond.fieldLink "StaveHouse" (63 : Nat) "StaveHouse" "spare" "LStaveHouse$Piece;") ∈ wAll := wA_2 (j := 134) rfl rfl
theorem k_2_178 : (Jvm.Cond.instantiable "StaveHouse$Piece" (14 : Nat)) ∈ wAll := wA_2 (j := 178) rfl rfl
theorem k_1_15 : (Jvm.Cond.initialized "StaveHouse$Piece") ∈ wAll := wA_1 (j := 15) rfl rfl
theorem k_2_182 : (Jvm.Cond.methodLink "StaveHouse$Piece" (3 : Nat) ({ cls := "java/lang/Object", name := "<init>", desc := "()V" } : Jvm.MethodName)) ∈ wAll := wA_2 (j := 182) rfl rfl
theorem k_2_183 : (Jvm.Cond.classLink "StaveHouse$Piece" (9 : Nat) "StaveHouse$Part") ∈ wAll := wA_2 (j := 183) rfl rfl
theorem k_2_185 : (Jvm.Cond.fieldLink "StaveHouse$Piece" (11 : Nat) "StaveHouse$Piece" "parts" "[LStaveHouse$Part;") ∈ wAll := wA_2 (j := 185) rfl rfl
theorem k_2_181 : (Jvm.Cond.code ({ cls := "StaveHouse$Piece", name := "<init>", desc := "()V" } : Jvm.MethodName) prog_8_method_1_code (1 : Nat) (Option.none : Option Jvm.ClassFile.FieldType)) ∈ wAll := wA_2 (j := 181) rfl rfl
theorem k_2_180 : (Jvm.Cond.instanceMethod ({ cls := "StaveHouse$Piece", name := "<init>", desc := "()V" } : Jvm.MethodName)) ∈ wAll := wA_2 (j := 180) rfl rfl
theorem k_2_190 : (Jvm.Cond.fieldLink "StaveHouse$Piece" (17 : Nat) "StaveHouse$Piece" "partCount" "I") ∈ wAll := wA_2 (j := 190) rfl rfl
theorem k_2_195 : (Jvm.Cond.fieldLink "StaveHouse$Piece" (21 : Nat) "StaveHouse$Piece" "fifths" "I") ∈ wAll := wA_2 (j := 195) rfl rfl
theorem k_2_202 : (Jvm.Cond.fieldLink "StaveHouse$Piece" (24 : Nat) "StaveHouse$Piece" "minor" "I") ∈ wAll := wA_2 (j := 202) rfl rfl
theorem k_2_207 : (Jvm.Cond.fieldLink "StaveHouse$Piece" (27 : Nat) "StaveHouse$Piece" "above" "I") ∈ wAll := wA_2 (j := 207) rfl rfl
theorem k_2_212 : (Jvm.Cond.fieldLink "StaveHouse$Piece" (30 : Nat) "StaveHouse$Piece" "below" "I") ∈ wAll := wA_2 (j := 212) rfl rfl
theorem k_2_217 : (Jvm.Cond.fieldLink "StaveHouse$Piece" (33 : Nat) "StaveHouse$Piece" "tempo" "I") ∈ wAll := wA_2 (j := 217) rfl rfl
theorem k_2_222 : (Jvm.Cond.fieldLink "StaveHouse$Piece" (36 : Nat) "StaveHouse$Piece" "bars" "I") ∈ wAll := wA_2 (j := 222) rfl rfl
theorem k_2_228 : (Jvm.Cond.fieldLink "StaveHouse$Piece" (39 : Nat) "StaveHouse$Piece" "performed" "Z") ∈ wAll := wA_2 (j := 228) rfl rfl
theorem k_2_230 : (Jvm.Cond.fieldLink "StaveHouse$Piece" (43 : Nat) "StaveHouse$Piece" "sounded" "Z") ∈ wAll := wA_2 (j := 230) rfl rfl
theorem k_2_232 : (Jvm.Cond.fieldLink "StaveHouse$Piece" (46 : Nat) "StaveHouse$Piece" "studied" "Z") ∈ wAll := wA_2 (j := 232) rfl rfl
theorem k_2_224 : (Jvm.Cond.fieldLink "StaveHouse$Piece" (49 : Nat) "StaveHouse$Piece" "layout" "LStaveHouse$Layout;") ∈ wAll := wA_2 (j := 224) rfl rfl
theorem k_3_25 : (Jvm.Cond.code ({ cls := "StaveHouse$Piece", name := "clear", desc := "()V" } : Jvm.MethodName) prog_8_method_2_code (1 : Nat) (Option.none : Option Jvm.ClassFile.FieldType)) ∈ wAll := wA_3 (j := 25) rfl rfl
theorem k_3_22 : (Jvm.Cond.methodLink "StaveHouse" (68 : Nat) ({ cls := "StaveHouse$Piece", name := "clear", desc := "()V" } : Jvm.MethodName)) ∈ wAll := wA_3 (j := 22) rfl rfl
theorem k_3_23 : (Jvm.Cond.instanceMethod ({ cls := "StaveHouse$Piece", name := "clear", desc := "()V" } : Jvm.MethodName)) ∈ wAll := wA_3 (j := 23) rfl rfl
theorem k_3_24 : (Jvm.Cond.selects "StaveHouse$Piece" ({ cls := "StaveHouse$Piece", name := "clear", desc := "()V" } : Jvm.MethodName) ({ cls := "StaveHouse$Piece", name := "clear", desc := "()V" } : Jvm.MethodName)) ∈ wAll := wA_3 (j := 24) rfl rfl
theorem k_1_131 : (Jvm.Cond.fieldLink "StaveHouse$Parser" (59 : Nat) "StaveHouse$Parser" "items" "I") ∈ wAll := wA_1 (j := 131) rfl rfl
theorem k_1_132 : (Jvm.Cond.fieldLink "StaveHouse$Parser" (63 : Nat) "StaveHouse$Parser" "pitches" "I") ∈ wAll := wA_1 (j := 132) rfl rfl
theorem k_1_133 : (Jvm.Cond.fieldLink "StaveHouse$Parser" (66 : Nat) "StaveHouse$Parser" "lets" "I") ∈ wAll := wA_1 (j := 133) rfl rfl
theorem k_1_134 : (Jvm.Cond.fieldLink "StaveHouse$Parser" (69 : Nat) "StaveHouse$Parser" "headsTold" "I") ∈ wAll := wA_1 (j := 134) rfl rfl
theorem k_1_135 : (Jvm.Cond.fieldLink "StaveHouse$Parser" (72 : Nat) "StaveHouse$Parser" "depth" "I") ∈ wAll := wA_1 (j := 135) rfl rfl
theorem k_1_138 : (Jvm.Cond.fieldLink "StaveHouse$Parser" (75 : Nat) "StaveHouse$Parser" "wrong" "I") ∈ wAll := wA_1 (j := 138) rfl rfl
theorem k_1_44 : (Jvm.Cond.fieldLink "StaveHouse$Tokens" (22 : Nat) "StaveHouse$ByteRow" "size" "I") ∈ wAll := wA_1 (j := 44) rfl rfl
theorem k_1_85 : (Jvm.Cond.fieldLink "StaveHouse$Tokens" (54 : Nat) "StaveHouse$Tokens" "next" "I") ∈ wAll := wA_1 (j := 85) rfl rfl
theorem k_1_73 : (Jvm.Cond.fieldLink "StaveHouse$Tokens" (60 : Nat) "StaveHouse$Tokens" "kind" "I") ∈ wAll := wA_1 (j := 73) rfl rfl
theorem k_1_74 : (Jvm.Cond.fieldLink "StaveHouse$Tokens" (63 : Nat) "StaveHouse$Tokens" "place" "I") ∈ wAll := wA_1 (j := 74) rfl rfl
theorem k_1_76 : (Jvm.Cond.fieldLink "StaveHouse$Tokens" (66 : Nat) "StaveHouse$Tokens" "value" "J") ∈ wAll := wA_1 (j := 76) rfl rfl
theorem k_3_154 : (Jvm.Cond.code ({ cls := "StaveHouse$Tokens", name := "advance", desc := "()V" } : Jvm.MethodName) prog_12_method_3_code (1 : Nat) (Option.none : Option Jvm.ClassFile.FieldType)) ∈ wAll := wA_3 (j := 154) rfl rfl
theorem k_3_151 : (Jvm.Cond.methodLink "StaveHouse$Tokens" (57 : Nat) ({ cls := "StaveHouse$Tokens", name := "advance", desc := "()V" } : Jvm.MethodName)) ∈ wAll := wA_3 (j := 151) rfl rfl
theorem k_3_152 : (Jvm.Cond.instanceMethod ({ cls := "StaveHouse$Tokens", name := "advance", desc := "()V" } : Jvm.MethodName)) ∈ wAll := wA_3 (j := 152) rfl rfl
theorem k_3_153 : (Jvm.Cond.selects "StaveHouse$Tokens" ({ cls := "StaveHouse$Tokens", name := "advance", desc := "()V" } : Jvm.MethodName) ({ cls := "StaveHouse$Tokens", name := "advance", desc := "()V" } : Jvm.MethodName)) ∈ wAll := wA_3 (j := 153) rfl rfl
theorem k_3_33 : (Jvm.Cond.code ({ cls := "StaveHouse$Tokens", name := "start", desc := "(LStaveHouse$ByteRow;)V" } : Jvm.MethodName) prog_12_method_2_code (7 : Nat) (Option.none : Option Jvm.ClassFile.FieldType)) ∈ wAll := wA_3 (j := 33) rfl rfl
theorem k_3_30 : (Jvm.Cond.methodLink "StaveHouse$Parser" (78 : Nat) ({ cls := "StaveHouse$Tokens", name := "start", desc := "(LStaveHouse$ByteRow;)V" } : Jvm.MethodName)) ∈ wAll := wA_3 (j := 30) rfl rfl
theorem k_3_31 : (Jvm.Cond.instanceMethod ({ cls := "StaveHouse$Tokens", name := "start", desc := "(LStaveHouse$ByteRow;)V" } : Jvm.MethodName)) ∈ wAll := wA_3 (j := 31) rfl rfl
theorem k_3_32 : (Jvm.Cond.selects "StaveHouse$Tokens" ({ cls := "StaveHouse$Tokens", name := "start", desc := "(LStaveHouse$ByteRow;)V" } : Jvm.MethodName) ({ cls := "StaveHouse$Tokens", name := "start", desc := "(LStaveHouse$ByteRow;)V" } : Jvm.MethodName)) ∈ wAll := wA_3 (j := 32) rfl rfl
theorem k_3_159 : (Jvm.Cond.constantLong "StaveHouse$Parser" (86 : Nat) (7103860 : Int64)) ∈ wAll := wA_3 (j := 159) rfl rfl
theorem k_3_163 : (Jvm.Cond.code ({ cls := "StaveHouse$Tokens", name := "isWord", desc := "(J)Z" } : Jvm.MethodName) prog_12_method_5_code (3 : Nat) (Option.some Jvm.ClassFile.FieldType.boolean)) ∈ wAll := wA_3 (j := 163) rfl rfl
theorem k_3_160 : (Jvm.Cond.methodLink "StaveHouse$Parser" (88 : Nat) ({ cls := "StaveHouse$Tokens", name := "isWord", desc := "(J)Z" } : Jvm.MethodName)) ∈ wAll := wA_3 (j := 160) rfl rfl
theorem k_3_161 : (Jvm.Cond.instanceMethod ({ cls := "StaveHouse$Tokens", name := "isWord", desc := "(J)Z" } : Jvm.MethodName)) ∈ wAll := wA_3 (j := 161) rfl rfl
theorem k_3_162 : (Jvm.Cond.selects "StaveHouse$Tokens" ({ cls := "StaveHouse$Tokens", name := "isWord", desc := "(J)Z" } : Jvm.MethodName) ({ cls := "StaveHouse$Tokens", name := "isWord", desc := "(J)Z" } : Jvm.MethodName)) ∈ wAll := wA_3 (j := 162) rfl rfl
theorem k_3_168 : (Jvm.Cond.constantLong "StaveHouse$Parser" (116 : Nat) (7038329 : Int64)) ∈ wAll := wA_3 (j := 168) rfl rfl
theorem k_3_169 : (Jvm.Cond.constantLong "StaveHouse$Parser" (118 : Nat) (1953066341 : Int64)) ∈ wAll := wA_3 (j := 169) rfl rfl
theorem k_3_170 : (Jvm.Cond.constantLong "StaveHouse$Parser" (120 : Nat) (499917877359 : Int64)) ∈ wAll := wA_3 (j := 170) rfl rfl
theorem k_3_167 : (Jvm.Cond.code ({ cls := "StaveHouse$Parser", name := "headSort", desc := "()I" } : Jvm.MethodName) prog_5_method_5_code (1 : Nat) (Option.some Jvm.ClassFile.FieldType.int)) ∈ wAll := wA_3 (j := 167) rfl rfl
theorem k_3_164 : (Jvm.Cond.methodLink "StaveHouse$Parser" (112 : Nat) ({ cls := "StaveHouse$Parser", name := "headSort", desc := "()I" } : Jvm.MethodName)) ∈ wAll := wA_3 (j := 164) rfl rfl
theorem k_3_166 : (Jvm.Cond.instanceMethod ({ cls := "StaveHouse$Parser", name := "headSort", desc := "()I" } : Jvm.MethodName)) ∈ wAll := wA_3 (j := 166) rfl rfl
theorem ks_3 : (Jvm.Cond.selects "StaveHouse$Parser" ({ cls := "StaveHouse$Parser", name := "headSort", desc := "()I" } : Jvm.MethodName) ({ cls := "StaveHouse$Parser", name := "headSort", desc := "()I" } : Jvm.MethodName)) ∈ wAll := wA_s (j := 3) rfl rfl
theorem k_3_158 : (Jvm.Cond.code ({ cls := "StaveHouse$Parser", name := "beginsHead", desc := "()Z" } : Jvm.MethodName) prog_5_method_4_code (1 : Nat) (Option.some Jvm.ClassFile.FieldType.boolean)) ∈ wAll := wA_3 (j := 158) rfl rfl
theorem k_3_155 : (Jvm.Cond.methodLink "StaveHouse$Parser" (82 : Nat) ({ cls := "StaveHouse$Parser", name := "beginsHead", desc := "()Z" } : Jvm.MethodName)) ∈ wAll := wA_3 (j := 155) rfl rfl
theorem k_3_157 : (Jvm.Cond.instanceMethod ({ cls := "StaveHouse$Parser", name := "beginsHead", desc := "()Z" } : Jvm.MethodName)) ∈ wAll := wA_3 (j := 157) rfl rfl
theorem ks_2 : (Jvm.Cond.selects "StaveHouse$Parser" ({ cls := "StaveHouse$Parser", name := "beginsHead", desc := "()Z" } : Jvm.MethodName) ({ cls := "StaveHouse$Parser", name := "beginsHead", desc := "()Z" } : Jvm.MethodName)) ∈ wAll := wA_s (j := 2) rfl rfl
theorem k_4_91 : (Jvm.Cond.constantLong "StaveHouse$Parser" (99 : Nat) (508675318629 : Int64)) ∈ wAll := wA_4 (j := 91) rfl rfl
theorem k_1_72 : (Jvm.Cond.fieldLink "StaveHouse$Parser" (108 : Nat) "StaveHouse$Tokens" "kind" "I") ∈ wAll := wA_1 (j := 72) rfl rfl
theorem k_1_75 : (Jvm.Cond.fieldLink "StaveHouse$Parser" (110 : Nat) "StaveHouse$Tokens" "place" "I") ∈ wAll := wA_1 (j := 75) rfl rfl
theorem k_3_199 : (Jvm.Cond.code ({ cls := "StaveHouse$Parser", name := "refuse", desc := "(I)Z" } : Jvm.MethodName) prog_5_method_3_code (2 : Nat) (Option.some Jvm.ClassFile.FieldType.boolean)) ∈ wAll := wA_3 (j := 199) rfl rfl
theorem k_3_196 : (Jvm.Cond.methodLink "StaveHouse$Parser" (101 : Nat) ({ cls := "StaveHouse$Parser", name := "refuse", desc := "(I)Z" } : Jvm.MethodName)) ∈ wAll := wA_3 (j := 196) rfl rfl
theorem k_3_198 : (Jvm.Cond.instanceMethod ({ cls := "StaveHouse$Parser", name := "refuse", desc := "(I)Z" } : Jvm.MethodName)) ∈ wAll := wA_3 (j := 198) rfl rfl
theorem ks_7 : (Jvm.Cond.selects "StaveHouse$Parser" ({ cls := "StaveHouse$Parser", name := "refuse", desc := "(I)Z" } : Jvm.MethodName) ({ cls := "StaveHouse$Parser", name := "refuse", desc := "(I)Z" } : Jvm.MethodName)) ∈ wAll := wA_s (j := 7) rfl rfl
theorem k_3_29 : (Jvm.Cond.code ({ cls := "StaveHouse$Parser", name := "parse", desc := "(LStaveHouse$ByteRow;LStaveHouse$Piece;)I" } : Jvm.MethodName) prog_5_method_2_code (5 : Nat) (Option.some Jvm.ClassFile.FieldType.int)) ∈ wAll := wA_3 (j := 29) rfl rfl
theorem k_3_26 : (Jvm.Cond.methodLink "StaveHouse" (71 : Nat) ({ cls := "StaveHouse$Parser", name := "parse", desc := "(LStaveHouse$ByteRow;LStaveHouse$Piece;)I" } : Jvm.MethodName)) ∈ wAll := wA_3 (j := 26) rfl rfl
theorem k_3_27 : (Jvm.Cond.instanceMethod ({ cls := "StaveHouse$Parser", name := "parse", desc := "(LStaveHouse$ByteRow;LStaveHouse$Piece;)I" } : Jvm.MethodName)) ∈ wAll := wA_3 (j := 27) rfl rfl
theorem k_3_28 : (Jvm.Cond.selects "StaveHouse$Parser" ({ cls := "StaveHouse$Parser", name := "parse", desc := "(LStaveHouse$ByteRow;LStaveHouse$Piece;)I" } : Jvm.MethodName) ({ cls := "StaveHouse$Parser", name := "parse", desc := "(LStaveHouse$ByteRow;LStaveHouse$Piece;)I" } : Jvm.MethodName)) ∈ wAll := wA_3 (j := 28) rfl rfl
theorem k_2_194 : (Jvm.Cond.fieldLink "StaveHouse" (75 : Nat) "StaveHouse$Piece" "partCount" "I") ∈ wAll := wA_2 (j := 194) rfl rfl
theorem k_1_48 : (Jvm.Cond.fieldLink "StaveHouse$ByteRow" (25 : Nat) "StaveHouse$ByteRow" "full" "Z") ∈ wAll := wA_1 (j := 48) rfl rfl
theorem k_5_169 : (Jvm.Cond.code ({ cls := "StaveHouse$ByteRow", name := "clear", desc := "()V" } : Jvm.MethodName) prog_2_method_2_code (1 : Nat) (Option.none : Option Jvm.ClassFile.FieldType)) ∈ wAll := wA_5 (j := 169) rfl rfl
theorem k_5_166 : (Jvm.Cond.methodLink "StaveHouse" (92 : Nat) ({ cls := "StaveHouse$ByteRow", name := "clear", desc := "()V" } : Jvm.MethodName)) ∈ wAll := wA_5 (j := 166) rfl rfl
theorem k_5_167 : (Jvm.Cond.instanceMethod ({ cls := "StaveHouse$ByteRow", name := "clear", desc := "()V" } : Jvm.MethodName)) ∈ wAll := wA_5 (j := 167) rfl rfl
theorem k_5_168 : (Jvm.Cond.selects "StaveHouse$ByteRow" ({ cls := "StaveHouse$ByteRow", name := "clear", desc := "()V" } : Jvm.MethodName) ({ cls := "StaveHouse$ByteRow", name := "clear", desc := "()V" } : Jvm.MethodName)) ∈ wAll := wA_5 (j := 168) rfl rfl
theorem k_2_233 : (Jvm.Cond.laysFinal "StaveHouse$Piece" "StaveHouse$Piece" "parts" "[LStaveHouse$Part;") ∈ wAll := wA_2 (j := 233) rfl rfl
theorem k_2_235 : (Jvm.Cond.lays "StaveHouse$Piece" "StaveHouse$Piece" "partCount" "I") ∈ wAll := wA_2 (j := 235) rfl rfl
theorem k_2_237 : (Jvm.Cond.lays "StaveHouse$Piece" "StaveHouse$Piece" "fifths" "I") ∈ wAll := wA_2 (j := 237) rfl rfl
theorem k_2_239 : (Jvm.Cond.lays "StaveHouse$Piece" "StaveHouse$Piece" "minor" "I") ∈ wAll := wA_2 (j := 239) rfl rfl
theorem k_3_1 : (Jvm.Cond.lays "StaveHouse$Piece" "StaveHouse$Piece" "above" "I") ∈ wAll := wA_3 (j := 1) rfl rfl
theorem k_3_3 : (Jvm.Cond.lays "StaveHouse$Piece" "StaveHouse$Piece" "below" "I") ∈ wAll := wA_3 (j := 3) rfl rfl
theorem k_3_5 : (Jvm.Cond.lays "StaveHouse$Piece" "StaveHouse$Piece" "tempo" "I") ∈ wAll := wA_3 (j := 5) rfl rfl
theorem k_3_7 : (Jvm.Cond.lays "StaveHouse$Piece" "StaveHouse$Piece" "bars" "I") ∈ wAll := wA_3 (j := 7) rfl rfl
theorem k_3_9 : (Jvm.Cond.lays "StaveHouse$Piece" "StaveHouse$Piece" "layout" "LStaveHouse$Layout;") ∈ wAll := wA_3 (j := 9) rfl rfl
theorem k_3_11 : (Jvm.Cond.lays "StaveHouse$Piece" "StaveHouse$Piece" "performance" "LStaveHouse$Performance;") ∈ wAll := wA_3 (j := 11) rfl rfl
theorem k_3_13 : (Jvm.Cond.lays "StaveHouse$Piece" "StaveHouse$Piece" "performed" "Z") ∈ wAll := wA_3 (j := 13) rfl rfl
theorem k_3_15 : (Jvm.Cond.lays "StaveHouse$Piece" "StaveHouse$Piece" "sounded" "Z") ∈ wAll := wA_3 (j := 15) rfl rfl
theorem k_3_17 : (Jvm.Cond.lays "StaveHouse$Piece" "StaveHouse$Piece" "study" "LStaveHouse$Study;") ∈ wAll := wA_3 (j := 17) rfl rfl
theorem k_3_19 : (Jvm.Cond.lays "StaveHouse$Piece" "StaveHouse$Piece" "studied" "Z") ∈ wAll := wA_3 (j := 19) rfl rfl
theorem d_1_5_0 : decode prog_1_method_5_code 0 = .ok (.iload_n 1, 1) := by decide +kernel
theorem d_1_5_1 : decode prog_1_method_5_code 1 = .ok (.ifCond .lt 8, 3) := by decide +kernel
theorem d_1_5_9 : decode prog_1_method_5_code 9 = .ok (.iconst (-1), 1) := by decide +kernel
theorem d_1_5_10 : decode prog_1_method_5_code 10 = .ok (.ireturn, 1) := by decide +kernel
theorem d_1_5_4 : decode prog_1_method_5_code 4 = .ok (.iload_n 1, 1) := by decide +kernel
theorem d_1_5_5 : decode prog_1_method_5_code 5 = .ok (.iconst 2, 1) := by decide +kernel
theorem d_1_5_6 : decode prog_1_method_5_code 6 = .ok (.if_icmp .lt 5, 3) := by decide +kernel
theorem d_1_5_11 : decode prog_1_method_5_code 11 = .ok (.aload_n 0, 1) := by decide +kernel
theorem d_1_5_12 : decode prog_1_method_5_code 12 = .ok (.getfield 63, 3) := by decide +kernel
theorem d_1_5_15 : decode prog_1_method_5_code 15 = .ok (.ifnonnull 14, 3) := by decide +kernel
theorem d_1_5_18 : decode prog_1_method_5_code 18 = .ok (.aload_n 0, 1) := by decide +kernel
theorem d_1_5_19 : decode prog_1_method_5_code 19 = .ok (.new 25, 3) := by decide +kernel
theorem d_1_5_22 : decode prog_1_method_5_code 22 = .ok (.dup, 1) := by decide +kernel
theorem d_1_5_23 : decode prog_1_method_5_code 23 = .ok (.invokespecial 67, 3) := by decide +kernel
theorem d_8_1_0 : decode prog_8_method_1_code 0 = .ok (.aload_n 0, 1) := by decide +kernel
theorem d_8_1_1 : decode prog_8_method_1_code 1 = .ok (.invokespecial 3, 3) := by decide +kernel
theorem d_8_1_4 : decode prog_8_method_1_code 4 = .ok (.aload_n 0, 1) := by decide +kernel
theorem d_8_1_5 : decode prog_8_method_1_code 5 = .ok (.iconst 4, 1) := by decide +kernel
theorem d_8_1_6 : decode prog_8_method_1_code 6 = .ok (.anewarray 9, 3) := by decide +kernel
theorem d_8_1_9 : decode prog_8_method_1_code 9 = .ok (.putfield 11, 3) := by decide +kernel
theorem d_8_1_12 : decode prog_8_method_1_code 12 = .ok (.return_, 1) := by decide +kernel
theorem d_1_5_26 : decode prog_1_method_5_code 26 = .ok (.putfield 63, 3) := by decide +kernel
theorem d_1_5_29 : decode prog_1_method_5_code 29 = .ok (.aload_n 0, 1) := by decide +kernel
theorem d_1_5_30 : decode prog_1_method_5_code 30 = .ok (.getfield 63, 3) := by decide +kernel
theorem d_1_5_33 : decode prog_1_method_5_code 33 = .ok (.invokevirtual 68, 3) := by decide +kernel
theorem d_8_2_0 : decode prog_8_method_2_code 0 = .ok (.aload_n 0, 1) := by decide +kernel
theorem d_8_2_1 : decode prog_8_method_2_code 1 = .ok (.iconst 0, 1) := by decide +kernel
theorem d_8_2_2 : decode prog_8_method_2_code 2 = .ok (.putfield 17, 3) := by decide +kernel
theorem d_8_2_5 : decode prog_8_method_2_code 5 = .ok (.aload_n 0, 1) := by decide +kernel
theorem d_8_2_6 : decode prog_8_method_2_code 6 = .ok (.iconst 0, 1) := by decide +kernel
theorem d_8_2_7 : decode prog_8_method_2_code 7 = .ok (.putfield 21, 3) := by decide +kernel
theorem d_8_2_10 : decode prog_8_method_2_code 10 = .ok (.aload_n 0, 1) := by decide +kernel
theorem d_8_2_11 : decode prog_8_method_2_code 11 = .ok (.iconst 0, 1) := by decide +kernel
theorem d_8_2_12 : decode prog_8_method_2_code 12 = .ok (.putfield 24, 3) := by decide +kernel
theorem d_8_2_15 : decode prog_8_method_2_code 15 = .ok (.aload_n 0, 1) := by decide +kernel
theorem d_8_2_16 : decode prog_8_method_2_code 16 = .ok (.iconst 4, 1) := by decide +kernel
theorem d_8_2_17 : decode prog_8_method_2_code 17 = .ok (.putfield 27, 3) := by decide +kernel
theorem d_8_2_20 : decode prog_8_method_2_code 20 = .ok (.aload_n 0, 1) := by decide +kernel
theorem d_8_2_21 : decode prog_8_method_2_code 21 = .ok (.iconst 4, 1) := by decide +kernel
theorem d_8_2_22 : decode prog_8_method_2_code 22 = .ok (.putfield 30, 3) := by decide +kernel
theorem d_8_2_25 : decode prog_8_method_2_code 25 = .ok (.aload_n 0, 1) := by decide +kernel
theorem d_8_2_26 : decode prog_8_method_2_code 26 = .ok (.bipush 120, 2) := by decide +kernel
theorem d_8_2_28 : decode prog_8_method_2_code 28 = .ok (.putfield 33, 3) := by decide +kernel
theorem d_8_2_31 : decode prog_8_method_2_code 31 = .ok (.aload_n 0, 1) := by decide +kernel
theorem d_8_2_32 : decode prog_8_method_2_code 32 = .ok (.iconst 0, 1) := by decide +kernel
theorem d_8_2_33 : decode prog_8_method_2_code 33 = .ok (.putfield 36, 3) := by decide +kernel
theorem d_8_2_36 : decode prog_8_method_2_code 36 = .ok (.aload_n 0, 1) := by decide +kernel
theorem d_8_2_37 : decode prog_8_method_2_code 37 = .ok (.iconst 0, 1) := by decide +kernel
theorem d_8_2_38 : decode prog_8_method_2_code 38 = .ok (.putfield 39, 3) := by decide +kernel
theorem d_8_2_41 : decode prog_8_method_2_code 41 = .ok (.aload_n 0, 1) := by decide +kernel
theorem d_8_2_42 : decode prog_8_method_2_code 42 = .ok (.iconst 0, 1) := by decide +kernel
theorem d_8_2_43 : decode prog_8_method_2_code 43 = .ok (.putfield 43, 3) := by decide +kernel
theorem d_8_2_46 : decode prog_8_method_2_code 46 = .ok (.aload_n 0, 1) := by decide +kernel
theorem d_8_2_47 : decode prog_8_method_2_code 47 = .ok (.iconst 0, 1) := by decide +kernel
theorem d_8_2_48 : decode prog_8_method_2_code 48 = .ok (.putfield 46, 3) := by decide +kernel
theorem d_8_2_51 : decode prog_8_method_2_code 51 = .ok (.aload_n 0, 1) := by decide +kernel
theorem d_8_2_52 : decode prog_8_method_2_code 52 = .ok (.getfield 49, 3) := by decide +kernel
theorem d_8_2_55 : decode prog_8_method_2_code 55 = .ok (.ifnull 11, 3) := by decide +kernel
theorem d_8_2_66 : decode prog_8_method_2_code 66 = .ok (.return_, 1) := by decide +kernel
theorem d_1_5_36 : decode prog_1_method_5_code 36 = .ok (.aload_n 0, 1) := by decide +kernel
theorem d_1_5_37 : decode prog_1_method_5_code 37 = .ok (.getfield 34, 3) := by decide +kernel
theorem d_1_5_40 : decode prog_1_method_5_code 40 = .ok (.aload_n 0, 1) := by decide +kernel
theorem d_1_5_41 : decode prog_1_method_5_code 41 = .ok (.getfield 14, 3) := by decide +kernel
theorem d_1_5_44 : decode prog_1_method_5_code 44 = .ok (.aload_n 0, 1) := by decide +kernel
theorem d_1_5_45 : decode prog_1_method_5_code 45 = .ok (.getfield 63, 3) := by decide +kernel
theorem d_1_5_48 : decode prog_1_method_5_code 48 = .ok (.invokevirtual 71, 3) := by decide +kernel
theorem d_5_2_0 : decode prog_5_method_2_code 0 = .ok (.aload_n 0, 1) := by decide +kernel
theorem d_5_2_1 : decode prog_5_method_2_code 1 = .ok (.iconst 0, 1) := by decide +kernel
theorem d_5_2_2 : decode prog_5_method_2_code 2 = .ok (.putfield 59, 3) := by decide +kernel
theorem d_5_2_5 : decode prog_5_method_2_code 5 = .ok (.aload_n 0, 1) := by decide +kernel
theorem d_5_2_6 : decode prog_5_method_2_code 6 = .ok (.iconst 0, 1) := by decide +kernel
theorem d_5_2_7 : decode prog_5_method_2_code 7 = .ok (.putfield 63, 3) := by decide +kernel
theorem d_5_2_10 : decode prog_5_method_2_code 10 = .ok (.aload_n 0, 1) := by decide +kernel
theorem d_5_2_11 : decode prog_5_method_2_code 11 = .ok (.iconst 0, 1) := by decide +kernel
theorem d_5_2_12 : decode prog_5_method_2_code 12 = .ok (.putfield 66, 3) := by decide +kernel
theorem d_5_2_15 : decode prog_5_method_2_code 15 = .ok (.aload_n 0, 1) := by decide +kernel
theorem d_5_2_16 : decode prog_5_method_2_code 16 = .ok (.iconst 0, 1) := by decide +kernel
theorem d_5_2_17 : decode prog_5_method_2_code 17 = .ok (.putfield 69, 3) := by decide +kernel
theorem d_5_2_20 : decode prog_5_method_2_code 20 = .ok (.aload_n 0, 1) := by decide +kernel
theorem d_5_2_21 : decode prog_5_method_2_code 21 = .ok (.iconst 0, 1) := by decide +kernel
theorem d_5_2_22 : decode prog_5_method_2_code 22 = .ok (.putfield 72, 3) := by decide +kernel
theorem d_5_2_25 : decode prog_5_method_2_code 25 = .ok (.aload_n 0, 1) := by decide +kernel
theorem d_5_2_26 : decode prog_5_method_2_code 26 = .ok (.iconst 0, 1) := by decide +kernel
theorem d_5_2_27 : decode prog_5_method_2_code 27 = .ok (.putfield 75, 3) := by decide +kernel
theorem d_5_2_30 : decode prog_5_method_2_code 30 = .ok (.aload_n 0, 1) := by decide +kernel
theorem d_5_2_31 : decode prog_5_method_2_code 31 = .ok (.getfield 48, 3) := by decide +kernel
theorem d_5_2_34 : decode prog_5_method_2_code 34 = .ok (.aload_n 1, 1) := by decide +kernel
theorem d_5_2_35 : decode prog_5_method_2_code 35 = .ok (.invokevirtual 78, 3) := by decide +kernel
theorem d_12_2_0 : decode prog_12_method_2_code 0 = .ok (.iconst 0, 1) := by decide +kernel
theorem d_12_2_1 : decode prog_12_method_2_code 1 = .ok (.istore_n 2, 1) := by decide +kernel
theorem d_12_2_2 : decode prog_12_method_2_code 2 = .ok (.iconst 0, 1) := by decide +kernel
theorem d_12_2_3 : decode prog_12_method_2_code 3 = .ok (.istore_n 3, 1) := by decide +kernel
theorem d_12_2_4 : decode prog_12_method_2_code 4 = .ok (.iconst 0, 1) := by decide +kernel
theorem d_12_2_5 : decode prog_12_method_2_code 5 = .ok (.istore 4, 2) := by decide +kernel
theorem d_12_2_7 : decode prog_12_method_2_code 7 = .ok (.iload 4, 2) := by decide +kernel
theorem d_12_2_9 : decode prog_12_method_2_code 9 = .ok (.sipush 3000, 3) := by decide +kernel
theorem d_12_2_12 : decode prog_12_method_2_code 12 = .ok (.if_icmp .ge 123, 3) := by decide +kernel
theorem d_12_2_15 : decode prog_12_method_2_code 15 = .ok (.iload_n 2, 1) := by decide +kernel
theorem d_12_2_16 : decode prog_12_method_2_code 16 = .ok (.aload_n 1, 1) := by decide +kernel
theorem d_12_2_17 : decode prog_12_method_2_code 17 = .ok (.getfield 22, 3) := by decide +kernel
theorem d_12_2_20 : decode prog_12_method_2_code 20 = .ok (.if_icmp .ge 115, 3) := by decide +kernel
theorem d_12_2_135 : decode prog_12_method_2_code 135 = .ok (.aload_n 0, 1) := by decide +kernel
theorem d_12_2_136 : decode prog_12_method_2_code 136 = .ok (.getfield 9, 3) := by decide +kernel
theorem d_12_2_139 : decode prog_12_method_2_code 139 = .ok (.iload_n 3, 1) := by decide +kernel
theorem d_12_2_140 : decode prog_12_method_2_code 140 = .ok (.iconst 0, 1) := by decide +kernel
theorem d_12_2_141 : decode prog_12_method_2_code 141 = .ok (.iastore, 1) := by decide +kernel
theorem d_12_2_142 : decode prog_12_method_2_code 142 = .ok (.aload_n 0, 1) := by decide +kernel
theorem d_12_2_143 : decode prog_12_method_2_code 143 = .ok (.getfield 15, 3) := by decide +kernel
theorem d_12_2_146 : decode prog_12_method_2_code 146 = .ok (.iload_n 3, 1) := by decide +kernel
theorem d_12_2_147 : decode prog_12_method_2_code 147 = .ok (.aload_n 1, 1) := by decide +kernel
theorem d_12_2_148 : decode prog_12_method_2_code 148 = .ok (.getfield 22, 3) := by decide +kernel
theorem d_12_2_151 : decode prog_12_method_2_code 151 = .ok (.iastore, 1) := by decide +kernel
theorem d_12_2_152 : decode prog_12_method_2_code 152 = .ok (.aload_n 0, 1) := by decide +kernel
theorem d_12_2_153 : decode prog_12_method_2_code 153 = .ok (.getfield 18, 3) := by decide +kernel
theorem d_12_2_156 : decode prog_12_method_2_code 156 = .ok (.iload_n 3, 1) := by decide +kernel
theorem d_12_2_157 : decode prog_12_method_2_code 157 = .ok (.lconst 0, 1) := by decide +kernel
theorem d_12_2_158 : decode prog_12_method_2_code 158 = .ok (.lastore, 1) := by decide +kernel
theorem d_12_2_159 : decode prog_12_method_2_code 159 = .ok (.aload_n 0, 1) := by decide +kernel
theorem d_12_2_160 : decode prog_12_method_2_code 160 = .ok (.iconst 0, 1) := by decide +kernel
theorem d_12_2_161 : decode prog_12_method_2_code 161 = .ok (.putfield 54, 3) := by decide +kernel
theorem d_12_2_164 : decode prog_12_method_2_code 164 = .ok (.aload_n 0, 1) := by decide +kernel
theorem d_12_2_165 : decode prog_12_method_2_code 165 = .ok (.invokevirtual 57, 3) := by decide +kernel
theorem d_12_3_0 : decode prog_12_method_3_code 0 = .ok (.aload_n 0, 1) := by decide +kernel
theorem d_12_3_1 : decode prog_12_method_3_code 1 = .ok (.aload_n 0, 1) := by decide +kernel
theorem d_12_3_2 : decode prog_12_method_3_code 2 = .ok (.getfield 9, 3) := by decide +kernel
theorem d_12_3_5 : decode prog_12_method_3_code 5 = .ok (.aload_n 0, 1) := by decide +kernel
theorem d_12_3_6 : decode prog_12_method_3_code 6 = .ok (.getfield 54, 3) := by decide +kernel
theorem d_12_3_9 : decode prog_12_method_3_code 9 = .ok (.iaload, 1) := by decide +kernel
theorem d_12_3_10 : decode prog_12_method_3_code 10 = .ok (.putfield 60, 3) := by decide +kernel
theorem d_12_3_13 : decode prog_12_method_3_code 13 = .ok (.aload_n 0, 1) := by decide +kernel
theorem d_12_3_14 : decode prog_12_method_3_code 14 = .ok (.aload_n 0, 1) := by decide +kernel
theorem d_12_3_15 : decode prog_12_method_3_code 15 = .ok (.getfield 15, 3) := by decide +kernel
theorem d_12_3_18 : decode prog_12_method_3_code 18 = .ok (.aload_n 0, 1) := by decide +kernel
theorem d_12_3_19 : decode prog_12_method_3_code 19 = .ok (.getfield 54, 3) := by decide +kernel
theorem d_12_3_22 : decode prog_12_method_3_code 22 = .ok (.iaload, 1) := by decide +kernel
theorem d_12_3_23 : decode prog_12_method_3_code 23 = .ok (.putfield 63, 3) := by decide +kernel
theorem d_12_3_26 : decode prog_12_method_3_code 26 = .ok (.aload_n 0, 1) := by decide +kernel
theorem d_12_3_27 : decode prog_12_method_3_code 27 = .ok (.aload_n 0, 1) := by decide +kernel
theorem d_12_3_28 : decode prog_12_method_3_code 28 = .ok (.getfield 18, 3) := by decide +kernel
theorem d_12_3_31 : decode prog_12_method_3_code 31 = .ok (.aload_n 0, 1) := by decide +kernel
theorem d_12_3_32 : decode prog_12_method_3_code 32 = .ok (.getfield 54, 3) := by decide +kernel
theorem d_12_3_35 : decode prog_12_method_3_code 35 = .ok (.laload, 1) := by decide +kernel
theorem d_12_3_36 : decode prog_12_method_3_code 36 = .ok (.putfield 66, 3) := by decide +kernel
theorem d_12_3_39 : decode prog_12_method_3_code 39 = .ok (.aload_n 0, 1) := by decide +kernel
theorem d_12_3_40 : decode prog_12_method_3_code 40 = .ok (.getfield 60, 3) := by decide +kernel
theorem d_12_3_43 : decode prog_12_method_3_code 43 = .ok (.iconst 2, 1) := by decide +kernel
theorem d_12_3_44 : decode prog_12_method_3_code 44 = .ok (.if_icmp .ne 29, 3) := by decide +kernel
theorem d_12_3_73 : decode prog_12_method_3_code 73 = .ok (.aload_n 0, 1) := by decide +kernel
theorem d_12_3_74 : decode prog_12_method_3_code 74 = .ok (.getfield 60, 3) := by decide +kernel
theorem d_12_3_77 : decode prog_12_method_3_code 77 = .ok (.ifCond .eq 23, 3) := by decide +kernel
theorem d_12_3_100 : decode prog_12_method_3_code 100 = .ok (.return_, 1) := by decide +kernel
theorem d_12_2_168 : decode prog_12_method_2_code 168 = .ok (.return_, 1) := by decide +kernel
theorem d_5_2_38 : decode prog_5_method_2_code 38 = .ok (.iconst 1, 1) := by decide +kernel
theorem d_5_2_39 : decode prog_5_method_2_code 39 = .ok (.istore_n 3, 1) := by decide +kernel
theorem d_5_2_40 : decode prog_5_method_2_code 40 = .ok (.iconst 0, 1) := by decide +kernel
theorem d_5_2_41 : decode prog_5_method_2_code 41 = .ok (.istore 4, 2) := by decide +kernel
theorem d_5_2_43 : decode prog_5_method_2_code 43 = .ok (.iload 4, 2) := by decide +kernel
theorem d_5_2_45 : decode prog_5_method_2_code 45 = .ok (.bipush 9, 2) := by decide +kernel
theorem d_5_2_47 : decode prog_5_method_2_code 47 = .ok (.if_icmp .ge 46, 3) := by decide +kernel
theorem d_5_2_50 : decode prog_5_method_2_code 50 = .ok (.iload_n 3, 1) := by decide +kernel
theorem d_5_2_51 : decode prog_5_method_2_code 51 = .ok (.ifCond .eq 42, 3) := by decide +kernel
theorem d_5_2_54 : decode prog_5_method_2_code 54 = .ok (.aload_n 0, 1) := by decide +kernel
theorem d_5_2_55 : decode prog_5_method_2_code 55 = .ok (.invokevirtual 82, 3) := by decide +kernel
theorem d_5_4_0 : decode prog_5_method_4_code 0 = .ok (.aload_n 0, 1) := by decide +kernel
theorem d_5_4_1 : decode prog_5_method_4_code 1 = .ok (.getfield 48, 3) := by decide +kernel
theorem d_5_4_4 : decode prog_5_method_4_code 4 = .ok (.ldc2_w 86, 3) := by decide +kernel
theorem d_5_4_7 : decode prog_5_method_4_code 7 = .ok (.invokevirtual 88, 3) := by decide +kernel
theorem d_12_5_0 : decode prog_12_method_5_code 0 = .ok (.aload_n 0, 1) := by decide +kernel
theorem d_12_5_1 : decode prog_12_method_5_code 1 = .ok (.getfield 60, 3) := by decide +kernel
theorem d_12_5_4 : decode prog_12_method_5_code 4 = .ok (.iconst 4, 1) := by decide +kernel
theorem d_12_5_5 : decode prog_12_method_5_code 5 = .ok (.if_icmp .ne 16, 3) := by decide +kernel
theorem d_12_5_21 : decode prog_12_method_5_code 21 = .ok (.iconst 0, 1) := by decide +kernel
theorem d_12_5_22 : decode prog_12_method_5_code 22 = .ok (.ireturn, 1) := by decide +kernel
theorem d_5_4_10 : decode prog_5_method_4_code 10 = .ok (.ifCond .eq 18, 3) := by decide +kernel
theorem d_5_4_28 : decode prog_5_method_4_code 28 = .ok (.aload_n 0, 1) := by decide +kernel
theorem d_5_4_29 : decode prog_5_method_4_code 29 = .ok (.invokevirtual 112, 3) := by decide +kernel
theorem d_5_5_0 : decode prog_5_method_5_code 0 = .ok (.aload_n 0, 1) := by decide +kernel
theorem d_5_5_1 : decode prog_5_method_5_code 1 = .ok (.getfield 48, 3) := by decide +kernel
theorem d_5_5_4 : decode prog_5_method_5_code 4 = .ok (.ldc2_w 116, 3) := by decide +kernel
theorem d_5_5_7 : decode prog_5_method_5_code 7 = .ok (.invokevirtual 88, 3) := by decide +kernel
theorem d_5_5_10 : decode prog_5_method_5_code 10 = .ok (.ifCond .eq 5, 3) := by decide +kernel
theorem d_5_5_15 : decode prog_5_method_5_code 15 = .ok (.aload_n 0, 1) := by decide +kernel
theorem d_5_5_16 : decode prog_5_method_5_code 16 = .ok (.getfield 48, 3) := by decide +kernel
theorem d_5_5_19 : decode prog_5_method_5_code 19 = .ok (.ldc2_w 118, 3) := by decide +kernel
theorem d_5_5_22 : decode prog_5_method_5_code 22 = .ok (.invokevirtual 88, 3) := by decide +kernel
theorem d_5_5_25 : decode prog_5_method_5_code 25 = .ok (.ifCond .eq 5, 3) := by decide +kernel
theorem d_5_5_30 : decode prog_5_method_5_code 30 = .ok (.aload_n 0, 1) := by decide +kernel
theorem d_5_5_31 : decode prog_5_method_5_code 31 = .ok (.getfield 48, 3) := by decide +kernel
theorem d_5_5_34 : decode prog_5_method_5_code 34 = .ok (.ldc2_w 120, 3) := by decide +kernel
theorem d_5_5_37 : decode prog_5_method_5_code 37 = .ok (.invokevirtual 88, 3) := by decide +kernel
theorem d_5_5_40 : decode prog_5_method_5_code 40 = .ok (.ifCond .eq 7, 3) := by decide +kernel
theorem d_5_5_47 : decode prog_5_method_5_code 47 = .ok (.iconst 0, 1) := by decide +kernel
theorem d_5_5_48 : decode prog_5_method_5_code 48 = .ok (.ireturn, 1) := by decide +kernel
theorem d_5_4_32 : decode prog_5_method_4_code 32 = .ok (.ifCond .eq 19, 3) := by decide +kernel
theorem d_5_4_51 : decode prog_5_method_4_code 51 = .ok (.iconst 0, 1) := by decide +kernel
theorem d_5_4_52 : decode prog_5_method_4_code 52 = .ok (.ireturn, 1) := by decide +kernel
theorem d_5_2_58 : decode prog_5_method_2_code 58 = .ok (.ifCond .eq 35, 3) := by decide +kernel
theorem d_5_2_93 : decode prog_5_method_2_code 93 = .ok (.iload_n 3, 1) := by decide +kernel
theorem d_5_2_94 : decode prog_5_method_2_code 94 = .ok (.ifCond .eq 22, 3) := by decide +kernel
theorem d_5_2_97 : decode prog_5_method_2_code 97 = .ok (.aload_n 0, 1) := by decide +kernel
theorem d_5_2_98 : decode prog_5_method_2_code 98 = .ok (.getfield 48, 3) := by decide +kernel
theorem d_5_2_101 : decode prog_5_method_2_code 101 = .ok (.ldc2_w 99, 3) := by decide +kernel
theorem d_5_2_104 : decode prog_5_method_2_code 104 = .ok (.invokevirtual 88, 3) := by decide +kernel
theorem d_5_2_107 : decode prog_5_method_2_code 107 = .ok (.ifCond .ne 9, 3) := by decide +kernel
theorem d_5_2_110 : decode prog_5_method_2_code 110 = .ok (.aload_n 0, 1) := by decide +kernel
theorem d_5_2_111 : decode prog_5_method_2_code 111 = .ok (.iconst 2, 1) := by decide +kernel
theorem d_5_2_112 : decode prog_5_method_2_code 112 = .ok (.invokevirtual 101, 3) := by decide +kernel
theorem d_5_3_0 : decode prog_5_method_3_code 0 = .ok (.aload_n 0, 1) := by decide +kernel
theorem d_5_3_1 : decode prog_5_method_3_code 1 = .ok (.aload_n 0, 1) := by decide +kernel
theorem d_5_3_2 : decode prog_5_method_3_code 2 = .ok (.getfield 48, 3) := by decide +kernel
theorem d_5_3_5 : decode prog_5_method_3_code 5 = .ok (.getfield 108, 3) := by decide +kernel
theorem d_5_3_8 : decode prog_5_method_3_code 8 = .ok (.iconst 1, 1) := by decide +kernel
theorem d_5_3_9 : decode prog_5_method_3_code 9 = .ok (.if_icmp .ne 7, 3) := by decide +kernel
theorem d_5_3_16 : decode prog_5_method_3_code 16 = .ok (.iload_n 1, 1) := by decide +kernel
theorem d_5_3_17 : decode prog_5_method_3_code 17 = .ok (.bipush 16, 2) := by decide +kernel
theorem d_5_3_19 : decode prog_5_method_3_code 19 = .ok (.aload_n 0, 1) := by decide +kernel
theorem d_5_3_20 : decode prog_5_method_3_code 20 = .ok (.getfield 48, 3) := by decide +kernel
theorem d_5_3_23 : decode prog_5_method_3_code 23 = .ok (.getfield 110, 3) := by decide +kernel
theorem d_5_3_26 : decode prog_5_method_3_code 26 = .ok (.imul, 1) := by decide +kernel
theorem d_5_3_27 : decode prog_5_method_3_code 27 = .ok (.iadd, 1) := by decide +kernel
theorem d_5_3_28 : decode prog_5_method_3_code 28 = .ok (.putfield 75, 3) := by decide +kernel
theorem d_5_3_31 : decode prog_5_method_3_code 31 = .ok (.iconst 0, 1) := by decide +kernel
theorem d_5_3_32 : decode prog_5_method_3_code 32 = .ok (.ireturn, 1) := by decide +kernel
theorem d_5_2_115 : decode prog_5_method_2_code 115 = .ok (.istore_n 3, 1) := by decide +kernel
theorem d_5_2_116 : decode prog_5_method_2_code 116 = .ok (.iconst 0, 1) := by decide +kernel
theorem d_5_2_117 : decode prog_5_method_2_code 117 = .ok (.istore 4, 2) := by decide +kernel
theorem d_5_2_119 : decode prog_5_method_2_code 119 = .ok (.iload 4, 2) := by decide +kernel
theorem d_5_2_121 : decode prog_5_method_2_code 121 = .ok (.iconst 4, 1) := by decide +kernel
theorem d_5_2_122 : decode prog_5_method_2_code 122 = .ok (.if_icmp .ge 32, 3) := by decide +kernel
theorem d_5_2_125 : decode prog_5_method_2_code 125 = .ok (.iload_n 3, 1) := by decide +kernel
theorem d_5_2_126 : decode prog_5_method_2_code 126 = .ok (.ifCond .eq 28, 3) := by decide +kernel
theorem d_5_2_154 : decode prog_5_method_2_code 154 = .ok (.iload_n 3, 1) := by decide +kernel
theorem d_5_2_155 : decode prog_5_method_2_code 155 = .ok (.ifCond .eq 19, 3) := by decide +kernel
theorem d_5_2_174 : decode prog_5_method_2_code 174 = .ok (.aload_n 0, 1) := by decide +kernel
theorem d_5_2_175 : decode prog_5_method_2_code 175 = .ok (.getfield 75, 3) := by decide +kernel
theorem d_5_2_178 : decode prog_5_method_2_code 178 = .ok (.ireturn, 1) := by decide +kernel
theorem d_1_5_51 : decode prog_1_method_5_code 51 = .ok (.istore_n 2, 1) := by decide +kernel
theorem d_1_5_52 : decode prog_1_method_5_code 52 = .ok (.iconst 0, 1) := by decide +kernel
theorem d_1_5_53 : decode prog_1_method_5_code 53 = .ok (.istore_n 3, 1) := by decide +kernel
theorem d_1_5_54 : decode prog_1_method_5_code 54 = .ok (.iload_n 3, 1) := by decide +kernel
theorem d_1_5_55 : decode prog_1_method_5_code 55 = .ok (.aload_n 0, 1) := by decide +kernel
theorem d_1_5_56 : decode prog_1_method_5_code 56 = .ok (.getfield 63, 3) := by decide +kernel
theorem d_1_5_59 : decode prog_1_method_5_code 59 = .ok (.getfield 75, 3) := by decide +kernel
theorem d_1_5_62 : decode prog_1_method_5_code 62 = .ok (.if_icmp .ge 59, 3) := by decide +kernel
theorem d_1_5_121 : decode prog_1_method_5_code 121 = .ok (.aload_n 0, 1) := by decide +kernel
theorem d_1_5_122 : decode prog_1_method_5_code 122 = .ok (.getfield 14, 3) := by decide +kernel
theorem d_1_5_125 : decode prog_1_method_5_code 125 = .ok (.invokevirtual 92, 3) := by decide +kernel
theorem d_2_2_0 : decode prog_2_method_2_code 0 = .ok (.aload_n 0, 1) := by decide +kernel
theorem d_2_2_1 : decode prog_2_method_2_code 1 = .ok (.iconst 0, 1) := by decide +kernel
theorem d_2_2_2 : decode prog_2_method_2_code 2 = .ok (.putfield 21, 3) := by decide +kernel
theorem d_2_2_5 : decode prog_2_method_2_code 5 = .ok (.aload_n 0, 1) := by decide +kernel
theorem d_2_2_6 : decode prog_2_method_2_code 6 = .ok (.iconst 0, 1) := by decide +kernel
theorem d_2_2_7 : decode prog_2_method_2_code 7 = .ok (.putfield 25, 3) := by decide +kernel
theorem d_2_2_10 : decode prog_2_method_2_code 10 = .ok (.return_, 1) := by decide +kernel
theorem d_1_5_128 : decode prog_1_method_5_code 128 = .ok (.iload_n 2, 1) := by decide +kernel
theorem d_1_5_129 : decode prog_1_method_5_code 129 = .ok (.ifCond .ne 11, 3) := by decide +kernel
theorem d_1_5_140 : decode prog_1_method_5_code 140 = .ok (.iload_n 2, 1) := by decide +kernel
theorem d_1_5_141 : decode prog_1_method_5_code 141 = .ok (.ifCond .eq 5, 3) := by decide +kernel
theorem d_1_5_144 : decode prog_1_method_5_code 144 = .ok (.iload_n 2, 1) := by decide +kernel
theorem d_1_5_145 : decode prog_1_method_5_code 145 = .ok (.ireturn, 1) := by decide +kernel
set_option maxRecDepth 20000 in
theorem inW_6 : ∀ w ∈ u_ws RX6 TX6 14, w ∈ wAll := by
  show ∀ w ∈ [(Jvm.Cond.laysFinal "StaveHouse$Piece" "StaveHouse$Piece" "parts" "[LStaveHouse$Part;"), (Jvm.Cond.lays "StaveHouse$Piece" "StaveHouse$Piece" "partCount" "I"), (Jvm.Cond.lays "StaveHouse$Piece" "StaveHouse$Piece" "fifths" "I"), (Jvm.Cond.lays "StaveHouse$Piece" "StaveHouse$Piece" "minor" "I"), (Jvm.Cond.lays "StaveHouse$Piece" "StaveHouse$Piece" "above" "I"), (Jvm.Cond.lays "StaveHouse$Piece" "StaveHouse$Piece" "below" "I"), (Jvm.Cond.lays "StaveHouse$Piece" "StaveHouse$Piece" "tempo" "I"), (Jvm.Cond.lays "StaveHouse$Piece" "StaveHouse$Piece" "bars" "I"), (Jvm.Cond.lays "StaveHouse$Piece" "StaveHouse$Piece" "layout" "LStaveHouse$Layout;"), (Jvm.Cond.lays "StaveHouse$Piece" "StaveHouse$Piece" "performance" "LStaveHouse$Performance;"), (Jvm.Cond.lays "StaveHouse$Piece" "StaveHouse$Piece" "performed" "Z"), (Jvm.Cond.lays "StaveHouse$Piece" "StaveHouse$Piece" "sounded" "Z"), (Jvm.Cond.lays "StaveHouse$Piece" "StaveHouse$Piece" "study" "LStaveHouse$Study;"), (Jvm.Cond.lays "StaveHouse$Piece" "StaveHouse$Piece" "studied" "Z")], w ∈ wAll
  exact List.forall_mem_cons.mpr ⟨k_2_233, List.forall_mem_cons.mpr ⟨k_2_235, List.forall_mem_cons.mpr ⟨k_2_237, List.forall_mem_cons.mpr ⟨k_2_239, List.forall_mem_cons.mpr ⟨k_3_1, List.forall_mem_cons.mpr ⟨k_3_3, List.forall_mem_cons.mpr ⟨k_3_5, List.forall_mem_cons.mpr ⟨k_3_7, List.forall_mem_cons.mpr ⟨k_3_9, List.forall_mem_cons.mpr ⟨k_3_11, List.forall_mem_cons.mpr ⟨k_3_13, List.forall_mem_cons.mpr ⟨k_3_15, List.forall_mem_cons.mpr ⟨k_3_17, List.forall_mem_cons.mpr ⟨k_3_19, fun _ h => absurd h List.not_mem_nil⟩⟩⟩⟩⟩⟩⟩⟩⟩⟩⟩⟩⟩⟩
abbrev Q_Piece_init_0 (D : va_G) (ca : Nat → ClassId) (a0 : Nat) (g0 : Nat → Value) (A : Nat → Prop) : Array Value → State → Outcome → State → Prop := va_Qv (S := (Nat → Value)) (fun (u : (Nat → Value)) => gM g0 u [0] ∧ gF u []) (fun u => gB D ca A [(a0, .inr (6, rg 14 u))]) A
set_option maxHeartbeats 8000000 in
set_option maxRecDepth 100000 in
theorem c_Piece_init_0 (l : Launch) (D : va_G) (ca : Nat → ClassId) (ad av : Nat → Nat) (sz : Nat) (a0 : Nat) (g0 : Nat → Value) (hp0 : gF g0 []) : Met l ({ cls := "StaveHouse$Piece", name := "<init>", desc := "()V" } : Jvm.MethodName) (Cond.code ({ cls := "StaveHouse$Piece", name := "<init>", desc := "()V" } : Jvm.MethodName) prog_8_method_1_code 1 (Option.none : Option Jvm.ClassFile.FieldType) :: wAll) ({ frames := 1, cells := 1, slots := 4, locals := 12 } : Room) (va_Pc [.ref a0] (gPre D ca ad av [(a0, .inr (6, rg 14 g0))] sz)) (Q_Piece_init_0 D ca a0 g0 (va_A [(a0, .inr (6, rg 14 g0))] sz)) 1 4 (va_A [(a0, .inr (6, rg 14 g0))] sz) := by
  refine gMet (Qc := Q_Piece_init_0 D ca a0 g0) (lv := [(0, .ref a0)]) (by decide) (Nat.le_of_ble_eq_true rfl) rfl (fun A p e s m below meth c ls hx hb hr hml hown hts hlk hnm hl hP hK hD hS hA hX => ?_)
  have hown : s.vm.findClass "StaveHouse$Piece" = some m.cls := hown
  have hnm : meth.name = "<init>" := hnm
  refine lv_aload_n hx hb d_8_1_0 rfl (lv_at hl 0 rfl) ?_
  refine W.objInit hx hb hown (hts _ k_2_182) (hts _ k_1_30) (hts _ k_1_31) rfl (by rw [hml]; exact hl.1) rfl d_8_1_1 (Nat.le_of_ble_eq_true rfl) (Nat.le_of_ble_eq_true rfl) ?_
  refine W.eq (g2 := F0 m 4 ls []) rfl ?_
  refine lv_aload_n hx hb d_8_1_4 rfl (lv_at hl 0 rfl) ?_
  refine lv_iconst (v := 4) hx hb d_8_1_5 (by decide) ?_
  refine gnewqX hx hb hts hown k_2_183 (hX.2.1 _ (List.mem_of_getElem? (i := 1) rfl)) hK hP hD hS hA (by decide) (N' := 4) (by decide) (Nat.le_of_ble_eq_true rfl) (Nat.le_of_ble_eq_true rfl) (Nat.le_of_ble_eq_true rfl) d_8_1_6 (fun q1 H1 hP1 hS1 => ?_)
  refine W.widen (k := 1) (n := 4) (Nat.le_of_ble_eq_true rfl) (Nat.le_of_ble_eq_true rfl) ?_
  refine gputFX hx hb hts inW_6 tyX6 tyX6_ok nmX6 hown hK hP1 hD hS1 0 rfl rfl hp0 0 (by decide) k_2_185 rfl hnm rfl rfl rfl d_8_1_9 (L' := []) rfl (fun f2 H2 locs2 hF2 hm2 hP2 hD2 hS2 => ?_)
  have hM2 := gM.tr (gM.rf (f := g0)) hm2
  have hP2 : va_P D cls [(a0, .inr (6, rg 14 f2))] H2 := hP2
  have hD2 : va_D A [(a0, .inr (6, rg 14 f2))] := hD2
  clear hP1 hS1 hm2
  have hP9 := hP2.sub (ws' := [(a0, .inr (6, rg 14 f2))]) [0] rfl
  have hD9 := hD2.sub (ws' := [(a0, .inr (6, rg 14 f2))]) [0] (by decide) rfl
  refine W.widen (k := 1) (n := 4) (Nat.le_of_ble_eq_true rfl) (Nat.le_of_ble_eq_true rfl) ?_
  exact W.vret hx hb hr (fun t ht hW => ⟨⟨(f2), rfl, ⟨hM2.mono (by decide), hF2.sub [] rfl⟩, by rw [ht]; exact hP9, va_K.moved hW.alike hK, hD9⟩, hS2.F ht⟩) hS2.2.2 d_8_1_12
abbrev Q_Piece_clear_0 (D : va_G) (ca : Nat → ClassId) (a0 : Nat) (g0 : Nat → Value) (A : Nat → Prop) : Array Value → State → Outcome → State → Prop := va_Qv (S := (Nat → Value)) (fun (u : (Nat → Value)) => gM g0 u [13, 11, 10, 7, 6, 5, 4, 3, 2, 1] ∧ gF u [(1, .int 0)]) (fun u => gB D ca A [(a0, .inr (6, rg 14 u))]) A
set_option maxHeartbeats 8000000 in
set_option maxRecDepth 100000 in
theorem c_Piece_clear_0 (l : Launch) (D : va_G) (ca : Nat → ClassId) (ad av : Nat → Nat) (sz : Nat) (a0 : Nat) (g0 : Nat → Value) (hp0 : gF g0 [(8, .null)]) : Met l ({ cls := "StaveHouse$Piece", name := "clear", desc := "()V" } : Jvm.MethodName) (Cond.code ({ cls := "StaveHouse$Piece", name := "clear", desc := "()V" } : Jvm.MethodName) prog_8_method_2_code 1 (Option.none : Option Jvm.ClassFile.FieldType) :: wAll) ({ frames := 0, cells := 0, slots := 0, locals := 0 } : Room) (va_Pc [.ref a0] (gPre D ca ad av [(a0, .inr (6, rg 14 g0))] sz)) (Q_Piece_clear_0 D ca a0 g0 (va_A [(a0, .inr (6, rg 14 g0))] sz)) 0 0 (va_A [(a0, .inr (6, rg 14 g0))] sz) := by
  refine gMet (Qc := Q_Piece_clear_0 D ca a0 g0) (lv := [(0, .ref a0)]) (by decide) (Nat.le_of_ble_eq_true rfl) rfl (fun A p e s m below meth c ls hx hb hr hml hown hts hlk hnm hl hP hK hD hS hA hX => ?_)
  have hown : s.vm.findClass "StaveHouse$Piece" = some m.cls := hown
  have hnm : meth.name = "clear" := hnm
  refine lv_aload_n hx hb d_8_2_0 rfl (lv_at hl 0 rfl) ?_
  refine lv_iconst (v := 0) hx hb d_8_2_1 (by decide) ?_
  refine gput hx hb hts inW_6 tyX6 tyX6_ok nmX6 hown hK hP hD hS 0 rfl rfl hp0 1 (by decide) k_2_190 rfl rfl rfl d_8_2_2 (L' := [(1, .int 0), (8, .null)]) rfl (fun f1 H1 locs1 hF1 hm1 hP1 hD1 hS1 => ?_)
  have hM1 := gM.tr (gM.rf (f := g0)) hm1
  have hP1 : va_P D cls [(a0, .inr (6, rg 14 f1))] H1 := hP1
  have hD1 : va_D A [(a0, .inr (6, rg 14 f1))] := hD1
  clear hm1
  refine lv_aload_n hx hb d_8_2_5 rfl (lv_at hl 0 rfl) ?_
  refine lv_iconst (v := 0) hx hb d_8_2_6 (by decide) ?_
  refine gputX hx hb hts inW_6 tyX6 tyX6_ok nmX6 hown hK hP1 hD1 hS1 0 rfl rfl hF1 2 (by decide) k_2_195 rfl rfl rfl d_8_2_7 (L' := [(1, .int 0), (8, .null)]) rfl (fun f2 H2 locs2 hF2 hm2 hP2 hD2 hS2 => ?_)
  have hM2 := gM.tr hM1 hm2
  have hP2 : va_P D cls [(a0, .inr (6, rg 14 f2))] H2 := hP2
  have hD2 : va_D A [(a0, .inr (6, rg 14 f2))] := hD2
  clear hP1 hD1 hS1 hF1 hM1 hm2
  refine lv_aload_n hx hb d_8_2_10 rfl (lv_at hl 0 rfl) ?_
  refine lv_iconst (v := 0) hx hb d_8_2_11 (by decide) ?_
  refine gputX hx hb hts inW_6 tyX6 tyX6_ok nmX6 hown hK hP2 hD2 hS2 0 rfl rfl hF2 3 (by decide) k_2_202 rfl rfl rfl d_8_2_12 (L' := [(1, .int 0), (8, .null)]) rfl (fun f3 H3 locs3 hF3 hm3 hP3 hD3 hS3 => ?_)
  have hM3 := gM.tr hM2 hm3
  have hP3 : va_P D cls [(a0, .inr (6, rg 14 f3))] H3 := hP3
  have hD3 : va_D A [(a0, .inr (6, rg 14 f3))] := hD3
  clear hP2 hD2 hS2 hF2 hM2 hm3
  refine lv_aload_n hx hb d_8_2_15 rfl (lv_at hl 0 rfl) ?_
  refine lv_iconst (v := 4) hx hb d_8_2_16 (by decide) ?_
  refine gputX hx hb hts inW_6 tyX6 tyX6_ok nmX6 hown hK hP3 hD3 hS3 0 rfl rfl hF3 4 (by decide) k_2_207 rfl rfl rfl d_8_2_17 (L' := [(1, .int 0), (8, .null)]) rfl (fun f4 H4 locs4 hF4 hm4 hP4 hD4 hS4 => ?_)
  have hM4 := gM.tr hM3 hm4
  have hP4 : va_P D cls [(a0, .inr (6, rg 14 f4))] H4 := hP4
  have hD4 : va_D A [(a0, .inr (6, rg 14 f4))] := hD4
  clear hP3 hD3 hS3 hF3 hM3 hm4
  refine lv_aload_n hx hb d_8_2_20 rfl (lv_at hl 0 rfl) ?_
  refine lv_iconst (v := 4) hx hb d_8_2_21 (by decide) ?_
  refine gputX hx hb hts inW_6 tyX6 tyX6_ok nmX6 hown hK hP4 hD4 hS4 0 rfl rfl hF4 5 (by decide) k_2_212 rfl rfl rfl d_8_2_22 (L' := [(1, .int 0), (8, .null)]) rfl (fun f5 H5 locs5 hF5 hm5 hP5 hD5 hS5 => ?_)
  have hM5 := gM.tr hM4 hm5
  have hP5 : va_P D cls [(a0, .inr (6, rg 14 f5))] H5 := hP5
  have hD5 : va_D A [(a0, .inr (6, rg 14 f5))] := hD5
  clear hP4 hD4 hS4 hF4 hM4 hm5
  refine lv_aload_n hx hb d_8_2_25 rfl (lv_at hl 0 rfl) ?_
  refine lv_bipush (v := 120) hx hb d_8_2_26 (by decide) ?_
  refine gputX hx hb hts inW_6 tyX6 tyX6_ok nmX6 hown hK hP5 hD5 hS5 0 rfl rfl hF5 6 (by decide) k_2_217 rfl rfl rfl d_8_2_28 (L' := [(1, .int 0), (8, .null)]) rfl (fun f6 H6 locs6 hF6 hm6 hP6 hD6 hS6 => ?_)
  have hM6 := gM.tr hM5 hm6
  have hP6 : va_P D cls [(a0, .inr (6, rg 14 f6))] H6 := hP6
  have hD6 : va_D A [(a0, .inr (6, rg 14 f6))] := hD6
  clear hP5 hD5 hS5 hF5 hM5 hm6
  refine lv_aload_n hx hb d_8_2_31 rfl (lv_at hl 0 rfl) ?_
  refine lv_iconst (v := 0) hx hb d_8_2_32 (by decide) ?_
  refine gputX hx hb hts inW_6 tyX6 tyX6_ok nmX6 hown hK hP6 hD6 hS6 0 rfl rfl hF6 7 (by decide) k_2_222 rfl rfl rfl d_8_2_33 (L' := [(1, .int 0), (8, .null)]) rfl (fun f7 H7 locs7 hF7 hm7 hP7 hD7 hS7 => ?_)
  have hM7 := gM.tr hM6 hm7
  have hP7 : va_P D cls [(a0, .inr (6, rg 14 f7))] H7 := hP7
  have hD7 : va_D A [(a0, .inr (6, rg 14 f7))] := hD7
  clear hP6 hD6 hS6 hF6 hM6 hm7
  refine lv_aload_n hx hb d_8_2_36 rfl (lv_at hl 0 rfl) ?_
  refine lv_iconst (v := 0) hx hb d_8_2_37 (by decide) ?_
  refine gputX hx hb hts inW_6 tyX6 tyX6_ok nmX6 hown hK hP7 hD7 hS7 0 rfl rfl hF7 10 (by decide) k_2_228 rfl rfl rfl d_8_2_38 (L' := [(1, .int 0), (8, .null)]) rfl (fun f8 H8 locs8 hF8 hm8 hP8 hD8 hS8 => ?_)
  have hM8 := gM.tr hM7 hm8
  have hP8 : va_P D cls [(a0, .inr (6, rg 14 f8))] H8 := hP8
  have hD8 : va_D A [(a0, .inr (6, rg 14 f8))] := hD8
  clear hP7 hD7 hS7 hF7 hM7 hm8
  refine lv_aload_n hx hb d_8_2_41 rfl (lv_at hl 0 rfl) ?_
  refine lv_iconst (v := 0) hx hb d_8_2_42 (by decide) ?_
  refine gputX hx hb hts inW_6 tyX6 tyX6_ok nmX6 hown hK hP8 hD8 hS8 0 rfl rfl hF8 11 (by decide) k_2_230 rfl rfl rfl d_8_2_43 (L' := [(1, .int 0), (8, .null)]) rfl (fun f9 H9 locs9 hF9 hm9 hP9 hD9 hS9 => ?_)
  have hM9 := gM.tr hM8 hm9
  have hP9 : va_P D cls [(a0, .inr (6, rg 14 f9))] H9 := hP9
  have hD9 : va_D A [(a0, .inr (6, rg 14 f9))] := hD9
  clear hP8 hD8 hS8 hF8 hM8 hm9
  refine lv_aload_n hx hb d_8_2_46 rfl (lv_at hl 0 rfl) ?_
  refine lv_iconst (v := 0) hx hb d_8_2_47 (by decide) ?_
  refine gputX hx hb hts inW_6 tyX6 tyX6_ok nmX6 hown hK hP9 hD9 hS9 0 rfl rfl hF9 13 (by decide) k_2_232 rfl rfl rfl d_8_2_48 (L' := [(1, .int 0), (8, .null)]) rfl (fun f10 H10 locs10 hF10 hm10 hP10 hD10 hS10 => ?_)
  have hM10 := gM.tr hM9 hm10
  have hP10 : va_P D cls [(a0, .inr (6, rg 14 f10))] H10 := hP10
  have hD10 : va_D A [(a0, .inr (6, rg 14 f10))] := hD10
  clear hP9 hD9 hS9 hF9 hM9 hm10
  refine lv_aload_n hx hb d_8_2_51 rfl (lv_at hl 0 rfl) ?_
  refine gget hx hb hts inW_6 hown hK hP10 0 rfl rfl hF10 1 rfl (by decide) k_2_224 d_8_2_52 ?_
  refine lv_ifnullN (tgt := 66) hx hb d_8_2_55 (by decide) ?_
  have hP9 := hP10.sub (ws' := [(a0, .inr (6, rg 14 f10))]) [0] rfl
  have hD9 := hD10.sub (ws' := [(a0, .inr (6, rg 14 f10))]) [0] (by decide) rfl
  refine W.widen (k := 0) (n := 0) (Nat.le_of_ble_eq_true rfl) (Nat.le_of_ble_eq_true rfl) ?_
  exact W.vret hx hb hr (fun t ht hW => ⟨⟨(f10), rfl, ⟨hM10.mono (by decide), hF10.sub [0] rfl⟩, by rw [ht]; exact hP9, va_K.moved hW.alike hK, hD9⟩, hS10.F ht⟩) hS10.2.2 d_8_2_66
abbrev Q_Tokens_advance_0 (D : va_G) (ca : Nat → ClassId) (a0 : Nat) (a1 : Nat) (a2 : Nat) (a3 : Nat) (g0 : Nat → Value) (g1 : Nat → Int64) (g2 : Nat → Int32) (g3 : Nat → Int32) (A : Nat → Prop) : Array Value → State → Outcome → State → Prop := va_Qv (S := (Nat → Value)) (fun (u : (Nat → Value)) => gM g0 u [2, 1, 0] ∧ gF u [(1, .int 0), (0, .int 0)]) (fun u => gB D ca A [(a0, .inr (10, rg 9 u)), (a1, .inl (ca 1, 3001, .inr (.inl g1))), (a2, .inl (ca 0, 3001, .inl g2)), (a3, .inl (ca 0, 3001, .inl g3))]) A
set_option maxHeartbeats 8000000 in
set_option maxRecDepth 100000 in
theorem c_Tokens_advance_0 (l : Launch) (D : va_G) (ca : Nat → ClassId) (ad av : Nat → Nat) (sz : Nat) (a0 : Nat) (a1 : Nat) (a2 : Nat) (a3 : Nat) (g0 : Nat → Value) (g1 : Nat → Int64) (g2 : Nat → Int32) (g3 : Nat → Int32) (hp0 : gF g0 [(8, .int 0), (7, .ref a1), (6, .ref a2), (5, .ref a3)]) (hp1 : gF g1 []) (hp2 : gF g2 [(0, 0)]) (hp3 : gF g3 [(0, 0)]) : Met l ({ cls := "StaveHouse$Tokens", name := "advance", desc := "()V" } : Jvm.MethodName) (Cond.code ({ cls := "StaveHouse$Tokens", name := "advance", desc := "()V" } : Jvm.MethodName) prog_12_method_3_code 1 (Option.none : Option Jvm.ClassFile.FieldType) :: wAll) ({ frames := 0, cells := 0, slots := 0, locals := 0 } : Room) (va_Pc [.ref a0] (gPre D ca ad av [(a0, .inr (10, rg 9 g0)), (a1, .inl (ca 1, 3001, .inr (.inl g1))), (a2, .inl (ca 0, 3001, .inl g2)), (a3, .inl (ca 0, 3001, .inl g3))] sz)) (Q_Tokens_advance_0 D ca a0 a1 a2 a3 g0 g1 g2 g3 (va_A [(a0, .inr (10, rg 9 g0)), (a1, .inl (ca 1, 3001, .inr (.inl g1))), (a2, .inl (ca 0, 3001, .inl g2)), (a3, .inl (ca 0, 3001, .inl g3))] sz)) 0 0 (va_A [(a0, .inr (10, rg 9 g0)), (a1, .inl (ca 1, 3001, .inr (.inl g1))), (a2, .inl (ca 0, 3001, .inl g2)), (a3, .inl (ca 0, 3001, .inl g3))] sz) := by
  refine gMet (Qc := Q_Tokens_advance_0 D ca a0 a1 a2 a3 g0 g1 g2 g3) (lv := [(0, .ref a0)]) (by decide) (Nat.le_of_ble_eq_true rfl) rfl (fun A p e s m below meth c ls hx hb hr hml hown hts hlk hnm hl hP hK hD hS hA hX => ?_)
  have hown : s.vm.findClass "StaveHouse$Tokens" = some m.cls := hown
  have hnm : meth.name = "advance" := hnm
  refine lv_aload_n hx hb d_12_3_0 rfl (lv_at hl 0 rfl) ?_
  refine lv_aload_n hx hb d_12_3_1 rfl (lv_at hl 0 rfl) ?_
  refine gget hx hb hts inW_10 hown hK hP 0 rfl rfl hp0 3 rfl (by decide) k_1_82 d_12_3_2 ?_
  refine lv_aload_n hx hb d_12_3_5 rfl (lv_at hl 0 rfl) ?_
  refine gget hx hb hts inW_10 hown hK hP 0 rfl rfl hp0 0 rfl (by decide) k_1_85 d_12_3_6 ?_
  refine gald hx hb hK hP 3 0 rfl rfl hp3 0 rfl (by decide) (vinC (by decide)) d_12_3_9 ?_
  refine gput hx hb hts inW_10 tyX10 tyX10_ok nmX10 hown hK hP hD hS 0 rfl rfl hp0 0 (by decide) k_1_73 rfl rfl rfl d_12_3_10 (L' := [(0, .int 0), (8, .int 0), (7, .ref a1), (6, .ref a2), (5, .ref a3)]) rfl (fun f1 H1 locs1 hF1 hm1 hP1 hD1 hS1 => ?_)
  have hM1 := gM.tr (gM.rf (f := g0)) hm1
  have hP1 : va_P D cls [(a0, .inr (10, rg 9 f1)), (a1, .inl (ca 1, 3001, .inr (.inl g1))), (a2, .inl (ca 0, 3001, .inl g2)), (a3, .inl (ca 0, 3001, .inl g3))] H1 := hP1
  have hD1 : va_D A [(a0, .inr (10, rg 9 f1)), (a1, .inl (ca 1, 3001, .inr (.inl g1))), (a2, .inl (ca 0, 3001, .inl g2)), (a3, .inl (ca 0, 3001, .inl g3))] := hD1
  clear hm1
  refine lv_aload_n hx hb d_12_3_13 rfl (lv_at hl 0 rfl) ?_
  refine lv_aload_n hx hb d_12_3_14 rfl (lv_at hl 0 rfl) ?_
  refine gget hx hb hts inW_10 hown hK hP1 0 rfl rfl hF1 3 rfl (by decide) k_1_83 d_12_3_15 ?_
  refine lv_aload_n hx hb d_12_3_18 rfl (lv_at hl 0 rfl) ?_
  refine gget hx hb hts inW_10 hown hK hP1 0 rfl rfl hF1 1 rfl (by decide) k_1_85 d_12_3_19 ?_
  refine gald hx hb hK hP1 2 0 rfl rfl hp2 0 rfl (by decide) (vinC (by decide)) d_12_3_22 ?_
  refine gput hx hb hts inW_10 tyX10 tyX10_ok nmX10 hown hK hP1 hD1 hS1 0 rfl rfl hF1 1 (by decide) k_1_74 rfl rfl rfl d_12_3_23 (L' := [(1, .int 0), (0, .int 0), (8, .int 0), (7, .ref a1), (6, .ref a2), (5, .ref a3)]) rfl (fun f2 H2 locs2 hF2 hm2 hP2 hD2 hS2 => ?_)
  have hM2 := gM.tr hM1 hm2
  have hP2 : va_P D cls [(a0, .inr (10, rg 9 f2)), (a1, .inl (ca 1, 3001, .inr (.inl g1))), (a2, .inl (ca 0, 3001, .inl g2)), (a3, .inl (ca 0, 3001, .inl g3))] H2 := hP2
  have hD2 : va_D A [(a0, .inr (10, rg 9 f2)), (a1, .inl (ca 1, 3001, .inr (.inl g1))), (a2, .inl (ca 0, 3001, .inl g2)), (a3, .inl (ca 0, 3001, .inl g3))] := hD2
  clear hP1 hD1 hS1 hF1 hM1 hm2
  refine lv_aload_n hx hb d_12_3_26 rfl (lv_at hl 0 rfl) ?_
  refine lv_aload_n hx hb d_12_3_27 rfl (lv_at hl 0 rfl) ?_
  refine gget hx hb hts inW_10 hown hK hP2 0 rfl rfl hF2 3 rfl (by decide) k_1_84 d_12_3_28 ?_
  refine lv_aload_n hx hb d_12_3_31 rfl (lv_at hl 0 rfl) ?_
  refine gget hx hb hts inW_10 hown hK hP2 0 rfl rfl hF2 2 rfl (by decide) k_1_85 d_12_3_32 ?_
  refine glaldX hx hb hK hP2 1 1 rfl rfl (vinC (by decide)) d_12_3_35 (fun y3 => ?_)
  refine gput hx hb hts inW_10 tyX10 tyX10_ok nmX10 hown hK hP2 hD2 hS2 0 rfl rfl hF2 2 (by decide) k_1_76 rfl rfl rfl d_12_3_36 (L' := [(2, .long y3), (1, .int 0), (0, .int 0), (8, .int 0), (7, .ref a1), (6, .ref a2), (5, .ref a3)]) rfl (fun f4 H4 locs4 hF4 hm4 hP4 hD4 hS4 => ?_)
  have hM4 := gM.tr hM2 hm4
  have hP4 : va_P D cls [(a0, .inr (10, rg 9 f4)), (a1, .inl (ca 1, 3001, .inr (.inl g1))), (a2, .inl (ca 0, 3001, .inl g2)), (a3, .inl (ca 0, 3001, .inl g3))] H4 := hP4
  have hD4 : va_D A [(a0, .inr (10, rg 9 f4)), (a1, .inl (ca 1, 3001, .inr (.inl g1))), (a2, .inl (ca 0, 3001, .inl g2)), (a3, .inl (ca 0, 3001, .inl g3))] := hD4
  clear hP2 hD2 hS2 hF2 hM2 hm4
  refine lv_aload_n hx hb d_12_3_39 rfl (lv_at hl 0 rfl) ?_
  refine gget hx hb hts inW_10 hown hK hP4 0 rfl rfl hF4 2 rfl (by decide) k_1_73 d_12_3_40 ?_
  refine lv_iconst (v := 2) hx hb d_12_3_43 (by decide) ?_
  refine lv_icmp_ne (tgt := 73) hx hb d_12_3_44 (by decide) (fun _ => ?_) (fun c => absurd c (by decide))
  refine lv_aload_n hx hb d_12_3_73 rfl (lv_at hl 0 rfl) ?_
  refine gget hx hb hts inW_10 hown hK hP4 0 rfl rfl hF4 2 rfl (by decide) k_1_73 d_12_3_74 ?_
  refine lv_if_eq (tgt := 100) hx hb d_12_3_77 (by decide) (fun _ => ?_) (fun c => absurd (by decide) c)
  have hP9 := hP4.sub (ws' := [(a0, .inr (10, rg 9 f4)), (a1, .inl (ca 1, 3001, .inr (.inl g1))), (a2, .inl (ca 0, 3001, .inl g2)), (a3, .inl (ca 0, 3001, .inl g3))]) [0, 1, 2, 3] rfl
  have hD9 := hD4.sub (ws' := [(a0, .inr (10, rg 9 f4)), (a1, .inl (ca 1, 3001, .inr (.inl g1))), (a2, .inl (ca 0, 3001, .inl g2)), (a3, .inl (ca 0, 3001, .inl g3))]) [0, 1, 2, 3] (by decide) rfl
  refine W.widen (k := 0) (n := 0) (Nat.le_of_ble_eq_true rfl) (Nat.le_of_ble_eq_true rfl) ?_
  exact W.vret hx hb hr (fun t ht hW => ⟨⟨(f4), rfl, ⟨hM4.mono (by decide), hF4.sub [1, 2] rfl⟩, by rw [ht]; exact hP9, va_K.moved hW.alike hK, hD9⟩, hS4.F ht⟩) hS4.2.2 d_12_3_100
abbrev Q_Tokens_start_0 (D : va_G) (ca : Nat → ClassId) (a0 : Nat) (a1 : Nat) (a2 : Nat) (a3 : Nat) (a4 : Nat) (g0 : Nat → Value) (g1 : Nat → Value) (g2 : Nat → Int64) (g3 : Nat → Int32) (g4 : Nat → Int32) (A : Nat → Prop) : Array Value → State → Outcome → State → Prop := va_Qv (S := (Nat → Value) × (Nat → Int64) × (Nat → Int32) × (Nat → Int32)) (fun (u : (Nat → Value) × (Nat → Int64) × (Nat → Int32) × (Nat → Int32)) => gM g0 u.1 [2, 1, 0, 8] ∧ gF u.1 [(1, .int 0), (0, .int 0), (8, .int 0)] ∧ gF u.2.1 [] ∧ gF u.2.2.1 [(0, 0)] ∧ gF u.2.2.2 [(0, 0)]) (fun u => gB D ca A [(a0, .inr (10, rg 9 u.1)), (a1, .inr (0, rg 3 g1)), (a2, .inl (ca 1, 3001, .inr (.inl u.2.1))), (a3, .inl (ca 0, 3001, .inl u.2.2.1)), (a4, .inl (ca 0, 3001, .inl u.2.2.2))]) A
set_option maxHeartbeats 8000000 in
set_option maxRecDepth 100000 in
theorem c_Tokens_start_0 (l : Launch) (D : va_G) (ca : Nat → ClassId) (ad av : Nat → Nat) (sz : Nat) (a0 : Nat) (a1 : Nat) (a2 : Nat) (a3 : Nat) (a4 : Nat) (g0 : Nat → Value) (g1 : Nat → Value) (g2 : Nat → Int64) (g3 : Nat → Int32) (g4 : Nat → Int32) (hp0 : gF g0 [(7, .ref a2), (6, .ref a3), (5, .ref a4)]) (hp1 : gF g1 [(1, .int 0)]) (hp2 : gF g2 []) (hp3 : gF g3 []) (hp4 : gF g4 []) : Met l ({ cls := "StaveHouse$Tokens", name := "start", desc := "(LStaveHouse$ByteRow;)V" } : Jvm.MethodName) (Cond.code ({ cls := "StaveHouse$Tokens", name := "start", desc := "(LStaveHouse$ByteRow;)V" } : Jvm.MethodName) prog_12_method_2_code 7 (Option.none : Option Jvm.ClassFile.FieldType) :: wAll) ({ frames := 1, cells := 0, slots := 0, locals := 20 } : Room) (va_Pc [.ref a0, .ref a1] (gPre D ca ad av [(a0, .inr (10, rg 9 g0)), (a1, .inr (0, rg 3 g1)), (a2, .inl (ca 1, 3001, .inr (.inl g2))), (a3, .inl (ca 0, 3001, .inl g3)), (a4, .inl (ca 0, 3001, .inl g4))] sz)) (Q_Tokens_start_0 D ca a0 a1 a2 a3 a4 g0 g1 g2 g3 g4 (va_A [(a0, .inr (10, rg 9 g0)), (a1, .inr (0, rg 3 g1)), (a2, .inl (ca 1, 3001, .inr (.inl g2))), (a3, .inl (ca 0, 3001, .inl g3)), (a4, .inl (ca 0, 3001, .inl g4))] sz)) 0 0 (va_A [(a0, .inr (10, rg 9 g0)), (a1, .inr (0, rg 3 g1)), (a2, .inl (ca 1, 3001, .inr (.inl g2))), (a3, .inl (ca 0, 3001, .inl g3)), (a4, .inl (ca 0, 3001, .inl g4))] sz) := by
  refine gMet (Qc := Q_Tokens_start_0 D ca a0 a1 a2 a3 a4 g0 g1 g2 g3 g4) (lv := [(0, .ref a0), (1, .ref a1)]) (by decide) (Nat.le_of_ble_eq_true rfl) rfl (fun A p e s m below meth c ls hx hb hr hml hown hts hlk hnm hl hP hK hD hS hA hX => ?_)
  have hown : s.vm.findClass "StaveHouse$Tokens" = some m.cls := hown
  have hnm : meth.name = "start" := hnm
  refine lv_iconst (v := 0) hx hb d_12_2_0 (by decide) ?_
  refine lv_istore_n (lv' := [(2, .int 0), (0, .ref a0), (1, .ref a1)]) hx hb d_12_2_1 rfl hl (by decide) rfl (fun ls hl => ?_)
  refine lv_iconst (v := 0) hx hb d_12_2_2 (by decide) ?_
  refine lv_istore_n (lv' := [(3, .int 0), (2, .int 0), (0, .ref a0), (1, .ref a1)]) hx hb d_12_2_3 rfl hl (by decide) rfl (fun ls hl => ?_)
  refine lv_iconst (v := 0) hx hb d_12_2_4 (by decide) ?_
  refine lv_istore (lv' := [(4, .int 0), (3, .int 0), (2, .int 0), (0, .ref a0), (1, .ref a1)]) hx hb d_12_2_5 hl (by decide) rfl (fun ls hl => ?_)
  refine lv_iload hx hb d_12_2_7 (lv_at hl 0 rfl) ?_
  refine lv_sipush (v := 3000) hx hb d_12_2_9 (by decide) ?_
  refine lv_icmp_ge (tgt := 135) hx hb d_12_2_12 (by decide) (fun c => absurd c (by decide)) (fun _ => ?_)
  refine lv_iload_n hx hb d_12_2_15 rfl (lv_at hl 2 rfl) ?_
  refine lv_aload_n hx hb d_12_2_16 rfl (lv_at hl 4 rfl) ?_
  refine gget hx hb hts inW_0 hown hK hP 1 rfl rfl hp1 0 rfl (by decide) k_1_44 d_12_2_17 ?_
  refine lv_icmp_ge (tgt := 135) hx hb d_12_2_20 (by decide) (fun _ => ?_) (fun c => absurd (by decide) c)
  refine lv_aload_n hx hb d_12_2_135 rfl (lv_at hl 3 rfl) ?_
  refine gget hx hb hts inW_10 hown hK hP 0 rfl rfl hp0 2 rfl (by decide) k_1_82 d_12_2_136 ?_
  refine lv_iload_n hx hb d_12_2_139 rfl (lv_at hl 1 rfl) ?_
  refine lv_iconst (v := 0) hx hb d_12_2_140 (by decide) ?_
  refine gast hx hb hK hP hD hS 4 0 rfl rfl hp4 (k := 0) (by decide) (vinC (by decide)) d_12_2_141 (L' := [(0, 0)]) rfl (fun f1 H1 locs1 hF1 hP1 hD1 hS1 => ?_)
  have hP1 : va_P D cls [(a0, .inr (10, rg 9 g0)), (a1, .inr (0, rg 3 g1)), (a2, .inl (ca 1, 3001, .inr (.inl g2))), (a3, .inl (ca 0, 3001, .inl g3)), (a4, .inl (ca 0, 3001, .inl f1))] H1 := hP1
  have hD1 : va_D A [(a0, .inr (10, rg 9 g0)), (a1, .inr (0, rg 3 g1)), (a2, .inl (ca 1, 3001, .inr (.inl g2))), (a3, .inl (ca 0, 3001, .inl g3)), (a4, .inl (ca 0, 3001, .inl f1))] := hD1
  refine lv_aload_n hx hb d_12_2_142 rfl (lv_at hl 3 rfl) ?_
  refine gget hx hb hts inW_10 hown hK hP1 0 rfl rfl hp0 1 rfl (by decide) k_1_83 d_12_2_143 ?_
  refine lv_iload_n hx hb d_12_2_146 rfl (lv_at hl 1 rfl) ?_
  refine lv_aload_n hx hb d_12_2_147 rfl (lv_at hl 4 rfl) ?_
  refine gget hx hb hts inW_0 hown hK hP1 1 rfl rfl hp1 0 rfl (by decide) k_1_44 d_12_2_148 ?_
  refine gast hx hb hK hP1 hD1 hS1 3 0 rfl rfl hp3 (k := 0) (by decide) (vinC (by decide)) d_12_2_151 (L' := [(0, 0)]) rfl (fun f2 H2 locs2 hF2 hP2 hD2 hS2 => ?_)
  have hP2 : va_P D cls [(a0, .inr (10, rg 9 g0)), (a1, .inr (0, rg 3 g1)), (a2, .inl (ca 1, 3001, .inr (.inl g2))), (a3, .inl (ca 0, 3001, .inl f2)), (a4, .inl (ca 0, 3001, .inl f1))] H2 := hP2
  have hD2 : va_D A [(a0, .inr (10, rg 9 g0)), (a1, .inr (0, rg 3 g1)), (a2, .inl (ca 1, 3001, .inr (.inl g2))), (a3, .inl (ca 0, 3001, .inl f2)), (a4, .inl (ca 0, 3001, .inl f1))] := hD2
  clear hP1 hD1 hS1
  refine lv_aload_n hx hb d_12_2_152 rfl (lv_at hl 3 rfl) ?_
  refine gget hx hb hts inW_10 hown hK hP2 0 rfl rfl hp0 0 rfl (by decide) k_1_84 d_12_2_153 ?_
  refine lv_iload_n hx hb d_12_2_156 rfl (lv_at hl 1 rfl) ?_
  refine lv_lconst (v := 0) hx hb d_12_2_157 (by decide) ?_
  refine glastX hx hb hK hP2 hD2 hS2 2 1 rfl rfl (vinC (by decide)) d_12_2_158 (fun f3 H3 locs3 hP3 hD3 hS3 => ?_)
  have hF3 : gF f3 [] := gF_nil
  have hP3 : va_P D cls [(a0, .inr (10, rg 9 g0)), (a1, .inr (0, rg 3 g1)), (a2, .inl (ca 1, 3001, .inr (.inl f3))), (a3, .inl (ca 0, 3001, .inl f2)), (a4, .inl (ca 0, 3001, .inl f1))] H3 := hP3
  have hD3 : va_D A [(a0, .inr (10, rg 9 g0)), (a1, .inr (0, rg 3 g1)), (a2, .inl (ca 1, 3001, .inr (.inl f3))), (a3, .inl (ca 0, 3001, .inl f2)), (a4, .inl (ca 0, 3001, .inl f1))] := hD3
  clear hP2 hD2 hS2
  refine lv_aload_n hx hb d_12_2_159 rfl (lv_at hl 3 rfl) ?_
  refine lv_iconst (v := 0) hx hb d_12_2_160 (by decide) ?_
  refine gput hx hb hts inW_10 tyX10 tyX10_ok nmX10 hown hK hP3 hD3 hS3 0 rfl rfl hp0 8 (by decide) k_1_85 rfl rfl rfl d_12_2_161 (L' := [(8, .int 0), (7, .ref a2), (6, .ref a3), (5, .ref a4)]) rfl (fun f4 H4 locs4 hF4 hm4 hP4 hD4 hS4 => ?_)
  have hM4 := gM.tr (gM.rf (f := g0)) hm4
  have hP4 : va_P D cls [(a0, .inr (10, rg 9 f4)), (a1, .inr (0, rg 3 g1)), (a2, .inl (ca 1, 3001, .inr (.inl f3))), (a3, .inl (ca 0, 3001, .inl f2)), (a4, .inl (ca 0, 3001, .inl f1))] H4 := hP4
  have hD4 : va_D A [(a0, .inr (10, rg 9 f4)), (a1, .inr (0, rg 3 g1)), (a2, .inl (ca 1, 3001, .inr (.inl f3))), (a3, .inl (ca 0, 3001, .inl f2)), (a4, .inl (ca 0, 3001, .inl f1))] := hD4
  clear hP3 hD3 hS3 hm4
  refine lv_aload_n hx hb d_12_2_164 rfl (lv_at hl 3 rfl) ?_
  have hFc5 := va_free (wc := [(a0, .inr (10, rg 9 f4)), (a2, .inl (ca 1, 3001, .inr (.inl f3))), (a3, .inl (ca 0, 3001, .inl f2)), (a4, .inl (ca 0, 3001, .inl f1))]) hD4 hS4 hA [0, 2, 3, 4] rfl
  refine va_callv (va_runV (As := []) (rest := []) ⟨hx, hb, hml, hown, hts⟩ (c_Tokens_advance_0 l D ca ad av H4.size a0 a2 a3 a4 f4 f3 f2 f1 (hF4.sub [0, 1, 2, 3] rfl) (hF3.sub [] rfl) (hF2.sub [0] rfl) (hF1.sub [0] rfl)) (cwV 0 hts (gdV k_3_151 k_3_152 k_3_153 k_1_5 k_3_154) rfl rfl rfl (by decide +kernel) ⟨Nat.le_of_ble_eq_true rfl, Nat.le_of_ble_eq_true rfl⟩) (gPV hP4 hD4 hK hS4 hA hX [0, 2, 3, 4] (by decide) rfl a0 [] 0 (ci := 10) (r := (RX10, TX10, 9)) rfl rfl) rfl rfl hl.1 rfl (lv_room (Nat.le_of_ble_eq_true rfl)) d_12_2_165 ⟨Nat.le_of_ble_eq_true rfl, Nat.le_of_ble_eq_true rfl⟩) hS4 (fun q _ h => hFc5 q h) hFc5 (fun x5_0 t5 H5 locs5 ht5 hvm5 hw5 hB5 hz5 hk5 hS5 => ?_)
  obtain ⟨hw5_0, hw5_1⟩ := hw5
  obtain ⟨hP5, hD5⟩ := gJoin (wr := [(a1, .inr (0, rg 3 g1))]) (w1 := [(a0, .inr (10, rg 9 x5_0)), (a2, .inl (ca 1, 3001, .inr (.inl f3))), (a3, .inl (ca 0, 3001, .inl f2)), (a4, .inl (ca 0, 3001, .inl f1))]) hP4 hD4 [0, 2, 3, 4] [1] rfl rfl (by decide) (by decide) hk5 hFc5 ht5 hB5
  have hF5_0 : gF x5_0 [(1, .int 0), (0, .int 0), (8, .int 0), (7, .ref a2), (6, .ref a3), (5, .ref a4)] := gF.upd hF4 hw5_0 hw5_1 rfl
  have hM5_0 := gM.tr hM4 hw5_0
  have hP5 : va_P D cls [(a1, .inr (0, rg 3 g1)), (a0, .inr (10, rg 9 x5_0)), (a2, .inl (ca 1, 3001, .inr (.inl f3))), (a3, .inl (ca 0, 3001, .inl f2)), (a4, .inl (ca 0, 3001, .inl f1))] H5 := hP5
  have hD5 : va_D A [(a1, .inr (0, rg 3 g1)), (a0, .inr (10, rg 9 x5_0)), (a2, .inl (ca 1, 3001, .inr (.inl f3))), (a3, .inl (ca 0, 3001, .inl f2)), (a4, .inl (ca 0, 3001, .inl f1))] := hD5
  refine W.widen (k := 0) (n := 0) (Nat.le_of_ble_eq_true rfl) (Nat.le_of_ble_eq_true rfl) ?_
  have hP9 := hP5.sub (ws' := [(a0, .inr (10, rg 9 x5_0)), (a1, .inr (0, rg 3 g1)), (a2, .inl (ca 1, 3001, .inr (.inl f3))), (a3, .inl (ca 0, 3001, .inl f2)), (a4, .inl (ca 0, 3001, .inl f1))]) [1, 0, 2, 3, 4] rfl
  have hD9 := hD5.sub (ws' := [(a0, .inr (10, rg 9 x5_0)), (a1, .inr (0, rg 3 g1)), (a2, .inl (ca 1, 3001, .inr (.inl f3))), (a3, .inl (ca 0, 3001, .inl f2)), (a4, .inl (ca 0, 3001, .inl f1))]) [1, 0, 2, 3, 4] (by decide) rfl
  refine W.widen (k := 0) (n := 0) (Nat.le_of_ble_eq_true rfl) (Nat.le_of_ble_eq_true rfl) ?_
  exact W.vret hx hb hr (fun t ht hW => ⟨⟨(x5_0, f3, f2, f1), rfl, ⟨hM5_0.mono (by decide), hF5_0.sub [0, 1, 2] rfl, hF3.sub [] rfl, hF2.sub [0] rfl, hF1.sub [0] rfl⟩, by rw [ht]; exact hP9, va_K.moved hW.alike hK, hD9⟩, hS5.F ht⟩) hS5.2.2 d_12_2_168
abbrev Q_Tokens_isWord_0 (D : va_G) (ca : Nat → ClassId) (a0 : Nat) (g0 : Nat → Value) (A : Nat → Prop) : Array Value → State → Outcome → State → Prop := va_Qi (S := Unit) (fun (r : Int32) (u : Unit) => r = 0) (fun u => gB D ca A [(a0, .inr (10, rg 9 g0))]) A
set_option maxHeartbeats 8000000 in
set_option maxRecDepth 100000 in
theorem c_Tokens_isWord_0 (l : Launch) (D : va_G) (ca : Nat → ClassId) (ad av : Nat → Nat) (sz : Nat) (a0 : Nat) (g0 : Nat → Value) (hp0 : gF g0 [(0, .int 0)]) : Met l ({ cls := "StaveHouse$Tokens", name := "isWord", desc := "(J)Z" } : Jvm.MethodName) (Cond.code ({ cls := "StaveHouse$Tokens", name := "isWord", desc := "(J)Z" } : Jvm.MethodName) prog_12_method_5_code 3 (Option.some Jvm.ClassFile.FieldType.boolean) :: wAll) ({ frames := 0, cells := 0, slots := 0, locals := 0 } : Room) (va_Pc [.ref a0, .long 7103860] (gPre D ca ad av [(a0, .inr (10, rg 9 g0))] sz)) (Q_Tokens_isWord_0 D ca a0 g0 (va_A [(a0, .inr (10, rg 9 g0))] sz)) 0 0 (va_A [(a0, .inr (10, rg 9 g0))] sz) := by
  refine gMet (Qc := Q_Tokens_isWord_0 D ca a0 g0) (lv := [(0, .ref a0), (1, .long 7103860)]) (by decide) (Nat.le_of_ble_eq_true rfl) rfl (fun A p e s m below meth c ls hx hb hr hml hown hts hlk hnm hl hP hK hD hS hA hX => ?_)
  have hown : s.vm.findClass "StaveHouse$Tokens" = some m.cls := hown
  have hnm : meth.name = "isWord" := hnm
  refine lv_aload_n hx hb d_12_5_0 rfl (lv_at hl 0 rfl) ?_
  refine gget hx hb hts inW_10 hown hK hP 0 rfl rfl hp0 0 rfl (by decide) k_1_73 d_12_5_1 ?_
  refine lv_iconst (v := 4) hx hb d_12_5_4 (by decide) ?_
  refine lv_icmp_ne (tgt := 21) hx hb d_12_5_5 (by decide) (fun _ => ?_) (fun c => absurd c (by decide))
  refine lv_iconst (v := 0) hx hb d_12_5_21 (by decide) ?_
  have hP9 := hP.sub (ws' := [(a0, .inr (10, rg 9 g0))]) [0] rfl
  have hD9 := hD.sub (ws' := [(a0, .inr (10, rg 9 g0))]) [0] (by decide) rfl
  refine W.widen (k := 0) (n := 0) (Nat.le_of_ble_eq_true rfl) (Nat.le_of_ble_eq_true rfl) ?_
  exact W.zret (v := 0) hx hb hr rfl (fun t ht hW => ⟨⟨0, (), rfl, rfl, by rw [ht]; exact hP9, va_K.moved hW.alike hK, hD9⟩, hS.F ht⟩) hS.2.2 d_12_5_22
abbrev Q_Tokens_isWord_1 (D : va_G) (ca : Nat → ClassId) (a0 : Nat) (g0 : Nat → Value) (A : Nat → Prop) : Array Value → State → Outcome → State → Prop := va_Qi (S := Unit) (fun (r : Int32) (u : Unit) => r = 0) (fun u => gB D ca A [(a0, .inr (10, rg 9 g0))]) A
set_option maxHeartbeats 8000000 in
set_option maxRecDepth 100000 in
theorem c_Tokens_isWord_1 (l : Launch) (D : va_G) (ca : Nat → ClassId) (ad av : Nat → Nat) (sz : Nat) (a0 : Nat) (g0 : Nat → Value) (hp0 : gF g0 [(0, .int 0)]) : Met l ({ cls := "StaveHouse$Tokens", name := "isWord", desc := "(J)Z" } : Jvm.MethodName) (Cond.code ({ cls := "StaveHouse$Tokens", name := "isWord", desc := "(J)Z" } : Jvm.MethodName) prog_12_method_5_code 3 (Option.some Jvm.ClassFile.FieldType.boolean) :: wAll) ({ frames := 0, cells := 0, slots := 0, locals := 0 } : Room) (va_Pc [.ref a0, .long 7038329] (gPre D ca ad av [(a0, .inr (10, rg 9 g0))] sz)) (Q_Tokens_isWord_1 D ca a0 g0 (va_A [(a0, .inr (10, rg 9 g0))] sz)) 0 0 (va_A [(a0, .inr (10, rg 9 g0))] sz) := by
  refine gMet (Qc := Q_Tokens_isWord_1 D ca a0 g0) (lv := [(0, .ref a0), (1, .long 7038329)]) (by decide) (Nat.le_of_ble_eq_true rfl) rfl (fun A p e s m below meth c ls hx hb hr hml hown hts hlk hnm hl hP hK hD hS hA hX => ?_)
  have hown : s.vm.findClass "StaveHouse$Tokens" = some m.cls := hown
  have hnm : meth.name = "isWord" := hnm
  refine lv_aload_n hx hb d_12_5_0 rfl (lv_at hl 0 rfl) ?_
  refine gget hx hb hts inW_10 hown hK hP 0 rfl rfl hp0 0 rfl (by decide) k_1_73 d_12_5_1 ?_
  refine lv_iconst (v := 4) hx hb d_12_5_4 (by decide) ?_
  refine lv_icmp_ne (tgt := 21) hx hb d_12_5_5 (by decide) (fun _ => ?_) (fun c => absurd c (by decide))
  refine lv_iconst (v := 0) hx hb d_12_5_21 (by decide) ?_
  have hP9 := hP.sub (ws' := [(a0, .inr (10, rg 9 g0))]) [0] rfl
  have hD9 := hD.sub (ws' := [(a0, .inr (10, rg 9 g0))]) [0] (by decide) rfl
  refine W.widen (k := 0) (n := 0) (Nat.le_of_ble_eq_true rfl) (Nat.le_of_ble_eq_true rfl) ?_
  exact W.zret (v := 0) hx hb hr rfl (fun t ht hW => ⟨⟨0, (), rfl, rfl, by rw [ht]; exact hP9, va_K.moved hW.alike hK, hD9⟩, hS.F ht⟩) hS.2.2 d_12_5_22
abbrev Q_Tokens_isWord_2 (D : va_G) (ca : Nat → ClassId) (a0 : Nat) (g0 : Nat → Value) (A : Nat → Prop) : Array Value → State → Outcome → State → Prop := va_Qi (S := Unit) (fun (r : Int32) (u : Unit) => r = 0) (fun u => gB D ca A [(a0, .inr (10, rg 9 g0))]) A
set_option maxHeartbeats 8000000 in
set_option maxRecDepth 100000 in
theorem c_Tokens_isWord_2 (l : Launch) (D : va_G) (ca : Nat → ClassId) (ad av : Nat → Nat) (sz : Nat) (a0 : Nat) (g0 : Nat → Value) (hp0 : gF g0 [(0, .int 0)]) : Met l ({ cls := "StaveHouse$Tokens", name := "isWord", desc := "(J)Z" } : Jvm.MethodName) (Cond.code ({ cls := "StaveHouse$Tokens", name := "isWord", desc := "(J)Z" } : Jvm.MethodName) prog_12_method_5_code 3 (Option.some Jvm.ClassFile.FieldType.boolean) :: wAll) ({ frames := 0, cells := 0, slots := 0, locals := 0 } : Room) (va_Pc [.ref a0, .long 1953066341] (gPre D ca ad av [(a0, .inr (10, rg 9 g0))] sz)) (Q_Tokens_isWord_2 D ca a0 g0 (va_A [(a0, .inr (10, rg 9 g0))] sz)) 0 0 (va_A [(a0, .inr (10, rg 9 g0))] sz) := by
  refine gMet (Qc := Q_Tokens_isWord_2 D ca a0 g0) (lv := [(0, .ref a0), (1, .long 1953066341)]) (by decide) (Nat.le_of_ble_eq_true rfl) rfl (fun A p e s m below meth c ls hx hb hr hml hown hts hlk hnm hl hP hK hD hS hA hX => ?_)
  have hown : s.vm.findClass "StaveHouse$Tokens" = some m.cls := hown
  have hnm : meth.name = "isWord" := hnm
  refine lv_aload_n hx hb d_12_5_0 rfl (lv_at hl 0 rfl) ?_
  refine gget hx hb hts inW_10 hown hK hP 0 rfl rfl hp0 0 rfl (by decide) k_1_73 d_12_5_1 ?_
  refine lv_iconst (v := 4) hx hb d_12_5_4 (by decide) ?_
  refine lv_icmp_ne (tgt := 21) hx hb d_12_5_5 (by decide) (fun _ => ?_) (fun c => absurd c (by decide))
  refine lv_iconst (v := 0) hx hb d_12_5_21 (by decide) ?_
  have hP9 := hP.sub (ws' := [(a0, .inr (10, rg 9 g0))]) [0] rfl
  have hD9 := hD.sub (ws' := [(a0, .inr (10, rg 9 g0))]) [0] (by decide) rfl
  refine W.widen (k := 0) (n := 0) (Nat.le_of_ble_eq_true rfl) (Nat.le_of_ble_eq_true rfl) ?_
  exact W.zret (v := 0) hx hb hr rfl (fun t ht hW => ⟨⟨0, (), rfl, rfl, by rw [ht]; exact hP9, va_K.moved hW.alike hK, hD9⟩, hS.F ht⟩) hS.2.2 d_12_5_22
abbrev Q_Tokens_isWord_3 (D : va_G) (ca : Nat → ClassId) (a0 : Nat) (g0 : Nat → Value) (A : Nat → Prop) : Array Value → State → Outcome → State → Prop := va_Qi (S := Unit) (fun (r : Int32) (u : Unit) => r = 0) (fun u => gB D ca A [(a0, .inr (10, rg 9 g0))]) A
set_option maxHeartbeats 8000000 in
set_option maxRecDepth 100000 in
theorem c_Tokens_isWord_3 (l : Launch) (D : va_G) (ca : Nat → ClassId) (ad av : Nat → Nat) (sz : Nat) (a0 : Nat) (g0 : Nat → Value) (hp0 : gF g0 [(0, .int 0)]) : Met l ({ cls := "StaveHouse$Tokens", name := "isWord", desc := "(J)Z" } : Jvm.MethodName) (Cond.code ({ cls := "StaveHouse$Tokens", name := "isWord", desc := "(J)Z" } : Jvm.MethodName) prog_12_method_5_code 3 (Option.some Jvm.ClassFile.FieldType.boolean) :: wAll) ({ frames := 0, cells := 0, slots := 0, locals := 0 } : Room) (va_Pc [.ref a0, .long 499917877359] (gPre D ca ad av [(a0, .inr (10, rg 9 g0))] sz)) (Q_Tokens_isWord_3 D ca a0 g0 (va_A [(a0, .inr (10, rg 9 g0))] sz)) 0 0 (va_A [(a0, .inr (10, rg 9 g0))] sz) := by
  refine gMet (Qc := Q_Tokens_isWord_3 D ca a0 g0) (lv := [(0, .ref a0), (1, .long 499917877359)]) (by decide) (Nat.le_of_ble_eq_true rfl) rfl (fun A p e s m below meth c ls hx hb hr hml hown hts hlk hnm hl hP hK hD hS hA hX => ?_)
  have hown : s.vm.findClass "StaveHouse$Tokens" = some m.cls := hown
  have hnm : meth.name = "isWord" := hnm
  refine lv_aload_n hx hb d_12_5_0 rfl (lv_at hl 0 rfl) ?_
  refine gget hx hb hts inW_10 hown hK hP 0 rfl rfl hp0 0 rfl (by decide) k_1_73 d_12_5_1 ?_
  refine lv_iconst (v := 4) hx hb d_12_5_4 (by decide) ?_
  refine lv_icmp_ne (tgt := 21) hx hb d_12_5_5 (by decide) (fun _ => ?_) (fun c => absurd c (by decide))
  refine lv_iconst (v := 0) hx hb d_12_5_21 (by decide) ?_
  have hP9 := hP.sub (ws' := [(a0, .inr (10, rg 9 g0))]) [0] rfl
  have hD9 := hD.sub (ws' := [(a0, .inr (10, rg 9 g0))]) [0] (by decide) rfl
  refine W.widen (k := 0) (n := 0) (Nat.le_of_ble_eq_true rfl) (Nat.le_of_ble_eq_true rfl) ?_
  exact W.zret (v := 0) hx hb hr rfl (fun t ht hW => ⟨⟨0, (), rfl, rfl, by rw [ht]; exact hP9, va_K.moved hW.alike hK, hD9⟩, hS.F ht⟩) hS.2.2 d_12_5_22
abbrev Q_Parser_headSort_0 (D : va_G) (ca : Nat → ClassId) (a0 : Nat) (a1 : Nat) (g0 : Nat → Value) (g1 : Nat → Value) (A : Nat → Prop) : Array Value → State → Outcome → State → Prop := va_Qi (S := Unit) (fun (r : Int32) (u : Unit) => r = 0) (fun u => gB D ca A [(a0, .inr (3, rg 22 g0)), (a1, .inr (10, rg 9 g1))]) A
set_option maxHeartbeats 8000000 in
set_option maxRecDepth 100000 in
theorem c_Parser_headSort_0 (l : Launch) (D : va_G) (ca : Nat → ClassId) (ad av : Nat → Nat) (sz : Nat) (a0 : Nat) (a1 : Nat) (g0 : Nat → Value) (g1 : Nat → Value) (hp0 : gF g0 [(11, .ref a1)]) (hp1 : gF g1 [(0, .int 0)]) : Met l ({ cls := "StaveHouse$Parser", name := "headSort", desc := "()I" } : Jvm.MethodName) (Cond.code ({ cls := "StaveHouse$Parser", name := "headSort", desc := "()I" } : Jvm.MethodName) prog_5_method_5_code 1 (Option.some Jvm.ClassFile.FieldType.int) :: wAll) ({ frames := 1, cells := 0, slots := 0, locals := 22 } : Room) (va_Pc [.ref a0] (gPre D ca ad av [(a0, .inr (3, rg 22 g0)), (a1, .inr (10, rg 9 g1))] sz)) (Q_Parser_headSort_0 D ca a0 a1 g0 g1 (va_A [(a0, .inr (3, rg 22 g0)), (a1, .inr (10, rg 9 g1))] sz)) 0 0 (va_A [(a0, .inr (3, rg 22 g0)), (a1, .inr (10, rg 9 g1))] sz) := by
  refine gMet (Qc := Q_Parser_headSort_0 D ca a0 a1 g0 g1) (lv := [(0, .ref a0)]) (by decide) (Nat.le_of_ble_eq_true rfl) rfl (fun A p e s m below meth c ls hx hb hr hml hown hts hlk hnm hl hP hK hD hS hA hX => ?_)
  have hown : s.vm.findClass "StaveHouse$Parser" = some m.cls := hown
  have hnm : meth.name = "headSort" := hnm
  refine lv_aload_n hx hb d_5_5_0 rfl (lv_at hl 0 rfl) ?_
  refine gget hx hb hts inW_3 hown hK hP 0 rfl rfl hp0 0 rfl (by decide) k_1_128 d_5_5_1 ?_
  refine lv_ldc2 hx hb hown (hts _ k_3_168) d_5_5_4 ?_
  have hFc1 := va_free (wc := [(a1, .inr (10, rg 9 g1))]) hD hS hA [1] rfl
  refine va_calli (va_runV (As := [.long 7038329]) (rest := []) ⟨hx, hb, hml, hown, hts⟩ (c_Tokens_isWord_1 l D ca ad av s.heap.size a1 g1 (hp1.sub [0] rfl)) (cwV 1 hts (gdV k_3_160 k_3_161 k_3_162 k_1_5 k_3_163) rfl rfl rfl (by decide +kernel) ⟨Nat.le_of_ble_eq_true rfl, Nat.le_of_ble_eq_true rfl⟩) (gPV hP hD hK hS hA hX [1] (by decide) rfl a1 [.long 7038329] 1 (ci := 10) (r := (RX10, TX10, 9)) rfl rfl) rfl rfl hl.1 rfl (lv_room (Nat.le_of_ble_eq_true rfl)) d_5_5_7 ⟨Nat.le_of_ble_eq_true rfl, Nat.le_of_ble_eq_true rfl⟩) hS (fun q _ h => hFc1 q h) hFc1 (fun r1 u1 t1 H1 locs1 ht1 hvm1 hw1 hB1 hz1 hk1 hS1 => ?_)
  have hr1 := hw1
  obtain ⟨hP1, hD1⟩ := gJoin (wr := [(a0, .inr (3, rg 22 g0))]) (w1 := [(a1, .inr (10, rg 9 g1))]) hP hD [1] [0] rfl rfl (by decide) (by decide) hk1 hFc1 ht1 hB1
  have hP1 : va_P D cls [(a0, .inr (3, rg 22 g0)), (a1, .inr (10, rg 9 g1))] H1 := hP1
  have hD1 : va_D A [(a0, .inr (3, rg 22 g0)), (a1, .inr (10, rg 9 g1))] := hD1
  refine W.widen (k := 0) (n := 0) (Nat.le_of_ble_eq_true rfl) (Nat.le_of_ble_eq_true rfl) ?_
  subst hr1
  refine lv_if_eq (tgt := 15) hx hb d_5_5_10 (by decide) (fun _ => ?_) (fun c => absurd (by decide) c)
  refine lv_aload_n hx hb d_5_5_15 rfl (lv_at hl 0 rfl) ?_
  refine gget hx hb hts inW_3 hown hK hP1 0 rfl rfl hp0 0 rfl (by decide) k_1_128 d_5_5_16 ?_
  refine lv_ldc2 hx hb hown (hts _ k_3_169) d_5_5_19 ?_
  have hFc2 := va_free (wc := [(a1, .inr (10, rg 9 g1))]) hD1 hS1 hA [1] rfl
  refine va_calli (va_runV (As := [.long 1953066341]) (rest := []) ⟨hx, hb, hml, hown, hts⟩ (c_Tokens_isWord_2 l D ca ad av H1.size a1 g1 (hp1.sub [0] rfl)) (cwV 1 hts (gdV k_3_160 k_3_161 k_3_162 k_1_5 k_3_163) rfl rfl rfl (by decide +kernel) ⟨Nat.le_of_ble_eq_true rfl, Nat.le_of_ble_eq_true rfl⟩) (gPV hP1 hD1 hK hS1 hA hX [1] (by decide) rfl a1 [.long 1953066341] 1 (ci := 10) (r := (RX10, TX10, 9)) rfl rfl) rfl rfl hl.1 rfl (lv_room (Nat.le_of_ble_eq_true rfl)) d_5_5_22 ⟨Nat.le_of_ble_eq_true rfl, Nat.le_of_ble_eq_true rfl⟩) hS1 (fun q _ h => hFc2 q h) hFc2 (fun r2 u2 t2 H2 locs2 ht2 hvm2 hw2 hB2 hz2 hk2 hS2 => ?_)
  have hr2 := hw2
  obtain ⟨hP2, hD2⟩ := gJoin (wr := [(a0, .inr (3, rg 22 g0))]) (w1 := [(a1, .inr (10, rg 9 g1))]) hP1 hD1 [1] [0] rfl rfl (by decide) (by decide) hk2 hFc2 ht2 hB2
  have hP2 : va_P D cls [(a0, .inr (3, rg 22 g0)), (a1, .inr (10, rg 9 g1))] H2 := hP2
  have hD2 : va_D A [(a0, .inr (3, rg 22 g0)), (a1, .inr (10, rg 9 g1))] := hD2
  refine W.widen (k := 0) (n := 0) (Nat.le_of_ble_eq_true rfl) (Nat.le_of_ble_eq_true rfl) ?_
  subst hr2
  refine lv_if_eq (tgt := 30) hx hb d_5_5_25 (by decide) (fun _ => ?_) (fun c => absurd (by decide) c)
  refine lv_aload_n hx hb d_5_5_30 rfl (lv_at hl 0 rfl) ?_
  refine gget hx hb hts inW_3 hown hK hP2 0 rfl rfl hp0 0 rfl (by decide) k_1_128 d_5_5_31 ?_
  refine lv_ldc2 hx hb hown (hts _ k_3_170) d_5_5_34 ?_
  have hFc3 := va_free (wc := [(a1, .inr (10, rg 9 g1))]) hD2 hS2 hA [1] rfl
  refine va_calli (va_runV (As := [.long 499917877359]) (rest := []) ⟨hx, hb, hml, hown, hts⟩ (c_Tokens_isWord_3 l D ca ad av H2.size a1 g1 (hp1.sub [0] rfl)) (cwV 1 hts (gdV k_3_160 k_3_161 k_3_162 k_1_5 k_3_163) rfl rfl rfl (by decide +kernel) ⟨Nat.le_of_ble_eq_true rfl, Nat.le_of_ble_eq_true rfl⟩) (gPV hP2 hD2 hK hS2 hA hX [1] (by decide) rfl a1 [.long 499917877359] 1 (ci := 10) (r := (RX10, TX10, 9)) rfl rfl) rfl rfl hl.1 rfl (lv_room (Nat.le_of_ble_eq_true rfl)) d_5_5_37 ⟨Nat.le_of_ble_eq_true rfl, Nat.le_of_ble_eq_true rfl⟩) hS2 (fun q _ h => hFc3 q h) hFc3 (fun r3 u3 t3 H3 locs3 ht3 hvm3 hw3 hB3 hz3 hk3 hS3 => ?_)
  have hr3 := hw3
  obtain ⟨hP3, hD3⟩ := gJoin (wr := [(a0, .inr (3, rg 22 g0))]) (w1 := [(a1, .inr (10, rg 9 g1))]) hP2 hD2 [1] [0] rfl rfl (by decide) (by decide) hk3 hFc3 ht3 hB3
  have hP3 : va_P D cls [(a0, .inr (3, rg 22 g0)), (a1, .inr (10, rg 9 g1))] H3 := hP3
  have hD3 : va_D A [(a0, .inr (3, rg 22 g0)), (a1, .inr (10, rg 9 g1))] := hD3
  refine W.widen (k := 0) (n := 0) (Nat.le_of_ble_eq_true rfl) (Nat.le_of_ble_eq_true rfl) ?_
  subst hr3
  refine lv_if_eq (tgt := 47) hx hb d_5_5_40 (by decide) (fun _ => ?_) (fun c => absurd (by decide) c)
  refine lv_iconst (v := 0) hx hb d_5_5_47 (by decide) ?_
  have hP9 := hP3.sub (ws' := [(a0, .inr (3, rg 22 g0)), (a1, .inr (10, rg 9 g1))]) [0, 1] rfl
  have hD9 := hD3.sub (ws' := [(a0, .inr (3, rg 22 g0)), (a1, .inr (10, rg 9 g1))]) [0, 1] (by decide) rfl
  refine W.widen (k := 0) (n := 0) (Nat.le_of_ble_eq_true rfl) (Nat.le_of_ble_eq_true rfl) ?_
  exact W.iret (v := 0) hx hb hr (fun t ht hW => ⟨⟨0, (), rfl, rfl, by rw [ht]; exact hP9, va_K.moved hW.alike hK, hD9⟩, hS3.F ht⟩) hS3.2.2 d_5_5_48
abbrev Q_Parser_beginsHead_0 (D : va_G) (ca : Nat → ClassId) (a0 : Nat) (a1 : Nat) (g0 : Nat → Value) (g1 : Nat → Value) (A : Nat → Prop) : Array Value → State → Outcome → State → Prop := va_Qi (S := Unit) (fun (r : Int32) (u : Unit) => r = 0) (fun u => gB D ca A [(a0, .inr (3, rg 22 g0)), (a1, .inr (10, rg 9 g1))]) A
set_option maxHeartbeats 8000000 in
set_option maxRecDepth 100000 in
theorem c_Parser_beginsHead_0 (l : Launch) (D : va_G) (ca : Nat → ClassId) (ad av : Nat → Nat) (sz : Nat) (a0 : Nat) (a1 : Nat) (g0 : Nat → Value) (g1 : Nat → Value) (hp0 : gF g0 [(11, .ref a1)]) (hp1 : gF g1 [(0, .int 0)]) : Met l ({ cls := "StaveHouse$Parser", name := "beginsHead", desc := "()Z" } : Jvm.MethodName) (Cond.code ({ cls := "StaveHouse$Parser", name := "beginsHead", desc := "()Z" } : Jvm.MethodName) prog_5_method_4_code 1 (Option.some Jvm.ClassFile.FieldType.boolean) :: wAll) ({ frames := 2, cells := 0, slots := 0, locals := 42 } : Room) (va_Pc [.ref a0] (gPre D ca ad av [(a0, .inr (3, rg 22 g0)), (a1, .inr (10, rg 9 g1))] sz)) (Q_Parser_beginsHead_0 D ca a0 a1 g0 g1 (va_A [(a0, .inr (3, rg 22 g0)), (a1, .inr (10, rg 9 g1))] sz)) 0 0 (va_A [(a0, .inr (3, rg 22 g0)), (a1, .inr (10, rg 9 g1))] sz) := by
  refine gMet (Qc := Q_Parser_beginsHead_0 D ca a0 a1 g0 g1) (lv := [(0, .ref a0)]) (by decide) (Nat.le_of_ble_eq_true rfl) rfl (fun A p e s m below meth c ls hx hb hr hml hown hts hlk hnm hl hP hK hD hS hA hX => ?_)
  have hown : s.vm.findClass "StaveHouse$Parser" = some m.cls := hown
  have hnm : meth.name = "beginsHead" := hnm
  refine lv_aload_n hx hb d_5_4_0 rfl (lv_at hl 0 rfl) ?_
  refine gget hx hb hts inW_3 hown hK hP 0 rfl rfl hp0 0 rfl (by decide) k_1_128 d_5_4_1 ?_
  refine lv_ldc2 hx hb hown (hts _ k_3_159) d_5_4_4 ?_
  have hFc1 := va_free (wc := [(a1, .inr (10, rg 9 g1))]) hD hS hA [1] rfl
  refine va_calli (va_runV (As := [.long 7103860]) (rest := []) ⟨hx, hb, hml, hown, hts⟩ (c_Tokens_isWord_0 l D ca ad av s.heap.size a1 g1 (hp1.sub [0] rfl)) (cwV 1 hts (gdV k_3_160 k_3_161 k_3_162 k_1_5 k_3_163) rfl rfl rfl (by decide +kernel) ⟨Nat.le_of_ble_eq_true rfl, Nat.le_of_ble_eq_true rfl⟩) (gPV hP hD hK hS hA hX [1] (by decide) rfl a1 [.long 7103860] 1 (ci := 10) (r := (RX10, TX10, 9)) rfl rfl) rfl rfl hl.1 rfl (lv_room (Nat.le_of_ble_eq_true rfl)) d_5_4_7 ⟨Nat.le_of_ble_eq_true rfl, Nat.le_of_ble_eq_true rfl⟩) hS (fun q _ h => hFc1 q h) hFc1 (fun r1 u1 t1 H1 locs1 ht1 hvm1 hw1 hB1 hz1 hk1 hS1 => ?_)
  have hr1 := hw1
  obtain ⟨hP1, hD1⟩ := gJoin (wr := [(a0, .inr (3, rg 22 g0))]) (w1 := [(a1, .inr (10, rg 9 g1))]) hP hD [1] [0] rfl rfl (by decide) (by decide) hk1 hFc1 ht1 hB1
  have hP1 : va_P D cls [(a0, .inr (3, rg 22 g0)), (a1, .inr (10, rg 9 g1))] H1 := hP1
  have hD1 : va_D A [(a0, .inr (3, rg 22 g0)), (a1, .inr (10, rg 9 g1))] := hD1
  refine W.widen (k := 0) (n := 0) (Nat.le_of_ble_eq_true rfl) (Nat.le_of_ble_eq_true rfl) ?_
  subst hr1
  refine lv_if_eq (tgt := 28) hx hb d_5_4_10 (by decide) (fun _ => ?_) (fun c => absurd (by decide) c)
  refine lv_aload_n hx hb d_5_4_28 rfl (lv_at hl 0 rfl) ?_
  have hFc2 := va_free (wc := [(a0, .inr (3, rg 22 g0)), (a1, .inr (10, rg 9 g1))]) hD1 hS1 hA [0, 1] rfl
  refine va_calli (va_runV (As := []) (rest := []) ⟨hx, hb, hml, hown, hts⟩ (c_Parser_headSort_0 l D ca ad av H1.size a0 a1 g0 g1 (hp0.sub [0] rfl) (hp1.sub [0] rfl)) (cwV 0 hts (gdV k_3_164 k_3_166 ks_3 k_1_4 k_3_167) rfl rfl rfl (by decide +kernel) ⟨Nat.le_of_ble_eq_true rfl, Nat.le_of_ble_eq_true rfl⟩) (gPV hP1 hD1 hK hS1 hA hX [0, 1] (by decide) rfl a0 [] 0 (ci := 3) (r := (RX3, TX3, 22)) rfl rfl) rfl rfl hl.1 rfl (lv_room (Nat.le_of_ble_eq_true rfl)) d_5_4_29 ⟨Nat.le_of_ble_eq_true rfl, Nat.le_of_ble_eq_true rfl⟩) hS1 (fun q _ h => hFc2 q h) hFc2 (fun r2 u2 t2 H2 locs2 ht2 hvm2 hw2 hB2 hz2 hk2 hS2 => ?_)
  have hr2 := hw2
  obtain ⟨hP2, hD2⟩ := gJoin (wr := []) (w1 := [(a0, .inr (3, rg 22 g0)), (a1, .inr (10, rg 9 g1))]) hP1 hD1 [0, 1] [] rfl rfl (by decide) (by decide) hk2 hFc2 ht2 hB2
  have hP2 : va_P D cls [(a0, .inr (3, rg 22 g0)), (a1, .inr (10, rg 9 g1))] H2 := hP2
  have hD2 : va_D A [(a0, .inr (3, rg 22 g0)), (a1, .inr (10, rg 9 g1))] := hD2
  refine W.widen (k := 0) (n := 0) (Nat.le_of_ble_eq_true rfl) (Nat.le_of_ble_eq_true rfl) ?_
  subst hr2
  refine lv_if_eq (tgt := 51) hx hb d_5_4_32 (by decide) (fun _ => ?_) (fun c => absurd (by decide) c)
  refine lv_iconst (v := 0) hx hb d_5_4_51 (by decide) ?_
  have hP9 := hP2.sub (ws' := [(a0, .inr (3, rg 22 g0)), (a1, .inr (10, rg 9 g1))]) [0, 1] rfl
  have hD9 := hD2.sub (ws' := [(a0, .inr (3, rg 22 g0)), (a1, .inr (10, rg 9 g1))]) [0, 1] (by decide) rfl
  refine W.widen (k := 0) (n := 0) (Nat.le_of_ble_eq_true rfl) (Nat.le_of_ble_eq_true rfl) ?_
  exact W.zret (v := 0) hx hb hr rfl (fun t ht hW => ⟨⟨0, (), rfl, rfl, by rw [ht]; exact hP9, va_K.moved hW.alike hK, hD9⟩, hS2.F ht⟩) hS2.2.2 d_5_4_52
abbrev Q_Tokens_isWord_4 (D : va_G) (ca : Nat → ClassId) (a0 : Nat) (g0 : Nat → Value) (A : Nat → Prop) : Array Value → State → Outcome → State → Prop := va_Qi (S := Unit) (fun (r : Int32) (u : Unit) => r = 0) (fun u => gB D ca A [(a0, .inr (10, rg 9 g0))]) A
set_option maxHeartbeats 8000000 in
set_option maxRecDepth 100000 in
theorem c_Tokens_isWord_4 (l : Launch) (D : va_G) (ca : Nat → ClassId) (ad av : Nat → Nat) (sz : Nat) (a0 : Nat) (g0 : Nat → Value) (hp0 : gF g0 [(0, .int 0)]) : Met l ({ cls := "StaveHouse$Tokens", name := "isWord", desc := "(J)Z" } : Jvm.MethodName) (Cond.code ({ cls := "StaveHouse$Tokens", name := "isWord", desc := "(J)Z" } : Jvm.MethodName) prog_12_method_5_code 3 (Option.some Jvm.ClassFile.FieldType.boolean) :: wAll) ({ frames := 0, cells := 0, slots := 0, locals := 0 } : Room) (va_Pc [.ref a0, .long 508675318629] (gPre D ca ad av [(a0, .inr (10, rg 9 g0))] sz)) (Q_Tokens_isWord_4 D ca a0 g0 (va_A [(a0, .inr (10, rg 9 g0))] sz)) 0 0 (va_A [(a0, .inr (10, rg 9 g0))] sz) := by
  refine gMet (Qc := Q_Tokens_isWord_4 D ca a0 g0) (lv := [(0, .ref a0), (1, .long 508675318629)]) (by decide) (Nat.le_of_ble_eq_true rfl) rfl (fun A p e s m below meth c ls hx hb hr hml hown hts hlk hnm hl hP hK hD hS hA hX => ?_)
  have hown : s.vm.findClass "StaveHouse$Tokens" = some m.cls := hown
  have hnm : meth.name = "isWord" := hnm
  refine lv_aload_n hx hb d_12_5_0 rfl (lv_at hl 0 rfl) ?_
  refine gget hx hb hts inW_10 hown hK hP 0 rfl rfl hp0 0 rfl (by decide) k_1_73 d_12_5_1 ?_
  refine lv_iconst (v := 4) hx hb d_12_5_4 (by decide) ?_
  refine lv_icmp_ne (tgt := 21) hx hb d_12_5_5 (by decide) (fun _ => ?_) (fun c => absurd c (by decide))
  refine lv_iconst (v := 0) hx hb d_12_5_21 (by decide) ?_
  have hP9 := hP.sub (ws' := [(a0, .inr (10, rg 9 g0))]) [0] rfl
  have hD9 := hD.sub (ws' := [(a0, .inr (10, rg 9 g0))]) [0] (by decide) rfl
  refine W.widen (k := 0) (n := 0) (Nat.le_of_ble_eq_true rfl) (Nat.le_of_ble_eq_true rfl) ?_
  exact W.zret (v := 0) hx hb hr rfl (fun t ht hW => ⟨⟨0, (), rfl, rfl, by rw [ht]; exact hP9, va_K.moved hW.alike hK, hD9⟩, hS.F ht⟩) hS.2.2 d_12_5_22
abbrev Q_Parser_refuse_0 (D : va_G) (ca : Nat → ClassId) (a0 : Nat) (a1 : Nat) (g0 : Nat → Value) (g1 : Nat → Value) (A : Nat → Prop) : Array Value → State → Outcome → State → Prop := va_Qi (S := (Nat → Value)) (fun (r : Int32) (u : (Nat → Value)) => r = 0 ∧ gM g0 u [21] ∧ gF u [(21, .int 2)]) (fun u => gB D ca A [(a0, .inr (3, rg 22 u)), (a1, .inr (10, rg 9 g1))]) A
set_option maxHeartbeats 8000000 in
set_option maxRecDepth 100000 in
theorem c_Parser_refuse_0 (l : Launch) (D : va_G) (ca : Nat → ClassId) (ad av : Nat → Nat) (sz : Nat) (a0 : Nat) (a1 : Nat) (g0 : Nat → Value) (g1 : Nat → Value) (hp0 : gF g0 [(11, .ref a1)]) (hp1 : gF g1 [(1, .int 0), (0, .int 0)]) : Met l ({ cls := "StaveHouse$Parser", name := "refuse", desc := "(I)Z" } : Jvm.MethodName) (Cond.code ({ cls := "StaveHouse$Parser", name := "refuse", desc := "(I)Z" } : Jvm.MethodName) prog_5_method_3_code 2 (Option.some Jvm.ClassFile.FieldType.boolean) :: wAll) ({ frames := 0, cells := 0, slots := 0, locals := 0 } : Room) (va_Pc [.ref a0, .int 2] (gPre D ca ad av [(a0, .inr (3, rg 22 g0)), (a1, .inr (10, rg 9 g1))] sz)) (Q_Parser_refuse_0 D ca a0 a1 g0 g1 (va_A [(a0, .inr (3, rg 22 g0)), (a1, .inr (10, rg 9 g1))] sz)) 0 0 (va_A [(a0, .inr (3, rg 22 g0)), (a1, .inr (10, rg 9 g1))] sz) := by
  refine gMet (Qc := Q_Parser_refuse_0 D ca a0 a1 g0 g1) (lv := [(0, .ref a0), (1, .int 2)]) (by decide) (Nat.le_of_ble_eq_true rfl) rfl (fun A p e s m below meth c ls hx hb hr hml hown hts hlk hnm hl hP hK hD hS hA hX => ?_)
  have hown : s.vm.findClass "StaveHouse$Parser" = some m.cls := hown
  have hnm : meth.name = "refuse" := hnm
  refine lv_aload_n hx hb d_5_3_0 rfl (lv_at hl 0 rfl) ?_
  refine lv_aload_n hx hb d_5_3_1 rfl (lv_at hl 0 rfl) ?_
  refine gget hx hb hts inW_3 hown hK hP 0 rfl rfl hp0 0 rfl (by decide) k_1_128 d_5_3_2 ?_
  refine gget hx hb hts inW_10 hown hK hP 1 rfl rfl hp1 1 rfl (by decide) k_1_72 d_5_3_5 ?_
  refine lv_iconst (v := 1) hx hb d_5_3_8 (by decide) ?_
  refine lv_icmp_ne (tgt := 16) hx hb d_5_3_9 (by decide) (fun _ => ?_) (fun c => absurd c (by decide))
  refine lv_iload_n hx hb d_5_3_16 rfl (lv_at hl 1 rfl) ?_
  refine lv_bipush (v := 16) hx hb d_5_3_17 (by decide) ?_
  refine lv_aload_n hx hb d_5_3_19 rfl (lv_at hl 0 rfl) ?_
  refine gget hx hb hts inW_3 hown hK hP 0 rfl rfl hp0 0 rfl (by decide) k_1_128 d_5_3_20 ?_
  refine gget hx hb hts inW_10 hown hK hP 1 rfl rfl hp1 0 rfl (by decide) k_1_75 d_5_3_23 ?_
  refine lv_imul hx hb d_5_3_26 ?_
  refine lv_topi (fun y1 ey1 => ?_)
  obtain rfl : y1 = 0 := ey1.trans (by decide)
  refine lv_iadd hx hb d_5_3_27 ?_
  refine lv_topi (fun y2 ey2 => ?_)
  obtain rfl : y2 = 2 := ey2.trans (by decide)
  refine gput hx hb hts inW_3 tyX3 tyX3_ok nmX3 hown hK hP hD hS 0 rfl rfl hp0 21 (by decide) k_1_138 rfl rfl rfl d_5_3_28 (L' := [(21, .int 2), (11, .ref a1)]) rfl (fun f3 H3 locs3 hF3 hm3 hP3 hD3 hS3 => ?_)
  have hM3 := gM.tr (gM.rf (f := g0)) hm3
  have hP3 : va_P D cls [(a0, .inr (3, rg 22 f3)), (a1, .inr (10, rg 9 g1))] H3 := hP3
  have hD3 : va_D A [(a0, .inr (3, rg 22 f3)), (a1, .inr (10, rg 9 g1))] := hD3
  clear hm3
  refine lv_iconst (v := 0) hx hb d_5_3_31 (by decide) ?_
  have hP9 := hP3.sub (ws' := [(a0, .inr (3, rg 22 f3)), (a1, .inr (10, rg 9 g1))]) [0, 1] rfl
  have hD9 := hD3.sub (ws' := [(a0, .inr (3, rg 22 f3)), (a1, .inr (10, rg 9 g1))]) [0, 1] (by decide) rfl
  refine W.widen (k := 0) (n := 0) (Nat.le_of_ble_eq_true rfl) (Nat.le_of_ble_eq_true rfl) ?_
  exact W.zret (v := 0) hx hb hr rfl (fun t ht hW => ⟨⟨0, (f3), rfl, ⟨rfl, hM3.mono (by decide), hF3.sub [0] rfl⟩, by rw [ht]; exact hP9, va_K.moved hW.alike hK, hD9⟩, hS3.F ht⟩) hS3.2.2 d_5_3_32
abbrev Q_Parser_parse_0 (D : va_G) (ca : Nat → ClassId) (a0 : Nat) (a1 : Nat) (a3 : Nat) (a5 : Nat) (a6 : Nat) (a7 : Nat) (g0 : Nat → Value) (g1 : Nat → Value) (g3 : Nat → Value) (g5 : Nat → Int64) (g6 : Nat → Int32) (g7 : Nat → Int32) (a2 : Nat) (A : Nat → Prop) : Array Value → State → Outcome → State → Prop := va_Qi (S := (Nat → Value) × (Nat → Value) × (Nat → Int64) × (Nat → Int32) × (Nat → Int32)) (fun (r : Int32) (u : (Nat → Value) × (Nat → Value) × (Nat → Int64) × (Nat → Int32) × (Nat → Int32)) => r = 2 ∧ gM g0 u.1 [21, 18, 17, 16, 15, 14] ∧ gF u.1 [(21, .int 2), (16, .int 0)] ∧ gM g3 u.2.1 [2, 1, 0, 8] ∧ gF u.2.1 [(1, .int 0), (0, .int 0), (8, .int 0)] ∧ gF u.2.2.1 [] ∧ gF u.2.2.2.1 [(0, 0)] ∧ gF u.2.2.2.2 [(0, 0)]) (fun u => gB D ca A [(a0, .inr (3, rg 22 u.1)), (a1, .inr (0, rg 3 g1)), (a3, .inr (10, rg 9 u.2.1)), (a5, .inl (ca 1, 3001, .inr (.inl u.2.2.1))), (a6, .inl (ca 0, 3001, .inl u.2.2.2.1)), (a7, .inl (ca 0, 3001, .inl u.2.2.2.2))]) A
set_option maxHeartbeats 8000000 in
set_option maxRecDepth 100000 in
theorem c_Parser_parse_0 (l : Launch) (D : va_G) (ca : Nat → ClassId) (ad av : Nat → Nat) (sz : Nat) (a0 : Nat) (a1 : Nat) (a3 : Nat) (a5 : Nat) (a6 : Nat) (a7 : Nat) (g0 : Nat → Value) (g1 : Nat → Value) (g3 : Nat → Value) (g5 : Nat → Int64) (g6 : Nat → Int32) (g7 : Nat → Int32) (a2 : Nat) (hp0 : gF g0 [(11, .ref a3)]) (hp1 : gF g1 [(1, .int 0)]) (hp3 : gF g3 [(7, .ref a5), (6, .ref a6), (5, .ref a7)]) (hp5 : gF g5 []) (hp6 : gF g6 []) (hp7 : gF g7 []) : Met l ({ cls := "StaveHouse$Parser", name := "parse", desc := "(LStaveHouse$ByteRow;LStaveHouse$Piece;)I" } : Jvm.MethodName) (Cond.code ({ cls := "StaveHouse$Parser", name := "parse", desc := "(LStaveHouse$ByteRow;LStaveHouse$Piece;)I" } : Jvm.MethodName) prog_5_method_2_code 5 (Option.some Jvm.ClassFile.FieldType.int) :: wAll) ({ frames := 3, cells := 0, slots := 0, locals := 62 } : Room) (va_Pc [.ref a0, .ref a1, .ref a2] (gPre D ca ad av [(a0, .inr (3, rg 22 g0)), (a1, .inr (0, rg 3 g1)), (a3, .inr (10, rg 9 g3)), (a5, .inl (ca 1, 3001, .inr (.inl g5))), (a6, .inl (ca 0, 3001, .inl g6)), (a7, .inl (ca 0, 3001, .inl g7))] sz)) (Q_Parser_parse_0 D ca a0 a1 a3 a5 a6 a7 g0 g1 g3 g5 g6 g7 a2 (va_A [(a0, .inr (3, rg 22 g0)), (a1, .inr (0, rg 3 g1)), (a3, .inr (10, rg 9 g3)), (a5, .inl (ca 1, 3001, .inr (.inl g5))), (a6, .inl (ca 0, 3001, .inl g6)), (a7, .inl (ca 0, 3001, .inl g7))] sz)) 0 0 (va_A [(a0, .inr (3, rg 22 g0)), (a1, .inr (0, rg 3 g1)), (a3, .inr (10, rg 9 g3)), (a5, .inl (ca 1, 3001, .inr (.inl g5))), (a6, .inl (ca 0, 3001, .inl g6)), (a7, .inl (ca 0, 3001, .inl g7))] sz) := by
  refine gMet (Qc := Q_Parser_parse_0 D ca a0 a1 a3 a5 a6 a7 g0 g1 g3 g5 g6 g7 a2) (lv := [(0, .ref a0), (1, .ref a1), (2, .ref a2)]) (by decide) (Nat.le_of_ble_eq_true rfl) rfl (fun A p e s m below meth c ls hx hb hr hml hown hts hlk hnm hl hP hK hD hS hA hX => ?_)
  have hown : s.vm.findClass "StaveHouse$Parser" = some m.cls := hown
  have hnm : meth.name = "parse" := hnm
  refine lv_aload_n hx hb d_5_2_0 rfl (lv_at hl 0 rfl) ?_
  refine lv_iconst (v := 0) hx hb d_5_2_1 (by decide) ?_
  refine gputX hx hb hts inW_3 tyX3 tyX3_ok nmX3 hown hK hP hD hS 0 rfl rfl hp0 14 (by decide) k_1_131 rfl rfl rfl d_5_2_2 (L' := [(11, .ref a3)]) rfl (fun f1 H1 locs1 hF1 hm1 hP1 hD1 hS1 => ?_)
  have hM1 := gM.tr (gM.rf (f := g0)) hm1
  have hP1 : va_P D cls [(a0, .inr (3, rg 22 f1)), (a1, .inr (0, rg 3 g1)), (a3, .inr (10, rg 9 g3)), (a5, .inl (ca 1, 3001, .inr (.inl g5))), (a6, .inl (ca 0, 3001, .inl g6)), (a7, .inl (ca 0, 3001, .inl g7))] H1 := hP1
  have hD1 : va_D A [(a0, .inr (3, rg 22 f1)), (a1, .inr (0, rg 3 g1)), (a3, .inr (10, rg 9 g3)), (a5, .inl (ca 1, 3001, .inr (.inl g5))), (a6, .inl (ca 0, 3001, .inl g6)), (a7, .inl (ca 0, 3001, .inl g7))] := hD1
  clear hm1
  refine lv_aload_n hx hb d_5_2_5 rfl (lv_at hl 0 rfl) ?_
  refine lv_iconst (v := 0) hx hb d_5_2_6 (by decide) ?_
  refine gputX hx hb hts inW_3 tyX3 tyX3_ok nmX3 hown hK hP1 hD1 hS1 0 rfl rfl hF1 15 (by decide) k_1_132 rfl rfl rfl d_5_2_7 (L' := [(11, .ref a3)]) rfl (fun f2 H2 locs2 hF2 hm2 hP2 hD2 hS2 => ?_)
  have hM2 := gM.tr hM1 hm2
  have hP2 : va_P D cls [(a0, .inr (3, rg 22 f2)), (a1, .inr (0, rg 3 g1)), (a3, .inr (10, rg 9 g3)), (a5, .inl (ca 1, 3001, .inr (.inl g5))), (a6, .inl (ca 0, 3001, .inl g6)), (a7, .inl (ca 0, 3001, .inl g7))] H2 := hP2
  have hD2 : va_D A [(a0, .inr (3, rg 22 f2)), (a1, .inr (0, rg 3 g1)), (a3, .inr (10, rg 9 g3)), (a5, .inl (ca 1, 3001, .inr (.inl g5))), (a6, .inl (ca 0, 3001, .inl g6)), (a7, .inl (ca 0, 3001, .inl g7))] := hD2
  clear hP1 hD1 hS1 hF1 hM1 hm2
  refine lv_aload_n hx hb d_5_2_10 rfl (lv_at hl 0 rfl) ?_
  refine lv_iconst (v := 0) hx hb d_5_2_11 (by decide) ?_
  refine gput hx hb hts inW_3 tyX3 tyX3_ok nmX3 hown hK hP2 hD2 hS2 0 rfl rfl hF2 16 (by decide) k_1_133 rfl rfl rfl d_5_2_12 (L' := [(16, .int 0), (11, .ref a3)]) rfl (fun f3 H3 locs3 hF3 hm3 hP3 hD3 hS3 => ?_)
  have hM3 := gM.tr hM2 hm3
  have hP3 : va_P D cls [(a0, .inr (3, rg 22 f3)), (a1, .inr (0, rg 3 g1)), (a3, .inr (10, rg 9 g3)), (a5, .inl (ca 1, 3001, .inr (.inl g5))), (a6, .inl (ca 0, 3001, .inl g6)), (a7, .inl (ca 0, 3001, .inl g7))] H3 := hP3
  have hD3 : va_D A [(a0, .inr (3, rg 22 f3)), (a1, .inr (0, rg 3 g1)), (a3, .inr (10, rg 9 g3)), (a5, .inl (ca 1, 3001, .inr (.inl g5))), (a6, .inl (ca 0, 3001, .inl g6)), (a7, .inl (ca 0, 3001, .inl g7))] := hD3
  clear hP2 hD2 hS2 hF2 hM2 hm3
  refine lv_aload_n hx hb d_5_2_15 rfl (lv_at hl 0 rfl) ?_
  refine lv_iconst (v := 0) hx hb d_5_2_16 (by decide) ?_
  refine gputX hx hb hts inW_3 tyX3 tyX3_ok nmX3 hown hK hP3 hD3 hS3 0 rfl rfl hF3 17 (by decide) k_1_134 rfl rfl rfl d_5_2_17 (L' := [(16, .int 0), (11, .ref a3)]) rfl (fun f4 H4 locs4 hF4 hm4 hP4 hD4 hS4 => ?_)
  have hM4 := gM.tr hM3 hm4
  have hP4 : va_P D cls [(a0, .inr (3, rg 22 f4)), (a1, .inr (0, rg 3 g1)), (a3, .inr (10, rg 9 g3)), (a5, .inl (ca 1, 3001, .inr (.inl g5))), (a6, .inl (ca 0, 3001, .inl g6)), (a7, .inl (ca 0, 3001, .inl g7))] H4 := hP4
  have hD4 : va_D A [(a0, .inr (3, rg 22 f4)), (a1, .inr (0, rg 3 g1)), (a3, .inr (10, rg 9 g3)), (a5, .inl (ca 1, 3001, .inr (.inl g5))), (a6, .inl (ca 0, 3001, .inl g6)), (a7, .inl (ca 0, 3001, .inl g7))] := hD4
  clear hP3 hD3 hS3 hF3 hM3 hm4
  refine lv_aload_n hx hb d_5_2_20 rfl (lv_at hl 0 rfl) ?_
  refine lv_iconst (v := 0) hx hb d_5_2_21 (by decide) ?_
  refine gputX hx hb hts inW_3 tyX3 tyX3_ok nmX3 hown hK hP4 hD4 hS4 0 rfl rfl hF4 18 (by decide) k_1_135 rfl rfl rfl d_5_2_22 (L' := [(16, .int 0), (11, .ref a3)]) rfl (fun f5 H5 locs5 hF5 hm5 hP5 hD5 hS5 => ?_)
  have hM5 := gM.tr hM4 hm5
  have hP5 : va_P D cls [(a0, .inr (3, rg 22 f5)), (a1, .inr (0, rg 3 g1)), (a3, .inr (10, rg 9 g3)), (a5, .inl (ca 1, 3001, .inr (.inl g5))), (a6, .inl (ca 0, 3001, .inl g6)), (a7, .inl (ca 0, 3001, .inl g7))] H5 := hP5
  have hD5 : va_D A [(a0, .inr (3, rg 22 f5)), (a1, .inr (0, rg 3 g1)), (a3, .inr (10, rg 9 g3)), (a5, .inl (ca 1, 3001, .inr (.inl g5))), (a6, .inl (ca 0, 3001, .inl g6)), (a7, .inl (ca 0, 3001, .inl g7))] := hD5
  clear hP4 hD4 hS4 hF4 hM4 hm5
  refine lv_aload_n hx hb d_5_2_25 rfl (lv_at hl 0 rfl) ?_
  refine lv_iconst (v := 0) hx hb d_5_2_26 (by decide) ?_
  refine gput hx hb hts inW_3 tyX3 tyX3_ok nmX3 hown hK hP5 hD5 hS5 0 rfl rfl hF5 21 (by decide) k_1_138 rfl rfl rfl d_5_2_27 (L' := [(21, .int 0), (16, .int 0), (11, .ref a3)]) rfl (fun f6 H6 locs6 hF6 hm6 hP6 hD6 hS6 => ?_)
  have hM6 := gM.tr hM5 hm6
  have hP6 : va_P D cls [(a0, .inr (3, rg 22 f6)), (a1, .inr (0, rg 3 g1)), (a3, .inr (10, rg 9 g3)), (a5, .inl (ca 1, 3001, .inr (.inl g5))), (a6, .inl (ca 0, 3001, .inl g6)), (a7, .inl (ca 0, 3001, .inl g7))] H6 := hP6
  have hD6 : va_D A [(a0, .inr (3, rg 22 f6)), (a1, .inr (0, rg 3 g1)), (a3, .inr (10, rg 9 g3)), (a5, .inl (ca 1, 3001, .inr (.inl g5))), (a6, .inl (ca 0, 3001, .inl g6)), (a7, .inl (ca 0, 3001, .inl g7))] := hD6
  clear hP5 hD5 hS5 hF5 hM5 hm6
  refine lv_aload_n hx hb d_5_2_30 rfl (lv_at hl 0 rfl) ?_
  refine gget hx hb hts inW_3 hown hK hP6 0 rfl rfl hF6 2 rfl (by decide) k_1_128 d_5_2_31 ?_
  refine lv_aload_n hx hb d_5_2_34 rfl (lv_at hl 1 rfl) ?_
  have hFc7 := va_free (wc := [(a3, .inr (10, rg 9 g3)), (a1, .inr (0, rg 3 g1)), (a5, .inl (ca 1, 3001, .inr (.inl g5))), (a6, .inl (ca 0, 3001, .inl g6)), (a7, .inl (ca 0, 3001, .inl g7))]) hD6 hS6 hA [2, 1, 3, 4, 5] rfl
  refine va_callv (va_runV (As := [.ref a1]) (rest := []) ⟨hx, hb, hml, hown, hts⟩ (c_Tokens_start_0 l D ca ad av H6.size a3 a1 a5 a6 a7 g3 g1 g5 g6 g7 (hp3.sub [0, 1, 2] rfl) (hp1.sub [0] rfl) (hp5.sub [] rfl) (hp6.sub [] rfl) (hp7.sub [] rfl)) (cwV 1 hts (gdV k_3_30 k_3_31 k_3_32 k_1_5 k_3_33) rfl rfl rfl (by decide +kernel) ⟨Nat.le_of_ble_eq_true rfl, Nat.le_of_ble_eq_true rfl⟩) (gPV hP6 hD6 hK hS6 hA hX [2, 1, 3, 4, 5] (by decide) rfl a3 [.ref a1] 2 (ci := 10) (r := (RX10, TX10, 9)) rfl rfl) rfl rfl hl.1 rfl (lv_room (Nat.le_of_ble_eq_true rfl)) d_5_2_35 ⟨Nat.le_of_ble_eq_true rfl, Nat.le_of_ble_eq_true rfl⟩) hS6 (fun q _ h => hFc7 q h) hFc7 (fun u7 t7 H7 locs7 ht7 hvm7 hw7 hB7 hz7 hk7 hS7 => ?_)
  obtain ⟨x7_0, x7_1, x7_2, x7_3⟩ := u7
  try dsimp only at hw7 hB7
  obtain ⟨hw7_0, hw7_1, hw7_2, hw7_3, hw7_4⟩ := hw7
  obtain ⟨hP7, hD7⟩ := gJoin (wr := [(a0, .inr (3, rg 22 f6))]) (w1 := [(a3, .inr (10, rg 9 x7_0)), (a1, .inr (0, rg 3 g1)), (a5, .inl (ca 1, 3001, .inr (.inl x7_1))), (a6, .inl (ca 0, 3001, .inl x7_2)), (a7, .inl (ca 0, 3001, .inl x7_3))]) hP6 hD6 [2, 1, 3, 4, 5] [0] rfl rfl (by decide) (by decide) hk7 hFc7 ht7 hB7
  have hF7_0 : gF x7_0 [(1, .int 0), (0, .int 0), (8, .int 0), (7, .ref a5), (6, .ref a6), (5, .ref a7)] := gF.upd hp3 hw7_0 hw7_1 rfl
  have hM7_0 := gM.tr (gM.rf (f := g3)) hw7_0
  have hP7 : va_P D cls [(a0, .inr (3, rg 22 f6)), (a3, .inr (10, rg 9 x7_0)), (a1, .inr (0, rg 3 g1)), (a5, .inl (ca 1, 3001, .inr (.inl x7_1))), (a6, .inl (ca 0, 3001, .inl x7_2)), (a7, .inl (ca 0, 3001, .inl x7_3))] H7 := hP7
  have hD7 : va_D A [(a0, .inr (3, rg 22 f6)), (a3, .inr (10, rg 9 x7_0)), (a1, .inr (0, rg 3 g1)), (a5, .inl (ca 1, 3001, .inr (.inl x7_1))), (a6, .inl (ca 0, 3001, .inl x7_2)), (a7, .inl (ca 0, 3001, .inl x7_3))] := hD7
  refine W.widen (k := 0) (n := 0) (Nat.le_of_ble_eq_true rfl) (Nat.le_of_ble_eq_true rfl) ?_
  refine lv_iconst (v := 1) hx hb d_5_2_38 (by decide) ?_
  refine lv_istore_n (lv' := [(3, .int 1), (0, .ref a0), (1, .ref a1), (2, .ref a2)]) hx hb d_5_2_39 rfl hl (by decide) rfl (fun ls hl => ?_)
  refine lv_iconst (v := 0) hx hb d_5_2_40 (by decide) ?_
  refine lv_istore (lv' := [(4, .int 0), (3, .int 1), (0, .ref a0), (1, .ref a1), (2, .ref a2)]) hx hb d_5_2_41 hl (by decide) rfl (fun ls hl => ?_)
  refine lv_iload hx hb d_5_2_43 (lv_at hl 0 rfl) ?_
  refine lv_bipush (v := 9) hx hb d_5_2_45 (by decide) ?_
  refine lv_icmp_ge (tgt := 93) hx hb d_5_2_47 (by decide) (fun c => absurd c (by decide)) (fun _ => ?_)
  refine lv_iload_n hx hb d_5_2_50 rfl (lv_at hl 1 rfl) ?_
  refine lv_if_eq (tgt := 93) hx hb d_5_2_51 (by decide) (fun c => absurd c (by decide)) (fun _ => ?_)
  refine lv_aload_n hx hb d_5_2_54 rfl (lv_at hl 2 rfl) ?_
  have hFc8 := va_free (wc := [(a0, .inr (3, rg 22 f6)), (a3, .inr (10, rg 9 x7_0))]) hD7 hS7 hA [0, 1] rfl
  refine va_calli (va_runV (As := []) (rest := []) ⟨hx, hb, hml, hown, hts⟩ (c_Parser_beginsHead_0 l D ca ad av H7.size a0 a3 f6 x7_0 (hF6.sub [2] rfl) (hF7_0.sub [1] rfl)) (cwV 0 hts (gdV k_3_155 k_3_157 ks_2 k_1_4 k_3_158) rfl rfl rfl (by decide +kernel) ⟨Nat.le_of_ble_eq_true rfl, Nat.le_of_ble_eq_true rfl⟩) (gPV hP7 hD7 hK hS7 hA hX [0, 1] (by decide) rfl a0 [] 0 (ci := 3) (r := (RX3, TX3, 22)) rfl rfl) rfl rfl hl.1 rfl (lv_room (Nat.le_of_ble_eq_true rfl)) d_5_2_55 ⟨Nat.le_of_ble_eq_true rfl, Nat.le_of_ble_eq_true rfl⟩) hS7 (fun q _ h => hFc8 q h) hFc8 (fun r8 u8 t8 H8 locs8 ht8 hvm8 hw8 hB8 hz8 hk8 hS8 => ?_)
  have hr8 := hw8
  obtain ⟨hP8, hD8⟩ := gJoin (wr := [(a1, .inr (0, rg 3 g1)), (a5, .inl (ca 1, 3001, .inr (.inl x7_1))), (a6, .inl (ca 0, 3001, .inl x7_2)), (a7, .inl (ca 0, 3001, .inl x7_3))]) (w1 := [(a0, .inr (3, rg 22 f6)), (a3, .inr (10, rg 9 x7_0))]) hP7 hD7 [0, 1] [2, 3, 4, 5] rfl rfl (by decide) (by decide) hk8 hFc8 ht8 hB8
  have hP8 : va_P D cls [(a1, .inr (0, rg 3 g1)), (a5, .inl (ca 1, 3001, .inr (.inl x7_1))), (a6, .inl (ca 0, 3001, .inl x7_2)), (a7, .inl (ca 0, 3001, .inl x7_3)), (a0, .inr (3, rg 22 f6)), (a3, .inr (10, rg 9 x7_0))] H8 := hP8
  have hD8 : va_D A [(a1, .inr (0, rg 3 g1)), (a5, .inl (ca 1, 3001, .inr (.inl x7_1))), (a6, .inl (ca 0, 3001, .inl x7_2)), (a7, .inl (ca 0, 3001, .inl x7_3)), (a0, .inr (3, rg 22 f6)), (a3, .inr (10, rg 9 x7_0))] := hD8
  refine W.widen (k := 0) (n := 0) (Nat.le_of_ble_eq_true rfl) (Nat.le_of_ble_eq_true rfl) ?_
  subst hr8
  refine lv_if_eq (tgt := 93) hx hb d_5_2_58 (by decide) (fun _ => ?_) (fun c => absurd (by decide) c)
  refine lv_iload_n hx hb d_5_2_93 rfl (lv_at hl 1 rfl) ?_
  refine lv_if_eq (tgt := 116) hx hb d_5_2_94 (by decide) (fun c => absurd c (by decide)) (fun _ => ?_)
  refine lv_aload_n hx hb d_5_2_97 rfl (lv_at hl 2 rfl) ?_
  refine gget hx hb hts inW_3 hown hK hP8 4 rfl rfl hF6 2 rfl (by decide) k_1_128 d_5_2_98 ?_
  refine lv_ldc2 hx hb hown (hts _ k_4_91) d_5_2_101 ?_
  have hFc9 := va_free (wc := [(a3, .inr (10, rg 9 x7_0))]) hD8 hS8 hA [5] rfl
  refine va_calli (va_runV (As := [.long 508675318629]) (rest := []) ⟨hx, hb, hml, hown, hts⟩ (c_Tokens_isWord_4 l D ca ad av H8.size a3 x7_0 (hF7_0.sub [1] rfl)) (cwV 1 hts (gdV k_3_160 k_3_161 k_3_162 k_1_5 k_3_163) rfl rfl rfl (by decide +kernel) ⟨Nat.le_of_ble_eq_true rfl, Nat.le_of_ble_eq_true rfl⟩) (gPV hP8 hD8 hK hS8 hA hX [5] (by decide) rfl a3 [.long 508675318629] 5 (ci := 10) (r := (RX10, TX10, 9)) rfl rfl) rfl rfl hl.1 rfl (lv_room (Nat.le_of_ble_eq_true rfl)) d_5_2_104 ⟨Nat.le_of_ble_eq_true rfl, Nat.le_of_ble_eq_true rfl⟩) hS8 (fun q _ h => hFc9 q h) hFc9 (fun r9 u9 t9 H9 locs9 ht9 hvm9 hw9 hB9 hz9 hk9 hS9 => ?_)
  have hr9 := hw9
  obtain ⟨hP9, hD9⟩ := gJoin (wr := [(a1, .inr (0, rg 3 g1)), (a5, .inl (ca 1, 3001, .inr (.inl x7_1))), (a6, .inl (ca 0, 3001, .inl x7_2)), (a7, .inl (ca 0, 3001, .inl x7_3)), (a0, .inr (3, rg 22 f6))]) (w1 := [(a3, .inr (10, rg 9 x7_0))]) hP8 hD8 [5] [0, 1, 2, 3, 4] rfl rfl (by decide) (by decide) hk9 hFc9 ht9 hB9
  have hP9 : va_P D cls [(a1, .inr (0, rg 3 g1)), (a5, .inl (ca 1, 3001, .inr (.inl x7_1))), (a6, .inl (ca 0, 3001, .inl x7_2)), (a7, .inl (ca 0, 3001, .inl x7_3)), (a0, .inr (3, rg 22 f6)), (a3, .inr (10, rg 9 x7_0))] H9 := hP9
  have hD9 : va_D A [(a1, .inr (0, rg 3 g1)), (a5, .inl (ca 1, 3001, .inr (.inl x7_1))), (a6, .inl (ca 0, 3001, .inl x7_2)), (a7, .inl (ca 0, 3001, .inl x7_3)), (a0, .inr (3, rg 22 f6)), (a3, .inr (10, rg 9 x7_0))] := hD9
  refine W.widen (k := 0) (n := 0) (Nat.le_of_ble_eq_true rfl) (Nat.le_of_ble_eq_true rfl) ?_
  subst hr9
  refine lv_if_ne (tgt := 116) hx hb d_5_2_107 (by decide) (fun c => absurd c (by decide)) (fun _ => ?_)
  refine lv_aload_n hx hb d_5_2_110 rfl (lv_at hl 2 rfl) ?_
  refine lv_iconst (v := 2) hx hb d_5_2_111 (by decide) ?_
  have hFc10 := va_free (wc := [(a0, .inr (3, rg 22 f6)), (a3, .inr (10, rg 9 x7_0))]) hD9 hS9 hA [4, 5] rfl
  refine va_calli (va_runV (As := [.int 2]) (rest := []) ⟨hx, hb, hml, hown, hts⟩ (c_Parser_refuse_0 l D ca ad av H9.size a0 a3 f6 x7_0 (hF6.sub [2] rfl) (hF7_0.sub [0, 1] rfl)) (cwV 1 hts (gdV k_3_196 k_3_198 ks_7 k_1_4 k_3_199) rfl rfl rfl (by decide +kernel) ⟨Nat.le_of_ble_eq_true rfl, Nat.le_of_ble_eq_true rfl⟩) (gPV hP9 hD9 hK hS9 hA hX [4, 5] (by decide) rfl a0 [.int 2] 4 (ci := 3) (r := (RX3, TX3, 22)) rfl rfl) rfl rfl hl.1 rfl (lv_room (Nat.le_of_ble_eq_true rfl)) d_5_2_112 ⟨Nat.le_of_ble_eq_true rfl, Nat.le_of_ble_eq_true rfl⟩) hS9 (fun q _ h => hFc10 q h) hFc10 (fun r10 x10_0 t10 H10 locs10 ht10 hvm10 hw10 hB10 hz10 hk10 hS10 => ?_)
  obtain ⟨hr10, hw10_1, hw10_2⟩ := hw10
  obtain ⟨hP10, hD10⟩ := gJoin (wr := [(a1, .inr (0, rg 3 g1)), (a5, .inl (ca 1, 3001, .inr (.inl x7_1))), (a6, .inl (ca 0, 3001, .inl x7_2)), (a7, .inl (ca 0, 3001, .inl x7_3))]) (w1 := [(a0, .inr (3, rg 22 x10_0)), (a3, .inr (10, rg 9 x7_0))]) hP9 hD9 [4, 5] [0, 1, 2, 3] rfl rfl (by decide) (by decide) hk10 hFc10 ht10 hB10
  have hF10_0 : gF x10_0 [(21, .int 2), (16, .int 0), (11, .ref a3)] := gF.upd hF6 hw10_1 hw10_2 rfl
  have hM10_0 := gM.tr hM6 hw10_1
  have hP10 : va_P D cls [(a1, .inr (0, rg 3 g1)), (a5, .inl (ca 1, 3001, .inr (.inl x7_1))), (a6, .inl (ca 0, 3001, .inl x7_2)), (a7, .inl (ca 0, 3001, .inl x7_3)), (a0, .inr (3, rg 22 x10_0)), (a3, .inr (10, rg 9 x7_0))] H10 := hP10
  have hD10 : va_D A [(a1, .inr (0, rg 3 g1)), (a5, .inl (ca 1, 3001, .inr (.inl x7_1))), (a6, .inl (ca 0, 3001, .inl x7_2)), (a7, .inl (ca 0, 3001, .inl x7_3)), (a0, .inr (3, rg 22 x10_0)), (a3, .inr (10, rg 9 x7_0))] := hD10
  refine W.widen (k := 0) (n := 0) (Nat.le_of_ble_eq_true rfl) (Nat.le_of_ble_eq_true rfl) ?_
  subst hr10
  refine lv_istore_n (lv' := [(3, .int 0), (4, .int 0), (0, .ref a0), (1, .ref a1), (2, .ref a2)]) hx hb d_5_2_115 rfl hl (by decide) rfl (fun ls hl => ?_)
  refine lv_iconst (v := 0) hx hb d_5_2_116 (by decide) ?_
  refine lv_istore (lv' := [(4, .int 0), (3, .int 0), (0, .ref a0), (1, .ref a1), (2, .ref a2)]) hx hb d_5_2_117 hl (by decide) rfl (fun ls hl => ?_)
  refine lv_iload hx hb d_5_2_119 (lv_at hl 0 rfl) ?_
  refine lv_iconst (v := 4) hx hb d_5_2_121 (by decide) ?_
  refine lv_icmp_ge (tgt := 154) hx hb d_5_2_122 (by decide) (fun c => absurd c (by decide)) (fun _ => ?_)
  refine lv_iload_n hx hb d_5_2_125 rfl (lv_at hl 1 rfl) ?_
  refine lv_if_eq (tgt := 154) hx hb d_5_2_126 (by decide) (fun _ => ?_) (fun c => absurd (by decide) c)
  refine lv_iload_n hx hb d_5_2_154 rfl (lv_at hl 1 rfl) ?_
  refine lv_if_eq (tgt := 174) hx hb d_5_2_155 (by decide) (fun _ => ?_) (fun c => absurd (by decide) c)
  refine lv_aload_n hx hb d_5_2_174 rfl (lv_at hl 2 rfl) ?_
  refine gget hx hb hts inW_3 hown hK hP10 4 rfl rfl hF10_0 0 rfl (by decide) k_1_138 d_5_2_175 ?_
  have hP9 := hP10.sub (ws' := [(a0, .inr (3, rg 22 x10_0)), (a1, .inr (0, rg 3 g1)), (a3, .inr (10, rg 9 x7_0)), (a5, .inl (ca 1, 3001, .inr (.inl x7_1))), (a6, .inl (ca 0, 3001, .inl x7_2)), (a7, .inl (ca 0, 3001, .inl x7_3))]) [4, 0, 5, 1, 2, 3] rfl
  have hD9 := hD10.sub (ws' := [(a0, .inr (3, rg 22 x10_0)), (a1, .inr (0, rg 3 g1)), (a3, .inr (10, rg 9 x7_0)), (a5, .inl (ca 1, 3001, .inr (.inl x7_1))), (a6, .inl (ca 0, 3001, .inl x7_2)), (a7, .inl (ca 0, 3001, .inl x7_3))]) [4, 0, 5, 1, 2, 3] (by decide) rfl
  refine W.widen (k := 0) (n := 0) (Nat.le_of_ble_eq_true rfl) (Nat.le_of_ble_eq_true rfl) ?_
  exact W.iret (v := 2) hx hb hr (fun t ht hW => ⟨⟨2, (x10_0, x7_0, x7_1, x7_2, x7_3), rfl, ⟨rfl, hM10_0.mono (by decide), hF10_0.sub [0, 1] rfl, hM7_0.mono (by decide), hF7_0.sub [0, 1, 2] rfl, hw7_2.sub [] rfl, hw7_3.sub [0] rfl, hw7_4.sub [0] rfl⟩, by rw [ht]; exact hP9, va_K.moved hW.alike hK, hD9⟩, hS10.F ht⟩) hS10.2.2 d_5_2_178
abbrev Q_ByteRow_clear_0 (D : va_G) (ca : Nat → ClassId) (a0 : Nat) (g0 : Nat → Value) (A : Nat → Prop) : Array Value → State → Outcome → State → Prop := va_Qv (S := (Nat → Value)) (fun (u : (Nat → Value)) => gM g0 u [2, 1] ∧ gF u [(2, .int 0), (1, .int 0)]) (fun u => gB D ca A [(a0, .inr (0, rg 3 u))]) A
set_option maxHeartbeats 8000000 in
set_option maxRecDepth 100000 in
theorem c_ByteRow_clear_0 (l : Launch) (D : va_G) (ca : Nat → ClassId) (ad av : Nat → Nat) (sz : Nat) (a0 : Nat) (g0 : Nat → Value) (hp0 : gF g0 []) : Met l ({ cls := "StaveHouse$ByteRow", name := "clear", desc := "()V" } : Jvm.MethodName) (Cond.code ({ cls := "StaveHouse$ByteRow", name := "clear", desc := "()V" } : Jvm.MethodName) prog_2_method_2_code 1 (Option.none : Option Jvm.ClassFile.FieldType) :: wAll) ({ frames := 0, cells := 0, slots := 0, locals := 0 } : Room) (va_Pc [.ref a0] (gPre D ca ad av [(a0, .inr (0, rg 3 g0))] sz)) (Q_ByteRow_clear_0 D ca a0 g0 (va_A [(a0, .inr (0, rg 3 g0))] sz)) 0 0 (va_A [(a0, .inr (0, rg 3 g0))] sz) := by
  refine gMet (Qc := Q_ByteRow_clear_0 D ca a0 g0) (lv := [(0, .ref a0)]) (by decide) (Nat.le_of_ble_eq_true rfl) rfl (fun A p e s m below meth c ls hx hb hr hml hown hts hlk hnm hl hP hK hD hS hA hX => ?_)
  have hown : s.vm.findClass "StaveHouse$ByteRow" = some m.cls := hown
  have hnm : meth.name = "clear" := hnm
  refine lv_aload_n hx hb d_2_2_0 rfl (lv_at hl 0 rfl) ?_
  refine lv_iconst (v := 0) hx hb d_2_2_1 (by decide) ?_
  refine gput hx hb hts inW_0 tyX0 tyX0_ok nmX0 hown hK hP hD hS 0 rfl rfl hp0 1 (by decide) k_1_42 rfl rfl rfl d_2_2_2 (L' := [(1, .int 0)]) rfl (fun f1 H1 locs1 hF1 hm1 hP1 hD1 hS1 => ?_)
  have hM1 := gM.tr (gM.rf (f := g0)) hm1
  have hP1 : va_P D cls [(a0, .inr (0, rg 3 f1))] H1 := hP1
  have hD1 : va_D A [(a0, .inr (0, rg 3 f1))] := hD1
  clear hm1
  refine lv_aload_n hx hb d_2_2_5 rfl (lv_at hl 0 rfl) ?_
  refine lv_iconst (v := 0) hx hb d_2_2_6 (by decide) ?_
  refine gput hx hb hts inW_0 tyX0 tyX0_ok nmX0 hown hK hP1 hD1 hS1 0 rfl rfl hF1 2 (by decide) k_1_48 rfl rfl rfl d_2_2_7 (L' := [(2, .int 0), (1, .int 0)]) rfl (fun f2 H2 locs2 hF2 hm2 hP2 hD2 hS2 => ?_)
  have hM2 := gM.tr hM1 hm2
  have hP2 : va_P D cls [(a0, .inr (0, rg 3 f2))] H2 := hP2
  have hD2 : va_D A [(a0, .inr (0, rg 3 f2))] := hD2
  clear hP1 hD1 hS1 hF1 hM1 hm2
  have hP9 := hP2.sub (ws' := [(a0, .inr (0, rg 3 f2))]) [0] rfl
  have hD9 := hD2.sub (ws' := [(a0, .inr (0, rg 3 f2))]) [0] (by decide) rfl
  refine W.widen (k := 0) (n := 0) (Nat.le_of_ble_eq_true rfl) (Nat.le_of_ble_eq_true rfl) ?_
  exact W.vret hx hb hr (fun t ht hW => ⟨⟨(f2), rfl, ⟨hM2.mono (by decide), hF2.sub [0, 1] rfl⟩, by rw [ht]; exact hP9, va_K.moved hW.alike hK, hD9⟩, hS2.F ht⟩) hS2.2.2 d_2_2_10
abbrev Q_S_read_0 (D : va_G) (ca : Nat → ClassId) (a0 : Nat) (a1 : Nat) (a5 : Nat) (a6 : Nat) (a9 : Nat) (a10 : Nat) (a11 : Nat) (g0 : Nat → Value) (g1 : Nat → Value) (g5 : Nat → Value) (g6 : Nat → Value) (g9 : Nat → Int64) (g10 : Nat → Int32) (g11 : Nat → Int32) (v0 : Int32) (A : Nat → Prop) : Array Value → State → Outcome → State → Prop := va_Qi (S := (Nat → Value) × (Nat → Value) × (Nat → Value) × (Nat → Value) × (Nat → Int64) × (Nat → Int32) × (Nat → Int32)) (fun (r : Int32) (u : (Nat → Value) × (Nat → Value) × (Nat → Value) × (Nat → Value) × (Nat → Int64) × (Nat → Int32) × (Nat → Int32)) => ((v0 < 0 → r = (-1)) ∧ (¬ v0 < 0 → v0 < 2 → r = 2) ∧ (¬ v0 < 0 → ¬ v0 < 2 → r = (-1))) ∧ gM g0 u.1 [7] ∧ gF u.1 [] ∧ gM g1 u.2.1 [21, 18, 17, 16, 15, 14] ∧ gF u.2.1 [] ∧ gM g5 u.2.2.1 [2, 1] ∧ gF u.2.2.1 [(1, .int 0)] ∧ gM g6 u.2.2.2.1 [2, 1, 0, 8] ∧ gF u.2.2.2.1 [] ∧ gF u.2.2.2.2.1 [] ∧ gF u.2.2.2.2.2.1 [] ∧ gF u.2.2.2.2.2.2 []) (fun u => gB D ca A [(a0, .inr (12, rg 10 u.1)), (a1, .inr (3, rg 22 u.2.1)), (a5, .inr (0, rg 3 u.2.2.1)), (a6, .inr (10, rg 9 u.2.2.2.1)), (a9, .inl (ca 1, 3001, .inr (.inl u.2.2.2.2.1))), (a10, .inl (ca 0, 3001, .inl u.2.2.2.2.2.1)), (a11, .inl (ca 0, 3001, .inl u.2.2.2.2.2.2))]) A
set_option maxHeartbeats 8000000 in
set_option maxRecDepth 100000 in
theorem c_S_read_0 (l : Launch) (D : va_G) (ca : Nat → ClassId) (ad av : Nat → Nat) (sz : Nat) (a0 : Nat) (a1 : Nat) (a5 : Nat) (a6 : Nat) (a9 : Nat) (a10 : Nat) (a11 : Nat) (g0 : Nat → Value) (g1 : Nat → Value) (g5 : Nat → Value) (g6 : Nat → Value) (g9 : Nat → Int64) (g10 : Nat → Int32) (g11 : Nat → Int32) (v0 : Int32) (hp0 : gF g0 [(4, .ref a1), (0, .ref a5), (7, .null)]) (hp1 : gF g1 [(11, .ref a6)]) (hp5 : gF g5 [(1, .int 0)]) (hp6 : gF g6 [(7, .ref a9), (6, .ref a10), (5, .ref a11)]) (hp9 : gF g9 []) (hp10 : gF g10 []) (hp11 : gF g11 []) : Met l ({ cls := "StaveHouse", name := "read", desc := "(I)I" } : Jvm.MethodName) (Cond.code ({ cls := "StaveHouse", name := "read", desc := "(I)I" } : Jvm.MethodName) prog_1_method_5_code 4 (Option.some Jvm.ClassFile.FieldType.int) :: wAll) ({ frames := 4, cells := 2, slots := 18, locals := 86 } : Room) (va_Pc [.ref a0, .int v0] (gPre D ca ad av [(a0, .inr (12, rg 10 g0)), (a1, .inr (3, rg 22 g1)), (a5, .inr (0, rg 3 g5)), (a6, .inr (10, rg 9 g6)), (a9, .inl (ca 1, 3001, .inr (.inl g9))), (a10, .inl (ca 0, 3001, .inl g10)), (a11, .inl (ca 0, 3001, .inl g11))] sz)) (Q_S_read_0 D ca a0 a1 a5 a6 a9 a10 a11 g0 g1 g5 g6 g9 g10 g11 v0 (va_A [(a0, .inr (12, rg 10 g0)), (a1, .inr (3, rg 22 g1)), (a5, .inr (0, rg 3 g5)), (a6, .inr (10, rg 9 g6)), (a9, .inl (ca 1, 3001, .inr (.inl g9))), (a10, .inl (ca 0, 3001, .inl g10)), (a11, .inl (ca 0, 3001, .inl g11))] sz)) 2 18 (va_A [(a0, .inr (12, rg 10 g0)), (a1, .inr (3, rg 22 g1)), (a5, .inr (0, rg 3 g5)), (a6, .inr (10, rg 9 g6)), (a9, .inl (ca 1, 3001, .inr (.inl g9))), (a10, .inl (ca 0, 3001, .inl g10)), (a11, .inl (ca 0, 3001, .inl g11))] sz) := by
  refine gMet (Qc := Q_S_read_0 D ca a0 a1 a5 a6 a9 a10 a11 g0 g1 g5 g6 g9 g10 g11 v0) (lv := [(0, .ref a0), (1, .int v0)]) (by decide) (Nat.le_of_ble_eq_true rfl) rfl (fun A p e s m below meth c ls hx hb hr hml hown hts hlk hnm hl hP hK hD hS hA hX => ?_)
  have hown : s.vm.findClass "StaveHouse" = some m.cls := hown
  have hnm : meth.name = "read" := hnm
  refine lv_iload_n hx hb d_1_5_0 rfl (lv_at hl 1 rfl) ?_
  refine lv_if_lt (tgt := 9) hx hb d_1_5_1 (by decide) (fun c1 => ?_) (fun c1 => ?_)
  · refine lv_iconst (v := (-1)) hx hb d_1_5_9 (by decide) ?_
    have hP9 := hP.sub (ws' := [(a0, .inr (12, rg 10 g0)), (a1, .inr (3, rg 22 g1)), (a5, .inr (0, rg 3 g5)), (a6, .inr (10, rg 9 g6)), (a9, .inl (ca 1, 3001, .inr (.inl g9))), (a10, .inl (ca 0, 3001, .inl g10)), (a11, .inl (ca 0, 3001, .inl g11))]) [0, 1, 2, 3, 4, 5, 6] rfl
    have hD9 := hD.sub (ws' := [(a0, .inr (12, rg 10 g0)), (a1, .inr (3, rg 22 g1)), (a5, .inr (0, rg 3 g5)), (a6, .inr (10, rg 9 g6)), (a9, .inl (ca 1, 3001, .inr (.inl g9))), (a10, .inl (ca 0, 3001, .inl g10)), (a11, .inl (ca 0, 3001, .inl g11))]) [0, 1, 2, 3, 4, 5, 6] (by decide) rfl
    refine W.widen (k := 2) (n := 18) (Nat.le_of_ble_eq_true rfl) (Nat.le_of_ble_eq_true rfl) ?_
    exact W.iret (v := (-1)) hx hb hr (fun t ht hW => ⟨⟨(-1), (g0, g1, g5, g6, g9, g10, g11), rfl, ⟨⟨(fun _ => rfl), (fun z0 z1 => absurd c1 z0), (fun z0 z1 => absurd c1 z0)⟩, (gM.rf.mono (by decide)), hp0.sub [] rfl, (gM.rf.mono (by decide)), hp1.sub [] rfl, (gM.rf.mono (by decide)), hp5.sub [0] rfl, (gM.rf.mono (by decide)), hp6.sub [] rfl, hp9.sub [] rfl, hp10.sub [] rfl, hp11.sub [] rfl⟩, by rw [ht]; exact hP9, va_K.moved hW.alike hK, hD9⟩, hS.F ht⟩) hS.2.2 d_1_5_10
  · refine lv_iload_n hx hb d_1_5_4 rfl (lv_at hl 1 rfl) ?_
    refine lv_iconst (v := 2) hx hb d_1_5_5 (by decide) ?_
    refine lv_icmp_lt (tgt := 11) hx hb d_1_5_6 (by decide) (fun c2 => ?_) (fun c2 => ?_)
    · refine lv_aload_n hx hb d_1_5_11 rfl (lv_at hl 0 rfl) ?_
      refine gget hx hb hts inW_12 hown hK hP 0 rfl rfl hp0 2 rfl (by decide) k_2_134 d_1_5_12 ?_
      refine lv_ifnonnullN hx hb d_1_5_15 ?_
      refine lv_aload_n hx hb d_1_5_18 rfl (lv_at hl 0 rfl) ?_
      refine gnew (L := [(1, .int 0), (8, .null)]) (C := RX6) (T := TX6) (N := 14) (ci := 6) hx hb hts inW_6 tyX6 tyX6_ok hown k_1_58 k_2_178 k_1_15 hK hP hD hS hA rfl (Nat.le_of_ble_eq_true rfl) (Nat.le_of_ble_eq_true rfl) d_1_5_19 (gF_cons rfl (gF_cons rfl (gF_nil))) (fun f3 q3 H3 hF3 hP3 hD3 hS3 => ?_)
      have hP3 : va_P D cls [(a0, .inr (12, rg 10 g0)), (a1, .inr (3, rg 22 g1)), (a5, .inr (0, rg 3 g5)), (a6, .inr (10, rg 9 g6)), (a9, .inl (ca 1, 3001, .inr (.inl g9))), (a10, .inl (ca 0, 3001, .inl g10)), (a11, .inl (ca 0, 3001, .inl g11)), (q3, .inr (6, rg 14 f3))] H3 := hP3
      have hD3 : va_D A [(a0, .inr (12, rg 10 g0)), (a1, .inr (3, rg 22 g1)), (a5, .inr (0, rg 3 g5)), (a6, .inr (10, rg 9 g6)), (a9, .inl (ca 1, 3001, .inr (.inl g9))), (a10, .inl (ca 0, 3001, .inl g10)), (a11, .inl (ca 0, 3001, .inl g11)), (q3, .inr (6, rg 14 f3))] := hD3
      refine W.widen (k := 1) (n := 14) (Nat.le_of_ble_eq_true rfl) (Nat.le_of_ble_eq_true rfl) ?_
      refine lv_dup hx hb d_1_5_22 rfl ?_
      have hFc4 := va_free (wc := [(q3, .inr (6, rg 14 f3))]) hD3 hS3 hA [7] rfl
      refine va_callv (va_runIN (As := []) (rest := [.ref q3, .ref a0]) ⟨hx, hb, hml, hown, hts⟩ (c_Piece_init_0 l D ca ad av H3.size q3 f3 (hF3.sub [] rfl)) ⟨va_cnB 0 hts (gdC k_2_181) rfl rfl rfl (hX.1 _ (List.mem_of_getElem? (i := 5) rfl)) (hts _ k_1_15) (by decide +kernel) ⟨Nat.le_of_ble_eq_true rfl, Nat.le_of_ble_eq_true rfl⟩, rfl, hts _ k_2_180⟩ (gPS hP3 hD3 hK hS3 hA hX [7] (by decide) rfl [.ref q3]) rfl rfl hl.1 rfl (lv_room (Nat.le_of_ble_eq_true rfl)) d_1_5_23 ⟨Nat.le_of_ble_eq_true rfl, Nat.le_of_ble_eq_true rfl⟩) hS3 (fun q _ h => hFc4 q h) hFc4 (fun x4_0 t4 H4 locs4 ht4 hvm4 hw4 hB4 hz4 hk4 hS4 => ?_)
      obtain ⟨hw4_0, hw4_1⟩ := hw4
      obtain ⟨hP4, hD4⟩ := gJoin (wr := [(a0, .inr (12, rg 10 g0)), (a1, .inr (3, rg 22 g1)), (a5, .inr (0, rg 3 g5)), (a6, .inr (10, rg 9 g6)), (a9, .inl (ca 1, 3001, .inr (.inl g9))), (a10, .inl (ca 0, 3001, .inl g10)), (a11, .inl (ca 0, 3001, .inl g11))]) (w1 := [(q3, .inr (6, rg 14 x4_0))]) hP3 hD3 [7] [0, 1, 2, 3, 4, 5, 6] rfl rfl (by decide) (by decide) hk4 hFc4 ht4 hB4
      have hF4_0 : gF x4_0 [(1, .int 0), (8, .null)] := gF.upd hF3 hw4_0 hw4_1 rfl
      have hP4 : va_P D cls [(a0, .inr (12, rg 10 g0)), (a1, .inr (3, rg 22 g1)), (a5, .inr (0, rg 3 g5)), (a6, .inr (10, rg 9 g6)), (a9, .inl (ca 1, 3001, .inr (.inl g9))), (a10, .inl (ca 0, 3001, .inl g10)), (a11, .inl (ca 0, 3001, .inl g11)), (q3, .inr (6, rg 14 x4_0))] H4 := hP4
      have hD4 : va_D A [(a0, .inr (12, rg 10 g0)), (a1, .inr (3, rg 22 g1)), (a5, .inr (0, rg 3 g5)), (a6, .inr (10, rg 9 g6)), (a9, .inl (ca 1, 3001, .inr (.inl g9))), (a10, .inl (ca 0, 3001, .inl g10)), (a11, .inl (ca 0, 3001, .inl g11)), (q3, .inr (6, rg 14 x4_0))] := hD4
      refine W.widen (k := 2) (n := 18) (Nat.le_of_ble_eq_true rfl) (Nat.le_of_ble_eq_true rfl) ?_
      refine gput hx hb hts inW_12 tyX12 tyX12_ok nmX12 hown hK hP4 hD4 hS4 0 rfl rfl hp0 7 (by decide) k_2_134 rfl rfl rfl d_1_5_26 (L' := [(7, .ref q3), (4, .ref a1), (0, .ref a5)]) rfl (fun f5 H5 locs5 hF5 hm5 hP5 hD5 hS5 => ?_)
      have hM5 := gM.tr (gM.rf (f := g0)) hm5
      have hP5 : va_P D cls [(a0, .inr (12, rg 10 f5)), (a1, .inr (3, rg 22 g1)), (a5, .inr (0, rg 3 g5)), (a6, .inr (10, rg 9 g6)), (a9, .inl (ca 1, 3001, .inr (.inl g9))), (a10, .inl (ca 0, 3001, .inl g10)), (a11, .inl (ca 0, 3001, .inl g11)), (q3, .inr (6, rg 14 x4_0))] H5 := hP5
      have hD5 : va_D A [(a0, .inr (12, rg 10 f5)), (a1, .inr (3, rg 22 g1)), (a5, .inr (0, rg 3 g5)), (a6, .inr (10, rg 9 g6)), (a9, .inl (ca 1, 3001, .inr (.inl g9))), (a10, .inl (ca 0, 3001, .inl g10)), (a11, .inl (ca 0, 3001, .inl g11)), (q3, .inr (6, rg 14 x4_0))] := hD5
      clear hP4 hD4 hS4 hm5
      refine lv_aload_n hx hb d_1_5_29 rfl (lv_at hl 0 rfl) ?_
      refine gget hx hb hts inW_12 hown hK hP5 0 rfl rfl hF5 0 rfl (by decide) k_2_134 d_1_5_30 ?_
      have hFc6 := va_free (wc := [(q3, .inr (6, rg 14 x4_0))]) hD5 hS5 hA [7] rfl
      refine va_callv (va_runV (As := []) (rest := []) ⟨hx, hb, hml, hown, hts⟩ (c_Piece_clear_0 l D ca ad av H5.size q3 x4_0 (hF4_0.sub [1] rfl)) (cwV 0 hts (gdV k_3_22 k_3_23 k_3_24 k_1_15 k_3_25) rfl rfl rfl (by decide +kernel) ⟨Nat.le_of_ble_eq_true rfl, Nat.le_of_ble_eq_true rfl⟩) (gPV hP5 hD5 hK hS5 hA hX [7] (by decide) rfl q3 [] 7 (ci := 6) (r := (RX6, TX6, 14)) rfl rfl) rfl rfl hl.1 rfl (lv_room (Nat.le_of_ble_eq_true rfl)) d_1_5_33 ⟨Nat.le_of_ble_eq_true rfl, Nat.le_of_ble_eq_true rfl⟩) hS5 (fun q _ h => hFc6 q h) hFc6 (fun x6_0 t6 H6 locs6 ht6 hvm6 hw6 hB6 hz6 hk6 hS6 => ?_)
      obtain ⟨hw6_0, hw6_1⟩ := hw6
      obtain ⟨hP6, hD6⟩ := gJoin (wr := [(a0, .inr (12, rg 10 f5)), (a1, .inr (3, rg 22 g1)), (a5, .inr (0, rg 3 g5)), (a6, .inr (10, rg 9 g6)), (a9, .inl (ca 1, 3001, .inr (.inl g9))), (a10, .inl (ca 0, 3001, .inl g10)), (a11, .inl (ca 0, 3001, .inl g11))]) (w1 := [(q3, .inr (6, rg 14 x6_0))]) hP5 hD5 [7] [0, 1, 2, 3, 4, 5, 6] rfl rfl (by decide) (by decide) hk6 hFc6 ht6 hB6
      have hF6_0 : gF x6_0 [(1, .int 0), (8, .null)] := gF.upd hF4_0 hw6_0 hw6_1 rfl
      have hP6 : va_P D cls [(a0, .inr (12, rg 10 f5)), (a1, .inr (3, rg 22 g1)), (a5, .inr (0, rg 3 g5)), (a6, .inr (10, rg 9 g6)), (a9, .inl (ca 1, 3001, .inr (.inl g9))), (a10, .inl (ca 0, 3001, .inl g10)), (a11, .inl (ca 0, 3001, .inl g11)), (q3, .inr (6, rg 14 x6_0))] H6 := hP6
      have hD6 : va_D A [(a0, .inr (12, rg 10 f5)), (a1, .inr (3, rg 22 g1)), (a5, .inr (0, rg 3 g5)), (a6, .inr (10, rg 9 g6)), (a9, .inl (ca 1, 3001, .inr (.inl g9))), (a10, .inl (ca 0, 3001, .inl g10)), (a11, .inl (ca 0, 3001, .inl g11)), (q3, .inr (6, rg 14 x6_0))] := hD6
      refine W.widen (k := 2) (n := 18) (Nat.le_of_ble_eq_true rfl) (Nat.le_of_ble_eq_true rfl) ?_
      refine lv_aload_n hx hb d_1_5_36 rfl (lv_at hl 0 rfl) ?_
      refine gget hx hb hts inW_12 hown hK hP6 0 rfl rfl hF5 1 rfl (by decide) k_2_131 d_1_5_37 ?_
      refine lv_aload_n hx hb d_1_5_40 rfl (lv_at hl 0 rfl) ?_
      refine gget hx hb hts inW_12 hown hK hP6 0 rfl rfl hF5 2 rfl (by decide) k_2_127 d_1_5_41 ?_
      refine lv_aload_n hx hb d_1_5_44 rfl (lv_at hl 0 rfl) ?_
      refine gget hx hb hts inW_12 hown hK hP6 0 rfl rfl hF5 0 rfl (by decide) k_2_134 d_1_5_45 ?_
      have hFc7 := va_free (wc := [(a1, .inr (3, rg 22 g1)), (a5, .inr (0, rg 3 g5)), (a6, .inr (10, rg 9 g6)), (a9, .inl (ca 1, 3001, .inr (.inl g9))), (a10, .inl (ca 0, 3001, .inl g10)), (a11, .inl (ca 0, 3001, .inl g11))]) hD6 hS6 hA [1, 2, 3, 4, 5, 6] rfl
      refine va_calli (va_runV (As := [.ref a5, .ref q3]) (rest := []) ⟨hx, hb, hml, hown, hts⟩ (c_Parser_parse_0 l D ca ad av H6.size a1 a5 a6 a9 a10 a11 g1 g5 g6 g9 g10 g11 q3 (hp1.sub [0] rfl) (hp5.sub [0] rfl) (hp6.sub [0, 1, 2] rfl) (hp9.sub [] rfl) (hp10.sub [] rfl) (hp11.sub [] rfl)) (cwV 2 hts (gdV k_3_26 k_3_27 k_3_28 k_1_4 k_3_29) rfl rfl rfl (by decide +kernel) ⟨Nat.le_of_ble_eq_true rfl, Nat.le_of_ble_eq_true rfl⟩) (gPV hP6 hD6 hK hS6 hA hX [1, 2, 3, 4, 5, 6] (by decide) rfl a1 [.ref a5, .ref q3] 1 (ci := 3) (r := (RX3, TX3, 22)) rfl rfl) rfl rfl hl.1 rfl (lv_room (Nat.le_of_ble_eq_true rfl)) d_1_5_48 ⟨Nat.le_of_ble_eq_true rfl, Nat.le_of_ble_eq_true rfl⟩) hS6 (fun q _ h => hFc7 q h) hFc7 (fun r7 u7 t7 H7 locs7 ht7 hvm7 hw7 hB7 hz7 hk7 hS7 => ?_)
      obtain ⟨x7_0, x7_1, x7_2, x7_3, x7_4⟩ := u7
      try dsimp only at hw7 hB7
      obtain ⟨hr7, hw7_1, hw7_2, hw7_3, hw7_4, hw7_5, hw7_6, hw7_7⟩ := hw7
      obtain ⟨hP7, hD7⟩ := gJoin (wr := [(a0, .inr (12, rg 10 f5)), (q3, .inr (6, rg 14 x6_0))]) (w1 := [(a1, .inr (3, rg 22 x7_0)), (a5, .inr (0, rg 3 g5)), (a6, .inr (10, rg 9 x7_1)), (a9, .inl (ca 1, 3001, .inr (.inl x7_2))), (a10, .inl (ca 0, 3001, .inl x7_3)), (a11, .inl (ca 0, 3001, .inl x7_4))]) hP6 hD6 [1, 2, 3, 4, 5, 6] [0, 7] rfl rfl (by decide) (by decide) hk7 hFc7 ht7 hB7
      have hF7_0 : gF x7_0 [(21, .int 2), (16, .int 0), (11, .ref a6)] := gF.upd hp1 hw7_1 hw7_2 rfl
      have hM7_0 := gM.tr (gM.rf (f := g1)) hw7_1
      have hF7_2 : gF x7_1 [(1, .int 0), (0, .int 0), (8, .int 0), (7, .ref a9), (6, .ref a10), (5, .ref a11)] := gF.upd hp6 hw7_3 hw7_4 rfl
      have hM7_2 := gM.tr (gM.rf (f := g6)) hw7_3
      have hP7 : va_P D cls [(a0, .inr (12, rg 10 f5)), (q3, .inr (6, rg 14 x6_0)), (a1, .inr (3, rg 22 x7_0)), (a5, .inr (0, rg 3 g5)), (a6, .inr (10, rg 9 x7_1)), (a9, .inl (ca 1, 3001, .inr (.inl x7_2))), (a10, .inl (ca 0, 3001, .inl x7_3)), (a11, .inl (ca 0, 3001, .inl x7_4))] H7 := hP7
      have hD7 : va_D A [(a0, .inr (12, rg 10 f5)), (q3, .inr (6, rg 14 x6_0)), (a1, .inr (3, rg 22 x7_0)), (a5, .inr (0, rg 3 g5)), (a6, .inr (10, rg 9 x7_1)), (a9, .inl (ca 1, 3001, .inr (.inl x7_2))), (a10, .inl (ca 0, 3001, .inl x7_3)), (a11, .inl (ca 0, 3001, .inl x7_4))] := hD7
      refine W.widen (k := 2) (n := 18) (Nat.le_of_ble_eq_true rfl) (Nat.le_of_ble_eq_true rfl) ?_
      subst hr7
      refine lv_istore_n (lv' := [(2, .int 2), (0, .ref a0), (1, .int v0)]) hx hb d_1_5_51 rfl hl (by decide) rfl (fun ls hl => ?_)
      refine lv_iconst (v := 0) hx hb d_1_5_52 (by decide) ?_
      refine lv_istore_n (lv' := [(3, .int 0), (2, .int 2), (0, .ref a0), (1, .int v0)]) hx hb d_1_5_53 rfl hl (by decide) rfl (fun ls hl => ?_)
      refine lv_iload_n hx hb d_1_5_54 rfl (lv_at hl 0 rfl) ?_
      refine lv_aload_n hx hb d_1_5_55 rfl (lv_at hl 2 rfl) ?_
      refine gget hx hb hts inW_12 hown hK hP7 0 rfl rfl hF5 0 rfl (by decide) k_2_134 d_1_5_56 ?_
      refine gget hx hb hts inW_6 hown hK hP7 1 rfl rfl hF6_0 0 rfl (by decide) k_2_194 d_1_5_59 ?_
      refine lv_icmp_ge (tgt := 121) hx hb d_1_5_62 (by decide) (fun _ => ?_) (fun c => absurd (by decide) c)
      refine lv_aload_n hx hb d_1_5_121 rfl (lv_at hl 2 rfl) ?_
      refine gget hx hb hts inW_12 hown hK hP7 0 rfl rfl hF5 2 rfl (by decide) k_2_127 d_1_5_122 ?_
      have hFc8 := va_free (wc := [(a5, .inr (0, rg 3 g5))]) hD7 hS7 hA [3] rfl
      refine va_callv (va_runV (As := []) (rest := []) ⟨hx, hb, hml, hown, hts⟩ (c_ByteRow_clear_0 l D ca ad av H7.size a5 g5 (hp5.sub [] rfl)) (cwV 0 hts (gdV k_5_166 k_5_167 k_5_168 k_1_2 k_5_169) rfl rfl rfl (by decide +kernel) ⟨Nat.le_of_ble_eq_true rfl, Nat.le_of_ble_eq_true rfl⟩) (gPV hP7 hD7 hK hS7 hA hX [3] (by decide) rfl a5 [] 3 (ci := 0) (r := (RX0, TX0, 3)) rfl rfl) rfl rfl hl.1 rfl (lv_room (Nat.le_of_ble_eq_true rfl)) d_1_5_125 ⟨Nat.le_of_ble_eq_true rfl, Nat.le_of_ble_eq_true rfl⟩) hS7 (fun q _ h => hFc8 q h) hFc8 (fun x8_0 t8 H8 locs8 ht8 hvm8 hw8 hB8 hz8 hk8 hS8 => ?_)
      obtain ⟨hw8_0, hw8_1⟩ := hw8
      obtain ⟨hP8, hD8⟩ := gJoin (wr := [(a0, .inr (12, rg 10 f5)), (q3, .inr (6, rg 14 x6_0)), (a1, .inr (3, rg 22 x7_0)), (a6, .inr (10, rg 9 x7_1)), (a9, .inl (ca 1, 3001, .inr (.inl x7_2))), (a10, .inl (ca 0, 3001, .inl x7_3)), (a11, .inl (ca 0, 3001, .inl x7_4))]) (w1 := [(a5, .inr (0, rg 3 x8_0))]) hP7 hD7 [3] [0, 1, 2, 4, 5, 6, 7] rfl rfl (by decide) (by decide) hk8 hFc8 ht8 hB8
      have hF8_0 : gF x8_0 [(2, .int 0), (1, .int 0)] := gF.upd hp5 hw8_0 hw8_1 rfl
      have hM8_0 := gM.tr (gM.rf (f := g5)) hw8_0
      have hP8 : va_P D cls [(a0, .inr (12, rg 10 f5)), (q3, .inr (6, rg 14 x6_0)), (a1, .inr (3, rg 22 x7_0)), (a6, .inr (10, rg 9 x7_1)), (a9, .inl (ca 1, 3001, .inr (.inl x7_2))), (a10, .inl (ca 0, 3001, .inl x7_3)), (a11, .inl (ca 0, 3001, .inl x7_4)), (a5, .inr (0, rg 3 x8_0))] H8 := hP8
      have hD8 : va_D A [(a0, .inr (12, rg 10 f5)), (q3, .inr (6, rg 14 x6_0)), (a1, .inr (3, rg 22 x7_0)), (a6, .inr (10, rg 9 x7_1)), (a9, .inl (ca 1, 3001, .inr (.inl x7_2))), (a10, .inl (ca 0, 3001, .inl x7_3)), (a11, .inl (ca 0, 3001, .inl x7_4)), (a5, .inr (0, rg 3 x8_0))] := hD8
      refine W.widen (k := 2) (n := 18) (Nat.le_of_ble_eq_true rfl) (Nat.le_of_ble_eq_true rfl) ?_
      refine lv_iload_n hx hb d_1_5_128 rfl (lv_at hl 1 rfl) ?_
      refine lv_if_ne (tgt := 140) hx hb d_1_5_129 (by decide) (fun _ => ?_) (fun c => absurd c (by decide))
      refine lv_iload_n hx hb d_1_5_140 rfl (lv_at hl 1 rfl) ?_
      refine lv_if_eq (tgt := 146) hx hb d_1_5_141 (by decide) (fun c => absurd c (by decide)) (fun _ => ?_)
      refine lv_iload_n hx hb d_1_5_144 rfl (lv_at hl 1 rfl) ?_
      have hP9 := hP8.sub (ws' := [(a0, .inr (12, rg 10 f5)), (a1, .inr (3, rg 22 x7_0)), (a5, .inr (0, rg 3 x8_0)), (a6, .inr (10, rg 9 x7_1)), (a9, .inl (ca 1, 3001, .inr (.inl x7_2))), (a10, .inl (ca 0, 3001, .inl x7_3)), (a11, .inl (ca 0, 3001, .inl x7_4))]) [0, 2, 7, 3, 4, 5, 6] rfl
      have hD9 := hD8.sub (ws' := [(a0, .inr (12, rg 10 f5)), (a1, .inr (3, rg 22 x7_0)), (a5, .inr (0, rg 3 x8_0)), (a6, .inr (10, rg 9 x7_1)), (a9, .inl (ca 1, 3001, .inr (.inl x7_2))), (a10, .inl (ca 0, 3001, .inl x7_3)), (a11, .inl (ca 0, 3001, .inl x7_4))]) [0, 2, 7, 3, 4, 5, 6] (by decide) rfl
      refine W.widen (k := 2) (n := 18) (Nat.le_of_ble_eq_true rfl) (Nat.le_of_ble_eq_true rfl) ?_
      exact W.iret (v := 2) hx hb hr (fun t ht hW => ⟨⟨2, (f5, x7_0, x8_0, x7_1, x7_2, x7_3, x7_4), rfl, ⟨⟨(fun z0 => absurd z0 c1), (fun _ _ => rfl), (fun z0 z1 => absurd c2 z1)⟩, hM5.mono (by decide), hF5.sub [] rfl, hM7_0.mono (by decide), hF7_0.sub [] rfl, hM8_0.mono (by decide), hF8_0.sub [1] rfl, hM7_2.mono (by decide), hF7_2.sub [] rfl, hw7_5.sub [] rfl, hw7_6.sub [] rfl, hw7_7.sub [] rfl⟩, by rw [ht]; exact hP9, va_K.moved hW.alike hK, hD9⟩, hS8.F ht⟩) hS8.2.2 d_1_5_145
    · refine lv_iconst (v := (-1)) hx hb d_1_5_9 (by decide) ?_
      have hP9 := hP.sub (ws' := [(a0, .inr (12, rg 10 g0)), (a1, .inr (3, rg 22 g1)), (a5, .inr (0, rg 3 g5)), (a6, .inr (10, rg 9 g6)), (a9, .inl (ca 1, 3001, .inr (.inl g9))), (a10, .inl (ca 0, 3001, .inl g10)), (a11, .inl (ca 0, 3001, .inl g11))]) [0, 1, 2, 3, 4, 5, 6] rfl
      have hD9 := hD.sub (ws' := [(a0, .inr (12, rg 10 g0)), (a1, .inr (3, rg 22 g1)), (a5, .inr (0, rg 3 g5)), (a6, .inr (10, rg 9 g6)), (a9, .inl (ca 1, 3001, .inr (.inl g9))), (a10, .inl (ca 0, 3001, .inl g10)), (a11, .inl (ca 0, 3001, .inl g11))]) [0, 1, 2, 3, 4, 5, 6] (by decide) rfl
      refine W.widen (k := 2) (n := 18) (Nat.le_of_ble_eq_true rfl) (Nat.le_of_ble_eq_true rfl) ?_
      exact W.iret (v := (-1)) hx hb hr (fun t ht hW => ⟨⟨(-1), (g0, g1, g5, g6, g9, g10, g11), rfl, ⟨⟨(fun z0 => absurd z0 c1), (fun z0 z1 => absurd z1 c2), (fun _ _ => rfl)⟩, (gM.rf.mono (by decide)), hp0.sub [] rfl, (gM.rf.mono (by decide)), hp1.sub [] rfl, (gM.rf.mono (by decide)), hp5.sub [0] rfl, (gM.rf.mono (by decide)), hp6.sub [] rfl, hp9.sub [] rfl, hp10.sub [] rfl, hp11.sub [] rfl⟩, by rw [ht]; exact hP9, va_K.moved hW.alike hK, hD9⟩, hS.F ht⟩) hS.2.2 d_1_5_10

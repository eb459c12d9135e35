theorem k_2_127 : (Jvm.Cond.fieldLink "StaveHouse" (14 : Nat) "StaveHouse" "tape" "LStaveHouse$ByteRow;") ∈ wAll := wA_2 (j := 127) rfl rfl
theorem k_1_46 : (Jvm.Cond.fieldLink "StaveHouse" (56 : Nat) "StaveHouse$ByteRow" "size" "I") ∈ wAll := wA_1 (j := 46) rfl rfl
theorem k_7_95 : (Jvm.Cond.constantLong "StaveHouse$Performance" (178 : Nat) (2 : Int64)) ∈ wAll := wA_7 (j := 95) rfl rfl
theorem k_6_78 : (Jvm.Cond.fieldLink "StaveHouse$Performance" (30 : Nat) "StaveHouse$Performance" "otherStrokes" "[J") ∈ wAll := wA_6 (j := 78) rfl rfl
theorem k_6_77 : (Jvm.Cond.fieldLink "StaveHouse$Performance" (26 : Nat) "StaveHouse$Performance" "strokes" "[J") ∈ wAll := wA_6 (j := 77) rfl rfl
theorem k_2_229 : (Jvm.Cond.fieldLink "StaveHouse" (112 : Nat) "StaveHouse$Piece" "performed" "Z") ∈ wAll := wA_2 (j := 229) rfl rfl
theorem k_2_227 : (Jvm.Cond.fieldLink "StaveHouse" (116 : Nat) "StaveHouse$Piece" "performance" "LStaveHouse$Performance;") ∈ wAll := wA_2 (j := 227) rfl rfl
theorem k_7_116 : (Jvm.Cond.constantLong "StaveHouse$Performance" (184 : Nat) (3 : Int64)) ∈ wAll := wA_7 (j := 116) rfl rfl
theorem k_7_117 : (Jvm.Cond.constantLong "StaveHouse$Performance" (186 : Nat) (127 : Int64)) ∈ wAll := wA_7 (j := 117) rfl rfl
theorem k_7_118 : (Jvm.Cond.constantLong "StaveHouse$Performance" (188 : Nat) (2047 : Int64)) ∈ wAll := wA_7 (j := 118) rfl rfl
theorem k_2_129 : (Jvm.Cond.fieldLink "StaveHouse" (22 : Nat) "StaveHouse" "written" "LStaveHouse$ByteRow;") ∈ wAll := wA_2 (j := 129) rfl rfl
theorem k_5_166 : (Jvm.Cond.methodLink "StaveHouse" (92 : Nat) ({ cls := "StaveHouse$ByteRow", name := "clear", desc := "()V" } : Jvm.MethodName)) ∈ wAll := wA_5 (j := 166) rfl rfl
theorem k_5_167 : (Jvm.Cond.instanceMethod ({ cls := "StaveHouse$ByteRow", name := "clear", desc := "()V" } : Jvm.MethodName)) ∈ wAll := wA_5 (j := 167) rfl rfl
theorem k_5_168 : (Jvm.Cond.selects "StaveHouse$ByteRow" ({ cls := "StaveHouse$ByteRow", name := "clear", desc := "()V" } : Jvm.MethodName) ({ cls := "StaveHouse$ByteRow", name := "clear", desc := "()V" } : Jvm.MethodName)) ∈ wAll := wA_5 (j := 168) rfl rfl
theorem k_5_169 : (Jvm.Cond.code ({ cls := "StaveHouse$ByteRow", name := "clear", desc := "()V" } : Jvm.MethodName) prog_2_method_2_code (1 : Nat) (Option.none : Option Jvm.ClassFile.FieldType)) ∈ wAll := wA_5 (j := 169) rfl rfl
theorem k_7_153 : (Jvm.Cond.methodLink "StaveHouse$ByteRow" (39 : Nat) ({ cls := "StaveHouse$ByteRow", name := "put", desc := "(I)V" } : Jvm.MethodName)) ∈ wAll := wA_7 (j := 153) rfl rfl
theorem k_2_171 : (Jvm.Cond.instanceMethod ({ cls := "StaveHouse$ByteRow", name := "put", desc := "(I)V" } : Jvm.MethodName)) ∈ wAll := wA_2 (j := 171) rfl rfl
theorem k_2_172 : (Jvm.Cond.selects "StaveHouse$ByteRow" ({ cls := "StaveHouse$ByteRow", name := "put", desc := "(I)V" } : Jvm.MethodName) ({ cls := "StaveHouse$ByteRow", name := "put", desc := "(I)V" } : Jvm.MethodName)) ∈ wAll := wA_2 (j := 172) rfl rfl
theorem k_2_173 : (Jvm.Cond.code ({ cls := "StaveHouse$ByteRow", name := "put", desc := "(I)V" } : Jvm.MethodName) prog_2_method_4_code (2 : Nat) (Option.none : Option Jvm.ClassFile.FieldType)) ∈ wAll := wA_2 (j := 173) rfl rfl
theorem k_7_168 : (Jvm.Cond.methodLink "StaveHouse$Performance" (233 : Nat) ({ cls := "StaveHouse$ByteRow", name := "put", desc := "(I)V" } : Jvm.MethodName)) ∈ wAll := wA_7 (j := 168) rfl rfl
theorem k_7_172 : (Jvm.Cond.constant "java/lang/Integer" (265 : Nat) (1431655765 : Int32)) ∈ wAll := wA_7 (j := 172) rfl rfl
theorem k_7_173 : (Jvm.Cond.constant "java/lang/Integer" (266 : Nat) (858993459 : Int32)) ∈ wAll := wA_7 (j := 173) rfl rfl
theorem k_7_174 : (Jvm.Cond.constant "java/lang/Integer" (267 : Nat) (252645135 : Int32)) ∈ wAll := wA_7 (j := 174) rfl rfl
theorem k_7_200 : (Jvm.Cond.methodLink "StaveHouse" (268 : Nat) ({ cls := "StaveHouse$ByteRow", name := "at", desc := "(I)I" } : Jvm.MethodName)) ∈ wAll := wA_7 (j := 200) rfl rfl
theorem k_2_170 : (Jvm.Cond.methodLink "StaveHouse" (60 : Nat) ({ cls := "StaveHouse$ByteRow", name := "put", desc := "(I)V" } : Jvm.MethodName)) ∈ wAll := wA_2 (j := 170) rfl rfl
theorem k_7_229 : (Jvm.Cond.fieldLink "StaveHouse$SoundFile" (27 : Nat) "StaveHouse$SoundFile" "at" "I") ∈ wAll := wA_7 (j := 229) rfl rfl
theorem k_7_230 : (Jvm.Cond.fieldLink "StaveHouse$SoundFile" (36 : Nat) "StaveHouse$SoundFile" "limit" "I") ∈ wAll := wA_7 (j := 230) rfl rfl
theorem k_7_231 : (Jvm.Cond.fieldLink "StaveHouse$SoundFile" (39 : Nat) "StaveHouse$SoundFile" "wrong" "I") ∈ wAll := wA_7 (j := 231) rfl rfl
theorem k_7_223 : (Jvm.Cond.fieldLink "StaveHouse$SoundFile" (42 : Nat) "StaveHouse$SoundFile" "count" "I") ∈ wAll := wA_7 (j := 223) rfl rfl
theorem k_7_217 : (Jvm.Cond.fieldLink "StaveHouse$SoundFile" (9 : Nat) "StaveHouse$SoundFile" "head" "[I") ∈ wAll := wA_7 (j := 217) rfl rfl
theorem k_7_236 : (Jvm.Cond.fieldLink "StaveHouse$SoundFile" (73 : Nat) "StaveHouse$SoundFile" "keyTold" "Z") ∈ wAll := wA_7 (j := 236) rfl rfl
theorem k_7_237 : (Jvm.Cond.fieldLink "StaveHouse$SoundFile" (77 : Nat) "StaveHouse$SoundFile" "timeTold" "Z") ∈ wAll := wA_7 (j := 237) rfl rfl
theorem k_7_238 : (Jvm.Cond.fieldLink "StaveHouse$SoundFile" (80 : Nat) "StaveHouse$SoundFile" "tempoTold" "Z") ∈ wAll := wA_7 (j := 238) rfl rfl
theorem k_7_226 : (Jvm.Cond.fieldLink "StaveHouse$SoundFile" (20 : Nat) "StaveHouse$SoundFile" "numbers" "[I") ∈ wAll := wA_7 (j := 226) rfl rfl
theorem k_8_53 : (Jvm.Cond.methodLink "StaveHouse$SoundFile" (83 : Nat) ({ cls := "StaveHouse$SoundFile", name := "refuse", desc := "(II)V" } : Jvm.MethodName)) ∈ wAll := wA_8 (j := 53) rfl rfl
theorem k_8_55 : (Jvm.Cond.instanceMethod ({ cls := "StaveHouse$SoundFile", name := "refuse", desc := "(II)V" } : Jvm.MethodName)) ∈ wAll := wA_8 (j := 55) rfl rfl
theorem ks_96 : (Jvm.Cond.selects "StaveHouse$SoundFile" ({ cls := "StaveHouse$SoundFile", name := "refuse", desc := "(II)V" } : Jvm.MethodName) ({ cls := "StaveHouse$SoundFile", name := "refuse", desc := "(II)V" } : Jvm.MethodName)) ∈ wAll := wA_s (j := 96) rfl rfl
theorem k_1_23 : (Jvm.Cond.initialized "StaveHouse$SoundFile") ∈ wAll := wA_1 (j := 23) rfl rfl
theorem k_8_56 : (Jvm.Cond.code ({ cls := "StaveHouse$SoundFile", name := "refuse", desc := "(II)V" } : Jvm.MethodName) prog_10_method_4_code (3 : Nat) (Option.none : Option Jvm.ClassFile.FieldType)) ∈ wAll := wA_8 (j := 56) rfl rfl
theorem k_7_233 : (Jvm.Cond.fieldLink "StaveHouse$SoundFile" (120 : Nat) "StaveHouse$SoundFile" "status" "I") ∈ wAll := wA_7 (j := 233) rfl rfl
theorem k_7_234 : (Jvm.Cond.fieldLink "StaveHouse$SoundFile" (123 : Nat) "StaveHouse$SoundFile" "tick" "J") ∈ wAll := wA_7 (j := 234) rfl rfl
theorem k_8_104 : (Jvm.Cond.methodLink "StaveHouse$SoundFile" (165 : Nat) ({ cls := "java/lang/Math", name := "abs", desc := "(I)I" } : Jvm.MethodName)) ∈ wAll := wA_8 (j := 104) rfl rfl
theorem k_8_110 : (Jvm.Cond.constant "StaveHouse$SoundFile" (168 : Nat) (60000000 : Int32)) ∈ wAll := wA_8 (j := 110) rfl rfl
theorem k_8_111 : (Jvm.Cond.methodLink "StaveHouse$SoundFile" (169 : Nat) ({ cls := "java/lang/Math", name := "min", desc := "(II)I" } : Jvm.MethodName)) ∈ wAll := wA_8 (j := 111) rfl rfl
theorem k_8_112 : (Jvm.Cond.methodLink "StaveHouse$SoundFile" (172 : Nat) ({ cls := "java/lang/Math", name := "max", desc := "(II)I" } : Jvm.MethodName)) ∈ wAll := wA_8 (j := 112) rfl rfl
theorem k_7_220 : (Jvm.Cond.fieldLink "StaveHouse$SoundFile" (17 : Nat) "StaveHouse$SoundFile" "sounds" "[[J") ∈ wAll := wA_7 (j := 220) rfl rfl
theorem k_7_232 : (Jvm.Cond.fieldLink "StaveHouse$SoundFile" (51 : Nat) "StaveHouse$SoundFile" "track" "I") ∈ wAll := wA_7 (j := 232) rfl rfl
theorem k_8_121 : (Jvm.Cond.constantLong "StaveHouse$SoundFile" (134 : Nat) (-1 : Int64)) ∈ wAll := wA_8 (j := 121) rfl rfl
theorem k_2_135 : (Jvm.Cond.fieldLink "StaveHouse" (282 : Nat) "StaveHouse" "opened" "LStaveHouse$SoundFile;") ∈ wAll := wA_2 (j := 135) rfl rfl
theorem k_7_219 : (Jvm.Cond.fieldLink "StaveHouse" (286 : Nat) "StaveHouse$SoundFile" "head" "[I") ∈ wAll := wA_7 (j := 219) rfl rfl
theorem k_7_225 : (Jvm.Cond.fieldLink "StaveHouse" (285 : Nat) "StaveHouse$SoundFile" "count" "I") ∈ wAll := wA_7 (j := 225) rfl rfl
theorem k_6_199 : (Jvm.Cond.constant "StaveHouse" (218 : Nat) (-2147483648 : Int32)) ∈ wAll := wA_6 (j := 199) rfl rfl
theorem k_7_222 : (Jvm.Cond.fieldLink "StaveHouse" (289 : Nat) "StaveHouse$SoundFile" "sounds" "[[J") ∈ wAll := wA_7 (j := 222) rfl rfl
theorem k_6_184 : (Jvm.Cond.constantLong "StaveHouse" (191 : Nat) (-1 : Int64)) ∈ wAll := wA_6 (j := 184) rfl rfl
theorem k_2_98 : (Jvm.Cond.fieldLink "StaveHouse$Scribe" (22 : Nat) "StaveHouse$Scribe" "source" "LStaveHouse$SoundFile;") ∈ wAll := wA_2 (j := 98) rfl rfl
theorem k_8_142 : (Jvm.Cond.methodLink "StaveHouse$Scribe" (30 : Nat) ({ cls := "java/lang/Math", name := "max", desc := "(II)I" } : Jvm.MethodName)) ∈ wAll := wA_8 (j := 142) rfl rfl
theorem k_2_100 : (Jvm.Cond.fieldLink "StaveHouse$Scribe" (36 : Nat) "StaveHouse$Scribe" "grid" "I") ∈ wAll := wA_2 (j := 100) rfl rfl
theorem k_7_218 : (Jvm.Cond.fieldLink "StaveHouse$Scribe" (40 : Nat) "StaveHouse$SoundFile" "head" "[I") ∈ wAll := wA_7 (j := 218) rfl rfl
theorem k_7_224 : (Jvm.Cond.fieldLink "StaveHouse$Scribe" (63 : Nat) "StaveHouse$SoundFile" "count" "I") ∈ wAll := wA_7 (j := 224) rfl rfl
theorem k_7_221 : (Jvm.Cond.fieldLink "StaveHouse$Scribe" (81 : Nat) "StaveHouse$SoundFile" "sounds" "[[J") ∈ wAll := wA_7 (j := 221) rfl rfl
theorem k_8_160 : (Jvm.Cond.constantLong "StaveHouse$Scribe" (85 : Nat) (2 : Int64)) ∈ wAll := wA_8 (j := 160) rfl rfl
theorem k_8_161 : (Jvm.Cond.constantLong "StaveHouse$Scribe" (87 : Nat) (4 : Int64)) ∈ wAll := wA_8 (j := 161) rfl rfl
theorem k_8_162 : (Jvm.Cond.constantLong "StaveHouse$Scribe" (89 : Nat) (8 : Int64)) ∈ wAll := wA_8 (j := 162) rfl rfl
theorem k_2_102 : (Jvm.Cond.fieldLink "StaveHouse$Scribe" (12 : Nat) "StaveHouse$Scribe" "event" "LStaveHouse$Event;") ∈ wAll := wA_2 (j := 102) rfl rfl
theorem k_8_216 : (Jvm.Cond.methodLink "StaveHouse$Scribe" (120 : Nat) ({ cls := "java/lang/Math", name := "floorMod", desc := "(II)I" } : Jvm.MethodName)) ∈ wAll := wA_8 (j := 216) rfl rfl
theorem k_8_230 : (Jvm.Cond.methodLink "StaveHouse$Scribe" (123 : Nat) ({ cls := "java/lang/Math", name := "floorDiv", desc := "(II)I" } : Jvm.MethodName)) ∈ wAll := wA_8 (j := 230) rfl rfl
theorem k_4_66 : (Jvm.Cond.static ({ cls := "java/lang/Math", name := "floorDiv", desc := "(II)I" } : Jvm.MethodName)) ∈ wAll := wA_4 (j := 66) rfl rfl
theorem k_4_67 : (Jvm.Cond.code ({ cls := "java/lang/Math", name := "floorDiv", desc := "(II)I" } : Jvm.MethodName) prog_20_method_47_code (3 : Nat) (Option.some Jvm.ClassFile.FieldType.int)) ∈ wAll := wA_4 (j := 67) rfl rfl
theorem k_8_232 : (Jvm.Cond.methodLink "StaveHouse$Scribe" (129 : Nat) ({ cls := "StaveHouse$Event", name := "insert", desc := "(II)Z" } : Jvm.MethodName)) ∈ wAll := wA_8 (j := 232) rfl rfl
theorem k_4_232 : (Jvm.Cond.instanceMethod ({ cls := "StaveHouse$Event", name := "insert", desc := "(II)Z" } : Jvm.MethodName)) ∈ wAll := wA_4 (j := 232) rfl rfl
theorem k_4_233 : (Jvm.Cond.selects "StaveHouse$Event" ({ cls := "StaveHouse$Event", name := "insert", desc := "(II)Z" } : Jvm.MethodName) ({ cls := "StaveHouse$Event", name := "insert", desc := "(II)Z" } : Jvm.MethodName)) ∈ wAll := wA_4 (j := 233) rfl rfl
theorem k_4_234 : (Jvm.Cond.code ({ cls := "StaveHouse$Event", name := "insert", desc := "(II)Z" } : Jvm.MethodName) prog_3_method_5_code (5 : Nat) (Option.some Jvm.ClassFile.FieldType.boolean)) ∈ wAll := wA_4 (j := 234) rfl rfl
theorem k_2_107 : (Jvm.Cond.lays "StaveHouse$Scribe" "StaveHouse$Scribe" "source" "LStaveHouse$SoundFile;") ∈ wAll := wA_2 (j := 107) rfl rfl
theorem k_2_109 : (Jvm.Cond.lays "StaveHouse$Scribe" "StaveHouse$Scribe" "page" "LStaveHouse$ByteRow;") ∈ wAll := wA_2 (j := 109) rfl rfl
theorem k_2_111 : (Jvm.Cond.lays "StaveHouse$Scribe" "StaveHouse$Scribe" "grid" "I") ∈ wAll := wA_2 (j := 111) rfl rfl
theorem k_2_113 : (Jvm.Cond.lays "StaveHouse$Scribe" "StaveHouse$Scribe" "bar" "I") ∈ wAll := wA_2 (j := 113) rfl rfl
theorem k_2_115 : (Jvm.Cond.laysFinal "StaveHouse$Scribe" "StaveHouse$Scribe" "event" "LStaveHouse$Event;") ∈ wAll := wA_2 (j := 115) rfl rfl
theorem k_2_117 : (Jvm.Cond.lays "StaveHouse$Scribe" "StaveHouse$Scribe" "from" "J") ∈ wAll := wA_2 (j := 117) rfl rfl
theorem k_2_119 : (Jvm.Cond.lays "StaveHouse$Scribe" "StaveHouse$Scribe" "to" "J") ∈ wAll := wA_2 (j := 119) rfl rfl
theorem k_2_121 : (Jvm.Cond.lays "StaveHouse$Scribe" "StaveHouse$Scribe" "next" "I") ∈ wAll := wA_2 (j := 121) rfl rfl
theorem k_2_123 : (Jvm.Cond.laysFinal "StaveHouse$Scribe" "StaveHouse$Scribe" "hasTone" "[Z") ∈ wAll := wA_2 (j := 123) rfl rfl
theorem k_7_239 : (Jvm.Cond.laysFinal "StaveHouse$SoundFile" "StaveHouse$SoundFile" "head" "[I") ∈ wAll := wA_7 (j := 239) rfl rfl
theorem k_8_1 : (Jvm.Cond.laysFinal "StaveHouse$SoundFile" "StaveHouse$SoundFile" "sounds" "[[J") ∈ wAll := wA_8 (j := 1) rfl rfl
theorem k_8_3 : (Jvm.Cond.lays "StaveHouse$SoundFile" "StaveHouse$SoundFile" "count" "I") ∈ wAll := wA_8 (j := 3) rfl rfl
theorem k_8_5 : (Jvm.Cond.laysFinal "StaveHouse$SoundFile" "StaveHouse$SoundFile" "numbers" "[I") ∈ wAll := wA_8 (j := 5) rfl rfl
theorem k_8_7 : (Jvm.Cond.lays "StaveHouse$SoundFile" "StaveHouse$SoundFile" "row" "LStaveHouse$ByteRow;") ∈ wAll := wA_8 (j := 7) rfl rfl
theorem k_8_9 : (Jvm.Cond.lays "StaveHouse$SoundFile" "StaveHouse$SoundFile" "at" "I") ∈ wAll := wA_8 (j := 9) rfl rfl
theorem k_8_11 : (Jvm.Cond.lays "StaveHouse$SoundFile" "StaveHouse$SoundFile" "limit" "I") ∈ wAll := wA_8 (j := 11) rfl rfl
theorem k_8_13 : (Jvm.Cond.lays "StaveHouse$SoundFile" "StaveHouse$SoundFile" "wrong" "I") ∈ wAll := wA_8 (j := 13) rfl rfl
theorem k_8_15 : (Jvm.Cond.lays "StaveHouse$SoundFile" "StaveHouse$SoundFile" "track" "I") ∈ wAll := wA_8 (j := 15) rfl rfl
theorem k_8_17 : (Jvm.Cond.lays "StaveHouse$SoundFile" "StaveHouse$SoundFile" "status" "I") ∈ wAll := wA_8 (j := 17) rfl rfl
theorem k_8_19 : (Jvm.Cond.lays "StaveHouse$SoundFile" "StaveHouse$SoundFile" "tick" "J") ∈ wAll := wA_8 (j := 19) rfl rfl
theorem k_8_21 : (Jvm.Cond.lays "StaveHouse$SoundFile" "StaveHouse$SoundFile" "trackDone" "Z") ∈ wAll := wA_8 (j := 21) rfl rfl
theorem k_8_23 : (Jvm.Cond.lays "StaveHouse$SoundFile" "StaveHouse$SoundFile" "keyTold" "Z") ∈ wAll := wA_8 (j := 23) rfl rfl
theorem k_8_25 : (Jvm.Cond.lays "StaveHouse$SoundFile" "StaveHouse$SoundFile" "timeTold" "Z") ∈ wAll := wA_8 (j := 25) rfl rfl
theorem k_8_27 : (Jvm.Cond.lays "StaveHouse$SoundFile" "StaveHouse$SoundFile" "tempoTold" "Z") ∈ wAll := wA_8 (j := 27) rfl rfl
theorem W_prog_4_method_14_code_0 : chW prog_4_method_14_code 0 [42, 180, 0, 66, 153, 0, 13, 27, 155, 0, 9, 27, 16, 100, 161, 0, 5, 2, 172, 42, 180, 0, 22, 27, 46, 54, 4, 21, 4, 42, 180, 0, 22, 27, 4, 96] := chW_of (by decide +kernel)
theorem W_prog_4_method_14_code_32 : chW prog_4_method_14_code 32 [22, 27, 4, 96, 46, 162, 0, 29, 42, 180, 0, 11, 21, 4, 47, 32, 148, 154, 0, 11, 42, 180, 0, 19, 21, 4, 46, 172, 132, 4, 1, 167, 255, 220, 2, 172] := chW_of (by decide +kernel)
theorem W_prog_4_method_14_code_64 : chW prog_4_method_14_code 64 [255, 220, 2, 172] := chW_of (by decide +kernel)
theorem d_4_14_60 : decode prog_4_method_14_code 60 = .ok (.iinc 4 1, 3) := D_132 W_prog_4_method_14_code_32 28 rfl rfl rfl
theorem W_prog_7_method_12_code_0 : chW prog_7_method_12_code 0 [32, 20, 0, 178, 105, 21, 4, 133, 97, 55, 5, 22, 5, 5, 121, 42, 180, 0, 23, 3, 50, 27, 46, 133, 129, 55, 5, 22, 5, 16, 7, 121, 42, 180, 0, 23] := chW_of (by decide +kernel)
theorem W_prog_7_method_12_code_32 : chW prog_7_method_12_code 32 [42, 180, 0, 23, 5, 50, 27, 46, 133, 129, 55, 5, 22, 5, 16, 8, 121, 42, 180, 0, 23, 4, 50, 27, 46, 133, 129, 55, 5, 22, 5, 16, 11, 121, 27, 133] := chW_of (by decide +kernel)
theorem W_prog_7_method_12_code_64 : chW prog_7_method_12_code 64 [11, 121, 27, 133, 129, 173] := chW_of (by decide +kernel)
theorem W_prog_7_method_14_code_0 : chW prog_7_method_14_code 0 [27, 54, 4, 28, 54, 5, 27, 54, 6, 21, 6, 29, 162, 0, 105, 21, 4, 28, 162, 0, 31, 21, 5, 29, 162, 0, 21, 42, 180, 0, 26, 21, 4, 47, 42, 180] := chW_of (by decide +kernel)
theorem W_prog_7_method_14_code_96 : chW prog_7_method_14_code 96 [21, 5, 21, 7, 153, 0, 7, 3, 167, 0, 4, 4, 96, 54, 5, 132, 6, 1, 167, 255, 151, 177] := chW_of (by decide +kernel)
theorem W_prog_7_method_14_code_32 : chW prog_7_method_14_code 32 [4, 47, 42, 180, 0, 26, 21, 5, 47, 148, 157, 0, 7, 4, 167, 0, 4, 3, 54, 7, 42, 180, 0, 30, 21, 6, 21, 7, 153, 0, 13, 42, 180, 0, 26, 21] := chW_of (by decide +kernel)
theorem W_prog_7_method_14_code_64 : chW prog_7_method_14_code 64 [180, 0, 26, 21, 4, 47, 167, 0, 10, 42, 180, 0, 26, 21, 5, 47, 80, 21, 4, 21, 7, 153, 0, 7, 4, 167, 0, 4, 3, 96, 54, 4, 21, 5, 21, 7] := chW_of (by decide +kernel)
theorem d_7_14_111 : decode prog_7_method_14_code 111 = .ok (.iinc 6 1, 3) := D_132 W_prog_7_method_14_code_96 15 rfl rfl rfl
theorem W_prog_1_method_9_code_0 : chW prog_1_method_9_code 0 [42, 27, 182, 0, 97, 77, 44, 198, 0, 10, 44, 180, 0, 112, 154, 0, 7, 1, 167, 0, 7, 44, 180, 0, 116, 176] := chW_of (by decide +kernel)
theorem W_prog_7_method_15_code_0 : chW prog_7_method_15_code 0 [27, 155, 0, 13, 27, 5, 42, 180, 0, 36, 104, 161, 0, 5, 2, 172, 42, 180, 0, 26, 27, 47, 66, 28, 170, 0, 0, 0, 0, 0, 0, 87, 0, 0, 0, 0] := chW_of (by decide +kernel)
theorem d_7_15_24 : decode prog_7_method_15_code 24 = .ok (.tableswitch 87 0 3 #[32, 38, 48, 58], 32) := by decide +kernel
theorem W_prog_7_method_15_code_32 : chW prog_7_method_15_code 32 [0, 0, 0, 0, 0, 0, 0, 3, 0, 0, 0, 32, 0, 0, 0, 38, 0, 0, 0, 48, 0, 0, 0, 58, 33, 16, 29, 125, 136, 172, 33, 16, 26, 125, 20, 0] := chW_of (by decide +kernel)
theorem W_prog_7_method_15_code_64 : chW prog_7_method_15_code 64 [26, 125, 20, 0, 184, 127, 136, 172, 33, 16, 19, 125, 20, 0, 186, 127, 136, 172, 33, 16, 28, 125, 10, 127, 9, 148, 154, 0, 7, 3, 167, 0, 16, 42, 180, 0] := chW_of (by decide +kernel)
theorem W_prog_7_method_15_code_96 : chW prog_7_method_15_code 96 [16, 42, 180, 0, 23, 6, 50, 33, 20, 0, 188, 127, 136, 46, 172, 2, 172] := chW_of (by decide +kernel)
theorem W_prog_2_method_7_code_0 : chW prog_2_method_7_code 0 [28, 4, 100, 62, 29, 155, 0, 19, 42, 27, 16, 8, 29, 104, 124, 182, 0, 39, 132, 3, 255, 167, 255, 239, 177] := chW_of (by decide +kernel)
theorem d_2_7_18 : decode prog_2_method_7_code 18 = .ok (.iinc 3 (-1), 3) := D_132 W_prog_2_method_7_code_0 18 rfl rfl rfl
theorem W_prog_7_method_20_code_0 : chW prog_7_method_20_code 0 [42, 3, 182, 0, 233, 42, 17, 0, 255, 182, 0, 233, 42, 27, 182, 0, 233, 42, 28, 182, 0, 233, 177] := chW_of (by decide +kernel)
theorem W_prog_18_method_49_code_0 : chW prog_18_method_49_code 0 [26, 26, 4, 124, 19, 1, 9, 126, 100, 59, 26, 19, 1, 10, 126, 26, 5, 124, 19, 1, 10, 126, 96, 59, 26, 26, 7, 124, 96, 19, 1, 11, 126, 59, 26, 26] := chW_of (by decide +kernel)
theorem W_prog_18_method_49_code_32 : chW prog_18_method_49_code 32 [126, 59, 26, 26, 16, 8, 124, 96, 59, 26, 26, 16, 16, 124, 96, 59, 26, 16, 63, 126, 172] := chW_of (by decide +kernel)
theorem W_prog_2_method_9_code_0 : chW prog_2_method_9_code 0 [3, 62, 29, 7, 162, 0, 46, 27, 29, 96, 155, 0, 34, 27, 29, 96, 42, 180, 0, 21, 162, 0, 24, 42, 180, 0, 15, 27, 29, 96, 28, 16, 24, 16, 8, 29] := chW_of (by decide +kernel)
theorem W_prog_2_method_9_code_32 : chW prog_2_method_9_code 32 [24, 16, 8, 29, 104, 100, 124, 17, 0, 255, 126, 79, 132, 3, 1, 167, 255, 211, 177] := chW_of (by decide +kernel)
theorem d_2_9_44 : decode prog_2_method_9_code 44 = .ok (.iinc 3 1, 3) := D_132 W_prog_2_method_9_code_32 12 rfl rfl rfl
theorem W_prog_2_method_8_code_0 : chW prog_2_method_8_code 0 [6, 61, 28, 158, 0, 35, 27, 16, 7, 28, 104, 124, 153, 0, 20, 42, 27, 16, 7, 28, 104, 124, 16, 127, 126, 17, 0, 128, 128, 182, 0, 39, 132, 2, 255, 167] := chW_of (by decide +kernel)
theorem W_prog_2_method_8_code_32 : chW prog_2_method_8_code 32 [132, 2, 255, 167, 255, 223, 42, 27, 16, 127, 126, 182, 0, 39, 177] := chW_of (by decide +kernel)
theorem d_2_8_32 : decode prog_2_method_8_code 32 = .ok (.iinc 2 (-1), 3) := D_132 W_prog_2_method_8_code_32 0 rfl rfl rfl
theorem W_prog_1_method_22_code_0 : chW prog_1_method_22_code 0 [42, 180, 0, 22, 27, 182, 1, 12, 172] := chW_of (by decide +kernel)
theorem W_prog_1_method_23_code_0 : chW prog_1_method_23_code 0 [42, 180, 0, 22, 180, 0, 56, 153, 0, 16, 42, 180, 0, 22, 180, 0, 56, 17, 11, 184, 164, 0, 5, 2, 172, 42, 180, 0, 14, 182, 0, 92, 3, 60, 27, 42] := chW_of (by decide +kernel)
theorem W_prog_1_method_23_code_32 : chW prog_1_method_23_code 32 [3, 60, 27, 42, 180, 0, 22, 180, 0, 56, 162, 0, 24, 42, 180, 0, 14, 42, 180, 0, 22, 27, 182, 1, 12, 182, 0, 60, 132, 1, 1, 167, 255, 227, 42, 180] := chW_of (by decide +kernel)
theorem W_prog_1_method_23_code_64 : chW prog_1_method_23_code 64 [255, 227, 42, 180, 0, 14, 180, 0, 56, 172] := chW_of (by decide +kernel)
theorem d_1_23_60 : decode prog_1_method_23_code 60 = .ok (.iinc 1 1, 3) := D_132 W_prog_1_method_23_code_32 28 rfl rfl rfl
theorem W_prog_10_method_3_code_0 : chW prog_10_method_3_code 0 [42, 180, 0, 9, 3, 3, 79, 42, 180, 0, 9, 4, 3, 79, 42, 180, 0, 9, 5, 3, 79, 42, 180, 0, 9, 6, 3, 79, 42, 180, 0, 9, 7, 7, 79, 42] := chW_of (by decide +kernel)
theorem W_prog_10_method_3_code_32 : chW prog_10_method_3_code 32 [7, 7, 79, 42, 180, 0, 9, 8, 7, 79, 42, 180, 0, 9, 16, 6, 16, 120, 79, 42, 3, 181, 0, 73, 42, 3, 181, 0, 77, 42, 3, 181, 0, 80, 3, 60] := chW_of (by decide +kernel)
theorem W_prog_10_method_3_code_64 : chW prog_10_method_3_code 64 [0, 80, 3, 60, 27, 16, 8, 162, 0, 16, 42, 180, 0, 20, 27, 2, 79, 132, 1, 1, 167, 255, 240, 177] := chW_of (by decide +kernel)
theorem d_10_3_81 : decode prog_10_method_3_code 81 = .ok (.iinc 1 1, 3) := D_132 W_prog_10_method_3_code_64 17 rfl rfl rfl
theorem W_prog_10_method_4_code_0 : chW prog_10_method_4_code 0 [42, 180, 0, 39, 154, 0, 13, 42, 27, 16, 16, 28, 104, 96, 181, 0, 39, 177] := chW_of (by decide +kernel)
theorem W_prog_10_method_11_code_0 : chW prog_10_method_11_code 0 [42, 180, 0, 27, 133, 31, 97, 42, 180, 0, 36, 133, 148, 158, 0, 15, 42, 5, 42, 180, 0, 36, 182, 0, 83, 167, 0, 21, 42, 180, 0, 39, 154, 0, 14, 42] := chW_of (by decide +kernel)
theorem W_prog_10_method_11_code_32 : chW prog_10_method_11_code 32 [154, 0, 14, 42, 89, 180, 0, 27, 31, 136, 96, 181, 0, 27, 177] := chW_of (by decide +kernel)
theorem W_prog_10_method_19_code_0 : chW prog_10_method_19_code 0 [42, 180, 0, 77, 154, 0, 45, 27, 4, 161, 0, 40, 27, 16, 12, 163, 0, 34, 28, 4, 161, 0, 29, 28, 7, 163, 0, 24, 42, 180, 0, 9, 7, 27, 79, 42] := chW_of (by decide +kernel)
theorem W_prog_10_method_19_code_32 : chW prog_10_method_19_code 32 [7, 27, 79, 42, 180, 0, 9, 8, 4, 28, 120, 79, 42, 4, 181, 0, 77, 177] := chW_of (by decide +kernel)
theorem W_prog_10_method_20_code_0 : chW prog_10_method_20_code 0 [42, 180, 0, 73, 154, 0, 36, 27, 184, 0, 165, 16, 7, 163, 0, 27, 28, 4, 163, 0, 22, 42, 180, 0, 9, 5, 27, 79, 42, 180, 0, 9, 6, 28, 79, 42] := chW_of (by decide +kernel)
theorem W_prog_10_method_20_code_32 : chW prog_10_method_20_code 32 [6, 28, 79, 42, 4, 181, 0, 73, 177] := chW_of (by decide +kernel)
theorem W_prog_10_method_21_code_0 : chW prog_10_method_21_code 0 [42, 180, 0, 80, 154, 0, 41, 42, 180, 0, 9, 16, 6, 27, 4, 162, 0, 9, 17, 1, 44, 167, 0, 18, 16, 20, 17, 1, 44, 18, 168, 27, 108, 184, 0, 169] := chW_of (by decide +kernel)
theorem W_prog_10_method_21_code_32 : chW prog_10_method_21_code 32 [108, 184, 0, 169, 184, 0, 172, 79, 42, 4, 181, 0, 80, 177] := chW_of (by decide +kernel)
theorem W_prog_10_method_16_code_0 : chW prog_10_method_16_code 0 [42, 180, 0, 42, 17, 1, 144, 161, 0, 10, 42, 6, 29, 182, 0, 83, 177, 42, 180, 0, 17, 3, 50, 42, 180, 0, 42, 42, 180, 0, 51, 133, 80, 42, 180, 0] := chW_of (by decide +kernel)
theorem W_prog_10_method_16_code_32 : chW prog_10_method_16_code 32 [80, 42, 180, 0, 17, 4, 50, 42, 180, 0, 42, 42, 180, 0, 120, 16, 16, 112, 133, 80, 42, 180, 0, 17, 5, 50, 42, 180, 0, 42, 27, 133, 80, 42, 180, 0] := chW_of (by decide +kernel)
theorem W_prog_10_method_16_code_64 : chW prog_10_method_16_code 64 [80, 42, 180, 0, 17, 6, 50, 42, 180, 0, 42, 28, 133, 80, 42, 180, 0, 17, 7, 50, 42, 180, 0, 42, 42, 180, 0, 123, 80, 42, 180, 0, 17, 8, 50, 42] := chW_of (by decide +kernel)
theorem W_prog_10_method_16_code_96 : chW prog_10_method_16_code 96 [17, 8, 50, 42, 180, 0, 42, 20, 0, 134, 80, 42, 89, 180, 0, 42, 4, 96, 181, 0, 42, 177] := chW_of (by decide +kernel)
theorem W_prog_10_method_17_code_0 : chW prog_10_method_17_code 0 [28, 62, 29, 42, 180, 0, 42, 162, 0, 83, 42, 180, 0, 17, 5, 50, 29, 47, 27, 133, 148, 154, 0, 27, 42, 180, 0, 17, 4, 50, 29, 47, 42, 180, 0, 120] := chW_of (by decide +kernel)
theorem W_prog_10_method_17_code_64 : chW prog_10_method_17_code 64 [20, 0, 134, 148, 154, 0, 16, 42, 180, 0, 17, 8, 50, 29, 42, 180, 0, 123, 80, 177, 132, 3, 1, 167, 255, 171, 177] := chW_of (by decide +kernel)
theorem W_prog_10_method_17_code_32 : chW prog_10_method_17_code 32 [42, 180, 0, 120, 16, 16, 112, 133, 148, 154, 0, 7, 4, 167, 0, 4, 3, 54, 4, 21, 4, 153, 0, 31, 42, 180, 0, 17, 8, 50, 29, 47, 20, 0, 134, 148] := chW_of (by decide +kernel)
theorem d_10_17_84 : decode prog_10_method_17_code 84 = .ok (.iinc 3 1, 3) := D_132 W_prog_10_method_17_code_64 20 rfl rfl rfl
theorem W_prog_1_method_25_code_0 : chW prog_1_method_25_code 0 [42, 180, 1, 26, 198, 0, 13, 27, 155, 0, 9, 27, 16, 7, 164, 0, 6, 18, 218, 172, 27, 16, 7, 160, 0, 13, 42, 180, 1, 26, 180, 1, 29, 167, 0, 12] := chW_of (by decide +kernel)
theorem W_prog_1_method_25_code_32 : chW prog_1_method_25_code 32 [29, 167, 0, 12, 42, 180, 1, 26, 180, 1, 30, 27, 46, 172] := chW_of (by decide +kernel)
theorem W_prog_1_method_26_code_0 : chW prog_1_method_26_code 0 [42, 180, 1, 26, 198, 0, 28, 27, 155, 0, 24, 27, 42, 180, 1, 26, 180, 1, 29, 162, 0, 13, 28, 155, 0, 9, 28, 16, 6, 161, 0, 7, 20, 0, 191, 173] := chW_of (by decide +kernel)
theorem W_prog_1_method_26_code_32 : chW prog_1_method_26_code 32 [20, 0, 191, 173, 42, 180, 1, 26, 180, 1, 33, 28, 50, 27, 47, 173] := chW_of (by decide +kernel)
theorem W_prog_9_method_3_code_0 : chW prog_9_method_3_code 0 [42, 180, 0, 22, 180, 0, 81, 3, 50, 77, 27, 62, 29, 42, 180, 0, 22, 180, 0, 63, 162, 0, 19, 44, 29, 47, 44, 27, 47, 148, 154, 0, 9, 132, 3, 1] := chW_of (by decide +kernel)
theorem W_prog_9_method_3_code_32 : chW prog_9_method_3_code 32 [9, 132, 3, 1, 167, 255, 232, 29, 172] := chW_of (by decide +kernel)
theorem d_9_3_33 : decode prog_9_method_3_code 33 = .ok (.iinc 3 1, 3) := D_132 W_prog_9_method_3_code_32 1 rfl rfl rfl
theorem W_prog_9_method_4_code_0 : chW prog_9_method_4_code 0 [42, 180, 0, 22, 180, 0, 40, 4, 46, 4, 184, 0, 30, 133, 66, 20, 0, 85, 31, 105, 42, 180, 0, 36, 133, 105, 20, 0, 87, 33, 105, 97, 20, 0, 89, 33] := chW_of (by decide +kernel)
theorem W_prog_9_method_4_code_32 : chW prog_9_method_4_code 32 [20, 0, 89, 33, 105, 109, 173] := chW_of (by decide +kernel)
theorem W_prog_2_method_6_code_0 : chW prog_2_method_6_code 0 [4, 61, 3, 62, 29, 16, 9, 162, 0, 22, 27, 28, 108, 16, 10, 161, 0, 14, 28, 16, 10, 104, 61, 132, 3, 1, 167, 255, 234, 3, 62, 29, 16, 10, 162, 0] := chW_of (by decide +kernel)
theorem d_2_6_23 : decode prog_2_method_6_code 23 = .ok (.iinc 3 1, 3) := D_132 W_prog_2_method_6_code_0 23 rfl rfl rfl
theorem W_prog_2_method_6_code_32 : chW prog_2_method_6_code 32 [16, 10, 162, 0, 31, 28, 158, 0, 27, 42, 16, 48, 27, 28, 108, 16, 10, 112, 96, 182, 0, 39, 28, 16, 10, 108, 61, 132, 3, 1, 167, 255, 225, 177] := chW_of (by decide +kernel)
theorem d_2_6_59 : decode prog_2_method_6_code 59 = .ok (.iinc 3 1, 3) := D_132 W_prog_2_method_6_code_32 27 rfl rfl rfl
theorem W_prog_2_method_6_code_64 : chW prog_2_method_6_code 64 [225, 177] := chW_of (by decide +kernel)
theorem W_prog_9_method_8_code_0 : chW prog_9_method_8_code 0 [42, 180, 0, 22, 180, 0, 40, 5, 46, 8, 100, 61, 28, 16, 7, 27, 104, 28, 100, 16, 12, 184, 0, 120, 96, 62, 7, 29, 104, 16, 7, 184, 0, 120, 54, 4] := chW_of (by decide +kernel)
theorem W_prog_9_method_8_code_32 : chW prog_9_method_8_code 32 [0, 120, 54, 4, 29, 4, 96, 16, 7, 184, 0, 123, 54, 5, 27, 178, 0, 126, 21, 4, 46, 100, 21, 5, 100, 16, 12, 184, 0, 123, 4, 100, 54, 6, 21, 6] := chW_of (by decide +kernel)
theorem W_prog_9_method_8_code_64 : chW prog_9_method_8_code 64 [54, 6, 21, 6, 155, 0, 28, 21, 6, 16, 8, 163, 0, 21, 42, 180, 0, 12, 16, 7, 21, 6, 104, 21, 4, 96, 21, 5, 182, 0, 129, 87, 177] := chW_of (by decide +kernel)
theorem W_prog_9_method_8_code_96 : chW prog_9_method_8_code 96 [177] := chW_of (by decide +kernel)
set_option maxRecDepth 20000 in
theorem inW_7 : ∀ w ∈ u_ws RX7 TX7 9, w ∈ wAll := by
  show ∀ w ∈ [(Jvm.Cond.lays "StaveHouse$Scribe" "StaveHouse$Scribe" "source" "LStaveHouse$SoundFile;"), (Jvm.Cond.lays "StaveHouse$Scribe" "StaveHouse$Scribe" "page" "LStaveHouse$ByteRow;"), (Jvm.Cond.lays "StaveHouse$Scribe" "StaveHouse$Scribe" "grid" "I"), (Jvm.Cond.lays "StaveHouse$Scribe" "StaveHouse$Scribe" "bar" "I"), (Jvm.Cond.laysFinal "StaveHouse$Scribe" "StaveHouse$Scribe" "event" "LStaveHouse$Event;"), (Jvm.Cond.lays "StaveHouse$Scribe" "StaveHouse$Scribe" "from" "J"), (Jvm.Cond.lays "StaveHouse$Scribe" "StaveHouse$Scribe" "to" "J"), (Jvm.Cond.lays "StaveHouse$Scribe" "StaveHouse$Scribe" "next" "I"), (Jvm.Cond.laysFinal "StaveHouse$Scribe" "StaveHouse$Scribe" "hasTone" "[Z")], w ∈ wAll
  exact List.forall_mem_cons.mpr ⟨k_2_107, List.forall_mem_cons.mpr ⟨k_2_109, List.forall_mem_cons.mpr ⟨k_2_111, List.forall_mem_cons.mpr ⟨k_2_113, List.forall_mem_cons.mpr ⟨k_2_115, List.forall_mem_cons.mpr ⟨k_2_117, List.forall_mem_cons.mpr ⟨k_2_119, List.forall_mem_cons.mpr ⟨k_2_121, List.forall_mem_cons.mpr ⟨k_2_123, fun _ h => absurd h List.not_mem_nil⟩⟩⟩⟩⟩⟩⟩⟩⟩
set_option maxRecDepth 20000 in
theorem inW_8 : ∀ w ∈ u_ws RX8 TX8 15, w ∈ wAll := by
  show ∀ w ∈ [(Jvm.Cond.laysFinal "StaveHouse$SoundFile" "StaveHouse$SoundFile" "head" "[I"), (Jvm.Cond.laysFinal "StaveHouse$SoundFile" "StaveHouse$SoundFile" "sounds" "[[J"), (Jvm.Cond.lays "StaveHouse$SoundFile" "StaveHouse$SoundFile" "count" "I"), (Jvm.Cond.laysFinal "StaveHouse$SoundFile" "StaveHouse$SoundFile" "numbers" "[I"), (Jvm.Cond.lays "StaveHouse$SoundFile" "StaveHouse$SoundFile" "row" "LStaveHouse$ByteRow;"), (Jvm.Cond.lays "StaveHouse$SoundFile" "StaveHouse$SoundFile" "at" "I"), (Jvm.Cond.lays "StaveHouse$SoundFile" "StaveHouse$SoundFile" "limit" "I"), (Jvm.Cond.lays "StaveHouse$SoundFile" "StaveHouse$SoundFile" "wrong" "I"), (Jvm.Cond.lays "StaveHouse$SoundFile" "StaveHouse$SoundFile" "track" "I"), (Jvm.Cond.lays "StaveHouse$SoundFile" "StaveHouse$SoundFile" "status" "I"), (Jvm.Cond.lays "StaveHouse$SoundFile" "StaveHouse$SoundFile" "tick" "J"), (Jvm.Cond.lays "StaveHouse$SoundFile" "StaveHouse$SoundFile" "trackDone" "Z"), (Jvm.Cond.lays "StaveHouse$SoundFile" "StaveHouse$SoundFile" "keyTold" "Z"), (Jvm.Cond.lays "StaveHouse$SoundFile" "StaveHouse$SoundFile" "timeTold" "Z"), (Jvm.Cond.lays "StaveHouse$SoundFile" "StaveHouse$SoundFile" "tempoTold" "Z")], w ∈ wAll
  exact List.forall_mem_cons.mpr ⟨k_7_239, List.forall_mem_cons.mpr ⟨k_8_1, List.forall_mem_cons.mpr ⟨k_8_3, List.forall_mem_cons.mpr ⟨k_8_5, List.forall_mem_cons.mpr ⟨k_8_7, List.forall_mem_cons.mpr ⟨k_8_9, List.forall_mem_cons.mpr ⟨k_8_11, List.forall_mem_cons.mpr ⟨k_8_13, List.forall_mem_cons.mpr ⟨k_8_15, List.forall_mem_cons.mpr ⟨k_8_17, List.forall_mem_cons.mpr ⟨k_8_19, List.forall_mem_cons.mpr ⟨k_8_21, List.forall_mem_cons.mpr ⟨k_8_23, List.forall_mem_cons.mpr ⟨k_8_25, List.forall_mem_cons.mpr ⟨k_8_27, fun _ h => absurd h List.not_mem_nil⟩⟩⟩⟩⟩⟩⟩⟩⟩⟩⟩⟩⟩⟩⟩
abbrev Q_Layout_columnX (K : zK) (D : va_G) (ca : Nat → ClassId) (ad : Nat → Int → Nat → Nat) (L : List Nat) (r : Int) (F : zF) (B : zB) (A : Nat → Prop) : Array Value → State → Outcome → State → Prop := va_Qi (S := Unit) (fun p _ => p = iI r) (fun _ => zPo D ca ad lnC K.2 L F B A) A
def f_Layout_columnX_27 (K : zK) : Nat → Int → Int → Int → Int → zF → zB → zO
  | 0, _, _, _, _, _, _ => none
  | n + 1, l4, l0, l1, l2, F, B => if 0 ≤ l0 ∧ l0 < K.2 2 then if 0 ≤ (l1 + 1) ∧ (l1 + 1) < 101 then if r32 l4 then if r32 (B 2 l0 5 (l1 + 1)) then (if (B 2 l0 5 (l1 + 1)) ≤ l4 then some ((-1), F, B) else if 0 ≤ l4 ∧ l4 < 3200 then if r64 (B 2 l0 1 l4) then if r64 l2 then (if (zcmp (B 2 l0 1 l4) l2) = 0 then some (B 2 l0 3 l4, F, B) else f_Layout_columnX_27 K n (l4 + 1) l0 l1 l2 F B) else none else none else none) else none else none else none else none
set_option maxHeartbeats 4000000 in
set_option maxRecDepth 100000 in
theorem b_Layout_columnX_27 {D : va_G} {ca : Nat → ClassId} {ad : Nat → Int → Nat → Nat} {L : List Nat} {aS vS : Nat → Nat} {A : Nat → Prop} {p : Program} {l : Launch} {e : Env} {s : State} {m : MethodId} {args : Array Value} {below : List Frame} {meth : Method} {c : Code} {K : zK} {r : Int} {F9 : zF} {B9 : zB} (X : zX D ca L aS vS A p s m args meth c prog_4_method_14_code 5 (Option.some Jvm.ClassFile.FieldType.int) "StaveHouse$Layout") : ∀ {n : Nat} {l4 : Int} {l0 : Int} {l1 : Int} {l2 : Int} {F : zF} {B : zB} {H : Heap} {locs : List Loc} {ls : Array Slot}, f_Layout_columnX_27 K n l4 l0 l1 l2 F B = some (r, F9, B9) → zH D ca ad lnC K.2 L F B A H → va_S A s.heap H locs → lv_has ls 5 [(4, .int (iI l4)), (0, .ref (ad 2 l0 0)), (1, .int (iI l1)), (2, .long (lI l2))] → W p l e ({ frames := 0, cells := 0, slots := 0, locals := 0 } : Room) s m args below meth c H locs 0 0 (MQ below (Q_Layout_columnX K D ca ad L r F9 B9 A) args s 0 0 A) (F0 m 27 ls []) := by
  obtain ⟨hx, hb, hr, hml, hown, hts, hlk, hK, hA, hL, hX⟩ := id X
  intro n
  induction n with
  | zero =>
    intros
    rename_i hf _ _ _
    cases hf
  | succ n ih =>
    intro l4 l0 l1 l2 F B H locs ls hf hZ hS hl
    replace hf : (if 0 ≤ l0 ∧ l0 < K.2 2 then if 0 ≤ (l1 + 1) ∧ (l1 + 1) < 101 then if r32 l4 then if r32 (B 2 l0 5 (l1 + 1)) then (if (B 2 l0 5 (l1 + 1)) ≤ l4 then some ((-1), F, B) else if 0 ≤ l4 ∧ l4 < 3200 then if r64 (B 2 l0 1 l4) then if r64 l2 then (if (zcmp (B 2 l0 1 l4) l2) = 0 then some (B 2 l0 3 l4, F, B) else f_Layout_columnX_27 K n (l4 + 1) l0 l1 l2 F B) else none else none else none) else none else none else none else none) = some (r, F9, B9) := hf
    refine lv_iload hx hb (D_21 W_prog_4_method_14_code_0 27 rfl rfl) (lv_at hl 0 rfl) ?_
    refine lv_aload_n hx hb (D_42 W_prog_4_method_14_code_0 29 rfl rfl) rfl (lv_at hl 1 rfl) ?_
    obtain ⟨g8, hf⟩ := gif hf
    refine zget (ci := 2) (C := RX2) (T := TX2) (v := .ref (ad 2 l0 (5 + 1))) (k := 5) hx hb hts inW_2 hown hK hZ g8.1 g8.2 rfl (by decide) k_6_222 rfl (D_180 W_prog_4_method_14_code_0 30 rfl rfl rfl) ?_
    refine lv_iload_n hx hb (D_27 W_prog_4_method_14_code_32 1 rfl rfl) rfl (lv_at hl 2 rfl) ?_
    refine lv_iconst (v := iI 1) hx hb (D_4 W_prog_4_method_14_code_32 2 rfl rfl) rfl ?_
    refine zadd hx hb (D_96 W_prog_4_method_14_code_32 3 rfl rfl) ?_
    obtain ⟨g9, hf⟩ := gif hf
    refine zald (ci := 2) (k := 5) hx hb hK rfl hZ g8.1 g8.2 rfl (Nat.le_of_ble_eq_true rfl) g9.1 g9.2 (D_46 W_prog_4_method_14_code_32 4 rfl rfl) ?_
    obtain ⟨g10, hf⟩ := gif hf
    obtain ⟨g11, hf⟩ := gif hf
    refine zge (tgt := 66) hx hb g10 g11 (D_162 W_prog_4_method_14_code_32 5 rfl rfl rfl) (by decide) (fun h12 => ?_) (fun h12 => ?_)
    · replace hf := gpos hf h12
      refine lv_iconst (v := iI (-1)) hx hb (D_2 W_prog_4_method_14_code_64 2 rfl rfl) rfl ?_
      cases hf
      exact W.iret hx hb hr (fun t ht hW => ⟨⟨_, (), rfl, rfl, by rw [ht]; exact hZ, va_K.moved hW.alike hK⟩, hS.F ht⟩) hS.2.2 (D_172 W_prog_4_method_14_code_64 3 rfl rfl) hlk
    · replace hf := gneg hf h12
      refine lv_aload_n hx hb (D_42 W_prog_4_method_14_code_32 8 rfl rfl) rfl (lv_at hl 1 rfl) ?_
      refine zget (ci := 2) (C := RX2) (T := TX2) (v := .ref (ad 2 l0 (1 + 1))) (k := 1) hx hb hts inW_2 hown hK hZ g8.1 g8.2 rfl (by decide) k_6_218 rfl (D_180 W_prog_4_method_14_code_32 9 rfl rfl rfl) ?_
      refine lv_iload hx hb (D_21 W_prog_4_method_14_code_32 12 rfl rfl) (lv_at hl 0 rfl) ?_
      obtain ⟨g13, hf⟩ := gif hf
      refine zlald (ci := 2) (k := 1) hx hb hK rfl hZ g8.1 g8.2 rfl (Nat.le_of_ble_eq_true rfl) g13.1 g13.2 (D_47 W_prog_4_method_14_code_32 14 rfl rfl) ?_
      refine lv_lload_n hx hb (D_32 W_prog_4_method_14_code_32 15 rfl rfl) rfl (lv_at hl 3 rfl) ?_
      obtain ⟨g14, hf⟩ := gif hf
      obtain ⟨g15, hf⟩ := gif hf
      refine zcmp_r hx hb g14 g15 (D_148 W_prog_4_method_14_code_32 16 rfl rfl) ?_
      refine z0ne (tgt := 60) hx hb zcmp_32 (D_154 W_prog_4_method_14_code_32 17 rfl rfl rfl) (by decide) (fun h16 => ?_) (fun h16 => ?_)
      · replace hf := gneg hf h16
        refine lv_iinc (v := iI (l4 + 1)) (lv' := [(4, .int (iI (l4 + 1))), (0, .ref (ad 2 l0 0)), (1, .int (iI l1)), (2, .long (lI l2))]) hx hb d_4_14_60 hl (k := 0) rfl (iI_add _ 1) (by decide) rfl (fun ls hl => ?_)
        refine lv_goto (tgt := 27) hx hb (D_167 W_prog_4_method_14_code_32 31 rfl rfl rfl) (by decide) ?_
        exact ih hf hZ hS (lv_sub hl [0, 1, 2, 3] rfl)
      · replace hf := gpos hf h16
        refine lv_aload_n hx hb (D_42 W_prog_4_method_14_code_32 20 rfl rfl) rfl (lv_at hl 1 rfl) ?_
        refine zget (ci := 2) (C := RX2) (T := TX2) (v := .ref (ad 2 l0 (3 + 1))) (k := 3) hx hb hts inW_2 hown hK hZ g8.1 g8.2 rfl (by decide) k_6_220 rfl (D_180 W_prog_4_method_14_code_32 21 rfl rfl rfl) ?_
        refine lv_iload hx hb (D_21 W_prog_4_method_14_code_32 24 rfl rfl) (lv_at hl 0 rfl) ?_
        refine zald (ci := 2) (k := 3) hx hb hK rfl hZ g8.1 g8.2 rfl (Nat.le_of_ble_eq_true rfl) g13.1 g13.2 (D_46 W_prog_4_method_14_code_32 26 rfl rfl) ?_
        cases hf
        exact W.iret hx hb hr (fun t ht hW => ⟨⟨_, (), rfl, rfl, by rw [ht]; exact hZ, va_K.moved hW.alike hK⟩, hS.F ht⟩) hS.2.2 (D_172 W_prog_4_method_14_code_32 27 rfl rfl) hlk

def f_Layout_columnX_17 (K : zK)  (F : zF) (B : zB) : zO := some ((-1), F, B)
set_option maxHeartbeats 4000000 in
set_option maxRecDepth 100000 in
theorem b_Layout_columnX_17 {D : va_G} {ca : Nat → ClassId} {ad : Nat → Int → Nat → Nat} {L : List Nat} {aS vS : Nat → Nat} {A : Nat → Prop} {p : Program} {l : Launch} {e : Env} {s : State} {m : MethodId} {args : Array Value} {below : List Frame} {meth : Method} {c : Code} {K : zK} {r : Int} {F9 : zF} {B9 : zB} (X : zX D ca L aS vS A p s m args meth c prog_4_method_14_code 5 (Option.some Jvm.ClassFile.FieldType.int) "StaveHouse$Layout")  {F : zF} {B : zB} {H : Heap} {locs : List Loc} {ls : Array Slot} (hf : f_Layout_columnX_17 K  F B = some (r, F9, B9)) (hZ : zH D ca ad lnC K.2 L F B A H) (hS : va_S A s.heap H locs) (hl : lv_has ls 5 []) : W p l e ({ frames := 0, cells := 0, slots := 0, locals := 0 } : Room) s m args below meth c H locs 0 0 (MQ below (Q_Layout_columnX K D ca ad L r F9 B9 A) args s 0 0 A) (F0 m 17 ls []) := by
  obtain ⟨hx, hb, hr, hml, hown, hts, hlk, hK, hA, hL, hX⟩ := id X
  replace hf : (some ((-1), F, B)) = some (r, F9, B9) := hf
  refine lv_iconst (v := iI (-1)) hx hb (D_2 W_prog_4_method_14_code_0 17 rfl rfl) rfl ?_
  cases hf
  exact W.iret hx hb hr (fun t ht hW => ⟨⟨_, (), rfl, rfl, by rw [ht]; exact hZ, va_K.moved hW.alike hK⟩, hS.F ht⟩) hS.2.2 (D_172 W_prog_4_method_14_code_0 18 rfl rfl) hlk

def f_Layout_columnX (K : zK) (l0 : Int) (l1 : Int) (l2 : Int) (F : zF) (B : zB) : zO := if 0 ≤ l0 ∧ l0 < K.2 2 then if r32 (F 2 l0 0) then (if (F 2 l0 0) = 0 then f_Layout_columnX_17 K F B else if r32 l1 then (if l1 < 0 then f_Layout_columnX_17 K F B else (if l1 < 100 then if 0 ≤ l1 ∧ l1 < 101 then f_Layout_columnX_27 K K.1 (B 2 l0 5 l1) l0 l1 l2 F B else none else f_Layout_columnX_17 K F B)) else none) else none else none
set_option maxHeartbeats 4000000 in
set_option maxRecDepth 100000 in
theorem c_Layout_columnX {l : Launch} {D : va_G} {ca : Nat → ClassId} {ad : Nat → Int → Nat → Nat} {L : List Nat} {aS vS : Nat → Nat} {sz : Nat} {K : zK}  {l0 : Int} {l1 : Int} {l2 : Int} {F F9 : zF} {B B9 : zB} {r : Int} (hf : f_Layout_columnX K l0 l1 l2 F B = some (r, F9, B9)) : Met l ({ cls := "StaveHouse$Layout", name := "columnX", desc := "(IJ)I" } : Jvm.MethodName) (Cond.code ({ cls := "StaveHouse$Layout", name := "columnX", desc := "(IJ)I" } : Jvm.MethodName) prog_4_method_14_code 5 (Option.some Jvm.ClassFile.FieldType.int) :: wAll) ({ frames := 0, cells := 0, slots := 0, locals := 0 } : Room) (va_Pc [.ref (ad 2 l0 0), .int (iI l1), .long (lI l2)] (zPre D ca ad lnC K.2 L aS vS F B sz)) (Q_Layout_columnX K D ca ad L r F9 B9 (zA L sz)) 0 0 (zA L sz) := by
  refine zMet (Qc := Q_Layout_columnX K D ca ad L r F9 B9) (lv := [(0, .ref (ad 2 l0 0)), (1, .int (iI l1)), (2, .long (lI l2))]) (by decide) (Nat.le_of_ble_eq_true rfl) rfl (fun A p e s m below meth c ls X hZ hS hl => ?_)
  obtain ⟨hx, hb, hr, hml, hown, hts, hlk, hK, hA, hL, hX⟩ := id X
  replace hf : (if 0 ≤ l0 ∧ l0 < K.2 2 then if r32 (F 2 l0 0) then (if (F 2 l0 0) = 0 then f_Layout_columnX_17 K F B else if r32 l1 then (if l1 < 0 then f_Layout_columnX_17 K F B else (if l1 < 100 then if 0 ≤ l1 ∧ l1 < 101 then f_Layout_columnX_27 K K.1 (B 2 l0 5 l1) l0 l1 l2 F B else none else f_Layout_columnX_17 K F B)) else none) else none else none) = some (r, F9, B9) := hf
  refine lv_aload_n hx hb (D_42 W_prog_4_method_14_code_0 0 rfl rfl) rfl (lv_at hl 0 rfl) ?_
  obtain ⟨g1, hf⟩ := gif hf
  refine zget (ci := 2) (C := RX2) (T := TX2) (v := .int (iI (F 2 l0 0))) (k := 0) hx hb hts inW_2 hown hK hZ g1.1 g1.2 rfl (by decide) k_6_215 rfl (D_180 W_prog_4_method_14_code_0 1 rfl rfl rfl) ?_
  obtain ⟨g2, hf⟩ := gif hf
  refine z0eq (tgt := 17) hx hb g2 (D_153 W_prog_4_method_14_code_0 4 rfl rfl rfl) (by decide) (fun h3 => ?_) (fun h3 => ?_)
  · replace hf := gpos hf h3
    exact b_Layout_columnX_17 X hf hZ hS (lv_sub hl [] rfl)
  · replace hf := gneg hf h3
    refine lv_iload_n hx hb (D_27 W_prog_4_method_14_code_0 7 rfl rfl) rfl (lv_at hl 1 rfl) ?_
    obtain ⟨g4, hf⟩ := gif hf
    refine z0lt (tgt := 17) hx hb g4 (D_155 W_prog_4_method_14_code_0 8 rfl rfl rfl) (by decide) (fun h5 => ?_) (fun h5 => ?_)
    · replace hf := gpos hf h5
      exact b_Layout_columnX_17 X hf hZ hS (lv_sub hl [] rfl)
    · replace hf := gneg hf h5
      refine lv_iload_n hx hb (D_27 W_prog_4_method_14_code_0 11 rfl rfl) rfl (lv_at hl 1 rfl) ?_
      refine lv_bipush (v := iI 100) hx hb (D_16 W_prog_4_method_14_code_0 12 rfl rfl rfl) (by decide) ?_
      refine zlt (tgt := 19) hx hb g4 (by decide) (D_161 W_prog_4_method_14_code_0 14 rfl rfl rfl) (by decide) (fun h6 => ?_) (fun h6 => ?_)
      · replace hf := gpos hf h6
        refine lv_aload_n hx hb (D_42 W_prog_4_method_14_code_0 19 rfl rfl) rfl (lv_at hl 0 rfl) ?_
        refine zget (ci := 2) (C := RX2) (T := TX2) (v := .ref (ad 2 l0 (5 + 1))) (k := 5) hx hb hts inW_2 hown hK hZ g1.1 g1.2 rfl (by decide) k_6_222 rfl (D_180 W_prog_4_method_14_code_0 20 rfl rfl rfl) ?_
        refine lv_iload_n hx hb (D_27 W_prog_4_method_14_code_0 23 rfl rfl) rfl (lv_at hl 1 rfl) ?_
        obtain ⟨g7, hf⟩ := gif hf
        refine zald (ci := 2) (k := 5) hx hb hK rfl hZ g1.1 g1.2 rfl (Nat.le_of_ble_eq_true rfl) g7.1 g7.2 (D_46 W_prog_4_method_14_code_0 24 rfl rfl) ?_
        refine lv_istore (lv' := [(4, .int (iI (B 2 l0 5 l1))), (0, .ref (ad 2 l0 0)), (1, .int (iI l1)), (2, .long (lI l2))]) hx hb (D_54 W_prog_4_method_14_code_0 25 rfl rfl) hl (by decide) rfl (fun ls hl => ?_)
        exact b_Layout_columnX_27 X hf hZ hS (lv_sub hl [0, 1, 2, 3] rfl)
      · replace hf := gneg hf h6
        exact b_Layout_columnX_17 X hf hZ hS (lv_sub hl [] rfl)

abbrev Q_Performance_strokeKey (K : zK) (D : va_G) (ca : Nat → ClassId) (ad : Nat → Int → Nat → Nat) (L : List Nat) (r : Int) (F : zF) (B : zB) (A : Nat → Prop) : Array Value → State → Outcome → State → Prop := va_Ql (S := Unit) (fun p _ => p = lI r) (fun _ => zPo D ca ad lnC K.2 L F B A) A
def f_Performance_strokeKey (K : zK) (l0 : Int) (l1 : Int) (l2 : Int) (l4 : Int) (F : zF) (B : zB) : zO := if r32 l4 then if 0 ≤ l0 ∧ l0 < K.2 5 then if 0 ≤ l1 ∧ l1 < 2000 then if r32 (B 5 l0 340 l1) then if r32 (B 5 l0 342 l1) then if r32 (B 5 l0 341 l1) then if r32 l1 then some (zlor (zlshl (zlor (zlshl (zlor (zlshl (zlor (zlshl ((l2 * 2) + l4) 2) (B 5 l0 340 l1)) 7) (B 5 l0 342 l1)) 8) (B 5 l0 341 l1)) 11) l1, F, B) else none else none else none else none else none else none else none
set_option maxHeartbeats 4000000 in
set_option maxRecDepth 100000 in
theorem c_Performance_strokeKey {l : Launch} {D : va_G} {ca : Nat → ClassId} {ad : Nat → Int → Nat → Nat} {L : List Nat} {aS vS : Nat → Nat} {sz : Nat} {K : zK}  {l0 : Int} {l1 : Int} {l2 : Int} {l4 : Int} {F F9 : zF} {B B9 : zB} {r : Int} (hf : f_Performance_strokeKey K l0 l1 l2 l4 F B = some (r, F9, B9)) : Met l ({ cls := "StaveHouse$Performance", name := "strokeKey", desc := "(IJI)J" } : Jvm.MethodName) (Cond.code ({ cls := "StaveHouse$Performance", name := "strokeKey", desc := "(IJI)J" } : Jvm.MethodName) prog_7_method_12_code 7 (Option.some Jvm.ClassFile.FieldType.long) :: wAll) ({ frames := 0, cells := 0, slots := 0, locals := 0 } : Room) (va_Pc [.ref (ad 5 l0 0), .int (iI l1), .long (lI l2), .int (iI l4)] (zPre D ca ad lnC K.2 L aS vS F B sz)) (Q_Performance_strokeKey K D ca ad L r F9 B9 (zA L sz)) 0 0 (zA L sz) := by
  refine zMet (Qc := Q_Performance_strokeKey K D ca ad L r F9 B9) (lv := [(0, .ref (ad 5 l0 0)), (1, .int (iI l1)), (2, .long (lI l2)), (4, .int (iI l4))]) (by decide) (Nat.le_of_ble_eq_true rfl) rfl (fun A p e s m below meth c ls X hZ hS hl => ?_)
  obtain ⟨hx, hb, hr, hml, hown, hts, hlk, hK, hA, hL, hX⟩ := id X
  replace hf : (if r32 l4 then if 0 ≤ l0 ∧ l0 < K.2 5 then if 0 ≤ l1 ∧ l1 < 2000 then if r32 (B 5 l0 340 l1) then if r32 (B 5 l0 342 l1) then if r32 (B 5 l0 341 l1) then if r32 l1 then some (zlor (zlshl (zlor (zlshl (zlor (zlshl (zlor (zlshl ((l2 * 2) + l4) 2) (B 5 l0 340 l1)) 7) (B 5 l0 342 l1)) 8) (B 5 l0 341 l1)) 11) l1, F, B) else none else none else none else none else none else none else none) = some (r, F9, B9) := hf
  refine lv_lload_n hx hb (D_32 W_prog_7_method_12_code_0 0 rfl rfl) rfl (lv_at hl 2 rfl) ?_
  refine lv_ldc2 hx hb hown (hts _ k_7_95) (D_20 W_prog_7_method_12_code_0 1 rfl rfl rfl) ?_
  refine W.eq (g2 := F0 m 4 ls [.long (lI 2), .long (lI l2)]) rfl ?_
  refine zlmul hx hb (D_105 W_prog_7_method_12_code_0 4 rfl rfl) ?_
  refine lv_iload hx hb (D_21 W_prog_7_method_12_code_0 5 rfl rfl) (lv_at hl 3 rfl) ?_
  obtain ⟨g1, hf⟩ := gif hf
  refine zi2l hx hb g1 (D_133 W_prog_7_method_12_code_0 7 rfl rfl) ?_
  refine zladd hx hb (D_97 W_prog_7_method_12_code_0 8 rfl rfl) ?_
  refine lv_lstore (lv' := [(5, .long (lI ((l2 * 2) + l4))), (0, .ref (ad 5 l0 0)), (1, .int (iI l1)), (2, .long (lI l2)), (4, .int (iI l4))]) hx hb (D_55 W_prog_7_method_12_code_0 9 rfl rfl) hl (by decide) rfl (fun ls hl => ?_)
  refine lv_lload hx hb (D_22 W_prog_7_method_12_code_0 11 rfl rfl) (lv_at hl 0 rfl) ?_
  refine lv_iconst (v := iI 2) hx hb (D_5 W_prog_7_method_12_code_0 13 rfl rfl) rfl ?_
  refine zlshl_r hx hb (D_121 W_prog_7_method_12_code_0 14 rfl rfl) ?_
  refine lv_aload_n hx hb (D_42 W_prog_7_method_12_code_0 15 rfl rfl) rfl (lv_at hl 1 rfl) ?_
  obtain ⟨g2, hf⟩ := gif hf
  refine zget (ci := 5) (C := RX5) (T := TX5) (v := .ref (ad 5 l0 (7 + 1))) (k := 7) hx hb hts inW_5 hown hK hZ g2.1 g2.2 rfl (by decide) k_6_76 rfl (D_180 W_prog_7_method_12_code_0 16 rfl rfl rfl) ?_
  refine lv_iconst (v := iI 0) hx hb (D_3 W_prog_7_method_12_code_0 19 rfl rfl) rfl ?_
  refine zaldQ (t := 0) (ci := 5) (k := 7) hx hb hK rfl hZ g2.1 g2.2 rfl (Nat.le_of_ble_eq_true rfl) (by decide) (by decide) (D_50 W_prog_7_method_12_code_0 20 rfl rfl) ?_
  refine W.eq (g2 := F0 m 21 ls [.ref (ad 5 l0 (340 + 1)), .long (lI (zlshl ((l2 * 2) + l4) 2))]) rfl ?_
  refine lv_iload_n hx hb (D_27 W_prog_7_method_12_code_0 21 rfl rfl) rfl (lv_at hl 2 rfl) ?_
  obtain ⟨g3, hf⟩ := gif hf
  refine zald (ci := 5) (k := 340) hx hb hK rfl hZ g2.1 g2.2 rfl (Nat.le_of_ble_eq_true rfl) g3.1 g3.2 (D_46 W_prog_7_method_12_code_0 22 rfl rfl) ?_
  obtain ⟨g4, hf⟩ := gif hf
  refine zi2l hx hb g4 (D_133 W_prog_7_method_12_code_0 23 rfl rfl) ?_
  refine zlor_r hx hb (D_129 W_prog_7_method_12_code_0 24 rfl rfl) ?_
  refine lv_lstore (lv' := [(5, .long (lI (zlor (zlshl ((l2 * 2) + l4) 2) (B 5 l0 340 l1)))), (0, .ref (ad 5 l0 0)), (1, .int (iI l1)), (2, .long (lI l2)), (4, .int (iI l4))]) hx hb (D_55 W_prog_7_method_12_code_0 25 rfl rfl) hl (by decide) rfl (fun ls hl => ?_)
  refine lv_lload hx hb (D_22 W_prog_7_method_12_code_0 27 rfl rfl) (lv_at hl 0 rfl) ?_
  refine lv_bipush (v := iI 7) hx hb (D_16 W_prog_7_method_12_code_0 29 rfl rfl rfl) (by decide) ?_
  refine zlshl_r hx hb (D_121 W_prog_7_method_12_code_0 31 rfl rfl) ?_
  refine lv_aload_n hx hb (D_42 W_prog_7_method_12_code_32 0 rfl rfl) rfl (lv_at hl 1 rfl) ?_
  refine zget (ci := 5) (C := RX5) (T := TX5) (v := .ref (ad 5 l0 (7 + 1))) (k := 7) hx hb hts inW_5 hown hK hZ g2.1 g2.2 rfl (by decide) k_6_76 rfl (D_180 W_prog_7_method_12_code_32 1 rfl rfl rfl) ?_
  refine lv_iconst (v := iI 2) hx hb (D_5 W_prog_7_method_12_code_32 4 rfl rfl) rfl ?_
  refine zaldQ (t := 0) (ci := 5) (k := 7) hx hb hK rfl hZ g2.1 g2.2 rfl (Nat.le_of_ble_eq_true rfl) (by decide) (by decide) (D_50 W_prog_7_method_12_code_32 5 rfl rfl) ?_
  refine W.eq (g2 := F0 m 38 ls [.ref (ad 5 l0 (342 + 1)), .long (lI (zlshl (zlor (zlshl ((l2 * 2) + l4) 2) (B 5 l0 340 l1)) 7))]) rfl ?_
  refine lv_iload_n hx hb (D_27 W_prog_7_method_12_code_32 6 rfl rfl) rfl (lv_at hl 2 rfl) ?_
  refine zald (ci := 5) (k := 342) hx hb hK rfl hZ g2.1 g2.2 rfl (Nat.le_of_ble_eq_true rfl) g3.1 g3.2 (D_46 W_prog_7_method_12_code_32 7 rfl rfl) ?_
  obtain ⟨g5, hf⟩ := gif hf
  refine zi2l hx hb g5 (D_133 W_prog_7_method_12_code_32 8 rfl rfl) ?_
  refine zlor_r hx hb (D_129 W_prog_7_method_12_code_32 9 rfl rfl) ?_
  refine lv_lstore (lv' := [(5, .long (lI (zlor (zlshl (zlor (zlshl ((l2 * 2) + l4) 2) (B 5 l0 340 l1)) 7) (B 5 l0 342 l1)))), (0, .ref (ad 5 l0 0)), (1, .int (iI l1)), (2, .long (lI l2)), (4, .int (iI l4))]) hx hb (D_55 W_prog_7_method_12_code_32 10 rfl rfl) hl (by decide) rfl (fun ls hl => ?_)
  refine lv_lload hx hb (D_22 W_prog_7_method_12_code_32 12 rfl rfl) (lv_at hl 0 rfl) ?_
  refine lv_bipush (v := iI 8) hx hb (D_16 W_prog_7_method_12_code_32 14 rfl rfl rfl) (by decide) ?_
  refine zlshl_r hx hb (D_121 W_prog_7_method_12_code_32 16 rfl rfl) ?_
  refine lv_aload_n hx hb (D_42 W_prog_7_method_12_code_32 17 rfl rfl) rfl (lv_at hl 1 rfl) ?_
  refine zget (ci := 5) (C := RX5) (T := TX5) (v := .ref (ad 5 l0 (7 + 1))) (k := 7) hx hb hts inW_5 hown hK hZ g2.1 g2.2 rfl (by decide) k_6_76 rfl (D_180 W_prog_7_method_12_code_32 18 rfl rfl rfl) ?_
  refine lv_iconst (v := iI 1) hx hb (D_4 W_prog_7_method_12_code_32 21 rfl rfl) rfl ?_
  refine zaldQ (t := 0) (ci := 5) (k := 7) hx hb hK rfl hZ g2.1 g2.2 rfl (Nat.le_of_ble_eq_true rfl) (by decide) (by decide) (D_50 W_prog_7_method_12_code_32 22 rfl rfl) ?_
  refine W.eq (g2 := F0 m 55 ls [.ref (ad 5 l0 (341 + 1)), .long (lI (zlshl (zlor (zlshl (zlor (zlshl ((l2 * 2) + l4) 2) (B 5 l0 340 l1)) 7) (B 5 l0 342 l1)) 8))]) rfl ?_
  refine lv_iload_n hx hb (D_27 W_prog_7_method_12_code_32 23 rfl rfl) rfl (lv_at hl 2 rfl) ?_
  refine zald (ci := 5) (k := 341) hx hb hK rfl hZ g2.1 g2.2 rfl (Nat.le_of_ble_eq_true rfl) g3.1 g3.2 (D_46 W_prog_7_method_12_code_32 24 rfl rfl) ?_
  obtain ⟨g6, hf⟩ := gif hf
  refine zi2l hx hb g6 (D_133 W_prog_7_method_12_code_32 25 rfl rfl) ?_
  refine zlor_r hx hb (D_129 W_prog_7_method_12_code_32 26 rfl rfl) ?_
  refine lv_lstore (lv' := [(5, .long (lI (zlor (zlshl (zlor (zlshl (zlor (zlshl ((l2 * 2) + l4) 2) (B 5 l0 340 l1)) 7) (B 5 l0 342 l1)) 8) (B 5 l0 341 l1)))), (0, .ref (ad 5 l0 0)), (1, .int (iI l1)), (2, .long (lI l2)), (4, .int (iI l4))]) hx hb (D_55 W_prog_7_method_12_code_32 27 rfl rfl) hl (by decide) rfl (fun ls hl => ?_)
  refine lv_lload hx hb (D_22 W_prog_7_method_12_code_32 29 rfl rfl) (lv_at hl 0 rfl) ?_
  refine lv_bipush (v := iI 11) hx hb (D_16 W_prog_7_method_12_code_32 31 rfl rfl rfl) (by decide) ?_
  refine zlshl_r hx hb (D_121 W_prog_7_method_12_code_64 1 rfl rfl) ?_
  refine lv_iload_n hx hb (D_27 W_prog_7_method_12_code_64 2 rfl rfl) rfl (lv_at hl 2 rfl) ?_
  obtain ⟨g7, hf⟩ := gif hf
  refine zi2l hx hb g7 (D_133 W_prog_7_method_12_code_64 3 rfl rfl) ?_
  refine zlor_r hx hb (D_129 W_prog_7_method_12_code_64 4 rfl rfl) ?_
  cases hf
  exact W.lret hx hb hr (fun t ht hW => ⟨⟨_, (), rfl, rfl, by rw [ht]; exact hZ, va_K.moved hW.alike hK⟩, hS.F ht⟩) hS.2.2 (D_173 W_prog_7_method_12_code_64 5 rfl rfl) hlk

abbrev Q_Performance_merge (K : zK) (D : va_G) (ca : Nat → ClassId) (ad : Nat → Int → Nat → Nat) (L : List Nat) (r : Int) (F : zF) (B : zB) (A : Nat → Prop) : Array Value → State → Outcome → State → Prop := va_Qv (S := Unit) (fun _ => True) (fun _ => zPo D ca ad lnC K.2 L F B A) A
def f_Performance_merge_108 (rec9 : Int → Int → Int → Int → Int → Int → zF → zB → zO) (K : zK) (l4 : Int) (l6 : Int) (l0 : Int) (l2 : Int) (l3 : Int) (s0 : Int) (s1 : Int) (F : zF) (B : zB) : zO := rec9 (l6 + 1) (s0 + s1) l4 l0 l2 l3 F B
set_option maxHeartbeats 4000000 in
set_option maxRecDepth 100000 in
theorem b_Performance_merge_108 {D : va_G} {ca : Nat → ClassId} {ad : Nat → Int → Nat → Nat} {L : List Nat} {aS vS : Nat → Nat} {A : Nat → Prop} {p : Program} {l : Launch} {e : Env} {s : State} {m : MethodId} {args : Array Value} {below : List Frame} {meth : Method} {c : Code} {K : zK} {r : Int} {F9 : zF} {B9 : zB} (X : zX D ca L aS vS A p s m args meth c prog_7_method_14_code 8 (Option.none : Option Jvm.ClassFile.FieldType) "StaveHouse$Performance") {rec9 : Int → Int → Int → Int → Int → Int → zF → zB → zO} (hrec9 : ∀ {l6 : Int} {l5 : Int} {l4 : Int} {l0 : Int} {l2 : Int} {l3 : Int} {F : zF} {B : zB} {H : Heap} {locs : List Loc} {ls : Array Slot}, rec9 l6 l5 l4 l0 l2 l3 F B = some (r, F9, B9) → zH D ca ad lnC K.2 L F B A H → va_S A s.heap H locs → lv_has ls 8 [(6, .int (iI l6)), (5, .int (iI l5)), (4, .int (iI l4)), (0, .ref (ad 5 l0 0)), (2, .int (iI l2)), (3, .int (iI l3))] → W p l e ({ frames := 0, cells := 0, slots := 0, locals := 0 } : Room) s m args below meth c H locs 0 0 (MQ below (Q_Performance_merge K D ca ad L r F9 B9 A) args s 0 0 A) (F0 m 9 ls [])) {l4 : Int} {l6 : Int} {l0 : Int} {l2 : Int} {l3 : Int} {s0 : Int} {s1 : Int} {F : zF} {B : zB} {H : Heap} {locs : List Loc} {ls : Array Slot} (hf : f_Performance_merge_108 rec9 K l4 l6 l0 l2 l3 s0 s1 F B = some (r, F9, B9)) (hZ : zH D ca ad lnC K.2 L F B A H) (hS : va_S A s.heap H locs) (hl : lv_has ls 8 [(4, .int (iI l4)), (6, .int (iI l6)), (0, .ref (ad 5 l0 0)), (2, .int (iI l2)), (3, .int (iI l3))]) : W p l e ({ frames := 0, cells := 0, slots := 0, locals := 0 } : Room) s m args below meth c H locs 0 0 (MQ below (Q_Performance_merge K D ca ad L r F9 B9 A) args s 0 0 A) (F0 m 108 ls [.int (iI s1), .int (iI s0)]) := by
  obtain ⟨hx, hb, hr, hml, hown, hts, hlk, hK, hA, hL, hX⟩ := id X
  replace hf : (rec9 (l6 + 1) (s0 + s1) l4 l0 l2 l3 F B) = some (r, F9, B9) := hf
  refine zadd hx hb (D_96 W_prog_7_method_14_code_96 12 rfl rfl) ?_
  refine lv_istore (lv' := [(5, .int (iI (s0 + s1))), (4, .int (iI l4)), (6, .int (iI l6)), (0, .ref (ad 5 l0 0)), (2, .int (iI l2)), (3, .int (iI l3))]) hx hb (D_54 W_prog_7_method_14_code_96 13 rfl rfl) hl (by decide) rfl (fun ls hl => ?_)
  refine lv_iinc (v := iI (l6 + 1)) (lv' := [(6, .int (iI (l6 + 1))), (5, .int (iI (s0 + s1))), (4, .int (iI l4)), (0, .ref (ad 5 l0 0)), (2, .int (iI l2)), (3, .int (iI l3))]) hx hb d_7_14_111 hl (k := 2) rfl (iI_add _ 1) (by decide) rfl (fun ls hl => ?_)
  refine lv_goto (tgt := 9) hx hb (D_167 W_prog_7_method_14_code_96 18 rfl rfl rfl) (by decide) ?_
  exact hrec9 hf hZ hS (lv_sub hl [0, 1, 2, 3, 4, 5] rfl)

def f_Performance_merge_93 (rec9 : Int → Int → Int → Int → Int → Int → zF → zB → zO) (K : zK) (l7 : Int) (l6 : Int) (l5 : Int) (l0 : Int) (l2 : Int) (l3 : Int) (s0 : Int) (s1 : Int) (F : zF) (B : zB) : zO := if r32 l7 then (if l7 = 0 then f_Performance_merge_108 rec9 K (s0 + s1) l6 l0 l2 l3 l5 1 F B else f_Performance_merge_108 rec9 K (s0 + s1) l6 l0 l2 l3 l5 0 F B) else none
set_option maxHeartbeats 4000000 in
set_option maxRecDepth 100000 in
theorem b_Performance_merge_93 {D : va_G} {ca : Nat → ClassId} {ad : Nat → Int → Nat → Nat} {L : List Nat} {aS vS : Nat → Nat} {A : Nat → Prop} {p : Program} {l : Launch} {e : Env} {s : State} {m : MethodId} {args : Array Value} {below : List Frame} {meth : Method} {c : Code} {K : zK} {r : Int} {F9 : zF} {B9 : zB} (X : zX D ca L aS vS A p s m args meth c prog_7_method_14_code 8 (Option.none : Option Jvm.ClassFile.FieldType) "StaveHouse$Performance") {rec9 : Int → Int → Int → Int → Int → Int → zF → zB → zO} (hrec9 : ∀ {l6 : Int} {l5 : Int} {l4 : Int} {l0 : Int} {l2 : Int} {l3 : Int} {F : zF} {B : zB} {H : Heap} {locs : List Loc} {ls : Array Slot}, rec9 l6 l5 l4 l0 l2 l3 F B = some (r, F9, B9) → zH D ca ad lnC K.2 L F B A H → va_S A s.heap H locs → lv_has ls 8 [(6, .int (iI l6)), (5, .int (iI l5)), (4, .int (iI l4)), (0, .ref (ad 5 l0 0)), (2, .int (iI l2)), (3, .int (iI l3))] → W p l e ({ frames := 0, cells := 0, slots := 0, locals := 0 } : Room) s m args below meth c H locs 0 0 (MQ below (Q_Performance_merge K D ca ad L r F9 B9 A) args s 0 0 A) (F0 m 9 ls [])) {l7 : Int} {l6 : Int} {l5 : Int} {l0 : Int} {l2 : Int} {l3 : Int} {s0 : Int} {s1 : Int} {F : zF} {B : zB} {H : Heap} {locs : List Loc} {ls : Array Slot} (hf : f_Performance_merge_93 rec9 K l7 l6 l5 l0 l2 l3 s0 s1 F B = some (r, F9, B9)) (hZ : zH D ca ad lnC K.2 L F B A H) (hS : va_S A s.heap H locs) (hl : lv_has ls 8 [(7, .int (iI l7)), (6, .int (iI l6)), (5, .int (iI l5)), (0, .ref (ad 5 l0 0)), (2, .int (iI l2)), (3, .int (iI l3))]) : W p l e ({ frames := 0, cells := 0, slots := 0, locals := 0 } : Room) s m args below meth c H locs 0 0 (MQ below (Q_Performance_merge K D ca ad L r F9 B9 A) args s 0 0 A) (F0 m 93 ls [.int (iI s1), .int (iI s0)]) := by
  obtain ⟨hx, hb, hr, hml, hown, hts, hlk, hK, hA, hL, hX⟩ := id X
  replace hf : (if r32 l7 then (if l7 = 0 then f_Performance_merge_108 rec9 K (s0 + s1) l6 l0 l2 l3 l5 1 F B else f_Performance_merge_108 rec9 K (s0 + s1) l6 l0 l2 l3 l5 0 F B) else none) = some (r, F9, B9) := hf
  refine zadd hx hb (D_96 W_prog_7_method_14_code_64 29 rfl rfl) ?_
  refine lv_istore (lv' := [(4, .int (iI (s0 + s1))), (7, .int (iI l7)), (6, .int (iI l6)), (5, .int (iI l5)), (0, .ref (ad 5 l0 0)), (2, .int (iI l2)), (3, .int (iI l3))]) hx hb (D_54 W_prog_7_method_14_code_64 30 rfl rfl) hl (by decide) rfl (fun ls hl => ?_)
  refine lv_iload hx hb (D_21 W_prog_7_method_14_code_96 0 rfl rfl) (lv_at hl 3 rfl) ?_
  refine lv_iload hx hb (D_21 W_prog_7_method_14_code_96 2 rfl rfl) (lv_at hl 1 rfl) ?_
  obtain ⟨g34, hf⟩ := gif hf
  refine z0eq (tgt := 107) hx hb g34 (D_153 W_prog_7_method_14_code_96 4 rfl rfl rfl) (by decide) (fun h35 => ?_) (fun h35 => ?_)
  · replace hf := gpos hf h35
    refine lv_iconst (v := iI 1) hx hb (D_4 W_prog_7_method_14_code_96 11 rfl rfl) rfl ?_
    exact b_Performance_merge_108 X hrec9 hf hZ hS (lv_sub hl [0, 2, 4, 5, 6] rfl)
  · replace hf := gneg hf h35
    refine lv_iconst (v := iI 0) hx hb (D_3 W_prog_7_method_14_code_96 7 rfl rfl) rfl ?_
    refine lv_goto (tgt := 108) hx hb (D_167 W_prog_7_method_14_code_96 8 rfl rfl rfl) (by decide) ?_
    exact b_Performance_merge_108 X hrec9 hf hZ hS (lv_sub hl [0, 2, 4, 5, 6] rfl)

def f_Performance_merge_80 (rec9 : Int → Int → Int → Int → Int → Int → zF → zB → zO) (K : zK) (l7 : Int) (l6 : Int) (l5 : Int) (l4 : Int) (l0 : Int) (l2 : Int) (l3 : Int) (s0c : Nat) (s0i : Int) (s0k : Nat) (s1 : Int) (s2 : Int) (F : zF) (B : zB) : zO := if 0 ≤ s0i ∧ s0i < K.2 s0c then if 0 ≤ s1 ∧ s1 < (lnC s0c s0i s0k : Int) then if zk s0c s0k = (3, 1) then if lnC s0c s0i s0k ≤ 2147483647 then if r32 l7 then (if l7 = 0 then f_Performance_merge_93 rec9 K l7 l6 l5 l0 l2 l3 l4 0 F (zup4 B s0c s0i s0k s1 s2) else f_Performance_merge_93 rec9 K l7 l6 l5 l0 l2 l3 l4 1 F (zup4 B s0c s0i s0k s1 s2)) else none else none else none else none else none
set_option maxHeartbeats 4000000 in
set_option maxRecDepth 100000 in
theorem b_Performance_merge_80 {D : va_G} {ca : Nat → ClassId} {ad : Nat → Int → Nat → Nat} {L : List Nat} {aS vS : Nat → Nat} {A : Nat → Prop} {p : Program} {l : Launch} {e : Env} {s : State} {m : MethodId} {args : Array Value} {below : List Frame} {meth : Method} {c : Code} {K : zK} {r : Int} {F9 : zF} {B9 : zB} (X : zX D ca L aS vS A p s m args meth c prog_7_method_14_code 8 (Option.none : Option Jvm.ClassFile.FieldType) "StaveHouse$Performance") {rec9 : Int → Int → Int → Int → Int → Int → zF → zB → zO} (hrec9 : ∀ {l6 : Int} {l5 : Int} {l4 : Int} {l0 : Int} {l2 : Int} {l3 : Int} {F : zF} {B : zB} {H : Heap} {locs : List Loc} {ls : Array Slot}, rec9 l6 l5 l4 l0 l2 l3 F B = some (r, F9, B9) → zH D ca ad lnC K.2 L F B A H → va_S A s.heap H locs → lv_has ls 8 [(6, .int (iI l6)), (5, .int (iI l5)), (4, .int (iI l4)), (0, .ref (ad 5 l0 0)), (2, .int (iI l2)), (3, .int (iI l3))] → W p l e ({ frames := 0, cells := 0, slots := 0, locals := 0 } : Room) s m args below meth c H locs 0 0 (MQ below (Q_Performance_merge K D ca ad L r F9 B9 A) args s 0 0 A) (F0 m 9 ls [])) {l7 : Int} {l6 : Int} {l5 : Int} {l4 : Int} {l0 : Int} {l2 : Int} {l3 : Int} {s0c : Nat} {s0i : Int} {s0k : Nat} {s1 : Int} {s2 : Int} {F : zF} {B : zB} {H : Heap} {locs : List Loc} {ls : Array Slot} (hf : f_Performance_merge_80 rec9 K l7 l6 l5 l4 l0 l2 l3 s0c s0i s0k s1 s2 F B = some (r, F9, B9)) (hZ : zH D ca ad lnC K.2 L F B A H) (hS : va_S A s.heap H locs) (hl : lv_has ls 8 [(7, .int (iI l7)), (6, .int (iI l6)), (5, .int (iI l5)), (4, .int (iI l4)), (0, .ref (ad 5 l0 0)), (2, .int (iI l2)), (3, .int (iI l3))]) : W p l e ({ frames := 0, cells := 0, slots := 0, locals := 0 } : Room) s m args below meth c H locs 0 0 (MQ below (Q_Performance_merge K D ca ad L r F9 B9 A) args s 0 0 A) (F0 m 80 ls [.long (lI s2), .int (iI s1), .ref (ad s0c s0i (s0k + 1))]) := by
  obtain ⟨hx, hb, hr, hml, hown, hts, hlk, hK, hA, hL, hX⟩ := id X
  replace hf : (if 0 ≤ s0i ∧ s0i < K.2 s0c then if 0 ≤ s1 ∧ s1 < (lnC s0c s0i s0k : Int) then if zk s0c s0k = (3, 1) then if lnC s0c s0i s0k ≤ 2147483647 then if r32 l7 then (if l7 = 0 then f_Performance_merge_93 rec9 K l7 l6 l5 l0 l2 l3 l4 0 F (zup4 B s0c s0i s0k s1 s2) else f_Performance_merge_93 rec9 K l7 l6 l5 l0 l2 l3 l4 1 F (zup4 B s0c s0i s0k s1 s2)) else none else none else none else none else none) = some (r, F9, B9) := hf
  obtain ⟨g26, hf⟩ := gif hf
  obtain ⟨g27, hf⟩ := gif hf
  obtain ⟨g28, hf⟩ := gif hf
  obtain ⟨g29, hf⟩ := gif hf
  refine zlast (ci := s0c) (k := s0k) hx hb hK rfl hZ hS g26.1 g26.2 g28 g29 g27.1 g27.2 (D_80 W_prog_7_method_14_code_64 16 rfl rfl) (fun H30 locs30 hZ30 hS30 => ?_)
  refine lv_iload hx hb (D_21 W_prog_7_method_14_code_64 17 rfl rfl) (lv_at hl 3 rfl) ?_
  refine lv_iload hx hb (D_21 W_prog_7_method_14_code_64 19 rfl rfl) (lv_at hl 0 rfl) ?_
  obtain ⟨g31, hf⟩ := gif hf
  refine z0eq (tgt := 92) hx hb g31 (D_153 W_prog_7_method_14_code_64 21 rfl rfl rfl) (by decide) (fun h33 => ?_) (fun h33 => ?_)
  · replace hf := gpos hf h33
    refine lv_iconst (v := iI 0) hx hb (D_3 W_prog_7_method_14_code_64 28 rfl rfl) rfl ?_
    exact b_Performance_merge_93 X hrec9 hf hZ30 hS30 (lv_sub hl [0, 1, 2, 4, 5, 6] rfl)
  · replace hf := gneg hf h33
    refine lv_iconst (v := iI 1) hx hb (D_4 W_prog_7_method_14_code_64 24 rfl rfl) rfl ?_
    refine lv_goto (tgt := 93) hx hb (D_167 W_prog_7_method_14_code_64 25 rfl rfl rfl) (by decide) ?_
    exact b_Performance_merge_93 X hrec9 hf hZ30 hS30 (lv_sub hl [0, 1, 2, 4, 5, 6] rfl)

def f_Performance_merge_50 (rec9 : Int → Int → Int → Int → Int → Int → zF → zB → zO) (K : zK) (l6 : Int) (l5 : Int) (l4 : Int) (l0 : Int) (l2 : Int) (l3 : Int) (s0 : Int) (F : zF) (B : zB) : zO := if 0 ≤ l0 ∧ l0 < K.2 5 then if r32 s0 then (if s0 = 0 then if 0 ≤ l5 ∧ l5 < (lnC 5 l0 (F 5 l0 8).toNat : Int) then if zk 5 (F 5 l0 8).toNat = (3, 1) then if lnC 5 l0 (F 5 l0 8).toNat ≤ 2147483647 then f_Performance_merge_80 rec9 K s0 l6 l5 l4 l0 l2 l3 5 l0 ((F 5 l0 9).toNat) l6 (B 5 l0 (F 5 l0 8).toNat l5) F B else none else none else none else if 0 ≤ l4 ∧ l4 < (lnC 5 l0 (F 5 l0 8).toNat : Int) then if zk 5 (F 5 l0 8).toNat = (3, 1) then if lnC 5 l0 (F 5 l0 8).toNat ≤ 2147483647 then f_Performance_merge_80 rec9 K s0 l6 l5 l4 l0 l2 l3 5 l0 ((F 5 l0 9).toNat) l6 (B 5 l0 (F 5 l0 8).toNat l4) F B else none else none else none) else none else none
set_option maxHeartbeats 4000000 in
set_option maxRecDepth 100000 in
theorem b_Performance_merge_50 {D : va_G} {ca : Nat → ClassId} {ad : Nat → Int → Nat → Nat} {L : List Nat} {aS vS : Nat → Nat} {A : Nat → Prop} {p : Program} {l : Launch} {e : Env} {s : State} {m : MethodId} {args : Array Value} {below : List Frame} {meth : Method} {c : Code} {K : zK} {r : Int} {F9 : zF} {B9 : zB} (X : zX D ca L aS vS A p s m args meth c prog_7_method_14_code 8 (Option.none : Option Jvm.ClassFile.FieldType) "StaveHouse$Performance") {rec9 : Int → Int → Int → Int → Int → Int → zF → zB → zO} (hrec9 : ∀ {l6 : Int} {l5 : Int} {l4 : Int} {l0 : Int} {l2 : Int} {l3 : Int} {F : zF} {B : zB} {H : Heap} {locs : List Loc} {ls : Array Slot}, rec9 l6 l5 l4 l0 l2 l3 F B = some (r, F9, B9) → zH D ca ad lnC K.2 L F B A H → va_S A s.heap H locs → lv_has ls 8 [(6, .int (iI l6)), (5, .int (iI l5)), (4, .int (iI l4)), (0, .ref (ad 5 l0 0)), (2, .int (iI l2)), (3, .int (iI l3))] → W p l e ({ frames := 0, cells := 0, slots := 0, locals := 0 } : Room) s m args below meth c H locs 0 0 (MQ below (Q_Performance_merge K D ca ad L r F9 B9 A) args s 0 0 A) (F0 m 9 ls [])) {l6 : Int} {l5 : Int} {l4 : Int} {l0 : Int} {l2 : Int} {l3 : Int} {s0 : Int} {F : zF} {B : zB} {H : Heap} {locs : List Loc} {ls : Array Slot} (hf : f_Performance_merge_50 rec9 K l6 l5 l4 l0 l2 l3 s0 F B = some (r, F9, B9)) (hZ : zH D ca ad lnC K.2 L F B A H) (hS : va_S A s.heap H locs) (hl : lv_has ls 8 [(6, .int (iI l6)), (5, .int (iI l5)), (4, .int (iI l4)), (0, .ref (ad 5 l0 0)), (2, .int (iI l2)), (3, .int (iI l3))]) : W p l e ({ frames := 0, cells := 0, slots := 0, locals := 0 } : Room) s m args below meth c H locs 0 0 (MQ below (Q_Performance_merge K D ca ad L r F9 B9 A) args s 0 0 A) (F0 m 50 ls [.int (iI s0)]) := by
  obtain ⟨hx, hb, hr, hml, hown, hts, hlk, hK, hA, hL, hX⟩ := id X
  replace hf : (if 0 ≤ l0 ∧ l0 < K.2 5 then if r32 s0 then (if s0 = 0 then if 0 ≤ l5 ∧ l5 < (lnC 5 l0 (F 5 l0 8).toNat : Int) then if zk 5 (F 5 l0 8).toNat = (3, 1) then if lnC 5 l0 (F 5 l0 8).toNat ≤ 2147483647 then f_Performance_merge_80 rec9 K s0 l6 l5 l4 l0 l2 l3 5 l0 ((F 5 l0 9).toNat) l6 (B 5 l0 (F 5 l0 8).toNat l5) F B else none else none else none else if 0 ≤ l4 ∧ l4 < (lnC 5 l0 (F 5 l0 8).toNat : Int) then if zk 5 (F 5 l0 8).toNat = (3, 1) then if lnC 5 l0 (F 5 l0 8).toNat ≤ 2147483647 then f_Performance_merge_80 rec9 K s0 l6 l5 l4 l0 l2 l3 5 l0 ((F 5 l0 9).toNat) l6 (B 5 l0 (F 5 l0 8).toNat l4) F B else none else none else none) else none else none) = some (r, F9, B9) := hf
  refine lv_istore (lv' := [(7, .int (iI s0)), (6, .int (iI l6)), (5, .int (iI l5)), (4, .int (iI l4)), (0, .ref (ad 5 l0 0)), (2, .int (iI l2)), (3, .int (iI l3))]) hx hb (D_54 W_prog_7_method_14_code_32 18 rfl rfl) hl (by decide) rfl (fun ls hl => ?_)
  refine lv_aload_n hx hb (D_42 W_prog_7_method_14_code_32 20 rfl rfl) rfl (lv_at hl 4 rfl) ?_
  obtain ⟨g17, hf⟩ := gif hf
  refine zget (ci := 5) (C := RX5) (T := TX5) (v := .ref (ad 5 l0 ((F 5 l0 9).toNat + 1))) (k := 9) hx hb hts inW_5 hown hK hZ g17.1 g17.2 rfl (by decide) k_6_78 rfl (D_180 W_prog_7_method_14_code_32 21 rfl rfl rfl) ?_
  refine lv_iload hx hb (D_21 W_prog_7_method_14_code_32 24 rfl rfl) (lv_at hl 1 rfl) ?_
  refine lv_iload hx hb (D_21 W_prog_7_method_14_code_32 26 rfl rfl) (lv_at hl 0 rfl) ?_
  obtain ⟨g18, hf⟩ := gif hf
  refine z0eq (tgt := 73) hx hb g18 (D_153 W_prog_7_method_14_code_32 28 rfl rfl rfl) (by decide) (fun h19 => ?_) (fun h19 => ?_)
  · replace hf := gpos hf h19
    refine lv_aload_n hx hb (D_42 W_prog_7_method_14_code_64 9 rfl rfl) rfl (lv_at hl 4 rfl) ?_
    refine zget (ci := 5) (C := RX5) (T := TX5) (v := .ref (ad 5 l0 ((F 5 l0 8).toNat + 1))) (k := 8) hx hb hts inW_5 hown hK hZ g17.1 g17.2 rfl (by decide) k_6_77 rfl (D_180 W_prog_7_method_14_code_64 10 rfl rfl rfl) ?_
    refine lv_iload hx hb (D_21 W_prog_7_method_14_code_64 13 rfl rfl) (lv_at hl 2 rfl) ?_
    obtain ⟨g20, hf⟩ := gif hf
    obtain ⟨g21, hf⟩ := gif hf
    obtain ⟨g22, hf⟩ := gif hf
    refine zlald (ci := 5) (k := (F 5 l0 8).toNat) hx hb hK rfl hZ g17.1 g17.2 g21 g22 g20.1 g20.2 (D_47 W_prog_7_method_14_code_64 15 rfl rfl) ?_
    exact b_Performance_merge_80 X hrec9 hf hZ hS (lv_sub hl [0, 1, 2, 3, 4, 5, 6] rfl)
  · replace hf := gneg hf h19
    refine lv_aload_n hx hb (D_42 W_prog_7_method_14_code_32 31 rfl rfl) rfl (lv_at hl 4 rfl) ?_
    refine zget (ci := 5) (C := RX5) (T := TX5) (v := .ref (ad 5 l0 ((F 5 l0 8).toNat + 1))) (k := 8) hx hb hts inW_5 hown hK hZ g17.1 g17.2 rfl (by decide) k_6_77 rfl (D_180 W_prog_7_method_14_code_64 0 rfl rfl rfl) ?_
    refine lv_iload hx hb (D_21 W_prog_7_method_14_code_64 3 rfl rfl) (lv_at hl 3 rfl) ?_
    obtain ⟨g23, hf⟩ := gif hf
    obtain ⟨g24, hf⟩ := gif hf
    obtain ⟨g25, hf⟩ := gif hf
    refine zlald (ci := 5) (k := (F 5 l0 8).toNat) hx hb hK rfl hZ g17.1 g17.2 g24 g25 g23.1 g23.2 (D_47 W_prog_7_method_14_code_64 5 rfl rfl) ?_
    refine lv_goto (tgt := 80) hx hb (D_167 W_prog_7_method_14_code_64 6 rfl rfl rfl) (by decide) ?_
    exact b_Performance_merge_80 X hrec9 hf hZ hS (lv_sub hl [0, 1, 2, 3, 4, 5, 6] rfl)

def f_Performance_merge_49 (rec9 : Int → Int → Int → Int → Int → Int → zF → zB → zO) (K : zK) (l6 : Int) (l5 : Int) (l4 : Int) (l0 : Int) (l2 : Int) (l3 : Int) (F : zF) (B : zB) : zO := f_Performance_merge_50 rec9 K l6 l5 l4 l0 l2 l3 0 F B
set_option maxHeartbeats 4000000 in
set_option maxRecDepth 100000 in
theorem b_Performance_merge_49 {D : va_G} {ca : Nat → ClassId} {ad : Nat → Int → Nat → Nat} {L : List Nat} {aS vS : Nat → Nat} {A : Nat → Prop} {p : Program} {l : Launch} {e : Env} {s : State} {m : MethodId} {args : Array Value} {below : List Frame} {meth : Method} {c : Code} {K : zK} {r : Int} {F9 : zF} {B9 : zB} (X : zX D ca L aS vS A p s m args meth c prog_7_method_14_code 8 (Option.none : Option Jvm.ClassFile.FieldType) "StaveHouse$Performance") {rec9 : Int → Int → Int → Int → Int → Int → zF → zB → zO} (hrec9 : ∀ {l6 : Int} {l5 : Int} {l4 : Int} {l0 : Int} {l2 : Int} {l3 : Int} {F : zF} {B : zB} {H : Heap} {locs : List Loc} {ls : Array Slot}, rec9 l6 l5 l4 l0 l2 l3 F B = some (r, F9, B9) → zH D ca ad lnC K.2 L F B A H → va_S A s.heap H locs → lv_has ls 8 [(6, .int (iI l6)), (5, .int (iI l5)), (4, .int (iI l4)), (0, .ref (ad 5 l0 0)), (2, .int (iI l2)), (3, .int (iI l3))] → W p l e ({ frames := 0, cells := 0, slots := 0, locals := 0 } : Room) s m args below meth c H locs 0 0 (MQ below (Q_Performance_merge K D ca ad L r F9 B9 A) args s 0 0 A) (F0 m 9 ls [])) {l6 : Int} {l5 : Int} {l4 : Int} {l0 : Int} {l2 : Int} {l3 : Int} {F : zF} {B : zB} {H : Heap} {locs : List Loc} {ls : Array Slot} (hf : f_Performance_merge_49 rec9 K l6 l5 l4 l0 l2 l3 F B = some (r, F9, B9)) (hZ : zH D ca ad lnC K.2 L F B A H) (hS : va_S A s.heap H locs) (hl : lv_has ls 8 [(6, .int (iI l6)), (5, .int (iI l5)), (4, .int (iI l4)), (0, .ref (ad 5 l0 0)), (2, .int (iI l2)), (3, .int (iI l3))]) : W p l e ({ frames := 0, cells := 0, slots := 0, locals := 0 } : Room) s m args below meth c H locs 0 0 (MQ below (Q_Performance_merge K D ca ad L r F9 B9 A) args s 0 0 A) (F0 m 49 ls []) := by
  obtain ⟨hx, hb, hr, hml, hown, hts, hlk, hK, hA, hL, hX⟩ := id X
  replace hf : (f_Performance_merge_50 rec9 K l6 l5 l4 l0 l2 l3 0 F B) = some (r, F9, B9) := hf
  refine lv_iconst (v := iI 0) hx hb (D_3 W_prog_7_method_14_code_32 17 rfl rfl) rfl ?_
  exact b_Performance_merge_50 X hrec9 hf hZ hS (lv_sub hl [0, 1, 2, 3, 4, 5] rfl)

def f_Performance_merge_45 (rec9 : Int → Int → Int → Int → Int → Int → zF → zB → zO) (K : zK) (l6 : Int) (l5 : Int) (l4 : Int) (l0 : Int) (l2 : Int) (l3 : Int) (F : zF) (B : zB) : zO := f_Performance_merge_50 rec9 K l6 l5 l4 l0 l2 l3 1 F B
set_option maxHeartbeats 4000000 in
set_option maxRecDepth 100000 in
theorem b_Performance_merge_45 {D : va_G} {ca : Nat → ClassId} {ad : Nat → Int → Nat → Nat} {L : List Nat} {aS vS : Nat → Nat} {A : Nat → Prop} {p : Program} {l : Launch} {e : Env} {s : State} {m : MethodId} {args : Array Value} {below : List Frame} {meth : Method} {c : Code} {K : zK} {r : Int} {F9 : zF} {B9 : zB} (X : zX D ca L aS vS A p s m args meth c prog_7_method_14_code 8 (Option.none : Option Jvm.ClassFile.FieldType) "StaveHouse$Performance") {rec9 : Int → Int → Int → Int → Int → Int → zF → zB → zO} (hrec9 : ∀ {l6 : Int} {l5 : Int} {l4 : Int} {l0 : Int} {l2 : Int} {l3 : Int} {F : zF} {B : zB} {H : Heap} {locs : List Loc} {ls : Array Slot}, rec9 l6 l5 l4 l0 l2 l3 F B = some (r, F9, B9) → zH D ca ad lnC K.2 L F B A H → va_S A s.heap H locs → lv_has ls 8 [(6, .int (iI l6)), (5, .int (iI l5)), (4, .int (iI l4)), (0, .ref (ad 5 l0 0)), (2, .int (iI l2)), (3, .int (iI l3))] → W p l e ({ frames := 0, cells := 0, slots := 0, locals := 0 } : Room) s m args below meth c H locs 0 0 (MQ below (Q_Performance_merge K D ca ad L r F9 B9 A) args s 0 0 A) (F0 m 9 ls [])) {l6 : Int} {l5 : Int} {l4 : Int} {l0 : Int} {l2 : Int} {l3 : Int} {F : zF} {B : zB} {H : Heap} {locs : List Loc} {ls : Array Slot} (hf : f_Performance_merge_45 rec9 K l6 l5 l4 l0 l2 l3 F B = some (r, F9, B9)) (hZ : zH D ca ad lnC K.2 L F B A H) (hS : va_S A s.heap H locs) (hl : lv_has ls 8 [(6, .int (iI l6)), (5, .int (iI l5)), (4, .int (iI l4)), (0, .ref (ad 5 l0 0)), (2, .int (iI l2)), (3, .int (iI l3))]) : W p l e ({ frames := 0, cells := 0, slots := 0, locals := 0 } : Room) s m args below meth c H locs 0 0 (MQ below (Q_Performance_merge K D ca ad L r F9 B9 A) args s 0 0 A) (F0 m 45 ls []) := by
  obtain ⟨hx, hb, hr, hml, hown, hts, hlk, hK, hA, hL, hX⟩ := id X
  replace hf : (f_Performance_merge_50 rec9 K l6 l5 l4 l0 l2 l3 1 F B) = some (r, F9, B9) := hf
  refine lv_iconst (v := iI 1) hx hb (D_4 W_prog_7_method_14_code_32 13 rfl rfl) rfl ?_
  refine lv_goto (tgt := 50) hx hb (D_167 W_prog_7_method_14_code_32 14 rfl rfl rfl) (by decide) ?_
  exact b_Performance_merge_50 X hrec9 hf hZ hS (lv_sub hl [0, 1, 2, 3, 4, 5] rfl)

def f_Performance_merge_9 (K : zK) : Nat → Int → Int → Int → Int → Int → Int → zF → zB → zO
  | 0, _, _, _, _, _, _, _, _ => none
  | n + 1, l6, l5, l4, l0, l2, l3, F, B => if r32 l6 then if r32 l3 then (if l3 ≤ l6 then some (0, F, B) else if r32 l4 then if r32 l2 then (if l2 ≤ l4 then f_Performance_merge_49 (f_Performance_merge_9 K n) K l6 l5 l4 l0 l2 l3 F B else if r32 l5 then (if l3 ≤ l5 then f_Performance_merge_45 (f_Performance_merge_9 K n) K l6 l5 l4 l0 l2 l3 F B else if 0 ≤ l0 ∧ l0 < K.2 5 then if 0 ≤ l4 ∧ l4 < (lnC 5 l0 (F 5 l0 8).toNat : Int) then if zk 5 (F 5 l0 8).toNat = (3, 1) then if lnC 5 l0 (F 5 l0 8).toNat ≤ 2147483647 then if 0 ≤ l5 ∧ l5 < (lnC 5 l0 (F 5 l0 8).toNat : Int) then if r64 (B 5 l0 (F 5 l0 8).toNat l4) then if r64 (B 5 l0 (F 5 l0 8).toNat l5) then (if 0 < (zcmp (B 5 l0 (F 5 l0 8).toNat l4) (B 5 l0 (F 5 l0 8).toNat l5)) then f_Performance_merge_49 (f_Performance_merge_9 K n) K l6 l5 l4 l0 l2 l3 F B else f_Performance_merge_45 (f_Performance_merge_9 K n) K l6 l5 l4 l0 l2 l3 F B) else none else none else none else none else none else none else none) else none) else none else none) else none else none
set_option maxHeartbeats 4000000 in
set_option maxRecDepth 100000 in
theorem b_Performance_merge_9 {D : va_G} {ca : Nat → ClassId} {ad : Nat → Int → Nat → Nat} {L : List Nat} {aS vS : Nat → Nat} {A : Nat → Prop} {p : Program} {l : Launch} {e : Env} {s : State} {m : MethodId} {args : Array Value} {below : List Frame} {meth : Method} {c : Code} {K : zK} {r : Int} {F9 : zF} {B9 : zB} (X : zX D ca L aS vS A p s m args meth c prog_7_method_14_code 8 (Option.none : Option Jvm.ClassFile.FieldType) "StaveHouse$Performance") : ∀ {n : Nat} {l6 : Int} {l5 : Int} {l4 : Int} {l0 : Int} {l2 : Int} {l3 : Int} {F : zF} {B : zB} {H : Heap} {locs : List Loc} {ls : Array Slot}, f_Performance_merge_9 K n l6 l5 l4 l0 l2 l3 F B = some (r, F9, B9) → zH D ca ad lnC K.2 L F B A H → va_S A s.heap H locs → lv_has ls 8 [(6, .int (iI l6)), (5, .int (iI l5)), (4, .int (iI l4)), (0, .ref (ad 5 l0 0)), (2, .int (iI l2)), (3, .int (iI l3))] → W p l e ({ frames := 0, cells := 0, slots := 0, locals := 0 } : Room) s m args below meth c H locs 0 0 (MQ below (Q_Performance_merge K D ca ad L r F9 B9 A) args s 0 0 A) (F0 m 9 ls []) := by
  obtain ⟨hx, hb, hr, hml, hown, hts, hlk, hK, hA, hL, hX⟩ := id X
  intro n
  induction n with
  | zero =>
    intros
    rename_i hf _ _ _
    cases hf
  | succ n ih =>
    intro l6 l5 l4 l0 l2 l3 F B H locs ls hf hZ hS hl
    replace hf : (if r32 l6 then if r32 l3 then (if l3 ≤ l6 then some (0, F, B) else if r32 l4 then if r32 l2 then (if l2 ≤ l4 then f_Performance_merge_49 (f_Performance_merge_9 K n) K l6 l5 l4 l0 l2 l3 F B else if r32 l5 then (if l3 ≤ l5 then f_Performance_merge_45 (f_Performance_merge_9 K n) K l6 l5 l4 l0 l2 l3 F B else if 0 ≤ l0 ∧ l0 < K.2 5 then if 0 ≤ l4 ∧ l4 < (lnC 5 l0 (F 5 l0 8).toNat : Int) then if zk 5 (F 5 l0 8).toNat = (3, 1) then if lnC 5 l0 (F 5 l0 8).toNat ≤ 2147483647 then if 0 ≤ l5 ∧ l5 < (lnC 5 l0 (F 5 l0 8).toNat : Int) then if r64 (B 5 l0 (F 5 l0 8).toNat l4) then if r64 (B 5 l0 (F 5 l0 8).toNat l5) then (if 0 < (zcmp (B 5 l0 (F 5 l0 8).toNat l4) (B 5 l0 (F 5 l0 8).toNat l5)) then f_Performance_merge_49 (f_Performance_merge_9 K n) K l6 l5 l4 l0 l2 l3 F B else f_Performance_merge_45 (f_Performance_merge_9 K n) K l6 l5 l4 l0 l2 l3 F B) else none else none else none else none else none else none else none) else none) else none else none) else none else none) = some (r, F9, B9) := hf
    refine lv_iload hx hb (D_21 W_prog_7_method_14_code_0 9 rfl rfl) (lv_at hl 0 rfl) ?_
    refine lv_iload_n hx hb (D_29 W_prog_7_method_14_code_0 11 rfl rfl) rfl (lv_at hl 5 rfl) ?_
    obtain ⟨g1, hf⟩ := gif hf
    obtain ⟨g2, hf⟩ := gif hf
    refine zge (tgt := 117) hx hb g1 g2 (D_162 W_prog_7_method_14_code_0 12 rfl rfl rfl) (by decide) (fun h3 => ?_) (fun h3 => ?_)
    · replace hf := gpos hf h3
      cases hf
      exact W.vret hx hb hr (fun t ht hW => ⟨⟨(), rfl, trivial, by rw [ht]; exact hZ, va_K.moved hW.alike hK⟩, hS.F ht⟩) hS.2.2 (D_177 W_prog_7_method_14_code_96 21 rfl rfl) hlk
    · replace hf := gneg hf h3
      refine lv_iload hx hb (D_21 W_prog_7_method_14_code_0 15 rfl rfl) (lv_at hl 2 rfl) ?_
      refine lv_iload_n hx hb (D_28 W_prog_7_method_14_code_0 17 rfl rfl) rfl (lv_at hl 4 rfl) ?_
      obtain ⟨g4, hf⟩ := gif hf
      obtain ⟨g5, hf⟩ := gif hf
      refine zge (tgt := 49) hx hb g4 g5 (D_162 W_prog_7_method_14_code_0 18 rfl rfl rfl) (by decide) (fun h6 => ?_) (fun h6 => ?_)
      · replace hf := gpos hf h6
        exact b_Performance_merge_49 X ih hf hZ hS (lv_sub hl [0, 1, 2, 3, 4, 5] rfl)
      · replace hf := gneg hf h6
        refine lv_iload hx hb (D_21 W_prog_7_method_14_code_0 21 rfl rfl) (lv_at hl 1 rfl) ?_
        refine lv_iload_n hx hb (D_29 W_prog_7_method_14_code_0 23 rfl rfl) rfl (lv_at hl 5 rfl) ?_
        obtain ⟨g7, hf⟩ := gif hf
        refine zge (tgt := 45) hx hb g7 g2 (D_162 W_prog_7_method_14_code_0 24 rfl rfl rfl) (by decide) (fun h8 => ?_) (fun h8 => ?_)
        · replace hf := gpos hf h8
          exact b_Performance_merge_45 X ih hf hZ hS (lv_sub hl [0, 1, 2, 3, 4, 5] rfl)
        · replace hf := gneg hf h8
          refine lv_aload_n hx hb (D_42 W_prog_7_method_14_code_0 27 rfl rfl) rfl (lv_at hl 3 rfl) ?_
          obtain ⟨g9, hf⟩ := gif hf
          refine zget (ci := 5) (C := RX5) (T := TX5) (v := .ref (ad 5 l0 ((F 5 l0 8).toNat + 1))) (k := 8) hx hb hts inW_5 hown hK hZ g9.1 g9.2 rfl (by decide) k_6_77 rfl (D_180 W_prog_7_method_14_code_0 28 rfl rfl rfl) ?_
          refine lv_iload hx hb (D_21 W_prog_7_method_14_code_0 31 rfl rfl) (lv_at hl 2 rfl) ?_
          obtain ⟨g10, hf⟩ := gif hf
          obtain ⟨g11, hf⟩ := gif hf
          obtain ⟨g12, hf⟩ := gif hf
          refine zlald (ci := 5) (k := (F 5 l0 8).toNat) hx hb hK rfl hZ g9.1 g9.2 g11 g12 g10.1 g10.2 (D_47 W_prog_7_method_14_code_32 1 rfl rfl) ?_
          refine lv_aload_n hx hb (D_42 W_prog_7_method_14_code_32 2 rfl rfl) rfl (lv_at hl 3 rfl) ?_
          refine zget (ci := 5) (C := RX5) (T := TX5) (v := .ref (ad 5 l0 ((F 5 l0 8).toNat + 1))) (k := 8) hx hb hts inW_5 hown hK hZ g9.1 g9.2 rfl (by decide) k_6_77 rfl (D_180 W_prog_7_method_14_code_32 3 rfl rfl rfl) ?_
          refine lv_iload hx hb (D_21 W_prog_7_method_14_code_32 6 rfl rfl) (lv_at hl 1 rfl) ?_
          obtain ⟨g13, hf⟩ := gif hf
          refine zlald (ci := 5) (k := (F 5 l0 8).toNat) hx hb hK rfl hZ g9.1 g9.2 g11 g12 g13.1 g13.2 (D_47 W_prog_7_method_14_code_32 8 rfl rfl) ?_
          obtain ⟨g14, hf⟩ := gif hf
          obtain ⟨g15, hf⟩ := gif hf
          refine zcmp_r hx hb g14 g15 (D_148 W_prog_7_method_14_code_32 9 rfl rfl) ?_
          refine z0gt (tgt := 49) hx hb zcmp_32 (D_157 W_prog_7_method_14_code_32 10 rfl rfl rfl) (by decide) (fun h16 => ?_) (fun h16 => ?_)
          · replace hf := gpos hf h16
            exact b_Performance_merge_49 X ih hf hZ hS (lv_sub hl [0, 1, 2, 3, 4, 5] rfl)
          · replace hf := gneg hf h16
            exact b_Performance_merge_45 X ih hf hZ hS (lv_sub hl [0, 1, 2, 3, 4, 5] rfl)

def f_Performance_merge (K : zK) (l0 : Int) (l1 : Int) (l2 : Int) (l3 : Int) (F : zF) (B : zB) : zO := f_Performance_merge_9 K K.1 l1 l2 l1 l0 l2 l3 F B
set_option maxHeartbeats 4000000 in
set_option maxRecDepth 100000 in
theorem c_Performance_merge {l : Launch} {D : va_G} {ca : Nat → ClassId} {ad : Nat → Int → Nat → Nat} {L : List Nat} {aS vS : Nat → Nat} {sz : Nat} {K : zK}  {l0 : Int} {l1 : Int} {l2 : Int} {l3 : Int} {F F9 : zF} {B B9 : zB} {r : Int} (hf : f_Performance_merge K l0 l1 l2 l3 F B = some (r, F9, B9)) : Met l ({ cls := "StaveHouse$Performance", name := "merge", desc := "(III)V" } : Jvm.MethodName) (Cond.code ({ cls := "StaveHouse$Performance", name := "merge", desc := "(III)V" } : Jvm.MethodName) prog_7_method_14_code 8 (Option.none : Option Jvm.ClassFile.FieldType) :: wAll) ({ frames := 0, cells := 0, slots := 0, locals := 0 } : Room) (va_Pc [.ref (ad 5 l0 0), .int (iI l1), .int (iI l2), .int (iI l3)] (zPre D ca ad lnC K.2 L aS vS F B sz)) (Q_Performance_merge K D ca ad L r F9 B9 (zA L sz)) 0 0 (zA L sz) := by
  refine zMet (Qc := Q_Performance_merge K D ca ad L r F9 B9) (lv := [(0, .ref (ad 5 l0 0)), (1, .int (iI l1)), (2, .int (iI l2)), (3, .int (iI l3))]) (by decide) (Nat.le_of_ble_eq_true rfl) rfl (fun A p e s m below meth c ls X hZ hS hl => ?_)
  obtain ⟨hx, hb, hr, hml, hown, hts, hlk, hK, hA, hL, hX⟩ := id X
  replace hf : (f_Performance_merge_9 K K.1 l1 l2 l1 l0 l2 l3 F B) = some (r, F9, B9) := hf
  refine lv_iload_n hx hb (D_27 W_prog_7_method_14_code_0 0 rfl rfl) rfl (lv_at hl 1 rfl) ?_
  refine lv_istore (lv' := [(4, .int (iI l1)), (0, .ref (ad 5 l0 0)), (1, .int (iI l1)), (2, .int (iI l2)), (3, .int (iI l3))]) hx hb (D_54 W_prog_7_method_14_code_0 1 rfl rfl) hl (by decide) rfl (fun ls hl => ?_)
  refine lv_iload_n hx hb (D_28 W_prog_7_method_14_code_0 3 rfl rfl) rfl (lv_at hl 3 rfl) ?_
  refine lv_istore (lv' := [(5, .int (iI l2)), (4, .int (iI l1)), (0, .ref (ad 5 l0 0)), (1, .int (iI l1)), (2, .int (iI l2)), (3, .int (iI l3))]) hx hb (D_54 W_prog_7_method_14_code_0 4 rfl rfl) hl (by decide) rfl (fun ls hl => ?_)
  refine lv_iload_n hx hb (D_27 W_prog_7_method_14_code_0 6 rfl rfl) rfl (lv_at hl 3 rfl) ?_
  refine lv_istore (lv' := [(6, .int (iI l1)), (5, .int (iI l2)), (4, .int (iI l1)), (0, .ref (ad 5 l0 0)), (1, .int (iI l1)), (2, .int (iI l2)), (3, .int (iI l3))]) hx hb (D_54 W_prog_7_method_14_code_0 7 rfl rfl) hl (by decide) rfl (fun ls hl => ?_)
  exact b_Performance_merge_9 X hf hZ hS (lv_sub hl [0, 1, 2, 3, 5, 6] rfl)

abbrev Q_S_performanceOf (K : zK) (D : va_G) (ca : Nat → ClassId) (ad : Nat → Int → Nat → Nat) (L : List Nat) (r : Int) (F : zF) (B : zB) (A : Nat → Prop) : Array Value → State → Outcome → State → Prop := va_Qq (S := Unit) (fun p _ => p = zrf ad 5 r) (fun _ => zPo D ca ad lnC K.2 L F B A) A
def f_S_performanceOf_25 (K : zK) (s0 : Int) (F : zF) (B : zB) : zO := some (s0, F, B)
set_option maxHeartbeats 4000000 in
set_option maxRecDepth 100000 in
theorem b_S_performanceOf_25 {D : va_G} {ca : Nat → ClassId} {ad : Nat → Int → Nat → Nat} {L : List Nat} {aS vS : Nat → Nat} {A : Nat → Prop} {p : Program} {l : Launch} {e : Env} {s : State} {m : MethodId} {args : Array Value} {below : List Frame} {meth : Method} {c : Code} {K : zK} {r : Int} {F9 : zF} {B9 : zB} (X : zX D ca L aS vS A p s m args meth c prog_1_method_9_code 3 (Option.some (Jvm.ClassFile.FieldType.object "StaveHouse$Performance")) "StaveHouse") {s0 : Int} {F : zF} {B : zB} {H : Heap} {locs : List Loc} {ls : Array Slot} (hf : f_S_performanceOf_25 K s0 F B = some (r, F9, B9)) (hZ : zH D ca ad lnC K.2 L F B A H) (hS : va_S A s.heap H locs) (hl : lv_has ls 3 []) : W p l e ({ frames := 1, cells := 0, slots := 0, locals := 21 } : Room) s m args below meth c H locs 0 0 (MQ below (Q_S_performanceOf K D ca ad L r F9 B9 A) args s 0 0 A) (F0 m 25 ls [va_rf (zrf ad 5 s0)]) := by
  obtain ⟨hx, hb, hr, hml, hown, hts, hlk, hK, hA, hL, hX⟩ := id X
  replace hf : (some (s0, F, B)) = some (r, F9, B9) := hf
  cases hf
  exact W.aret hx hb hr (Or.inl ⟨_, rfl⟩) (va_rf_or _) (fun t ht hW => ⟨⟨_, (), rfl, rfl, by rw [ht]; exact hZ, va_K.moved hW.alike hK⟩, hS.F ht⟩) hS.2.2 (D_176 W_prog_1_method_9_code_0 25 rfl rfl) hlk

def f_S_performanceOf_17 (K : zK)  (F : zF) (B : zB) : zO := f_S_performanceOf_25 K (-1) F B
set_option maxHeartbeats 4000000 in
set_option maxRecDepth 100000 in
theorem b_S_performanceOf_17 {D : va_G} {ca : Nat → ClassId} {ad : Nat → Int → Nat → Nat} {L : List Nat} {aS vS : Nat → Nat} {A : Nat → Prop} {p : Program} {l : Launch} {e : Env} {s : State} {m : MethodId} {args : Array Value} {below : List Frame} {meth : Method} {c : Code} {K : zK} {r : Int} {F9 : zF} {B9 : zB} (X : zX D ca L aS vS A p s m args meth c prog_1_method_9_code 3 (Option.some (Jvm.ClassFile.FieldType.object "StaveHouse$Performance")) "StaveHouse")  {F : zF} {B : zB} {H : Heap} {locs : List Loc} {ls : Array Slot} (hf : f_S_performanceOf_17 K  F B = some (r, F9, B9)) (hZ : zH D ca ad lnC K.2 L F B A H) (hS : va_S A s.heap H locs) (hl : lv_has ls 3 []) : W p l e ({ frames := 1, cells := 0, slots := 0, locals := 21 } : Room) s m args below meth c H locs 0 0 (MQ below (Q_S_performanceOf K D ca ad L r F9 B9 A) args s 0 0 A) (F0 m 17 ls []) := by
  obtain ⟨hx, hb, hr, hml, hown, hts, hlk, hK, hA, hL, hX⟩ := id X
  replace hf : (f_S_performanceOf_25 K (-1) F B) = some (r, F9, B9) := hf
  refine lv_null hx hb (D_1 W_prog_1_method_9_code_0 17 rfl rfl) ?_
  refine W.eq (g2 := F0 m 18 ls [va_rf (zrf ad 5 (-1))]) rfl ?_
  refine lv_goto (tgt := 25) hx hb (D_167 W_prog_1_method_9_code_0 18 rfl rfl rfl) (by decide) ?_
  exact b_S_performanceOf_25 X hf hZ hS (lv_sub hl [] rfl)

def f_S_performanceOf (K : zK) (l0 : Int) (l1 : Int) (F : zF) (B : zB) : zO := if 0 ≤ l0 ∧ l0 < K.2 12 then zbind (f_S_pieceAt K l0 l1 F B) (fun r2 F2 B2 => (if r2 < 0 then f_S_performanceOf_17 K F2 B2 else if 0 ≤ r2 ∧ r2 < K.2 6 then if r32 (F2 6 r2 10) then (if (F2 6 r2 10) = 0 then f_S_performanceOf_17 K F2 B2 else f_S_performanceOf_25 K (F2 6 r2 9) F2 B2) else none else none)) else none
set_option maxHeartbeats 4000000 in
set_option maxRecDepth 100000 in
theorem c_S_performanceOf {l : Launch} {D : va_G} {ca : Nat → ClassId} {ad : Nat → Int → Nat → Nat} {L : List Nat} {aS vS : Nat → Nat} {sz : Nat} {K : zK}  {l0 : Int} {l1 : Int} {F F9 : zF} {B B9 : zB} {r : Int} (hf : f_S_performanceOf K l0 l1 F B = some (r, F9, B9)) : Met l ({ cls := "StaveHouse", name := "performanceOf", desc := "(I)LStaveHouse$Performance;" } : Jvm.MethodName) (Cond.code ({ cls := "StaveHouse", name := "performanceOf", desc := "(I)LStaveHouse$Performance;" } : Jvm.MethodName) prog_1_method_9_code 3 (Option.some (Jvm.ClassFile.FieldType.object "StaveHouse$Performance")) :: wAll) ({ frames := 1, cells := 0, slots := 0, locals := 21 } : Room) (va_Pc [.ref (ad 12 l0 0), .int (iI l1)] (zPre D ca ad lnC K.2 L aS vS F B sz)) (Q_S_performanceOf K D ca ad L r F9 B9 (zA L sz)) 0 0 (zA L sz) := by
  refine zMet (Qc := Q_S_performanceOf K D ca ad L r F9 B9) (lv := [(0, .ref (ad 12 l0 0)), (1, .int (iI l1))]) (by decide) (Nat.le_of_ble_eq_true rfl) rfl (fun A p e s m below meth c ls X hZ hS hl => ?_)
  obtain ⟨hx, hb, hr, hml, hown, hts, hlk, hK, hA, hL, hX⟩ := id X
  replace hf : (if 0 ≤ l0 ∧ l0 < K.2 12 then zbind (f_S_pieceAt K l0 l1 F B) (fun r2 F2 B2 => (if r2 < 0 then f_S_performanceOf_17 K F2 B2 else if 0 ≤ r2 ∧ r2 < K.2 6 then if r32 (F2 6 r2 10) then (if (F2 6 r2 10) = 0 then f_S_performanceOf_17 K F2 B2 else f_S_performanceOf_25 K (F2 6 r2 9) F2 B2) else none else none)) else none) = some (r, F9, B9) := hf
  refine lv_aload_n hx hb (D_42 W_prog_1_method_9_code_0 0 rfl rfl) rfl (lv_at hl 0 rfl) ?_
  refine lv_iload_n hx hb (D_27 W_prog_1_method_9_code_0 1 rfl rfl) rfl (lv_at hl 1 rfl) ?_
  obtain ⟨g1, hf⟩ := gif hf
  obtain ⟨r2, F2, B2, hc2, hf⟩ := gbind hf
  refine va_callq (va_runV (As := [.int (iI l1)]) (rest := []) ⟨hx, hb, hml, hown, hts⟩ (c_S_pieceAt (l := l) hc2) (cwV 1 hts (gdV k_5_182 k_5_184 ks_65 k_1_1 k_5_185) rfl rfl rfl (by decide +kernel) ⟨Nat.le_of_ble_eq_true rfl, Nat.le_of_ble_eq_true rfl⟩) (zPV X hZ hS (ci := 12) g1.1 g1.2 (r := (RX12, TX12, 10)) rfl [.int (iI l1)]) rfl rfl hl.1 rfl (lv_room (Nat.le_of_ble_eq_true rfl)) (D_182 W_prog_1_method_9_code_0 2 rfl rfl rfl) ⟨Nat.le_of_ble_eq_true rfl, Nat.le_of_ble_eq_true rfl⟩) hS (fun q _ h => zAin X hS q h) (zAin X hS) (fun p2 u2 t2 H2 locs2 ht2 hv2 hw2 hB2 hz2 hk2 hS2 => ?_)
  have hZ2 := zBack X ht2 hB2
  subst hw2
  refine zastore_n (lv' := [(0, .ref (ad 12 l0 0)), (1, .int (iI l1))]) hx hb (D_77 W_prog_1_method_9_code_0 5 rfl rfl) rfl hl (by decide) (fun _ _ => rfl) (fun ls hl => ?_)
  refine zaload_n hx hb (D_44 W_prog_1_method_9_code_0 6 rfl rfl) rfl (lv_at hl 0 rfl) ?_
  refine zifnull (tgt := 17) hx hb (D_198 W_prog_1_method_9_code_0 7 rfl rfl rfl) (by decide) (fun h3 => ?_) (fun h3 => ?_)
  · replace hf := gpos hf h3
    exact b_S_performanceOf_17 X hf hZ2 hS2 (lv_sub hl [] rfl)
  · replace hf := gneg hf h3
    refine zaload_n hx hb (D_44 W_prog_1_method_9_code_0 10 rfl rfl) rfl (lv_at hl 0 rfl) ?_
    obtain ⟨g4, hf⟩ := gif hf
    refine zunrf g4.1 ?_
    refine zget (ci := 6) (C := RX6) (T := TX6) (v := .int (iI (F2 6 r2 10))) (k := 10) hx hb hts inW_6 hown hK hZ2 g4.1 g4.2 rfl (by decide) k_2_229 rfl (D_180 W_prog_1_method_9_code_0 11 rfl rfl rfl) ?_
    obtain ⟨g5, hf⟩ := gif hf
    refine z0ne (tgt := 21) hx hb g5 (D_154 W_prog_1_method_9_code_0 14 rfl rfl rfl) (by decide) (fun h6 => ?_) (fun h6 => ?_)
    · replace hf := gneg hf h6
      refine zaload_n hx hb (D_44 W_prog_1_method_9_code_0 21 rfl rfl) rfl (lv_at hl 0 rfl) ?_
      refine zunrf g4.1 ?_
      refine zget (ci := 6) (C := RX6) (T := TX6) (v := va_rf (zrf ad 5 (F2 6 r2 9))) (k := 9) hx hb hts inW_6 hown hK hZ2 g4.1 g4.2 rfl (by decide) k_2_227 rfl (D_180 W_prog_1_method_9_code_0 22 rfl rfl rfl) ?_
      exact b_S_performanceOf_25 X hf hZ2 hS2 (lv_sub hl [] rfl)
    · replace hf := gpos hf h6
      exact b_S_performanceOf_17 X hf hZ2 hS2 (lv_sub hl [] rfl)

abbrev Q_Performance_strokeTold (K : zK) (D : va_G) (ca : Nat → ClassId) (ad : Nat → Int → Nat → Nat) (L : List Nat) (r : Int) (F : zF) (B : zB) (A : Nat → Prop) : Array Value → State → Outcome → State → Prop := va_Qi (S := Unit) (fun p _ => p = iI r) (fun _ => zPo D ca ad lnC K.2 L F B A) A
def f_Performance_strokeTold_110 (K : zK) (s0 : Int) (F : zF) (B : zB) : zO := some (s0, F, B)
set_option maxHeartbeats 4000000 in
set_option maxRecDepth 100000 in
theorem b_Performance_strokeTold_110 {D : va_G} {ca : Nat → ClassId} {ad : Nat → Int → Nat → Nat} {L : List Nat} {aS vS : Nat → Nat} {A : Nat → Prop} {p : Program} {l : Launch} {e : Env} {s : State} {m : MethodId} {args : Array Value} {below : List Frame} {meth : Method} {c : Code} {K : zK} {r : Int} {F9 : zF} {B9 : zB} (X : zX D ca L aS vS A p s m args meth c prog_7_method_15_code 5 (Option.some Jvm.ClassFile.FieldType.int) "StaveHouse$Performance") {s0 : Int} {F : zF} {B : zB} {H : Heap} {locs : List Loc} {ls : Array Slot} (hf : f_Performance_strokeTold_110 K s0 F B = some (r, F9, B9)) (hZ : zH D ca ad lnC K.2 L F B A H) (hS : va_S A s.heap H locs) (hl : lv_has ls 5 []) : W p l e ({ frames := 0, cells := 0, slots := 0, locals := 0 } : Room) s m args below meth c H locs 0 0 (MQ below (Q_Performance_strokeTold K D ca ad L r F9 B9 A) args s 0 0 A) (F0 m 110 ls [.int (iI s0)]) := by
  obtain ⟨hx, hb, hr, hml, hown, hts, hlk, hK, hA, hL, hX⟩ := id X
  replace hf : (some (s0, F, B)) = some (r, F9, B9) := hf
  cases hf
  exact W.iret hx hb hr (fun t ht hW => ⟨⟨_, (), rfl, rfl, by rw [ht]; exact hZ, va_K.moved hW.alike hK⟩, hS.F ht⟩) hS.2.2 (D_172 W_prog_7_method_15_code_96 14 rfl rfl) hlk

def f_Performance_strokeTold_14 (K : zK)  (F : zF) (B : zB) : zO := some ((-1), F, B)
set_option maxHeartbeats 4000000 in
set_option maxRecDepth 100000 in
theorem b_Performance_strokeTold_14 {D : va_G} {ca : Nat → ClassId} {ad : Nat → Int → Nat → Nat} {L : List Nat} {aS vS : Nat → Nat} {A : Nat → Prop} {p : Program} {l : Launch} {e : Env} {s : State} {m : MethodId} {args : Array Value} {below : List Frame} {meth : Method} {c : Code} {K : zK} {r : Int} {F9 : zF} {B9 : zB} (X : zX D ca L aS vS A p s m args meth c prog_7_method_15_code 5 (Option.some Jvm.ClassFile.FieldType.int) "StaveHouse$Performance")  {F : zF} {B : zB} {H : Heap} {locs : List Loc} {ls : Array Slot} (hf : f_Performance_strokeTold_14 K  F B = some (r, F9, B9)) (hZ : zH D ca ad lnC K.2 L F B A H) (hS : va_S A s.heap H locs) (hl : lv_has ls 5 []) : W p l e ({ frames := 0, cells := 0, slots := 0, locals := 0 } : Room) s m args below meth c H locs 0 0 (MQ below (Q_Performance_strokeTold K D ca ad L r F9 B9 A) args s 0 0 A) (F0 m 14 ls []) := by
  obtain ⟨hx, hb, hr, hml, hown, hts, hlk, hK, hA, hL, hX⟩ := id X
  replace hf : (some ((-1), F, B)) = some (r, F9, B9) := hf
  refine lv_iconst (v := iI (-1)) hx hb (D_2 W_prog_7_method_15_code_0 14 rfl rfl) rfl ?_
  cases hf
  exact W.iret hx hb hr (fun t ht hW => ⟨⟨_, (), rfl, rfl, by rw [ht]; exact hZ, va_K.moved hW.alike hK⟩, hS.F ht⟩) hS.2.2 (D_172 W_prog_7_method_15_code_0 15 rfl rfl) hlk

def f_Performance_strokeTold (K : zK) (l0 : Int) (l1 : Int) (l2 : Int) (F : zF) (B : zB) : zO := if r32 l1 then (if l1 < 0 then f_Performance_strokeTold_14 K F B else if 0 ≤ l0 ∧ l0 < K.2 5 then if r32 (2 * (F 5 l0 0)) then (if l1 < (2 * (F 5 l0 0)) then if 0 ≤ l1 ∧ l1 < (lnC 5 l0 (F 5 l0 8).toNat : Int) then if zk 5 (F 5 l0 8).toNat = (3, 1) then if lnC 5 l0 (F 5 l0 8).toNat ≤ 2147483647 then if r32 l2 then (if l2 = 0 then some (zlushr (B 5 l0 (F 5 l0 8).toNat l1) 29, F, B) else (if l2 = 1 then some (zland (zlushr (B 5 l0 (F 5 l0 8).toNat l1) 26) 3, F, B) else (if l2 = 2 then some (zland (zlushr (B 5 l0 (F 5 l0 8).toNat l1) 19) 127, F, B) else (if l2 = 3 then if r64 (zland (zlushr (B 5 l0 (F 5 l0 8).toNat l1) 28) 1) then (if (zcmp (zland (zlushr (B 5 l0 (F 5 l0 8).toNat l1) 28) 1) 0) = 0 then f_Performance_strokeTold_110 K 0 F B else if 0 ≤ (zland (B 5 l0 (F 5 l0 8).toNat l1) 2047) ∧ (zland (B 5 l0 (F 5 l0 8).toNat l1) 2047) < 2000 then f_Performance_strokeTold_110 K (B 5 l0 343 (zland (B 5 l0 (F 5 l0 8).toNat l1) 2047)) F B else none) else none else some ((-1), F, B))))) else none else none else none else none else f_Performance_strokeTold_14 K F B) else none else none) else none
set_option maxHeartbeats 4000000 in
set_option maxRecDepth 100000 in
theorem c_Performance_strokeTold {l : Launch} {D : va_G} {ca : Nat → ClassId} {ad : Nat → Int → Nat → Nat} {L : List Nat} {aS vS : Nat → Nat} {sz : Nat} {K : zK}  {l0 : Int} {l1 : Int} {l2 : Int} {F F9 : zF} {B B9 : zB} {r : Int} (hf : f_Performance_strokeTold K l0 l1 l2 F B = some (r, F9, B9)) : Met l ({ cls := "StaveHouse$Performance", name := "strokeTold", desc := "(II)I" } : Jvm.MethodName) (Cond.code ({ cls := "StaveHouse$Performance", name := "strokeTold", desc := "(II)I" } : Jvm.MethodName) prog_7_method_15_code 5 (Option.some Jvm.ClassFile.FieldType.int) :: wAll) ({ frames := 0, cells := 0, slots := 0, locals := 0 } : Room) (va_Pc [.ref (ad 5 l0 0), .int (iI l1), .int (iI l2)] (zPre D ca ad lnC K.2 L aS vS F B sz)) (Q_Performance_strokeTold K D ca ad L r F9 B9 (zA L sz)) 0 0 (zA L sz) := by
  refine zMet (Qc := Q_Performance_strokeTold K D ca ad L r F9 B9) (lv := [(0, .ref (ad 5 l0 0)), (1, .int (iI l1)), (2, .int (iI l2))]) (by decide) (Nat.le_of_ble_eq_true rfl) rfl (fun A p e s m below meth c ls X hZ hS hl => ?_)
  obtain ⟨hx, hb, hr, hml, hown, hts, hlk, hK, hA, hL, hX⟩ := id X
  replace hf : (if r32 l1 then (if l1 < 0 then f_Performance_strokeTold_14 K F B else if 0 ≤ l0 ∧ l0 < K.2 5 then if r32 (2 * (F 5 l0 0)) then (if l1 < (2 * (F 5 l0 0)) then if 0 ≤ l1 ∧ l1 < (lnC 5 l0 (F 5 l0 8).toNat : Int) then if zk 5 (F 5 l0 8).toNat = (3, 1) then if lnC 5 l0 (F 5 l0 8).toNat ≤ 2147483647 then if r32 l2 then (if l2 = 0 then some (zlushr (B 5 l0 (F 5 l0 8).toNat l1) 29, F, B) else (if l2 = 1 then some (zland (zlushr (B 5 l0 (F 5 l0 8).toNat l1) 26) 3, F, B) else (if l2 = 2 then some (zland (zlushr (B 5 l0 (F 5 l0 8).toNat l1) 19) 127, F, B) else (if l2 = 3 then if r64 (zland (zlushr (B 5 l0 (F 5 l0 8).toNat l1) 28) 1) then (if (zcmp (zland (zlushr (B 5 l0 (F 5 l0 8).toNat l1) 28) 1) 0) = 0 then f_Performance_strokeTold_110 K 0 F B else if 0 ≤ (zland (B 5 l0 (F 5 l0 8).toNat l1) 2047) ∧ (zland (B 5 l0 (F 5 l0 8).toNat l1) 2047) < 2000 then f_Performance_strokeTold_110 K (B 5 l0 343 (zland (B 5 l0 (F 5 l0 8).toNat l1) 2047)) F B else none) else none else some ((-1), F, B))))) else none else none else none else none else f_Performance_strokeTold_14 K F B) else none else none) else none) = some (r, F9, B9) := hf
  refine lv_iload_n hx hb (D_27 W_prog_7_method_15_code_0 0 rfl rfl) rfl (lv_at hl 1 rfl) ?_
  obtain ⟨g1, hf⟩ := gif hf
  refine z0lt (tgt := 14) hx hb g1 (D_155 W_prog_7_method_15_code_0 1 rfl rfl rfl) (by decide) (fun h2 => ?_) (fun h2 => ?_)
  · replace hf := gpos hf h2
    exact b_Performance_strokeTold_14 X hf hZ hS (lv_sub hl [] rfl)
  · replace hf := gneg hf h2
    refine lv_iload_n hx hb (D_27 W_prog_7_method_15_code_0 4 rfl rfl) rfl (lv_at hl 1 rfl) ?_
    refine lv_iconst (v := iI 2) hx hb (D_5 W_prog_7_method_15_code_0 5 rfl rfl) rfl ?_
    refine lv_aload_n hx hb (D_42 W_prog_7_method_15_code_0 6 rfl rfl) rfl (lv_at hl 0 rfl) ?_
    obtain ⟨g3, hf⟩ := gif hf
    refine zget (ci := 5) (C := RX5) (T := TX5) (v := .int (iI (F 5 l0 0))) (k := 0) hx hb hts inW_5 hown hK hZ g3.1 g3.2 rfl (by decide) k_6_63 rfl (D_180 W_prog_7_method_15_code_0 7 rfl rfl rfl) ?_
    refine zmul hx hb (D_104 W_prog_7_method_15_code_0 10 rfl rfl) ?_
    obtain ⟨g4, hf⟩ := gif hf
    refine zlt (tgt := 16) hx hb g1 g4 (D_161 W_prog_7_method_15_code_0 11 rfl rfl rfl) (by decide) (fun h5 => ?_) (fun h5 => ?_)
    · replace hf := gpos hf h5
      refine lv_aload_n hx hb (D_42 W_prog_7_method_15_code_0 16 rfl rfl) rfl (lv_at hl 0 rfl) ?_
      refine zget (ci := 5) (C := RX5) (T := TX5) (v := .ref (ad 5 l0 ((F 5 l0 8).toNat + 1))) (k := 8) hx hb hts inW_5 hown hK hZ g3.1 g3.2 rfl (by decide) k_6_77 rfl (D_180 W_prog_7_method_15_code_0 17 rfl rfl rfl) ?_
      refine lv_iload_n hx hb (D_27 W_prog_7_method_15_code_0 20 rfl rfl) rfl (lv_at hl 1 rfl) ?_
      obtain ⟨g6, hf⟩ := gif hf
      obtain ⟨g7, hf⟩ := gif hf
      obtain ⟨g8, hf⟩ := gif hf
      refine zlald (ci := 5) (k := (F 5 l0 8).toNat) hx hb hK rfl hZ g3.1 g3.2 g7 g8 g6.1 g6.2 (D_47 W_prog_7_method_15_code_0 21 rfl rfl) ?_
      refine lv_lstore_n (lv' := [(3, .long (lI (B 5 l0 (F 5 l0 8).toNat l1))), (0, .ref (ad 5 l0 0)), (1, .int (iI l1)), (2, .int (iI l2))]) hx hb (D_66 W_prog_7_method_15_code_0 22 rfl rfl) rfl hl (by decide) rfl (fun ls hl => ?_)
      refine lv_iload_n hx hb (D_28 W_prog_7_method_15_code_0 23 rfl rfl) rfl (lv_at hl 3 rfl) ?_
      obtain ⟨g9, hf⟩ := gif hf
      by_cases h10 : l2 = 0
      · replace hf := gpos hf h10
        refine lv_tableIn (off := 32) (tgt := 56) hx hb d_7_15_24 (by rw [iI_to g9, h10]; decide) (by rw [iI_to g9, h10]; decide) (by rw [iI_to g9, h10]; rfl) (by decide) ?_
        refine lv_lload_n hx hb (D_33 W_prog_7_method_15_code_32 24 rfl rfl) rfl (lv_at hl 0 rfl) ?_
        refine lv_bipush (v := iI 29) hx hb (D_16 W_prog_7_method_15_code_32 25 rfl rfl rfl) (by decide) ?_
        refine zlushr_r hx hb (D_125 W_prog_7_method_15_code_32 27 rfl rfl) ?_
        refine zl2iw hx hb (D_136 W_prog_7_method_15_code_32 28 rfl rfl) ?_
        cases hf
        exact W.iret hx hb hr (fun t ht hW => ⟨⟨_, (), rfl, rfl, by rw [ht]; exact hZ, va_K.moved hW.alike hK⟩, hS.F ht⟩) hS.2.2 (D_172 W_prog_7_method_15_code_32 29 rfl rfl) hlk
      replace hf := gneg hf h10
      by_cases h11 : l2 = 1
      · replace hf := gpos hf h11
        refine lv_tableIn (off := 38) (tgt := 62) hx hb d_7_15_24 (by rw [iI_to g9, h11]; decide) (by rw [iI_to g9, h11]; decide) (by rw [iI_to g9, h11]; rfl) (by decide) ?_
        refine lv_lload_n hx hb (D_33 W_prog_7_method_15_code_32 30 rfl rfl) rfl (lv_at hl 0 rfl) ?_
        refine lv_bipush (v := iI 26) hx hb (D_16 W_prog_7_method_15_code_32 31 rfl rfl rfl) (by decide) ?_
        refine zlushr_r hx hb (D_125 W_prog_7_method_15_code_64 1 rfl rfl) ?_
        refine lv_ldc2 hx hb hown (hts _ k_7_116) (D_20 W_prog_7_method_15_code_64 2 rfl rfl rfl) ?_
        refine W.eq (g2 := F0 m 69 ls [.long (lI 3), .long (lI (zlushr (B 5 l0 (F 5 l0 8).toNat l1) 26))]) rfl ?_
        refine zland_r hx hb (D_127 W_prog_7_method_15_code_64 5 rfl rfl) ?_
        refine zl2iw hx hb (D_136 W_prog_7_method_15_code_64 6 rfl rfl) ?_
        cases hf
        exact W.iret hx hb hr (fun t ht hW => ⟨⟨_, (), rfl, rfl, by rw [ht]; exact hZ, va_K.moved hW.alike hK⟩, hS.F ht⟩) hS.2.2 (D_172 W_prog_7_method_15_code_64 7 rfl rfl) hlk
      replace hf := gneg hf h11
      by_cases h12 : l2 = 2
      · replace hf := gpos hf h12
        refine lv_tableIn (off := 48) (tgt := 72) hx hb d_7_15_24 (by rw [iI_to g9, h12]; decide) (by rw [iI_to g9, h12]; decide) (by rw [iI_to g9, h12]; rfl) (by decide) ?_
        refine lv_lload_n hx hb (D_33 W_prog_7_method_15_code_64 8 rfl rfl) rfl (lv_at hl 0 rfl) ?_
        refine lv_bipush (v := iI 19) hx hb (D_16 W_prog_7_method_15_code_64 9 rfl rfl rfl) (by decide) ?_
        refine zlushr_r hx hb (D_125 W_prog_7_method_15_code_64 11 rfl rfl) ?_
        refine lv_ldc2 hx hb hown (hts _ k_7_117) (D_20 W_prog_7_method_15_code_64 12 rfl rfl rfl) ?_
        refine W.eq (g2 := F0 m 79 ls [.long (lI 127), .long (lI (zlushr (B 5 l0 (F 5 l0 8).toNat l1) 19))]) rfl ?_
        refine zland_r hx hb (D_127 W_prog_7_method_15_code_64 15 rfl rfl) ?_
        refine zl2iw hx hb (D_136 W_prog_7_method_15_code_64 16 rfl rfl) ?_
        cases hf
        exact W.iret hx hb hr (fun t ht hW => ⟨⟨_, (), rfl, rfl, by rw [ht]; exact hZ, va_K.moved hW.alike hK⟩, hS.F ht⟩) hS.2.2 (D_172 W_prog_7_method_15_code_64 17 rfl rfl) hlk
      replace hf := gneg hf h12
      by_cases h13 : l2 = 3
      · replace hf := gpos hf h13
        refine lv_tableIn (off := 58) (tgt := 82) hx hb d_7_15_24 (by rw [iI_to g9, h13]; decide) (by rw [iI_to g9, h13]; decide) (by rw [iI_to g9, h13]; rfl) (by decide) ?_
        refine lv_lload_n hx hb (D_33 W_prog_7_method_15_code_64 18 rfl rfl) rfl (lv_at hl 0 rfl) ?_
        refine lv_bipush (v := iI 28) hx hb (D_16 W_prog_7_method_15_code_64 19 rfl rfl rfl) (by decide) ?_
        refine zlushr_r hx hb (D_125 W_prog_7_method_15_code_64 21 rfl rfl) ?_
        refine lv_lconst (v := lI 1) hx hb (D_10 W_prog_7_method_15_code_64 22 rfl rfl) (by decide) ?_
        refine zland_r hx hb (D_127 W_prog_7_method_15_code_64 23 rfl rfl) ?_
        refine lv_lconst (v := lI 0) hx hb (D_9 W_prog_7_method_15_code_64 24 rfl rfl) (by decide) ?_
        obtain ⟨g14, hf⟩ := gif hf
        refine zcmp_r hx hb g14 (by decide) (D_148 W_prog_7_method_15_code_64 25 rfl rfl) ?_
        refine z0ne (tgt := 97) hx hb zcmp_32 (D_154 W_prog_7_method_15_code_64 26 rfl rfl rfl) (by decide) (fun h15 => ?_) (fun h15 => ?_)
        · replace hf := gneg hf h15
          refine lv_aload_n hx hb (D_42 W_prog_7_method_15_code_96 1 rfl rfl) rfl (lv_at hl 1 rfl) ?_
          refine zget (ci := 5) (C := RX5) (T := TX5) (v := .ref (ad 5 l0 (7 + 1))) (k := 7) hx hb hts inW_5 hown hK hZ g3.1 g3.2 rfl (by decide) k_6_76 rfl (D_180 W_prog_7_method_15_code_96 2 rfl rfl rfl) ?_
          refine lv_iconst (v := iI 3) hx hb (D_6 W_prog_7_method_15_code_96 5 rfl rfl) rfl ?_
          refine zaldQ (t := 0) (ci := 5) (k := 7) hx hb hK rfl hZ g3.1 g3.2 rfl (Nat.le_of_ble_eq_true rfl) (by decide) (by decide) (D_50 W_prog_7_method_15_code_96 6 rfl rfl) ?_
          refine W.eq (g2 := F0 m 103 ls [.ref (ad 5 l0 (343 + 1))]) rfl ?_
          refine lv_lload_n hx hb (D_33 W_prog_7_method_15_code_96 7 rfl rfl) rfl (lv_at hl 0 rfl) ?_
          refine lv_ldc2 hx hb hown (hts _ k_7_118) (D_20 W_prog_7_method_15_code_96 8 rfl rfl rfl) ?_
          refine W.eq (g2 := F0 m 107 ls [.long (lI 2047), .long (lI (B 5 l0 (F 5 l0 8).toNat l1)), .ref (ad 5 l0 (343 + 1))]) rfl ?_
          refine zland_r hx hb (D_127 W_prog_7_method_15_code_96 11 rfl rfl) ?_
          refine zl2iw hx hb (D_136 W_prog_7_method_15_code_96 12 rfl rfl) ?_
          obtain ⟨g16, hf⟩ := gif hf
          refine zald (ci := 5) (k := 343) hx hb hK rfl hZ g3.1 g3.2 rfl (Nat.le_of_ble_eq_true rfl) g16.1 g16.2 (D_46 W_prog_7_method_15_code_96 13 rfl rfl) ?_
          exact b_Performance_strokeTold_110 X hf hZ hS (lv_sub hl [] rfl)
        · replace hf := gpos hf h15
          refine lv_iconst (v := iI 0) hx hb (D_3 W_prog_7_method_15_code_64 29 rfl rfl) rfl ?_
          refine lv_goto (tgt := 110) hx hb (D_167 W_prog_7_method_15_code_64 30 rfl rfl rfl) (by decide) ?_
          exact b_Performance_strokeTold_110 X hf hZ hS (lv_sub hl [] rfl)
      replace hf := gneg hf h13
      refine lv_tableOut (tgt := 111) hx hb d_7_15_24 (by rw [iI_to g9]; omega) (by decide) ?_
      refine lv_iconst (v := iI (-1)) hx hb (D_2 W_prog_7_method_15_code_96 15 rfl rfl) rfl ?_
      cases hf
      exact W.iret hx hb hr (fun t ht hW => ⟨⟨_, (), rfl, rfl, by rw [ht]; exact hZ, va_K.moved hW.alike hK⟩, hS.F ht⟩) hS.2.2 (D_172 W_prog_7_method_15_code_96 16 rfl rfl) hlk
    · replace hf := gneg hf h5
      exact b_Performance_strokeTold_14 X hf hZ hS (lv_sub hl [] rfl)

abbrev Q_CString_checkIndex (K : zK) (D : va_G) (ca : Nat → ClassId) (ad : Nat → Int → Nat → Nat) (L : List Nat) (r : Int) (F : zF) (B : zB) (A : Nat → Prop) : Array Value → State → Outcome → State → Prop := va_Qv (S := Unit) (fun _ => True) (fun _ => zPo D ca ad lnC K.2 L F B A) A
def f_CString_checkIndex (K : zK) (l0 : Int) (l1 : Int) (F : zF) (B : zB) : zO := zbind (f_CPreconditions_checkIndex K l0 l1 F B) (fun r2 F2 B2 => some (0, F2, B2))
set_option maxHeartbeats 4000000 in
set_option maxRecDepth 100000 in
theorem c_CString_checkIndex {l : Launch} {D : va_G} {ca : Nat → ClassId} {ad : Nat → Int → Nat → Nat} {L : List Nat} {aS vS : Nat → Nat} {sz : Nat} {K : zK}  {l0 : Int} {l1 : Int} {F F9 : zF} {B B9 : zB} {r : Int} (hf : f_CString_checkIndex K l0 l1 F B = some (r, F9, B9)) : Met l ({ cls := "java/lang/String", name := "checkIndex", desc := "(II)V" } : Jvm.MethodName) (Cond.code ({ cls := "java/lang/String", name := "checkIndex", desc := "(II)V" } : Jvm.MethodName) prog_21_method_155_code 2 (Option.none : Option Jvm.ClassFile.FieldType) :: wAll) ({ frames := 1, cells := 0, slots := 0, locals := 22 } : Room) (va_Pc [.int (iI l0), .int (iI l1)] (zPre D ca ad lnC K.2 L aS vS F B sz)) (Q_CString_checkIndex K D ca ad L r F9 B9 (zA L sz)) 0 0 (zA L sz) := by
  refine zMet (Qc := Q_CString_checkIndex K D ca ad L r F9 B9) (lv := [(0, .int (iI l0)), (1, .int (iI l1))]) (by decide) (Nat.le_of_ble_eq_true rfl) rfl (fun A p e s m below meth c ls X hZ hS hl => ?_)
  obtain ⟨hx, hb, hr, hml, hown, hts, hlk, hK, hA, hL, hX⟩ := id X
  replace hf : (zbind (f_CPreconditions_checkIndex K l0 l1 F B) (fun r2 F2 B2 => some (0, F2, B2))) = some (r, F9, B9) := hf
  refine lv_iload_n hx hb d_21_155_0 rfl (lv_at hl 0 rfl) ?_
  refine lv_iload_n hx hb d_21_155_1 rfl (lv_at hl 1 rfl) ?_
  obtain ⟨o1, ho1⟩ := zfmt hX
  refine va_gets hx hb ho1 hS hown (hts _ k_3_120) (fun _ h => h) d_21_155_2 ?_
  obtain ⟨r2, F2, B2, hc2, hf⟩ := gbind hf
  refine va_calli (va_runS (As := [.int (iI l0), .int (iI l1), va_rf o1]) (rest := []) ⟨hx, hb, hml, hown, hts⟩ (c_CPreconditions_checkIndex (l := l) hc2) (va_cwS 3 hts (gdS k_7_143 k_7_144 k_1_13 k_7_145) rfl rfl rfl (by decide +kernel) ⟨Nat.le_of_ble_eq_true rfl, Nat.le_of_ble_eq_true rfl⟩) (zPS X hZ hS [.int (iI l0), .int (iI l1), va_rf o1]) rfl rfl hl.1 rfl (lv_room (Nat.le_of_ble_eq_true rfl)) d_21_155_5 ⟨Nat.le_of_ble_eq_true rfl, Nat.le_of_ble_eq_true rfl⟩) hS (fun q _ h => zAin X hS q h) (zAin X hS) (fun p2 u2 t2 H2 locs2 ht2 hv2 hw2 hB2 hz2 hk2 hS2 => ?_)
  have hZ2 := zBack X ht2 hB2
  subst hw2
  refine lv_pop hx hb d_21_155_8 rfl ?_
  cases hf
  exact W.vret hx hb hr (fun t ht hW => ⟨⟨(), rfl, trivial, by rw [ht]; exact hZ2, va_K.moved hW.alike hK⟩, hS2.F ht⟩) hS2.2.2 d_21_155_9 hlk

abbrev Q_ByteRow_putWide (K : zK) (D : va_G) (ca : Nat → ClassId) (ad : Nat → Int → Nat → Nat) (L : List Nat) (r : Int) (F : zF) (B : zB) (A : Nat → Prop) : Array Value → State → Outcome → State → Prop := va_Qv (S := Unit) (fun _ => True) (fun _ => zPo D ca ad lnC K.2 L F B A) A
def f_ByteRow_putWide_4 (K : zK) : Nat → Int → Int → Int → zF → zB → zO
  | 0, _, _, _, _, _ => none
  | n + 1, l3, l0, l1, F, B => if r32 l3 then (if l3 < 0 then some (0, F, B) else if 0 ≤ l0 ∧ l0 < K.2 0 then zbind (f_ByteRow_put K l0 (zushr l1 (8 * l3)) F B) (fun r4 F4 B4 => f_ByteRow_putWide_4 K n (l3 - 1) l0 l1 F4 B4) else none) else none
set_option maxHeartbeats 4000000 in
set_option maxRecDepth 100000 in
theorem b_ByteRow_putWide_4 {D : va_G} {ca : Nat → ClassId} {ad : Nat → Int → Nat → Nat} {L : List Nat} {aS vS : Nat → Nat} {A : Nat → Prop} {p : Program} {l : Launch} {e : Env} {s : State} {m : MethodId} {args : Array Value} {below : List Frame} {meth : Method} {c : Code} {K : zK} {r : Int} {F9 : zF} {B9 : zB} (X : zX D ca L aS vS A p s m args meth c prog_2_method_7_code 4 (Option.none : Option Jvm.ClassFile.FieldType) "StaveHouse$ByteRow") : ∀ {n : Nat} {l3 : Int} {l0 : Int} {l1 : Int} {F : zF} {B : zB} {H : Heap} {locs : List Loc} {ls : Array Slot}, f_ByteRow_putWide_4 K n l3 l0 l1 F B = some (r, F9, B9) → zH D ca ad lnC K.2 L F B A H → va_S A s.heap H locs → lv_has ls 4 [(3, .int (iI l3)), (0, .ref (ad 0 l0 0)), (1, .int (iI l1))] → W p l e ({ frames := 1, cells := 0, slots := 0, locals := 21 } : Room) s m args below meth c H locs 0 0 (MQ below (Q_ByteRow_putWide K D ca ad L r F9 B9 A) args s 0 0 A) (F0 m 4 ls []) := by
  obtain ⟨hx, hb, hr, hml, hown, hts, hlk, hK, hA, hL, hX⟩ := id X
  intro n
  induction n with
  | zero =>
    intros
    rename_i hf _ _ _
    cases hf
  | succ n ih =>
    intro l3 l0 l1 F B H locs ls hf hZ hS hl
    replace hf : (if r32 l3 then (if l3 < 0 then some (0, F, B) else if 0 ≤ l0 ∧ l0 < K.2 0 then zbind (f_ByteRow_put K l0 (zushr l1 (8 * l3)) F B) (fun r4 F4 B4 => f_ByteRow_putWide_4 K n (l3 - 1) l0 l1 F4 B4) else none) else none) = some (r, F9, B9) := hf
    refine lv_iload_n hx hb (D_29 W_prog_2_method_7_code_0 4 rfl rfl) rfl (lv_at hl 0 rfl) ?_
    obtain ⟨g1, hf⟩ := gif hf
    refine z0lt (tgt := 24) hx hb g1 (D_155 W_prog_2_method_7_code_0 5 rfl rfl rfl) (by decide) (fun h2 => ?_) (fun h2 => ?_)
    · replace hf := gpos hf h2
      cases hf
      exact W.vret hx hb hr (fun t ht hW => ⟨⟨(), rfl, trivial, by rw [ht]; exact hZ, va_K.moved hW.alike hK⟩, hS.F ht⟩) hS.2.2 (D_177 W_prog_2_method_7_code_0 24 rfl rfl) hlk
    · replace hf := gneg hf h2
      refine lv_aload_n hx hb (D_42 W_prog_2_method_7_code_0 8 rfl rfl) rfl (lv_at hl 1 rfl) ?_
      refine lv_iload_n hx hb (D_27 W_prog_2_method_7_code_0 9 rfl rfl) rfl (lv_at hl 2 rfl) ?_
      refine lv_bipush (v := iI 8) hx hb (D_16 W_prog_2_method_7_code_0 10 rfl rfl rfl) (by decide) ?_
      refine lv_iload_n hx hb (D_29 W_prog_2_method_7_code_0 12 rfl rfl) rfl (lv_at hl 0 rfl) ?_
      refine zmul hx hb (D_104 W_prog_2_method_7_code_0 13 rfl rfl) ?_
      refine zushr_r hx hb (D_124 W_prog_2_method_7_code_0 14 rfl rfl) ?_
      obtain ⟨g3, hf⟩ := gif hf
      obtain ⟨r4, F4, B4, hc4, hf⟩ := gbind hf
      refine va_callv (va_runV (As := [.int (iI (zushr l1 (8 * l3)))]) (rest := []) ⟨hx, hb, hml, hown, hts⟩ (c_ByteRow_put (l := l) hc4) (cwV 1 hts (gdV k_7_153 k_2_171 k_2_172 k_1_2 k_2_173) rfl rfl rfl (by decide +kernel) ⟨Nat.le_of_ble_eq_true rfl, Nat.le_of_ble_eq_true rfl⟩) (zPV X hZ hS (ci := 0) g3.1 g3.2 (r := (RX0, TX0, 3)) rfl [.int (iI (zushr l1 (8 * l3)))]) rfl rfl hl.1 rfl (lv_room (Nat.le_of_ble_eq_true rfl)) (D_182 W_prog_2_method_7_code_0 15 rfl rfl rfl) ⟨Nat.le_of_ble_eq_true rfl, Nat.le_of_ble_eq_true rfl⟩) hS (fun q _ h => zAin X hS q h) (zAin X hS) (fun u4 t4 H4 locs4 ht4 hv4 hw4 hB4 hz4 hk4 hS4 => ?_)
      have hZ4 := zBack X ht4 hB4
      refine lv_iinc (v := iI (l3 - 1)) (lv' := [(3, .int (iI (l3 - 1))), (0, .ref (ad 0 l0 0)), (1, .int (iI l1))]) hx hb d_2_7_18 hl (k := 0) rfl (by rw [show Int32.ofInt (-1) = iI (-1) from rfl, iI_add]; congr 1) (by decide) rfl (fun ls hl => ?_)
      refine lv_goto (tgt := 4) hx hb (D_167 W_prog_2_method_7_code_0 21 rfl rfl rfl) (by decide) ?_
      exact ih hf hZ4 hS4 (lv_sub hl [0, 1, 2] rfl)

def f_ByteRow_putWide (K : zK) (l0 : Int) (l1 : Int) (l2 : Int) (F : zF) (B : zB) : zO := f_ByteRow_putWide_4 K K.1 (l2 - 1) l0 l1 F B
set_option maxHeartbeats 4000000 in
set_option maxRecDepth 100000 in
theorem c_ByteRow_putWide {l : Launch} {D : va_G} {ca : Nat → ClassId} {ad : Nat → Int → Nat → Nat} {L : List Nat} {aS vS : Nat → Nat} {sz : Nat} {K : zK}  {l0 : Int} {l1 : Int} {l2 : Int} {F F9 : zF} {B B9 : zB} {r : Int} (hf : f_ByteRow_putWide K l0 l1 l2 F B = some (r, F9, B9)) : Met l ({ cls := "StaveHouse$ByteRow", name := "putWide", desc := "(II)V" } : Jvm.MethodName) (Cond.code ({ cls := "StaveHouse$ByteRow", name := "putWide", desc := "(II)V" } : Jvm.MethodName) prog_2_method_7_code 4 (Option.none : Option Jvm.ClassFile.FieldType) :: wAll) ({ frames := 1, cells := 0, slots := 0, locals := 21 } : Room) (va_Pc [.ref (ad 0 l0 0), .int (iI l1), .int (iI l2)] (zPre D ca ad lnC K.2 L aS vS F B sz)) (Q_ByteRow_putWide K D ca ad L r F9 B9 (zA L sz)) 0 0 (zA L sz) := by
  refine zMet (Qc := Q_ByteRow_putWide K D ca ad L r F9 B9) (lv := [(0, .ref (ad 0 l0 0)), (1, .int (iI l1)), (2, .int (iI l2))]) (by decide) (Nat.le_of_ble_eq_true rfl) rfl (fun A p e s m below meth c ls X hZ hS hl => ?_)
  obtain ⟨hx, hb, hr, hml, hown, hts, hlk, hK, hA, hL, hX⟩ := id X
  replace hf : (f_ByteRow_putWide_4 K K.1 (l2 - 1) l0 l1 F B) = some (r, F9, B9) := hf
  refine lv_iload_n hx hb (D_28 W_prog_2_method_7_code_0 0 rfl rfl) rfl (lv_at hl 2 rfl) ?_
  refine lv_iconst (v := iI 1) hx hb (D_4 W_prog_2_method_7_code_0 1 rfl rfl) rfl ?_
  refine zsub hx hb (D_100 W_prog_2_method_7_code_0 2 rfl rfl) ?_
  refine lv_istore_n (lv' := [(3, .int (iI (l2 - 1))), (0, .ref (ad 0 l0 0)), (1, .int (iI l1)), (2, .int (iI l2))]) hx hb (D_62 W_prog_2_method_7_code_0 3 rfl rfl) rfl hl (by decide) rfl (fun ls hl => ?_)
  exact b_ByteRow_putWide_4 X hf hZ hS (lv_sub hl [0, 1, 2] rfl)

abbrev Q_Performance_putMeta (K : zK) (D : va_G) (ca : Nat → ClassId) (ad : Nat → Int → Nat → Nat) (L : List Nat) (r : Int) (F : zF) (B : zB) (A : Nat → Prop) : Array Value → State → Outcome → State → Prop := va_Qv (S := Unit) (fun _ => True) (fun _ => zPo D ca ad lnC K.2 L F B A) A
def f_Performance_putMeta (K : zK) (l0 : Int) (l1 : Int) (l2 : Int) (F : zF) (B : zB) : zO := if 0 ≤ l0 ∧ l0 < K.2 0 then zbind (f_ByteRow_put K l0 0 F B) (fun r2 F2 B2 => zbind (f_ByteRow_put K l0 255 F2 B2) (fun r3 F3 B3 => zbind (f_ByteRow_put K l0 l1 F3 B3) (fun r4 F4 B4 => zbind (f_ByteRow_put K l0 l2 F4 B4) (fun r5 F5 B5 => some (0, F5, B5))))) else none
set_option maxHeartbeats 4000000 in
set_option maxRecDepth 100000 in
theorem c_Performance_putMeta {l : Launch} {D : va_G} {ca : Nat → ClassId} {ad : Nat → Int → Nat → Nat} {L : List Nat} {aS vS : Nat → Nat} {sz : Nat} {K : zK}  {l0 : Int} {l1 : Int} {l2 : Int} {F F9 : zF} {B B9 : zB} {r : Int} (hf : f_Performance_putMeta K l0 l1 l2 F B = some (r, F9, B9)) : Met l ({ cls := "StaveHouse$Performance", name := "putMeta", desc := "(LStaveHouse$ByteRow;II)V" } : Jvm.MethodName) (Cond.code ({ cls := "StaveHouse$Performance", name := "putMeta", desc := "(LStaveHouse$ByteRow;II)V" } : Jvm.MethodName) prog_7_method_20_code 3 (Option.none : Option Jvm.ClassFile.FieldType) :: wAll) ({ frames := 1, cells := 0, slots := 0, locals := 21 } : Room) (va_Pc [.ref (ad 0 l0 0), .int (iI l1), .int (iI l2)] (zPre D ca ad lnC K.2 L aS vS F B sz)) (Q_Performance_putMeta K D ca ad L r F9 B9 (zA L sz)) 0 0 (zA L sz) := by
  refine zMet (Qc := Q_Performance_putMeta K D ca ad L r F9 B9) (lv := [(0, .ref (ad 0 l0 0)), (1, .int (iI l1)), (2, .int (iI l2))]) (by decide) (Nat.le_of_ble_eq_true rfl) rfl (fun A p e s m below meth c ls X hZ hS hl => ?_)
  obtain ⟨hx, hb, hr, hml, hown, hts, hlk, hK, hA, hL, hX⟩ := id X
  replace hf : (if 0 ≤ l0 ∧ l0 < K.2 0 then zbind (f_ByteRow_put K l0 0 F B) (fun r2 F2 B2 => zbind (f_ByteRow_put K l0 255 F2 B2) (fun r3 F3 B3 => zbind (f_ByteRow_put K l0 l1 F3 B3) (fun r4 F4 B4 => zbind (f_ByteRow_put K l0 l2 F4 B4) (fun r5 F5 B5 => some (0, F5, B5))))) else none) = some (r, F9, B9) := hf
  refine lv_aload_n hx hb (D_42 W_prog_7_method_20_code_0 0 rfl rfl) rfl (lv_at hl 0 rfl) ?_
  refine lv_iconst (v := iI 0) hx hb (D_3 W_prog_7_method_20_code_0 1 rfl rfl) rfl ?_
  obtain ⟨g1, hf⟩ := gif hf
  obtain ⟨r2, F2, B2, hc2, hf⟩ := gbind hf
  refine va_callv (va_runV (As := [.int (iI 0)]) (rest := []) ⟨hx, hb, hml, hown, hts⟩ (c_ByteRow_put (l := l) hc2) (cwV 1 hts (gdV k_7_168 k_2_171 k_2_172 k_1_2 k_2_173) rfl rfl rfl (by decide +kernel) ⟨Nat.le_of_ble_eq_true rfl, Nat.le_of_ble_eq_true rfl⟩) (zPV X hZ hS (ci := 0) g1.1 g1.2 (r := (RX0, TX0, 3)) rfl [.int (iI 0)]) rfl rfl hl.1 rfl (lv_room (Nat.le_of_ble_eq_true rfl)) (D_182 W_prog_7_method_20_code_0 2 rfl rfl rfl) ⟨Nat.le_of_ble_eq_true rfl, Nat.le_of_ble_eq_true rfl⟩) hS (fun q _ h => zAin X hS q h) (zAin X hS) (fun u2 t2 H2 locs2 ht2 hv2 hw2 hB2 hz2 hk2 hS2 => ?_)
  have hZ2 := zBack X ht2 hB2
  refine lv_aload_n hx hb (D_42 W_prog_7_method_20_code_0 5 rfl rfl) rfl (lv_at hl 0 rfl) ?_
  refine lv_sipush (v := iI 255) hx hb (D_17 W_prog_7_method_20_code_0 6 rfl rfl rfl) (by decide) ?_
  obtain ⟨r3, F3, B3, hc3, hf⟩ := gbind hf
  refine va_callv (va_runV (As := [.int (iI 255)]) (rest := []) ⟨hx, hb, hml, hown, hts⟩ (c_ByteRow_put (l := l) hc3) (cwV 1 hts (gdV k_7_168 k_2_171 k_2_172 k_1_2 k_2_173) rfl rfl rfl (by decide +kernel) ⟨Nat.le_of_ble_eq_true rfl, Nat.le_of_ble_eq_true rfl⟩) (zPV X hZ2 hS2 (ci := 0) g1.1 g1.2 (r := (RX0, TX0, 3)) rfl [.int (iI 255)]) rfl rfl hl.1 rfl (lv_room (Nat.le_of_ble_eq_true rfl)) (D_182 W_prog_7_method_20_code_0 9 rfl rfl rfl) ⟨Nat.le_of_ble_eq_true rfl, Nat.le_of_ble_eq_true rfl⟩) hS2 (fun q _ h => zAin X hS2 q h) (zAin X hS2) (fun u3 t3 H3 locs3 ht3 hv3 hw3 hB3 hz3 hk3 hS3 => ?_)
  have hZ3 := zBack X ht3 hB3
  refine lv_aload_n hx hb (D_42 W_prog_7_method_20_code_0 12 rfl rfl) rfl (lv_at hl 0 rfl) ?_
  refine lv_iload_n hx hb (D_27 W_prog_7_method_20_code_0 13 rfl rfl) rfl (lv_at hl 1 rfl) ?_
  obtain ⟨r4, F4, B4, hc4, hf⟩ := gbind hf
  refine va_callv (va_runV (As := [.int (iI l1)]) (rest := []) ⟨hx, hb, hml, hown, hts⟩ (c_ByteRow_put (l := l) hc4) (cwV 1 hts (gdV k_7_168 k_2_171 k_2_172 k_1_2 k_2_173) rfl rfl rfl (by decide +kernel) ⟨Nat.le_of_ble_eq_true rfl, Nat.le_of_ble_eq_true rfl⟩) (zPV X hZ3 hS3 (ci := 0) g1.1 g1.2 (r := (RX0, TX0, 3)) rfl [.int (iI l1)]) rfl rfl hl.1 rfl (lv_room (Nat.le_of_ble_eq_true rfl)) (D_182 W_prog_7_method_20_code_0 14 rfl rfl rfl) ⟨Nat.le_of_ble_eq_true rfl, Nat.le_of_ble_eq_true rfl⟩) hS3 (fun q _ h => zAin X hS3 q h) (zAin X hS3) (fun u4 t4 H4 locs4 ht4 hv4 hw4 hB4 hz4 hk4 hS4 => ?_)
  have hZ4 := zBack X ht4 hB4
  refine lv_aload_n hx hb (D_42 W_prog_7_method_20_code_0 17 rfl rfl) rfl (lv_at hl 0 rfl) ?_
  refine lv_iload_n hx hb (D_28 W_prog_7_method_20_code_0 18 rfl rfl) rfl (lv_at hl 2 rfl) ?_
  obtain ⟨r5, F5, B5, hc5, hf⟩ := gbind hf
  refine va_callv (va_runV (As := [.int (iI l2)]) (rest := []) ⟨hx, hb, hml, hown, hts⟩ (c_ByteRow_put (l := l) hc5) (cwV 1 hts (gdV k_7_168 k_2_171 k_2_172 k_1_2 k_2_173) rfl rfl rfl (by decide +kernel) ⟨Nat.le_of_ble_eq_true rfl, Nat.le_of_ble_eq_true rfl⟩) (zPV X hZ4 hS4 (ci := 0) g1.1 g1.2 (r := (RX0, TX0, 3)) rfl [.int (iI l2)]) rfl rfl hl.1 rfl (lv_room (Nat.le_of_ble_eq_true rfl)) (D_182 W_prog_7_method_20_code_0 19 rfl rfl rfl) ⟨Nat.le_of_ble_eq_true rfl, Nat.le_of_ble_eq_true rfl⟩) hS4 (fun q _ h => zAin X hS4 q h) (zAin X hS4) (fun u5 t5 H5 locs5 ht5 hv5 hw5 hB5 hz5 hk5 hS5 => ?_)
  have hZ5 := zBack X ht5 hB5
  cases hf
  exact W.vret hx hb hr (fun t ht hW => ⟨⟨(), rfl, trivial, by rw [ht]; exact hZ5, va_K.moved hW.alike hK⟩, hS5.F ht⟩) hS5.2.2 (D_177 W_prog_7_method_20_code_0 22 rfl rfl) hlk

abbrev Q_Integer_bitCount (K : zK) (D : va_G) (ca : Nat → ClassId) (ad : Nat → Int → Nat → Nat) (L : List Nat) (r : Int) (F : zF) (B : zB) (A : Nat → Prop) : Array Value → State → Outcome → State → Prop := va_Qi (S := Unit) (fun p _ => p = iI r) (fun _ => zPo D ca ad lnC K.2 L F B A) A
def f_Integer_bitCount (K : zK) (l0 : Int) (F : zF) (B : zB) : zO := some (zand (((zand (((zand (l0 - (zand (zushr l0 1) 1431655765)) 858993459) + (zand (zushr (l0 - (zand (zushr l0 1) 1431655765)) 2) 858993459)) + (zushr ((zand (l0 - (zand (zushr l0 1) 1431655765)) 858993459) + (zand (zushr (l0 - (zand (zushr l0 1) 1431655765)) 2) 858993459)) 4)) 252645135) + (zushr (zand (((zand (l0 - (zand (zushr l0 1) 1431655765)) 858993459) + (zand (zushr (l0 - (zand (zushr l0 1) 1431655765)) 2) 858993459)) + (zushr ((zand (l0 - (zand (zushr l0 1) 1431655765)) 858993459) + (zand (zushr (l0 - (zand (zushr l0 1) 1431655765)) 2) 858993459)) 4)) 252645135) 8)) + (zushr ((zand (((zand (l0 - (zand (zushr l0 1) 1431655765)) 858993459) + (zand (zushr (l0 - (zand (zushr l0 1) 1431655765)) 2) 858993459)) + (zushr ((zand (l0 - (zand (zushr l0 1) 1431655765)) 858993459) + (zand (zushr (l0 - (zand (zushr l0 1) 1431655765)) 2) 858993459)) 4)) 252645135) + (zushr (zand (((zand (l0 - (zand (zushr l0 1) 1431655765)) 858993459) + (zand (zushr (l0 - (zand (zushr l0 1) 1431655765)) 2) 858993459)) + (zushr ((zand (l0 - (zand (zushr l0 1) 1431655765)) 858993459) + (zand (zushr (l0 - (zand (zushr l0 1) 1431655765)) 2) 858993459)) 4)) 252645135) 8)) 16)) 63, F, B)
set_option maxHeartbeats 4000000 in
set_option maxRecDepth 100000 in
theorem c_Integer_bitCount {l : Launch} {D : va_G} {ca : Nat → ClassId} {ad : Nat → Int → Nat → Nat} {L : List Nat} {aS vS : Nat → Nat} {sz : Nat} {K : zK}  {l0 : Int} {F F9 : zF} {B B9 : zB} {r : Int} (hf : f_Integer_bitCount K l0 F B = some (r, F9, B9)) : Met l ({ cls := "java/lang/Integer", name := "bitCount", desc := "(I)I" } : Jvm.MethodName) (Cond.code ({ cls := "java/lang/Integer", name := "bitCount", desc := "(I)I" } : Jvm.MethodName) prog_18_method_49_code 1 (Option.some Jvm.ClassFile.FieldType.int) :: wAll) ({ frames := 0, cells := 0, slots := 0, locals := 0 } : Room) (va_Pc [.int (iI l0)] (zPre D ca ad lnC K.2 L aS vS F B sz)) (Q_Integer_bitCount K D ca ad L r F9 B9 (zA L sz)) 0 0 (zA L sz) := by
  refine zMet (Qc := Q_Integer_bitCount K D ca ad L r F9 B9) (lv := [(0, .int (iI l0))]) (by decide) (Nat.le_of_ble_eq_true rfl) rfl (fun A p e s m below meth c ls X hZ hS hl => ?_)
  obtain ⟨hx, hb, hr, hml, hown, hts, hlk, hK, hA, hL, hX⟩ := id X
  replace hf : (some (zand (((zand (((zand (l0 - (zand (zushr l0 1) 1431655765)) 858993459) + (zand (zushr (l0 - (zand (zushr l0 1) 1431655765)) 2) 858993459)) + (zushr ((zand (l0 - (zand (zushr l0 1) 1431655765)) 858993459) + (zand (zushr (l0 - (zand (zushr l0 1) 1431655765)) 2) 858993459)) 4)) 252645135) + (zushr (zand (((zand (l0 - (zand (zushr l0 1) 1431655765)) 858993459) + (zand (zushr (l0 - (zand (zushr l0 1) 1431655765)) 2) 858993459)) + (zushr ((zand (l0 - (zand (zushr l0 1) 1431655765)) 858993459) + (zand (zushr (l0 - (zand (zushr l0 1) 1431655765)) 2) 858993459)) 4)) 252645135) 8)) + (zushr ((zand (((zand (l0 - (zand (zushr l0 1) 1431655765)) 858993459) + (zand (zushr (l0 - (zand (zushr l0 1) 1431655765)) 2) 858993459)) + (zushr ((zand (l0 - (zand (zushr l0 1) 1431655765)) 858993459) + (zand (zushr (l0 - (zand (zushr l0 1) 1431655765)) 2) 858993459)) 4)) 252645135) + (zushr (zand (((zand (l0 - (zand (zushr l0 1) 1431655765)) 858993459) + (zand (zushr (l0 - (zand (zushr l0 1) 1431655765)) 2) 858993459)) + (zushr ((zand (l0 - (zand (zushr l0 1) 1431655765)) 858993459) + (zand (zushr (l0 - (zand (zushr l0 1) 1431655765)) 2) 858993459)) 4)) 252645135) 8)) 16)) 63, F, B)) = some (r, F9, B9) := hf
  refine lv_iload_n hx hb (D_26 W_prog_18_method_49_code_0 0 rfl rfl) rfl (lv_at hl 0 rfl) ?_
  refine lv_iload_n hx hb (D_26 W_prog_18_method_49_code_0 1 rfl rfl) rfl (lv_at hl 0 rfl) ?_
  refine lv_iconst (v := iI 1) hx hb (D_4 W_prog_18_method_49_code_0 2 rfl rfl) rfl ?_
  refine zushr_r hx hb (D_124 W_prog_18_method_49_code_0 3 rfl rfl) ?_
  refine lv_ldcw hx hb hown (hts _ k_7_172) (D_19 W_prog_18_method_49_code_0 4 rfl rfl rfl) ?_
  refine W.eq (g2 := F0 m 7 ls [.int (iI 1431655765), .int (iI (zushr l0 1)), .int (iI l0)]) rfl ?_
  refine zand_r hx hb (D_126 W_prog_18_method_49_code_0 7 rfl rfl) ?_
  refine zsub hx hb (D_100 W_prog_18_method_49_code_0 8 rfl rfl) ?_
  refine lv_istore_n (lv' := [(0, .int (iI (l0 - (zand (zushr l0 1) 1431655765))))]) hx hb (D_59 W_prog_18_method_49_code_0 9 rfl rfl) rfl hl (by decide) rfl (fun ls hl => ?_)
  refine lv_iload_n hx hb (D_26 W_prog_18_method_49_code_0 10 rfl rfl) rfl (lv_at hl 0 rfl) ?_
  refine lv_ldcw hx hb hown (hts _ k_7_173) (D_19 W_prog_18_method_49_code_0 11 rfl rfl rfl) ?_
  refine W.eq (g2 := F0 m 14 ls [.int (iI 858993459), .int (iI (l0 - (zand (zushr l0 1) 1431655765)))]) rfl ?_
  refine zand_r hx hb (D_126 W_prog_18_method_49_code_0 14 rfl rfl) ?_
  refine lv_iload_n hx hb (D_26 W_prog_18_method_49_code_0 15 rfl rfl) rfl (lv_at hl 0 rfl) ?_
  refine lv_iconst (v := iI 2) hx hb (D_5 W_prog_18_method_49_code_0 16 rfl rfl) rfl ?_
  refine zushr_r hx hb (D_124 W_prog_18_method_49_code_0 17 rfl rfl) ?_
  refine lv_ldcw hx hb hown (hts _ k_7_173) (D_19 W_prog_18_method_49_code_0 18 rfl rfl rfl) ?_
  refine W.eq (g2 := F0 m 21 ls [.int (iI 858993459), .int (iI (zushr (l0 - (zand (zushr l0 1) 1431655765)) 2)), .int (iI (zand (l0 - (zand (zushr l0 1) 1431655765)) 858993459))]) rfl ?_
  refine zand_r hx hb (D_126 W_prog_18_method_49_code_0 21 rfl rfl) ?_
  refine zadd hx hb (D_96 W_prog_18_method_49_code_0 22 rfl rfl) ?_
  refine lv_istore_n (lv' := [(0, .int (iI ((zand (l0 - (zand (zushr l0 1) 1431655765)) 858993459) + (zand (zushr (l0 - (zand (zushr l0 1) 1431655765)) 2) 858993459))))]) hx hb (D_59 W_prog_18_method_49_code_0 23 rfl rfl) rfl hl (by decide) rfl (fun ls hl => ?_)
  refine lv_iload_n hx hb (D_26 W_prog_18_method_49_code_0 24 rfl rfl) rfl (lv_at hl 0 rfl) ?_
  refine lv_iload_n hx hb (D_26 W_prog_18_method_49_code_0 25 rfl rfl) rfl (lv_at hl 0 rfl) ?_
  refine lv_iconst (v := iI 4) hx hb (D_7 W_prog_18_method_49_code_0 26 rfl rfl) rfl ?_
  refine zushr_r hx hb (D_124 W_prog_18_method_49_code_0 27 rfl rfl) ?_
  refine zadd hx hb (D_96 W_prog_18_method_49_code_0 28 rfl rfl) ?_
  refine lv_ldcw hx hb hown (hts _ k_7_174) (D_19 W_prog_18_method_49_code_0 29 rfl rfl rfl) ?_
  refine W.eq (g2 := F0 m 32 ls [.int (iI 252645135), .int (iI (((zand (l0 - (zand (zushr l0 1) 1431655765)) 858993459) + (zand (zushr (l0 - (zand (zushr l0 1) 1431655765)) 2) 858993459)) + (zushr ((zand (l0 - (zand (zushr l0 1) 1431655765)) 858993459) + (zand (zushr (l0 - (zand (zushr l0 1) 1431655765)) 2) 858993459)) 4)))]) rfl ?_
  refine zand_r hx hb (D_126 W_prog_18_method_49_code_32 0 rfl rfl) ?_
  refine lv_istore_n (lv' := [(0, .int (iI (zand (((zand (l0 - (zand (zushr l0 1) 1431655765)) 858993459) + (zand (zushr (l0 - (zand (zushr l0 1) 1431655765)) 2) 858993459)) + (zushr ((zand (l0 - (zand (zushr l0 1) 1431655765)) 858993459) + (zand (zushr (l0 - (zand (zushr l0 1) 1431655765)) 2) 858993459)) 4)) 252645135)))]) hx hb (D_59 W_prog_18_method_49_code_32 1 rfl rfl) rfl hl (by decide) rfl (fun ls hl => ?_)
  refine lv_iload_n hx hb (D_26 W_prog_18_method_49_code_32 2 rfl rfl) rfl (lv_at hl 0 rfl) ?_
  refine lv_iload_n hx hb (D_26 W_prog_18_method_49_code_32 3 rfl rfl) rfl (lv_at hl 0 rfl) ?_
  refine lv_bipush (v := iI 8) hx hb (D_16 W_prog_18_method_49_code_32 4 rfl rfl rfl) (by decide) ?_
  refine zushr_r hx hb (D_124 W_prog_18_method_49_code_32 6 rfl rfl) ?_
  refine zadd hx hb (D_96 W_prog_18_method_49_code_32 7 rfl rfl) ?_
  refine lv_istore_n (lv' := [(0, .int (iI ((zand (((zand (l0 - (zand (zushr l0 1) 1431655765)) 858993459) + (zand (zushr (l0 - (zand (zushr l0 1) 1431655765)) 2) 858993459)) + (zushr ((zand (l0 - (zand (zushr l0 1) 1431655765)) 858993459) + (zand (zushr (l0 - (zand (zushr l0 1) 1431655765)) 2) 858993459)) 4)) 252645135) + (zushr (zand (((zand (l0 - (zand (zushr l0 1) 1431655765)) 858993459) + (zand (zushr (l0 - (zand (zushr l0 1) 1431655765)) 2) 858993459)) + (zushr ((zand (l0 - (zand (zushr l0 1) 1431655765)) 858993459) + (zand (zushr (l0 - (zand (zushr l0 1) 1431655765)) 2) 858993459)) 4)) 252645135) 8))))]) hx hb (D_59 W_prog_18_method_49_code_32 8 rfl rfl) rfl hl (by decide) rfl (fun ls hl => ?_)
  refine lv_iload_n hx hb (D_26 W_prog_18_method_49_code_32 9 rfl rfl) rfl (lv_at hl 0 rfl) ?_
  refine lv_iload_n hx hb (D_26 W_prog_18_method_49_code_32 10 rfl rfl) rfl (lv_at hl 0 rfl) ?_
  refine lv_bipush (v := iI 16) hx hb (D_16 W_prog_18_method_49_code_32 11 rfl rfl rfl) (by decide) ?_
  refine zushr_r hx hb (D_124 W_prog_18_method_49_code_32 13 rfl rfl) ?_
  refine zadd hx hb (D_96 W_prog_18_method_49_code_32 14 rfl rfl) ?_
  refine lv_istore_n (lv' := [(0, .int (iI (((zand (((zand (l0 - (zand (zushr l0 1) 1431655765)) 858993459) + (zand (zushr (l0 - (zand (zushr l0 1) 1431655765)) 2) 858993459)) + (zushr ((zand (l0 - (zand (zushr l0 1) 1431655765)) 858993459) + (zand (zushr (l0 - (zand (zushr l0 1) 1431655765)) 2) 858993459)) 4)) 252645135) + (zushr (zand (((zand (l0 - (zand (zushr l0 1) 1431655765)) 858993459) + (zand (zushr (l0 - (zand (zushr l0 1) 1431655765)) 2) 858993459)) + (zushr ((zand (l0 - (zand (zushr l0 1) 1431655765)) 858993459) + (zand (zushr (l0 - (zand (zushr l0 1) 1431655765)) 2) 858993459)) 4)) 252645135) 8)) + (zushr ((zand (((zand (l0 - (zand (zushr l0 1) 1431655765)) 858993459) + (zand (zushr (l0 - (zand (zushr l0 1) 1431655765)) 2) 858993459)) + (zushr ((zand (l0 - (zand (zushr l0 1) 1431655765)) 858993459) + (zand (zushr (l0 - (zand (zushr l0 1) 1431655765)) 2) 858993459)) 4)) 252645135) + (zushr (zand (((zand (l0 - (zand (zushr l0 1) 1431655765)) 858993459) + (zand (zushr (l0 - (zand (zushr l0 1) 1431655765)) 2) 858993459)) + (zushr ((zand (l0 - (zand (zushr l0 1) 1431655765)) 858993459) + (zand (zushr (l0 - (zand (zushr l0 1) 1431655765)) 2) 858993459)) 4)) 252645135) 8)) 16))))]) hx hb (D_59 W_prog_18_method_49_code_32 15 rfl rfl) rfl hl (by decide) rfl (fun ls hl => ?_)
  refine lv_iload_n hx hb (D_26 W_prog_18_method_49_code_32 16 rfl rfl) rfl (lv_at hl 0 rfl) ?_
  refine lv_bipush (v := iI 63) hx hb (D_16 W_prog_18_method_49_code_32 17 rfl rfl rfl) (by decide) ?_
  refine zand_r hx hb (D_126 W_prog_18_method_49_code_32 19 rfl rfl) ?_
  cases hf
  exact W.iret hx hb hr (fun t ht hW => ⟨⟨_, (), rfl, rfl, by rw [ht]; exact hZ, va_K.moved hW.alike hK⟩, hS.F ht⟩) hS.2.2 (D_172 W_prog_18_method_49_code_32 20 rfl rfl) hlk

abbrev Q_ByteRow_setWide (K : zK) (D : va_G) (ca : Nat → ClassId) (ad : Nat → Int → Nat → Nat) (L : List Nat) (r : Int) (F : zF) (B : zB) (A : Nat → Prop) : Array Value → State → Outcome → State → Prop := va_Qv (S := Unit) (fun _ => True) (fun _ => zPo D ca ad lnC K.2 L F B A) A
def f_ByteRow_setWide_44 (rec2 : Int → Int → Int → Int → zF → zB → zO) (K : zK) (l3 : Int) (l0 : Int) (l1 : Int) (l2 : Int) (F : zF) (B : zB) : zO := rec2 (l3 + 1) l0 l1 l2 F B
set_option maxHeartbeats 4000000 in
set_option maxRecDepth 100000 in
theorem b_ByteRow_setWide_44 {D : va_G} {ca : Nat → ClassId} {ad : Nat → Int → Nat → Nat} {L : List Nat} {aS vS : Nat → Nat} {A : Nat → Prop} {p : Program} {l : Launch} {e : Env} {s : State} {m : MethodId} {args : Array Value} {below : List Frame} {meth : Method} {c : Code} {K : zK} {r : Int} {F9 : zF} {B9 : zB} (X : zX D ca L aS vS A p s m args meth c prog_2_method_9_code 4 (Option.none : Option Jvm.ClassFile.FieldType) "StaveHouse$ByteRow") {rec2 : Int → Int → Int → Int → zF → zB → zO} (hrec2 : ∀ {l3 : Int} {l0 : Int} {l1 : Int} {l2 : Int} {F : zF} {B : zB} {H : Heap} {locs : List Loc} {ls : Array Slot}, rec2 l3 l0 l1 l2 F B = some (r, F9, B9) → zH D ca ad lnC K.2 L F B A H → va_S A s.heap H locs → lv_has ls 4 [(3, .int (iI l3)), (0, .ref (ad 0 l0 0)), (1, .int (iI l1)), (2, .int (iI l2))] → W p l e ({ frames := 0, cells := 0, slots := 0, locals := 0 } : Room) s m args below meth c H locs 0 0 (MQ below (Q_ByteRow_setWide K D ca ad L r F9 B9 A) args s 0 0 A) (F0 m 2 ls [])) {l3 : Int} {l0 : Int} {l1 : Int} {l2 : Int} {F : zF} {B : zB} {H : Heap} {locs : List Loc} {ls : Array Slot} (hf : f_ByteRow_setWide_44 rec2 K l3 l0 l1 l2 F B = some (r, F9, B9)) (hZ : zH D ca ad lnC K.2 L F B A H) (hS : va_S A s.heap H locs) (hl : lv_has ls 4 [(3, .int (iI l3)), (0, .ref (ad 0 l0 0)), (1, .int (iI l1)), (2, .int (iI l2))]) : W p l e ({ frames := 0, cells := 0, slots := 0, locals := 0 } : Room) s m args below meth c H locs 0 0 (MQ below (Q_ByteRow_setWide K D ca ad L r F9 B9 A) args s 0 0 A) (F0 m 44 ls []) := by
  obtain ⟨hx, hb, hr, hml, hown, hts, hlk, hK, hA, hL, hX⟩ := id X
  replace hf : (rec2 (l3 + 1) l0 l1 l2 F B) = some (r, F9, B9) := hf
  refine lv_iinc (v := iI (l3 + 1)) (lv' := [(3, .int (iI (l3 + 1))), (0, .ref (ad 0 l0 0)), (1, .int (iI l1)), (2, .int (iI l2))]) hx hb d_2_9_44 hl (k := 0) rfl (iI_add _ 1) (by decide) rfl (fun ls hl => ?_)
  refine lv_goto (tgt := 2) hx hb (D_167 W_prog_2_method_9_code_32 15 rfl rfl rfl) (by decide) ?_
  exact hrec2 hf hZ hS (lv_sub hl [0, 1, 2, 3] rfl)

def f_ByteRow_setWide_2 (K : zK) : Nat → Int → Int → Int → Int → zF → zB → zO
  | 0, _, _, _, _, _, _ => none
  | n + 1, l3, l0, l1, l2, F, B => if r32 l3 then (if 4 ≤ l3 then some (0, F, B) else if r32 (l1 + l3) then (if (l1 + l3) < 0 then f_ByteRow_setWide_44 (f_ByteRow_setWide_2 K n) K l3 l0 l1 l2 F B else if 0 ≤ l0 ∧ l0 < K.2 0 then if r32 (F 0 l0 1) then (if (F 0 l0 1) ≤ (l1 + l3) then f_ByteRow_setWide_44 (f_ByteRow_setWide_2 K n) K l3 l0 l1 l2 F B else if 0 ≤ (l1 + l3) ∧ (l1 + l3) < (lnC 0 l0 0 : Int) then f_ByteRow_setWide_44 (f_ByteRow_setWide_2 K n) K l3 l0 l1 l2 F (zup4 B 0 l0 0 (l1 + l3) (zand (zushr l2 (24 - (8 * l3))) 255)) else none) else none else none) else none) else none
set_option maxHeartbeats 4000000 in
set_option maxRecDepth 100000 in
theorem b_ByteRow_setWide_2 {D : va_G} {ca : Nat → ClassId} {ad : Nat → Int → Nat → Nat} {L : List Nat} {aS vS : Nat → Nat} {A : Nat → Prop} {p : Program} {l : Launch} {e : Env} {s : State} {m : MethodId} {args : Array Value} {below : List Frame} {meth : Method} {c : Code} {K : zK} {r : Int} {F9 : zF} {B9 : zB} (X : zX D ca L aS vS A p s m args meth c prog_2_method_9_code 4 (Option.none : Option Jvm.ClassFile.FieldType) "StaveHouse$ByteRow") : ∀ {n : Nat} {l3 : Int} {l0 : Int} {l1 : Int} {l2 : Int} {F : zF} {B : zB} {H : Heap} {locs : List Loc} {ls : Array Slot}, f_ByteRow_setWide_2 K n l3 l0 l1 l2 F B = some (r, F9, B9) → zH D ca ad lnC K.2 L F B A H → va_S A s.heap H locs → lv_has ls 4 [(3, .int (iI l3)), (0, .ref (ad 0 l0 0)), (1, .int (iI l1)), (2, .int (iI l2))] → W p l e ({ frames := 0, cells := 0, slots := 0, locals := 0 } : Room) s m args below meth c H locs 0 0 (MQ below (Q_ByteRow_setWide K D ca ad L r F9 B9 A) args s 0 0 A) (F0 m 2 ls []) := by
  obtain ⟨hx, hb, hr, hml, hown, hts, hlk, hK, hA, hL, hX⟩ := id X
  intro n
  induction n with
  | zero =>
    intros
    rename_i hf _ _ _
    cases hf
  | succ n ih =>
    intro l3 l0 l1 l2 F B H locs ls hf hZ hS hl
    replace hf : (if r32 l3 then (if 4 ≤ l3 then some (0, F, B) else if r32 (l1 + l3) then (if (l1 + l3) < 0 then f_ByteRow_setWide_44 (f_ByteRow_setWide_2 K n) K l3 l0 l1 l2 F B else if 0 ≤ l0 ∧ l0 < K.2 0 then if r32 (F 0 l0 1) then (if (F 0 l0 1) ≤ (l1 + l3) then f_ByteRow_setWide_44 (f_ByteRow_setWide_2 K n) K l3 l0 l1 l2 F B else if 0 ≤ (l1 + l3) ∧ (l1 + l3) < (lnC 0 l0 0 : Int) then f_ByteRow_setWide_44 (f_ByteRow_setWide_2 K n) K l3 l0 l1 l2 F (zup4 B 0 l0 0 (l1 + l3) (zand (zushr l2 (24 - (8 * l3))) 255)) else none) else none else none) else none) else none) = some (r, F9, B9) := hf
    refine lv_iload_n hx hb (D_29 W_prog_2_method_9_code_0 2 rfl rfl) rfl (lv_at hl 0 rfl) ?_
    refine lv_iconst (v := iI 4) hx hb (D_7 W_prog_2_method_9_code_0 3 rfl rfl) rfl ?_
    obtain ⟨g1, hf⟩ := gif hf
    refine zge (tgt := 50) hx hb g1 (by decide) (D_162 W_prog_2_method_9_code_0 4 rfl rfl rfl) (by decide) (fun h2 => ?_) (fun h2 => ?_)
    · replace hf := gpos hf h2
      cases hf
      exact W.vret hx hb hr (fun t ht hW => ⟨⟨(), rfl, trivial, by rw [ht]; exact hZ, va_K.moved hW.alike hK⟩, hS.F ht⟩) hS.2.2 (D_177 W_prog_2_method_9_code_32 18 rfl rfl) hlk
    · replace hf := gneg hf h2
      refine lv_iload_n hx hb (D_27 W_prog_2_method_9_code_0 7 rfl rfl) rfl (lv_at hl 2 rfl) ?_
      refine lv_iload_n hx hb (D_29 W_prog_2_method_9_code_0 8 rfl rfl) rfl (lv_at hl 0 rfl) ?_
      refine zadd hx hb (D_96 W_prog_2_method_9_code_0 9 rfl rfl) ?_
      obtain ⟨g3, hf⟩ := gif hf
      refine z0lt (tgt := 44) hx hb g3 (D_155 W_prog_2_method_9_code_0 10 rfl rfl rfl) (by decide) (fun h4 => ?_) (fun h4 => ?_)
      · replace hf := gpos hf h4
        exact b_ByteRow_setWide_44 X ih hf hZ hS (lv_sub hl [0, 1, 2, 3] rfl)
      · replace hf := gneg hf h4
        refine lv_iload_n hx hb (D_27 W_prog_2_method_9_code_0 13 rfl rfl) rfl (lv_at hl 2 rfl) ?_
        refine lv_iload_n hx hb (D_29 W_prog_2_method_9_code_0 14 rfl rfl) rfl (lv_at hl 0 rfl) ?_
        refine zadd hx hb (D_96 W_prog_2_method_9_code_0 15 rfl rfl) ?_
        refine lv_aload_n hx hb (D_42 W_prog_2_method_9_code_0 16 rfl rfl) rfl (lv_at hl 1 rfl) ?_
        obtain ⟨g5, hf⟩ := gif hf
        refine zget (ci := 0) (C := RX0) (T := TX0) (v := .int (iI (F 0 l0 1))) (k := 1) hx hb hts inW_0 hown hK hZ g5.1 g5.2 rfl (by decide) k_1_42 rfl (D_180 W_prog_2_method_9_code_0 17 rfl rfl rfl) ?_
        obtain ⟨g6, hf⟩ := gif hf
        refine zge (tgt := 44) hx hb g3 g6 (D_162 W_prog_2_method_9_code_0 20 rfl rfl rfl) (by decide) (fun h7 => ?_) (fun h7 => ?_)
        · replace hf := gpos hf h7
          exact b_ByteRow_setWide_44 X ih hf hZ hS (lv_sub hl [0, 1, 2, 3] rfl)
        · replace hf := gneg hf h7
          refine lv_aload_n hx hb (D_42 W_prog_2_method_9_code_0 23 rfl rfl) rfl (lv_at hl 1 rfl) ?_
          refine zget (ci := 0) (C := RX0) (T := TX0) (v := .ref (ad 0 l0 (0 + 1))) (k := 0) hx hb hts inW_0 hown hK hZ g5.1 g5.2 rfl (by decide) k_1_41 rfl (D_180 W_prog_2_method_9_code_0 24 rfl rfl rfl) ?_
          refine lv_iload_n hx hb (D_27 W_prog_2_method_9_code_0 27 rfl rfl) rfl (lv_at hl 2 rfl) ?_
          refine lv_iload_n hx hb (D_29 W_prog_2_method_9_code_0 28 rfl rfl) rfl (lv_at hl 0 rfl) ?_
          refine zadd hx hb (D_96 W_prog_2_method_9_code_0 29 rfl rfl) ?_
          refine lv_iload_n hx hb (D_28 W_prog_2_method_9_code_0 30 rfl rfl) rfl (lv_at hl 3 rfl) ?_
          refine lv_bipush (v := iI 24) hx hb (D_16 W_prog_2_method_9_code_0 31 rfl rfl rfl) (by decide) ?_
          refine lv_bipush (v := iI 8) hx hb (D_16 W_prog_2_method_9_code_32 1 rfl rfl rfl) (by decide) ?_
          refine lv_iload_n hx hb (D_29 W_prog_2_method_9_code_32 3 rfl rfl) rfl (lv_at hl 0 rfl) ?_
          refine zmul hx hb (D_104 W_prog_2_method_9_code_32 4 rfl rfl) ?_
          refine zsub hx hb (D_100 W_prog_2_method_9_code_32 5 rfl rfl) ?_
          refine zushr_r hx hb (D_124 W_prog_2_method_9_code_32 6 rfl rfl) ?_
          refine lv_sipush (v := iI 255) hx hb (D_17 W_prog_2_method_9_code_32 7 rfl rfl rfl) (by decide) ?_
          refine zand_r hx hb (D_126 W_prog_2_method_9_code_32 10 rfl rfl) ?_
          obtain ⟨g8, hf⟩ := gif hf
          refine zast (ci := 0) (k := 0) hx hb hK rfl hZ hS g5.1 g5.2 rfl lnC0_le g8.1 g8.2 (D_79 W_prog_2_method_9_code_32 11 rfl rfl) (fun H9 locs9 hZ9 hS9 => ?_)
          exact b_ByteRow_setWide_44 X ih hf hZ9 hS9 (lv_sub hl [0, 1, 2, 3] rfl)

def f_ByteRow_setWide (K : zK) (l0 : Int) (l1 : Int) (l2 : Int) (F : zF) (B : zB) : zO := f_ByteRow_setWide_2 K K.1 0 l0 l1 l2 F B
set_option maxHeartbeats 4000000 in
set_option maxRecDepth 100000 in
theorem c_ByteRow_setWide {l : Launch} {D : va_G} {ca : Nat → ClassId} {ad : Nat → Int → Nat → Nat} {L : List Nat} {aS vS : Nat → Nat} {sz : Nat} {K : zK}  {l0 : Int} {l1 : Int} {l2 : Int} {F F9 : zF} {B B9 : zB} {r : Int} (hf : f_ByteRow_setWide K l0 l1 l2 F B = some (r, F9, B9)) : Met l ({ cls := "StaveHouse$ByteRow", name := "setWide", desc := "(II)V" } : Jvm.MethodName) (Cond.code ({ cls := "StaveHouse$ByteRow", name := "setWide", desc := "(II)V" } : Jvm.MethodName) prog_2_method_9_code 4 (Option.none : Option Jvm.ClassFile.FieldType) :: wAll) ({ frames := 0, cells := 0, slots := 0, locals := 0 } : Room) (va_Pc [.ref (ad 0 l0 0), .int (iI l1), .int (iI l2)] (zPre D ca ad lnC K.2 L aS vS F B sz)) (Q_ByteRow_setWide K D ca ad L r F9 B9 (zA L sz)) 0 0 (zA L sz) := by
  refine zMet (Qc := Q_ByteRow_setWide K D ca ad L r F9 B9) (lv := [(0, .ref (ad 0 l0 0)), (1, .int (iI l1)), (2, .int (iI l2))]) (by decide) (Nat.le_of_ble_eq_true rfl) rfl (fun A p e s m below meth c ls X hZ hS hl => ?_)
  obtain ⟨hx, hb, hr, hml, hown, hts, hlk, hK, hA, hL, hX⟩ := id X
  replace hf : (f_ByteRow_setWide_2 K K.1 0 l0 l1 l2 F B) = some (r, F9, B9) := hf
  refine lv_iconst (v := iI 0) hx hb (D_3 W_prog_2_method_9_code_0 0 rfl rfl) rfl ?_
  refine lv_istore_n (lv' := [(3, .int (iI 0)), (0, .ref (ad 0 l0 0)), (1, .int (iI l1)), (2, .int (iI l2))]) hx hb (D_62 W_prog_2_method_9_code_0 1 rfl rfl) rfl hl (by decide) rfl (fun ls hl => ?_)
  exact b_ByteRow_setWide_2 X hf hZ hS (lv_sub hl [0, 1, 2, 3] rfl)

abbrev Q_ByteRow_putDelta (K : zK) (D : va_G) (ca : Nat → ClassId) (ad : Nat → Int → Nat → Nat) (L : List Nat) (r : Int) (F : zF) (B : zB) (A : Nat → Prop) : Array Value → State → Outcome → State → Prop := va_Qv (S := Unit) (fun _ => True) (fun _ => zPo D ca ad lnC K.2 L F B A) A
def f_ByteRow_putDelta_32 (rec2 : Int → Int → Int → zF → zB → zO) (K : zK) (l2 : Int) (l0 : Int) (l1 : Int) (F : zF) (B : zB) : zO := rec2 (l2 - 1) l0 l1 F B
set_option maxHeartbeats 4000000 in
set_option maxRecDepth 100000 in
theorem b_ByteRow_putDelta_32 {D : va_G} {ca : Nat → ClassId} {ad : Nat → Int → Nat → Nat} {L : List Nat} {aS vS : Nat → Nat} {A : Nat → Prop} {p : Program} {l : Launch} {e : Env} {s : State} {m : MethodId} {args : Array Value} {below : List Frame} {meth : Method} {c : Code} {K : zK} {r : Int} {F9 : zF} {B9 : zB} (X : zX D ca L aS vS A p s m args meth c prog_2_method_8_code 3 (Option.none : Option Jvm.ClassFile.FieldType) "StaveHouse$ByteRow") {rec2 : Int → Int → Int → zF → zB → zO} (hrec2 : ∀ {l2 : Int} {l0 : Int} {l1 : Int} {F : zF} {B : zB} {H : Heap} {locs : List Loc} {ls : Array Slot}, rec2 l2 l0 l1 F B = some (r, F9, B9) → zH D ca ad lnC K.2 L F B A H → va_S A s.heap H locs → lv_has ls 3 [(2, .int (iI l2)), (0, .ref (ad 0 l0 0)), (1, .int (iI l1))] → W p l e ({ frames := 1, cells := 0, slots := 0, locals := 21 } : Room) s m args below meth c H locs 0 0 (MQ below (Q_ByteRow_putDelta K D ca ad L r F9 B9 A) args s 0 0 A) (F0 m 2 ls [])) {l2 : Int} {l0 : Int} {l1 : Int} {F : zF} {B : zB} {H : Heap} {locs : List Loc} {ls : Array Slot} (hf : f_ByteRow_putDelta_32 rec2 K l2 l0 l1 F B = some (r, F9, B9)) (hZ : zH D ca ad lnC K.2 L F B A H) (hS : va_S A s.heap H locs) (hl : lv_has ls 3 [(2, .int (iI l2)), (0, .ref (ad 0 l0 0)), (1, .int (iI l1))]) : W p l e ({ frames := 1, cells := 0, slots := 0, locals := 21 } : Room) s m args below meth c H locs 0 0 (MQ below (Q_ByteRow_putDelta K D ca ad L r F9 B9 A) args s 0 0 A) (F0 m 32 ls []) := by
  obtain ⟨hx, hb, hr, hml, hown, hts, hlk, hK, hA, hL, hX⟩ := id X
  replace hf : (rec2 (l2 - 1) l0 l1 F B) = some (r, F9, B9) := hf
  refine lv_iinc (v := iI (l2 - 1)) (lv' := [(2, .int (iI (l2 - 1))), (0, .ref (ad 0 l0 0)), (1, .int (iI l1))]) hx hb d_2_8_32 hl (k := 0) rfl (by rw [show Int32.ofInt (-1) = iI (-1) from rfl, iI_add]; congr 1) (by decide) rfl (fun ls hl => ?_)
  refine lv_goto (tgt := 2) hx hb (D_167 W_prog_2_method_8_code_32 3 rfl rfl rfl) (by decide) ?_
  exact hrec2 hf hZ hS (lv_sub hl [0, 1, 2] rfl)

def f_ByteRow_putDelta_2 (K : zK) : Nat → Int → Int → Int → zF → zB → zO
  | 0, _, _, _, _, _ => none
  | n + 1, l2, l0, l1, F, B => if r32 l2 then (if l2 ≤ 0 then if 0 ≤ l0 ∧ l0 < K.2 0 then zbind (f_ByteRow_put K l0 (zand l1 127) F B) (fun r4 F4 B4 => some (0, F4, B4)) else none else if r32 (zushr l1 (7 * l2)) then (if (zushr l1 (7 * l2)) = 0 then f_ByteRow_putDelta_32 (f_ByteRow_putDelta_2 K n) K l2 l0 l1 F B else if 0 ≤ l0 ∧ l0 < K.2 0 then zbind (f_ByteRow_put K l0 (zor (zand (zushr l1 (7 * l2)) 127) 128) F B) (fun r8 F8 B8 => f_ByteRow_putDelta_32 (f_ByteRow_putDelta_2 K n) K l2 l0 l1 F8 B8) else none) else none) else none
set_option maxHeartbeats 4000000 in
set_option maxRecDepth 100000 in
theorem b_ByteRow_putDelta_2 {D : va_G} {ca : Nat → ClassId} {ad : Nat → Int → Nat → Nat} {L : List Nat} {aS vS : Nat → Nat} {A : Nat → Prop} {p : Program} {l : Launch} {e : Env} {s : State} {m : MethodId} {args : Array Value} {below : List Frame} {meth : Method} {c : Code} {K : zK} {r : Int} {F9 : zF} {B9 : zB} (X : zX D ca L aS vS A p s m args meth c prog_2_method_8_code 3 (Option.none : Option Jvm.ClassFile.FieldType) "StaveHouse$ByteRow") : ∀ {n : Nat} {l2 : Int} {l0 : Int} {l1 : Int} {F : zF} {B : zB} {H : Heap} {locs : List Loc} {ls : Array Slot}, f_ByteRow_putDelta_2 K n l2 l0 l1 F B = some (r, F9, B9) → zH D ca ad lnC K.2 L F B A H → va_S A s.heap H locs → lv_has ls 3 [(2, .int (iI l2)), (0, .ref (ad 0 l0 0)), (1, .int (iI l1))] → W p l e ({ frames := 1, cells := 0, slots := 0, locals := 21 } : Room) s m args below meth c H locs 0 0 (MQ below (Q_ByteRow_putDelta K D ca ad L r F9 B9 A) args s 0 0 A) (F0 m 2 ls []) := by
  obtain ⟨hx, hb, hr, hml, hown, hts, hlk, hK, hA, hL, hX⟩ := id X
  intro n
  induction n with
  | zero =>
    intros
    rename_i hf _ _ _
    cases hf
  | succ n ih =>
    intro l2 l0 l1 F B H locs ls hf hZ hS hl
    replace hf : (if r32 l2 then (if l2 ≤ 0 then if 0 ≤ l0 ∧ l0 < K.2 0 then zbind (f_ByteRow_put K l0 (zand l1 127) F B) (fun r4 F4 B4 => some (0, F4, B4)) else none else if r32 (zushr l1 (7 * l2)) then (if (zushr l1 (7 * l2)) = 0 then f_ByteRow_putDelta_32 (f_ByteRow_putDelta_2 K n) K l2 l0 l1 F B else if 0 ≤ l0 ∧ l0 < K.2 0 then zbind (f_ByteRow_put K l0 (zor (zand (zushr l1 (7 * l2)) 127) 128) F B) (fun r8 F8 B8 => f_ByteRow_putDelta_32 (f_ByteRow_putDelta_2 K n) K l2 l0 l1 F8 B8) else none) else none) else none) = some (r, F9, B9) := hf
    refine lv_iload_n hx hb (D_28 W_prog_2_method_8_code_0 2 rfl rfl) rfl (lv_at hl 0 rfl) ?_
    obtain ⟨g1, hf⟩ := gif hf
    refine z0le (tgt := 38) hx hb g1 (D_158 W_prog_2_method_8_code_0 3 rfl rfl rfl) (by decide) (fun h2 => ?_) (fun h2 => ?_)
    · replace hf := gpos hf h2
      refine lv_aload_n hx hb (D_42 W_prog_2_method_8_code_32 6 rfl rfl) rfl (lv_at hl 1 rfl) ?_
      refine lv_iload_n hx hb (D_27 W_prog_2_method_8_code_32 7 rfl rfl) rfl (lv_at hl 2 rfl) ?_
      refine lv_bipush (v := iI 127) hx hb (D_16 W_prog_2_method_8_code_32 8 rfl rfl rfl) (by decide) ?_
      refine zand_r hx hb (D_126 W_prog_2_method_8_code_32 10 rfl rfl) ?_
      obtain ⟨g3, hf⟩ := gif hf
      obtain ⟨r4, F4, B4, hc4, hf⟩ := gbind hf
      refine va_callv (va_runV (As := [.int (iI (zand l1 127))]) (rest := []) ⟨hx, hb, hml, hown, hts⟩ (c_ByteRow_put (l := l) hc4) (cwV 1 hts (gdV k_7_153 k_2_171 k_2_172 k_1_2 k_2_173) rfl rfl rfl (by decide +kernel) ⟨Nat.le_of_ble_eq_true rfl, Nat.le_of_ble_eq_true rfl⟩) (zPV X hZ hS (ci := 0) g3.1 g3.2 (r := (RX0, TX0, 3)) rfl [.int (iI (zand l1 127))]) rfl rfl hl.1 rfl (lv_room (Nat.le_of_ble_eq_true rfl)) (D_182 W_prog_2_method_8_code_32 11 rfl rfl rfl) ⟨Nat.le_of_ble_eq_true rfl, Nat.le_of_ble_eq_true rfl⟩) hS (fun q _ h => zAin X hS q h) (zAin X hS) (fun u4 t4 H4 locs4 ht4 hv4 hw4 hB4 hz4 hk4 hS4 => ?_)
      have hZ4 := zBack X ht4 hB4
      cases hf
      exact W.vret hx hb hr (fun t ht hW => ⟨⟨(), rfl, trivial, by rw [ht]; exact hZ4, va_K.moved hW.alike hK⟩, hS4.F ht⟩) hS4.2.2 (D_177 W_prog_2_method_8_code_32 14 rfl rfl) hlk
    · replace hf := gneg hf h2
      refine lv_iload_n hx hb (D_27 W_prog_2_method_8_code_0 6 rfl rfl) rfl (lv_at hl 2 rfl) ?_
      refine lv_bipush (v := iI 7) hx hb (D_16 W_prog_2_method_8_code_0 7 rfl rfl rfl) (by decide) ?_
      refine lv_iload_n hx hb (D_28 W_prog_2_method_8_code_0 9 rfl rfl) rfl (lv_at hl 0 rfl) ?_
      refine zmul hx hb (D_104 W_prog_2_method_8_code_0 10 rfl rfl) ?_
      refine zushr_r hx hb (D_124 W_prog_2_method_8_code_0 11 rfl rfl) ?_
      obtain ⟨g5, hf⟩ := gif hf
      refine z0eq (tgt := 32) hx hb g5 (D_153 W_prog_2_method_8_code_0 12 rfl rfl rfl) (by decide) (fun h6 => ?_) (fun h6 => ?_)
      · replace hf := gpos hf h6
        exact b_ByteRow_putDelta_32 X ih hf hZ hS (lv_sub hl [0, 1, 2] rfl)
      · replace hf := gneg hf h6
        refine lv_aload_n hx hb (D_42 W_prog_2_method_8_code_0 15 rfl rfl) rfl (lv_at hl 1 rfl) ?_
        refine lv_iload_n hx hb (D_27 W_prog_2_method_8_code_0 16 rfl rfl) rfl (lv_at hl 2 rfl) ?_
        refine lv_bipush (v := iI 7) hx hb (D_16 W_prog_2_method_8_code_0 17 rfl rfl rfl) (by decide) ?_
        refine lv_iload_n hx hb (D_28 W_prog_2_method_8_code_0 19 rfl rfl) rfl (lv_at hl 0 rfl) ?_
        refine zmul hx hb (D_104 W_prog_2_method_8_code_0 20 rfl rfl) ?_
        refine zushr_r hx hb (D_124 W_prog_2_method_8_code_0 21 rfl rfl) ?_
        refine lv_bipush (v := iI 127) hx hb (D_16 W_prog_2_method_8_code_0 22 rfl rfl rfl) (by decide) ?_
        refine zand_r hx hb (D_126 W_prog_2_method_8_code_0 24 rfl rfl) ?_
        refine lv_sipush (v := iI 128) hx hb (D_17 W_prog_2_method_8_code_0 25 rfl rfl rfl) (by decide) ?_
        refine zor_r hx hb (D_128 W_prog_2_method_8_code_0 28 rfl rfl) ?_
        obtain ⟨g7, hf⟩ := gif hf
        obtain ⟨r8, F8, B8, hc8, hf⟩ := gbind hf
        refine va_callv (va_runV (As := [.int (iI (zor (zand (zushr l1 (7 * l2)) 127) 128))]) (rest := []) ⟨hx, hb, hml, hown, hts⟩ (c_ByteRow_put (l := l) hc8) (cwV 1 hts (gdV k_7_153 k_2_171 k_2_172 k_1_2 k_2_173) rfl rfl rfl (by decide +kernel) ⟨Nat.le_of_ble_eq_true rfl, Nat.le_of_ble_eq_true rfl⟩) (zPV X hZ hS (ci := 0) g7.1 g7.2 (r := (RX0, TX0, 3)) rfl [.int (iI (zor (zand (zushr l1 (7 * l2)) 127) 128))]) rfl rfl hl.1 rfl (lv_room (Nat.le_of_ble_eq_true rfl)) (D_182 W_prog_2_method_8_code_0 29 rfl rfl rfl) ⟨Nat.le_of_ble_eq_true rfl, Nat.le_of_ble_eq_true rfl⟩) hS (fun q _ h => zAin X hS q h) (zAin X hS) (fun u8 t8 H8 locs8 ht8 hv8 hw8 hB8 hz8 hk8 hS8 => ?_)
        have hZ8 := zBack X ht8 hB8
        exact b_ByteRow_putDelta_32 X ih hf hZ8 hS8 (lv_sub hl [0, 1, 2] rfl)

def f_ByteRow_putDelta (K : zK) (l0 : Int) (l1 : Int) (F : zF) (B : zB) : zO := f_ByteRow_putDelta_2 K K.1 3 l0 l1 F B
set_option maxHeartbeats 4000000 in
set_option maxRecDepth 100000 in
theorem c_ByteRow_putDelta {l : Launch} {D : va_G} {ca : Nat → ClassId} {ad : Nat → Int → Nat → Nat} {L : List Nat} {aS vS : Nat → Nat} {sz : Nat} {K : zK}  {l0 : Int} {l1 : Int} {F F9 : zF} {B B9 : zB} {r : Int} (hf : f_ByteRow_putDelta K l0 l1 F B = some (r, F9, B9)) : Met l ({ cls := "StaveHouse$ByteRow", name := "putDelta", desc := "(I)V" } : Jvm.MethodName) (Cond.code ({ cls := "StaveHouse$ByteRow", name := "putDelta", desc := "(I)V" } : Jvm.MethodName) prog_2_method_8_code 3 (Option.none : Option Jvm.ClassFile.FieldType) :: wAll) ({ frames := 1, cells := 0, slots := 0, locals := 21 } : Room) (va_Pc [.ref (ad 0 l0 0), .int (iI l1)] (zPre D ca ad lnC K.2 L aS vS F B sz)) (Q_ByteRow_putDelta K D ca ad L r F9 B9 (zA L sz)) 0 0 (zA L sz) := by
  refine zMet (Qc := Q_ByteRow_putDelta K D ca ad L r F9 B9) (lv := [(0, .ref (ad 0 l0 0)), (1, .int (iI l1))]) (by decide) (Nat.le_of_ble_eq_true rfl) rfl (fun A p e s m below meth c ls X hZ hS hl => ?_)
  obtain ⟨hx, hb, hr, hml, hown, hts, hlk, hK, hA, hL, hX⟩ := id X
  replace hf : (f_ByteRow_putDelta_2 K K.1 3 l0 l1 F B) = some (r, F9, B9) := hf
  refine lv_iconst (v := iI 3) hx hb (D_6 W_prog_2_method_8_code_0 0 rfl rfl) rfl ?_
  refine lv_istore_n (lv' := [(2, .int (iI 3)), (0, .ref (ad 0 l0 0)), (1, .int (iI l1))]) hx hb (D_61 W_prog_2_method_8_code_0 1 rfl rfl) rfl hl (by decide) rfl (fun ls hl => ?_)
  exact b_ByteRow_putDelta_2 X hf hZ hS (lv_sub hl [0, 1, 2] rfl)

abbrev Q_S_out (K : zK) (D : va_G) (ca : Nat → ClassId) (ad : Nat → Int → Nat → Nat) (L : List Nat) (r : Int) (F : zF) (B : zB) (A : Nat → Prop) : Array Value → State → Outcome → State → Prop := va_Qi (S := Unit) (fun p _ => p = iI r) (fun _ => zPo D ca ad lnC K.2 L F B A) A
def f_S_out (K : zK) (l0 : Int) (l1 : Int) (F : zF) (B : zB) : zO := if 0 ≤ l0 ∧ l0 < K.2 12 then if 0 ≤ (F 12 l0 2) ∧ (F 12 l0 2) < K.2 0 then zbind (f_ByteRow_at K (F 12 l0 2) l1 F B) (fun r3 F3 B3 => some (r3, F3, B3)) else none else none
set_option maxHeartbeats 4000000 in
set_option maxRecDepth 100000 in
theorem c_S_out {l : Launch} {D : va_G} {ca : Nat → ClassId} {ad : Nat → Int → Nat → Nat} {L : List Nat} {aS vS : Nat → Nat} {sz : Nat} {K : zK}  {l0 : Int} {l1 : Int} {F F9 : zF} {B B9 : zB} {r : Int} (hf : f_S_out K l0 l1 F B = some (r, F9, B9)) : Met l ({ cls := "StaveHouse", name := "out", desc := "(I)I" } : Jvm.MethodName) (Cond.code ({ cls := "StaveHouse", name := "out", desc := "(I)I" } : Jvm.MethodName) prog_1_method_22_code 2 (Option.some Jvm.ClassFile.FieldType.int) :: wAll) ({ frames := 1, cells := 0, slots := 0, locals := 21 } : Room) (va_Pc [.ref (ad 12 l0 0), .int (iI l1)] (zPre D ca ad lnC K.2 L aS vS F B sz)) (Q_S_out K D ca ad L r F9 B9 (zA L sz)) 0 0 (zA L sz) := by
  refine zMet (Qc := Q_S_out K D ca ad L r F9 B9) (lv := [(0, .ref (ad 12 l0 0)), (1, .int (iI l1))]) (by decide) (Nat.le_of_ble_eq_true rfl) rfl (fun A p e s m below meth c ls X hZ hS hl => ?_)
  obtain ⟨hx, hb, hr, hml, hown, hts, hlk, hK, hA, hL, hX⟩ := id X
  replace hf : (if 0 ≤ l0 ∧ l0 < K.2 12 then if 0 ≤ (F 12 l0 2) ∧ (F 12 l0 2) < K.2 0 then zbind (f_ByteRow_at K (F 12 l0 2) l1 F B) (fun r3 F3 B3 => some (r3, F3, B3)) else none else none) = some (r, F9, B9) := hf
  refine lv_aload_n hx hb (D_42 W_prog_1_method_22_code_0 0 rfl rfl) rfl (lv_at hl 0 rfl) ?_
  obtain ⟨g1, hf⟩ := gif hf
  refine zget (ci := 12) (C := RX12) (T := TX12) (v := va_rf (zrf ad 0 (F 12 l0 2))) (k := 2) hx hb hts inW_12 hown hK hZ g1.1 g1.2 rfl (by decide) k_2_129 rfl (D_180 W_prog_1_method_22_code_0 1 rfl rfl rfl) ?_
  refine lv_iload_n hx hb (D_27 W_prog_1_method_22_code_0 4 rfl rfl) rfl (lv_at hl 1 rfl) ?_
  obtain ⟨g2, hf⟩ := gif hf
  refine W.eq (g2 := F0 m 5 ls [.int (iI l1), .ref (ad 0 (F 12 l0 2) 0)]) (by rw [zrf_pos (ad := ad) (t := 0) g2.1]; try rfl) ?_
  obtain ⟨r3, F3, B3, hc3, hf⟩ := gbind hf
  refine va_calli (va_runV (As := [.int (iI l1)]) (rest := []) ⟨hx, hb, hml, hown, hts⟩ (c_ByteRow_at (l := l) hc3) (cwV 1 hts (gdV k_7_200 k_3_35 k_3_36 k_1_2 k_3_37) rfl rfl rfl (by decide +kernel) ⟨Nat.le_of_ble_eq_true rfl, Nat.le_of_ble_eq_true rfl⟩) (zPV X hZ hS (ci := 0) g2.1 g2.2 (r := (RX0, TX0, 3)) rfl [.int (iI l1)]) rfl rfl hl.1 rfl (lv_room (Nat.le_of_ble_eq_true rfl)) (D_182 W_prog_1_method_22_code_0 5 rfl rfl rfl) ⟨Nat.le_of_ble_eq_true rfl, Nat.le_of_ble_eq_true rfl⟩) hS (fun q _ h => zAin X hS q h) (zAin X hS) (fun p3 u3 t3 H3 locs3 ht3 hv3 hw3 hB3 hz3 hk3 hS3 => ?_)
  have hZ3 := zBack X ht3 hB3
  subst hw3
  cases hf
  exact W.iret hx hb hr (fun t ht hW => ⟨⟨_, (), rfl, rfl, by rw [ht]; exact hZ3, va_K.moved hW.alike hK⟩, hS3.F ht⟩) hS3.2.2 (D_172 W_prog_1_method_22_code_0 8 rfl rfl) hlk

abbrev Q_S_again (K : zK) (D : va_G) (ca : Nat → ClassId) (ad : Nat → Int → Nat → Nat) (L : List Nat) (r : Int) (F : zF) (B : zB) (A : Nat → Prop) : Array Value → State → Outcome → State → Prop := va_Qi (S := Unit) (fun p _ => p = iI r) (fun _ => zPo D ca ad lnC K.2 L F B A) A
def f_S_again_34 (K : zK) : Nat → Int → Int → zF → zB → zO
  | 0, _, _, _, _ => none
  | n + 1, l1, l0, F, B => if 0 ≤ l0 ∧ l0 < K.2 12 then if 0 ≤ (F 12 l0 2) ∧ (F 12 l0 2) < K.2 0 then if r32 l1 then if r32 (F 0 (F 12 l0 2) 1) then (if (F 0 (F 12 l0 2) 1) ≤ l1 then if 0 ≤ (F 12 l0 0) ∧ (F 12 l0 0) < K.2 0 then some (F 0 (F 12 l0 0) 1, F, B) else none else if 0 ≤ (F 12 l0 0) ∧ (F 12 l0 0) < K.2 0 then zbind (f_ByteRow_at K (F 12 l0 2) l1 F B) (fun r15 F15 B15 => zbind (f_ByteRow_put K (F 12 l0 0) r15 F15 B15) (fun r16 F16 B16 => f_S_again_34 K n (l1 + 1) l0 F16 B16)) else none) else none else none else none else none
set_option maxHeartbeats 4000000 in
set_option maxRecDepth 100000 in
theorem b_S_again_34 {D : va_G} {ca : Nat → ClassId} {ad : Nat → Int → Nat → Nat} {L : List Nat} {aS vS : Nat → Nat} {A : Nat → Prop} {p : Program} {l : Launch} {e : Env} {s : State} {m : MethodId} {args : Array Value} {below : List Frame} {meth : Method} {c : Code} {K : zK} {r : Int} {F9 : zF} {B9 : zB} (X : zX D ca L aS vS A p s m args meth c prog_1_method_23_code 2 (Option.some Jvm.ClassFile.FieldType.int) "StaveHouse") : ∀ {n : Nat} {l1 : Int} {l0 : Int} {F : zF} {B : zB} {H : Heap} {locs : List Loc} {ls : Array Slot}, f_S_again_34 K n l1 l0 F B = some (r, F9, B9) → zH D ca ad lnC K.2 L F B A H → va_S A s.heap H locs → lv_has ls 2 [(1, .int (iI l1)), (0, .ref (ad 12 l0 0))] → W p l e ({ frames := 1, cells := 0, slots := 0, locals := 21 } : Room) s m args below meth c H locs 0 0 (MQ below (Q_S_again K D ca ad L r F9 B9 A) args s 0 0 A) (F0 m 34 ls []) := by
  obtain ⟨hx, hb, hr, hml, hown, hts, hlk, hK, hA, hL, hX⟩ := id X
  intro n
  induction n with
  | zero =>
    intros
    rename_i hf _ _ _
    cases hf
  | succ n ih =>
    intro l1 l0 F B H locs ls hf hZ hS hl
    replace hf : (if 0 ≤ l0 ∧ l0 < K.2 12 then if 0 ≤ (F 12 l0 2) ∧ (F 12 l0 2) < K.2 0 then if r32 l1 then if r32 (F 0 (F 12 l0 2) 1) then (if (F 0 (F 12 l0 2) 1) ≤ l1 then if 0 ≤ (F 12 l0 0) ∧ (F 12 l0 0) < K.2 0 then some (F 0 (F 12 l0 0) 1, F, B) else none else if 0 ≤ (F 12 l0 0) ∧ (F 12 l0 0) < K.2 0 then zbind (f_ByteRow_at K (F 12 l0 2) l1 F B) (fun r15 F15 B15 => zbind (f_ByteRow_put K (F 12 l0 0) r15 F15 B15) (fun r16 F16 B16 => f_S_again_34 K n (l1 + 1) l0 F16 B16)) else none) else none else none else none else none) = some (r, F9, B9) := hf
    refine lv_iload_n hx hb (D_27 W_prog_1_method_23_code_32 2 rfl rfl) rfl (lv_at hl 0 rfl) ?_
    refine lv_aload_n hx hb (D_42 W_prog_1_method_23_code_32 3 rfl rfl) rfl (lv_at hl 1 rfl) ?_
    obtain ⟨g8, hf⟩ := gif hf
    refine zget (ci := 12) (C := RX12) (T := TX12) (v := va_rf (zrf ad 0 (F 12 l0 2))) (k := 2) hx hb hts inW_12 hown hK hZ g8.1 g8.2 rfl (by decide) k_2_129 rfl (D_180 W_prog_1_method_23_code_32 4 rfl rfl rfl) ?_
    obtain ⟨g9, hf⟩ := gif hf
    refine zunrf g9.1 ?_
    refine zget (ci := 0) (C := RX0) (T := TX0) (v := .int (iI (F 0 (F 12 l0 2) 1))) (k := 1) hx hb hts inW_0 hown hK hZ g9.1 g9.2 rfl (by decide) k_1_46 rfl (D_180 W_prog_1_method_23_code_32 7 rfl rfl rfl) ?_
    obtain ⟨g10, hf⟩ := gif hf
    obtain ⟨g11, hf⟩ := gif hf
    refine zge (tgt := 66) hx hb g10 g11 (D_162 W_prog_1_method_23_code_32 10 rfl rfl rfl) (by decide) (fun h12 => ?_) (fun h12 => ?_)
    · replace hf := gpos hf h12
      refine lv_aload_n hx hb (D_42 W_prog_1_method_23_code_64 2 rfl rfl) rfl (lv_at hl 1 rfl) ?_
      refine zget (ci := 12) (C := RX12) (T := TX12) (v := va_rf (zrf ad 0 (F 12 l0 0))) (k := 0) hx hb hts inW_12 hown hK hZ g8.1 g8.2 rfl (by decide) k_2_127 rfl (D_180 W_prog_1_method_23_code_64 3 rfl rfl rfl) ?_
      obtain ⟨g13, hf⟩ := gif hf
      refine zunrf g13.1 ?_
      refine zget (ci := 0) (C := RX0) (T := TX0) (v := .int (iI (F 0 (F 12 l0 0) 1))) (k := 1) hx hb hts inW_0 hown hK hZ g13.1 g13.2 rfl (by decide) k_1_46 rfl (D_180 W_prog_1_method_23_code_64 6 rfl rfl rfl) ?_
      cases hf
      exact W.iret hx hb hr (fun t ht hW => ⟨⟨_, (), rfl, rfl, by rw [ht]; exact hZ, va_K.moved hW.alike hK⟩, hS.F ht⟩) hS.2.2 (D_172 W_prog_1_method_23_code_64 9 rfl rfl) hlk
    · replace hf := gneg hf h12
      refine lv_aload_n hx hb (D_42 W_prog_1_method_23_code_32 13 rfl rfl) rfl (lv_at hl 1 rfl) ?_
      refine zget (ci := 12) (C := RX12) (T := TX12) (v := va_rf (zrf ad 0 (F 12 l0 0))) (k := 0) hx hb hts inW_12 hown hK hZ g8.1 g8.2 rfl (by decide) k_2_127 rfl (D_180 W_prog_1_method_23_code_32 14 rfl rfl rfl) ?_
      refine lv_aload_n hx hb (D_42 W_prog_1_method_23_code_32 17 rfl rfl) rfl (lv_at hl 1 rfl) ?_
      refine zget (ci := 12) (C := RX12) (T := TX12) (v := va_rf (zrf ad 0 (F 12 l0 2))) (k := 2) hx hb hts inW_12 hown hK hZ g8.1 g8.2 rfl (by decide) k_2_129 rfl (D_180 W_prog_1_method_23_code_32 18 rfl rfl rfl) ?_
      refine lv_iload_n hx hb (D_27 W_prog_1_method_23_code_32 21 rfl rfl) rfl (lv_at hl 0 rfl) ?_
      obtain ⟨g14, hf⟩ := gif hf
      refine W.eq (g2 := F0 m 54 ls [.int (iI l1), va_rf (zrf ad 0 (F 12 l0 2)), .ref (ad 0 (F 12 l0 0) 0)]) (by rw [zrf_pos (ad := ad) (t := 0) g14.1]; try rfl) ?_
      refine W.eq (g2 := F0 m 54 ls [.int (iI l1), .ref (ad 0 (F 12 l0 2) 0), .ref (ad 0 (F 12 l0 0) 0)]) (by rw [zrf_pos (ad := ad) (t := 0) g9.1]; try rfl) ?_
      obtain ⟨r15, F15, B15, hc15, hf⟩ := gbind hf
      refine va_calli (va_runV (As := [.int (iI l1)]) (rest := [.ref (ad 0 (F 12 l0 0) 0)]) ⟨hx, hb, hml, hown, hts⟩ (c_ByteRow_at (l := l) hc15) (cwV 1 hts (gdV k_7_200 k_3_35 k_3_36 k_1_2 k_3_37) rfl rfl rfl (by decide +kernel) ⟨Nat.le_of_ble_eq_true rfl, Nat.le_of_ble_eq_true rfl⟩) (zPV X hZ hS (ci := 0) g9.1 g9.2 (r := (RX0, TX0, 3)) rfl [.int (iI l1)]) rfl rfl hl.1 rfl (lv_room (Nat.le_of_ble_eq_true rfl)) (D_182 W_prog_1_method_23_code_32 22 rfl rfl rfl) ⟨Nat.le_of_ble_eq_true rfl, Nat.le_of_ble_eq_true rfl⟩) hS (fun q _ h => zAin X hS q h) (zAin X hS) (fun p15 u15 t15 H15 locs15 ht15 hv15 hw15 hB15 hz15 hk15 hS15 => ?_)
      have hZ15 := zBack X ht15 hB15
      subst hw15
      obtain ⟨r16, F16, B16, hc16, hf⟩ := gbind hf
      refine va_callv (va_runV (As := [.int (iI r15)]) (rest := []) ⟨hx, hb, hml, hown, hts⟩ (c_ByteRow_put (l := l) hc16) (cwV 1 hts (gdV k_2_170 k_2_171 k_2_172 k_1_2 k_2_173) rfl rfl rfl (by decide +kernel) ⟨Nat.le_of_ble_eq_true rfl, Nat.le_of_ble_eq_true rfl⟩) (zPV X hZ15 hS15 (ci := 0) g14.1 g14.2 (r := (RX0, TX0, 3)) rfl [.int (iI r15)]) rfl rfl hl.1 rfl (lv_room (Nat.le_of_ble_eq_true rfl)) (D_182 W_prog_1_method_23_code_32 25 rfl rfl rfl) ⟨Nat.le_of_ble_eq_true rfl, Nat.le_of_ble_eq_true rfl⟩) hS15 (fun q _ h => zAin X hS15 q h) (zAin X hS15) (fun u16 t16 H16 locs16 ht16 hv16 hw16 hB16 hz16 hk16 hS16 => ?_)
      have hZ16 := zBack X ht16 hB16
      refine lv_iinc (v := iI (l1 + 1)) (lv' := [(1, .int (iI (l1 + 1))), (0, .ref (ad 12 l0 0))]) hx hb d_1_23_60 hl (k := 0) rfl (iI_add _ 1) (by decide) rfl (fun ls hl => ?_)
      refine lv_goto (tgt := 34) hx hb (D_167 W_prog_1_method_23_code_32 31 rfl rfl rfl) (by decide) ?_
      exact ih hf hZ16 hS16 (lv_sub hl [0, 1] rfl)

def f_S_again_23 (K : zK)  (F : zF) (B : zB) : zO := some ((-1), F, B)
set_option maxHeartbeats 4000000 in
set_option maxRecDepth 100000 in
theorem b_S_again_23 {D : va_G} {ca : Nat → ClassId} {ad : Nat → Int → Nat → Nat} {L : List Nat} {aS vS : Nat → Nat} {A : Nat → Prop} {p : Program} {l : Launch} {e : Env} {s : State} {m : MethodId} {args : Array Value} {below : List Frame} {meth : Method} {c : Code} {K : zK} {r : Int} {F9 : zF} {B9 : zB} (X : zX D ca L aS vS A p s m args meth c prog_1_method_23_code 2 (Option.some Jvm.ClassFile.FieldType.int) "StaveHouse")  {F : zF} {B : zB} {H : Heap} {locs : List Loc} {ls : Array Slot} (hf : f_S_again_23 K  F B = some (r, F9, B9)) (hZ : zH D ca ad lnC K.2 L F B A H) (hS : va_S A s.heap H locs) (hl : lv_has ls 2 []) : W p l e ({ frames := 1, cells := 0, slots := 0, locals := 21 } : Room) s m args below meth c H locs 0 0 (MQ below (Q_S_again K D ca ad L r F9 B9 A) args s 0 0 A) (F0 m 23 ls []) := by
  obtain ⟨hx, hb, hr, hml, hown, hts, hlk, hK, hA, hL, hX⟩ := id X
  replace hf : (some ((-1), F, B)) = some (r, F9, B9) := hf
  refine lv_iconst (v := iI (-1)) hx hb (D_2 W_prog_1_method_23_code_0 23 rfl rfl) rfl ?_
  cases hf
  exact W.iret hx hb hr (fun t ht hW => ⟨⟨_, (), rfl, rfl, by rw [ht]; exact hZ, va_K.moved hW.alike hK⟩, hS.F ht⟩) hS.2.2 (D_172 W_prog_1_method_23_code_0 24 rfl rfl) hlk

def f_S_again (K : zK) (l0 : Int) (F : zF) (B : zB) : zO := if 0 ≤ l0 ∧ l0 < K.2 12 then if 0 ≤ (F 12 l0 2) ∧ (F 12 l0 2) < K.2 0 then if r32 (F 0 (F 12 l0 2) 1) then (if (F 0 (F 12 l0 2) 1) = 0 then f_S_again_23 K F B else (if (F 0 (F 12 l0 2) 1) ≤ 3000 then if 0 ≤ (F 12 l0 0) ∧ (F 12 l0 0) < K.2 0 then zbind (f_ByteRow_clear K (F 12 l0 0) F B) (fun r7 F7 B7 => f_S_again_34 K K.1 0 l0 F7 B7) else none else f_S_again_23 K F B)) else none else none else none
set_option maxHeartbeats 4000000 in
set_option maxRecDepth 100000 in
theorem c_S_again {l : Launch} {D : va_G} {ca : Nat → ClassId} {ad : Nat → Int → Nat → Nat} {L : List Nat} {aS vS : Nat → Nat} {sz : Nat} {K : zK}  {l0 : Int} {F F9 : zF} {B B9 : zB} {r : Int} (hf : f_S_again K l0 F B = some (r, F9, B9)) : Met l ({ cls := "StaveHouse", name := "again", desc := "()I" } : Jvm.MethodName) (Cond.code ({ cls := "StaveHouse", name := "again", desc := "()I" } : Jvm.MethodName) prog_1_method_23_code 2 (Option.some Jvm.ClassFile.FieldType.int) :: wAll) ({ frames := 1, cells := 0, slots := 0, locals := 21 } : Room) (va_Pc [.ref (ad 12 l0 0)] (zPre D ca ad lnC K.2 L aS vS F B sz)) (Q_S_again K D ca ad L r F9 B9 (zA L sz)) 0 0 (zA L sz) := by
  refine zMet (Qc := Q_S_again K D ca ad L r F9 B9) (lv := [(0, .ref (ad 12 l0 0))]) (by decide) (Nat.le_of_ble_eq_true rfl) rfl (fun A p e s m below meth c ls X hZ hS hl => ?_)
  obtain ⟨hx, hb, hr, hml, hown, hts, hlk, hK, hA, hL, hX⟩ := id X
  replace hf : (if 0 ≤ l0 ∧ l0 < K.2 12 then if 0 ≤ (F 12 l0 2) ∧ (F 12 l0 2) < K.2 0 then if r32 (F 0 (F 12 l0 2) 1) then (if (F 0 (F 12 l0 2) 1) = 0 then f_S_again_23 K F B else (if (F 0 (F 12 l0 2) 1) ≤ 3000 then if 0 ≤ (F 12 l0 0) ∧ (F 12 l0 0) < K.2 0 then zbind (f_ByteRow_clear K (F 12 l0 0) F B) (fun r7 F7 B7 => f_S_again_34 K K.1 0 l0 F7 B7) else none else f_S_again_23 K F B)) else none else none else none) = some (r, F9, B9) := hf
  refine lv_aload_n hx hb (D_42 W_prog_1_method_23_code_0 0 rfl rfl) rfl (lv_at hl 0 rfl) ?_
  obtain ⟨g1, hf⟩ := gif hf
  refine zget (ci := 12) (C := RX12) (T := TX12) (v := va_rf (zrf ad 0 (F 12 l0 2))) (k := 2) hx hb hts inW_12 hown hK hZ g1.1 g1.2 rfl (by decide) k_2_129 rfl (D_180 W_prog_1_method_23_code_0 1 rfl rfl rfl) ?_
  obtain ⟨g2, hf⟩ := gif hf
  refine zunrf g2.1 ?_
  refine zget (ci := 0) (C := RX0) (T := TX0) (v := .int (iI (F 0 (F 12 l0 2) 1))) (k := 1) hx hb hts inW_0 hown hK hZ g2.1 g2.2 rfl (by decide) k_1_46 rfl (D_180 W_prog_1_method_23_code_0 4 rfl rfl rfl) ?_
  obtain ⟨g3, hf⟩ := gif hf
  refine z0eq (tgt := 23) hx hb g3 (D_153 W_prog_1_method_23_code_0 7 rfl rfl rfl) (by decide) (fun h4 => ?_) (fun h4 => ?_)
  · replace hf := gpos hf h4
    exact b_S_again_23 X hf hZ hS (lv_sub hl [] rfl)
  · replace hf := gneg hf h4
    refine lv_aload_n hx hb (D_42 W_prog_1_method_23_code_0 10 rfl rfl) rfl (lv_at hl 0 rfl) ?_
    refine zget (ci := 12) (C := RX12) (T := TX12) (v := va_rf (zrf ad 0 (F 12 l0 2))) (k := 2) hx hb hts inW_12 hown hK hZ g1.1 g1.2 rfl (by decide) k_2_129 rfl (D_180 W_prog_1_method_23_code_0 11 rfl rfl rfl) ?_
    refine zunrf g2.1 ?_
    refine zget (ci := 0) (C := RX0) (T := TX0) (v := .int (iI (F 0 (F 12 l0 2) 1))) (k := 1) hx hb hts inW_0 hown hK hZ g2.1 g2.2 rfl (by decide) k_1_46 rfl (D_180 W_prog_1_method_23_code_0 14 rfl rfl rfl) ?_
    refine lv_sipush (v := iI 3000) hx hb (D_17 W_prog_1_method_23_code_0 17 rfl rfl rfl) (by decide) ?_
    refine zle (tgt := 25) hx hb g3 (by decide) (D_164 W_prog_1_method_23_code_0 20 rfl rfl rfl) (by decide) (fun h5 => ?_) (fun h5 => ?_)
    · replace hf := gpos hf h5
      refine lv_aload_n hx hb (D_42 W_prog_1_method_23_code_0 25 rfl rfl) rfl (lv_at hl 0 rfl) ?_
      refine zget (ci := 12) (C := RX12) (T := TX12) (v := va_rf (zrf ad 0 (F 12 l0 0))) (k := 0) hx hb hts inW_12 hown hK hZ g1.1 g1.2 rfl (by decide) k_2_127 rfl (D_180 W_prog_1_method_23_code_0 26 rfl rfl rfl) ?_
      obtain ⟨g6, hf⟩ := gif hf
      refine W.eq (g2 := F0 m 29 ls [.ref (ad 0 (F 12 l0 0) 0)]) (by rw [zrf_pos (ad := ad) (t := 0) g6.1]; try rfl) ?_
      obtain ⟨r7, F7, B7, hc7, hf⟩ := gbind hf
      refine va_callv (va_runV (As := []) (rest := []) ⟨hx, hb, hml, hown, hts⟩ (c_ByteRow_clear (l := l) hc7) (cwV 0 hts (gdV k_5_166 k_5_167 k_5_168 k_1_2 k_5_169) rfl rfl rfl (by decide +kernel) ⟨Nat.le_of_ble_eq_true rfl, Nat.le_of_ble_eq_true rfl⟩) (zPV X hZ hS (ci := 0) g6.1 g6.2 (r := (RX0, TX0, 3)) rfl []) rfl rfl hl.1 rfl (lv_room (Nat.le_of_ble_eq_true rfl)) (D_182 W_prog_1_method_23_code_0 29 rfl rfl rfl) ⟨Nat.le_of_ble_eq_true rfl, Nat.le_of_ble_eq_true rfl⟩) hS (fun q _ h => zAin X hS q h) (zAin X hS) (fun u7 t7 H7 locs7 ht7 hv7 hw7 hB7 hz7 hk7 hS7 => ?_)
      have hZ7 := zBack X ht7 hB7
      refine lv_iconst (v := iI 0) hx hb (D_3 W_prog_1_method_23_code_32 0 rfl rfl) rfl ?_
      refine lv_istore_n (lv' := [(1, .int (iI 0)), (0, .ref (ad 12 l0 0))]) hx hb (D_60 W_prog_1_method_23_code_32 1 rfl rfl) rfl hl (by decide) rfl (fun ls hl => ?_)
      exact b_S_again_34 X hf hZ7 hS7 (lv_sub hl [0, 1] rfl)
    · replace hf := gneg hf h5
      exact b_S_again_23 X hf hZ hS (lv_sub hl [] rfl)

abbrev Q_SoundFile_setDefaults (K : zK) (D : va_G) (ca : Nat → ClassId) (ad : Nat → Int → Nat → Nat) (L : List Nat) (r : Int) (F : zF) (B : zB) (A : Nat → Prop) : Array Value → State → Outcome → State → Prop := va_Qv (S := Unit) (fun _ => True) (fun _ => zPo D ca ad lnC K.2 L F B A) A
def f_SoundFile_setDefaults_68 (K : zK) : Nat → Int → Int → zF → zB → zO
  | 0, _, _, _, _ => none
  | n + 1, l1, l0, F, B => if r32 l1 then (if 8 ≤ l1 then some (0, F, B) else if 0 ≤ l0 ∧ l0 < K.2 8 then if 0 ≤ l1 ∧ l1 < 8 then f_SoundFile_setDefaults_68 K n (l1 + 1) l0 F (zup4 B 8 l0 3 l1 (-1)) else none else none) else none
set_option maxHeartbeats 4000000 in
set_option maxRecDepth 100000 in
theorem b_SoundFile_setDefaults_68 {D : va_G} {ca : Nat → ClassId} {ad : Nat → Int → Nat → Nat} {L : List Nat} {aS vS : Nat → Nat} {A : Nat → Prop} {p : Program} {l : Launch} {e : Env} {s : State} {m : MethodId} {args : Array Value} {below : List Frame} {meth : Method} {c : Code} {K : zK} {r : Int} {F9 : zF} {B9 : zB} (X : zX D ca L aS vS A p s m args meth c prog_10_method_3_code 2 (Option.none : Option Jvm.ClassFile.FieldType) "StaveHouse$SoundFile") : ∀ {n : Nat} {l1 : Int} {l0 : Int} {F : zF} {B : zB} {H : Heap} {locs : List Loc} {ls : Array Slot}, f_SoundFile_setDefaults_68 K n l1 l0 F B = some (r, F9, B9) → zH D ca ad lnC K.2 L F B A H → va_S A s.heap H locs → lv_has ls 2 [(1, .int (iI l1)), (0, .ref (ad 8 l0 0))] → W p l e ({ frames := 0, cells := 0, slots := 0, locals := 0 } : Room) s m args below meth c H locs 0 0 (MQ below (Q_SoundFile_setDefaults K D ca ad L r F9 B9 A) args s 0 0 A) (F0 m 68 ls []) := by
  obtain ⟨hx, hb, hr, hml, hown, hts, hlk, hK, hA, hL, hX⟩ := id X
  intro n
  induction n with
  | zero =>
    intros
    rename_i hf _ _ _
    cases hf
  | succ n ih =>
    intro l1 l0 F B H locs ls hf hZ hS hl
    replace hf : (if r32 l1 then (if 8 ≤ l1 then some (0, F, B) else if 0 ≤ l0 ∧ l0 < K.2 8 then if 0 ≤ l1 ∧ l1 < 8 then f_SoundFile_setDefaults_68 K n (l1 + 1) l0 F (zup4 B 8 l0 3 l1 (-1)) else none else none) else none) = some (r, F9, B9) := hf
    refine lv_iload_n hx hb (D_27 W_prog_10_method_3_code_64 4 rfl rfl) rfl (lv_at hl 0 rfl) ?_
    refine lv_bipush (v := iI 8) hx hb (D_16 W_prog_10_method_3_code_64 5 rfl rfl rfl) (by decide) ?_
    obtain ⟨g12, hf⟩ := gif hf
    refine zge (tgt := 87) hx hb g12 (by decide) (D_162 W_prog_10_method_3_code_64 7 rfl rfl rfl) (by decide) (fun h13 => ?_) (fun h13 => ?_)
    · replace hf := gpos hf h13
      cases hf
      exact W.vret hx hb hr (fun t ht hW => ⟨⟨(), rfl, trivial, by rw [ht]; exact hZ, va_K.moved hW.alike hK⟩, hS.F ht⟩) hS.2.2 (D_177 W_prog_10_method_3_code_64 23 rfl rfl) hlk
    · replace hf := gneg hf h13
      refine lv_aload_n hx hb (D_42 W_prog_10_method_3_code_64 10 rfl rfl) rfl (lv_at hl 1 rfl) ?_
      obtain ⟨g14, hf⟩ := gif hf
      refine zget (ci := 8) (C := RX8) (T := TX8) (v := .ref (ad 8 l0 (3 + 1))) (k := 3) hx hb hts inW_8 hown hK hZ g14.1 g14.2 rfl (by decide) k_7_226 rfl (D_180 W_prog_10_method_3_code_64 11 rfl rfl rfl) ?_
      refine lv_iload_n hx hb (D_27 W_prog_10_method_3_code_64 14 rfl rfl) rfl (lv_at hl 0 rfl) ?_
      refine lv_iconst (v := iI (-1)) hx hb (D_2 W_prog_10_method_3_code_64 15 rfl rfl) rfl ?_
      obtain ⟨g15, hf⟩ := gif hf
      refine zast (ci := 8) (k := 3) hx hb hK rfl hZ hS g14.1 g14.2 rfl (Nat.le_of_ble_eq_true rfl) g15.1 g15.2 (D_79 W_prog_10_method_3_code_64 16 rfl rfl) (fun H16 locs16 hZ16 hS16 => ?_)
      refine lv_iinc (v := iI (l1 + 1)) (lv' := [(1, .int (iI (l1 + 1))), (0, .ref (ad 8 l0 0))]) hx hb d_10_3_81 hl (k := 0) rfl (iI_add _ 1) (by decide) rfl (fun ls hl => ?_)
      refine lv_goto (tgt := 68) hx hb (D_167 W_prog_10_method_3_code_64 20 rfl rfl rfl) (by decide) ?_
      exact ih hf hZ16 hS16 (lv_sub hl [0, 1] rfl)

def f_SoundFile_setDefaults (K : zK) (l0 : Int) (F : zF) (B : zB) : zO := if 0 ≤ l0 ∧ l0 < K.2 8 then f_SoundFile_setDefaults_68 K K.1 0 l0 (zup3 (zup3 (zup3 F 8 l0 12 0) 8 l0 13 0) 8 l0 14 0) (zup4 (zup4 (zup4 (zup4 (zup4 (zup4 (zup4 B 8 l0 0 0 0) 8 l0 0 1 0) 8 l0 0 2 0) 8 l0 0 3 0) 8 l0 0 4 4) 8 l0 0 5 4) 8 l0 0 6 120) else none
set_option maxHeartbeats 4000000 in
set_option maxRecDepth 100000 in
theorem c_SoundFile_setDefaults {l : Launch} {D : va_G} {ca : Nat → ClassId} {ad : Nat → Int → Nat → Nat} {L : List Nat} {aS vS : Nat → Nat} {sz : Nat} {K : zK}  {l0 : Int} {F F9 : zF} {B B9 : zB} {r : Int} (hf : f_SoundFile_setDefaults K l0 F B = some (r, F9, B9)) : Met l ({ cls := "StaveHouse$SoundFile", name := "setDefaults", desc := "()V" } : Jvm.MethodName) (Cond.code ({ cls := "StaveHouse$SoundFile", name := "setDefaults", desc := "()V" } : Jvm.MethodName) prog_10_method_3_code 2 (Option.none : Option Jvm.ClassFile.FieldType) :: wAll) ({ frames := 0, cells := 0, slots := 0, locals := 0 } : Room) (va_Pc [.ref (ad 8 l0 0)] (zPre D ca ad lnC K.2 L aS vS F B sz)) (Q_SoundFile_setDefaults K D ca ad L r F9 B9 (zA L sz)) 0 0 (zA L sz) := by
  refine zMet (Qc := Q_SoundFile_setDefaults K D ca ad L r F9 B9) (lv := [(0, .ref (ad 8 l0 0))]) (by decide) (Nat.le_of_ble_eq_true rfl) rfl (fun A p e s m below meth c ls X hZ hS hl => ?_)
  obtain ⟨hx, hb, hr, hml, hown, hts, hlk, hK, hA, hL, hX⟩ := id X
  replace hf : (if 0 ≤ l0 ∧ l0 < K.2 8 then f_SoundFile_setDefaults_68 K K.1 0 l0 (zup3 (zup3 (zup3 F 8 l0 12 0) 8 l0 13 0) 8 l0 14 0) (zup4 (zup4 (zup4 (zup4 (zup4 (zup4 (zup4 B 8 l0 0 0 0) 8 l0 0 1 0) 8 l0 0 2 0) 8 l0 0 3 0) 8 l0 0 4 4) 8 l0 0 5 4) 8 l0 0 6 120) else none) = some (r, F9, B9) := hf
  refine lv_aload_n hx hb (D_42 W_prog_10_method_3_code_0 0 rfl rfl) rfl (lv_at hl 0 rfl) ?_
  obtain ⟨g1, hf⟩ := gif hf
  refine zget (ci := 8) (C := RX8) (T := TX8) (v := .ref (ad 8 l0 (0 + 1))) (k := 0) hx hb hts inW_8 hown hK hZ g1.1 g1.2 rfl (by decide) k_7_217 rfl (D_180 W_prog_10_method_3_code_0 1 rfl rfl rfl) ?_
  refine lv_iconst (v := iI 0) hx hb (D_3 W_prog_10_method_3_code_0 4 rfl rfl) rfl ?_
  refine lv_iconst (v := iI 0) hx hb (D_3 W_prog_10_method_3_code_0 5 rfl rfl) rfl ?_
  refine zast (ci := 8) (k := 0) hx hb hK rfl hZ hS g1.1 g1.2 rfl (Nat.le_of_ble_eq_true rfl) (by decide) (show (0 : Int) < 7 by decide) (D_79 W_prog_10_method_3_code_0 6 rfl rfl) (fun H2 locs2 hZ2 hS2 => ?_)
  refine lv_aload_n hx hb (D_42 W_prog_10_method_3_code_0 7 rfl rfl) rfl (lv_at hl 0 rfl) ?_
  refine zget (ci := 8) (C := RX8) (T := TX8) (v := .ref (ad 8 l0 (0 + 1))) (k := 0) hx hb hts inW_8 hown hK hZ2 g1.1 g1.2 rfl (by decide) k_7_217 rfl (D_180 W_prog_10_method_3_code_0 8 rfl rfl rfl) ?_
  refine lv_iconst (v := iI 1) hx hb (D_4 W_prog_10_method_3_code_0 11 rfl rfl) rfl ?_
  refine lv_iconst (v := iI 0) hx hb (D_3 W_prog_10_method_3_code_0 12 rfl rfl) rfl ?_
  refine zast (ci := 8) (k := 0) hx hb hK rfl hZ2 hS2 g1.1 g1.2 rfl (Nat.le_of_ble_eq_true rfl) (by decide) (show (1 : Int) < 7 by decide) (D_79 W_prog_10_method_3_code_0 13 rfl rfl) (fun H3 locs3 hZ3 hS3 => ?_)
  refine lv_aload_n hx hb (D_42 W_prog_10_method_3_code_0 14 rfl rfl) rfl (lv_at hl 0 rfl) ?_
  refine zget (ci := 8) (C := RX8) (T := TX8) (v := .ref (ad 8 l0 (0 + 1))) (k := 0) hx hb hts inW_8 hown hK hZ3 g1.1 g1.2 rfl (by decide) k_7_217 rfl (D_180 W_prog_10_method_3_code_0 15 rfl rfl rfl) ?_
  refine lv_iconst (v := iI 2) hx hb (D_5 W_prog_10_method_3_code_0 18 rfl rfl) rfl ?_
  refine lv_iconst (v := iI 0) hx hb (D_3 W_prog_10_method_3_code_0 19 rfl rfl) rfl ?_
  refine zast (ci := 8) (k := 0) hx hb hK rfl hZ3 hS3 g1.1 g1.2 rfl (Nat.le_of_ble_eq_true rfl) (by decide) (show (2 : Int) < 7 by decide) (D_79 W_prog_10_method_3_code_0 20 rfl rfl) (fun H4 locs4 hZ4 hS4 => ?_)
  refine lv_aload_n hx hb (D_42 W_prog_10_method_3_code_0 21 rfl rfl) rfl (lv_at hl 0 rfl) ?_
  refine zget (ci := 8) (C := RX8) (T := TX8) (v := .ref (ad 8 l0 (0 + 1))) (k := 0) hx hb hts inW_8 hown hK hZ4 g1.1 g1.2 rfl (by decide) k_7_217 rfl (D_180 W_prog_10_method_3_code_0 22 rfl rfl rfl) ?_
  refine lv_iconst (v := iI 3) hx hb (D_6 W_prog_10_method_3_code_0 25 rfl rfl) rfl ?_
  refine lv_iconst (v := iI 0) hx hb (D_3 W_prog_10_method_3_code_0 26 rfl rfl) rfl ?_
  refine zast (ci := 8) (k := 0) hx hb hK rfl hZ4 hS4 g1.1 g1.2 rfl (Nat.le_of_ble_eq_true rfl) (by decide) (show (3 : Int) < 7 by decide) (D_79 W_prog_10_method_3_code_0 27 rfl rfl) (fun H5 locs5 hZ5 hS5 => ?_)
  refine lv_aload_n hx hb (D_42 W_prog_10_method_3_code_0 28 rfl rfl) rfl (lv_at hl 0 rfl) ?_
  refine zget (ci := 8) (C := RX8) (T := TX8) (v := .ref (ad 8 l0 (0 + 1))) (k := 0) hx hb hts inW_8 hown hK hZ5 g1.1 g1.2 rfl (by decide) k_7_217 rfl (D_180 W_prog_10_method_3_code_0 29 rfl rfl rfl) ?_
  refine lv_iconst (v := iI 4) hx hb (D_7 W_prog_10_method_3_code_32 0 rfl rfl) rfl ?_
  refine lv_iconst (v := iI 4) hx hb (D_7 W_prog_10_method_3_code_32 1 rfl rfl) rfl ?_
  refine zast (ci := 8) (k := 0) hx hb hK rfl hZ5 hS5 g1.1 g1.2 rfl (Nat.le_of_ble_eq_true rfl) (by decide) (show (4 : Int) < 7 by decide) (D_79 W_prog_10_method_3_code_32 2 rfl rfl) (fun H6 locs6 hZ6 hS6 => ?_)
  refine lv_aload_n hx hb (D_42 W_prog_10_method_3_code_32 3 rfl rfl) rfl (lv_at hl 0 rfl) ?_
  refine zget (ci := 8) (C := RX8) (T := TX8) (v := .ref (ad 8 l0 (0 + 1))) (k := 0) hx hb hts inW_8 hown hK hZ6 g1.1 g1.2 rfl (by decide) k_7_217 rfl (D_180 W_prog_10_method_3_code_32 4 rfl rfl rfl) ?_
  refine lv_iconst (v := iI 5) hx hb (D_8 W_prog_10_method_3_code_32 7 rfl rfl) rfl ?_
  refine lv_iconst (v := iI 4) hx hb (D_7 W_prog_10_method_3_code_32 8 rfl rfl) rfl ?_
  refine zast (ci := 8) (k := 0) hx hb hK rfl hZ6 hS6 g1.1 g1.2 rfl (Nat.le_of_ble_eq_true rfl) (by decide) (show (5 : Int) < 7 by decide) (D_79 W_prog_10_method_3_code_32 9 rfl rfl) (fun H7 locs7 hZ7 hS7 => ?_)
  refine lv_aload_n hx hb (D_42 W_prog_10_method_3_code_32 10 rfl rfl) rfl (lv_at hl 0 rfl) ?_
  refine zget (ci := 8) (C := RX8) (T := TX8) (v := .ref (ad 8 l0 (0 + 1))) (k := 0) hx hb hts inW_8 hown hK hZ7 g1.1 g1.2 rfl (by decide) k_7_217 rfl (D_180 W_prog_10_method_3_code_32 11 rfl rfl rfl) ?_
  refine lv_bipush (v := iI 6) hx hb (D_16 W_prog_10_method_3_code_32 14 rfl rfl rfl) (by decide) ?_
  refine lv_bipush (v := iI 120) hx hb (D_16 W_prog_10_method_3_code_32 16 rfl rfl rfl) (by decide) ?_
  refine zast (ci := 8) (k := 0) hx hb hK rfl hZ7 hS7 g1.1 g1.2 rfl (Nat.le_of_ble_eq_true rfl) (by decide) (show (6 : Int) < 7 by decide) (D_79 W_prog_10_method_3_code_32 18 rfl rfl) (fun H8 locs8 hZ8 hS8 => ?_)
  refine lv_aload_n hx hb (D_42 W_prog_10_method_3_code_32 19 rfl rfl) rfl (lv_at hl 0 rfl) ?_
  refine lv_iconst (v := iI 0) hx hb (D_3 W_prog_10_method_3_code_32 20 rfl rfl) rfl ?_
  refine zput (ci := 8) (C := RX8) (T := TX8) (k := 12) (v := 0) (w := .int (iI 0)) hx hb hts inW_8 tyX8 tyX8_ok nmX8 hown hK hZ8 hS8 g1.1 g1.2 rfl (by decide) k_7_236 rfl (fun G h => congrArg (fun q => Value.int (iI q)) h) rfl rfl (zno (by decide)) (D_181 W_prog_10_method_3_code_32 21 rfl rfl rfl) (fun H9 locs9 hZ9 hS9 => ?_)
  refine lv_aload_n hx hb (D_42 W_prog_10_method_3_code_32 24 rfl rfl) rfl (lv_at hl 0 rfl) ?_
  refine lv_iconst (v := iI 0) hx hb (D_3 W_prog_10_method_3_code_32 25 rfl rfl) rfl ?_
  refine zput (ci := 8) (C := RX8) (T := TX8) (k := 13) (v := 0) (w := .int (iI 0)) hx hb hts inW_8 tyX8 tyX8_ok nmX8 hown hK hZ9 hS9 g1.1 g1.2 rfl (by decide) k_7_237 rfl (fun G h => congrArg (fun q => Value.int (iI q)) h) rfl rfl (zno (by decide)) (D_181 W_prog_10_method_3_code_32 26 rfl rfl rfl) (fun H10 locs10 hZ10 hS10 => ?_)
  refine lv_aload_n hx hb (D_42 W_prog_10_method_3_code_32 29 rfl rfl) rfl (lv_at hl 0 rfl) ?_
  refine lv_iconst (v := iI 0) hx hb (D_3 W_prog_10_method_3_code_32 30 rfl rfl) rfl ?_
  refine zput (ci := 8) (C := RX8) (T := TX8) (k := 14) (v := 0) (w := .int (iI 0)) hx hb hts inW_8 tyX8 tyX8_ok nmX8 hown hK hZ10 hS10 g1.1 g1.2 rfl (by decide) k_7_238 rfl (fun G h => congrArg (fun q => Value.int (iI q)) h) rfl rfl (zno (by decide)) (D_181 W_prog_10_method_3_code_32 31 rfl rfl rfl) (fun H11 locs11 hZ11 hS11 => ?_)
  refine lv_iconst (v := iI 0) hx hb (D_3 W_prog_10_method_3_code_64 2 rfl rfl) rfl ?_
  refine lv_istore_n (lv' := [(1, .int (iI 0)), (0, .ref (ad 8 l0 0))]) hx hb (D_60 W_prog_10_method_3_code_64 3 rfl rfl) rfl hl (by decide) rfl (fun ls hl => ?_)
  exact b_SoundFile_setDefaults_68 X hf hZ11 hS11 (lv_sub hl [0, 1] rfl)

abbrev Q_SoundFile_refuse (K : zK) (D : va_G) (ca : Nat → ClassId) (ad : Nat → Int → Nat → Nat) (L : List Nat) (r : Int) (F : zF) (B : zB) (A : Nat → Prop) : Array Value → State → Outcome → State → Prop := va_Qv (S := Unit) (fun _ => True) (fun _ => zPo D ca ad lnC K.2 L F B A) A
def f_SoundFile_refuse_17 (K : zK)  (F : zF) (B : zB) : zO := some (0, F, B)
set_option maxHeartbeats 4000000 in
set_option maxRecDepth 100000 in
theorem b_SoundFile_refuse_17 {D : va_G} {ca : Nat → ClassId} {ad : Nat → Int → Nat → Nat} {L : List Nat} {aS vS : Nat → Nat} {A : Nat → Prop} {p : Program} {l : Launch} {e : Env} {s : State} {m : MethodId} {args : Array Value} {below : List Frame} {meth : Method} {c : Code} {K : zK} {r : Int} {F9 : zF} {B9 : zB} (X : zX D ca L aS vS A p s m args meth c prog_10_method_4_code 3 (Option.none : Option Jvm.ClassFile.FieldType) "StaveHouse$SoundFile")  {F : zF} {B : zB} {H : Heap} {locs : List Loc} {ls : Array Slot} (hf : f_SoundFile_refuse_17 K  F B = some (r, F9, B9)) (hZ : zH D ca ad lnC K.2 L F B A H) (hS : va_S A s.heap H locs) (hl : lv_has ls 3 []) : W p l e ({ frames := 0, cells := 0, slots := 0, locals := 0 } : Room) s m args below meth c H locs 0 0 (MQ below (Q_SoundFile_refuse K D ca ad L r F9 B9 A) args s 0 0 A) (F0 m 17 ls []) := by
  obtain ⟨hx, hb, hr, hml, hown, hts, hlk, hK, hA, hL, hX⟩ := id X
  replace hf : (some (0, F, B)) = some (r, F9, B9) := hf
  cases hf
  exact W.vret hx hb hr (fun t ht hW => ⟨⟨(), rfl, trivial, by rw [ht]; exact hZ, va_K.moved hW.alike hK⟩, hS.F ht⟩) hS.2.2 (D_177 W_prog_10_method_4_code_0 17 rfl rfl) hlk

def f_SoundFile_refuse (K : zK) (l0 : Int) (l1 : Int) (l2 : Int) (F : zF) (B : zB) : zO := if 0 ≤ l0 ∧ l0 < K.2 8 then if r32 (F 8 l0 7) then (if (F 8 l0 7) = 0 then f_SoundFile_refuse_17 K (zup3 F 8 l0 7 (l1 + (16 * l2))) B else f_SoundFile_refuse_17 K F B) else none else none
set_option maxHeartbeats 4000000 in
set_option maxRecDepth 100000 in
theorem c_SoundFile_refuse {l : Launch} {D : va_G} {ca : Nat → ClassId} {ad : Nat → Int → Nat → Nat} {L : List Nat} {aS vS : Nat → Nat} {sz : Nat} {K : zK}  {l0 : Int} {l1 : Int} {l2 : Int} {F F9 : zF} {B B9 : zB} {r : Int} (hf : f_SoundFile_refuse K l0 l1 l2 F B = some (r, F9, B9)) : Met l ({ cls := "StaveHouse$SoundFile", name := "refuse", desc := "(II)V" } : Jvm.MethodName) (Cond.code ({ cls := "StaveHouse$SoundFile", name := "refuse", desc := "(II)V" } : Jvm.MethodName) prog_10_method_4_code 3 (Option.none : Option Jvm.ClassFile.FieldType) :: wAll) ({ frames := 0, cells := 0, slots := 0, locals := 0 } : Room) (va_Pc [.ref (ad 8 l0 0), .int (iI l1), .int (iI l2)] (zPre D ca ad lnC K.2 L aS vS F B sz)) (Q_SoundFile_refuse K D ca ad L r F9 B9 (zA L sz)) 0 0 (zA L sz) := by
  refine zMet (Qc := Q_SoundFile_refuse K D ca ad L r F9 B9) (lv := [(0, .ref (ad 8 l0 0)), (1, .int (iI l1)), (2, .int (iI l2))]) (by decide) (Nat.le_of_ble_eq_true rfl) rfl (fun A p e s m below meth c ls X hZ hS hl => ?_)
  obtain ⟨hx, hb, hr, hml, hown, hts, hlk, hK, hA, hL, hX⟩ := id X
  replace hf : (if 0 ≤ l0 ∧ l0 < K.2 8 then if r32 (F 8 l0 7) then (if (F 8 l0 7) = 0 then f_SoundFile_refuse_17 K (zup3 F 8 l0 7 (l1 + (16 * l2))) B else f_SoundFile_refuse_17 K F B) else none else none) = some (r, F9, B9) := hf
  refine lv_aload_n hx hb (D_42 W_prog_10_method_4_code_0 0 rfl rfl) rfl (lv_at hl 0 rfl) ?_
  obtain ⟨g1, hf⟩ := gif hf
  refine zget (ci := 8) (C := RX8) (T := TX8) (v := .int (iI (F 8 l0 7))) (k := 7) hx hb hts inW_8 hown hK hZ g1.1 g1.2 rfl (by decide) k_7_231 rfl (D_180 W_prog_10_method_4_code_0 1 rfl rfl rfl) ?_
  obtain ⟨g2, hf⟩ := gif hf
  refine z0ne (tgt := 17) hx hb g2 (D_154 W_prog_10_method_4_code_0 4 rfl rfl rfl) (by decide) (fun h3 => ?_) (fun h3 => ?_)
  · replace hf := gneg hf h3
    exact b_SoundFile_refuse_17 X hf hZ hS (lv_sub hl [] rfl)
  · replace hf := gpos hf h3
    refine lv_aload_n hx hb (D_42 W_prog_10_method_4_code_0 7 rfl rfl) rfl (lv_at hl 0 rfl) ?_
    refine lv_iload_n hx hb (D_27 W_prog_10_method_4_code_0 8 rfl rfl) rfl (lv_at hl 1 rfl) ?_
    refine lv_bipush (v := iI 16) hx hb (D_16 W_prog_10_method_4_code_0 9 rfl rfl rfl) (by decide) ?_
    refine lv_iload_n hx hb (D_28 W_prog_10_method_4_code_0 11 rfl rfl) rfl (lv_at hl 2 rfl) ?_
    refine zmul hx hb (D_104 W_prog_10_method_4_code_0 12 rfl rfl) ?_
    refine zadd hx hb (D_96 W_prog_10_method_4_code_0 13 rfl rfl) ?_
    refine zput (ci := 8) (C := RX8) (T := TX8) (k := 7) (v := (l1 + (16 * l2))) (w := .int (iI (l1 + (16 * l2)))) hx hb hts inW_8 tyX8 tyX8_ok nmX8 hown hK hZ hS g1.1 g1.2 rfl (by decide) k_7_231 rfl (fun G h => congrArg (fun q => Value.int (iI q)) h) rfl rfl (zno (by decide)) (D_181 W_prog_10_method_4_code_0 14 rfl rfl rfl) (fun H4 locs4 hZ4 hS4 => ?_)
    exact b_SoundFile_refuse_17 X hf hZ4 hS4 (lv_sub hl [] rfl)

abbrev Q_SoundFile_skip (K : zK) (D : va_G) (ca : Nat → ClassId) (ad : Nat → Int → Nat → Nat) (L : List Nat) (r : Int) (F : zF) (B : zB) (A : Nat → Prop) : Array Value → State → Outcome → State → Prop := va_Qv (S := Unit) (fun _ => True) (fun _ => zPo D ca ad lnC K.2 L F B A) A
def f_SoundFile_skip_46 (K : zK)  (F : zF) (B : zB) : zO := some (0, F, B)
set_option maxHeartbeats 4000000 in
set_option maxRecDepth 100000 in
theorem b_SoundFile_skip_46 {D : va_G} {ca : Nat → ClassId} {ad : Nat → Int → Nat → Nat} {L : List Nat} {aS vS : Nat → Nat} {A : Nat → Prop} {p : Program} {l : Launch} {e : Env} {s : State} {m : MethodId} {args : Array Value} {below : List Frame} {meth : Method} {c : Code} {K : zK} {r : Int} {F9 : zF} {B9 : zB} (X : zX D ca L aS vS A p s m args meth c prog_10_method_11_code 3 (Option.none : Option Jvm.ClassFile.FieldType) "StaveHouse$SoundFile")  {F : zF} {B : zB} {H : Heap} {locs : List Loc} {ls : Array Slot} (hf : f_SoundFile_skip_46 K  F B = some (r, F9, B9)) (hZ : zH D ca ad lnC K.2 L F B A H) (hS : va_S A s.heap H locs) (hl : lv_has ls 3 []) : W p l e ({ frames := 1, cells := 0, slots := 0, locals := 22 } : Room) s m args below meth c H locs 0 0 (MQ below (Q_SoundFile_skip K D ca ad L r F9 B9 A) args s 0 0 A) (F0 m 46 ls []) := by
  obtain ⟨hx, hb, hr, hml, hown, hts, hlk, hK, hA, hL, hX⟩ := id X
  replace hf : (some (0, F, B)) = some (r, F9, B9) := hf
  cases hf
  exact W.vret hx hb hr (fun t ht hW => ⟨⟨(), rfl, trivial, by rw [ht]; exact hZ, va_K.moved hW.alike hK⟩, hS.F ht⟩) hS.2.2 (D_177 W_prog_10_method_11_code_32 14 rfl rfl) hlk

def f_SoundFile_skip (K : zK) (l0 : Int) (l1 : Int) (F : zF) (B : zB) : zO := if 0 ≤ l0 ∧ l0 < K.2 8 then if r32 (F 8 l0 5) then if r32 (F 8 l0 6) then if r64 ((F 8 l0 5) + l1) then if r64 (F 8 l0 6) then (if (zcmp ((F 8 l0 5) + l1) (F 8 l0 6)) ≤ 0 then if r32 (F 8 l0 7) then (if (F 8 l0 7) = 0 then f_SoundFile_skip_46 K (zup3 F 8 l0 5 ((F 8 l0 5) + l1)) B else f_SoundFile_skip_46 K F B) else none else zbind (f_SoundFile_refuse K l0 2 (F 8 l0 6) F B) (fun r10 F10 B10 => f_SoundFile_skip_46 K F10 B10)) else none else none else none else none else none
set_option maxHeartbeats 4000000 in
set_option maxRecDepth 100000 in
theorem c_SoundFile_skip {l : Launch} {D : va_G} {ca : Nat → ClassId} {ad : Nat → Int → Nat → Nat} {L : List Nat} {aS vS : Nat → Nat} {sz : Nat} {K : zK}  {l0 : Int} {l1 : Int} {F F9 : zF} {B B9 : zB} {r : Int} (hf : f_SoundFile_skip K l0 l1 F B = some (r, F9, B9)) : Met l ({ cls := "StaveHouse$SoundFile", name := "skip", desc := "(J)V" } : Jvm.MethodName) (Cond.code ({ cls := "StaveHouse$SoundFile", name := "skip", desc := "(J)V" } : Jvm.MethodName) prog_10_method_11_code 3 (Option.none : Option Jvm.ClassFile.FieldType) :: wAll) ({ frames := 1, cells := 0, slots := 0, locals := 22 } : Room) (va_Pc [.ref (ad 8 l0 0), .long (lI l1)] (zPre D ca ad lnC K.2 L aS vS F B sz)) (Q_SoundFile_skip K D ca ad L r F9 B9 (zA L sz)) 0 0 (zA L sz) := by
  refine zMet (Qc := Q_SoundFile_skip K D ca ad L r F9 B9) (lv := [(0, .ref (ad 8 l0 0)), (1, .long (lI l1))]) (by decide) (Nat.le_of_ble_eq_true rfl) rfl (fun A p e s m below meth c ls X hZ hS hl => ?_)
  obtain ⟨hx, hb, hr, hml, hown, hts, hlk, hK, hA, hL, hX⟩ := id X
  replace hf : (if 0 ≤ l0 ∧ l0 < K.2 8 then if r32 (F 8 l0 5) then if r32 (F 8 l0 6) then if r64 ((F 8 l0 5) + l1) then if r64 (F 8 l0 6) then (if (zcmp ((F 8 l0 5) + l1) (F 8 l0 6)) ≤ 0 then if r32 (F 8 l0 7) then (if (F 8 l0 7) = 0 then f_SoundFile_skip_46 K (zup3 F 8 l0 5 ((F 8 l0 5) + l1)) B else f_SoundFile_skip_46 K F B) else none else zbind (f_SoundFile_refuse K l0 2 (F 8 l0 6) F B) (fun r10 F10 B10 => f_SoundFile_skip_46 K F10 B10)) else none else none else none else none else none) = some (r, F9, B9) := hf
  refine lv_aload_n hx hb (D_42 W_prog_10_method_11_code_0 0 rfl rfl) rfl (lv_at hl 0 rfl) ?_
  obtain ⟨g1, hf⟩ := gif hf
  refine zget (ci := 8) (C := RX8) (T := TX8) (v := .int (iI (F 8 l0 5))) (k := 5) hx hb hts inW_8 hown hK hZ g1.1 g1.2 rfl (by decide) k_7_229 rfl (D_180 W_prog_10_method_11_code_0 1 rfl rfl rfl) ?_
  obtain ⟨g2, hf⟩ := gif hf
  refine zi2l hx hb g2 (D_133 W_prog_10_method_11_code_0 4 rfl rfl) ?_
  refine lv_lload_n hx hb (D_31 W_prog_10_method_11_code_0 5 rfl rfl) rfl (lv_at hl 1 rfl) ?_
  refine zladd hx hb (D_97 W_prog_10_method_11_code_0 6 rfl rfl) ?_
  refine lv_aload_n hx hb (D_42 W_prog_10_method_11_code_0 7 rfl rfl) rfl (lv_at hl 0 rfl) ?_
  refine zget (ci := 8) (C := RX8) (T := TX8) (v := .int (iI (F 8 l0 6))) (k := 6) hx hb hts inW_8 hown hK hZ g1.1 g1.2 rfl (by decide) k_7_230 rfl (D_180 W_prog_10_method_11_code_0 8 rfl rfl rfl) ?_
  obtain ⟨g3, hf⟩ := gif hf
  refine zi2l hx hb g3 (D_133 W_prog_10_method_11_code_0 11 rfl rfl) ?_
  obtain ⟨g4, hf⟩ := gif hf
  obtain ⟨g5, hf⟩ := gif hf
  refine zcmp_r hx hb g4 g5 (D_148 W_prog_10_method_11_code_0 12 rfl rfl) ?_
  refine z0le (tgt := 28) hx hb zcmp_32 (D_158 W_prog_10_method_11_code_0 13 rfl rfl rfl) (by decide) (fun h6 => ?_) (fun h6 => ?_)
  · replace hf := gpos hf h6
    refine lv_aload_n hx hb (D_42 W_prog_10_method_11_code_0 28 rfl rfl) rfl (lv_at hl 0 rfl) ?_
    refine zget (ci := 8) (C := RX8) (T := TX8) (v := .int (iI (F 8 l0 7))) (k := 7) hx hb hts inW_8 hown hK hZ g1.1 g1.2 rfl (by decide) k_7_231 rfl (D_180 W_prog_10_method_11_code_0 29 rfl rfl rfl) ?_
    obtain ⟨g7, hf⟩ := gif hf
    refine z0ne (tgt := 46) hx hb g7 (D_154 W_prog_10_method_11_code_32 0 rfl rfl rfl) (by decide) (fun h8 => ?_) (fun h8 => ?_)
    · replace hf := gneg hf h8
      exact b_SoundFile_skip_46 X hf hZ hS (lv_sub hl [] rfl)
    · replace hf := gpos hf h8
      refine lv_aload_n hx hb (D_42 W_prog_10_method_11_code_32 3 rfl rfl) rfl (lv_at hl 0 rfl) ?_
      refine lv_dup hx hb (D_89 W_prog_10_method_11_code_32 4 rfl rfl) rfl ?_
      refine zget (ci := 8) (C := RX8) (T := TX8) (v := .int (iI (F 8 l0 5))) (k := 5) hx hb hts inW_8 hown hK hZ g1.1 g1.2 rfl (by decide) k_7_229 rfl (D_180 W_prog_10_method_11_code_32 5 rfl rfl rfl) ?_
      refine lv_lload_n hx hb (D_31 W_prog_10_method_11_code_32 8 rfl rfl) rfl (lv_at hl 1 rfl) ?_
      refine zl2iw hx hb (D_136 W_prog_10_method_11_code_32 9 rfl rfl) ?_
      refine zadd hx hb (D_96 W_prog_10_method_11_code_32 10 rfl rfl) ?_
      refine zput (ci := 8) (C := RX8) (T := TX8) (k := 5) (v := ((F 8 l0 5) + l1)) (w := .int (iI ((F 8 l0 5) + l1))) hx hb hts inW_8 tyX8 tyX8_ok nmX8 hown hK hZ hS g1.1 g1.2 rfl (by decide) k_7_229 rfl (fun G h => congrArg (fun q => Value.int (iI q)) h) rfl rfl (zno (by decide)) (D_181 W_prog_10_method_11_code_32 11 rfl rfl rfl) (fun H9 locs9 hZ9 hS9 => ?_)
      exact b_SoundFile_skip_46 X hf hZ9 hS9 (lv_sub hl [] rfl)
  · replace hf := gneg hf h6
    refine lv_aload_n hx hb (D_42 W_prog_10_method_11_code_0 16 rfl rfl) rfl (lv_at hl 0 rfl) ?_
    refine lv_iconst (v := iI 2) hx hb (D_5 W_prog_10_method_11_code_0 17 rfl rfl) rfl ?_
    refine lv_aload_n hx hb (D_42 W_prog_10_method_11_code_0 18 rfl rfl) rfl (lv_at hl 0 rfl) ?_
    refine zget (ci := 8) (C := RX8) (T := TX8) (v := .int (iI (F 8 l0 6))) (k := 6) hx hb hts inW_8 hown hK hZ g1.1 g1.2 rfl (by decide) k_7_230 rfl (D_180 W_prog_10_method_11_code_0 19 rfl rfl rfl) ?_
    obtain ⟨r10, F10, B10, hc10, hf⟩ := gbind hf
    refine va_callv (va_runV (As := [.int (iI 2), .int (iI (F 8 l0 6))]) (rest := []) ⟨hx, hb, hml, hown, hts⟩ (c_SoundFile_refuse (l := l) hc10) (cwV 2 hts (gdV k_8_53 k_8_55 ks_96 k_1_23 k_8_56) rfl rfl rfl (by decide +kernel) ⟨Nat.le_of_ble_eq_true rfl, Nat.le_of_ble_eq_true rfl⟩) (zPV X hZ hS (ci := 8) g1.1 g1.2 (r := (RX8, TX8, 15)) rfl [.int (iI 2), .int (iI (F 8 l0 6))]) rfl rfl hl.1 rfl (lv_room (Nat.le_of_ble_eq_true rfl)) (D_182 W_prog_10_method_11_code_0 22 rfl rfl rfl) ⟨Nat.le_of_ble_eq_true rfl, Nat.le_of_ble_eq_true rfl⟩) hS (fun q _ h => zAin X hS q h) (zAin X hS) (fun u10 t10 H10 locs10 ht10 hv10 hw10 hB10 hz10 hk10 hS10 => ?_)
    have hZ10 := zBack X ht10 hB10
    refine lv_goto (tgt := 46) hx hb (D_167 W_prog_10_method_11_code_0 25 rfl rfl rfl) (by decide) ?_
    exact b_SoundFile_skip_46 X hf hZ10 hS10 (lv_sub hl [] rfl)

abbrev Q_SoundFile_tellTime (K : zK) (D : va_G) (ca : Nat → ClassId) (ad : Nat → Int → Nat → Nat) (L : List Nat) (r : Int) (F : zF) (B : zB) (A : Nat → Prop) : Array Value → State → Outcome → State → Prop := va_Qv (S := Unit) (fun _ => True) (fun _ => zPo D ca ad lnC K.2 L F B A) A
def f_SoundFile_tellTime_49 (K : zK)  (F : zF) (B : zB) : zO := some (0, F, B)
set_option maxHeartbeats 4000000 in
set_option maxRecDepth 100000 in
theorem b_SoundFile_tellTime_49 {D : va_G} {ca : Nat → ClassId} {ad : Nat → Int → Nat → Nat} {L : List Nat} {aS vS : Nat → Nat} {A : Nat → Prop} {p : Program} {l : Launch} {e : Env} {s : State} {m : MethodId} {args : Array Value} {below : List Frame} {meth : Method} {c : Code} {K : zK} {r : Int} {F9 : zF} {B9 : zB} (X : zX D ca L aS vS A p s m args meth c prog_10_method_19_code 3 (Option.none : Option Jvm.ClassFile.FieldType) "StaveHouse$SoundFile")  {F : zF} {B : zB} {H : Heap} {locs : List Loc} {ls : Array Slot} (hf : f_SoundFile_tellTime_49 K  F B = some (r, F9, B9)) (hZ : zH D ca ad lnC K.2 L F B A H) (hS : va_S A s.heap H locs) (hl : lv_has ls 3 []) : W p l e ({ frames := 0, cells := 0, slots := 0, locals := 0 } : Room) s m args below meth c H locs 0 0 (MQ below (Q_SoundFile_tellTime K D ca ad L r F9 B9 A) args s 0 0 A) (F0 m 49 ls []) := by
  obtain ⟨hx, hb, hr, hml, hown, hts, hlk, hK, hA, hL, hX⟩ := id X
  replace hf : (some (0, F, B)) = some (r, F9, B9) := hf
  cases hf
  exact W.vret hx hb hr (fun t ht hW => ⟨⟨(), rfl, trivial, by rw [ht]; exact hZ, va_K.moved hW.alike hK⟩, hS.F ht⟩) hS.2.2 (D_177 W_prog_10_method_19_code_32 17 rfl rfl) hlk

def f_SoundFile_tellTime (K : zK) (l0 : Int) (l1 : Int) (l2 : Int) (F : zF) (B : zB) : zO := if 0 ≤ l0 ∧ l0 < K.2 8 then if r32 (F 8 l0 13) then (if (F 8 l0 13) = 0 then if r32 l1 then (if l1 < 1 then f_SoundFile_tellTime_49 K F B else (if 12 < l1 then f_SoundFile_tellTime_49 K F B else if r32 l2 then (if l2 < 1 then f_SoundFile_tellTime_49 K F B else (if 4 < l2 then f_SoundFile_tellTime_49 K F B else f_SoundFile_tellTime_49 K (zup3 F 8 l0 13 1) (zup4 (zup4 B 8 l0 0 4 l1) 8 l0 0 5 (zshl 1 l2)))) else none)) else none else f_SoundFile_tellTime_49 K F B) else none else none
set_option maxHeartbeats 4000000 in
set_option maxRecDepth 100000 in
theorem c_SoundFile_tellTime {l : Launch} {D : va_G} {ca : Nat → ClassId} {ad : Nat → Int → Nat → Nat} {L : List Nat} {aS vS : Nat → Nat} {sz : Nat} {K : zK}  {l0 : Int} {l1 : Int} {l2 : Int} {F F9 : zF} {B B9 : zB} {r : Int} (hf : f_SoundFile_tellTime K l0 l1 l2 F B = some (r, F9, B9)) : Met l ({ cls := "StaveHouse$SoundFile", name := "tellTime", desc := "(II)V" } : Jvm.MethodName) (Cond.code ({ cls := "StaveHouse$SoundFile", name := "tellTime", desc := "(II)V" } : Jvm.MethodName) prog_10_method_19_code 3 (Option.none : Option Jvm.ClassFile.FieldType) :: wAll) ({ frames := 0, cells := 0, slots := 0, locals := 0 } : Room) (va_Pc [.ref (ad 8 l0 0), .int (iI l1), .int (iI l2)] (zPre D ca ad lnC K.2 L aS vS F B sz)) (Q_SoundFile_tellTime K D ca ad L r F9 B9 (zA L sz)) 0 0 (zA L sz) := by
  refine zMet (Qc := Q_SoundFile_tellTime K D ca ad L r F9 B9) (lv := [(0, .ref (ad 8 l0 0)), (1, .int (iI l1)), (2, .int (iI l2))]) (by decide) (Nat.le_of_ble_eq_true rfl) rfl (fun A p e s m below meth c ls X hZ hS hl => ?_)
  obtain ⟨hx, hb, hr, hml, hown, hts, hlk, hK, hA, hL, hX⟩ := id X
  replace hf : (if 0 ≤ l0 ∧ l0 < K.2 8 then if r32 (F 8 l0 13) then (if (F 8 l0 13) = 0 then if r32 l1 then (if l1 < 1 then f_SoundFile_tellTime_49 K F B else (if 12 < l1 then f_SoundFile_tellTime_49 K F B else if r32 l2 then (if l2 < 1 then f_SoundFile_tellTime_49 K F B else (if 4 < l2 then f_SoundFile_tellTime_49 K F B else f_SoundFile_tellTime_49 K (zup3 F 8 l0 13 1) (zup4 (zup4 B 8 l0 0 4 l1) 8 l0 0 5 (zshl 1 l2)))) else none)) else none else f_SoundFile_tellTime_49 K F B) else none else none) = some (r, F9, B9) := hf
  refine lv_aload_n hx hb (D_42 W_prog_10_method_19_code_0 0 rfl rfl) rfl (lv_at hl 0 rfl) ?_
  obtain ⟨g1, hf⟩ := gif hf
  refine zget (ci := 8) (C := RX8) (T := TX8) (v := .int (iI (F 8 l0 13))) (k := 13) hx hb hts inW_8 hown hK hZ g1.1 g1.2 rfl (by decide) k_7_237 rfl (D_180 W_prog_10_method_19_code_0 1 rfl rfl rfl) ?_
  obtain ⟨g2, hf⟩ := gif hf
  refine z0ne (tgt := 49) hx hb g2 (D_154 W_prog_10_method_19_code_0 4 rfl rfl rfl) (by decide) (fun h3 => ?_) (fun h3 => ?_)
  · replace hf := gneg hf h3
    exact b_SoundFile_tellTime_49 X hf hZ hS (lv_sub hl [] rfl)
  · replace hf := gpos hf h3
    refine lv_iload_n hx hb (D_27 W_prog_10_method_19_code_0 7 rfl rfl) rfl (lv_at hl 1 rfl) ?_
    refine lv_iconst (v := iI 1) hx hb (D_4 W_prog_10_method_19_code_0 8 rfl rfl) rfl ?_
    obtain ⟨g4, hf⟩ := gif hf
    refine zlt (tgt := 49) hx hb g4 (by decide) (D_161 W_prog_10_method_19_code_0 9 rfl rfl rfl) (by decide) (fun h5 => ?_) (fun h5 => ?_)
    · replace hf := gpos hf h5
      exact b_SoundFile_tellTime_49 X hf hZ hS (lv_sub hl [] rfl)
    · replace hf := gneg hf h5
      refine lv_iload_n hx hb (D_27 W_prog_10_method_19_code_0 12 rfl rfl) rfl (lv_at hl 1 rfl) ?_
      refine lv_bipush (v := iI 12) hx hb (D_16 W_prog_10_method_19_code_0 13 rfl rfl rfl) (by decide) ?_
      refine zgt (tgt := 49) hx hb g4 (by decide) (D_163 W_prog_10_method_19_code_0 15 rfl rfl rfl) (by decide) (fun h6 => ?_) (fun h6 => ?_)
      · replace hf := gpos hf h6
        exact b_SoundFile_tellTime_49 X hf hZ hS (lv_sub hl [] rfl)
      · replace hf := gneg hf h6
        refine lv_iload_n hx hb (D_28 W_prog_10_method_19_code_0 18 rfl rfl) rfl (lv_at hl 2 rfl) ?_
        refine lv_iconst (v := iI 1) hx hb (D_4 W_prog_10_method_19_code_0 19 rfl rfl) rfl ?_
        obtain ⟨g7, hf⟩ := gif hf
        refine zlt (tgt := 49) hx hb g7 (by decide) (D_161 W_prog_10_method_19_code_0 20 rfl rfl rfl) (by decide) (fun h8 => ?_) (fun h8 => ?_)
        · replace hf := gpos hf h8
          exact b_SoundFile_tellTime_49 X hf hZ hS (lv_sub hl [] rfl)
        · replace hf := gneg hf h8
          refine lv_iload_n hx hb (D_28 W_prog_10_method_19_code_0 23 rfl rfl) rfl (lv_at hl 2 rfl) ?_
          refine lv_iconst (v := iI 4) hx hb (D_7 W_prog_10_method_19_code_0 24 rfl rfl) rfl ?_
          refine zgt (tgt := 49) hx hb g7 (by decide) (D_163 W_prog_10_method_19_code_0 25 rfl rfl rfl) (by decide) (fun h9 => ?_) (fun h9 => ?_)
          · replace hf := gpos hf h9
            exact b_SoundFile_tellTime_49 X hf hZ hS (lv_sub hl [] rfl)
          · replace hf := gneg hf h9
            refine lv_aload_n hx hb (D_42 W_prog_10_method_19_code_0 28 rfl rfl) rfl (lv_at hl 0 rfl) ?_
            refine zget (ci := 8) (C := RX8) (T := TX8) (v := .ref (ad 8 l0 (0 + 1))) (k := 0) hx hb hts inW_8 hown hK hZ g1.1 g1.2 rfl (by decide) k_7_217 rfl (D_180 W_prog_10_method_19_code_0 29 rfl rfl rfl) ?_
            refine lv_iconst (v := iI 4) hx hb (D_7 W_prog_10_method_19_code_32 0 rfl rfl) rfl ?_
            refine lv_iload_n hx hb (D_27 W_prog_10_method_19_code_32 1 rfl rfl) rfl (lv_at hl 1 rfl) ?_
            refine zast (ci := 8) (k := 0) hx hb hK rfl hZ hS g1.1 g1.2 rfl (Nat.le_of_ble_eq_true rfl) (by decide) (show (4 : Int) < 7 by decide) (D_79 W_prog_10_method_19_code_32 2 rfl rfl) (fun H10 locs10 hZ10 hS10 => ?_)
            refine lv_aload_n hx hb (D_42 W_prog_10_method_19_code_32 3 rfl rfl) rfl (lv_at hl 0 rfl) ?_
            refine zget (ci := 8) (C := RX8) (T := TX8) (v := .ref (ad 8 l0 (0 + 1))) (k := 0) hx hb hts inW_8 hown hK hZ10 g1.1 g1.2 rfl (by decide) k_7_217 rfl (D_180 W_prog_10_method_19_code_32 4 rfl rfl rfl) ?_
            refine lv_iconst (v := iI 5) hx hb (D_8 W_prog_10_method_19_code_32 7 rfl rfl) rfl ?_
            refine lv_iconst (v := iI 1) hx hb (D_4 W_prog_10_method_19_code_32 8 rfl rfl) rfl ?_
            refine lv_iload_n hx hb (D_28 W_prog_10_method_19_code_32 9 rfl rfl) rfl (lv_at hl 2 rfl) ?_
            refine zshl_r hx hb (D_120 W_prog_10_method_19_code_32 10 rfl rfl) ?_
            refine zast (ci := 8) (k := 0) hx hb hK rfl hZ10 hS10 g1.1 g1.2 rfl (Nat.le_of_ble_eq_true rfl) (by decide) (show (5 : Int) < 7 by decide) (D_79 W_prog_10_method_19_code_32 11 rfl rfl) (fun H11 locs11 hZ11 hS11 => ?_)
            refine lv_aload_n hx hb (D_42 W_prog_10_method_19_code_32 12 rfl rfl) rfl (lv_at hl 0 rfl) ?_
            refine lv_iconst (v := iI 1) hx hb (D_4 W_prog_10_method_19_code_32 13 rfl rfl) rfl ?_
            refine zput (ci := 8) (C := RX8) (T := TX8) (k := 13) (v := 1) (w := .int (iI 1)) hx hb hts inW_8 tyX8 tyX8_ok nmX8 hown hK hZ11 hS11 g1.1 g1.2 rfl (by decide) k_7_237 rfl (fun G h => congrArg (fun q => Value.int (iI q)) h) rfl rfl (zno (by decide)) (D_181 W_prog_10_method_19_code_32 14 rfl rfl rfl) (fun H12 locs12 hZ12 hS12 => ?_)
            exact b_SoundFile_tellTime_49 X hf hZ12 hS12 (lv_sub hl [] rfl)

abbrev Q_SoundFile_tellKey (K : zK) (D : va_G) (ca : Nat → ClassId) (ad : Nat → Int → Nat → Nat) (L : List Nat) (r : Int) (F : zF) (B : zB) (A : Nat → Prop) : Array Value → State → Outcome → State → Prop := va_Qv (S := Unit) (fun _ => True) (fun _ => zPo D ca ad lnC K.2 L F B A) A
def f_SoundFile_tellKey_40 (K : zK)  (F : zF) (B : zB) : zO := some (0, F, B)
set_option maxHeartbeats 4000000 in
set_option maxRecDepth 100000 in
theorem b_SoundFile_tellKey_40 {D : va_G} {ca : Nat → ClassId} {ad : Nat → Int → Nat → Nat} {L : List Nat} {aS vS : Nat → Nat} {A : Nat → Prop} {p : Program} {l : Launch} {e : Env} {s : State} {m : MethodId} {args : Array Value} {below : List Frame} {meth : Method} {c : Code} {K : zK} {r : Int} {F9 : zF} {B9 : zB} (X : zX D ca L aS vS A p s m args meth c prog_10_method_20_code 3 (Option.none : Option Jvm.ClassFile.FieldType) "StaveHouse$SoundFile")  {F : zF} {B : zB} {H : Heap} {locs : List Loc} {ls : Array Slot} (hf : f_SoundFile_tellKey_40 K  F B = some (r, F9, B9)) (hZ : zH D ca ad lnC K.2 L F B A H) (hS : va_S A s.heap H locs) (hl : lv_has ls 3 []) : W p l e ({ frames := 1, cells := 0, slots := 0, locals := 13 } : Room) s m args below meth c H locs 0 0 (MQ below (Q_SoundFile_tellKey K D ca ad L r F9 B9 A) args s 0 0 A) (F0 m 40 ls []) := by
  obtain ⟨hx, hb, hr, hml, hown, hts, hlk, hK, hA, hL, hX⟩ := id X
  replace hf : (some (0, F, B)) = some (r, F9, B9) := hf
  cases hf
  exact W.vret hx hb hr (fun t ht hW => ⟨⟨(), rfl, trivial, by rw [ht]; exact hZ, va_K.moved hW.alike hK⟩, hS.F ht⟩) hS.2.2 (D_177 W_prog_10_method_20_code_32 8 rfl rfl) hlk

def f_SoundFile_tellKey (K : zK) (l0 : Int) (l1 : Int) (l2 : Int) (F : zF) (B : zB) : zO := if 0 ≤ l0 ∧ l0 < K.2 8 then if r32 (F 8 l0 12) then (if (F 8 l0 12) = 0 then if r32 l1 then if r32 (zabs l1) then (if 7 < (zabs l1) then f_SoundFile_tellKey_40 K F B else if r32 l2 then (if 1 < l2 then f_SoundFile_tellKey_40 K F B else f_SoundFile_tellKey_40 K (zup3 F 8 l0 12 1) (zup4 (zup4 B 8 l0 0 2 l1) 8 l0 0 3 l2)) else none) else none else none else f_SoundFile_tellKey_40 K F B) else none else none
set_option maxHeartbeats 4000000 in
set_option maxRecDepth 100000 in
theorem c_SoundFile_tellKey {l : Launch} {D : va_G} {ca : Nat → ClassId} {ad : Nat → Int → Nat → Nat} {L : List Nat} {aS vS : Nat → Nat} {sz : Nat} {K : zK}  {l0 : Int} {l1 : Int} {l2 : Int} {F F9 : zF} {B B9 : zB} {r : Int} (hf : f_SoundFile_tellKey K l0 l1 l2 F B = some (r, F9, B9)) : Met l ({ cls := "StaveHouse$SoundFile", name := "tellKey", desc := "(II)V" } : Jvm.MethodName) (Cond.code ({ cls := "StaveHouse$SoundFile", name := "tellKey", desc := "(II)V" } : Jvm.MethodName) prog_10_method_20_code 3 (Option.none : Option Jvm.ClassFile.FieldType) :: wAll) ({ frames := 1, cells := 0, slots := 0, locals := 13 } : Room) (va_Pc [.ref (ad 8 l0 0), .int (iI l1), .int (iI l2)] (zPre D ca ad lnC K.2 L aS vS F B sz)) (Q_SoundFile_tellKey K D ca ad L r F9 B9 (zA L sz)) 0 0 (zA L sz) := by
  refine zMet (Qc := Q_SoundFile_tellKey K D ca ad L r F9 B9) (lv := [(0, .ref (ad 8 l0 0)), (1, .int (iI l1)), (2, .int (iI l2))]) (by decide) (Nat.le_of_ble_eq_true rfl) rfl (fun A p e s m below meth c ls X hZ hS hl => ?_)
  obtain ⟨hx, hb, hr, hml, hown, hts, hlk, hK, hA, hL, hX⟩ := id X
  replace hf : (if 0 ≤ l0 ∧ l0 < K.2 8 then if r32 (F 8 l0 12) then (if (F 8 l0 12) = 0 then if r32 l1 then if r32 (zabs l1) then (if 7 < (zabs l1) then f_SoundFile_tellKey_40 K F B else if r32 l2 then (if 1 < l2 then f_SoundFile_tellKey_40 K F B else f_SoundFile_tellKey_40 K (zup3 F 8 l0 12 1) (zup4 (zup4 B 8 l0 0 2 l1) 8 l0 0 3 l2)) else none) else none else none else f_SoundFile_tellKey_40 K F B) else none else none) = some (r, F9, B9) := hf
  refine lv_aload_n hx hb (D_42 W_prog_10_method_20_code_0 0 rfl rfl) rfl (lv_at hl 0 rfl) ?_
  obtain ⟨g1, hf⟩ := gif hf
  refine zget (ci := 8) (C := RX8) (T := TX8) (v := .int (iI (F 8 l0 12))) (k := 12) hx hb hts inW_8 hown hK hZ g1.1 g1.2 rfl (by decide) k_7_236 rfl (D_180 W_prog_10_method_20_code_0 1 rfl rfl rfl) ?_
  obtain ⟨g2, hf⟩ := gif hf
  refine z0ne (tgt := 40) hx hb g2 (D_154 W_prog_10_method_20_code_0 4 rfl rfl rfl) (by decide) (fun h3 => ?_) (fun h3 => ?_)
  · replace hf := gneg hf h3
    exact b_SoundFile_tellKey_40 X hf hZ hS (lv_sub hl [] rfl)
  · replace hf := gpos hf h3
    refine lv_iload_n hx hb (D_27 W_prog_10_method_20_code_0 7 rfl rfl) rfl (lv_at hl 1 rfl) ?_
    obtain ⟨g4, hf⟩ := gif hf
    refine va_mabs hx hb (by rw [hml]; exact hl.1.symm) hown (hts _ k_8_104) (hts _ k_4_229) (hts _ k_1_3) (hts _ k_4_230) (Nat.le_of_ble_eq_true rfl) (Nat.le_of_ble_eq_true rfl) (Nat.le_of_ble_eq_true rfl) (Nat.le_of_ble_eq_true rfl) (D_184 W_prog_10_method_20_code_0 8 rfl rfl rfl) ?_
    rw [zabs_e g4]
    refine lv_bipush (v := iI 7) hx hb (D_16 W_prog_10_method_20_code_0 11 rfl rfl rfl) (by decide) ?_
    obtain ⟨g5, hf⟩ := gif hf
    refine zgt (tgt := 40) hx hb g5 (by decide) (D_163 W_prog_10_method_20_code_0 13 rfl rfl rfl) (by decide) (fun h6 => ?_) (fun h6 => ?_)
    · replace hf := gpos hf h6
      exact b_SoundFile_tellKey_40 X hf hZ hS (lv_sub hl [] rfl)
    · replace hf := gneg hf h6
      refine lv_iload_n hx hb (D_28 W_prog_10_method_20_code_0 16 rfl rfl) rfl (lv_at hl 2 rfl) ?_
      refine lv_iconst (v := iI 1) hx hb (D_4 W_prog_10_method_20_code_0 17 rfl rfl) rfl ?_
      obtain ⟨g7, hf⟩ := gif hf
      refine zgt (tgt := 40) hx hb g7 (by decide) (D_163 W_prog_10_method_20_code_0 18 rfl rfl rfl) (by decide) (fun h8 => ?_) (fun h8 => ?_)
      · replace hf := gpos hf h8
        exact b_SoundFile_tellKey_40 X hf hZ hS (lv_sub hl [] rfl)
      · replace hf := gneg hf h8
        refine lv_aload_n hx hb (D_42 W_prog_10_method_20_code_0 21 rfl rfl) rfl (lv_at hl 0 rfl) ?_
        refine zget (ci := 8) (C := RX8) (T := TX8) (v := .ref (ad 8 l0 (0 + 1))) (k := 0) hx hb hts inW_8 hown hK hZ g1.1 g1.2 rfl (by decide) k_7_217 rfl (D_180 W_prog_10_method_20_code_0 22 rfl rfl rfl) ?_
        refine lv_iconst (v := iI 2) hx hb (D_5 W_prog_10_method_20_code_0 25 rfl rfl) rfl ?_
        refine lv_iload_n hx hb (D_27 W_prog_10_method_20_code_0 26 rfl rfl) rfl (lv_at hl 1 rfl) ?_
        refine zast (ci := 8) (k := 0) hx hb hK rfl hZ hS g1.1 g1.2 rfl (Nat.le_of_ble_eq_true rfl) (by decide) (show (2 : Int) < 7 by decide) (D_79 W_prog_10_method_20_code_0 27 rfl rfl) (fun H9 locs9 hZ9 hS9 => ?_)
        refine lv_aload_n hx hb (D_42 W_prog_10_method_20_code_0 28 rfl rfl) rfl (lv_at hl 0 rfl) ?_
        refine zget (ci := 8) (C := RX8) (T := TX8) (v := .ref (ad 8 l0 (0 + 1))) (k := 0) hx hb hts inW_8 hown hK hZ9 g1.1 g1.2 rfl (by decide) k_7_217 rfl (D_180 W_prog_10_method_20_code_0 29 rfl rfl rfl) ?_
        refine lv_iconst (v := iI 3) hx hb (D_6 W_prog_10_method_20_code_32 0 rfl rfl) rfl ?_
        refine lv_iload_n hx hb (D_28 W_prog_10_method_20_code_32 1 rfl rfl) rfl (lv_at hl 2 rfl) ?_
        refine zast (ci := 8) (k := 0) hx hb hK rfl hZ9 hS9 g1.1 g1.2 rfl (Nat.le_of_ble_eq_true rfl) (by decide) (show (3 : Int) < 7 by decide) (D_79 W_prog_10_method_20_code_32 2 rfl rfl) (fun H10 locs10 hZ10 hS10 => ?_)
        refine lv_aload_n hx hb (D_42 W_prog_10_method_20_code_32 3 rfl rfl) rfl (lv_at hl 0 rfl) ?_
        refine lv_iconst (v := iI 1) hx hb (D_4 W_prog_10_method_20_code_32 4 rfl rfl) rfl ?_
        refine zput (ci := 8) (C := RX8) (T := TX8) (k := 12) (v := 1) (w := .int (iI 1)) hx hb hts inW_8 tyX8 tyX8_ok nmX8 hown hK hZ10 hS10 g1.1 g1.2 rfl (by decide) k_7_236 rfl (fun G h => congrArg (fun q => Value.int (iI q)) h) rfl rfl (zno (by decide)) (D_181 W_prog_10_method_20_code_32 5 rfl rfl rfl) (fun H11 locs11 hZ11 hS11 => ?_)
        exact b_SoundFile_tellKey_40 X hf hZ11 hS11 (lv_sub hl [] rfl)

abbrev Q_SoundFile_tellTempo (K : zK) (D : va_G) (ca : Nat → ClassId) (ad : Nat → Int → Nat → Nat) (L : List Nat) (r : Int) (F : zF) (B : zB) (A : Nat → Prop) : Array Value → State → Outcome → State → Prop := va_Qv (S := Unit) (fun _ => True) (fun _ => zPo D ca ad lnC K.2 L F B A) A
def f_SoundFile_tellTempo_45 (K : zK)  (F : zF) (B : zB) : zO := some (0, F, B)
set_option maxHeartbeats 4000000 in
set_option maxRecDepth 100000 in
theorem b_SoundFile_tellTempo_45 {D : va_G} {ca : Nat → ClassId} {ad : Nat → Int → Nat → Nat} {L : List Nat} {aS vS : Nat → Nat} {A : Nat → Prop} {p : Program} {l : Launch} {e : Env} {s : State} {m : MethodId} {args : Array Value} {below : List Frame} {meth : Method} {c : Code} {K : zK} {r : Int} {F9 : zF} {B9 : zB} (X : zX D ca L aS vS A p s m args meth c prog_10_method_21_code 2 (Option.none : Option Jvm.ClassFile.FieldType) "StaveHouse$SoundFile")  {F : zF} {B : zB} {H : Heap} {locs : List Loc} {ls : Array Slot} (hf : f_SoundFile_tellTempo_45 K  F B = some (r, F9, B9)) (hZ : zH D ca ad lnC K.2 L F B A H) (hS : va_S A s.heap H locs) (hl : lv_has ls 2 []) : W p l e ({ frames := 1, cells := 0, slots := 0, locals := 16 } : Room) s m args below meth c H locs 0 0 (MQ below (Q_SoundFile_tellTempo K D ca ad L r F9 B9 A) args s 0 0 A) (F0 m 45 ls []) := by
  obtain ⟨hx, hb, hr, hml, hown, hts, hlk, hK, hA, hL, hX⟩ := id X
  replace hf : (some (0, F, B)) = some (r, F9, B9) := hf
  cases hf
  exact W.vret hx hb hr (fun t ht hW => ⟨⟨(), rfl, trivial, by rw [ht]; exact hZ, va_K.moved hW.alike hK⟩, hS.F ht⟩) hS.2.2 (D_177 W_prog_10_method_21_code_32 13 rfl rfl) hlk

def f_SoundFile_tellTempo_39 (K : zK) (l0 : Int) (s0 : Int) (s1 : Int) (s2 : Int) (F : zF) (B : zB) : zO := if 0 ≤ s0 ∧ s0 < K.2 8 then if 0 ≤ s1 ∧ s1 < 7 then if 0 ≤ l0 ∧ l0 < K.2 8 then f_SoundFile_tellTempo_45 K (zup3 F 8 l0 14 1) (zup4 B 8 s0 0 s1 s2) else none else none else none
set_option maxHeartbeats 4000000 in
set_option maxRecDepth 100000 in
theorem b_SoundFile_tellTempo_39 {D : va_G} {ca : Nat → ClassId} {ad : Nat → Int → Nat → Nat} {L : List Nat} {aS vS : Nat → Nat} {A : Nat → Prop} {p : Program} {l : Launch} {e : Env} {s : State} {m : MethodId} {args : Array Value} {below : List Frame} {meth : Method} {c : Code} {K : zK} {r : Int} {F9 : zF} {B9 : zB} (X : zX D ca L aS vS A p s m args meth c prog_10_method_21_code 2 (Option.none : Option Jvm.ClassFile.FieldType) "StaveHouse$SoundFile") {l0 : Int} {s0 : Int} {s1 : Int} {s2 : Int} {F : zF} {B : zB} {H : Heap} {locs : List Loc} {ls : Array Slot} (hf : f_SoundFile_tellTempo_39 K l0 s0 s1 s2 F B = some (r, F9, B9)) (hZ : zH D ca ad lnC K.2 L F B A H) (hS : va_S A s.heap H locs) (hl : lv_has ls 2 [(0, .ref (ad 8 l0 0))]) : W p l e ({ frames := 1, cells := 0, slots := 0, locals := 16 } : Room) s m args below meth c H locs 0 0 (MQ below (Q_SoundFile_tellTempo K D ca ad L r F9 B9 A) args s 0 0 A) (F0 m 39 ls [.int (iI s2), .int (iI s1), .ref (ad 8 s0 (0 + 1))]) := by
  obtain ⟨hx, hb, hr, hml, hown, hts, hlk, hK, hA, hL, hX⟩ := id X
  replace hf : (if 0 ≤ s0 ∧ s0 < K.2 8 then if 0 ≤ s1 ∧ s1 < 7 then if 0 ≤ l0 ∧ l0 < K.2 8 then f_SoundFile_tellTempo_45 K (zup3 F 8 l0 14 1) (zup4 B 8 s0 0 s1 s2) else none else none else none) = some (r, F9, B9) := hf
  obtain ⟨g9, hf⟩ := gif hf
  obtain ⟨g10, hf⟩ := gif hf
  refine zast (ci := 8) (k := 0) hx hb hK rfl hZ hS g9.1 g9.2 rfl (Nat.le_of_ble_eq_true rfl) g10.1 g10.2 (D_79 W_prog_10_method_21_code_32 7 rfl rfl) (fun H11 locs11 hZ11 hS11 => ?_)
  refine lv_aload_n hx hb (D_42 W_prog_10_method_21_code_32 8 rfl rfl) rfl (lv_at hl 0 rfl) ?_
  refine lv_iconst (v := iI 1) hx hb (D_4 W_prog_10_method_21_code_32 9 rfl rfl) rfl ?_
  obtain ⟨g12, hf⟩ := gif hf
  refine zput (ci := 8) (C := RX8) (T := TX8) (k := 14) (v := 1) (w := .int (iI 1)) hx hb hts inW_8 tyX8 tyX8_ok nmX8 hown hK hZ11 hS11 g12.1 g12.2 rfl (by decide) k_7_238 rfl (fun G h => congrArg (fun q => Value.int (iI q)) h) rfl rfl (zno (by decide)) (D_181 W_prog_10_method_21_code_32 10 rfl rfl rfl) (fun H13 locs13 hZ13 hS13 => ?_)
  exact b_SoundFile_tellTempo_45 X hf hZ13 hS13 (lv_sub hl [] rfl)

def f_SoundFile_tellTempo (K : zK) (l0 : Int) (l1 : Int) (F : zF) (B : zB) : zO := if 0 ≤ l0 ∧ l0 < K.2 8 then if r32 (F 8 l0 14) then (if (F 8 l0 14) = 0 then if r32 l1 then (if 1 ≤ l1 then if ¬ iI l1 = 0 then if r32 (zdv 60000000 l1) then if r32 (zmin 300 (zdv 60000000 l1)) then f_SoundFile_tellTempo_39 K l0 l0 6 (zmax 20 (zmin 300 (zdv 60000000 l1))) F B else none else none else none else f_SoundFile_tellTempo_39 K l0 l0 6 300 F B) else none else f_SoundFile_tellTempo_45 K F B) else none else none
set_option maxHeartbeats 4000000 in
set_option maxRecDepth 100000 in
theorem c_SoundFile_tellTempo {l : Launch} {D : va_G} {ca : Nat → ClassId} {ad : Nat → Int → Nat → Nat} {L : List Nat} {aS vS : Nat → Nat} {sz : Nat} {K : zK}  {l0 : Int} {l1 : Int} {F F9 : zF} {B B9 : zB} {r : Int} (hf : f_SoundFile_tellTempo K l0 l1 F B = some (r, F9, B9)) : Met l ({ cls := "StaveHouse$SoundFile", name := "tellTempo", desc := "(I)V" } : Jvm.MethodName) (Cond.code ({ cls := "StaveHouse$SoundFile", name := "tellTempo", desc := "(I)V" } : Jvm.MethodName) prog_10_method_21_code 2 (Option.none : Option Jvm.ClassFile.FieldType) :: wAll) ({ frames := 1, cells := 0, slots := 0, locals := 16 } : Room) (va_Pc [.ref (ad 8 l0 0), .int (iI l1)] (zPre D ca ad lnC K.2 L aS vS F B sz)) (Q_SoundFile_tellTempo K D ca ad L r F9 B9 (zA L sz)) 0 0 (zA L sz) := by
  refine zMet (Qc := Q_SoundFile_tellTempo K D ca ad L r F9 B9) (lv := [(0, .ref (ad 8 l0 0)), (1, .int (iI l1))]) (by decide) (Nat.le_of_ble_eq_true rfl) rfl (fun A p e s m below meth c ls X hZ hS hl => ?_)
  obtain ⟨hx, hb, hr, hml, hown, hts, hlk, hK, hA, hL, hX⟩ := id X
  replace hf : (if 0 ≤ l0 ∧ l0 < K.2 8 then if r32 (F 8 l0 14) then (if (F 8 l0 14) = 0 then if r32 l1 then (if 1 ≤ l1 then if ¬ iI l1 = 0 then if r32 (zdv 60000000 l1) then if r32 (zmin 300 (zdv 60000000 l1)) then f_SoundFile_tellTempo_39 K l0 l0 6 (zmax 20 (zmin 300 (zdv 60000000 l1))) F B else none else none else none else f_SoundFile_tellTempo_39 K l0 l0 6 300 F B) else none else f_SoundFile_tellTempo_45 K F B) else none else none) = some (r, F9, B9) := hf
  refine lv_aload_n hx hb (D_42 W_prog_10_method_21_code_0 0 rfl rfl) rfl (lv_at hl 0 rfl) ?_
  obtain ⟨g1, hf⟩ := gif hf
  refine zget (ci := 8) (C := RX8) (T := TX8) (v := .int (iI (F 8 l0 14))) (k := 14) hx hb hts inW_8 hown hK hZ g1.1 g1.2 rfl (by decide) k_7_238 rfl (D_180 W_prog_10_method_21_code_0 1 rfl rfl rfl) ?_
  obtain ⟨g2, hf⟩ := gif hf
  refine z0ne (tgt := 45) hx hb g2 (D_154 W_prog_10_method_21_code_0 4 rfl rfl rfl) (by decide) (fun h3 => ?_) (fun h3 => ?_)
  · replace hf := gneg hf h3
    exact b_SoundFile_tellTempo_45 X hf hZ hS (lv_sub hl [] rfl)
  · replace hf := gpos hf h3
    refine lv_aload_n hx hb (D_42 W_prog_10_method_21_code_0 7 rfl rfl) rfl (lv_at hl 0 rfl) ?_
    refine zget (ci := 8) (C := RX8) (T := TX8) (v := .ref (ad 8 l0 (0 + 1))) (k := 0) hx hb hts inW_8 hown hK hZ g1.1 g1.2 rfl (by decide) k_7_217 rfl (D_180 W_prog_10_method_21_code_0 8 rfl rfl rfl) ?_
    refine lv_bipush (v := iI 6) hx hb (D_16 W_prog_10_method_21_code_0 11 rfl rfl rfl) (by decide) ?_
    refine lv_iload_n hx hb (D_27 W_prog_10_method_21_code_0 13 rfl rfl) rfl (lv_at hl 1 rfl) ?_
    refine lv_iconst (v := iI 1) hx hb (D_4 W_prog_10_method_21_code_0 14 rfl rfl) rfl ?_
    obtain ⟨g4, hf⟩ := gif hf
    refine zge (tgt := 24) hx hb g4 (by decide) (D_162 W_prog_10_method_21_code_0 15 rfl rfl rfl) (by decide) (fun h5 => ?_) (fun h5 => ?_)
    · replace hf := gpos hf h5
      refine lv_bipush (v := iI 20) hx hb (D_16 W_prog_10_method_21_code_0 24 rfl rfl rfl) (by decide) ?_
      refine lv_sipush (v := iI 300) hx hb (D_17 W_prog_10_method_21_code_0 26 rfl rfl rfl) (by decide) ?_
      refine lv_ldc hx hb hown (hts _ k_8_110) (D_18 W_prog_10_method_21_code_0 29 rfl rfl) ?_
      refine W.eq (g2 := F0 m 31 ls [.int (iI 60000000), .int (iI 300), .int (iI 20), .int (iI 6), .ref (ad 8 l0 (0 + 1))]) rfl ?_
      refine lv_iload_n hx hb (D_27 W_prog_10_method_21_code_0 31 rfl rfl) rfl (lv_at hl 1 rfl) ?_
      obtain ⟨g6, hf⟩ := gif hf
      refine zdv_r hx hb g6 (D_108 W_prog_10_method_21_code_32 0 rfl rfl) ?_
      obtain ⟨g7, hf⟩ := gif hf
      refine va_mmin hx hb (by rw [hml]; exact hl.1.symm) hown (hts _ k_8_111) (hts _ k_3_97) (hts _ k_1_3) (hts _ k_3_98) (Nat.le_of_ble_eq_true rfl) (Nat.le_of_ble_eq_true rfl) (Nat.le_of_ble_eq_true rfl) (Nat.le_of_ble_eq_true rfl) (D_184 W_prog_10_method_21_code_32 1 rfl rfl rfl) ?_
      rw [zmin_e (by decide) g7]
      obtain ⟨g8, hf⟩ := gif hf
      refine va_mmax hx hb (by rw [hml]; exact hl.1.symm) hown (hts _ k_8_112) (hts _ k_1_39) (hts _ k_1_3) (hts _ k_1_40) (Nat.le_of_ble_eq_true rfl) (Nat.le_of_ble_eq_true rfl) (Nat.le_of_ble_eq_true rfl) (Nat.le_of_ble_eq_true rfl) (D_184 W_prog_10_method_21_code_32 4 rfl rfl rfl) ?_
      rw [zmax_e (by decide) g8]
      exact b_SoundFile_tellTempo_39 X hf hZ hS (lv_sub hl [0] rfl)
    · replace hf := gneg hf h5
      refine lv_sipush (v := iI 300) hx hb (D_17 W_prog_10_method_21_code_0 18 rfl rfl rfl) (by decide) ?_
      refine lv_goto (tgt := 39) hx hb (D_167 W_prog_10_method_21_code_0 21 rfl rfl rfl) (by decide) ?_
      exact b_SoundFile_tellTempo_39 X hf hZ hS (lv_sub hl [0] rfl)

abbrev Q_SoundFile_beginSound (K : zK) (D : va_G) (ca : Nat → ClassId) (ad : Nat → Int → Nat → Nat) (L : List Nat) (r : Int) (F : zF) (B : zB) (A : Nat → Prop) : Array Value → State → Outcome → State → Prop := va_Qv (S := Unit) (fun _ => True) (fun _ => zPo D ca ad lnC K.2 L F B A) A
def f_SoundFile_beginSound (K : zK) (l0 : Int) (l1 : Int) (l2 : Int) (l3 : Int) (F : zF) (B : zB) : zO := if 0 ≤ l0 ∧ l0 < K.2 8 then if r32 (F 8 l0 2) then (if (F 8 l0 2) < 400 then if r32 (F 8 l0 8) then if 0 ≤ (F 8 l0 2) ∧ (F 8 l0 2) < 400 then if r32 (zrm (F 8 l0 9) 16) then if r32 l1 then if r32 l2 then some (0, (zup3 F 8 l0 2 ((F 8 l0 2) + 1)), (zup4 (zup4 (zup4 (zup4 (zup4 (zup4 B 8 l0 220 (F 8 l0 2) (F 8 l0 8)) 8 l0 221 (F 8 l0 2) (zrm (F 8 l0 9) 16)) 8 l0 222 (F 8 l0 2) l1) 8 l0 223 (F 8 l0 2) l2) 8 l0 224 (F 8 l0 2) (F 8 l0 10)) 8 l0 225 (F 8 l0 2) (-1))) else none else none else none else none else none else zbind (f_SoundFile_refuse K l0 3 l3 F B) (fun r16 F16 B16 => some (0, F16, B16))) else none else none
set_option maxHeartbeats 4000000 in
set_option maxRecDepth 100000 in
theorem c_SoundFile_beginSound {l : Launch} {D : va_G} {ca : Nat → ClassId} {ad : Nat → Int → Nat → Nat} {L : List Nat} {aS vS : Nat → Nat} {sz : Nat} {K : zK}  {l0 : Int} {l1 : Int} {l2 : Int} {l3 : Int} {F F9 : zF} {B B9 : zB} {r : Int} (hf : f_SoundFile_beginSound K l0 l1 l2 l3 F B = some (r, F9, B9)) : Met l ({ cls := "StaveHouse$SoundFile", name := "beginSound", desc := "(III)V" } : Jvm.MethodName) (Cond.code ({ cls := "StaveHouse$SoundFile", name := "beginSound", desc := "(III)V" } : Jvm.MethodName) prog_10_method_16_code 4 (Option.none : Option Jvm.ClassFile.FieldType) :: wAll) ({ frames := 1, cells := 0, slots := 0, locals := 22 } : Room) (va_Pc [.ref (ad 8 l0 0), .int (iI l1), .int (iI l2), .int (iI l3)] (zPre D ca ad lnC K.2 L aS vS F B sz)) (Q_SoundFile_beginSound K D ca ad L r F9 B9 (zA L sz)) 0 0 (zA L sz) := by
  refine zMet (Qc := Q_SoundFile_beginSound K D ca ad L r F9 B9) (lv := [(0, .ref (ad 8 l0 0)), (1, .int (iI l1)), (2, .int (iI l2)), (3, .int (iI l3))]) (by decide) (Nat.le_of_ble_eq_true rfl) rfl (fun A p e s m below meth c ls X hZ hS hl => ?_)
  obtain ⟨hx, hb, hr, hml, hown, hts, hlk, hK, hA, hL, hX⟩ := id X
  replace hf : (if 0 ≤ l0 ∧ l0 < K.2 8 then if r32 (F 8 l0 2) then (if (F 8 l0 2) < 400 then if r32 (F 8 l0 8) then if 0 ≤ (F 8 l0 2) ∧ (F 8 l0 2) < 400 then if r32 (zrm (F 8 l0 9) 16) then if r32 l1 then if r32 l2 then some (0, (zup3 F 8 l0 2 ((F 8 l0 2) + 1)), (zup4 (zup4 (zup4 (zup4 (zup4 (zup4 B 8 l0 220 (F 8 l0 2) (F 8 l0 8)) 8 l0 221 (F 8 l0 2) (zrm (F 8 l0 9) 16)) 8 l0 222 (F 8 l0 2) l1) 8 l0 223 (F 8 l0 2) l2) 8 l0 224 (F 8 l0 2) (F 8 l0 10)) 8 l0 225 (F 8 l0 2) (-1))) else none else none else none else none else none else zbind (f_SoundFile_refuse K l0 3 l3 F B) (fun r16 F16 B16 => some (0, F16, B16))) else none else none) = some (r, F9, B9) := hf
  refine lv_aload_n hx hb (D_42 W_prog_10_method_16_code_0 0 rfl rfl) rfl (lv_at hl 0 rfl) ?_
  obtain ⟨g1, hf⟩ := gif hf
  refine zget (ci := 8) (C := RX8) (T := TX8) (v := .int (iI (F 8 l0 2))) (k := 2) hx hb hts inW_8 hown hK hZ g1.1 g1.2 rfl (by decide) k_7_223 rfl (D_180 W_prog_10_method_16_code_0 1 rfl rfl rfl) ?_
  refine lv_sipush (v := iI 400) hx hb (D_17 W_prog_10_method_16_code_0 4 rfl rfl rfl) (by decide) ?_
  obtain ⟨g2, hf⟩ := gif hf
  refine zlt (tgt := 17) hx hb g2 (by decide) (D_161 W_prog_10_method_16_code_0 7 rfl rfl rfl) (by decide) (fun h3 => ?_) (fun h3 => ?_)
  · replace hf := gpos hf h3
    refine lv_aload_n hx hb (D_42 W_prog_10_method_16_code_0 17 rfl rfl) rfl (lv_at hl 0 rfl) ?_
    refine zget (ci := 8) (C := RX8) (T := TX8) (v := .ref (ad 8 l0 (1 + 1))) (k := 1) hx hb hts inW_8 hown hK hZ g1.1 g1.2 rfl (by decide) k_7_220 rfl (D_180 W_prog_10_method_16_code_0 18 rfl rfl rfl) ?_
    refine lv_iconst (v := iI 0) hx hb (D_3 W_prog_10_method_16_code_0 21 rfl rfl) rfl ?_
    refine zaldQ (t := 1) (ci := 8) (k := 1) hx hb hK rfl hZ g1.1 g1.2 rfl (Nat.le_of_ble_eq_true rfl) (by decide) (by decide) (D_50 W_prog_10_method_16_code_0 22 rfl rfl) ?_
    refine W.eq (g2 := F0 m 23 ls [.ref (ad 8 l0 (220 + 1))]) rfl ?_
    refine lv_aload_n hx hb (D_42 W_prog_10_method_16_code_0 23 rfl rfl) rfl (lv_at hl 0 rfl) ?_
    refine zget (ci := 8) (C := RX8) (T := TX8) (v := .int (iI (F 8 l0 2))) (k := 2) hx hb hts inW_8 hown hK hZ g1.1 g1.2 rfl (by decide) k_7_223 rfl (D_180 W_prog_10_method_16_code_0 24 rfl rfl rfl) ?_
    refine lv_aload_n hx hb (D_42 W_prog_10_method_16_code_0 27 rfl rfl) rfl (lv_at hl 0 rfl) ?_
    refine zget (ci := 8) (C := RX8) (T := TX8) (v := .int (iI (F 8 l0 8))) (k := 8) hx hb hts inW_8 hown hK hZ g1.1 g1.2 rfl (by decide) k_7_232 rfl (D_180 W_prog_10_method_16_code_0 28 rfl rfl rfl) ?_
    obtain ⟨g4, hf⟩ := gif hf
    refine zi2l hx hb g4 (D_133 W_prog_10_method_16_code_0 31 rfl rfl) ?_
    obtain ⟨g5, hf⟩ := gif hf
    refine zlast (ci := 8) (k := 220) hx hb hK rfl hZ hS g1.1 g1.2 rfl (Nat.le_of_ble_eq_true rfl) g5.1 g5.2 (D_80 W_prog_10_method_16_code_32 0 rfl rfl) (fun H6 locs6 hZ6 hS6 => ?_)
    refine lv_aload_n hx hb (D_42 W_prog_10_method_16_code_32 1 rfl rfl) rfl (lv_at hl 0 rfl) ?_
    refine zget (ci := 8) (C := RX8) (T := TX8) (v := .ref (ad 8 l0 (1 + 1))) (k := 1) hx hb hts inW_8 hown hK hZ6 g1.1 g1.2 rfl (by decide) k_7_220 rfl (D_180 W_prog_10_method_16_code_32 2 rfl rfl rfl) ?_
    refine lv_iconst (v := iI 1) hx hb (D_4 W_prog_10_method_16_code_32 5 rfl rfl) rfl ?_
    refine zaldQ (t := 1) (ci := 8) (k := 1) hx hb hK rfl hZ6 g1.1 g1.2 rfl (Nat.le_of_ble_eq_true rfl) (by decide) (by decide) (D_50 W_prog_10_method_16_code_32 6 rfl rfl) ?_
    refine W.eq (g2 := F0 m 39 ls [.ref (ad 8 l0 (221 + 1))]) rfl ?_
    refine lv_aload_n hx hb (D_42 W_prog_10_method_16_code_32 7 rfl rfl) rfl (lv_at hl 0 rfl) ?_
    refine zget (ci := 8) (C := RX8) (T := TX8) (v := .int (iI (F 8 l0 2))) (k := 2) hx hb hts inW_8 hown hK hZ6 g1.1 g1.2 rfl (by decide) k_7_223 rfl (D_180 W_prog_10_method_16_code_32 8 rfl rfl rfl) ?_
    refine lv_aload_n hx hb (D_42 W_prog_10_method_16_code_32 11 rfl rfl) rfl (lv_at hl 0 rfl) ?_
    refine zget (ci := 8) (C := RX8) (T := TX8) (v := .int (iI (F 8 l0 9))) (k := 9) hx hb hts inW_8 hown hK hZ6 g1.1 g1.2 rfl (by decide) k_7_233 rfl (D_180 W_prog_10_method_16_code_32 12 rfl rfl rfl) ?_
    refine lv_bipush (v := iI 16) hx hb (D_16 W_prog_10_method_16_code_32 15 rfl rfl rfl) (by decide) ?_
    refine zrm_r hx hb (by decide) (D_112 W_prog_10_method_16_code_32 17 rfl rfl) ?_
    obtain ⟨g7, hf⟩ := gif hf
    refine zi2l hx hb g7 (D_133 W_prog_10_method_16_code_32 18 rfl rfl) ?_
    refine zlast (ci := 8) (k := 221) hx hb hK rfl hZ6 hS6 g1.1 g1.2 rfl (Nat.le_of_ble_eq_true rfl) g5.1 g5.2 (D_80 W_prog_10_method_16_code_32 19 rfl rfl) (fun H8 locs8 hZ8 hS8 => ?_)
    refine lv_aload_n hx hb (D_42 W_prog_10_method_16_code_32 20 rfl rfl) rfl (lv_at hl 0 rfl) ?_
    refine zget (ci := 8) (C := RX8) (T := TX8) (v := .ref (ad 8 l0 (1 + 1))) (k := 1) hx hb hts inW_8 hown hK hZ8 g1.1 g1.2 rfl (by decide) k_7_220 rfl (D_180 W_prog_10_method_16_code_32 21 rfl rfl rfl) ?_
    refine lv_iconst (v := iI 2) hx hb (D_5 W_prog_10_method_16_code_32 24 rfl rfl) rfl ?_
    refine zaldQ (t := 1) (ci := 8) (k := 1) hx hb hK rfl hZ8 g1.1 g1.2 rfl (Nat.le_of_ble_eq_true rfl) (by decide) (by decide) (D_50 W_prog_10_method_16_code_32 25 rfl rfl) ?_
    refine W.eq (g2 := F0 m 58 ls [.ref (ad 8 l0 (222 + 1))]) rfl ?_
    refine lv_aload_n hx hb (D_42 W_prog_10_method_16_code_32 26 rfl rfl) rfl (lv_at hl 0 rfl) ?_
    refine zget (ci := 8) (C := RX8) (T := TX8) (v := .int (iI (F 8 l0 2))) (k := 2) hx hb hts inW_8 hown hK hZ8 g1.1 g1.2 rfl (by decide) k_7_223 rfl (D_180 W_prog_10_method_16_code_32 27 rfl rfl rfl) ?_
    refine lv_iload_n hx hb (D_27 W_prog_10_method_16_code_32 30 rfl rfl) rfl (lv_at hl 1 rfl) ?_
    obtain ⟨g9, hf⟩ := gif hf
    refine zi2l hx hb g9 (D_133 W_prog_10_method_16_code_32 31 rfl rfl) ?_
    refine zlast (ci := 8) (k := 222) hx hb hK rfl hZ8 hS8 g1.1 g1.2 rfl (Nat.le_of_ble_eq_true rfl) g5.1 g5.2 (D_80 W_prog_10_method_16_code_64 0 rfl rfl) (fun H10 locs10 hZ10 hS10 => ?_)
    refine lv_aload_n hx hb (D_42 W_prog_10_method_16_code_64 1 rfl rfl) rfl (lv_at hl 0 rfl) ?_
    refine zget (ci := 8) (C := RX8) (T := TX8) (v := .ref (ad 8 l0 (1 + 1))) (k := 1) hx hb hts inW_8 hown hK hZ10 g1.1 g1.2 rfl (by decide) k_7_220 rfl (D_180 W_prog_10_method_16_code_64 2 rfl rfl rfl) ?_
    refine lv_iconst (v := iI 3) hx hb (D_6 W_prog_10_method_16_code_64 5 rfl rfl) rfl ?_
    refine zaldQ (t := 1) (ci := 8) (k := 1) hx hb hK rfl hZ10 g1.1 g1.2 rfl (Nat.le_of_ble_eq_true rfl) (by decide) (by decide) (D_50 W_prog_10_method_16_code_64 6 rfl rfl) ?_
    refine W.eq (g2 := F0 m 71 ls [.ref (ad 8 l0 (223 + 1))]) rfl ?_
    refine lv_aload_n hx hb (D_42 W_prog_10_method_16_code_64 7 rfl rfl) rfl (lv_at hl 0 rfl) ?_
    refine zget (ci := 8) (C := RX8) (T := TX8) (v := .int (iI (F 8 l0 2))) (k := 2) hx hb hts inW_8 hown hK hZ10 g1.1 g1.2 rfl (by decide) k_7_223 rfl (D_180 W_prog_10_method_16_code_64 8 rfl rfl rfl) ?_
    refine lv_iload_n hx hb (D_28 W_prog_10_method_16_code_64 11 rfl rfl) rfl (lv_at hl 2 rfl) ?_
    obtain ⟨g11, hf⟩ := gif hf
    refine zi2l hx hb g11 (D_133 W_prog_10_method_16_code_64 12 rfl rfl) ?_
    refine zlast (ci := 8) (k := 223) hx hb hK rfl hZ10 hS10 g1.1 g1.2 rfl (Nat.le_of_ble_eq_true rfl) g5.1 g5.2 (D_80 W_prog_10_method_16_code_64 13 rfl rfl) (fun H12 locs12 hZ12 hS12 => ?_)
    refine lv_aload_n hx hb (D_42 W_prog_10_method_16_code_64 14 rfl rfl) rfl (lv_at hl 0 rfl) ?_
    refine zget (ci := 8) (C := RX8) (T := TX8) (v := .ref (ad 8 l0 (1 + 1))) (k := 1) hx hb hts inW_8 hown hK hZ12 g1.1 g1.2 rfl (by decide) k_7_220 rfl (D_180 W_prog_10_method_16_code_64 15 rfl rfl rfl) ?_
    refine lv_iconst (v := iI 4) hx hb (D_7 W_prog_10_method_16_code_64 18 rfl rfl) rfl ?_
    refine zaldQ (t := 1) (ci := 8) (k := 1) hx hb hK rfl hZ12 g1.1 g1.2 rfl (Nat.le_of_ble_eq_true rfl) (by decide) (by decide) (D_50 W_prog_10_method_16_code_64 19 rfl rfl) ?_
    refine W.eq (g2 := F0 m 84 ls [.ref (ad 8 l0 (224 + 1))]) rfl ?_
    refine lv_aload_n hx hb (D_42 W_prog_10_method_16_code_64 20 rfl rfl) rfl (lv_at hl 0 rfl) ?_
    refine zget (ci := 8) (C := RX8) (T := TX8) (v := .int (iI (F 8 l0 2))) (k := 2) hx hb hts inW_8 hown hK hZ12 g1.1 g1.2 rfl (by decide) k_7_223 rfl (D_180 W_prog_10_method_16_code_64 21 rfl rfl rfl) ?_
    refine lv_aload_n hx hb (D_42 W_prog_10_method_16_code_64 24 rfl rfl) rfl (lv_at hl 0 rfl) ?_
    refine zget (ci := 8) (C := RX8) (T := TX8) (v := .long (lI (F 8 l0 10))) (k := 10) hx hb hts inW_8 hown hK hZ12 g1.1 g1.2 rfl (by decide) k_7_234 rfl (D_180 W_prog_10_method_16_code_64 25 rfl rfl rfl) ?_
    refine zlast (ci := 8) (k := 224) hx hb hK rfl hZ12 hS12 g1.1 g1.2 rfl (Nat.le_of_ble_eq_true rfl) g5.1 g5.2 (D_80 W_prog_10_method_16_code_64 28 rfl rfl) (fun H13 locs13 hZ13 hS13 => ?_)
    refine lv_aload_n hx hb (D_42 W_prog_10_method_16_code_64 29 rfl rfl) rfl (lv_at hl 0 rfl) ?_
    refine zget (ci := 8) (C := RX8) (T := TX8) (v := .ref (ad 8 l0 (1 + 1))) (k := 1) hx hb hts inW_8 hown hK hZ13 g1.1 g1.2 rfl (by decide) k_7_220 rfl (D_180 W_prog_10_method_16_code_64 30 rfl rfl rfl) ?_
    refine lv_iconst (v := iI 5) hx hb (D_8 W_prog_10_method_16_code_96 1 rfl rfl) rfl ?_
    refine zaldQ (t := 1) (ci := 8) (k := 1) hx hb hK rfl hZ13 g1.1 g1.2 rfl (Nat.le_of_ble_eq_true rfl) (by decide) (by decide) (D_50 W_prog_10_method_16_code_96 2 rfl rfl) ?_
    refine W.eq (g2 := F0 m 99 ls [.ref (ad 8 l0 (225 + 1))]) rfl ?_
    refine lv_aload_n hx hb (D_42 W_prog_10_method_16_code_96 3 rfl rfl) rfl (lv_at hl 0 rfl) ?_
    refine zget (ci := 8) (C := RX8) (T := TX8) (v := .int (iI (F 8 l0 2))) (k := 2) hx hb hts inW_8 hown hK hZ13 g1.1 g1.2 rfl (by decide) k_7_223 rfl (D_180 W_prog_10_method_16_code_96 4 rfl rfl rfl) ?_
    refine lv_ldc2 hx hb hown (hts _ k_8_121) (D_20 W_prog_10_method_16_code_96 7 rfl rfl rfl) ?_
    refine W.eq (g2 := F0 m 106 ls [.long (lI (-1)), .int (iI (F 8 l0 2)), .ref (ad 8 l0 (225 + 1))]) rfl ?_
    refine zlast (ci := 8) (k := 225) hx hb hK rfl hZ13 hS13 g1.1 g1.2 rfl (Nat.le_of_ble_eq_true rfl) g5.1 g5.2 (D_80 W_prog_10_method_16_code_96 10 rfl rfl) (fun H14 locs14 hZ14 hS14 => ?_)
    refine lv_aload_n hx hb (D_42 W_prog_10_method_16_code_96 11 rfl rfl) rfl (lv_at hl 0 rfl) ?_
    refine lv_dup hx hb (D_89 W_prog_10_method_16_code_96 12 rfl rfl) rfl ?_
    refine zget (ci := 8) (C := RX8) (T := TX8) (v := .int (iI (F 8 l0 2))) (k := 2) hx hb hts inW_8 hown hK hZ14 g1.1 g1.2 rfl (by decide) k_7_223 rfl (D_180 W_prog_10_method_16_code_96 13 rfl rfl rfl) ?_
    refine lv_iconst (v := iI 1) hx hb (D_4 W_prog_10_method_16_code_96 16 rfl rfl) rfl ?_
    refine zadd hx hb (D_96 W_prog_10_method_16_code_96 17 rfl rfl) ?_
    refine zput (ci := 8) (C := RX8) (T := TX8) (k := 2) (v := ((F 8 l0 2) + 1)) (w := .int (iI ((F 8 l0 2) + 1))) hx hb hts inW_8 tyX8 tyX8_ok nmX8 hown hK hZ14 hS14 g1.1 g1.2 rfl (by decide) k_7_223 rfl (fun G h => congrArg (fun q => Value.int (iI q)) h) rfl rfl (zno (by decide)) (D_181 W_prog_10_method_16_code_96 18 rfl rfl rfl) (fun H15 locs15 hZ15 hS15 => ?_)
    cases hf
    exact W.vret hx hb hr (fun t ht hW => ⟨⟨(), rfl, trivial, by rw [ht]; exact hZ15, va_K.moved hW.alike hK⟩, hS15.F ht⟩) hS15.2.2 (D_177 W_prog_10_method_16_code_96 21 rfl rfl) hlk
  · replace hf := gneg hf h3
    refine lv_aload_n hx hb (D_42 W_prog_10_method_16_code_0 10 rfl rfl) rfl (lv_at hl 0 rfl) ?_
    refine lv_iconst (v := iI 3) hx hb (D_6 W_prog_10_method_16_code_0 11 rfl rfl) rfl ?_
    refine lv_iload_n hx hb (D_29 W_prog_10_method_16_code_0 12 rfl rfl) rfl (lv_at hl 3 rfl) ?_
    obtain ⟨r16, F16, B16, hc16, hf⟩ := gbind hf
    refine va_callv (va_runV (As := [.int (iI 3), .int (iI l3)]) (rest := []) ⟨hx, hb, hml, hown, hts⟩ (c_SoundFile_refuse (l := l) hc16) (cwV 2 hts (gdV k_8_53 k_8_55 ks_96 k_1_23 k_8_56) rfl rfl rfl (by decide +kernel) ⟨Nat.le_of_ble_eq_true rfl, Nat.le_of_ble_eq_true rfl⟩) (zPV X hZ hS (ci := 8) g1.1 g1.2 (r := (RX8, TX8, 15)) rfl [.int (iI 3), .int (iI l3)]) rfl rfl hl.1 rfl (lv_room (Nat.le_of_ble_eq_true rfl)) (D_182 W_prog_10_method_16_code_0 13 rfl rfl rfl) ⟨Nat.le_of_ble_eq_true rfl, Nat.le_of_ble_eq_true rfl⟩) hS (fun q _ h => zAin X hS q h) (zAin X hS) (fun u16 t16 H16 locs16 ht16 hv16 hw16 hB16 hz16 hk16 hS16 => ?_)
    have hZ16 := zBack X ht16 hB16
    cases hf
    exact W.vret hx hb hr (fun t ht hW => ⟨⟨(), rfl, trivial, by rw [ht]; exact hZ16, va_K.moved hW.alike hK⟩, hS16.F ht⟩) hS16.2.2 (D_177 W_prog_10_method_16_code_0 16 rfl rfl) hlk

abbrev Q_SoundFile_endSound (K : zK) (D : va_G) (ca : Nat → ClassId) (ad : Nat → Int → Nat → Nat) (L : List Nat) (r : Int) (F : zF) (B : zB) (A : Nat → Prop) : Array Value → State → Outcome → State → Prop := va_Qv (S := Unit) (fun _ => True) (fun _ => zPo D ca ad lnC K.2 L F B A) A
def f_SoundFile_endSound_84 (rec2 : Int → Int → Int → zF → zB → zO) (K : zK) (l3 : Int) (l0 : Int) (l1 : Int) (F : zF) (B : zB) : zO := rec2 (l3 + 1) l0 l1 F B
set_option maxHeartbeats 4000000 in
set_option maxRecDepth 100000 in
theorem b_SoundFile_endSound_84 {D : va_G} {ca : Nat → ClassId} {ad : Nat → Int → Nat → Nat} {L : List Nat} {aS vS : Nat → Nat} {A : Nat → Prop} {p : Program} {l : Launch} {e : Env} {s : State} {m : MethodId} {args : Array Value} {below : List Frame} {meth : Method} {c : Code} {K : zK} {r : Int} {F9 : zF} {B9 : zB} (X : zX D ca L aS vS A p s m args meth c prog_10_method_17_code 5 (Option.none : Option Jvm.ClassFile.FieldType) "StaveHouse$SoundFile") {rec2 : Int → Int → Int → zF → zB → zO} (hrec2 : ∀ {l3 : Int} {l0 : Int} {l1 : Int} {F : zF} {B : zB} {H : Heap} {locs : List Loc} {ls : Array Slot}, rec2 l3 l0 l1 F B = some (r, F9, B9) → zH D ca ad lnC K.2 L F B A H → va_S A s.heap H locs → lv_has ls 5 [(3, .int (iI l3)), (0, .ref (ad 8 l0 0)), (1, .int (iI l1))] → W p l e ({ frames := 0, cells := 0, slots := 0, locals := 0 } : Room) s m args below meth c H locs 0 0 (MQ below (Q_SoundFile_endSound K D ca ad L r F9 B9 A) args s 0 0 A) (F0 m 2 ls [])) {l3 : Int} {l0 : Int} {l1 : Int} {F : zF} {B : zB} {H : Heap} {locs : List Loc} {ls : Array Slot} (hf : f_SoundFile_endSound_84 rec2 K l3 l0 l1 F B = some (r, F9, B9)) (hZ : zH D ca ad lnC K.2 L F B A H) (hS : va_S A s.heap H locs) (hl : lv_has ls 5 [(3, .int (iI l3)), (0, .ref (ad 8 l0 0)), (1, .int (iI l1))]) : W p l e ({ frames := 0, cells := 0, slots := 0, locals := 0 } : Room) s m args below meth c H locs 0 0 (MQ below (Q_SoundFile_endSound K D ca ad L r F9 B9 A) args s 0 0 A) (F0 m 84 ls []) := by
  obtain ⟨hx, hb, hr, hml, hown, hts, hlk, hK, hA, hL, hX⟩ := id X
  replace hf : (rec2 (l3 + 1) l0 l1 F B) = some (r, F9, B9) := hf
  refine lv_iinc (v := iI (l3 + 1)) (lv' := [(3, .int (iI (l3 + 1))), (0, .ref (ad 8 l0 0)), (1, .int (iI l1))]) hx hb d_10_17_84 hl (k := 0) rfl (iI_add _ 1) (by decide) rfl (fun ls hl => ?_)
  refine lv_goto (tgt := 2) hx hb (D_167 W_prog_10_method_17_code_64 23 rfl rfl rfl) (by decide) ?_
  exact hrec2 hf hZ hS (lv_sub hl [0, 1, 2] rfl)

def f_SoundFile_endSound_49 (rec2 : Int → Int → Int → zF → zB → zO) (K : zK) (l3 : Int) (l0 : Int) (l1 : Int) (s0 : Int) (F : zF) (B : zB) : zO := if r32 s0 then (if s0 = 0 then f_SoundFile_endSound_84 rec2 K l3 l0 l1 F B else if 0 ≤ l0 ∧ l0 < K.2 8 then if 0 ≤ l3 ∧ l3 < 400 then if r64 (B 8 l0 225 l3) then (if (zcmp (B 8 l0 225 l3) (-1)) = 0 then some (0, F, (zup4 B 8 l0 225 l3 (F 8 l0 10))) else f_SoundFile_endSound_84 rec2 K l3 l0 l1 F B) else none else none else none) else none
set_option maxHeartbeats 4000000 in
set_option maxRecDepth 100000 in
theorem b_SoundFile_endSound_49 {D : va_G} {ca : Nat → ClassId} {ad : Nat → Int → Nat → Nat} {L : List Nat} {aS vS : Nat → Nat} {A : Nat → Prop} {p : Program} {l : Launch} {e : Env} {s : State} {m : MethodId} {args : Array Value} {below : List Frame} {meth : Method} {c : Code} {K : zK} {r : Int} {F9 : zF} {B9 : zB} (X : zX D ca L aS vS A p s m args meth c prog_10_method_17_code 5 (Option.none : Option Jvm.ClassFile.FieldType) "StaveHouse$SoundFile") {rec2 : Int → Int → Int → zF → zB → zO} (hrec2 : ∀ {l3 : Int} {l0 : Int} {l1 : Int} {F : zF} {B : zB} {H : Heap} {locs : List Loc} {ls : Array Slot}, rec2 l3 l0 l1 F B = some (r, F9, B9) → zH D ca ad lnC K.2 L F B A H → va_S A s.heap H locs → lv_has ls 5 [(3, .int (iI l3)), (0, .ref (ad 8 l0 0)), (1, .int (iI l1))] → W p l e ({ frames := 0, cells := 0, slots := 0, locals := 0 } : Room) s m args below meth c H locs 0 0 (MQ below (Q_SoundFile_endSound K D ca ad L r F9 B9 A) args s 0 0 A) (F0 m 2 ls [])) {l3 : Int} {l0 : Int} {l1 : Int} {s0 : Int} {F : zF} {B : zB} {H : Heap} {locs : List Loc} {ls : Array Slot} (hf : f_SoundFile_endSound_49 rec2 K l3 l0 l1 s0 F B = some (r, F9, B9)) (hZ : zH D ca ad lnC K.2 L F B A H) (hS : va_S A s.heap H locs) (hl : lv_has ls 5 [(3, .int (iI l3)), (0, .ref (ad 8 l0 0)), (1, .int (iI l1))]) : W p l e ({ frames := 0, cells := 0, slots := 0, locals := 0 } : Room) s m args below meth c H locs 0 0 (MQ below (Q_SoundFile_endSound K D ca ad L r F9 B9 A) args s 0 0 A) (F0 m 49 ls [.int (iI s0)]) := by
  obtain ⟨hx, hb, hr, hml, hown, hts, hlk, hK, hA, hL, hX⟩ := id X
  replace hf : (if r32 s0 then (if s0 = 0 then f_SoundFile_endSound_84 rec2 K l3 l0 l1 F B else if 0 ≤ l0 ∧ l0 < K.2 8 then if 0 ≤ l3 ∧ l3 < 400 then if r64 (B 8 l0 225 l3) then (if (zcmp (B 8 l0 225 l3) (-1)) = 0 then some (0, F, (zup4 B 8 l0 225 l3 (F 8 l0 10))) else f_SoundFile_endSound_84 rec2 K l3 l0 l1 F B) else none else none else none) else none) = some (r, F9, B9) := hf
  refine lv_istore (lv' := [(4, .int (iI s0)), (3, .int (iI l3)), (0, .ref (ad 8 l0 0)), (1, .int (iI l1))]) hx hb (D_54 W_prog_10_method_17_code_32 17 rfl rfl) hl (by decide) rfl (fun ls hl => ?_)
  refine lv_iload hx hb (D_21 W_prog_10_method_17_code_32 19 rfl rfl) (lv_at hl 0 rfl) ?_
  obtain ⟨g14, hf⟩ := gif hf
  refine z0eq (tgt := 84) hx hb g14 (D_153 W_prog_10_method_17_code_32 21 rfl rfl rfl) (by decide) (fun h15 => ?_) (fun h15 => ?_)
  · replace hf := gpos hf h15
    exact b_SoundFile_endSound_84 X hrec2 hf hZ hS (lv_sub hl [1, 2, 3] rfl)
  · replace hf := gneg hf h15
    refine lv_aload_n hx hb (D_42 W_prog_10_method_17_code_32 24 rfl rfl) rfl (lv_at hl 2 rfl) ?_
    obtain ⟨g16, hf⟩ := gif hf
    refine zget (ci := 8) (C := RX8) (T := TX8) (v := .ref (ad 8 l0 (1 + 1))) (k := 1) hx hb hts inW_8 hown hK hZ g16.1 g16.2 rfl (by decide) k_7_220 rfl (D_180 W_prog_10_method_17_code_32 25 rfl rfl rfl) ?_
    refine lv_iconst (v := iI 5) hx hb (D_8 W_prog_10_method_17_code_32 28 rfl rfl) rfl ?_
    refine zaldQ (t := 1) (ci := 8) (k := 1) hx hb hK rfl hZ g16.1 g16.2 rfl (Nat.le_of_ble_eq_true rfl) (by decide) (by decide) (D_50 W_prog_10_method_17_code_32 29 rfl rfl) ?_
    refine W.eq (g2 := F0 m 62 ls [.ref (ad 8 l0 (225 + 1))]) rfl ?_
    refine lv_iload_n hx hb (D_29 W_prog_10_method_17_code_32 30 rfl rfl) rfl (lv_at hl 1 rfl) ?_
    obtain ⟨g17, hf⟩ := gif hf
    refine zlald (ci := 8) (k := 225) hx hb hK rfl hZ g16.1 g16.2 rfl (Nat.le_of_ble_eq_true rfl) g17.1 g17.2 (D_47 W_prog_10_method_17_code_32 31 rfl rfl) ?_
    refine lv_ldc2 hx hb hown (hts _ k_8_121) (D_20 W_prog_10_method_17_code_64 0 rfl rfl rfl) ?_
    refine W.eq (g2 := F0 m 67 ls [.long (lI (-1)), .long (lI (B 8 l0 225 l3))]) rfl ?_
    obtain ⟨g18, hf⟩ := gif hf
    refine zcmp_r hx hb g18 (by decide) (D_148 W_prog_10_method_17_code_64 3 rfl rfl) ?_
    refine z0ne (tgt := 84) hx hb zcmp_32 (D_154 W_prog_10_method_17_code_64 4 rfl rfl rfl) (by decide) (fun h19 => ?_) (fun h19 => ?_)
    · replace hf := gneg hf h19
      exact b_SoundFile_endSound_84 X hrec2 hf hZ hS (lv_sub hl [1, 2, 3] rfl)
    · replace hf := gpos hf h19
      refine lv_aload_n hx hb (D_42 W_prog_10_method_17_code_64 7 rfl rfl) rfl (lv_at hl 2 rfl) ?_
      refine zget (ci := 8) (C := RX8) (T := TX8) (v := .ref (ad 8 l0 (1 + 1))) (k := 1) hx hb hts inW_8 hown hK hZ g16.1 g16.2 rfl (by decide) k_7_220 rfl (D_180 W_prog_10_method_17_code_64 8 rfl rfl rfl) ?_
      refine lv_iconst (v := iI 5) hx hb (D_8 W_prog_10_method_17_code_64 11 rfl rfl) rfl ?_
      refine zaldQ (t := 1) (ci := 8) (k := 1) hx hb hK rfl hZ g16.1 g16.2 rfl (Nat.le_of_ble_eq_true rfl) (by decide) (by decide) (D_50 W_prog_10_method_17_code_64 12 rfl rfl) ?_
      refine W.eq (g2 := F0 m 77 ls [.ref (ad 8 l0 (225 + 1))]) rfl ?_
      refine lv_iload_n hx hb (D_29 W_prog_10_method_17_code_64 13 rfl rfl) rfl (lv_at hl 1 rfl) ?_
      refine lv_aload_n hx hb (D_42 W_prog_10_method_17_code_64 14 rfl rfl) rfl (lv_at hl 2 rfl) ?_
      refine zget (ci := 8) (C := RX8) (T := TX8) (v := .long (lI (F 8 l0 10))) (k := 10) hx hb hts inW_8 hown hK hZ g16.1 g16.2 rfl (by decide) k_7_234 rfl (D_180 W_prog_10_method_17_code_64 15 rfl rfl rfl) ?_
      refine zlast (ci := 8) (k := 225) hx hb hK rfl hZ hS g16.1 g16.2 rfl (Nat.le_of_ble_eq_true rfl) g17.1 g17.2 (D_80 W_prog_10_method_17_code_64 18 rfl rfl) (fun H20 locs20 hZ20 hS20 => ?_)
      cases hf
      exact W.vret hx hb hr (fun t ht hW => ⟨⟨(), rfl, trivial, by rw [ht]; exact hZ20, va_K.moved hW.alike hK⟩, hS20.F ht⟩) hS20.2.2 (D_177 W_prog_10_method_17_code_64 19 rfl rfl) hlk

def f_SoundFile_endSound_48 (rec2 : Int → Int → Int → zF → zB → zO) (K : zK) (l3 : Int) (l0 : Int) (l1 : Int) (F : zF) (B : zB) : zO := f_SoundFile_endSound_49 rec2 K l3 l0 l1 0 F B
set_option maxHeartbeats 4000000 in
set_option maxRecDepth 100000 in
theorem b_SoundFile_endSound_48 {D : va_G} {ca : Nat → ClassId} {ad : Nat → Int → Nat → Nat} {L : List Nat} {aS vS : Nat → Nat} {A : Nat → Prop} {p : Program} {l : Launch} {e : Env} {s : State} {m : MethodId} {args : Array Value} {below : List Frame} {meth : Method} {c : Code} {K : zK} {r : Int} {F9 : zF} {B9 : zB} (X : zX D ca L aS vS A p s m args meth c prog_10_method_17_code 5 (Option.none : Option Jvm.ClassFile.FieldType) "StaveHouse$SoundFile") {rec2 : Int → Int → Int → zF → zB → zO} (hrec2 : ∀ {l3 : Int} {l0 : Int} {l1 : Int} {F : zF} {B : zB} {H : Heap} {locs : List Loc} {ls : Array Slot}, rec2 l3 l0 l1 F B = some (r, F9, B9) → zH D ca ad lnC K.2 L F B A H → va_S A s.heap H locs → lv_has ls 5 [(3, .int (iI l3)), (0, .ref (ad 8 l0 0)), (1, .int (iI l1))] → W p l e ({ frames := 0, cells := 0, slots := 0, locals := 0 } : Room) s m args below meth c H locs 0 0 (MQ below (Q_SoundFile_endSound K D ca ad L r F9 B9 A) args s 0 0 A) (F0 m 2 ls [])) {l3 : Int} {l0 : Int} {l1 : Int} {F : zF} {B : zB} {H : Heap} {locs : List Loc} {ls : Array Slot} (hf : f_SoundFile_endSound_48 rec2 K l3 l0 l1 F B = some (r, F9, B9)) (hZ : zH D ca ad lnC K.2 L F B A H) (hS : va_S A s.heap H locs) (hl : lv_has ls 5 [(3, .int (iI l3)), (0, .ref (ad 8 l0 0)), (1, .int (iI l1))]) : W p l e ({ frames := 0, cells := 0, slots := 0, locals := 0 } : Room) s m args below meth c H locs 0 0 (MQ below (Q_SoundFile_endSound K D ca ad L r F9 B9 A) args s 0 0 A) (F0 m 48 ls []) := by
  obtain ⟨hx, hb, hr, hml, hown, hts, hlk, hK, hA, hL, hX⟩ := id X
  replace hf : (f_SoundFile_endSound_49 rec2 K l3 l0 l1 0 F B) = some (r, F9, B9) := hf
  refine lv_iconst (v := iI 0) hx hb (D_3 W_prog_10_method_17_code_32 16 rfl rfl) rfl ?_
  exact b_SoundFile_endSound_49 X hrec2 hf hZ hS (lv_sub hl [0, 1, 2] rfl)

def f_SoundFile_endSound_2 (K : zK) : Nat → Int → Int → Int → zF → zB → zO
  | 0, _, _, _, _, _ => none
  | n + 1, l3, l0, l1, F, B => if 0 ≤ l0 ∧ l0 < K.2 8 then if r32 l3 then if r32 (F 8 l0 2) then (if (F 8 l0 2) ≤ l3 then some (0, F, B) else if 0 ≤ l3 ∧ l3 < 400 then if r32 l1 then if r64 (B 8 l0 222 l3) then if r64 l1 then (if (zcmp (B 8 l0 222 l3) l1) = 0 then if r32 (zrm (F 8 l0 9) 16) then if r64 (B 8 l0 221 l3) then if r64 (zrm (F 8 l0 9) 16) then (if (zcmp (B 8 l0 221 l3) (zrm (F 8 l0 9) 16)) = 0 then f_SoundFile_endSound_49 (f_SoundFile_endSound_2 K n) K l3 l0 l1 1 F B else f_SoundFile_endSound_48 (f_SoundFile_endSound_2 K n) K l3 l0 l1 F B) else none else none else none else f_SoundFile_endSound_48 (f_SoundFile_endSound_2 K n) K l3 l0 l1 F B) else none else none else none else none) else none else none else none
set_option maxHeartbeats 4000000 in
set_option maxRecDepth 100000 in
theorem b_SoundFile_endSound_2 {D : va_G} {ca : Nat → ClassId} {ad : Nat → Int → Nat → Nat} {L : List Nat} {aS vS : Nat → Nat} {A : Nat → Prop} {p : Program} {l : Launch} {e : Env} {s : State} {m : MethodId} {args : Array Value} {below : List Frame} {meth : Method} {c : Code} {K : zK} {r : Int} {F9 : zF} {B9 : zB} (X : zX D ca L aS vS A p s m args meth c prog_10_method_17_code 5 (Option.none : Option Jvm.ClassFile.FieldType) "StaveHouse$SoundFile") : ∀ {n : Nat} {l3 : Int} {l0 : Int} {l1 : Int} {F : zF} {B : zB} {H : Heap} {locs : List Loc} {ls : Array Slot}, f_SoundFile_endSound_2 K n l3 l0 l1 F B = some (r, F9, B9) → zH D ca ad lnC K.2 L F B A H → va_S A s.heap H locs → lv_has ls 5 [(3, .int (iI l3)), (0, .ref (ad 8 l0 0)), (1, .int (iI l1))] → W p l e ({ frames := 0, cells := 0, slots := 0, locals := 0 } : Room) s m args below meth c H locs 0 0 (MQ below (Q_SoundFile_endSound K D ca ad L r F9 B9 A) args s 0 0 A) (F0 m 2 ls []) := by
  obtain ⟨hx, hb, hr, hml, hown, hts, hlk, hK, hA, hL, hX⟩ := id X
  intro n
  induction n with
  | zero =>
    intros
    rename_i hf _ _ _
    cases hf
  | succ n ih =>
    intro l3 l0 l1 F B H locs ls hf hZ hS hl
    replace hf : (if 0 ≤ l0 ∧ l0 < K.2 8 then if r32 l3 then if r32 (F 8 l0 2) then (if (F 8 l0 2) ≤ l3 then some (0, F, B) else if 0 ≤ l3 ∧ l3 < 400 then if r32 l1 then if r64 (B 8 l0 222 l3) then if r64 l1 then (if (zcmp (B 8 l0 222 l3) l1) = 0 then if r32 (zrm (F 8 l0 9) 16) then if r64 (B 8 l0 221 l3) then if r64 (zrm (F 8 l0 9) 16) then (if (zcmp (B 8 l0 221 l3) (zrm (F 8 l0 9) 16)) = 0 then f_SoundFile_endSound_49 (f_SoundFile_endSound_2 K n) K l3 l0 l1 1 F B else f_SoundFile_endSound_48 (f_SoundFile_endSound_2 K n) K l3 l0 l1 F B) else none else none else none else f_SoundFile_endSound_48 (f_SoundFile_endSound_2 K n) K l3 l0 l1 F B) else none else none else none else none) else none else none else none) = some (r, F9, B9) := hf
    refine lv_iload_n hx hb (D_29 W_prog_10_method_17_code_0 2 rfl rfl) rfl (lv_at hl 0 rfl) ?_
    refine lv_aload_n hx hb (D_42 W_prog_10_method_17_code_0 3 rfl rfl) rfl (lv_at hl 1 rfl) ?_
    obtain ⟨g1, hf⟩ := gif hf
    refine zget (ci := 8) (C := RX8) (T := TX8) (v := .int (iI (F 8 l0 2))) (k := 2) hx hb hts inW_8 hown hK hZ g1.1 g1.2 rfl (by decide) k_7_223 rfl (D_180 W_prog_10_method_17_code_0 4 rfl rfl rfl) ?_
    obtain ⟨g2, hf⟩ := gif hf
    obtain ⟨g3, hf⟩ := gif hf
    refine zge (tgt := 90) hx hb g2 g3 (D_162 W_prog_10_method_17_code_0 7 rfl rfl rfl) (by decide) (fun h4 => ?_) (fun h4 => ?_)
    · replace hf := gpos hf h4
      cases hf
      exact W.vret hx hb hr (fun t ht hW => ⟨⟨(), rfl, trivial, by rw [ht]; exact hZ, va_K.moved hW.alike hK⟩, hS.F ht⟩) hS.2.2 (D_177 W_prog_10_method_17_code_64 26 rfl rfl) hlk
    · replace hf := gneg hf h4
      refine lv_aload_n hx hb (D_42 W_prog_10_method_17_code_0 10 rfl rfl) rfl (lv_at hl 1 rfl) ?_
      refine zget (ci := 8) (C := RX8) (T := TX8) (v := .ref (ad 8 l0 (1 + 1))) (k := 1) hx hb hts inW_8 hown hK hZ g1.1 g1.2 rfl (by decide) k_7_220 rfl (D_180 W_prog_10_method_17_code_0 11 rfl rfl rfl) ?_
      refine lv_iconst (v := iI 2) hx hb (D_5 W_prog_10_method_17_code_0 14 rfl rfl) rfl ?_
      refine zaldQ (t := 1) (ci := 8) (k := 1) hx hb hK rfl hZ g1.1 g1.2 rfl (Nat.le_of_ble_eq_true rfl) (by decide) (by decide) (D_50 W_prog_10_method_17_code_0 15 rfl rfl) ?_
      refine W.eq (g2 := F0 m 16 ls [.ref (ad 8 l0 (222 + 1))]) rfl ?_
      refine lv_iload_n hx hb (D_29 W_prog_10_method_17_code_0 16 rfl rfl) rfl (lv_at hl 0 rfl) ?_
      obtain ⟨g5, hf⟩ := gif hf
      refine zlald (ci := 8) (k := 222) hx hb hK rfl hZ g1.1 g1.2 rfl (Nat.le_of_ble_eq_true rfl) g5.1 g5.2 (D_47 W_prog_10_method_17_code_0 17 rfl rfl) ?_
      refine lv_iload_n hx hb (D_27 W_prog_10_method_17_code_0 18 rfl rfl) rfl (lv_at hl 2 rfl) ?_
      obtain ⟨g6, hf⟩ := gif hf
      refine zi2l hx hb g6 (D_133 W_prog_10_method_17_code_0 19 rfl rfl) ?_
      obtain ⟨g7, hf⟩ := gif hf
      obtain ⟨g8, hf⟩ := gif hf
      refine zcmp_r hx hb g7 g8 (D_148 W_prog_10_method_17_code_0 20 rfl rfl) ?_
      refine z0ne (tgt := 48) hx hb zcmp_32 (D_154 W_prog_10_method_17_code_0 21 rfl rfl rfl) (by decide) (fun h9 => ?_) (fun h9 => ?_)
      · replace hf := gneg hf h9
        exact b_SoundFile_endSound_48 X ih hf hZ hS (lv_sub hl [0, 1, 2] rfl)
      · replace hf := gpos hf h9
        refine lv_aload_n hx hb (D_42 W_prog_10_method_17_code_0 24 rfl rfl) rfl (lv_at hl 1 rfl) ?_
        refine zget (ci := 8) (C := RX8) (T := TX8) (v := .ref (ad 8 l0 (1 + 1))) (k := 1) hx hb hts inW_8 hown hK hZ g1.1 g1.2 rfl (by decide) k_7_220 rfl (D_180 W_prog_10_method_17_code_0 25 rfl rfl rfl) ?_
        refine lv_iconst (v := iI 1) hx hb (D_4 W_prog_10_method_17_code_0 28 rfl rfl) rfl ?_
        refine zaldQ (t := 1) (ci := 8) (k := 1) hx hb hK rfl hZ g1.1 g1.2 rfl (Nat.le_of_ble_eq_true rfl) (by decide) (by decide) (D_50 W_prog_10_method_17_code_0 29 rfl rfl) ?_
        refine W.eq (g2 := F0 m 30 ls [.ref (ad 8 l0 (221 + 1))]) rfl ?_
        refine lv_iload_n hx hb (D_29 W_prog_10_method_17_code_0 30 rfl rfl) rfl (lv_at hl 0 rfl) ?_
        refine zlald (ci := 8) (k := 221) hx hb hK rfl hZ g1.1 g1.2 rfl (Nat.le_of_ble_eq_true rfl) g5.1 g5.2 (D_47 W_prog_10_method_17_code_0 31 rfl rfl) ?_
        refine lv_aload_n hx hb (D_42 W_prog_10_method_17_code_32 0 rfl rfl) rfl (lv_at hl 1 rfl) ?_
        refine zget (ci := 8) (C := RX8) (T := TX8) (v := .int (iI (F 8 l0 9))) (k := 9) hx hb hts inW_8 hown hK hZ g1.1 g1.2 rfl (by decide) k_7_233 rfl (D_180 W_prog_10_method_17_code_32 1 rfl rfl rfl) ?_
        refine lv_bipush (v := iI 16) hx hb (D_16 W_prog_10_method_17_code_32 4 rfl rfl rfl) (by decide) ?_
        refine zrm_r hx hb (by decide) (D_112 W_prog_10_method_17_code_32 6 rfl rfl) ?_
        obtain ⟨g10, hf⟩ := gif hf
        refine zi2l hx hb g10 (D_133 W_prog_10_method_17_code_32 7 rfl rfl) ?_
        obtain ⟨g11, hf⟩ := gif hf
        obtain ⟨g12, hf⟩ := gif hf
        refine zcmp_r hx hb g11 g12 (D_148 W_prog_10_method_17_code_32 8 rfl rfl) ?_
        refine z0ne (tgt := 48) hx hb zcmp_32 (D_154 W_prog_10_method_17_code_32 9 rfl rfl rfl) (by decide) (fun h13 => ?_) (fun h13 => ?_)
        · replace hf := gneg hf h13
          exact b_SoundFile_endSound_48 X ih hf hZ hS (lv_sub hl [0, 1, 2] rfl)
        · replace hf := gpos hf h13
          refine lv_iconst (v := iI 1) hx hb (D_4 W_prog_10_method_17_code_32 12 rfl rfl) rfl ?_
          refine lv_goto (tgt := 49) hx hb (D_167 W_prog_10_method_17_code_32 13 rfl rfl rfl) (by decide) ?_
          exact b_SoundFile_endSound_49 X ih hf hZ hS (lv_sub hl [0, 1, 2] rfl)

def f_SoundFile_endSound (K : zK) (l0 : Int) (l1 : Int) (l2 : Int) (F : zF) (B : zB) : zO := f_SoundFile_endSound_2 K K.1 l2 l0 l1 F B
set_option maxHeartbeats 4000000 in
set_option maxRecDepth 100000 in
theorem c_SoundFile_endSound {l : Launch} {D : va_G} {ca : Nat → ClassId} {ad : Nat → Int → Nat → Nat} {L : List Nat} {aS vS : Nat → Nat} {sz : Nat} {K : zK}  {l0 : Int} {l1 : Int} {l2 : Int} {F F9 : zF} {B B9 : zB} {r : Int} (hf : f_SoundFile_endSound K l0 l1 l2 F B = some (r, F9, B9)) : Met l ({ cls := "StaveHouse$SoundFile", name := "endSound", desc := "(II)V" } : Jvm.MethodName) (Cond.code ({ cls := "StaveHouse$SoundFile", name := "endSound", desc := "(II)V" } : Jvm.MethodName) prog_10_method_17_code 5 (Option.none : Option Jvm.ClassFile.FieldType) :: wAll) ({ frames := 0, cells := 0, slots := 0, locals := 0 } : Room) (va_Pc [.ref (ad 8 l0 0), .int (iI l1), .int (iI l2)] (zPre D ca ad lnC K.2 L aS vS F B sz)) (Q_SoundFile_endSound K D ca ad L r F9 B9 (zA L sz)) 0 0 (zA L sz) := by
  refine zMet (Qc := Q_SoundFile_endSound K D ca ad L r F9 B9) (lv := [(0, .ref (ad 8 l0 0)), (1, .int (iI l1)), (2, .int (iI l2))]) (by decide) (Nat.le_of_ble_eq_true rfl) rfl (fun A p e s m below meth c ls X hZ hS hl => ?_)
  obtain ⟨hx, hb, hr, hml, hown, hts, hlk, hK, hA, hL, hX⟩ := id X
  replace hf : (f_SoundFile_endSound_2 K K.1 l2 l0 l1 F B) = some (r, F9, B9) := hf
  refine lv_iload_n hx hb (D_28 W_prog_10_method_17_code_0 0 rfl rfl) rfl (lv_at hl 2 rfl) ?_
  refine lv_istore_n (lv' := [(3, .int (iI l2)), (0, .ref (ad 8 l0 0)), (1, .int (iI l1)), (2, .int (iI l2))]) hx hb (D_62 W_prog_10_method_17_code_0 1 rfl rfl) rfl hl (by decide) rfl (fun ls hl => ?_)
  exact b_SoundFile_endSound_2 X hf hZ hS (lv_sub hl [0, 1, 2] rfl)

abbrev Q_S_track (K : zK) (D : va_G) (ca : Nat → ClassId) (ad : Nat → Int → Nat → Nat) (L : List Nat) (r : Int) (F : zF) (B : zB) (A : Nat → Prop) : Array Value → State → Outcome → State → Prop := va_Qi (S := Unit) (fun p _ => p = iI r) (fun _ => zPo D ca ad lnC K.2 L F B A) A
def f_S_track_45 (K : zK) (s0 : Int) (F : zF) (B : zB) : zO := some (s0, F, B)
set_option maxHeartbeats 4000000 in
set_option maxRecDepth 100000 in
theorem b_S_track_45 {D : va_G} {ca : Nat → ClassId} {ad : Nat → Int → Nat → Nat} {L : List Nat} {aS vS : Nat → Nat} {A : Nat → Prop} {p : Program} {l : Launch} {e : Env} {s : State} {m : MethodId} {args : Array Value} {below : List Frame} {meth : Method} {c : Code} {K : zK} {r : Int} {F9 : zF} {B9 : zB} (X : zX D ca L aS vS A p s m args meth c prog_1_method_25_code 2 (Option.some Jvm.ClassFile.FieldType.int) "StaveHouse") {s0 : Int} {F : zF} {B : zB} {H : Heap} {locs : List Loc} {ls : Array Slot} (hf : f_S_track_45 K s0 F B = some (r, F9, B9)) (hZ : zH D ca ad lnC K.2 L F B A H) (hS : va_S A s.heap H locs) (hl : lv_has ls 2 []) : W p l e ({ frames := 0, cells := 0, slots := 0, locals := 0 } : Room) s m args below meth c H locs 0 0 (MQ below (Q_S_track K D ca ad L r F9 B9 A) args s 0 0 A) (F0 m 45 ls [.int (iI s0)]) := by
  obtain ⟨hx, hb, hr, hml, hown, hts, hlk, hK, hA, hL, hX⟩ := id X
  replace hf : (some (s0, F, B)) = some (r, F9, B9) := hf
  cases hf
  exact W.iret hx hb hr (fun t ht hW => ⟨⟨_, (), rfl, rfl, by rw [ht]; exact hZ, va_K.moved hW.alike hK⟩, hS.F ht⟩) hS.2.2 (D_172 W_prog_1_method_25_code_32 13 rfl rfl) hlk

def f_S_track_17 (K : zK)  (F : zF) (B : zB) : zO := some ((-2147483648), F, B)
set_option maxHeartbeats 4000000 in
set_option maxRecDepth 100000 in
theorem b_S_track_17 {D : va_G} {ca : Nat → ClassId} {ad : Nat → Int → Nat → Nat} {L : List Nat} {aS vS : Nat → Nat} {A : Nat → Prop} {p : Program} {l : Launch} {e : Env} {s : State} {m : MethodId} {args : Array Value} {below : List Frame} {meth : Method} {c : Code} {K : zK} {r : Int} {F9 : zF} {B9 : zB} (X : zX D ca L aS vS A p s m args meth c prog_1_method_25_code 2 (Option.some Jvm.ClassFile.FieldType.int) "StaveHouse")  {F : zF} {B : zB} {H : Heap} {locs : List Loc} {ls : Array Slot} (hf : f_S_track_17 K  F B = some (r, F9, B9)) (hZ : zH D ca ad lnC K.2 L F B A H) (hS : va_S A s.heap H locs) (hl : lv_has ls 2 []) : W p l e ({ frames := 0, cells := 0, slots := 0, locals := 0 } : Room) s m args below meth c H locs 0 0 (MQ below (Q_S_track K D ca ad L r F9 B9 A) args s 0 0 A) (F0 m 17 ls []) := by
  obtain ⟨hx, hb, hr, hml, hown, hts, hlk, hK, hA, hL, hX⟩ := id X
  replace hf : (some ((-2147483648), F, B)) = some (r, F9, B9) := hf
  refine lv_ldc hx hb hown (hts _ k_6_199) (D_18 W_prog_1_method_25_code_0 17 rfl rfl) ?_
  refine W.eq (g2 := F0 m 19 ls [.int (iI (-2147483648))]) rfl ?_
  cases hf
  exact W.iret hx hb hr (fun t ht hW => ⟨⟨_, (), rfl, rfl, by rw [ht]; exact hZ, va_K.moved hW.alike hK⟩, hS.F ht⟩) hS.2.2 (D_172 W_prog_1_method_25_code_0 19 rfl rfl) hlk

def f_S_track (K : zK) (l0 : Int) (l1 : Int) (F : zF) (B : zB) : zO := if 0 ≤ l0 ∧ l0 < K.2 12 then (if (F 12 l0 8) < 0 then f_S_track_17 K F B else if r32 l1 then (if l1 < 0 then f_S_track_17 K F B else (if l1 ≤ 7 then (if l1 = 7 then if 0 ≤ (F 12 l0 8) ∧ (F 12 l0 8) < K.2 8 then f_S_track_45 K (F 8 (F 12 l0 8) 2) F B else none else if 0 ≤ (F 12 l0 8) ∧ (F 12 l0 8) < K.2 8 then if 0 ≤ l1 ∧ l1 < 7 then f_S_track_45 K (B 8 (F 12 l0 8) 0 l1) F B else none else none) else f_S_track_17 K F B)) else none) else none
set_option maxHeartbeats 4000000 in
set_option maxRecDepth 100000 in
theorem c_S_track {l : Launch} {D : va_G} {ca : Nat → ClassId} {ad : Nat → Int → Nat → Nat} {L : List Nat} {aS vS : Nat → Nat} {sz : Nat} {K : zK}  {l0 : Int} {l1 : Int} {F F9 : zF} {B B9 : zB} {r : Int} (hf : f_S_track K l0 l1 F B = some (r, F9, B9)) : Met l ({ cls := "StaveHouse", name := "track", desc := "(I)I" } : Jvm.MethodName) (Cond.code ({ cls := "StaveHouse", name := "track", desc := "(I)I" } : Jvm.MethodName) prog_1_method_25_code 2 (Option.some Jvm.ClassFile.FieldType.int) :: wAll) ({ frames := 0, cells := 0, slots := 0, locals := 0 } : Room) (va_Pc [.ref (ad 12 l0 0), .int (iI l1)] (zPre D ca ad lnC K.2 L aS vS F B sz)) (Q_S_track K D ca ad L r F9 B9 (zA L sz)) 0 0 (zA L sz) := by
  refine zMet (Qc := Q_S_track K D ca ad L r F9 B9) (lv := [(0, .ref (ad 12 l0 0)), (1, .int (iI l1))]) (by decide) (Nat.le_of_ble_eq_true rfl) rfl (fun A p e s m below meth c ls X hZ hS hl => ?_)
  obtain ⟨hx, hb, hr, hml, hown, hts, hlk, hK, hA, hL, hX⟩ := id X
  replace hf : (if 0 ≤ l0 ∧ l0 < K.2 12 then (if (F 12 l0 8) < 0 then f_S_track_17 K F B else if r32 l1 then (if l1 < 0 then f_S_track_17 K F B else (if l1 ≤ 7 then (if l1 = 7 then if 0 ≤ (F 12 l0 8) ∧ (F 12 l0 8) < K.2 8 then f_S_track_45 K (F 8 (F 12 l0 8) 2) F B else none else if 0 ≤ (F 12 l0 8) ∧ (F 12 l0 8) < K.2 8 then if 0 ≤ l1 ∧ l1 < 7 then f_S_track_45 K (B 8 (F 12 l0 8) 0 l1) F B else none else none) else f_S_track_17 K F B)) else none) else none) = some (r, F9, B9) := hf
  refine lv_aload_n hx hb (D_42 W_prog_1_method_25_code_0 0 rfl rfl) rfl (lv_at hl 0 rfl) ?_
  obtain ⟨g1, hf⟩ := gif hf
  refine zget (ci := 12) (C := RX12) (T := TX12) (v := va_rf (zrf ad 8 (F 12 l0 8))) (k := 8) hx hb hts inW_12 hown hK hZ g1.1 g1.2 rfl (by decide) k_2_135 rfl (D_180 W_prog_1_method_25_code_0 1 rfl rfl rfl) ?_
  refine zifnull (tgt := 17) hx hb (D_198 W_prog_1_method_25_code_0 4 rfl rfl rfl) (by decide) (fun h2 => ?_) (fun h2 => ?_)
  · replace hf := gpos hf h2
    exact b_S_track_17 X hf hZ hS (lv_sub hl [] rfl)
  · replace hf := gneg hf h2
    refine lv_iload_n hx hb (D_27 W_prog_1_method_25_code_0 7 rfl rfl) rfl (lv_at hl 1 rfl) ?_
    obtain ⟨g3, hf⟩ := gif hf
    refine z0lt (tgt := 17) hx hb g3 (D_155 W_prog_1_method_25_code_0 8 rfl rfl rfl) (by decide) (fun h4 => ?_) (fun h4 => ?_)
    · replace hf := gpos hf h4
      exact b_S_track_17 X hf hZ hS (lv_sub hl [] rfl)
    · replace hf := gneg hf h4
      refine lv_iload_n hx hb (D_27 W_prog_1_method_25_code_0 11 rfl rfl) rfl (lv_at hl 1 rfl) ?_
      refine lv_bipush (v := iI 7) hx hb (D_16 W_prog_1_method_25_code_0 12 rfl rfl rfl) (by decide) ?_
      refine zle (tgt := 20) hx hb g3 (by decide) (D_164 W_prog_1_method_25_code_0 14 rfl rfl rfl) (by decide) (fun h5 => ?_) (fun h5 => ?_)
      · replace hf := gpos hf h5
        refine lv_iload_n hx hb (D_27 W_prog_1_method_25_code_0 20 rfl rfl) rfl (lv_at hl 1 rfl) ?_
        refine lv_bipush (v := iI 7) hx hb (D_16 W_prog_1_method_25_code_0 21 rfl rfl rfl) (by decide) ?_
        refine zne (tgt := 36) hx hb g3 (by decide) (D_160 W_prog_1_method_25_code_0 23 rfl rfl rfl) (by decide) (fun h6 => ?_) (fun h6 => ?_)
        · replace hf := gneg hf h6
          refine lv_aload_n hx hb (D_42 W_prog_1_method_25_code_32 4 rfl rfl) rfl (lv_at hl 0 rfl) ?_
          refine zget (ci := 12) (C := RX12) (T := TX12) (v := va_rf (zrf ad 8 (F 12 l0 8))) (k := 8) hx hb hts inW_12 hown hK hZ g1.1 g1.2 rfl (by decide) k_2_135 rfl (D_180 W_prog_1_method_25_code_32 5 rfl rfl rfl) ?_
          obtain ⟨g7, hf⟩ := gif hf
          refine zunrf g7.1 ?_
          refine zget (ci := 8) (C := RX8) (T := TX8) (v := .ref (ad 8 (F 12 l0 8) (0 + 1))) (k := 0) hx hb hts inW_8 hown hK hZ g7.1 g7.2 rfl (by decide) k_7_219 rfl (D_180 W_prog_1_method_25_code_32 8 rfl rfl rfl) ?_
          refine lv_iload_n hx hb (D_27 W_prog_1_method_25_code_32 11 rfl rfl) rfl (lv_at hl 1 rfl) ?_
          obtain ⟨g8, hf⟩ := gif hf
          refine zald (ci := 8) (k := 0) hx hb hK rfl hZ g7.1 g7.2 rfl (Nat.le_of_ble_eq_true rfl) g8.1 g8.2 (D_46 W_prog_1_method_25_code_32 12 rfl rfl) ?_
          exact b_S_track_45 X hf hZ hS (lv_sub hl [] rfl)
        · replace hf := gpos hf h6
          refine lv_aload_n hx hb (D_42 W_prog_1_method_25_code_0 26 rfl rfl) rfl (lv_at hl 0 rfl) ?_
          refine zget (ci := 12) (C := RX12) (T := TX12) (v := va_rf (zrf ad 8 (F 12 l0 8))) (k := 8) hx hb hts inW_12 hown hK hZ g1.1 g1.2 rfl (by decide) k_2_135 rfl (D_180 W_prog_1_method_25_code_0 27 rfl rfl rfl) ?_
          obtain ⟨g9, hf⟩ := gif hf
          refine zunrf g9.1 ?_
          refine zget (ci := 8) (C := RX8) (T := TX8) (v := .int (iI (F 8 (F 12 l0 8) 2))) (k := 2) hx hb hts inW_8 hown hK hZ g9.1 g9.2 rfl (by decide) k_7_225 rfl (D_180 W_prog_1_method_25_code_0 30 rfl rfl rfl) ?_
          refine lv_goto (tgt := 45) hx hb (D_167 W_prog_1_method_25_code_32 1 rfl rfl rfl) (by decide) ?_
          exact b_S_track_45 X hf hZ hS (lv_sub hl [] rfl)
      · replace hf := gneg hf h5
        exact b_S_track_17 X hf hZ hS (lv_sub hl [] rfl)

abbrev Q_S_sound (K : zK) (D : va_G) (ca : Nat → ClassId) (ad : Nat → Int → Nat → Nat) (L : List Nat) (r : Int) (F : zF) (B : zB) (A : Nat → Prop) : Array Value → State → Outcome → State → Prop := va_Ql (S := Unit) (fun p _ => p = lI r) (fun _ => zPo D ca ad lnC K.2 L F B A) A
def f_S_sound_32 (K : zK)  (F : zF) (B : zB) : zO := some ((-1), F, B)
set_option maxHeartbeats 4000000 in
set_option maxRecDepth 100000 in
theorem b_S_sound_32 {D : va_G} {ca : Nat → ClassId} {ad : Nat → Int → Nat → Nat} {L : List Nat} {aS vS : Nat → Nat} {A : Nat → Prop} {p : Program} {l : Launch} {e : Env} {s : State} {m : MethodId} {args : Array Value} {below : List Frame} {meth : Method} {c : Code} {K : zK} {r : Int} {F9 : zF} {B9 : zB} (X : zX D ca L aS vS A p s m args meth c prog_1_method_26_code 3 (Option.some Jvm.ClassFile.FieldType.long) "StaveHouse")  {F : zF} {B : zB} {H : Heap} {locs : List Loc} {ls : Array Slot} (hf : f_S_sound_32 K  F B = some (r, F9, B9)) (hZ : zH D ca ad lnC K.2 L F B A H) (hS : va_S A s.heap H locs) (hl : lv_has ls 3 []) : W p l e ({ frames := 0, cells := 0, slots := 0, locals := 0 } : Room) s m args below meth c H locs 0 0 (MQ below (Q_S_sound K D ca ad L r F9 B9 A) args s 0 0 A) (F0 m 32 ls []) := by
  obtain ⟨hx, hb, hr, hml, hown, hts, hlk, hK, hA, hL, hX⟩ := id X
  replace hf : (some ((-1), F, B)) = some (r, F9, B9) := hf
  refine lv_ldc2 hx hb hown (hts _ k_6_184) (D_20 W_prog_1_method_26_code_32 0 rfl rfl rfl) ?_
  refine W.eq (g2 := F0 m 35 ls [.long (lI (-1))]) rfl ?_
  cases hf
  exact W.lret hx hb hr (fun t ht hW => ⟨⟨_, (), rfl, rfl, by rw [ht]; exact hZ, va_K.moved hW.alike hK⟩, hS.F ht⟩) hS.2.2 (D_173 W_prog_1_method_26_code_32 3 rfl rfl) hlk

def f_S_sound (K : zK) (l0 : Int) (l1 : Int) (l2 : Int) (F : zF) (B : zB) : zO := if 0 ≤ l0 ∧ l0 < K.2 12 then (if (F 12 l0 8) < 0 then f_S_sound_32 K F B else if r32 l1 then (if l1 < 0 then f_S_sound_32 K F B else if 0 ≤ (F 12 l0 8) ∧ (F 12 l0 8) < K.2 8 then if r32 (F 8 (F 12 l0 8) 2) then (if (F 8 (F 12 l0 8) 2) ≤ l1 then f_S_sound_32 K F B else if r32 l2 then (if l2 < 0 then f_S_sound_32 K F B else (if l2 < 6 then if 0 ≤ l2 ∧ l2 < 6 then if 0 ≤ l1 ∧ l1 < 400 then some (B 8 (F 12 l0 8) (220 + l2.toNat) l1, F, B) else none else none else f_S_sound_32 K F B)) else none) else none else none) else none) else none
set_option maxHeartbeats 4000000 in
set_option maxRecDepth 100000 in
theorem c_S_sound {l : Launch} {D : va_G} {ca : Nat → ClassId} {ad : Nat → Int → Nat → Nat} {L : List Nat} {aS vS : Nat → Nat} {sz : Nat} {K : zK}  {l0 : Int} {l1 : Int} {l2 : Int} {F F9 : zF} {B B9 : zB} {r : Int} (hf : f_S_sound K l0 l1 l2 F B = some (r, F9, B9)) : Met l ({ cls := "StaveHouse", name := "sound", desc := "(II)J" } : Jvm.MethodName) (Cond.code ({ cls := "StaveHouse", name := "sound", desc := "(II)J" } : Jvm.MethodName) prog_1_method_26_code 3 (Option.some Jvm.ClassFile.FieldType.long) :: wAll) ({ frames := 0, cells := 0, slots := 0, locals := 0 } : Room) (va_Pc [.ref (ad 12 l0 0), .int (iI l1), .int (iI l2)] (zPre D ca ad lnC K.2 L aS vS F B sz)) (Q_S_sound K D ca ad L r F9 B9 (zA L sz)) 0 0 (zA L sz) := by
  refine zMet (Qc := Q_S_sound K D ca ad L r F9 B9) (lv := [(0, .ref (ad 12 l0 0)), (1, .int (iI l1)), (2, .int (iI l2))]) (by decide) (Nat.le_of_ble_eq_true rfl) rfl (fun A p e s m below meth c ls X hZ hS hl => ?_)
  obtain ⟨hx, hb, hr, hml, hown, hts, hlk, hK, hA, hL, hX⟩ := id X
  replace hf : (if 0 ≤ l0 ∧ l0 < K.2 12 then (if (F 12 l0 8) < 0 then f_S_sound_32 K F B else if r32 l1 then (if l1 < 0 then f_S_sound_32 K F B else if 0 ≤ (F 12 l0 8) ∧ (F 12 l0 8) < K.2 8 then if r32 (F 8 (F 12 l0 8) 2) then (if (F 8 (F 12 l0 8) 2) ≤ l1 then f_S_sound_32 K F B else if r32 l2 then (if l2 < 0 then f_S_sound_32 K F B else (if l2 < 6 then if 0 ≤ l2 ∧ l2 < 6 then if 0 ≤ l1 ∧ l1 < 400 then some (B 8 (F 12 l0 8) (220 + l2.toNat) l1, F, B) else none else none else f_S_sound_32 K F B)) else none) else none else none) else none) else none) = some (r, F9, B9) := hf
  refine lv_aload_n hx hb (D_42 W_prog_1_method_26_code_0 0 rfl rfl) rfl (lv_at hl 0 rfl) ?_
  obtain ⟨g1, hf⟩ := gif hf
  refine zget (ci := 12) (C := RX12) (T := TX12) (v := va_rf (zrf ad 8 (F 12 l0 8))) (k := 8) hx hb hts inW_12 hown hK hZ g1.1 g1.2 rfl (by decide) k_2_135 rfl (D_180 W_prog_1_method_26_code_0 1 rfl rfl rfl) ?_
  refine zifnull (tgt := 32) hx hb (D_198 W_prog_1_method_26_code_0 4 rfl rfl rfl) (by decide) (fun h2 => ?_) (fun h2 => ?_)
  · replace hf := gpos hf h2
    exact b_S_sound_32 X hf hZ hS (lv_sub hl [] rfl)
  · replace hf := gneg hf h2
    refine lv_iload_n hx hb (D_27 W_prog_1_method_26_code_0 7 rfl rfl) rfl (lv_at hl 1 rfl) ?_
    obtain ⟨g3, hf⟩ := gif hf
    refine z0lt (tgt := 32) hx hb g3 (D_155 W_prog_1_method_26_code_0 8 rfl rfl rfl) (by decide) (fun h4 => ?_) (fun h4 => ?_)
    · replace hf := gpos hf h4
      exact b_S_sound_32 X hf hZ hS (lv_sub hl [] rfl)
    · replace hf := gneg hf h4
      refine lv_iload_n hx hb (D_27 W_prog_1_method_26_code_0 11 rfl rfl) rfl (lv_at hl 1 rfl) ?_
      refine lv_aload_n hx hb (D_42 W_prog_1_method_26_code_0 12 rfl rfl) rfl (lv_at hl 0 rfl) ?_
      refine zget (ci := 12) (C := RX12) (T := TX12) (v := va_rf (zrf ad 8 (F 12 l0 8))) (k := 8) hx hb hts inW_12 hown hK hZ g1.1 g1.2 rfl (by decide) k_2_135 rfl (D_180 W_prog_1_method_26_code_0 13 rfl rfl rfl) ?_
      obtain ⟨g5, hf⟩ := gif hf
      refine zunrf g5.1 ?_
      refine zget (ci := 8) (C := RX8) (T := TX8) (v := .int (iI (F 8 (F 12 l0 8) 2))) (k := 2) hx hb hts inW_8 hown hK hZ g5.1 g5.2 rfl (by decide) k_7_225 rfl (D_180 W_prog_1_method_26_code_0 16 rfl rfl rfl) ?_
      obtain ⟨g6, hf⟩ := gif hf
      refine zge (tgt := 32) hx hb g3 g6 (D_162 W_prog_1_method_26_code_0 19 rfl rfl rfl) (by decide) (fun h7 => ?_) (fun h7 => ?_)
      · replace hf := gpos hf h7
        exact b_S_sound_32 X hf hZ hS (lv_sub hl [] rfl)
      · replace hf := gneg hf h7
        refine lv_iload_n hx hb (D_28 W_prog_1_method_26_code_0 22 rfl rfl) rfl (lv_at hl 2 rfl) ?_
        obtain ⟨g8, hf⟩ := gif hf
        refine z0lt (tgt := 32) hx hb g8 (D_155 W_prog_1_method_26_code_0 23 rfl rfl rfl) (by decide) (fun h9 => ?_) (fun h9 => ?_)
        · replace hf := gpos hf h9
          exact b_S_sound_32 X hf hZ hS (lv_sub hl [] rfl)
        · replace hf := gneg hf h9
          refine lv_iload_n hx hb (D_28 W_prog_1_method_26_code_0 26 rfl rfl) rfl (lv_at hl 2 rfl) ?_
          refine lv_bipush (v := iI 6) hx hb (D_16 W_prog_1_method_26_code_0 27 rfl rfl rfl) (by decide) ?_
          refine zlt (tgt := 36) hx hb g8 (by decide) (D_161 W_prog_1_method_26_code_0 29 rfl rfl rfl) (by decide) (fun h10 => ?_) (fun h10 => ?_)
          · replace hf := gpos hf h10
            refine lv_aload_n hx hb (D_42 W_prog_1_method_26_code_32 4 rfl rfl) rfl (lv_at hl 0 rfl) ?_
            refine zget (ci := 12) (C := RX12) (T := TX12) (v := va_rf (zrf ad 8 (F 12 l0 8))) (k := 8) hx hb hts inW_12 hown hK hZ g1.1 g1.2 rfl (by decide) k_2_135 rfl (D_180 W_prog_1_method_26_code_32 5 rfl rfl rfl) ?_
            refine zunrf g5.1 ?_
            refine zget (ci := 8) (C := RX8) (T := TX8) (v := .ref (ad 8 (F 12 l0 8) (1 + 1))) (k := 1) hx hb hts inW_8 hown hK hZ g5.1 g5.2 rfl (by decide) k_7_222 rfl (D_180 W_prog_1_method_26_code_32 8 rfl rfl rfl) ?_
            refine lv_iload_n hx hb (D_28 W_prog_1_method_26_code_32 11 rfl rfl) rfl (lv_at hl 2 rfl) ?_
            obtain ⟨g11, hf⟩ := gif hf
            refine zaldQ (t := 1) (ci := 8) (k := 1) hx hb hK rfl hZ g5.1 g5.2 rfl (Nat.le_of_ble_eq_true rfl) g11.1 g11.2 (D_50 W_prog_1_method_26_code_32 12 rfl rfl) ?_
            refine W.eq (g2 := F0 m 45 ls [.ref (ad 8 (F 12 l0 8) (220 + l2.toNat + 1))]) rfl ?_
            refine lv_iload_n hx hb (D_27 W_prog_1_method_26_code_32 13 rfl rfl) rfl (lv_at hl 1 rfl) ?_
            obtain ⟨g12, hf⟩ := gif hf
            refine zlald (ci := 8) (k := (220 + l2.toNat)) hx hb hK rfl hZ g5.1 g5.2 (zkq (c := 8) (b := 220) (n := 6) (t := 1) (by decide) g11.1 g11.2) (lnq_le (c := 8) (b := 220) (n := 6) (m := 400) (by decide) (by decide) (by decide) g11.1 g11.2) g12.1 (lnq_lt (c := 8) (b := 220) (n := 6) (m := 400) (by decide) (by decide) g11.1 g11.2 g12.2) (D_47 W_prog_1_method_26_code_32 14 rfl rfl) ?_
            cases hf
            exact W.lret hx hb hr (fun t ht hW => ⟨⟨_, (), rfl, rfl, by rw [ht]; exact hZ, va_K.moved hW.alike hK⟩, hS.F ht⟩) hS.2.2 (D_173 W_prog_1_method_26_code_32 15 rfl rfl) hlk
          · replace hf := gneg hf h10
            exact b_S_sound_32 X hf hZ hS (lv_sub hl [] rfl)

abbrev Q_Scribe_trackEnd (K : zK) (D : va_G) (ca : Nat → ClassId) (ad : Nat → Int → Nat → Nat) (L : List Nat) (r : Int) (F : zF) (B : zB) (A : Nat → Prop) : Array Value → State → Outcome → State → Prop := va_Qi (S := Unit) (fun p _ => p = iI r) (fun _ => zPo D ca ad lnC K.2 L F B A) A
def f_Scribe_trackEnd_39 (K : zK) (l3 : Int) (F : zF) (B : zB) : zO := some (l3, F, B)
set_option maxHeartbeats 4000000 in
set_option maxRecDepth 100000 in
theorem b_Scribe_trackEnd_39 {D : va_G} {ca : Nat → ClassId} {ad : Nat → Int → Nat → Nat} {L : List Nat} {aS vS : Nat → Nat} {A : Nat → Prop} {p : Program} {l : Launch} {e : Env} {s : State} {m : MethodId} {args : Array Value} {below : List Frame} {meth : Method} {c : Code} {K : zK} {r : Int} {F9 : zF} {B9 : zB} (X : zX D ca L aS vS A p s m args meth c prog_9_method_3_code 4 (Option.some Jvm.ClassFile.FieldType.int) "StaveHouse$Scribe") {l3 : Int} {F : zF} {B : zB} {H : Heap} {locs : List Loc} {ls : Array Slot} (hf : f_Scribe_trackEnd_39 K l3 F B = some (r, F9, B9)) (hZ : zH D ca ad lnC K.2 L F B A H) (hS : va_S A s.heap H locs) (hl : lv_has ls 4 [(3, .int (iI l3))]) : W p l e ({ frames := 0, cells := 0, slots := 0, locals := 0 } : Room) s m args below meth c H locs 0 0 (MQ below (Q_Scribe_trackEnd K D ca ad L r F9 B9 A) args s 0 0 A) (F0 m 39 ls []) := by
  obtain ⟨hx, hb, hr, hml, hown, hts, hlk, hK, hA, hL, hX⟩ := id X
  replace hf : (some (l3, F, B)) = some (r, F9, B9) := hf
  refine lv_iload_n hx hb (D_29 W_prog_9_method_3_code_32 7 rfl rfl) rfl (lv_at hl 0 rfl) ?_
  cases hf
  exact W.iret hx hb hr (fun t ht hW => ⟨⟨_, (), rfl, rfl, by rw [ht]; exact hZ, va_K.moved hW.alike hK⟩, hS.F ht⟩) hS.2.2 (D_172 W_prog_9_method_3_code_32 8 rfl rfl) hlk

def f_Scribe_trackEnd_12 (K : zK) : Nat → Int → Int → Int → Int → zF → zB → zO
  | 0, _, _, _, _, _, _ => none
  | n + 1, l3, l2, l0, l1, F, B => if 0 ≤ l0 ∧ l0 < K.2 7 then if 0 ≤ (F 7 l0 0) ∧ (F 7 l0 0) < K.2 8 then if r32 l3 then if r32 (F 8 (F 7 l0 0) 2) then (if (F 8 (F 7 l0 0) 2) ≤ l3 then f_Scribe_trackEnd_39 K l3 F B else if 0 ≤ l2 ∧ l2 < K.2 8 then if 0 ≤ l3 ∧ l3 < 400 then if 0 ≤ l1 ∧ l1 < 400 then if r64 (B 8 l2 220 l3) then if r64 (B 8 l2 220 l1) then (if (zcmp (B 8 l2 220 l3) (B 8 l2 220 l1)) = 0 then f_Scribe_trackEnd_12 K n (l3 + 1) l2 l0 l1 F B else f_Scribe_trackEnd_39 K l3 F B) else none else none else none else none else none) else none else none else none else none
set_option maxHeartbeats 4000000 in
set_option maxRecDepth 100000 in
theorem b_Scribe_trackEnd_12 {D : va_G} {ca : Nat → ClassId} {ad : Nat → Int → Nat → Nat} {L : List Nat} {aS vS : Nat → Nat} {A : Nat → Prop} {p : Program} {l : Launch} {e : Env} {s : State} {m : MethodId} {args : Array Value} {below : List Frame} {meth : Method} {c : Code} {K : zK} {r : Int} {F9 : zF} {B9 : zB} (X : zX D ca L aS vS A p s m args meth c prog_9_method_3_code 4 (Option.some Jvm.ClassFile.FieldType.int) "StaveHouse$Scribe") : ∀ {n : Nat} {l3 : Int} {l2 : Int} {l0 : Int} {l1 : Int} {F : zF} {B : zB} {H : Heap} {locs : List Loc} {ls : Array Slot}, f_Scribe_trackEnd_12 K n l3 l2 l0 l1 F B = some (r, F9, B9) → zH D ca ad lnC K.2 L F B A H → va_S A s.heap H locs → lv_has ls 4 [(3, .int (iI l3)), (2, .ref (ad 8 l2 (220 + 1))), (0, .ref (ad 7 l0 0)), (1, .int (iI l1))] → W p l e ({ frames := 0, cells := 0, slots := 0, locals := 0 } : Room) s m args below meth c H locs 0 0 (MQ below (Q_Scribe_trackEnd K D ca ad L r F9 B9 A) args s 0 0 A) (F0 m 12 ls []) := by
  obtain ⟨hx, hb, hr, hml, hown, hts, hlk, hK, hA, hL, hX⟩ := id X
  intro n
  induction n with
  | zero =>
    intros
    rename_i hf _ _ _
    cases hf
  | succ n ih =>
    intro l3 l2 l0 l1 F B H locs ls hf hZ hS hl
    replace hf : (if 0 ≤ l0 ∧ l0 < K.2 7 then if 0 ≤ (F 7 l0 0) ∧ (F 7 l0 0) < K.2 8 then if r32 l3 then if r32 (F 8 (F 7 l0 0) 2) then (if (F 8 (F 7 l0 0) 2) ≤ l3 then f_Scribe_trackEnd_39 K l3 F B else if 0 ≤ l2 ∧ l2 < K.2 8 then if 0 ≤ l3 ∧ l3 < 400 then if 0 ≤ l1 ∧ l1 < 400 then if r64 (B 8 l2 220 l3) then if r64 (B 8 l2 220 l1) then (if (zcmp (B 8 l2 220 l3) (B 8 l2 220 l1)) = 0 then f_Scribe_trackEnd_12 K n (l3 + 1) l2 l0 l1 F B else f_Scribe_trackEnd_39 K l3 F B) else none else none else none else none else none) else none else none else none else none) = some (r, F9, B9) := hf
    refine lv_iload_n hx hb (D_29 W_prog_9_method_3_code_0 12 rfl rfl) rfl (lv_at hl 0 rfl) ?_
    refine lv_aload_n hx hb (D_42 W_prog_9_method_3_code_0 13 rfl rfl) rfl (lv_at hl 2 rfl) ?_
    obtain ⟨g3, hf⟩ := gif hf
    refine zget (ci := 7) (C := RX7) (T := TX7) (v := va_rf (zrf ad 8 (F 7 l0 0))) (k := 0) hx hb hts inW_7 hown hK hZ g3.1 g3.2 rfl (by decide) k_2_98 rfl (D_180 W_prog_9_method_3_code_0 14 rfl rfl rfl) ?_
    obtain ⟨g4, hf⟩ := gif hf
    refine zunrf g4.1 ?_
    refine zget (ci := 8) (C := RX8) (T := TX8) (v := .int (iI (F 8 (F 7 l0 0) 2))) (k := 2) hx hb hts inW_8 hown hK hZ g4.1 g4.2 rfl (by decide) k_7_224 rfl (D_180 W_prog_9_method_3_code_0 17 rfl rfl rfl) ?_
    obtain ⟨g5, hf⟩ := gif hf
    obtain ⟨g6, hf⟩ := gif hf
    refine zge (tgt := 39) hx hb g5 g6 (D_162 W_prog_9_method_3_code_0 20 rfl rfl rfl) (by decide) (fun h7 => ?_) (fun h7 => ?_)
    · replace hf := gpos hf h7
      exact b_Scribe_trackEnd_39 X hf hZ hS (lv_sub hl [0] rfl)
    · replace hf := gneg hf h7
      refine lv_aload_n hx hb (D_44 W_prog_9_method_3_code_0 23 rfl rfl) rfl (lv_at hl 1 rfl) ?_
      refine lv_iload_n hx hb (D_29 W_prog_9_method_3_code_0 24 rfl rfl) rfl (lv_at hl 0 rfl) ?_
      obtain ⟨g8, hf⟩ := gif hf
      obtain ⟨g9, hf⟩ := gif hf
      refine zlald (ci := 8) (k := 220) hx hb hK rfl hZ g8.1 g8.2 rfl (Nat.le_of_ble_eq_true rfl) g9.1 g9.2 (D_47 W_prog_9_method_3_code_0 25 rfl rfl) ?_
      refine lv_aload_n hx hb (D_44 W_prog_9_method_3_code_0 26 rfl rfl) rfl (lv_at hl 1 rfl) ?_
      refine lv_iload_n hx hb (D_27 W_prog_9_method_3_code_0 27 rfl rfl) rfl (lv_at hl 3 rfl) ?_
      obtain ⟨g10, hf⟩ := gif hf
      refine zlald (ci := 8) (k := 220) hx hb hK rfl hZ g8.1 g8.2 rfl (Nat.le_of_ble_eq_true rfl) g10.1 g10.2 (D_47 W_prog_9_method_3_code_0 28 rfl rfl) ?_
      obtain ⟨g11, hf⟩ := gif hf
      obtain ⟨g12, hf⟩ := gif hf
      refine zcmp_r hx hb g11 g12 (D_148 W_prog_9_method_3_code_0 29 rfl rfl) ?_
      refine z0ne (tgt := 39) hx hb zcmp_32 (D_154 W_prog_9_method_3_code_0 30 rfl rfl rfl) (by decide) (fun h13 => ?_) (fun h13 => ?_)
      · replace hf := gneg hf h13
        exact b_Scribe_trackEnd_39 X hf hZ hS (lv_sub hl [0] rfl)
      · replace hf := gpos hf h13
        refine lv_iinc (v := iI (l3 + 1)) (lv' := [(3, .int (iI (l3 + 1))), (2, .ref (ad 8 l2 (220 + 1))), (0, .ref (ad 7 l0 0)), (1, .int (iI l1))]) hx hb d_9_3_33 hl (k := 0) rfl (iI_add _ 1) (by decide) rfl (fun ls hl => ?_)
        refine lv_goto (tgt := 12) hx hb (D_167 W_prog_9_method_3_code_32 4 rfl rfl rfl) (by decide) ?_
        exact ih hf hZ hS (lv_sub hl [0, 1, 2, 3] rfl)

def f_Scribe_trackEnd (K : zK) (l0 : Int) (l1 : Int) (F : zF) (B : zB) : zO := if 0 ≤ l0 ∧ l0 < K.2 7 then if 0 ≤ (F 7 l0 0) ∧ (F 7 l0 0) < K.2 8 then f_Scribe_trackEnd_12 K K.1 l1 (F 7 l0 0) l0 l1 F B else none else none
set_option maxHeartbeats 4000000 in
set_option maxRecDepth 100000 in
theorem c_Scribe_trackEnd {l : Launch} {D : va_G} {ca : Nat → ClassId} {ad : Nat → Int → Nat → Nat} {L : List Nat} {aS vS : Nat → Nat} {sz : Nat} {K : zK}  {l0 : Int} {l1 : Int} {F F9 : zF} {B B9 : zB} {r : Int} (hf : f_Scribe_trackEnd K l0 l1 F B = some (r, F9, B9)) : Met l ({ cls := "StaveHouse$Scribe", name := "trackEnd", desc := "(I)I" } : Jvm.MethodName) (Cond.code ({ cls := "StaveHouse$Scribe", name := "trackEnd", desc := "(I)I" } : Jvm.MethodName) prog_9_method_3_code 4 (Option.some Jvm.ClassFile.FieldType.int) :: wAll) ({ frames := 0, cells := 0, slots := 0, locals := 0 } : Room) (va_Pc [.ref (ad 7 l0 0), .int (iI l1)] (zPre D ca ad lnC K.2 L aS vS F B sz)) (Q_Scribe_trackEnd K D ca ad L r F9 B9 (zA L sz)) 0 0 (zA L sz) := by
  refine zMet (Qc := Q_Scribe_trackEnd K D ca ad L r F9 B9) (lv := [(0, .ref (ad 7 l0 0)), (1, .int (iI l1))]) (by decide) (Nat.le_of_ble_eq_true rfl) rfl (fun A p e s m below meth c ls X hZ hS hl => ?_)
  obtain ⟨hx, hb, hr, hml, hown, hts, hlk, hK, hA, hL, hX⟩ := id X
  replace hf : (if 0 ≤ l0 ∧ l0 < K.2 7 then if 0 ≤ (F 7 l0 0) ∧ (F 7 l0 0) < K.2 8 then f_Scribe_trackEnd_12 K K.1 l1 (F 7 l0 0) l0 l1 F B else none else none) = some (r, F9, B9) := hf
  refine lv_aload_n hx hb (D_42 W_prog_9_method_3_code_0 0 rfl rfl) rfl (lv_at hl 0 rfl) ?_
  obtain ⟨g1, hf⟩ := gif hf
  refine zget (ci := 7) (C := RX7) (T := TX7) (v := va_rf (zrf ad 8 (F 7 l0 0))) (k := 0) hx hb hts inW_7 hown hK hZ g1.1 g1.2 rfl (by decide) k_2_98 rfl (D_180 W_prog_9_method_3_code_0 1 rfl rfl rfl) ?_
  obtain ⟨g2, hf⟩ := gif hf
  refine zunrf g2.1 ?_
  refine zget (ci := 8) (C := RX8) (T := TX8) (v := .ref (ad 8 (F 7 l0 0) (1 + 1))) (k := 1) hx hb hts inW_8 hown hK hZ g2.1 g2.2 rfl (by decide) k_7_221 rfl (D_180 W_prog_9_method_3_code_0 4 rfl rfl rfl) ?_
  refine lv_iconst (v := iI 0) hx hb (D_3 W_prog_9_method_3_code_0 7 rfl rfl) rfl ?_
  refine zaldQ (t := 1) (ci := 8) (k := 1) hx hb hK rfl hZ g2.1 g2.2 rfl (Nat.le_of_ble_eq_true rfl) (by decide) (by decide) (D_50 W_prog_9_method_3_code_0 8 rfl rfl) ?_
  refine W.eq (g2 := F0 m 9 ls [.ref (ad 8 (F 7 l0 0) (220 + 1))]) rfl ?_
  refine lv_astore_n (lv' := [(2, .ref (ad 8 (F 7 l0 0) (220 + 1))), (0, .ref (ad 7 l0 0)), (1, .int (iI l1))]) hx hb (D_77 W_prog_9_method_3_code_0 9 rfl rfl) rfl hl (by decide) rfl (fun ls hl => ?_)
  refine lv_iload_n hx hb (D_27 W_prog_9_method_3_code_0 10 rfl rfl) rfl (lv_at hl 2 rfl) ?_
  refine lv_istore_n (lv' := [(3, .int (iI l1)), (2, .ref (ad 8 (F 7 l0 0) (220 + 1))), (0, .ref (ad 7 l0 0)), (1, .int (iI l1))]) hx hb (D_62 W_prog_9_method_3_code_0 11 rfl rfl) rfl hl (by decide) rfl (fun ls hl => ?_)
  exact b_Scribe_trackEnd_12 X hf hZ hS (lv_sub hl [0, 1, 2, 3] rfl)

abbrev Q_Scribe_gridPlace (K : zK) (D : va_G) (ca : Nat → ClassId) (ad : Nat → Int → Nat → Nat) (L : List Nat) (r : Int) (F : zF) (B : zB) (A : Nat → Prop) : Array Value → State → Outcome → State → Prop := va_Ql (S := Unit) (fun p _ => p = lI r) (fun _ => zPo D ca ad lnC K.2 L F B A) A
def f_Scribe_gridPlace (K : zK) (l0 : Int) (l1 : Int) (F : zF) (B : zB) : zO := if 0 ≤ l0 ∧ l0 < K.2 7 then if 0 ≤ (F 7 l0 0) ∧ (F 7 l0 0) < K.2 8 then if r32 (B 8 (F 7 l0 0) 0 1) then if r32 (zmax (B 8 (F 7 l0 0) 0 1) 1) then if r32 (F 7 l0 2) then if ¬ lI (8 * (zmax (B 8 (F 7 l0 0) 0 1) 1)) = 0 then some (zldv (((2 * l1) * (F 7 l0 2)) + (4 * (zmax (B 8 (F 7 l0 0) 0 1) 1))) (8 * (zmax (B 8 (F 7 l0 0) 0 1) 1)), F, B) else none else none else none else none else none else none
set_option maxHeartbeats 4000000 in
set_option maxRecDepth 100000 in
theorem c_Scribe_gridPlace {l : Launch} {D : va_G} {ca : Nat → ClassId} {ad : Nat → Int → Nat → Nat} {L : List Nat} {aS vS : Nat → Nat} {sz : Nat} {K : zK}  {l0 : Int} {l1 : Int} {F F9 : zF} {B B9 : zB} {r : Int} (hf : f_Scribe_gridPlace K l0 l1 F B = some (r, F9, B9)) : Met l ({ cls := "StaveHouse$Scribe", name := "gridPlace", desc := "(J)J" } : Jvm.MethodName) (Cond.code ({ cls := "StaveHouse$Scribe", name := "gridPlace", desc := "(J)J" } : Jvm.MethodName) prog_9_method_4_code 5 (Option.some Jvm.ClassFile.FieldType.long) :: wAll) ({ frames := 1, cells := 0, slots := 0, locals := 13 } : Room) (va_Pc [.ref (ad 7 l0 0), .long (lI l1)] (zPre D ca ad lnC K.2 L aS vS F B sz)) (Q_Scribe_gridPlace K D ca ad L r F9 B9 (zA L sz)) 0 0 (zA L sz) := by
  refine zMet (Qc := Q_Scribe_gridPlace K D ca ad L r F9 B9) (lv := [(0, .ref (ad 7 l0 0)), (1, .long (lI l1))]) (by decide) (Nat.le_of_ble_eq_true rfl) rfl (fun A p e s m below meth c ls X hZ hS hl => ?_)
  obtain ⟨hx, hb, hr, hml, hown, hts, hlk, hK, hA, hL, hX⟩ := id X
  replace hf : (if 0 ≤ l0 ∧ l0 < K.2 7 then if 0 ≤ (F 7 l0 0) ∧ (F 7 l0 0) < K.2 8 then if r32 (B 8 (F 7 l0 0) 0 1) then if r32 (zmax (B 8 (F 7 l0 0) 0 1) 1) then if r32 (F 7 l0 2) then if ¬ lI (8 * (zmax (B 8 (F 7 l0 0) 0 1) 1)) = 0 then some (zldv (((2 * l1) * (F 7 l0 2)) + (4 * (zmax (B 8 (F 7 l0 0) 0 1) 1))) (8 * (zmax (B 8 (F 7 l0 0) 0 1) 1)), F, B) else none else none else none else none else none else none) = some (r, F9, B9) := hf
  refine lv_aload_n hx hb (D_42 W_prog_9_method_4_code_0 0 rfl rfl) rfl (lv_at hl 0 rfl) ?_
  obtain ⟨g1, hf⟩ := gif hf
  refine zget (ci := 7) (C := RX7) (T := TX7) (v := va_rf (zrf ad 8 (F 7 l0 0))) (k := 0) hx hb hts inW_7 hown hK hZ g1.1 g1.2 rfl (by decide) k_2_98 rfl (D_180 W_prog_9_method_4_code_0 1 rfl rfl rfl) ?_
  obtain ⟨g2, hf⟩ := gif hf
  refine zunrf g2.1 ?_
  refine zget (ci := 8) (C := RX8) (T := TX8) (v := .ref (ad 8 (F 7 l0 0) (0 + 1))) (k := 0) hx hb hts inW_8 hown hK hZ g2.1 g2.2 rfl (by decide) k_7_218 rfl (D_180 W_prog_9_method_4_code_0 4 rfl rfl rfl) ?_
  refine lv_iconst (v := iI 1) hx hb (D_4 W_prog_9_method_4_code_0 7 rfl rfl) rfl ?_
  refine zald (ci := 8) (k := 0) hx hb hK rfl hZ g2.1 g2.2 rfl (Nat.le_of_ble_eq_true rfl) (by decide) (show (1 : Int) < 7 by decide) (D_46 W_prog_9_method_4_code_0 8 rfl rfl) ?_
  refine lv_iconst (v := iI 1) hx hb (D_4 W_prog_9_method_4_code_0 9 rfl rfl) rfl ?_
  obtain ⟨g3, hf⟩ := gif hf
  refine va_mmax hx hb (by rw [hml]; exact hl.1.symm) hown (hts _ k_8_142) (hts _ k_1_39) (hts _ k_1_3) (hts _ k_1_40) (Nat.le_of_ble_eq_true rfl) (Nat.le_of_ble_eq_true rfl) (Nat.le_of_ble_eq_true rfl) (Nat.le_of_ble_eq_true rfl) (D_184 W_prog_9_method_4_code_0 10 rfl rfl rfl) ?_
  rw [zmax_e g3 (by decide)]
  obtain ⟨g4, hf⟩ := gif hf
  refine zi2l hx hb g4 (D_133 W_prog_9_method_4_code_0 13 rfl rfl) ?_
  refine lv_lstore_n (lv' := [(3, .long (lI (zmax (B 8 (F 7 l0 0) 0 1) 1))), (0, .ref (ad 7 l0 0)), (1, .long (lI l1))]) hx hb (D_66 W_prog_9_method_4_code_0 14 rfl rfl) rfl hl (by decide) rfl (fun ls hl => ?_)
  refine lv_ldc2 hx hb hown (hts _ k_8_160) (D_20 W_prog_9_method_4_code_0 15 rfl rfl rfl) ?_
  refine W.eq (g2 := F0 m 18 ls [.long (lI 2)]) rfl ?_
  refine lv_lload_n hx hb (D_31 W_prog_9_method_4_code_0 18 rfl rfl) rfl (lv_at hl 2 rfl) ?_
  refine zlmul hx hb (D_105 W_prog_9_method_4_code_0 19 rfl rfl) ?_
  refine lv_aload_n hx hb (D_42 W_prog_9_method_4_code_0 20 rfl rfl) rfl (lv_at hl 1 rfl) ?_
  refine zget (ci := 7) (C := RX7) (T := TX7) (v := .int (iI (F 7 l0 2))) (k := 2) hx hb hts inW_7 hown hK hZ g1.1 g1.2 rfl (by decide) k_2_100 rfl (D_180 W_prog_9_method_4_code_0 21 rfl rfl rfl) ?_
  obtain ⟨g5, hf⟩ := gif hf
  refine zi2l hx hb g5 (D_133 W_prog_9_method_4_code_0 24 rfl rfl) ?_
  refine zlmul hx hb (D_105 W_prog_9_method_4_code_0 25 rfl rfl) ?_
  refine lv_ldc2 hx hb hown (hts _ k_8_161) (D_20 W_prog_9_method_4_code_0 26 rfl rfl rfl) ?_
  refine W.eq (g2 := F0 m 29 ls [.long (lI 4), .long (lI ((2 * l1) * (F 7 l0 2)))]) rfl ?_
  refine lv_lload_n hx hb (D_33 W_prog_9_method_4_code_0 29 rfl rfl) rfl (lv_at hl 0 rfl) ?_
  refine zlmul hx hb (D_105 W_prog_9_method_4_code_0 30 rfl rfl) ?_
  refine zladd hx hb (D_97 W_prog_9_method_4_code_0 31 rfl rfl) ?_
  refine lv_ldc2 hx hb hown (hts _ k_8_162) (D_20 W_prog_9_method_4_code_32 0 rfl rfl rfl) ?_
  refine W.eq (g2 := F0 m 35 ls [.long (lI 8), .long (lI (((2 * l1) * (F 7 l0 2)) + (4 * (zmax (B 8 (F 7 l0 0) 0 1) 1))))]) rfl ?_
  refine lv_lload_n hx hb (D_33 W_prog_9_method_4_code_32 3 rfl rfl) rfl (lv_at hl 0 rfl) ?_
  refine zlmul hx hb (D_105 W_prog_9_method_4_code_32 4 rfl rfl) ?_
  obtain ⟨g6, hf⟩ := gif hf
  refine zldv_r hx hb g6 (D_109 W_prog_9_method_4_code_32 5 rfl rfl) ?_
  cases hf
  exact W.lret hx hb hr (fun t ht hW => ⟨⟨_, (), rfl, rfl, by rw [ht]; exact hZ, va_K.moved hW.alike hK⟩, hS.F ht⟩) hS.2.2 (D_173 W_prog_9_method_4_code_32 6 rfl rfl) hlk

abbrev Q_ByteRow_putDecimal (K : zK) (D : va_G) (ca : Nat → ClassId) (ad : Nat → Int → Nat → Nat) (L : List Nat) (r : Int) (F : zF) (B : zB) (A : Nat → Prop) : Array Value → State → Outcome → State → Prop := va_Qv (S := Unit) (fun _ => True) (fun _ => zPo D ca ad lnC K.2 L F B A) A
def f_ByteRow_putDecimal_65 (K : zK)  (F : zF) (B : zB) : zO := some (0, F, B)
set_option maxHeartbeats 4000000 in
set_option maxRecDepth 100000 in
theorem b_ByteRow_putDecimal_65 {D : va_G} {ca : Nat → ClassId} {ad : Nat → Int → Nat → Nat} {L : List Nat} {aS vS : Nat → Nat} {A : Nat → Prop} {p : Program} {l : Launch} {e : Env} {s : State} {m : MethodId} {args : Array Value} {below : List Frame} {meth : Method} {c : Code} {K : zK} {r : Int} {F9 : zF} {B9 : zB} (X : zX D ca L aS vS A p s m args meth c prog_2_method_6_code 4 (Option.none : Option Jvm.ClassFile.FieldType) "StaveHouse$ByteRow")  {F : zF} {B : zB} {H : Heap} {locs : List Loc} {ls : Array Slot} (hf : f_ByteRow_putDecimal_65 K  F B = some (r, F9, B9)) (hZ : zH D ca ad lnC K.2 L F B A H) (hS : va_S A s.heap H locs) (hl : lv_has ls 4 []) : W p l e ({ frames := 1, cells := 0, slots := 0, locals := 21 } : Room) s m args below meth c H locs 0 0 (MQ below (Q_ByteRow_putDecimal K D ca ad L r F9 B9 A) args s 0 0 A) (F0 m 65 ls []) := by
  obtain ⟨hx, hb, hr, hml, hown, hts, hlk, hK, hA, hL, hX⟩ := id X
  replace hf : (some (0, F, B)) = some (r, F9, B9) := hf
  cases hf
  exact W.vret hx hb hr (fun t ht hW => ⟨⟨(), rfl, trivial, by rw [ht]; exact hZ, va_K.moved hW.alike hK⟩, hS.F ht⟩) hS.2.2 (D_177 W_prog_2_method_6_code_64 1 rfl rfl) hlk

def f_ByteRow_putDecimal_31 (K : zK) : Nat → Int → Int → Int → Int → zF → zB → zO
  | 0, _, _, _, _, _, _ => none
  | n + 1, l3, l2, l0, l1, F, B => if r32 l3 then (if 10 ≤ l3 then f_ByteRow_putDecimal_65 K F B else if r32 l2 then (if l2 ≤ 0 then f_ByteRow_putDecimal_65 K F B else if ¬ iI l2 = 0 then if 0 ≤ l0 ∧ l0 < K.2 0 then zbind (f_ByteRow_put K l0 (48 + (zrm (zdv l1 l2) 10)) F B) (fun r12 F12 B12 => f_ByteRow_putDecimal_31 K n (l3 + 1) (zdv l2 10) l0 l1 F12 B12) else none else none) else none) else none
set_option maxHeartbeats 4000000 in
set_option maxRecDepth 100000 in
theorem b_ByteRow_putDecimal_31 {D : va_G} {ca : Nat → ClassId} {ad : Nat → Int → Nat → Nat} {L : List Nat} {aS vS : Nat → Nat} {A : Nat → Prop} {p : Program} {l : Launch} {e : Env} {s : State} {m : MethodId} {args : Array Value} {below : List Frame} {meth : Method} {c : Code} {K : zK} {r : Int} {F9 : zF} {B9 : zB} (X : zX D ca L aS vS A p s m args meth c prog_2_method_6_code 4 (Option.none : Option Jvm.ClassFile.FieldType) "StaveHouse$ByteRow") : ∀ {n : Nat} {l3 : Int} {l2 : Int} {l0 : Int} {l1 : Int} {F : zF} {B : zB} {H : Heap} {locs : List Loc} {ls : Array Slot}, f_ByteRow_putDecimal_31 K n l3 l2 l0 l1 F B = some (r, F9, B9) → zH D ca ad lnC K.2 L F B A H → va_S A s.heap H locs → lv_has ls 4 [(3, .int (iI l3)), (2, .int (iI l2)), (0, .ref (ad 0 l0 0)), (1, .int (iI l1))] → W p l e ({ frames := 1, cells := 0, slots := 0, locals := 21 } : Room) s m args below meth c H locs 0 0 (MQ below (Q_ByteRow_putDecimal K D ca ad L r F9 B9 A) args s 0 0 A) (F0 m 31 ls []) := by
  obtain ⟨hx, hb, hr, hml, hown, hts, hlk, hK, hA, hL, hX⟩ := id X
  intro n
  induction n with
  | zero =>
    intros
    rename_i hf _ _ _
    cases hf
  | succ n ih =>
    intro l3 l2 l0 l1 F B H locs ls hf hZ hS hl
    replace hf : (if r32 l3 then (if 10 ≤ l3 then f_ByteRow_putDecimal_65 K F B else if r32 l2 then (if l2 ≤ 0 then f_ByteRow_putDecimal_65 K F B else if ¬ iI l2 = 0 then if 0 ≤ l0 ∧ l0 < K.2 0 then zbind (f_ByteRow_put K l0 (48 + (zrm (zdv l1 l2) 10)) F B) (fun r12 F12 B12 => f_ByteRow_putDecimal_31 K n (l3 + 1) (zdv l2 10) l0 l1 F12 B12) else none else none) else none) else none) = some (r, F9, B9) := hf
    refine lv_iload_n hx hb (D_29 W_prog_2_method_6_code_0 31 rfl rfl) rfl (lv_at hl 0 rfl) ?_
    refine lv_bipush (v := iI 10) hx hb (D_16 W_prog_2_method_6_code_32 0 rfl rfl rfl) (by decide) ?_
    obtain ⟨g6, hf⟩ := gif hf
    refine zge (tgt := 65) hx hb g6 (by decide) (D_162 W_prog_2_method_6_code_32 2 rfl rfl rfl) (by decide) (fun h7 => ?_) (fun h7 => ?_)
    · replace hf := gpos hf h7
      exact b_ByteRow_putDecimal_65 X hf hZ hS (lv_sub hl [] rfl)
    · replace hf := gneg hf h7
      refine lv_iload_n hx hb (D_28 W_prog_2_method_6_code_32 5 rfl rfl) rfl (lv_at hl 1 rfl) ?_
      obtain ⟨g8, hf⟩ := gif hf
      refine z0le (tgt := 65) hx hb g8 (D_158 W_prog_2_method_6_code_32 6 rfl rfl rfl) (by decide) (fun h9 => ?_) (fun h9 => ?_)
      · replace hf := gpos hf h9
        exact b_ByteRow_putDecimal_65 X hf hZ hS (lv_sub hl [] rfl)
      · replace hf := gneg hf h9
        refine lv_aload_n hx hb (D_42 W_prog_2_method_6_code_32 9 rfl rfl) rfl (lv_at hl 2 rfl) ?_
        refine lv_bipush (v := iI 48) hx hb (D_16 W_prog_2_method_6_code_32 10 rfl rfl rfl) (by decide) ?_
        refine lv_iload_n hx hb (D_27 W_prog_2_method_6_code_32 12 rfl rfl) rfl (lv_at hl 3 rfl) ?_
        refine lv_iload_n hx hb (D_28 W_prog_2_method_6_code_32 13 rfl rfl) rfl (lv_at hl 1 rfl) ?_
        obtain ⟨g10, hf⟩ := gif hf
        refine zdv_r hx hb g10 (D_108 W_prog_2_method_6_code_32 14 rfl rfl) ?_
        refine lv_bipush (v := iI 10) hx hb (D_16 W_prog_2_method_6_code_32 15 rfl rfl rfl) (by decide) ?_
        refine zrm_r hx hb (by decide) (D_112 W_prog_2_method_6_code_32 17 rfl rfl) ?_
        refine zadd hx hb (D_96 W_prog_2_method_6_code_32 18 rfl rfl) ?_
        obtain ⟨g11, hf⟩ := gif hf
        obtain ⟨r12, F12, B12, hc12, hf⟩ := gbind hf
        refine va_callv (va_runV (As := [.int (iI (48 + (zrm (zdv l1 l2) 10)))]) (rest := []) ⟨hx, hb, hml, hown, hts⟩ (c_ByteRow_put (l := l) hc12) (cwV 1 hts (gdV k_7_153 k_2_171 k_2_172 k_1_2 k_2_173) rfl rfl rfl (by decide +kernel) ⟨Nat.le_of_ble_eq_true rfl, Nat.le_of_ble_eq_true rfl⟩) (zPV X hZ hS (ci := 0) g11.1 g11.2 (r := (RX0, TX0, 3)) rfl [.int (iI (48 + (zrm (zdv l1 l2) 10)))]) rfl rfl hl.1 rfl (lv_room (Nat.le_of_ble_eq_true rfl)) (D_182 W_prog_2_method_6_code_32 19 rfl rfl rfl) ⟨Nat.le_of_ble_eq_true rfl, Nat.le_of_ble_eq_true rfl⟩) hS (fun q _ h => zAin X hS q h) (zAin X hS) (fun u12 t12 H12 locs12 ht12 hv12 hw12 hB12 hz12 hk12 hS12 => ?_)
        have hZ12 := zBack X ht12 hB12
        refine lv_iload_n hx hb (D_28 W_prog_2_method_6_code_32 22 rfl rfl) rfl (lv_at hl 1 rfl) ?_
        refine lv_bipush (v := iI 10) hx hb (D_16 W_prog_2_method_6_code_32 23 rfl rfl rfl) (by decide) ?_
        refine zdv_r hx hb (by decide) (D_108 W_prog_2_method_6_code_32 25 rfl rfl) ?_
        refine lv_istore_n (lv' := [(2, .int (iI (zdv l2 10))), (3, .int (iI l3)), (0, .ref (ad 0 l0 0)), (1, .int (iI l1))]) hx hb (D_61 W_prog_2_method_6_code_32 26 rfl rfl) rfl hl (by decide) rfl (fun ls hl => ?_)
        refine lv_iinc (v := iI (l3 + 1)) (lv' := [(3, .int (iI (l3 + 1))), (2, .int (iI (zdv l2 10))), (0, .ref (ad 0 l0 0)), (1, .int (iI l1))]) hx hb d_2_6_59 hl (k := 1) rfl (iI_add _ 1) (by decide) rfl (fun ls hl => ?_)
        refine lv_goto (tgt := 31) hx hb (D_167 W_prog_2_method_6_code_32 30 rfl rfl rfl) (by decide) ?_
        exact ih hf hZ12 hS12 (lv_sub hl [0, 1, 2, 3] rfl)

def f_ByteRow_putDecimal_29 (K : zK) (l2 : Int) (l0 : Int) (l1 : Int) (F : zF) (B : zB) : zO := f_ByteRow_putDecimal_31 K K.1 0 l2 l0 l1 F B
set_option maxHeartbeats 4000000 in
set_option maxRecDepth 100000 in
theorem b_ByteRow_putDecimal_29 {D : va_G} {ca : Nat → ClassId} {ad : Nat → Int → Nat → Nat} {L : List Nat} {aS vS : Nat → Nat} {A : Nat → Prop} {p : Program} {l : Launch} {e : Env} {s : State} {m : MethodId} {args : Array Value} {below : List Frame} {meth : Method} {c : Code} {K : zK} {r : Int} {F9 : zF} {B9 : zB} (X : zX D ca L aS vS A p s m args meth c prog_2_method_6_code 4 (Option.none : Option Jvm.ClassFile.FieldType) "StaveHouse$ByteRow") {l2 : Int} {l0 : Int} {l1 : Int} {F : zF} {B : zB} {H : Heap} {locs : List Loc} {ls : Array Slot} (hf : f_ByteRow_putDecimal_29 K l2 l0 l1 F B = some (r, F9, B9)) (hZ : zH D ca ad lnC K.2 L F B A H) (hS : va_S A s.heap H locs) (hl : lv_has ls 4 [(2, .int (iI l2)), (0, .ref (ad 0 l0 0)), (1, .int (iI l1))]) : W p l e ({ frames := 1, cells := 0, slots := 0, locals := 21 } : Room) s m args below meth c H locs 0 0 (MQ below (Q_ByteRow_putDecimal K D ca ad L r F9 B9 A) args s 0 0 A) (F0 m 29 ls []) := by
  obtain ⟨hx, hb, hr, hml, hown, hts, hlk, hK, hA, hL, hX⟩ := id X
  replace hf : (f_ByteRow_putDecimal_31 K K.1 0 l2 l0 l1 F B) = some (r, F9, B9) := hf
  refine lv_iconst (v := iI 0) hx hb (D_3 W_prog_2_method_6_code_0 29 rfl rfl) rfl ?_
  refine lv_istore_n (lv' := [(3, .int (iI 0)), (2, .int (iI l2)), (0, .ref (ad 0 l0 0)), (1, .int (iI l1))]) hx hb (D_62 W_prog_2_method_6_code_0 30 rfl rfl) rfl hl (by decide) rfl (fun ls hl => ?_)
  exact b_ByteRow_putDecimal_31 X hf hZ hS (lv_sub hl [0, 1, 2, 3] rfl)

def f_ByteRow_putDecimal_4 (K : zK) : Nat → Int → Int → Int → Int → zF → zB → zO
  | 0, _, _, _, _, _, _ => none
  | n + 1, l3, l2, l0, l1, F, B => if r32 l3 then (if 9 ≤ l3 then f_ByteRow_putDecimal_29 K l2 l0 l1 F B else if ¬ iI l2 = 0 then if r32 (zdv l1 l2) then (if (zdv l1 l2) < 10 then f_ByteRow_putDecimal_29 K l2 l0 l1 F B else f_ByteRow_putDecimal_4 K n (l3 + 1) (l2 * 10) l0 l1 F B) else none else none) else none
set_option maxHeartbeats 4000000 in
set_option maxRecDepth 100000 in
theorem b_ByteRow_putDecimal_4 {D : va_G} {ca : Nat → ClassId} {ad : Nat → Int → Nat → Nat} {L : List Nat} {aS vS : Nat → Nat} {A : Nat → Prop} {p : Program} {l : Launch} {e : Env} {s : State} {m : MethodId} {args : Array Value} {below : List Frame} {meth : Method} {c : Code} {K : zK} {r : Int} {F9 : zF} {B9 : zB} (X : zX D ca L aS vS A p s m args meth c prog_2_method_6_code 4 (Option.none : Option Jvm.ClassFile.FieldType) "StaveHouse$ByteRow") : ∀ {n : Nat} {l3 : Int} {l2 : Int} {l0 : Int} {l1 : Int} {F : zF} {B : zB} {H : Heap} {locs : List Loc} {ls : Array Slot}, f_ByteRow_putDecimal_4 K n l3 l2 l0 l1 F B = some (r, F9, B9) → zH D ca ad lnC K.2 L F B A H → va_S A s.heap H locs → lv_has ls 4 [(3, .int (iI l3)), (2, .int (iI l2)), (0, .ref (ad 0 l0 0)), (1, .int (iI l1))] → W p l e ({ frames := 1, cells := 0, slots := 0, locals := 21 } : Room) s m args below meth c H locs 0 0 (MQ below (Q_ByteRow_putDecimal K D ca ad L r F9 B9 A) args s 0 0 A) (F0 m 4 ls []) := by
  obtain ⟨hx, hb, hr, hml, hown, hts, hlk, hK, hA, hL, hX⟩ := id X
  intro n
  induction n with
  | zero =>
    intros
    rename_i hf _ _ _
    cases hf
  | succ n ih =>
    intro l3 l2 l0 l1 F B H locs ls hf hZ hS hl
    replace hf : (if r32 l3 then (if 9 ≤ l3 then f_ByteRow_putDecimal_29 K l2 l0 l1 F B else if ¬ iI l2 = 0 then if r32 (zdv l1 l2) then (if (zdv l1 l2) < 10 then f_ByteRow_putDecimal_29 K l2 l0 l1 F B else f_ByteRow_putDecimal_4 K n (l3 + 1) (l2 * 10) l0 l1 F B) else none else none) else none) = some (r, F9, B9) := hf
    refine lv_iload_n hx hb (D_29 W_prog_2_method_6_code_0 4 rfl rfl) rfl (lv_at hl 0 rfl) ?_
    refine lv_bipush (v := iI 9) hx hb (D_16 W_prog_2_method_6_code_0 5 rfl rfl rfl) (by decide) ?_
    obtain ⟨g1, hf⟩ := gif hf
    refine zge (tgt := 29) hx hb g1 (by decide) (D_162 W_prog_2_method_6_code_0 7 rfl rfl rfl) (by decide) (fun h2 => ?_) (fun h2 => ?_)
    · replace hf := gpos hf h2
      exact b_ByteRow_putDecimal_29 X hf hZ hS (lv_sub hl [1, 2, 3] rfl)
    · replace hf := gneg hf h2
      refine lv_iload_n hx hb (D_27 W_prog_2_method_6_code_0 10 rfl rfl) rfl (lv_at hl 3 rfl) ?_
      refine lv_iload_n hx hb (D_28 W_prog_2_method_6_code_0 11 rfl rfl) rfl (lv_at hl 1 rfl) ?_
      obtain ⟨g3, hf⟩ := gif hf
      refine zdv_r hx hb g3 (D_108 W_prog_2_method_6_code_0 12 rfl rfl) ?_
      refine lv_bipush (v := iI 10) hx hb (D_16 W_prog_2_method_6_code_0 13 rfl rfl rfl) (by decide) ?_
      obtain ⟨g4, hf⟩ := gif hf
      refine zlt (tgt := 29) hx hb g4 (by decide) (D_161 W_prog_2_method_6_code_0 15 rfl rfl rfl) (by decide) (fun h5 => ?_) (fun h5 => ?_)
      · replace hf := gpos hf h5
        exact b_ByteRow_putDecimal_29 X hf hZ hS (lv_sub hl [1, 2, 3] rfl)
      · replace hf := gneg hf h5
        refine lv_iload_n hx hb (D_28 W_prog_2_method_6_code_0 18 rfl rfl) rfl (lv_at hl 1 rfl) ?_
        refine lv_bipush (v := iI 10) hx hb (D_16 W_prog_2_method_6_code_0 19 rfl rfl rfl) (by decide) ?_
        refine zmul hx hb (D_104 W_prog_2_method_6_code_0 21 rfl rfl) ?_
        refine lv_istore_n (lv' := [(2, .int (iI (l2 * 10))), (3, .int (iI l3)), (0, .ref (ad 0 l0 0)), (1, .int (iI l1))]) hx hb (D_61 W_prog_2_method_6_code_0 22 rfl rfl) rfl hl (by decide) rfl (fun ls hl => ?_)
        refine lv_iinc (v := iI (l3 + 1)) (lv' := [(3, .int (iI (l3 + 1))), (2, .int (iI (l2 * 10))), (0, .ref (ad 0 l0 0)), (1, .int (iI l1))]) hx hb d_2_6_23 hl (k := 1) rfl (iI_add _ 1) (by decide) rfl (fun ls hl => ?_)
        refine lv_goto (tgt := 4) hx hb (D_167 W_prog_2_method_6_code_0 26 rfl rfl rfl) (by decide) ?_
        exact ih hf hZ hS (lv_sub hl [0, 1, 2, 3] rfl)

def f_ByteRow_putDecimal (K : zK) (l0 : Int) (l1 : Int) (F : zF) (B : zB) : zO := f_ByteRow_putDecimal_4 K K.1 0 1 l0 l1 F B
set_option maxHeartbeats 4000000 in
set_option maxRecDepth 100000 in
theorem c_ByteRow_putDecimal {l : Launch} {D : va_G} {ca : Nat → ClassId} {ad : Nat → Int → Nat → Nat} {L : List Nat} {aS vS : Nat → Nat} {sz : Nat} {K : zK}  {l0 : Int} {l1 : Int} {F F9 : zF} {B B9 : zB} {r : Int} (hf : f_ByteRow_putDecimal K l0 l1 F B = some (r, F9, B9)) : Met l ({ cls := "StaveHouse$ByteRow", name := "putDecimal", desc := "(I)V" } : Jvm.MethodName) (Cond.code ({ cls := "StaveHouse$ByteRow", name := "putDecimal", desc := "(I)V" } : Jvm.MethodName) prog_2_method_6_code 4 (Option.none : Option Jvm.ClassFile.FieldType) :: wAll) ({ frames := 1, cells := 0, slots := 0, locals := 21 } : Room) (va_Pc [.ref (ad 0 l0 0), .int (iI l1)] (zPre D ca ad lnC K.2 L aS vS F B sz)) (Q_ByteRow_putDecimal K D ca ad L r F9 B9 (zA L sz)) 0 0 (zA L sz) := by
  refine zMet (Qc := Q_ByteRow_putDecimal K D ca ad L r F9 B9) (lv := [(0, .ref (ad 0 l0 0)), (1, .int (iI l1))]) (by decide) (Nat.le_of_ble_eq_true rfl) rfl (fun A p e s m below meth c ls X hZ hS hl => ?_)
  obtain ⟨hx, hb, hr, hml, hown, hts, hlk, hK, hA, hL, hX⟩ := id X
  replace hf : (f_ByteRow_putDecimal_4 K K.1 0 1 l0 l1 F B) = some (r, F9, B9) := hf
  refine lv_iconst (v := iI 1) hx hb (D_4 W_prog_2_method_6_code_0 0 rfl rfl) rfl ?_
  refine lv_istore_n (lv' := [(2, .int (iI 1)), (0, .ref (ad 0 l0 0)), (1, .int (iI l1))]) hx hb (D_61 W_prog_2_method_6_code_0 1 rfl rfl) rfl hl (by decide) rfl (fun ls hl => ?_)
  refine lv_iconst (v := iI 0) hx hb (D_3 W_prog_2_method_6_code_0 2 rfl rfl) rfl ?_
  refine lv_istore_n (lv' := [(3, .int (iI 0)), (2, .int (iI 1)), (0, .ref (ad 0 l0 0)), (1, .int (iI l1))]) hx hb (D_62 W_prog_2_method_6_code_0 3 rfl rfl) rfl hl (by decide) rfl (fun ls hl => ?_)
  exact b_ByteRow_putDecimal_4 X hf hZ hS (lv_sub hl [0, 1, 2, 3] rfl)

abbrev Q_Scribe_spell (K : zK) (D : va_G) (ca : Nat → ClassId) (ad : Nat → Int → Nat → Nat) (L : List Nat) (r : Int) (F : zF) (B : zB) (A : Nat → Prop) : Array Value → State → Outcome → State → Prop := va_Qv (S := Unit) (fun _ => True) (fun _ => zPo D ca ad lnC K.2 L F B A) A
def f_Scribe_spell_96 (K : zK)  (F : zF) (B : zB) : zO := some (0, F, B)
set_option maxHeartbeats 4000000 in
set_option maxRecDepth 100000 in
theorem b_Scribe_spell_96 {D : va_G} {ca : Nat → ClassId} {ad : Nat → Int → Nat → Nat} {L : List Nat} {aS vS : Nat → Nat} {A : Nat → Prop} {p : Program} {l : Launch} {e : Env} {s : State} {m : MethodId} {args : Array Value} {below : List Frame} {meth : Method} {c : Code} {K : zK} {r : Int} {F9 : zF} {B9 : zB} (X : zX D ca L aS vS A p s m args meth c prog_9_method_8_code 7 (Option.none : Option Jvm.ClassFile.FieldType) "StaveHouse$Scribe")  {F : zF} {B : zB} {H : Heap} {locs : List Loc} {ls : Array Slot} (hf : f_Scribe_spell_96 K  F B = some (r, F9, B9)) (hZ : zH D ca ad lnC K.2 L F B A H) (hS : va_S A s.heap H locs) (hl : lv_has ls 7 []) : W p l e ({ frames := 1, cells := 0, slots := 0, locals := 24 } : Room) s m args below meth c H locs 0 0 (MQ below (Q_Scribe_spell K D ca ad L r F9 B9 A) args s 0 0 A) (F0 m 96 ls []) := by
  obtain ⟨hx, hb, hr, hml, hown, hts, hlk, hK, hA, hL, hX⟩ := id X
  replace hf : (some (0, F, B)) = some (r, F9, B9) := hf
  cases hf
  exact W.vret hx hb hr (fun t ht hW => ⟨⟨(), rfl, trivial, by rw [ht]; exact hZ, va_K.moved hW.alike hK⟩, hS.F ht⟩) hS.2.2 (D_177 W_prog_9_method_8_code_96 0 rfl rfl) hlk

def f_Scribe_spell (K : zK) (l0 : Int) (l1 : Int) (F : zF) (B : zB) : zO := if 0 ≤ l0 ∧ l0 < K.2 7 then if 0 ≤ (F 7 l0 0) ∧ (F 7 l0 0) < K.2 8 then zbind (f_Math_floorMod K ((7 * l1) - ((B 8 (F 7 l0 0) 0 2) - 5)) 12 F B) (fun r3 F3 B3 => zbind (f_Math_floorMod K (4 * (((B 8 (F 7 l0 0) 0 2) - 5) + r3)) 7 F3 B3) (fun r4 F4 B4 => zbind (f_Math_floorDiv K ((((B 8 (F 7 l0 0) 0 2) - 5) + r3) + 1) 7 F4 B4) (fun r5 F5 B5 => if 0 ≤ r4 ∧ r4 < ztl 5 then zbind (f_Math_floorDiv K ((l1 - (ztv 5 r4)) - r5) 12 F5 B5) (fun r7 F7 B7 => if r32 (r7 - 1) then (if (r7 - 1) < 0 then f_Scribe_spell_96 K F7 B7 else (if 8 < (r7 - 1) then f_Scribe_spell_96 K F7 B7 else if 0 ≤ (F7 7 l0 4) ∧ (F7 7 l0 4) < K.2 1 then zbind (f_Event_insert K (F7 7 l0 4) ((7 * (r7 - 1)) + r4) r5 F7 B7) (fun r12 F12 B12 => f_Scribe_spell_96 K F12 B12) else none)) else none) else none))) else none else none
set_option maxHeartbeats 4000000 in
set_option maxRecDepth 100000 in
theorem c_Scribe_spell {l : Launch} {D : va_G} {ca : Nat → ClassId} {ad : Nat → Int → Nat → Nat} {L : List Nat} {aS vS : Nat → Nat} {sz : Nat} {K : zK}  {l0 : Int} {l1 : Int} {F F9 : zF} {B B9 : zB} {r : Int} (hf : f_Scribe_spell K l0 l1 F B = some (r, F9, B9)) : Met l ({ cls := "StaveHouse$Scribe", name := "spell", desc := "(I)V" } : Jvm.MethodName) (Cond.code ({ cls := "StaveHouse$Scribe", name := "spell", desc := "(I)V" } : Jvm.MethodName) prog_9_method_8_code 7 (Option.none : Option Jvm.ClassFile.FieldType) :: wAll) ({ frames := 1, cells := 0, slots := 0, locals := 24 } : Room) (va_Pc [.ref (ad 7 l0 0), .int (iI l1)] (zPre D ca ad lnC K.2 L aS vS F B sz)) (Q_Scribe_spell K D ca ad L r F9 B9 (zA L sz)) 0 0 (zA L sz) := by
  refine zMet (Qc := Q_Scribe_spell K D ca ad L r F9 B9) (lv := [(0, .ref (ad 7 l0 0)), (1, .int (iI l1))]) (by decide) (Nat.le_of_ble_eq_true rfl) rfl (fun A p e s m below meth c ls X hZ hS hl => ?_)
  obtain ⟨hx, hb, hr, hml, hown, hts, hlk, hK, hA, hL, hX⟩ := id X
  replace hf : (if 0 ≤ l0 ∧ l0 < K.2 7 then if 0 ≤ (F 7 l0 0) ∧ (F 7 l0 0) < K.2 8 then zbind (f_Math_floorMod K ((7 * l1) - ((B 8 (F 7 l0 0) 0 2) - 5)) 12 F B) (fun r3 F3 B3 => zbind (f_Math_floorMod K (4 * (((B 8 (F 7 l0 0) 0 2) - 5) + r3)) 7 F3 B3) (fun r4 F4 B4 => zbind (f_Math_floorDiv K ((((B 8 (F 7 l0 0) 0 2) - 5) + r3) + 1) 7 F4 B4) (fun r5 F5 B5 => if 0 ≤ r4 ∧ r4 < ztl 5 then zbind (f_Math_floorDiv K ((l1 - (ztv 5 r4)) - r5) 12 F5 B5) (fun r7 F7 B7 => if r32 (r7 - 1) then (if (r7 - 1) < 0 then f_Scribe_spell_96 K F7 B7 else (if 8 < (r7 - 1) then f_Scribe_spell_96 K F7 B7 else if 0 ≤ (F7 7 l0 4) ∧ (F7 7 l0 4) < K.2 1 then zbind (f_Event_insert K (F7 7 l0 4) ((7 * (r7 - 1)) + r4) r5 F7 B7) (fun r12 F12 B12 => f_Scribe_spell_96 K F12 B12) else none)) else none) else none))) else none else none) = some (r, F9, B9) := hf
  refine lv_aload_n hx hb (D_42 W_prog_9_method_8_code_0 0 rfl rfl) rfl (lv_at hl 0 rfl) ?_
  obtain ⟨g1, hf⟩ := gif hf
  refine zget (ci := 7) (C := RX7) (T := TX7) (v := va_rf (zrf ad 8 (F 7 l0 0))) (k := 0) hx hb hts inW_7 hown hK hZ g1.1 g1.2 rfl (by decide) k_2_98 rfl (D_180 W_prog_9_method_8_code_0 1 rfl rfl rfl) ?_
  obtain ⟨g2, hf⟩ := gif hf
  refine zunrf g2.1 ?_
  refine zget (ci := 8) (C := RX8) (T := TX8) (v := .ref (ad 8 (F 7 l0 0) (0 + 1))) (k := 0) hx hb hts inW_8 hown hK hZ g2.1 g2.2 rfl (by decide) k_7_218 rfl (D_180 W_prog_9_method_8_code_0 4 rfl rfl rfl) ?_
  refine lv_iconst (v := iI 2) hx hb (D_5 W_prog_9_method_8_code_0 7 rfl rfl) rfl ?_
  refine zald (ci := 8) (k := 0) hx hb hK rfl hZ g2.1 g2.2 rfl (Nat.le_of_ble_eq_true rfl) (by decide) (show (2 : Int) < 7 by decide) (D_46 W_prog_9_method_8_code_0 8 rfl rfl) ?_
  refine lv_iconst (v := iI 5) hx hb (D_8 W_prog_9_method_8_code_0 9 rfl rfl) rfl ?_
  refine zsub hx hb (D_100 W_prog_9_method_8_code_0 10 rfl rfl) ?_
  refine lv_istore_n (lv' := [(2, .int (iI ((B 8 (F 7 l0 0) 0 2) - 5))), (0, .ref (ad 7 l0 0)), (1, .int (iI l1))]) hx hb (D_61 W_prog_9_method_8_code_0 11 rfl rfl) rfl hl (by decide) rfl (fun ls hl => ?_)
  refine lv_iload_n hx hb (D_28 W_prog_9_method_8_code_0 12 rfl rfl) rfl (lv_at hl 0 rfl) ?_
  refine lv_bipush (v := iI 7) hx hb (D_16 W_prog_9_method_8_code_0 13 rfl rfl rfl) (by decide) ?_
  refine lv_iload_n hx hb (D_27 W_prog_9_method_8_code_0 15 rfl rfl) rfl (lv_at hl 2 rfl) ?_
  refine zmul hx hb (D_104 W_prog_9_method_8_code_0 16 rfl rfl) ?_
  refine lv_iload_n hx hb (D_28 W_prog_9_method_8_code_0 17 rfl rfl) rfl (lv_at hl 0 rfl) ?_
  refine zsub hx hb (D_100 W_prog_9_method_8_code_0 18 rfl rfl) ?_
  refine lv_bipush (v := iI 12) hx hb (D_16 W_prog_9_method_8_code_0 19 rfl rfl rfl) (by decide) ?_
  obtain ⟨r3, F3, B3, hc3, hf⟩ := gbind hf
  refine va_calli (va_runS (As := [.int (iI ((7 * l1) - ((B 8 (F 7 l0 0) 0 2) - 5))), .int (iI 12)]) (rest := [.int (iI ((B 8 (F 7 l0 0) 0 2) - 5))]) ⟨hx, hb, hml, hown, hts⟩ (c_Math_floorMod (l := l) hc3) (va_cwS 2 hts (gdS k_8_216 k_4_71 k_1_3 k_4_72) rfl rfl rfl (by decide +kernel) ⟨Nat.le_of_ble_eq_true rfl, Nat.le_of_ble_eq_true rfl⟩) (zPS X hZ hS [.int (iI ((7 * l1) - ((B 8 (F 7 l0 0) 0 2) - 5))), .int (iI 12)]) rfl rfl hl.1 rfl (lv_room (Nat.le_of_ble_eq_true rfl)) (D_184 W_prog_9_method_8_code_0 21 rfl rfl rfl) ⟨Nat.le_of_ble_eq_true rfl, Nat.le_of_ble_eq_true rfl⟩) hS (fun q _ h => zAin X hS q h) (zAin X hS) (fun p3 u3 t3 H3 locs3 ht3 hv3 hw3 hB3 hz3 hk3 hS3 => ?_)
  have hZ3 := zBack X ht3 hB3
  subst hw3
  refine zadd hx hb (D_96 W_prog_9_method_8_code_0 24 rfl rfl) ?_
  refine lv_istore_n (lv' := [(3, .int (iI (((B 8 (F 7 l0 0) 0 2) - 5) + r3))), (2, .int (iI ((B 8 (F 7 l0 0) 0 2) - 5))), (0, .ref (ad 7 l0 0)), (1, .int (iI l1))]) hx hb (D_62 W_prog_9_method_8_code_0 25 rfl rfl) rfl hl (by decide) rfl (fun ls hl => ?_)
  refine lv_iconst (v := iI 4) hx hb (D_7 W_prog_9_method_8_code_0 26 rfl rfl) rfl ?_
  refine lv_iload_n hx hb (D_29 W_prog_9_method_8_code_0 27 rfl rfl) rfl (lv_at hl 0 rfl) ?_
  refine zmul hx hb (D_104 W_prog_9_method_8_code_0 28 rfl rfl) ?_
  refine lv_bipush (v := iI 7) hx hb (D_16 W_prog_9_method_8_code_0 29 rfl rfl rfl) (by decide) ?_
  obtain ⟨r4, F4, B4, hc4, hf⟩ := gbind hf
  refine va_calli (va_runS (As := [.int (iI (4 * (((B 8 (F 7 l0 0) 0 2) - 5) + r3))), .int (iI 7)]) (rest := []) ⟨hx, hb, hml, hown, hts⟩ (c_Math_floorMod (l := l) hc4) (va_cwS 2 hts (gdS k_8_216 k_4_71 k_1_3 k_4_72) rfl rfl rfl (by decide +kernel) ⟨Nat.le_of_ble_eq_true rfl, Nat.le_of_ble_eq_true rfl⟩) (zPS X hZ3 hS3 [.int (iI (4 * (((B 8 (F 7 l0 0) 0 2) - 5) + r3))), .int (iI 7)]) rfl rfl hl.1 rfl (lv_room (Nat.le_of_ble_eq_true rfl)) (D_184 W_prog_9_method_8_code_0 31 rfl rfl rfl) ⟨Nat.le_of_ble_eq_true rfl, Nat.le_of_ble_eq_true rfl⟩) hS3 (fun q _ h => zAin X hS3 q h) (zAin X hS3) (fun p4 u4 t4 H4 locs4 ht4 hv4 hw4 hB4 hz4 hk4 hS4 => ?_)
  have hZ4 := zBack X ht4 hB4
  subst hw4
  refine lv_istore (lv' := [(4, .int (iI r4)), (3, .int (iI (((B 8 (F 7 l0 0) 0 2) - 5) + r3))), (2, .int (iI ((B 8 (F 7 l0 0) 0 2) - 5))), (0, .ref (ad 7 l0 0)), (1, .int (iI l1))]) hx hb (D_54 W_prog_9_method_8_code_32 2 rfl rfl) hl (by decide) rfl (fun ls hl => ?_)
  refine lv_iload_n hx hb (D_29 W_prog_9_method_8_code_32 4 rfl rfl) rfl (lv_at hl 1 rfl) ?_
  refine lv_iconst (v := iI 1) hx hb (D_4 W_prog_9_method_8_code_32 5 rfl rfl) rfl ?_
  refine zadd hx hb (D_96 W_prog_9_method_8_code_32 6 rfl rfl) ?_
  refine lv_bipush (v := iI 7) hx hb (D_16 W_prog_9_method_8_code_32 7 rfl rfl rfl) (by decide) ?_
  obtain ⟨r5, F5, B5, hc5, hf⟩ := gbind hf
  refine va_calli (va_runS (As := [.int (iI ((((B 8 (F 7 l0 0) 0 2) - 5) + r3) + 1)), .int (iI 7)]) (rest := []) ⟨hx, hb, hml, hown, hts⟩ (c_Math_floorDiv (l := l) hc5) (va_cwS 2 hts (gdS k_8_230 k_4_66 k_1_3 k_4_67) rfl rfl rfl (by decide +kernel) ⟨Nat.le_of_ble_eq_true rfl, Nat.le_of_ble_eq_true rfl⟩) (zPS X hZ4 hS4 [.int (iI ((((B 8 (F 7 l0 0) 0 2) - 5) + r3) + 1)), .int (iI 7)]) rfl rfl hl.1 rfl (lv_room (Nat.le_of_ble_eq_true rfl)) (D_184 W_prog_9_method_8_code_32 9 rfl rfl rfl) ⟨Nat.le_of_ble_eq_true rfl, Nat.le_of_ble_eq_true rfl⟩) hS4 (fun q _ h => zAin X hS4 q h) (zAin X hS4) (fun p5 u5 t5 H5 locs5 ht5 hv5 hw5 hB5 hz5 hk5 hS5 => ?_)
  have hZ5 := zBack X ht5 hB5
  subst hw5
  refine lv_istore (lv' := [(5, .int (iI r5)), (4, .int (iI r4)), (3, .int (iI (((B 8 (F 7 l0 0) 0 2) - 5) + r3))), (2, .int (iI ((B 8 (F 7 l0 0) 0 2) - 5))), (0, .ref (ad 7 l0 0)), (1, .int (iI l1))]) hx hb (D_54 W_prog_9_method_8_code_32 12 rfl rfl) hl (by decide) rfl (fun ls hl => ?_)
  refine lv_iload_n hx hb (D_27 W_prog_9_method_8_code_32 14 rfl rfl) rfl (lv_at hl 5 rfl) ?_
  have hnw := hX.2.2.2.2.2.1.2 _ (List.mem_of_getElem? (i := 1) rfl)
  refine va_getsN hx hb (hX.2.2.2.2.2.2 5 _ rfl).1 hS5 hown (va_Nw.use rfl hnw) (fun _ h => h) (D_178 W_prog_9_method_8_code_32 15 rfl rfl rfl) ?_
  refine W.eq (g2 := F0 m 50 ls [.ref (vS (1000 + 5)), .int (iI l1)]) rfl ?_
  refine lv_iload hx hb (D_21 W_prog_9_method_8_code_32 18 rfl rfl) (lv_at hl 1 rfl) ?_
  obtain ⟨g6, hf⟩ := gif hf
  refine va_ti (v := .int (iI (ztv 5 r4))) hx hb (ztI hX (by decide) (by decide)) hS5 (zt_in (by decide) g6) (ztI_v (by decide) g6) (D_46 W_prog_9_method_8_code_32 20 rfl rfl) ?_
  refine zsub hx hb (D_100 W_prog_9_method_8_code_32 21 rfl rfl) ?_
  refine lv_iload hx hb (D_21 W_prog_9_method_8_code_32 22 rfl rfl) (lv_at hl 0 rfl) ?_
  refine zsub hx hb (D_100 W_prog_9_method_8_code_32 24 rfl rfl) ?_
  refine lv_bipush (v := iI 12) hx hb (D_16 W_prog_9_method_8_code_32 25 rfl rfl rfl) (by decide) ?_
  obtain ⟨r7, F7, B7, hc7, hf⟩ := gbind hf
  refine va_calli (va_runS (As := [.int (iI ((l1 - (ztv 5 r4)) - r5)), .int (iI 12)]) (rest := []) ⟨hx, hb, hml, hown, hts⟩ (c_Math_floorDiv (l := l) hc7) (va_cwS 2 hts (gdS k_8_230 k_4_66 k_1_3 k_4_67) rfl rfl rfl (by decide +kernel) ⟨Nat.le_of_ble_eq_true rfl, Nat.le_of_ble_eq_true rfl⟩) (zPS X hZ5 hS5 [.int (iI ((l1 - (ztv 5 r4)) - r5)), .int (iI 12)]) rfl rfl hl.1 rfl (lv_room (Nat.le_of_ble_eq_true rfl)) (D_184 W_prog_9_method_8_code_32 27 rfl rfl rfl) ⟨Nat.le_of_ble_eq_true rfl, Nat.le_of_ble_eq_true rfl⟩) hS5 (fun q _ h => zAin X hS5 q h) (zAin X hS5) (fun p7 u7 t7 H7 locs7 ht7 hv7 hw7 hB7 hz7 hk7 hS7 => ?_)
  have hZ7 := zBack X ht7 hB7
  subst hw7
  refine lv_iconst (v := iI 1) hx hb (D_4 W_prog_9_method_8_code_32 30 rfl rfl) rfl ?_
  refine zsub hx hb (D_100 W_prog_9_method_8_code_32 31 rfl rfl) ?_
  refine lv_istore (lv' := [(6, .int (iI (r7 - 1))), (5, .int (iI r5)), (4, .int (iI r4)), (3, .int (iI (((B 8 (F 7 l0 0) 0 2) - 5) + r3))), (2, .int (iI ((B 8 (F 7 l0 0) 0 2) - 5))), (0, .ref (ad 7 l0 0)), (1, .int (iI l1))]) hx hb (D_54 W_prog_9_method_8_code_64 0 rfl rfl) hl (by decide) rfl (fun ls hl => ?_)
  refine lv_iload hx hb (D_21 W_prog_9_method_8_code_64 2 rfl rfl) (lv_at hl 0 rfl) ?_
  obtain ⟨g8, hf⟩ := gif hf
  refine z0lt (tgt := 96) hx hb g8 (D_155 W_prog_9_method_8_code_64 4 rfl rfl rfl) (by decide) (fun h9 => ?_) (fun h9 => ?_)
  · replace hf := gpos hf h9
    exact b_Scribe_spell_96 X hf hZ7 hS7 (lv_sub hl [] rfl)
  · replace hf := gneg hf h9
    refine lv_iload hx hb (D_21 W_prog_9_method_8_code_64 7 rfl rfl) (lv_at hl 0 rfl) ?_
    refine lv_bipush (v := iI 8) hx hb (D_16 W_prog_9_method_8_code_64 9 rfl rfl rfl) (by decide) ?_
    refine zgt (tgt := 96) hx hb g8 (by decide) (D_163 W_prog_9_method_8_code_64 11 rfl rfl rfl) (by decide) (fun h10 => ?_) (fun h10 => ?_)
    · replace hf := gpos hf h10
      exact b_Scribe_spell_96 X hf hZ7 hS7 (lv_sub hl [] rfl)
    · replace hf := gneg hf h10
      refine lv_aload_n hx hb (D_42 W_prog_9_method_8_code_64 14 rfl rfl) rfl (lv_at hl 5 rfl) ?_
      refine zget (ci := 7) (C := RX7) (T := TX7) (v := va_rf (zrf ad 1 (F7 7 l0 4))) (k := 4) hx hb hts inW_7 hown hK hZ7 g1.1 g1.2 rfl (by decide) k_2_102 rfl (D_180 W_prog_9_method_8_code_64 15 rfl rfl rfl) ?_
      refine lv_bipush (v := iI 7) hx hb (D_16 W_prog_9_method_8_code_64 18 rfl rfl rfl) (by decide) ?_
      refine lv_iload hx hb (D_21 W_prog_9_method_8_code_64 20 rfl rfl) (lv_at hl 0 rfl) ?_
      refine zmul hx hb (D_104 W_prog_9_method_8_code_64 22 rfl rfl) ?_
      refine lv_iload hx hb (D_21 W_prog_9_method_8_code_64 23 rfl rfl) (lv_at hl 2 rfl) ?_
      refine zadd hx hb (D_96 W_prog_9_method_8_code_64 25 rfl rfl) ?_
      refine lv_iload hx hb (D_21 W_prog_9_method_8_code_64 26 rfl rfl) (lv_at hl 1 rfl) ?_
      obtain ⟨g11, hf⟩ := gif hf
      refine W.eq (g2 := F0 m 92 ls [.int (iI r5), .int (iI ((7 * (r7 - 1)) + r4)), .ref (ad 1 (F7 7 l0 4) 0)]) (by rw [zrf_pos (ad := ad) (t := 1) g11.1]; try rfl) ?_
      obtain ⟨r12, F12, B12, hc12, hf⟩ := gbind hf
      refine va_calli (va_runV (As := [.int (iI ((7 * (r7 - 1)) + r4)), .int (iI r5)]) (rest := []) ⟨hx, hb, hml, hown, hts⟩ (c_Event_insert (l := l) hc12) (cwV 2 hts (gdV k_8_232 k_4_232 k_4_233 k_1_8 k_4_234) rfl rfl rfl (by decide +kernel) ⟨Nat.le_of_ble_eq_true rfl, Nat.le_of_ble_eq_true rfl⟩) (zPV X hZ7 hS7 (ci := 1) g11.1 g11.2 (r := (RX1, TX1, 14)) rfl [.int (iI ((7 * (r7 - 1)) + r4)), .int (iI r5)]) rfl rfl hl.1 rfl (lv_room (Nat.le_of_ble_eq_true rfl)) (D_182 W_prog_9_method_8_code_64 28 rfl rfl rfl) ⟨Nat.le_of_ble_eq_true rfl, Nat.le_of_ble_eq_true rfl⟩) hS7 (fun q _ h => zAin X hS7 q h) (zAin X hS7) (fun p12 u12 t12 H12 locs12 ht12 hv12 hw12 hB12 hz12 hk12 hS12 => ?_)
      have hZ12 := zBack X ht12 hB12
      subst hw12
      refine lv_pop hx hb (D_87 W_prog_9_method_8_code_64 31 rfl rfl) rfl ?_
      exact b_Scribe_spell_96 X hf hZ12 hS12 (lv_sub hl [] rfl)


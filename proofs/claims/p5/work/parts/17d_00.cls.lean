theorem k_2_127 : (Jvm.Cond.fieldLink "StaveHouse" (14 : Nat) "StaveHouse" "tape" "LStaveHouse$ByteRow;") ∈ wAll := wA_2 (j := 127) rfl rfl
theorem k_1_46 : (Jvm.Cond.fieldLink "StaveHouse" (56 : Nat) "StaveHouse$ByteRow" "size" "I") ∈ wAll := wA_1 (j := 46) rfl rfl
theorem k_7_95 : (Jvm.Cond.constantLong "StaveHouse$Performance" (178 : Nat) (2 : Int64)) ∈ wAll := wA_7 (j := 95) rfl rfl
theorem k_6_78 : (Jvm.Cond.fieldLink "StaveHouse$Performance" (30 : Nat) "StaveHouse$Performance" "otherStrokes" "[J") ∈ wAll := wA_6 (j := 78) rfl rfl
theorem k_6_77 : (Jvm.Cond.fieldLink "StaveHouse$Performance" (26 : Nat) "StaveHouse$Performance" "strokes" "[J") ∈ wAll := wA_6 (j := 77) rfl rfl
theorem k_2_229 : (Jvm.Cond.fieldLink "StaveHouse" (112 : Nat) "StaveHouse$Piece" "performed" "Z") ∈ wAll := wA_2 (j := 229) rfl rfl
theorem k_2_227 : (Jvm.Cond.fieldLink "StaveHouse" (116 : Nat) "StaveHouse$Piece" "performance" "LStaveHouse$Performance;") ∈ wAll := wA_2 (j := 227) rfl rfl
theorem k_7_116 : (Jvm.Cond.constantLong "StaveHouse$Performance" (184 : Nat) (3 : Int64)) ∈ wAll := wA_7 (j := 116) rfl rfl
theorem k_7_117 : (Jvm.Cond.constantLong "StaveHouse$Performance" (186 : Nat) (127 : Int64)) ∈ wAll := wA_7 (j := 117) rfl rfl
theorem k_7_118 : (Jvm.Cond.constantLong "StaveHouse$Performance" (188 : Nat) (2047 : Int64)) ∈ wAll := wA_7 (j := 118) rfl rfl
theorem k_2_129 : (Jvm.Cond.fieldLink "StaveHouse" (22 : Nat) "StaveHouse" "written" "LStaveHouse$ByteRow;") ∈ wAll := wA_2 (j := 129) rfl rfl
theorem k_5_166 : (Jvm.Cond.methodLink "StaveHouse" (92 : Nat) ({ cls := "StaveHouse$ByteRow", name := "clear", desc := "()V" } : Jvm.MethodName)) ∈ wAll := wA_5 (j := 166) rfl rfl
theorem k_5_167 : (Jvm.Cond.instanceMethod ({ cls := "StaveHouse$ByteRow", name := "clear", desc := "()V" } : Jvm.MethodName)) ∈ wAll := wA_5 (j := 167) rfl rfl
theorem k_5_168 : (Jvm.Cond.selects "StaveHouse$ByteRow" ({ cls := "StaveHouse$ByteRow", name := "clear", desc := "()V" } : Jvm.MethodName) ({ cls := "StaveHouse$ByteRow", name := "clear", desc := "()V" } : Jvm.MethodName)) ∈ wAll := wA_5 (j := 168) rfl rfl
theorem k_5_169 : (Jvm.Cond.code ({ cls := "StaveHouse$ByteRow", name := "clear", desc := "()V" } : Jvm.MethodName) prog_2_method_2_code (1 : Nat) (Option.none : Option Jvm.ClassFile.FieldType)) ∈ wAll := wA_5 (j := 169) rfl rfl
theorem k_7_153 : (Jvm.Cond.methodLink "StaveHouse$ByteRow" (39 : Nat) ({ cls := "StaveHouse$ByteRow", name := "put", desc := "(I)V" } : Jvm.MethodName)) ∈ wAll := wA_7 (j := 153) rfl rfl
theorem k_2_171 : (Jvm.Cond.instanceMethod ({ cls := "StaveHouse$ByteRow", name := "put", desc := "(I)V" } : Jvm.MethodName)) ∈ wAll := wA_2 (j := 171) rfl rfl
theorem k_2_172 : (Jvm.Cond.selects "StaveHouse$ByteRow" ({ cls := "StaveHouse$ByteRow", name := "put", desc := "(I)V" } : Jvm.MethodName) ({ cls := "StaveHouse$ByteRow", name := "put", desc := "(I)V" } : Jvm.MethodName)) ∈ wAll := wA_2 (j := 172) rfl rfl
theorem k_2_173 : (Jvm.Cond.code ({ cls := "StaveHouse$ByteRow", name := "put", desc := "(I)V" } : Jvm.MethodName) prog_2_method_4_code (2 : Nat) (Option.none : Option Jvm.ClassFile.FieldType)) ∈ wAll := wA_2 (j := 173) rfl rfl
theorem k_7_168 : (Jvm.Cond.methodLink "StaveHouse$Performance" (233 : Nat) ({ cls := "StaveHouse$ByteRow", name := "put", desc := "(I)V" } : Jvm.MethodName)) ∈ wAll := wA_7 (j := 168) rfl rfl
theorem k_7_172 : (Jvm.Cond.constant "java/lang/Integer" (265 : Nat) (1431655765 : Int32)) ∈ wAll := wA_7 (j := 172) rfl rfl
theorem k_7_173 : (Jvm.Cond.constant "java/lang/Integer" (266 : Nat) (858993459 : Int32)) ∈ wAll := wA_7 (j := 173) rfl rfl
theorem k_7_174 : (Jvm.Cond.constant "java/lang/Integer" (267 : Nat) (252645135 : Int32)) ∈ wAll := wA_7 (j := 174) rfl rfl
theorem k_7_200 : (Jvm.Cond.methodLink "StaveHouse" (268 : Nat) ({ cls := "StaveHouse$ByteRow", name := "at", desc := "(I)I" } : Jvm.MethodName)) ∈ wAll := wA_7 (j := 200) rfl rfl
theorem k_2_170 : (Jvm.Cond.methodLink "StaveHouse" (60 : Nat) ({ cls := "StaveHouse$ByteRow", name := "put", desc := "(I)V" } : Jvm.MethodName)) ∈ wAll := wA_2 (j := 170) rfl rfl
theorem k_7_229 : (Jvm.Cond.fieldLink "StaveHouse$SoundFile" (27 : Nat) "StaveHouse$SoundFile" "at" "I") ∈ wAll := wA_7 (j := 229) rfl rfl
theorem k_7_230 : (Jvm.Cond.fieldLink "StaveHouse$SoundFile" (36 : Nat) "StaveHouse$SoundFile" "limit" "I") ∈ wAll := wA_7 (j := 230) rfl rfl
theorem k_7_231 : (Jvm.Cond.fieldLink "StaveHouse$SoundFile" (39 : Nat) "StaveHouse$SoundFile" "wrong" "I") ∈ wAll := wA_7 (j := 231) rfl rfl
theorem k_7_223 : (Jvm.Cond.fieldLink "StaveHouse$SoundFile" (42 : Nat) "StaveHouse$SoundFile" "count" "I") ∈ wAll := wA_7 (j := 223) rfl rfl
theorem k_7_217 : (Jvm.Cond.fieldLink "StaveHouse$SoundFile" (9 : Nat) "StaveHouse$SoundFile" "head" "[I") ∈ wAll := wA_7 (j := 217) rfl rfl
theorem k_7_236 : (Jvm.Cond.fieldLink "StaveHouse$SoundFile" (73 : Nat) "StaveHouse$SoundFile" "keyTold" "Z") ∈ wAll := wA_7 (j := 236) rfl rfl
theorem k_7_237 : (Jvm.Cond.fieldLink "StaveHouse$SoundFile" (77 : Nat) "StaveHouse$SoundFile" "timeTold" "Z") ∈ wAll := wA_7 (j := 237) rfl rfl
theorem k_7_238 : (Jvm.Cond.fieldLink "StaveHouse$SoundFile" (80 : Nat) "StaveHouse$SoundFile" "tempoTold" "Z") ∈ wAll := wA_7 (j := 238) rfl rfl
theorem k_7_226 : (Jvm.Cond.fieldLink "StaveHouse$SoundFile" (20 : Nat) "StaveHouse$SoundFile" "numbers" "[I") ∈ wAll := wA_7 (j := 226) rfl rfl
theorem k_8_53 : (Jvm.Cond.methodLink "StaveHouse$SoundFile" (83 : Nat) ({ cls := "StaveHouse$SoundFile", name := "refuse", desc := "(II)V" } : Jvm.MethodName)) ∈ wAll := wA_8 (j := 53) rfl rfl
theorem k_8_55 : (Jvm.Cond.instanceMethod ({ cls := "StaveHouse$SoundFile", name := "refuse", desc := "(II)V" } : Jvm.MethodName)) ∈ wAll := wA_8 (j := 55) rfl rfl
theorem ks_96 : (Jvm.Cond.selects "StaveHouse$SoundFile" ({ cls := "StaveHouse$SoundFile", name := "refuse", desc := "(II)V" } : Jvm.MethodName) ({ cls := "StaveHouse$SoundFile", name := "refuse", desc := "(II)V" } : Jvm.MethodName)) ∈ wAll := wA_s (j := 96) rfl rfl
theorem k_1_23 : (Jvm.Cond.initialized "StaveHouse$SoundFile") ∈ wAll := wA_1 (j := 23) rfl rfl
theorem k_8_56 : (Jvm.Cond.code ({ cls := "StaveHouse$SoundFile", name := "refuse", desc := "(II)V" } : Jvm.MethodName) prog_10_method_4_code (3 : Nat) (Option.none : Option Jvm.ClassFile.FieldType)) ∈ wAll := wA_8 (j := 56) rfl rfl
theorem k_7_233 : (Jvm.Cond.fieldLink "StaveHouse$SoundFile" (120 : Nat) "StaveHouse$SoundFile" "status" "I") ∈ wAll := wA_7 (j := 233) rfl rfl
theorem k_7_234 : (Jvm.Cond.fieldLink "StaveHouse$SoundFile" (123 : Nat) "StaveHouse$SoundFile" "tick" "J") ∈ wAll := wA_7 (j := 234) rfl rfl
theorem k_8_104 : (Jvm.Cond.methodLink "StaveHouse$SoundFile" (165 : Nat) ({ cls := "java/lang/Math", name := "abs", desc := "(I)I" } : Jvm.MethodName)) ∈ wAll := wA_8 (j := 104) rfl rfl
theorem k_8_110 : (Jvm.Cond.constant "StaveHouse$SoundFile" (168 : Nat) (60000000 : Int32)) ∈ wAll := wA_8 (j := 110) rfl rfl
theorem k_8_111 : (Jvm.Cond.methodLink "StaveHouse$SoundFile" (169 : Nat) ({ cls := "java/lang/Math", name := "min", desc := "(II)I" } : Jvm.MethodName)) ∈ wAll := wA_8 (j := 111) rfl rfl
theorem k_8_112 : (Jvm.Cond.methodLink "StaveHouse$SoundFile" (172 : Nat) ({ cls := "java/lang/Math", name := "max", desc := "(II)I" } : Jvm.MethodName)) ∈ wAll := wA_8 (j := 112) rfl rfl
theorem k_7_220 : (Jvm.Cond.fieldLink "StaveHouse$SoundFile" (17 : Nat) "StaveHouse$SoundFile" "sounds" "[[J") ∈ wAll := wA_7 (j := 220) rfl rfl
theorem k_7_232 : (Jvm.Cond.fieldLink "StaveHouse$SoundFile" (51 : Nat) "StaveHouse$SoundFile" "track" "I") ∈ wAll := wA_7 (j := 232) rfl rfl
theorem k_8_121 : (Jvm.Cond.constantLong "StaveHouse$SoundFile" (134 : Nat) (-1 : Int64)) ∈ wAll := wA_8 (j := 121) rfl rfl
theorem k_2_135 : (Jvm.Cond.fieldLink "StaveHouse" (282 : Nat) "StaveHouse" "opened" "LStaveHouse$SoundFile;") ∈ wAll := wA_2 (j := 135) rfl rfl
theorem k_7_219 : (Jvm.Cond.fieldLink "StaveHouse" (286 : Nat) "StaveHouse$SoundFile" "head" "[I") ∈ wAll := wA_7 (j := 219) rfl rfl
theorem k_7_225 : (Jvm.Cond.fieldLink "StaveHouse" (285 : Nat) "StaveHouse$SoundFile" "count" "I") ∈ wAll := wA_7 (j := 225) rfl rfl
theorem k_6_199 : (Jvm.Cond.constant "StaveHouse" (218 : Nat) (-2147483648 : Int32)) ∈ wAll := wA_6 (j := 199) rfl rfl
theorem k_7_222 : (Jvm.Cond.fieldLink "StaveHouse" (289 : Nat) "StaveHouse$SoundFile" "sounds" "[[J") ∈ wAll := wA_7 (j := 222) rfl rfl
theorem k_6_184 : (Jvm.Cond.constantLong "StaveHouse" (191 : Nat) (-1 : Int64)) ∈ wAll := wA_6 (j := 184) rfl rfl
theorem k_2_98 : (Jvm.Cond.fieldLink "StaveHouse$Scribe" (22 : Nat) "StaveHouse$Scribe" "source" "LStaveHouse$SoundFile;") ∈ wAll := wA_2 (j := 98) rfl rfl
theorem k_8_142 : (Jvm.Cond.methodLink "StaveHouse$Scribe" (30 : Nat) ({ cls := "java/lang/Math", name := "max", desc := "(II)I" } : Jvm.MethodName)) ∈ wAll := wA_8 (j := 142) rfl rfl
theorem k_2_100 : (Jvm.Cond.fieldLink "StaveHouse$Scribe" (36 : Nat) "StaveHouse$Scribe" "grid" "I") ∈ wAll := wA_2 (j := 100) rfl rfl
theorem k_7_218 : (Jvm.Cond.fieldLink "StaveHouse$Scribe" (40 : Nat) "StaveHouse$SoundFile" "head" "[I") ∈ wAll := wA_7 (j := 218) rfl rfl
theorem k_7_224 : (Jvm.Cond.fieldLink "StaveHouse$Scribe" (63 : Nat) "StaveHouse$SoundFile" "count" "I") ∈ wAll := wA_7 (j := 224) rfl rfl
theorem k_7_221 : (Jvm.Cond.fieldLink "StaveHouse$Scribe" (81 : Nat) "StaveHouse$SoundFile" "sounds" "[[J") ∈ wAll := wA_7 (j := 221) rfl rfl
theorem k_8_160 : (Jvm.Cond.constantLong "StaveHouse$Scribe" (85 : Nat) (2 : Int64)) ∈ wAll := wA_8 (j := 160) rfl rfl
theorem k_8_161 : (Jvm.Cond.constantLong "StaveHouse$Scribe" (87 : Nat) (4 : Int64)) ∈ wAll := wA_8 (j := 161) rfl rfl
theorem k_8_162 : (Jvm.Cond.constantLong "StaveHouse$Scribe" (89 : Nat) (8 : Int64)) ∈ wAll := wA_8 (j := 162) rfl rfl
theorem k_2_102 : (Jvm.Cond.fieldLink "StaveHouse$Scribe" (12 : Nat) "StaveHouse$Scribe" "event" "LStaveHouse$Event;") ∈ wAll := wA_2 (j := 102) rfl rfl
theorem k_8_216 : (Jvm.Cond.methodLink "StaveHouse$Scribe" (120 : Nat) ({ cls := "java/lang/Math", name := "floorMod", desc := "(II)I" } : Jvm.MethodName)) ∈ wAll := wA_8 (j := 216) rfl rfl
theorem k_8_230 : (Jvm.Cond.methodLink "StaveHouse$Scribe" (123 : Nat) ({ cls := "java/lang/Math", name := "floorDiv", desc := "(II)I" } : Jvm.MethodName)) ∈ wAll := wA_8 (j := 230) rfl rfl
theorem k_4_66 : (Jvm.Cond.static ({ cls := "java/lang/Math", name := "floorDiv", desc := "(II)I" } : Jvm.MethodName)) ∈ wAll := wA_4 (j := 66) rfl rfl
theorem k_4_67 : (Jvm.Cond.code ({ cls := "java/lang/Math", name := "floorDiv", desc := "(II)I" } : Jvm.MethodName) prog_20_method_47_code (3 : Nat) (Option.some Jvm.ClassFile.FieldType.int)) ∈ wAll := wA_4 (j := 67) rfl rfl
theorem k_8_232 : (Jvm.Cond.methodLink "StaveHouse$Scribe" (129 : Nat) ({ cls := "StaveHouse$Event", name := "insert", desc := "(II)Z" } : Jvm.MethodName)) ∈ wAll := wA_8 (j := 232) rfl rfl
theorem k_4_232 : (Jvm.Cond.instanceMethod ({ cls := "StaveHouse$Event", name := "insert", desc := "(II)Z" } : Jvm.MethodName)) ∈ wAll := wA_4 (j := 232) rfl rfl
theorem k_4_233 : (Jvm.Cond.selects "StaveHouse$Event" ({ cls := "StaveHouse$Event", name := "insert", desc := "(II)Z" } : Jvm.MethodName) ({ cls := "StaveHouse$Event", name := "insert", desc := "(II)Z" } : Jvm.MethodName)) ∈ wAll := wA_4 (j := 233) rfl rfl
theorem k_4_234 : (Jvm.Cond.code ({ cls := "StaveHouse$Event", name := "insert", desc := "(II)Z" } : Jvm.MethodName) prog_3_method_5_code (5 : Nat) (Option.some Jvm.ClassFile.FieldType.boolean)) ∈ wAll := wA_4 (j := 234) rfl rfl
theorem k_2_107 : (Jvm.Cond.lays "StaveHouse$Scribe" "StaveHouse$Scribe" "source" "LStaveHouse$SoundFile;") ∈ wAll := wA_2 (j := 107) rfl rfl
theorem k_2_109 : (Jvm.Cond.lays "StaveHouse$Scribe" "StaveHouse$Scribe" "page" "LStaveHouse$ByteRow;") ∈ wAll := wA_2 (j := 109) rfl rfl
theorem k_2_111 : (Jvm.Cond.lays "StaveHouse$Scribe" "StaveHouse$Scribe" "grid" "I") ∈ wAll := wA_2 (j := 111) rfl rfl
theorem k_2_113 : (Jvm.Cond.lays "StaveHouse$Scribe" "StaveHouse$Scribe" "bar" "I") ∈ wAll := wA_2 (j := 113) rfl rfl
theorem k_2_115 : (Jvm.Cond.laysFinal "StaveHouse$Scribe" "StaveHouse$Scribe" "event" "LStaveHouse$Event;") ∈ wAll := wA_2 (j := 115) rfl rfl
theorem k_2_117 : (Jvm.Cond.lays "StaveHouse$Scribe" "StaveHouse$Scribe" "from" "J") ∈ wAll := wA_2 (j := 117) rfl rfl
theorem k_2_119 : (Jvm.Cond.lays "StaveHouse$Scribe" "StaveHouse$Scribe" "to" "J") ∈ wAll := wA_2 (j := 119) rfl rfl
theorem k_2_121 : (Jvm.Cond.lays "StaveHouse$Scribe" "StaveHouse$Scribe" "next" "I") ∈ wAll := wA_2 (j := 121) rfl rfl
theorem k_2_123 : (Jvm.Cond.laysFinal "StaveHouse$Scribe" "StaveHouse$Scribe" "hasTone" "[Z") ∈ wAll := wA_2 (j := 123) rfl rfl
theorem k_7_239 : (Jvm.Cond.laysFinal "StaveHouse$SoundFile" "StaveHouse$SoundFile" "head" "[I") ∈ wAll := wA_7 (j := 239) rfl rfl
theorem k_8_1 : (Jvm.Cond.laysFinal "StaveHouse$SoundFile" "StaveHouse$SoundFile" "sounds" "[[J") ∈ wAll := wA_8 (j := 1) rfl rfl
theorem k_8_3 : (Jvm.Cond.lays "StaveHouse$SoundFile" "StaveHouse$SoundFile" "count" "I") ∈ wAll := wA_8 (j := 3) rfl rfl
theorem k_8_5 : (Jvm.Cond.laysFinal "StaveHouse$SoundFile" "StaveHouse$SoundFile" "numbers" "[I") ∈ wAll := wA_8 (j := 5) rfl rfl
theorem k_8_7 : (Jvm.Cond.lays "StaveHouse$SoundFile" "StaveHouse$SoundFile" "row" "LStaveHouse$ByteRow;") ∈ wAll := wA_8 (j := 7) rfl rfl
theorem k_8_9 : (Jvm.Cond.lays "StaveHouse$SoundFile" "StaveHouse$SoundFile" "at" "I") ∈ wAll := wA_8 (j := 9) rfl rfl
theorem k_8_11 : (Jvm.Cond.lays "StaveHouse$SoundFile" "StaveHouse$SoundFile" "limit" "I") ∈ wAll := wA_8 (j := 11) rfl rfl
theorem k_8_13 : (Jvm.Cond.lays "StaveHouse$SoundFile" "StaveHouse$SoundFile" "wrong" "I") ∈ wAll := wA_8 (j := 13) rfl rfl
theorem k_8_15 : (Jvm.Cond.lays "StaveHouse$SoundFile" "StaveHouse$SoundFile" "track" "I") ∈ wAll := wA_8 (j := 15) rfl rfl
theorem k_8_17 : (Jvm.Cond.lays "StaveHouse$SoundFile" "StaveHouse$SoundFile" "status" "I") ∈ wAll := wA_8 (j := 17) rfl rfl
theorem k_8_19 : (Jvm.Cond.lays "StaveHouse$SoundFile" "StaveHouse$SoundFile" "tick" "J") ∈ wAll := wA_8 (j := 19) rfl rfl
theorem k_8_21 : (Jvm.Cond.lays "StaveHouse$SoundFile" "StaveHouse$SoundFile" "trackDone" "Z") ∈ wAll := wA_8 (j := 21) rfl rfl
theorem k_8_23 : (Jvm.Cond.lays "StaveHouse$SoundFile" "StaveHouse$SoundFile" "keyTold" "Z") ∈ wAll := wA_8 (j := 23) rfl rfl
theorem k_8_25 : (Jvm.Cond.lays "StaveHouse$SoundFile" "StaveHouse$SoundFile" "timeTold" "Z") ∈ wAll := wA_8 (j := 25) rfl rfl
theorem k_8_27 : (Jvm.Cond.lays "StaveHouse$SoundFile" "StaveHouse$SoundFile" "tempoTold" "Z") ∈ wAll := wA_8 (j := 27) rfl rfl
theorem W_prog_4_method_14_code_0 : chW prog_4_method_14_code 0 [42, 180, 0, 66, 153, 0, 13, 27, 155, 0, 9, 27, 16, 100, 161, 0, 5, 2, 172, 42, 180, 0, 22, 27, 46, 54, 4, 21, 4, 42, 180, 0, 22, 27, 4, 96] := chW_of (by decide +kernel)
theorem d_4_14_0 : decode prog_4_method_14_code 0 = .ok (.aload_n 0, 1) := D_42 W_prog_4_method_14_code_0 0 rfl rfl
theorem d_4_14_1 : decode prog_4_method_14_code 1 = .ok (.getfield 66, 3) := D_180 W_prog_4_method_14_code_0 1 rfl rfl rfl
theorem d_4_14_4 : decode prog_4_method_14_code 4 = .ok (.ifCond .eq 13, 3) := D_153 W_prog_4_method_14_code_0 4 rfl rfl rfl
theorem d_4_14_7 : decode prog_4_method_14_code 7 = .ok (.iload_n 1, 1) := D_27 W_prog_4_method_14_code_0 7 rfl rfl
theorem d_4_14_8 : decode prog_4_method_14_code 8 = .ok (.ifCond .lt 9, 3) := D_155 W_prog_4_method_14_code_0 8 rfl rfl rfl
theorem d_4_14_11 : decode prog_4_method_14_code 11 = .ok (.iload_n 1, 1) := D_27 W_prog_4_method_14_code_0 11 rfl rfl
theorem d_4_14_12 : decode prog_4_method_14_code 12 = .ok (.bipush 100, 2) := D_16 W_prog_4_method_14_code_0 12 rfl rfl rfl
theorem d_4_14_14 : decode prog_4_method_14_code 14 = .ok (.if_icmp .lt 5, 3) := D_161 W_prog_4_method_14_code_0 14 rfl rfl rfl
theorem d_4_14_19 : decode prog_4_method_14_code 19 = .ok (.aload_n 0, 1) := D_42 W_prog_4_method_14_code_0 19 rfl rfl
theorem d_4_14_20 : decode prog_4_method_14_code 20 = .ok (.getfield 22, 3) := D_180 W_prog_4_method_14_code_0 20 rfl rfl rfl
theorem d_4_14_23 : decode prog_4_method_14_code 23 = .ok (.iload_n 1, 1) := D_27 W_prog_4_method_14_code_0 23 rfl rfl
theorem d_4_14_24 : decode prog_4_method_14_code 24 = .ok (.iaload, 1) := D_46 W_prog_4_method_14_code_0 24 rfl rfl
theorem d_4_14_25 : decode prog_4_method_14_code 25 = .ok (.istore 4, 2) := D_54 W_prog_4_method_14_code_0 25 rfl rfl
theorem d_4_14_17 : decode prog_4_method_14_code 17 = .ok (.iconst (-1), 1) := D_2 W_prog_4_method_14_code_0 17 rfl rfl
theorem d_4_14_18 : decode prog_4_method_14_code 18 = .ok (.ireturn, 1) := D_172 W_prog_4_method_14_code_0 18 rfl rfl
theorem d_4_14_27 : decode prog_4_method_14_code 27 = .ok (.iload 4, 2) := D_21 W_prog_4_method_14_code_0 27 rfl rfl
theorem d_4_14_29 : decode prog_4_method_14_code 29 = .ok (.aload_n 0, 1) := D_42 W_prog_4_method_14_code_0 29 rfl rfl
theorem d_4_14_30 : decode prog_4_method_14_code 30 = .ok (.getfield 22, 3) := D_180 W_prog_4_method_14_code_0 30 rfl rfl rfl
theorem W_prog_4_method_14_code_32 : chW prog_4_method_14_code 32 [22, 27, 4, 96, 46, 162, 0, 29, 42, 180, 0, 11, 21, 4, 47, 32, 148, 154, 0, 11, 42, 180, 0, 19, 21, 4, 46, 172, 132, 4, 1, 167, 255, 220, 2, 172] := chW_of (by decide +kernel)
theorem d_4_14_33 : decode prog_4_method_14_code 33 = .ok (.iload_n 1, 1) := D_27 W_prog_4_method_14_code_32 1 rfl rfl
theorem d_4_14_34 : decode prog_4_method_14_code 34 = .ok (.iconst 1, 1) := D_4 W_prog_4_method_14_code_32 2 rfl rfl
theorem d_4_14_35 : decode prog_4_method_14_code 35 = .ok (.iadd, 1) := D_96 W_prog_4_method_14_code_32 3 rfl rfl
theorem d_4_14_36 : decode prog_4_method_14_code 36 = .ok (.iaload, 1) := D_46 W_prog_4_method_14_code_32 4 rfl rfl
theorem d_4_14_37 : decode prog_4_method_14_code 37 = .ok (.if_icmp .ge 29, 3) := D_162 W_prog_4_method_14_code_32 5 rfl rfl rfl
theorem W_prog_4_method_14_code_64 : chW prog_4_method_14_code 64 [255, 220, 2, 172] := chW_of (by decide +kernel)
theorem d_4_14_66 : decode prog_4_method_14_code 66 = .ok (.iconst (-1), 1) := D_2 W_prog_4_method_14_code_64 2 rfl rfl
theorem d_4_14_67 : decode prog_4_method_14_code 67 = .ok (.ireturn, 1) := D_172 W_prog_4_method_14_code_64 3 rfl rfl
theorem d_4_14_40 : decode prog_4_method_14_code 40 = .ok (.aload_n 0, 1) := D_42 W_prog_4_method_14_code_32 8 rfl rfl
theorem d_4_14_41 : decode prog_4_method_14_code 41 = .ok (.getfield 11, 3) := D_180 W_prog_4_method_14_code_32 9 rfl rfl rfl
theorem d_4_14_44 : decode prog_4_method_14_code 44 = .ok (.iload 4, 2) := D_21 W_prog_4_method_14_code_32 12 rfl rfl
theorem d_4_14_46 : decode prog_4_method_14_code 46 = .ok (.laload, 1) := D_47 W_prog_4_method_14_code_32 14 rfl rfl
theorem d_4_14_47 : decode prog_4_method_14_code 47 = .ok (.lload_n 2, 1) := D_32 W_prog_4_method_14_code_32 15 rfl rfl
theorem d_4_14_48 : decode prog_4_method_14_code 48 = .ok (.lcmp, 1) := D_148 W_prog_4_method_14_code_32 16 rfl rfl
theorem d_4_14_49 : decode prog_4_method_14_code 49 = .ok (.ifCond .ne 11, 3) := D_154 W_prog_4_method_14_code_32 17 rfl rfl rfl
theorem d_4_14_60 : decode prog_4_method_14_code 60 = .ok (.iinc 4 1, 3) := D_132 W_prog_4_method_14_code_32 28 rfl rfl rfl
theorem d_4_14_63 : decode prog_4_method_14_code 63 = .ok (.goto (-36), 3) := D_167 W_prog_4_method_14_code_32 31 rfl rfl rfl
theorem d_4_14_52 : decode prog_4_method_14_code 52 = .ok (.aload_n 0, 1) := D_42 W_prog_4_method_14_code_32 20 rfl rfl
theorem d_4_14_53 : decode prog_4_method_14_code 53 = .ok (.getfield 19, 3) := D_180 W_prog_4_method_14_code_32 21 rfl rfl rfl
theorem d_4_14_56 : decode prog_4_method_14_code 56 = .ok (.iload 4, 2) := D_21 W_prog_4_method_14_code_32 24 rfl rfl
theorem d_4_14_58 : decode prog_4_method_14_code 58 = .ok (.iaload, 1) := D_46 W_prog_4_method_14_code_32 26 rfl rfl
theorem d_4_14_59 : decode prog_4_method_14_code 59 = .ok (.ireturn, 1) := D_172 W_prog_4_method_14_code_32 27 rfl rfl
theorem W_prog_7_method_12_code_0 : chW prog_7_method_12_code 0 [32, 20, 0, 178, 105, 21, 4, 133, 97, 55, 5, 22, 5, 5, 121, 42, 180, 0, 23, 3, 50, 27, 46, 133, 129, 55, 5, 22, 5, 16, 7, 121, 42, 180, 0, 23] := chW_of (by decide +kernel)
theorem d_7_12_0 : decode prog_7_method_12_code 0 = .ok (.lload_n 2, 1) := D_32 W_prog_7_method_12_code_0 0 rfl rfl
theorem d_7_12_1 : decode prog_7_method_12_code 1 = .ok (.ldc2_w 178, 3) := D_20 W_prog_7_method_12_code_0 1 rfl rfl rfl
theorem d_7_12_4 : decode prog_7_method_12_code 4 = .ok (.lmul, 1) := D_105 W_prog_7_method_12_code_0 4 rfl rfl
theorem d_7_12_5 : decode prog_7_method_12_code 5 = .ok (.iload 4, 2) := D_21 W_prog_7_method_12_code_0 5 rfl rfl
theorem d_7_12_7 : decode prog_7_method_12_code 7 = .ok (.i2l, 1) := D_133 W_prog_7_method_12_code_0 7 rfl rfl
theorem d_7_12_8 : decode prog_7_method_12_code 8 = .ok (.ladd, 1) := D_97 W_prog_7_method_12_code_0 8 rfl rfl
theorem d_7_12_9 : decode prog_7_method_12_code 9 = .ok (.lstore 5, 2) := D_55 W_prog_7_method_12_code_0 9 rfl rfl
theorem d_7_12_11 : decode prog_7_method_12_code 11 = .ok (.lload 5, 2) := D_22 W_prog_7_method_12_code_0 11 rfl rfl
theorem d_7_12_13 : decode prog_7_method_12_code 13 = .ok (.iconst 2, 1) := D_5 W_prog_7_method_12_code_0 13 rfl rfl
theorem d_7_12_14 : decode prog_7_method_12_code 14 = .ok (.lshl, 1) := D_121 W_prog_7_method_12_code_0 14 rfl rfl
theorem d_7_12_15 : decode prog_7_method_12_code 15 = .ok (.aload_n 0, 1) := D_42 W_prog_7_method_12_code_0 15 rfl rfl
theorem d_7_12_16 : decode prog_7_method_12_code 16 = .ok (.getfield 23, 3) := D_180 W_prog_7_method_12_code_0 16 rfl rfl rfl
theorem d_7_12_19 : decode prog_7_method_12_code 19 = .ok (.iconst 0, 1) := D_3 W_prog_7_method_12_code_0 19 rfl rfl
theorem d_7_12_20 : decode prog_7_method_12_code 20 = .ok (.aaload, 1) := D_50 W_prog_7_method_12_code_0 20 rfl rfl
theorem d_7_12_21 : decode prog_7_method_12_code 21 = .ok (.iload_n 1, 1) := D_27 W_prog_7_method_12_code_0 21 rfl rfl
theorem d_7_12_22 : decode prog_7_method_12_code 22 = .ok (.iaload, 1) := D_46 W_prog_7_method_12_code_0 22 rfl rfl
theorem d_7_12_23 : decode prog_7_method_12_code 23 = .ok (.i2l, 1) := D_133 W_prog_7_method_12_code_0 23 rfl rfl
theorem d_7_12_24 : decode prog_7_method_12_code 24 = .ok (.lor, 1) := D_129 W_prog_7_method_12_code_0 24 rfl rfl
theorem d_7_12_25 : decode prog_7_method_12_code 25 = .ok (.lstore 5, 2) := D_55 W_prog_7_method_12_code_0 25 rfl rfl
theorem d_7_12_27 : decode prog_7_method_12_code 27 = .ok (.lload 5, 2) := D_22 W_prog_7_method_12_code_0 27 rfl rfl
theorem d_7_12_29 : decode prog_7_method_12_code 29 = .ok (.bipush 7, 2) := D_16 W_prog_7_method_12_code_0 29 rfl rfl rfl
theorem d_7_12_31 : decode prog_7_method_12_code 31 = .ok (.lshl, 1) := D_121 W_prog_7_method_12_code_0 31 rfl rfl
theorem W_prog_7_method_12_code_32 : chW prog_7_method_12_code 32 [42, 180, 0, 23, 5, 50, 27, 46, 133, 129, 55, 5, 22, 5, 16, 8, 121, 42, 180, 0, 23, 4, 50, 27, 46, 133, 129, 55, 5, 22, 5, 16, 11, 121, 27, 133] := chW_of (by decide +kernel)
theorem d_7_12_32 : decode prog_7_method_12_code 32 = .ok (.aload_n 0, 1) := D_42 W_prog_7_method_12_code_32 0 rfl rfl
theorem d_7_12_33 : decode prog_7_method_12_code 33 = .ok (.getfield 23, 3) := D_180 W_prog_7_method_12_code_32 1 rfl rfl rfl
theorem d_7_12_36 : decode prog_7_method_12_code 36 = .ok (.iconst 2, 1) := D_5 W_prog_7_method_12_code_32 4 rfl rfl
theorem d_7_12_37 : decode prog_7_method_12_code 37 = .ok (.aaload, 1) := D_50 W_prog_7_method_12_code_32 5 rfl rfl
theorem d_7_12_38 : decode prog_7_method_12_code 38 = .ok (.iload_n 1, 1) := D_27 W_prog_7_method_12_code_32 6 rfl rfl
theorem d_7_12_39 : decode prog_7_method_12_code 39 = .ok (.iaload, 1) := D_46 W_prog_7_method_12_code_32 7 rfl rfl
theorem d_7_12_40 : decode prog_7_method_12_code 40 = .ok (.i2l, 1) := D_133 W_prog_7_method_12_code_32 8 rfl rfl
theorem d_7_12_41 : decode prog_7_method_12_code 41 = .ok (.lor, 1) := D_129 W_prog_7_method_12_code_32 9 rfl rfl
theorem d_7_12_42 : decode prog_7_method_12_code 42 = .ok (.lstore 5, 2) := D_55 W_prog_7_method_12_code_32 10 rfl rfl
theorem d_7_12_44 : decode prog_7_method_12_code 44 = .ok (.lload 5, 2) := D_22 W_prog_7_method_12_code_32 12 rfl rfl
theorem d_7_12_46 : decode prog_7_method_12_code 46 = .ok (.bipush 8, 2) := D_16 W_prog_7_method_12_code_32 14 rfl rfl rfl
theorem d_7_12_48 : decode prog_7_method_12_code 48 = .ok (.lshl, 1) := D_121 W_prog_7_method_12_code_32 16 rfl rfl
theorem d_7_12_49 : decode prog_7_method_12_code 49 = .ok (.aload_n 0, 1) := D_42 W_prog_7_method_12_code_32 17 rfl rfl
theorem d_7_12_50 : decode prog_7_method_12_code 50 = .ok (.getfield 23, 3) := D_180 W_prog_7_method_12_code_32 18 rfl rfl rfl
theorem d_7_12_53 : decode prog_7_method_12_code 53 = .ok (.iconst 1, 1) := D_4 W_prog_7_method_12_code_32 21 rfl rfl
theorem d_7_12_54 : decode prog_7_method_12_code 54 = .ok (.aaload, 1) := D_50 W_prog_7_method_12_code_32 22 rfl rfl
theorem d_7_12_55 : decode prog_7_method_12_code 55 = .ok (.iload_n 1, 1) := D_27 W_prog_7_method_12_code_32 23 rfl rfl
theorem d_7_12_56 : decode prog_7_method_12_code 56 = .ok (.iaload, 1) := D_46 W_prog_7_method_12_code_32 24 rfl rfl
theorem d_7_12_57 : decode prog_7_method_12_code 57 = .ok (.i2l, 1) := D_133 W_prog_7_method_12_code_32 25 rfl rfl
theorem d_7_12_58 : decode prog_7_method_12_code 58 = .ok (.lor, 1) := D_129 W_prog_7_method_12_code_32 26 rfl rfl
theorem d_7_12_59 : decode prog_7_method_12_code 59 = .ok (.lstore 5, 2) := D_55 W_prog_7_method_12_code_32 27 rfl rfl
theorem d_7_12_61 : decode prog_7_method_12_code 61 = .ok (.lload 5, 2) := D_22 W_prog_7_method_12_code_32 29 rfl rfl
theorem d_7_12_63 : decode prog_7_method_12_code 63 = .ok (.bipush 11, 2) := D_16 W_prog_7_method_12_code_32 31 rfl rfl rfl
theorem W_prog_7_method_12_code_64 : chW prog_7_method_12_code 64 [11, 121, 27, 133, 129, 173] := chW_of (by decide +kernel)
theorem d_7_12_65 : decode prog_7_method_12_code 65 = .ok (.lshl, 1) := D_121 W_prog_7_method_12_code_64 1 rfl rfl
theorem d_7_12_66 : decode prog_7_method_12_code 66 = .ok (.iload_n 1, 1) := D_27 W_prog_7_method_12_code_64 2 rfl rfl
theorem d_7_12_67 : decode prog_7_method_12_code 67 = .ok (.i2l, 1) := D_133 W_prog_7_method_12_code_64 3 rfl rfl
theorem d_7_12_68 : decode prog_7_method_12_code 68 = .ok (.lor, 1) := D_129 W_prog_7_method_12_code_64 4 rfl rfl
theorem d_7_12_69 : decode prog_7_method_12_code 69 = .ok (.lreturn, 1) := D_173 W_prog_7_method_12_code_64 5 rfl rfl
theorem W_prog_7_method_14_code_0 : chW prog_7_method_14_code 0 [27, 54, 4, 28, 54, 5, 27, 54, 6, 21, 6, 29, 162, 0, 105, 21, 4, 28, 162, 0, 31, 21, 5, 29, 162, 0, 21, 42, 180, 0, 26, 21, 4, 47, 42, 180] := chW_of (by decide +kernel)
theorem d_7_14_0 : decode prog_7_method_14_code 0 = .ok (.iload_n 1, 1) := D_27 W_prog_7_method_14_code_0 0 rfl rfl
theorem d_7_14_1 : decode prog_7_method_14_code 1 = .ok (.istore 4, 2) := D_54 W_prog_7_method_14_code_0 1 rfl rfl
theorem d_7_14_3 : decode prog_7_method_14_code 3 = .ok (.iload_n 2, 1) := D_28 W_prog_7_method_14_code_0 3 rfl rfl
theorem d_7_14_4 : decode prog_7_method_14_code 4 = .ok (.istore 5, 2) := D_54 W_prog_7_method_14_code_0 4 rfl rfl
theorem d_7_14_6 : decode prog_7_method_14_code 6 = .ok (.iload_n 1, 1) := D_27 W_prog_7_method_14_code_0 6 rfl rfl
theorem d_7_14_7 : decode prog_7_method_14_code 7 = .ok (.istore 6, 2) := D_54 W_prog_7_method_14_code_0 7 rfl rfl
theorem d_7_14_9 : decode prog_7_method_14_code 9 = .ok (.iload 6, 2) := D_21 W_prog_7_method_14_code_0 9 rfl rfl
theorem d_7_14_11 : decode prog_7_method_14_code 11 = .ok (.iload_n 3, 1) := D_29 W_prog_7_method_14_code_0 11 rfl rfl
theorem d_7_14_12 : decode prog_7_method_14_code 12 = .ok (.if_icmp .ge 105, 3) := D_162 W_prog_7_method_14_code_0 12 rfl rfl rfl
theorem W_prog_7_method_14_code_96 : chW prog_7_method_14_code 96 [21, 5, 21, 7, 153, 0, 7, 3, 167, 0, 4, 4, 96, 54, 5, 132, 6, 1, 167, 255, 151, 177] := chW_of (by decide +kernel)
theorem d_7_14_117 : decode prog_7_method_14_code 117 = .ok (.return_, 1) := D_177 W_prog_7_method_14_code_96 21 rfl rfl
theorem d_7_14_15 : decode prog_7_method_14_code 15 = .ok (.iload 4, 2) := D_21 W_prog_7_method_14_code_0 15 rfl rfl
theorem d_7_14_17 : decode prog_7_method_14_code 17 = .ok (.iload_n 2, 1) := D_28 W_prog_7_method_14_code_0 17 rfl rfl
theorem d_7_14_18 : decode prog_7_method_14_code 18 = .ok (.if_icmp .ge 31, 3) := D_162 W_prog_7_method_14_code_0 18 rfl rfl rfl
theorem d_7_14_21 : decode prog_7_method_14_code 21 = .ok (.iload 5, 2) := D_21 W_prog_7_method_14_code_0 21 rfl rfl
theorem d_7_14_23 : decode prog_7_method_14_code 23 = .ok (.iload_n 3, 1) := D_29 W_prog_7_method_14_code_0 23 rfl rfl
theorem d_7_14_24 : decode prog_7_method_14_code 24 = .ok (.if_icmp .ge 21, 3) := D_162 W_prog_7_method_14_code_0 24 rfl rfl rfl
theorem d_7_14_27 : decode prog_7_method_14_code 27 = .ok (.aload_n 0, 1) := D_42 W_prog_7_method_14_code_0 27 rfl rfl
theorem d_7_14_28 : decode prog_7_method_14_code 28 = .ok (.getfield 26, 3) := D_180 W_prog_7_method_14_code_0 28 rfl rfl rfl
theorem d_7_14_31 : decode prog_7_method_14_code 31 = .ok (.iload 4, 2) := D_21 W_prog_7_method_14_code_0 31 rfl rfl
theorem W_prog_7_method_14_code_32 : chW prog_7_method_14_code 32 [4, 47, 42, 180, 0, 26, 21, 5, 47, 148, 157, 0, 7, 4, 167, 0, 4, 3, 54, 7, 42, 180, 0, 30, 21, 6, 21, 7, 153, 0, 13, 42, 180, 0, 26, 21] := chW_of (by decide +kernel)
theorem d_7_14_33 : decode prog_7_method_14_code 33 = .ok (.laload, 1) := D_47 W_prog_7_method_14_code_32 1 rfl rfl
theorem d_7_14_34 : decode prog_7_method_14_code 34 = .ok (.aload_n 0, 1) := D_42 W_prog_7_method_14_code_32 2 rfl rfl
theorem d_7_14_35 : decode prog_7_method_14_code 35 = .ok (.getfield 26, 3) := D_180 W_prog_7_method_14_code_32 3 rfl rfl rfl
theorem d_7_14_38 : decode prog_7_method_14_code 38 = .ok (.iload 5, 2) := D_21 W_prog_7_method_14_code_32 6 rfl rfl
theorem d_7_14_40 : decode prog_7_method_14_code 40 = .ok (.laload, 1) := D_47 W_prog_7_method_14_code_32 8 rfl rfl
theorem d_7_14_41 : decode prog_7_method_14_code 41 = .ok (.lcmp, 1) := D_148 W_prog_7_method_14_code_32 9 rfl rfl
theorem d_7_14_42 : decode prog_7_method_14_code 42 = .ok (.ifCond .gt 7, 3) := D_157 W_prog_7_method_14_code_32 10 rfl rfl rfl
theorem d_7_14_45 : decode prog_7_method_14_code 45 = .ok (.iconst 1, 1) := D_4 W_prog_7_method_14_code_32 13 rfl rfl
theorem d_7_14_46 : decode prog_7_method_14_code 46 = .ok (.goto 4, 3) := D_167 W_prog_7_method_14_code_32 14 rfl rfl rfl
theorem d_7_14_50 : decode prog_7_method_14_code 50 = .ok (.istore 7, 2) := D_54 W_prog_7_method_14_code_32 18 rfl rfl
theorem d_7_14_52 : decode prog_7_method_14_code 52 = .ok (.aload_n 0, 1) := D_42 W_prog_7_method_14_code_32 20 rfl rfl
theorem d_7_14_53 : decode prog_7_method_14_code 53 = .ok (.getfield 30, 3) := D_180 W_prog_7_method_14_code_32 21 rfl rfl rfl
theorem d_7_14_56 : decode prog_7_method_14_code 56 = .ok (.iload 6, 2) := D_21 W_prog_7_method_14_code_32 24 rfl rfl
theorem d_7_14_58 : decode prog_7_method_14_code 58 = .ok (.iload 7, 2) := D_21 W_prog_7_method_14_code_32 26 rfl rfl
theorem d_7_14_60 : decode prog_7_method_14_code 60 = .ok (.ifCond .eq 13, 3) := D_153 W_prog_7_method_14_code_32 28 rfl rfl rfl
theorem W_prog_7_method_14_code_64 : chW prog_7_method_14_code 64 [180, 0, 26, 21, 4, 47, 167, 0, 10, 42, 180, 0, 26, 21, 5, 47, 80, 21, 4, 21, 7, 153, 0, 7, 4, 167, 0, 4, 3, 96, 54, 4, 21, 5, 21, 7] := chW_of (by decide +kernel)
theorem d_7_14_73 : decode prog_7_method_14_code 73 = .ok (.aload_n 0, 1) := D_42 W_prog_7_method_14_code_64 9 rfl rfl
theorem d_7_14_74 : decode prog_7_method_14_code 74 = .ok (.getfield 26, 3) := D_180 W_prog_7_method_14_code_64 10 rfl rfl rfl
theorem d_7_14_77 : decode prog_7_method_14_code 77 = .ok (.iload 5, 2) := D_21 W_prog_7_method_14_code_64 13 rfl rfl
theorem d_7_14_79 : decode prog_7_method_14_code 79 = .ok (.laload, 1) := D_47 W_prog_7_method_14_code_64 15 rfl rfl
theorem d_7_14_63 : decode prog_7_method_14_code 63 = .ok (.aload_n 0, 1) := D_42 W_prog_7_method_14_code_32 31 rfl rfl
theorem d_7_14_64 : decode prog_7_method_14_code 64 = .ok (.getfield 26, 3) := D_180 W_prog_7_method_14_code_64 0 rfl rfl rfl
theorem d_7_14_67 : decode prog_7_method_14_code 67 = .ok (.iload 4, 2) := D_21 W_prog_7_method_14_code_64 3 rfl rfl
theorem d_7_14_69 : decode prog_7_method_14_code 69 = .ok (.laload, 1) := D_47 W_prog_7_method_14_code_64 5 rfl rfl
theorem d_7_14_70 : decode prog_7_method_14_code 70 = .ok (.goto 10, 3) := D_167 W_prog_7_method_14_code_64 6 rfl rfl rfl
theorem d_7_14_80 : decode prog_7_method_14_code 80 = .ok (.lastore, 1) := D_80 W_prog_7_method_14_code_64 16 rfl rfl
theorem d_7_14_81 : decode prog_7_method_14_code 81 = .ok (.iload 4, 2) := D_21 W_prog_7_method_14_code_64 17 rfl rfl
theorem d_7_14_83 : decode prog_7_method_14_code 83 = .ok (.iload 7, 2) := D_21 W_prog_7_method_14_code_64 19 rfl rfl
theorem d_7_14_85 : decode prog_7_method_14_code 85 = .ok (.ifCond .eq 7, 3) := D_153 W_prog_7_method_14_code_64 21 rfl rfl rfl
theorem d_7_14_92 : decode prog_7_method_14_code 92 = .ok (.iconst 0, 1) := D_3 W_prog_7_method_14_code_64 28 rfl rfl
theorem d_7_14_88 : decode prog_7_method_14_code 88 = .ok (.iconst 1, 1) := D_4 W_prog_7_method_14_code_64 24 rfl rfl
theorem d_7_14_89 : decode prog_7_method_14_code 89 = .ok (.goto 4, 3) := D_167 W_prog_7_method_14_code_64 25 rfl rfl rfl
theorem d_7_14_93 : decode prog_7_method_14_code 93 = .ok (.iadd, 1) := D_96 W_prog_7_method_14_code_64 29 rfl rfl
theorem d_7_14_94 : decode prog_7_method_14_code 94 = .ok (.istore 4, 2) := D_54 W_prog_7_method_14_code_64 30 rfl rfl
theorem d_7_14_96 : decode prog_7_method_14_code 96 = .ok (.iload 5, 2) := D_21 W_prog_7_method_14_code_96 0 rfl rfl
theorem d_7_14_98 : decode prog_7_method_14_code 98 = .ok (.iload 7, 2) := D_21 W_prog_7_method_14_code_96 2 rfl rfl
theorem d_7_14_100 : decode prog_7_method_14_code 100 = .ok (.ifCond .eq 7, 3) := D_153 W_prog_7_method_14_code_96 4 rfl rfl rfl
theorem d_7_14_107 : decode prog_7_method_14_code 107 = .ok (.iconst 1, 1) := D_4 W_prog_7_method_14_code_96 11 rfl rfl
theorem d_7_14_103 : decode prog_7_method_14_code 103 = .ok (.iconst 0, 1) := D_3 W_prog_7_method_14_code_96 7 rfl rfl
theorem d_7_14_104 : decode prog_7_method_14_code 104 = .ok (.goto 4, 3) := D_167 W_prog_7_method_14_code_96 8 rfl rfl rfl
theorem d_7_14_108 : decode prog_7_method_14_code 108 = .ok (.iadd, 1) := D_96 W_prog_7_method_14_code_96 12 rfl rfl
theorem d_7_14_109 : decode prog_7_method_14_code 109 = .ok (.istore 5, 2) := D_54 W_prog_7_method_14_code_96 13 rfl rfl
theorem d_7_14_111 : decode prog_7_method_14_code 111 = .ok (.iinc 6 1, 3) := D_132 W_prog_7_method_14_code_96 15 rfl rfl rfl
theorem d_7_14_114 : decode prog_7_method_14_code 114 = .ok (.goto (-105), 3) := D_167 W_prog_7_method_14_code_96 18 rfl rfl rfl
theorem d_7_14_49 : decode prog_7_method_14_code 49 = .ok (.iconst 0, 1) := D_3 W_prog_7_method_14_code_32 17 rfl rfl
theorem W_prog_1_method_9_code_0 : chW prog_1_method_9_code 0 [42, 27, 182, 0, 97, 77, 44, 198, 0, 10, 44, 180, 0, 112, 154, 0, 7, 1, 167, 0, 7, 44, 180, 0, 116, 176] := chW_of (by decide +kernel)
theorem d_1_9_0 : decode prog_1_method_9_code 0 = .ok (.aload_n 0, 1) := D_42 W_prog_1_method_9_code_0 0 rfl rfl
theorem d_1_9_1 : decode prog_1_method_9_code 1 = .ok (.iload_n 1, 1) := D_27 W_prog_1_method_9_code_0 1 rfl rfl
theorem d_1_9_2 : decode prog_1_method_9_code 2 = .ok (.invokevirtual 97, 3) := D_182 W_prog_1_method_9_code_0 2 rfl rfl rfl
theorem d_1_9_5 : decode prog_1_method_9_code 5 = .ok (.astore_n 2, 1) := D_77 W_prog_1_method_9_code_0 5 rfl rfl
theorem d_1_9_6 : decode prog_1_method_9_code 6 = .ok (.aload_n 2, 1) := D_44 W_prog_1_method_9_code_0 6 rfl rfl
theorem d_1_9_7 : decode prog_1_method_9_code 7 = .ok (.ifnull 10, 3) := D_198 W_prog_1_method_9_code_0 7 rfl rfl rfl
theorem d_1_9_10 : decode prog_1_method_9_code 10 = .ok (.aload_n 2, 1) := D_44 W_prog_1_method_9_code_0 10 rfl rfl
theorem d_1_9_11 : decode prog_1_method_9_code 11 = .ok (.getfield 112, 3) := D_180 W_prog_1_method_9_code_0 11 rfl rfl rfl
theorem d_1_9_14 : decode prog_1_method_9_code 14 = .ok (.ifCond .ne 7, 3) := D_154 W_prog_1_method_9_code_0 14 rfl rfl rfl
theorem d_1_9_21 : decode prog_1_method_9_code 21 = .ok (.aload_n 2, 1) := D_44 W_prog_1_method_9_code_0 21 rfl rfl
theorem d_1_9_22 : decode prog_1_method_9_code 22 = .ok (.getfield 116, 3) := D_180 W_prog_1_method_9_code_0 22 rfl rfl rfl
theorem d_1_9_17 : decode prog_1_method_9_code 17 = .ok (.aconst_null, 1) := D_1 W_prog_1_method_9_code_0 17 rfl rfl
theorem d_1_9_18 : decode prog_1_method_9_code 18 = .ok (.goto 7, 3) := D_167 W_prog_1_method_9_code_0 18 rfl rfl rfl
theorem d_1_9_25 : decode prog_1_method_9_code 25 = .ok (.areturn, 1) := D_176 W_prog_1_method_9_code_0 25 rfl rfl
theorem W_prog_7_method_15_code_0 : chW prog_7_method_15_code 0 [27, 155, 0, 13, 27, 5, 42, 180, 0, 36, 104, 161, 0, 5, 2, 172, 42, 180, 0, 26, 27, 47, 66, 28, 170, 0, 0, 0, 0, 0, 0, 87, 0, 0, 0, 0] := chW_of (by decide +kernel)
theorem d_7_15_0 : decode prog_7_method_15_code 0 = .ok (.iload_n 1, 1) := D_27 W_prog_7_method_15_code_0 0 rfl rfl
theorem d_7_15_1 : decode prog_7_method_15_code 1 = .ok (.ifCond .lt 13, 3) := D_155 W_prog_7_method_15_code_0 1 rfl rfl rfl
theorem d_7_15_4 : decode prog_7_method_15_code 4 = .ok (.iload_n 1, 1) := D_27 W_prog_7_method_15_code_0 4 rfl rfl
theorem d_7_15_5 : decode prog_7_method_15_code 5 = .ok (.iconst 2, 1) := D_5 W_prog_7_method_15_code_0 5 rfl rfl
theorem d_7_15_6 : decode prog_7_method_15_code 6 = .ok (.aload_n 0, 1) := D_42 W_prog_7_method_15_code_0 6 rfl rfl
theorem d_7_15_7 : decode prog_7_method_15_code 7 = .ok (.getfield 36, 3) := D_180 W_prog_7_method_15_code_0 7 rfl rfl rfl
theorem d_7_15_10 : decode prog_7_method_15_code 10 = .ok (.imul, 1) := D_104 W_prog_7_method_15_code_0 10 rfl rfl
theorem d_7_15_11 : decode prog_7_method_15_code 11 = .ok (.if_icmp .lt 5, 3) := D_161 W_prog_7_method_15_code_0 11 rfl rfl rfl
theorem d_7_15_16 : decode prog_7_method_15_code 16 = .ok (.aload_n 0, 1) := D_42 W_prog_7_method_15_code_0 16 rfl rfl
theorem d_7_15_17 : decode prog_7_method_15_code 17 = .ok (.getfield 26, 3) := D_180 W_prog_7_method_15_code_0 17 rfl rfl rfl
theorem d_7_15_20 : decode prog_7_method_15_code 20 = .ok (.iload_n 1, 1) := D_27 W_prog_7_method_15_code_0 20 rfl rfl
theorem d_7_15_21 : decode prog_7_method_15_code 21 = .ok (.laload, 1) := D_47 W_prog_7_method_15_code_0 21 rfl rfl
theorem d_7_15_22 : decode prog_7_method_15_code 22 = .ok (.lstore_n 3, 1) := D_66 W_prog_7_method_15_code_0 22 rfl rfl
theorem d_7_15_23 : decode prog_7_method_15_code 23 = .ok (.iload_n 2, 1) := D_28 W_prog_7_method_15_code_0 23 rfl rfl
theorem d_7_15_24 : decode prog_7_method_15_code 24 = .ok (.tableswitch 87 0 3 #[32, 38, 48, 58], 32) := by decide +kernel
theorem W_prog_7_method_15_code_32 : chW prog_7_method_15_code 32 [0, 0, 0, 0, 0, 0, 0, 3, 0, 0, 0, 32, 0, 0, 0, 38, 0, 0, 0, 48, 0, 0, 0, 58, 33, 16, 29, 125, 136, 172, 33, 16, 26, 125, 20, 0] := chW_of (by decide +kernel)
theorem d_7_15_56 : decode prog_7_method_15_code 56 = .ok (.lload_n 3, 1) := D_33 W_prog_7_method_15_code_32 24 rfl rfl
theorem d_7_15_57 : decode prog_7_method_15_code 57 = .ok (.bipush 29, 2) := D_16 W_prog_7_method_15_code_32 25 rfl rfl rfl
theorem d_7_15_59 : decode prog_7_method_15_code 59 = .ok (.lushr, 1) := D_125 W_prog_7_method_15_code_32 27 rfl rfl
theorem d_7_15_60 : decode prog_7_method_15_code 60 = .ok (.l2i, 1) := D_136 W_prog_7_method_15_code_32 28 rfl rfl
theorem d_7_15_61 : decode prog_7_method_15_code 61 = .ok (.ireturn, 1) := D_172 W_prog_7_method_15_code_32 29 rfl rfl
theorem d_7_15_62 : decode prog_7_method_15_code 62 = .ok (.lload_n 3, 1) := D_33 W_prog_7_method_15_code_32 30 rfl rfl
theorem d_7_15_63 : decode prog_7_method_15_code 63 = .ok (.bipush 26, 2) := D_16 W_prog_7_method_15_code_32 31 rfl rfl rfl
theorem W_prog_7_method_15_code_64 : chW prog_7_method_15_code 64 [26, 125, 20, 0, 184, 127, 136, 172, 33, 16, 19, 125, 20, 0, 186, 127, 136, 172, 33, 16, 28, 125, 10, 127, 9, 148, 154, 0, 7, 3, 167, 0, 16, 42, 180, 0] := chW_of (by decide +kernel)
theorem d_7_15_65 : decode prog_7_method_15_code 65 = .ok (.lushr, 1) := D_125 W_prog_7_method_15_code_64 1 rfl rfl
theorem d_7_15_66 : decode prog_7_method_15_code 66 = .ok (.ldc2_w 184, 3) := D_20 W_prog_7_method_15_code_64 2 rfl rfl rfl
theorem d_7_15_69 : decode prog_7_method_15_code 69 = .ok (.land, 1) := D_127 W_prog_7_method_15_code_64 5 rfl rfl
theorem d_7_15_70 : decode prog_7_method_15_code 70 = .ok (.l2i, 1) := D_136 W_prog_7_method_15_code_64 6 rfl rfl
theorem d_7_15_71 : decode prog_7_method_15_code 71 = .ok (.ireturn, 1) := D_172 W_prog_7_method_15_code_64 7 rfl rfl
theorem d_7_15_72 : decode prog_7_method_15_code 72 = .ok (.lload_n 3, 1) := D_33 W_prog_7_method_15_code_64 8 rfl rfl
theorem d_7_15_73 : decode prog_7_method_15_code 73 = .ok (.bipush 19, 2) := D_16 W_prog_7_method_15_code_64 9 rfl rfl rfl
theorem d_7_15_75 : decode prog_7_method_15_code 75 = .ok (.lushr, 1) := D_125 W_prog_7_method_15_code_64 11 rfl rfl
theorem d_7_15_76 : decode prog_7_method_15_code 76 = .ok (.ldc2_w 186, 3) := D_20 W_prog_7_method_15_code_64 12 rfl rfl rfl
theorem d_7_15_79 : decode prog_7_method_15_code 79 = .ok (.land, 1) := D_127 W_prog_7_method_15_code_64 15 rfl rfl
theorem d_7_15_80 : decode prog_7_method_15_code 80 = .ok (.l2i, 1) := D_136 W_prog_7_method_15_code_64 16 rfl rfl
theorem d_7_15_81 : decode prog_7_method_15_code 81 = .ok (.ireturn, 1) := D_172 W_prog_7_method_15_code_64 17 rfl rfl
theorem d_7_15_82 : decode prog_7_method_15_code 82 = .ok (.lload_n 3, 1) := D_33 W_prog_7_method_15_code_64 18 rfl rfl
theorem d_7_15_83 : decode prog_7_method_15_code 83 = .ok (.bipush 28, 2) := D_16 W_prog_7_method_15_code_64 19 rfl rfl rfl
theorem d_7_15_85 : decode prog_7_method_15_code 85 = .ok (.lushr, 1) := D_125 W_prog_7_method_15_code_64 21 rfl rfl
theorem d_7_15_86 : decode prog_7_method_15_code 86 = .ok (.lconst 1, 1) := D_10 W_prog_7_method_15_code_64 22 rfl rfl
theorem d_7_15_87 : decode prog_7_method_15_code 87 = .ok (.land, 1) := D_127 W_prog_7_method_15_code_64 23 rfl rfl
theorem d_7_15_88 : decode prog_7_method_15_code 88 = .ok (.lconst 0, 1) := D_9 W_prog_7_method_15_code_64 24 rfl rfl
theorem d_7_15_89 : decode prog_7_method_15_code 89 = .ok (.lcmp, 1) := D_148 W_prog_7_method_15_code_64 25 rfl rfl
theorem d_7_15_90 : decode prog_7_method_15_code 90 = .ok (.ifCond .ne 7, 3) := D_154 W_prog_7_method_15_code_64 26 rfl rfl rfl
theorem W_prog_7_method_15_code_96 : chW prog_7_method_15_code 96 [16, 42, 180, 0, 23, 6, 50, 33, 20, 0, 188, 127, 136, 46, 172, 2, 172] := chW_of (by decide +kernel)
theorem d_7_15_97 : decode prog_7_method_15_code 97 = .ok (.aload_n 0, 1) := D_42 W_prog_7_method_15_code_96 1 rfl rfl
theorem d_7_15_98 : decode prog_7_method_15_code 98 = .ok (.getfield 23, 3) := D_180 W_prog_7_method_15_code_96 2 rfl rfl rfl
theorem d_7_15_101 : decode prog_7_method_15_code 101 = .ok (.iconst 3, 1) := D_6 W_prog_7_method_15_code_96 5 rfl rfl
theorem d_7_15_102 : decode prog_7_method_15_code 102 = .ok (.aaload, 1) := D_50 W_prog_7_method_15_code_96 6 rfl rfl
theorem d_7_15_103 : decode prog_7_method_15_code 103 = .ok (.lload_n 3, 1) := D_33 W_prog_7_method_15_code_96 7 rfl rfl
theorem d_7_15_104 : decode prog_7_method_15_code 104 = .ok (.ldc2_w 188, 3) := D_20 W_prog_7_method_15_code_96 8 rfl rfl rfl
theorem d_7_15_107 : decode prog_7_method_15_code 107 = .ok (.land, 1) := D_127 W_prog_7_method_15_code_96 11 rfl rfl
theorem d_7_15_108 : decode prog_7_method_15_code 108 = .ok (.l2i, 1) := D_136 W_prog_7_method_15_code_96 12 rfl rfl
theorem d_7_15_109 : decode prog_7_method_15_code 109 = .ok (.iaload, 1) := D_46 W_prog_7_method_15_code_96 13 rfl rfl
theorem d_7_15_93 : decode prog_7_method_15_code 93 = .ok (.iconst 0, 1) := D_3 W_prog_7_method_15_code_64 29 rfl rfl
theorem d_7_15_94 : decode prog_7_method_15_code 94 = .ok (.goto 16, 3) := D_167 W_prog_7_method_15_code_64 30 rfl rfl rfl
theorem d_7_15_111 : decode prog_7_method_15_code 111 = .ok (.iconst (-1), 1) := D_2 W_prog_7_method_15_code_96 15 rfl rfl
theorem d_7_15_112 : decode prog_7_method_15_code 112 = .ok (.ireturn, 1) := D_172 W_prog_7_method_15_code_96 16 rfl rfl
theorem d_7_15_14 : decode prog_7_method_15_code 14 = .ok (.iconst (-1), 1) := D_2 W_prog_7_method_15_code_0 14 rfl rfl
theorem d_7_15_15 : decode prog_7_method_15_code 15 = .ok (.ireturn, 1) := D_172 W_prog_7_method_15_code_0 15 rfl rfl
theorem d_7_15_110 : decode prog_7_method_15_code 110 = .ok (.ireturn, 1) := D_172 W_prog_7_method_15_code_96 14 rfl rfl
theorem W_prog_2_method_7_code_0 : chW prog_2_method_7_code 0 [28, 4, 100, 62, 29, 155, 0, 19, 42, 27, 16, 8, 29, 104, 124, 182, 0, 39, 132, 3, 255, 167, 255, 239, 177] := chW_of (by decide +kernel)
theorem d_2_7_0 : decode prog_2_method_7_code 0 = .ok (.iload_n 2, 1) := D_28 W_prog_2_method_7_code_0 0 rfl rfl
theorem d_2_7_1 : decode prog_2_method_7_code 1 = .ok (.iconst 1, 1) := D_4 W_prog_2_method_7_code_0 1 rfl rfl
theorem d_2_7_2 : decode prog_2_method_7_code 2 = .ok (.isub, 1) := D_100 W_prog_2_method_7_code_0 2 rfl rfl
theorem d_2_7_3 : decode prog_2_method_7_code 3 = .ok (.istore_n 3, 1) := D_62 W_prog_2_method_7_code_0 3 rfl rfl
theorem d_2_7_4 : decode prog_2_method_7_code 4 = .ok (.iload_n 3, 1) := D_29 W_prog_2_method_7_code_0 4 rfl rfl
theorem d_2_7_5 : decode prog_2_method_7_code 5 = .ok (.ifCond .lt 19, 3) := D_155 W_prog_2_method_7_code_0 5 rfl rfl rfl
theorem d_2_7_24 : decode prog_2_method_7_code 24 = .ok (.return_, 1) := D_177 W_prog_2_method_7_code_0 24 rfl rfl
theorem d_2_7_8 : decode prog_2_method_7_code 8 = .ok (.aload_n 0, 1) := D_42 W_prog_2_method_7_code_0 8 rfl rfl
theorem d_2_7_9 : decode prog_2_method_7_code 9 = .ok (.iload_n 1, 1) := D_27 W_prog_2_method_7_code_0 9 rfl rfl
theorem d_2_7_10 : decode prog_2_method_7_code 10 = .ok (.bipush 8, 2) := D_16 W_prog_2_method_7_code_0 10 rfl rfl rfl
theorem d_2_7_12 : decode prog_2_method_7_code 12 = .ok (.iload_n 3, 1) := D_29 W_prog_2_method_7_code_0 12 rfl rfl
theorem d_2_7_13 : decode prog_2_method_7_code 13 = .ok (.imul, 1) := D_104 W_prog_2_method_7_code_0 13 rfl rfl
theorem d_2_7_14 : decode prog_2_method_7_code 14 = .ok (.iushr, 1) := D_124 W_prog_2_method_7_code_0 14 rfl rfl
theorem d_2_7_15 : decode prog_2_method_7_code 15 = .ok (.invokevirtual 39, 3) := D_182 W_prog_2_method_7_code_0 15 rfl rfl rfl
theorem d_2_7_18 : decode prog_2_method_7_code 18 = .ok (.iinc 3 (-1), 3) := D_132 W_prog_2_method_7_code_0 18 rfl rfl rfl
theorem d_2_7_21 : decode prog_2_method_7_code 21 = .ok (.goto (-17), 3) := D_167 W_prog_2_method_7_code_0 21 rfl rfl rfl
theorem W_prog_7_method_20_code_0 : chW prog_7_method_20_code 0 [42, 3, 182, 0, 233, 42, 17, 0, 255, 182, 0, 233, 42, 27, 182, 0, 233, 42, 28, 182, 0, 233, 177] := chW_of (by decide +kernel)
theorem d_7_20_0 : decode prog_7_method_20_code 0 = .ok (.aload_n 0, 1) := D_42 W_prog_7_method_20_code_0 0 rfl rfl
theorem d_7_20_1 : decode prog_7_method_20_code 1 = .ok (.iconst 0, 1) := D_3 W_prog_7_method_20_code_0 1 rfl rfl
theorem d_7_20_2 : decode prog_7_method_20_code 2 = .ok (.invokevirtual 233, 3) := D_182 W_prog_7_method_20_code_0 2 rfl rfl rfl
theorem d_7_20_5 : decode prog_7_method_20_code 5 = .ok (.aload_n 0, 1) := D_42 W_prog_7_method_20_code_0 5 rfl rfl
theorem d_7_20_6 : decode prog_7_method_20_code 6 = .ok (.sipush 255, 3) := D_17 W_prog_7_method_20_code_0 6 rfl rfl rfl
theorem d_7_20_9 : decode prog_7_method_20_code 9 = .ok (.invokevirtual 233, 3) := D_182 W_prog_7_method_20_code_0 9 rfl rfl rfl
theorem d_7_20_12 : decode prog_7_method_20_code 12 = .ok (.aload_n 0, 1) := D_42 W_prog_7_method_20_code_0 12 rfl rfl
theorem d_7_20_13 : decode prog_7_method_20_code 13 = .ok (.iload_n 1, 1) := D_27 W_prog_7_method_20_code_0 13 rfl rfl
theorem d_7_20_14 : decode prog_7_method_20_code 14 = .ok (.invokevirtual 233, 3) := D_182 W_prog_7_method_20_code_0 14 rfl rfl rfl
theorem d_7_20_17 : decode prog_7_method_20_code 17 = .ok (.aload_n 0, 1) := D_42 W_prog_7_method_20_code_0 17 rfl rfl
theorem d_7_20_18 : decode prog_7_method_20_code 18 = .ok (.iload_n 2, 1) := D_28 W_prog_7_method_20_code_0 18 rfl rfl
theorem d_7_20_19 : decode prog_7_method_20_code 19 = .ok (.invokevirtual 233, 3) := D_182 W_prog_7_method_20_code_0 19 rfl rfl rfl
theorem d_7_20_22 : decode prog_7_method_20_code 22 = .ok (.return_, 1) := D_177 W_prog_7_method_20_code_0 22 rfl rfl
theorem W_prog_18_method_49_code_0 : chW prog_18_method_49_code 0 [26, 26, 4, 124, 19, 1, 9, 126, 100, 59, 26, 19, 1, 10, 126, 26, 5, 124, 19, 1, 10, 126, 96, 59, 26, 26, 7, 124, 96, 19, 1, 11, 126, 59, 26, 26] := chW_of (by decide +kernel)
theorem d_18_49_0 : decode prog_18_method_49_code 0 = .ok (.iload_n 0, 1) := D_26 W_prog_18_method_49_code_0 0 rfl rfl
theorem d_18_49_1 : decode prog_18_method_49_code 1 = .ok (.iload_n 0, 1) := D_26 W_prog_18_method_49_code_0 1 rfl rfl
theorem d_18_49_2 : decode prog_18_method_49_code 2 = .ok (.iconst 1, 1) := D_4 W_prog_18_method_49_code_0 2 rfl rfl
theorem d_18_49_3 : decode prog_18_method_49_code 3 = .ok (.iushr, 1) := D_124 W_prog_18_method_49_code_0 3 rfl rfl
theorem d_18_49_4 : decode prog_18_method_49_code 4 = .ok (.ldc_w 265, 3) := D_19 W_prog_18_method_49_code_0 4 rfl rfl rfl
theorem d_18_49_7 : decode prog_18_method_49_code 7 = .ok (.iand, 1) := D_126 W_prog_18_method_49_code_0 7 rfl rfl
theorem d_18_49_8 : decode prog_18_method_49_code 8 = .ok (.isub, 1) := D_100 W_prog_18_method_49_code_0 8 rfl rfl
theorem d_18_49_9 : decode prog_18_method_49_code 9 = .ok (.istore_n 0, 1) := D_59 W_prog_18_method_49_code_0 9 rfl rfl
theorem d_18_49_10 : decode prog_18_method_49_code 10 = .ok (.iload_n 0, 1) := D_26 W_prog_18_method_49_code_0 10 rfl rfl
theorem d_18_49_11 : decode prog_18_method_49_code 11 = .ok (.ldc_w 266, 3) := D_19 W_prog_18_method_49_code_0 11 rfl rfl rfl
theorem d_18_49_14 : decode prog_18_method_49_code 14 = .ok (.iand, 1) := D_126 W_prog_18_method_49_code_0 14 rfl rfl
theorem d_18_49_15 : decode prog_18_method_49_code 15 = .ok (.iload_n 0, 1) := D_26 W_prog_18_method_49_code_0 15 rfl rfl
theorem d_18_49_16 : decode prog_18_method_49_code 16 = .ok (.iconst 2, 1) := D_5 W_prog_18_method_49_code_0 16 rfl rfl
theorem d_18_49_17 : decode prog_18_method_49_code 17 = .ok (.iushr, 1) := D_124 W_prog_18_method_49_code_0 17 rfl rfl
theorem d_18_49_18 : decode prog_18_method_49_code 18 = .ok (.ldc_w 266, 3) := D_19 W_prog_18_method_49_code_0 18 rfl rfl rfl
theorem d_18_49_21 : decode prog_18_method_49_code 21 = .ok (.iand, 1) := D_126 W_prog_18_method_49_code_0 21 rfl rfl
theorem d_18_49_22 : decode prog_18_method_49_code 22 = .ok (.iadd, 1) := D_96 W_prog_18_method_49_code_0 22 rfl rfl
theorem d_18_49_23 : decode prog_18_method_49_code 23 = .ok (.istore_n 0, 1) := D_59 W_prog_18_method_49_code_0 23 rfl rfl
theorem d_18_49_24 : decode prog_18_method_49_code 24 = .ok (.iload_n 0, 1) := D_26 W_prog_18_method_49_code_0 24 rfl rfl
theorem d_18_49_25 : decode prog_18_method_49_code 25 = .ok (.iload_n 0, 1) := D_26 W_prog_18_method_49_code_0 25 rfl rfl
theorem d_18_49_26 : decode prog_18_method_49_code 26 = .ok (.iconst 4, 1) := D_7 W_prog_18_method_49_code_0 26 rfl rfl
theorem d_18_49_27 : decode prog_18_method_49_code 27 = .ok (.iushr, 1) := D_124 W_prog_18_method_49_code_0 27 rfl rfl
theorem d_18_49_28 : decode prog_18_method_49_code 28 = .ok (.iadd, 1) := D_96 W_prog_18_method_49_code_0 28 rfl rfl
theorem d_18_49_29 : decode prog_18_method_49_code 29 = .ok (.ldc_w 267, 3) := D_19 W_prog_18_method_49_code_0 29 rfl rfl rfl
theorem W_prog_18_method_49_code_32 : chW prog_18_method_49_code 32 [126, 59, 26, 26, 16, 8, 124, 96, 59, 26, 26, 16, 16, 124, 96, 59, 26, 16, 63, 126, 172] := chW_of (by decide +kernel)
theorem d_18_49_32 : decode prog_18_method_49_code 32 = .ok (.iand, 1) := D_126 W_prog_18_method_49_code_32 0 rfl rfl
theorem d_18_49_33 : decode prog_18_method_49_code 33 = .ok (.istore_n 0, 1) := D_59 W_prog_18_method_49_code_32 1 rfl rfl
theorem d_18_49_34 : decode prog_18_method_49_code 34 = .ok (.iload_n 0, 1) := D_26 W_prog_18_method_49_code_32 2 rfl rfl
theorem d_18_49_35 : decode prog_18_method_49_code 35 = .ok (.iload_n 0, 1) := D_26 W_prog_18_method_49_code_32 3 rfl rfl
theorem d_18_49_36 : decode prog_18_method_49_code 36 = .ok (.bipush 8, 2) := D_16 W_prog_18_method_49_code_32 4 rfl rfl rfl
theorem d_18_49_38 : decode prog_18_method_49_code 38 = .ok (.iushr, 1) := D_124 W_prog_18_method_49_code_32 6 rfl rfl
theorem d_18_49_39 : decode prog_18_method_49_code 39 = .ok (.iadd, 1) := D_96 W_prog_18_method_49_code_32 7 rfl rfl
theorem d_18_49_40 : decode prog_18_method_49_code 40 = .ok (.istore_n 0, 1) := D_59 W_prog_18_method_49_code_32 8 rfl rfl
theorem d_18_49_41 : decode prog_18_method_49_code 41 = .ok (.iload_n 0, 1) := D_26 W_prog_18_method_49_code_32 9 rfl rfl
theorem d_18_49_42 : decode prog_18_method_49_code 42 = .ok (.iload_n 0, 1) := D_26 W_prog_18_method_49_code_32 10 rfl rfl
theorem d_18_49_43 : decode prog_18_method_49_code 43 = .ok (.bipush 16, 2) := D_16 W_prog_18_method_49_code_32 11 rfl rfl rfl
theorem d_18_49_45 : decode prog_18_method_49_code 45 = .ok (.iushr, 1) := D_124 W_prog_18_method_49_code_32 13 rfl rfl
theorem d_18_49_46 : decode prog_18_method_49_code 46 = .ok (.iadd, 1) := D_96 W_prog_18_method_49_code_32 14 rfl rfl
theorem d_18_49_47 : decode prog_18_method_49_code 47 = .ok (.istore_n 0, 1) := D_59 W_prog_18_method_49_code_32 15 rfl rfl
theorem d_18_49_48 : decode prog_18_method_49_code 48 = .ok (.iload_n 0, 1) := D_26 W_prog_18_method_49_code_32 16 rfl rfl
theorem d_18_49_49 : decode prog_18_method_49_code 49 = .ok (.bipush 63, 2) := D_16 W_prog_18_method_49_code_32 17 rfl rfl rfl
theorem d_18_49_51 : decode prog_18_method_49_code 51 = .ok (.iand, 1) := D_126 W_prog_18_method_49_code_32 19 rfl rfl
theorem d_18_49_52 : decode prog_18_method_49_code 52 = .ok (.ireturn, 1) := D_172 W_prog_18_method_49_code_32 20 rfl rfl
theorem W_prog_2_method_9_code_0 : chW prog_2_method_9_code 0 [3, 62, 29, 7, 162, 0, 46, 27, 29, 96, 155, 0, 34, 27, 29, 96, 42, 180, 0, 21, 162, 0, 24, 42, 180, 0, 15, 27, 29, 96, 28, 16, 24, 16, 8, 29] := chW_of (by decide +kernel)
theorem d_2_9_0 : decode prog_2_method_9_code 0 = .ok (.iconst 0, 1) := D_3 W_prog_2_method_9_code_0 0 rfl rfl
theorem d_2_9_1 : decode prog_2_method_9_code 1 = .ok (.istore_n 3, 1) := D_62 W_prog_2_method_9_code_0 1 rfl rfl
theorem d_2_9_2 : decode prog_2_method_9_code 2 = .ok (.iload_n 3, 1) := D_29 W_prog_2_method_9_code_0 2 rfl rfl
theorem d_2_9_3 : decode prog_2_method_9_code 3 = .ok (.iconst 4, 1) := D_7 W_prog_2_method_9_code_0 3 rfl rfl
theorem d_2_9_4 : decode prog_2_method_9_code 4 = .ok (.if_icmp .ge 46, 3) := D_162 W_prog_2_method_9_code_0 4 rfl rfl rfl
theorem W_prog_2_method_9_code_32 : chW prog_2_method_9_code 32 [24, 16, 8, 29, 104, 100, 124, 17, 0, 255, 126, 79, 132, 3, 1, 167, 255, 211, 177] := chW_of (by decide +kernel)
theorem d_2_9_50 : decode prog_2_method_9_code 50 = .ok (.return_, 1) := D_177 W_prog_2_method_9_code_32 18 rfl rfl
theorem d_2_9_7 : decode prog_2_method_9_code 7 = .ok (.iload_n 1, 1) := D_27 W_prog_2_method_9_code_0 7 rfl rfl
theorem d_2_9_8 : decode prog_2_method_9_code 8 = .ok (.iload_n 3, 1) := D_29 W_prog_2_method_9_code_0 8 rfl rfl
theorem d_2_9_9 : decode prog_2_method_9_code 9 = .ok (.iadd, 1) := D_96 W_prog_2_method_9_code_0 9 rfl rfl
theorem d_2_9_10 : decode prog_2_method_9_code 10 = .ok (.ifCond .lt 34, 3) := D_155 W_prog_2_method_9_code_0 10 rfl rfl rfl
theorem d_2_9_13 : decode prog_2_method_9_code 13 = .ok (.iload_n 1, 1) := D_27 W_prog_2_method_9_code_0 13 rfl rfl
theorem d_2_9_14 : decode prog_2_method_9_code 14 = .ok (.iload_n 3, 1) := D_29 W_prog_2_method_9_code_0 14 rfl rfl
theorem d_2_9_15 : decode prog_2_method_9_code 15 = .ok (.iadd, 1) := D_96 W_prog_2_method_9_code_0 15 rfl rfl
theorem d_2_9_16 : decode prog_2_method_9_code 16 = .ok (.aload_n 0, 1) := D_42 W_prog_2_method_9_code_0 16 rfl rfl
theorem d_2_9_17 : decode prog_2_method_9_code 17 = .ok (.getfield 21, 3) := D_180 W_prog_2_method_9_code_0 17 rfl rfl rfl
theorem d_2_9_20 : decode prog_2_method_9_code 20 = .ok (.if_icmp .ge 24, 3) := D_162 W_prog_2_method_9_code_0 20 rfl rfl rfl
theorem d_2_9_23 : decode prog_2_method_9_code 23 = .ok (.aload_n 0, 1) := D_42 W_prog_2_method_9_code_0 23 rfl rfl
theorem d_2_9_24 : decode prog_2_method_9_code 24 = .ok (.getfield 15, 3) := D_180 W_prog_2_method_9_code_0 24 rfl rfl rfl
theorem d_2_9_27 : decode prog_2_method_9_code 27 = .ok (.iload_n 1, 1) := D_27 W_prog_2_method_9_code_0 27 rfl rfl
theorem d_2_9_28 : decode prog_2_method_9_code 28 = .ok (.iload_n 3, 1) := D_29 W_prog_2_method_9_code_0 28 rfl rfl
theorem d_2_9_29 : decode prog_2_method_9_code 29 = .ok (.iadd, 1) := D_96 W_prog_2_method_9_code_0 29 rfl rfl
theorem d_2_9_30 : decode prog_2_method_9_code 30 = .ok (.iload_n 2, 1) := D_28 W_prog_2_method_9_code_0 30 rfl rfl
theorem d_2_9_31 : decode prog_2_method_9_code 31 = .ok (.bipush 24, 2) := D_16 W_prog_2_method_9_code_0 31 rfl rfl rfl
theorem d_2_9_33 : decode prog_2_method_9_code 33 = .ok (.bipush 8, 2) := D_16 W_prog_2_method_9_code_32 1 rfl rfl rfl
theorem d_2_9_35 : decode prog_2_method_9_code 35 = .ok (.iload_n 3, 1) := D_29 W_prog_2_method_9_code_32 3 rfl rfl
theorem d_2_9_36 : decode prog_2_method_9_code 36 = .ok (.imul, 1) := D_104 W_prog_2_method_9_code_32 4 rfl rfl
theorem d_2_9_37 : decode prog_2_method_9_code 37 = .ok (.isub, 1) := D_100 W_prog_2_method_9_code_32 5 rfl rfl
theorem d_2_9_38 : decode prog_2_method_9_code 38 = .ok (.iushr, 1) := D_124 W_prog_2_method_9_code_32 6 rfl rfl
theorem d_2_9_39 : decode prog_2_method_9_code 39 = .ok (.sipush 255, 3) := D_17 W_prog_2_method_9_code_32 7 rfl rfl rfl
theorem d_2_9_42 : decode prog_2_method_9_code 42 = .ok (.iand, 1) := D_126 W_prog_2_method_9_code_32 10 rfl rfl
theorem d_2_9_43 : decode prog_2_method_9_code 43 = .ok (.iastore, 1) := D_79 W_prog_2_method_9_code_32 11 rfl rfl
theorem d_2_9_44 : decode prog_2_method_9_code 44 = .ok (.iinc 3 1, 3) := D_132 W_prog_2_method_9_code_32 12 rfl rfl rfl
theorem d_2_9_47 : decode prog_2_method_9_code 47 = .ok (.goto (-45), 3) := D_167 W_prog_2_method_9_code_32 15 rfl rfl rfl
theorem W_prog_2_method_8_code_0 : chW prog_2_method_8_code 0 [6, 61, 28, 158, 0, 35, 27, 16, 7, 28, 104, 124, 153, 0, 20, 42, 27, 16, 7, 28, 104, 124, 16, 127, 126, 17, 0, 128, 128, 182, 0, 39, 132, 2, 255, 167] := chW_of (by decide +kernel)
theorem d_2_8_0 : decode prog_2_method_8_code 0 = .ok (.iconst 3, 1) := D_6 W_prog_2_method_8_code_0 0 rfl rfl
theorem d_2_8_1 : decode prog_2_method_8_code 1 = .ok (.istore_n 2, 1) := D_61 W_prog_2_method_8_code_0 1 rfl rfl
theorem d_2_8_2 : decode prog_2_method_8_code 2 = .ok (.iload_n 2, 1) := D_28 W_prog_2_method_8_code_0 2 rfl rfl
theorem d_2_8_3 : decode prog_2_method_8_code 3 = .ok (.ifCond .le 35, 3) := D_158 W_prog_2_method_8_code_0 3 rfl rfl rfl
theorem W_prog_2_method_8_code_32 : chW prog_2_method_8_code 32 [132, 2, 255, 167, 255, 223, 42, 27, 16, 127, 126, 182, 0, 39, 177] := chW_of (by decide +kernel)
theorem d_2_8_38 : decode prog_2_method_8_code 38 = .ok (.aload_n 0, 1) := D_42 W_prog_2_method_8_code_32 6 rfl rfl
theorem d_2_8_39 : decode prog_2_method_8_code 39 = .ok (.iload_n 1, 1) := D_27 W_prog_2_method_8_code_32 7 rfl rfl
theorem d_2_8_40 : decode prog_2_method_8_code 40 = .ok (.bipush 127, 2) := D_16 W_prog_2_method_8_code_32 8 rfl rfl rfl
theorem d_2_8_42 : decode prog_2_method_8_code 42 = .ok (.iand, 1) := D_126 W_prog_2_method_8_code_32 10 rfl rfl
theorem d_2_8_43 : decode prog_2_method_8_code 43 = .ok (.invokevirtual 39, 3) := D_182 W_prog_2_method_8_code_32 11 rfl rfl rfl
theorem d_2_8_46 : decode prog_2_method_8_code 46 = .ok (.return_, 1) := D_177 W_prog_2_method_8_code_32 14 rfl rfl
theorem d_2_8_6 : decode prog_2_method_8_code 6 = .ok (.iload_n 1, 1) := D_27 W_prog_2_method_8_code_0 6 rfl rfl
theorem d_2_8_7 : decode prog_2_method_8_code 7 = .ok (.bipush 7, 2) := D_16 W_prog_2_method_8_code_0 7 rfl rfl rfl
theorem d_2_8_9 : decode prog_2_method_8_code 9 = .ok (.iload_n 2, 1) := D_28 W_prog_2_method_8_code_0 9 rfl rfl

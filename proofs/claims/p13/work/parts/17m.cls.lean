theorem k_3_216 : (Jvm.Cond.methodLink "StaveHouse$Parser" (235 : Nat) ({ cls := "StaveHouse$Parser", name := "takeOpening", desc := "(C)Z" } : Jvm.MethodName)) ∈ wAll := wA_3 (j := 216) rfl rfl
theorem k_3_218 : (Jvm.Cond.instanceMethod ({ cls := "StaveHouse$Parser", name := "takeOpening", desc := "(C)Z" } : Jvm.MethodName)) ∈ wAll := wA_3 (j := 218) rfl rfl
theorem ks_11 : (Jvm.Cond.selects "StaveHouse$Parser" ({ cls := "StaveHouse$Parser", name := "takeOpening", desc := "(C)Z" } : Jvm.MethodName) ({ cls := "StaveHouse$Parser", name := "takeOpening", desc := "(C)Z" } : Jvm.MethodName)) ∈ wAll := wA_s (j := 11) rfl rfl
theorem k_3_219 : (Jvm.Cond.code ({ cls := "StaveHouse$Parser", name := "takeOpening", desc := "(C)Z" } : Jvm.MethodName) prog_5_method_17_code (2 : Nat) (Option.some Jvm.ClassFile.FieldType.boolean)) ∈ wAll := wA_3 (j := 219) rfl rfl
theorem k_3_175 : (Jvm.Cond.methodLink "StaveHouse$Parser" (166 : Nat) ({ cls := "StaveHouse$Parser", name := "newItem", desc := "(I)I" } : Jvm.MethodName)) ∈ wAll := wA_3 (j := 175) rfl rfl
theorem k_3_177 : (Jvm.Cond.instanceMethod ({ cls := "StaveHouse$Parser", name := "newItem", desc := "(I)I" } : Jvm.MethodName)) ∈ wAll := wA_3 (j := 177) rfl rfl
theorem ks_5 : (Jvm.Cond.selects "StaveHouse$Parser" ({ cls := "StaveHouse$Parser", name := "newItem", desc := "(I)I" } : Jvm.MethodName) ({ cls := "StaveHouse$Parser", name := "newItem", desc := "(I)I" } : Jvm.MethodName)) ∈ wAll := wA_s (j := 5) rfl rfl
theorem k_3_178 : (Jvm.Cond.code ({ cls := "StaveHouse$Parser", name := "newItem", desc := "(I)I" } : Jvm.MethodName) prog_5_method_16_code (3 : Nat) (Option.some Jvm.ClassFile.FieldType.int)) ∈ wAll := wA_3 (j := 178) rfl rfl
theorem k_1_195 : (Jvm.Cond.fieldLink "StaveHouse$Walker" (42 : Nat) "StaveHouse$Walker" "backs" "I") ∈ wAll := wA_1 (j := 195) rfl rfl
theorem k_1_115 : (Jvm.Cond.fieldLink "StaveHouse$Walker" (81 : Nat) "StaveHouse$Parser" "child" "[I") ∈ wAll := wA_1 (j := 115) rfl rfl
theorem k_1_107 : (Jvm.Cond.fieldLink "StaveHouse$Walker" (111 : Nat) "StaveHouse$Parser" "kind" "[I") ∈ wAll := wA_1 (j := 107) rfl rfl
theorem k_2_133 : (Jvm.Cond.fieldLink "StaveHouse" (48 : Nat) "StaveHouse" "scribe" "LStaveHouse$Scribe;") ∈ wAll := wA_2 (j := 133) rfl rfl
theorem k_8_143 : (Jvm.Cond.methodLink "StaveHouse$Scribe" (49 : Nat) ({ cls := "StaveHouse$ByteRow", name := "clear", desc := "()V" } : Jvm.MethodName)) ∈ wAll := wA_8 (j := 143) rfl rfl
theorem k_3_224 : (Jvm.Cond.methodLink "StaveHouse$Parser" (244 : Nat) ({ cls := "StaveHouse$Parser", name := "itemSort", desc := "()I" } : Jvm.MethodName)) ∈ wAll := wA_3 (j := 224) rfl rfl
theorem k_3_226 : (Jvm.Cond.instanceMethod ({ cls := "StaveHouse$Parser", name := "itemSort", desc := "()I" } : Jvm.MethodName)) ∈ wAll := wA_3 (j := 226) rfl rfl
theorem ks_13 : (Jvm.Cond.selects "StaveHouse$Parser" ({ cls := "StaveHouse$Parser", name := "itemSort", desc := "()I" } : Jvm.MethodName) ({ cls := "StaveHouse$Parser", name := "itemSort", desc := "()I" } : Jvm.MethodName)) ∈ wAll := wA_s (j := 13) rfl rfl
theorem k_3_227 : (Jvm.Cond.code ({ cls := "StaveHouse$Parser", name := "itemSort", desc := "()I" } : Jvm.MethodName) prog_5_method_21_code (2 : Nat) (Option.some Jvm.ClassFile.FieldType.int)) ∈ wAll := wA_3 (j := 227) rfl rfl
theorem k_4_41 : (Jvm.Cond.methodLink "StaveHouse$Parser" (258 : Nat) ({ cls := "StaveHouse$Parser", name := "takeLoud", desc := "(I)Z" } : Jvm.MethodName)) ∈ wAll := wA_4 (j := 41) rfl rfl
theorem k_4_43 : (Jvm.Cond.instanceMethod ({ cls := "StaveHouse$Parser", name := "takeLoud", desc := "(I)Z" } : Jvm.MethodName)) ∈ wAll := wA_4 (j := 43) rfl rfl
theorem ks_24 : (Jvm.Cond.selects "StaveHouse$Parser" ({ cls := "StaveHouse$Parser", name := "takeLoud", desc := "(I)Z" } : Jvm.MethodName) ({ cls := "StaveHouse$Parser", name := "takeLoud", desc := "(I)Z" } : Jvm.MethodName)) ∈ wAll := wA_s (j := 24) rfl rfl
theorem k_4_44 : (Jvm.Cond.code ({ cls := "StaveHouse$Parser", name := "takeLoud", desc := "(I)Z" } : Jvm.MethodName) prog_5_method_28_code (3 : Nat) (Option.some Jvm.ClassFile.FieldType.boolean)) ∈ wAll := wA_4 (j := 44) rfl rfl
theorem k_1_203 : (Jvm.Cond.fieldLink "StaveHouse$Walker" (70 : Nat) "StaveHouse$Walker" "bar" "J") ∈ wAll := wA_1 (j := 203) rfl rfl
theorem k_4_200 : (Jvm.Cond.methodLink "StaveHouse$Walker" (98 : Nat) ({ cls := "StaveHouse$Walker", name := "countItem", desc := "(I)V" } : Jvm.MethodName)) ∈ wAll := wA_4 (j := 200) rfl rfl
theorem k_4_202 : (Jvm.Cond.instanceMethod ({ cls := "StaveHouse$Walker", name := "countItem", desc := "(I)V" } : Jvm.MethodName)) ∈ wAll := wA_4 (j := 202) rfl rfl
theorem ks_35 : (Jvm.Cond.selects "StaveHouse$Walker" ({ cls := "StaveHouse$Walker", name := "countItem", desc := "(I)V" } : Jvm.MethodName) ({ cls := "StaveHouse$Walker", name := "countItem", desc := "(I)V" } : Jvm.MethodName)) ∈ wAll := wA_s (j := 35) rfl rfl
theorem k_4_203 : (Jvm.Cond.code ({ cls := "StaveHouse$Walker", name := "countItem", desc := "(I)V" } : Jvm.MethodName) prog_13_method_5_code (2 : Nat) (Option.none : Option Jvm.ClassFile.FieldType)) ∈ wAll := wA_4 (j := 203) rfl rfl
theorem k_4_33 : (Jvm.Cond.methodLink "StaveHouse$Parser" (273 : Nat) ({ cls := "StaveHouse$Parser", name := "takeFraction", desc := "(III)Z" } : Jvm.MethodName)) ∈ wAll := wA_4 (j := 33) rfl rfl
theorem k_4_35 : (Jvm.Cond.instanceMethod ({ cls := "StaveHouse$Parser", name := "takeFraction", desc := "(III)Z" } : Jvm.MethodName)) ∈ wAll := wA_4 (j := 35) rfl rfl
theorem ks_22 : (Jvm.Cond.selects "StaveHouse$Parser" ({ cls := "StaveHouse$Parser", name := "takeFraction", desc := "(III)Z" } : Jvm.MethodName) ({ cls := "StaveHouse$Parser", name := "takeFraction", desc := "(III)Z" } : Jvm.MethodName)) ∈ wAll := wA_s (j := 22) rfl rfl
theorem k_4_36 : (Jvm.Cond.code ({ cls := "StaveHouse$Parser", name := "takeFraction", desc := "(III)Z" } : Jvm.MethodName) prog_5_method_29_code (4 : Nat) (Option.some Jvm.ClassFile.FieldType.boolean)) ∈ wAll := wA_4 (j := 36) rfl rfl
theorem k_4_212 : (Jvm.Cond.methodLink "StaveHouse$Walker" (114 : Nat) ({ cls := "StaveHouse$Walker", name := "makeEvent", desc := "(I)V" } : Jvm.MethodName)) ∈ wAll := wA_4 (j := 212) rfl rfl
theorem k_4_214 : (Jvm.Cond.instanceMethod ({ cls := "StaveHouse$Walker", name := "makeEvent", desc := "(I)V" } : Jvm.MethodName)) ∈ wAll := wA_4 (j := 214) rfl rfl
theorem ks_38 : (Jvm.Cond.selects "StaveHouse$Walker" ({ cls := "StaveHouse$Walker", name := "makeEvent", desc := "(I)V" } : Jvm.MethodName) ({ cls := "StaveHouse$Walker", name := "makeEvent", desc := "(I)V" } : Jvm.MethodName)) ∈ wAll := wA_s (j := 38) rfl rfl
theorem k_4_215 : (Jvm.Cond.code ({ cls := "StaveHouse$Walker", name := "makeEvent", desc := "(I)V" } : Jvm.MethodName) prog_13_method_13_code (8 : Nat) (Option.none : Option Jvm.ClassFile.FieldType)) ∈ wAll := wA_4 (j := 215) rfl rfl
theorem k_8_144 : (Jvm.Cond.methodLink "StaveHouse$Scribe" (54 : Nat) ({ cls := "StaveHouse$Scribe", name := "lastPlace", desc := "()J" } : Jvm.MethodName)) ∈ wAll := wA_8 (j := 144) rfl rfl
theorem k_8_146 : (Jvm.Cond.instanceMethod ({ cls := "StaveHouse$Scribe", name := "lastPlace", desc := "()J" } : Jvm.MethodName)) ∈ wAll := wA_8 (j := 146) rfl rfl
theorem ks_111 : (Jvm.Cond.selects "StaveHouse$Scribe" ({ cls := "StaveHouse$Scribe", name := "lastPlace", desc := "()J" } : Jvm.MethodName) ({ cls := "StaveHouse$Scribe", name := "lastPlace", desc := "()J" } : Jvm.MethodName)) ∈ wAll := wA_s (j := 111) rfl rfl
theorem k_8_147 : (Jvm.Cond.code ({ cls := "StaveHouse$Scribe", name := "lastPlace", desc := "()J" } : Jvm.MethodName) prog_9_method_5_code (7 : Nat) (Option.some Jvm.ClassFile.FieldType.long)) ∈ wAll := wA_8 (j := 147) rfl rfl
theorem k_8_165 : (Jvm.Cond.constantLong "StaveHouse$Scribe" (58 : Nat) (100 : Int64)) ∈ wAll := wA_8 (j := 165) rfl rfl
theorem k_8_166 : (Jvm.Cond.methodLink "StaveHouse$Scribe" (60 : Nat) ({ cls := "StaveHouse$Scribe", name := "writeHead", desc := "()V" } : Jvm.MethodName)) ∈ wAll := wA_8 (j := 166) rfl rfl
theorem k_8_168 : (Jvm.Cond.instanceMethod ({ cls := "StaveHouse$Scribe", name := "writeHead", desc := "()V" } : Jvm.MethodName)) ∈ wAll := wA_8 (j := 168) rfl rfl
theorem ks_115 : (Jvm.Cond.selects "StaveHouse$Scribe" ({ cls := "StaveHouse$Scribe", name := "writeHead", desc := "()V" } : Jvm.MethodName) ({ cls := "StaveHouse$Scribe", name := "writeHead", desc := "()V" } : Jvm.MethodName)) ∈ wAll := wA_s (j := 115) rfl rfl
theorem k_8_169 : (Jvm.Cond.code ({ cls := "StaveHouse$Scribe", name := "writeHead", desc := "()V" } : Jvm.MethodName) prog_9_method_9_code (2 : Nat) (Option.none : Option Jvm.ClassFile.FieldType)) ∈ wAll := wA_8 (j := 169) rfl rfl
theorem k_8_182 : (Jvm.Cond.methodLink "StaveHouse$Scribe" (66 : Nat) ({ cls := "StaveHouse$Scribe", name := "writeVoice", desc := "(III)V" } : Jvm.MethodName)) ∈ wAll := wA_8 (j := 182) rfl rfl
theorem k_8_184 : (Jvm.Cond.instanceMethod ({ cls := "StaveHouse$Scribe", name := "writeVoice", desc := "(III)V" } : Jvm.MethodName)) ∈ wAll := wA_8 (j := 184) rfl rfl
theorem ks_116 : (Jvm.Cond.selects "StaveHouse$Scribe" ({ cls := "StaveHouse$Scribe", name := "writeVoice", desc := "(III)V" } : Jvm.MethodName) ({ cls := "StaveHouse$Scribe", name := "writeVoice", desc := "(III)V" } : Jvm.MethodName)) ∈ wAll := wA_s (j := 116) rfl rfl
theorem k_8_185 : (Jvm.Cond.code ({ cls := "StaveHouse$Scribe", name := "writeVoice", desc := "(III)V" } : Jvm.MethodName) prog_9_method_10_code (11 : Nat) (Option.none : Option Jvm.ClassFile.FieldType)) ∈ wAll := wA_8 (j := 185) rfl rfl
theorem k_1_49 : (Jvm.Cond.fieldLink "StaveHouse$Scribe" (74 : Nat) "StaveHouse$ByteRow" "full" "Z") ∈ wAll := wA_1 (j := 49) rfl rfl
theorem k_1_45 : (Jvm.Cond.fieldLink "StaveHouse$Scribe" (78 : Nat) "StaveHouse$ByteRow" "size" "I") ∈ wAll := wA_1 (j := 45) rfl rfl
theorem k_8_138 : (Jvm.Cond.methodLink "StaveHouse" (293 : Nat) ({ cls := "StaveHouse$Scribe", name := "writeDown", desc := "(LStaveHouse$SoundFile;ILStaveHouse$ByteRow;)I" } : Jvm.MethodName)) ∈ wAll := wA_8 (j := 138) rfl rfl
theorem k_8_139 : (Jvm.Cond.instanceMethod ({ cls := "StaveHouse$Scribe", name := "writeDown", desc := "(LStaveHouse$SoundFile;ILStaveHouse$ByteRow;)I" } : Jvm.MethodName)) ∈ wAll := wA_8 (j := 139) rfl rfl
theorem k_8_140 : (Jvm.Cond.selects "StaveHouse$Scribe" ({ cls := "StaveHouse$Scribe", name := "writeDown", desc := "(LStaveHouse$SoundFile;ILStaveHouse$ByteRow;)I" } : Jvm.MethodName) ({ cls := "StaveHouse$Scribe", name := "writeDown", desc := "(LStaveHouse$SoundFile;ILStaveHouse$ByteRow;)I" } : Jvm.MethodName)) ∈ wAll := wA_8 (j := 140) rfl rfl
theorem k_8_141 : (Jvm.Cond.code ({ cls := "StaveHouse$Scribe", name := "writeDown", desc := "(LStaveHouse$SoundFile;ILStaveHouse$ByteRow;)I" } : Jvm.MethodName) prog_9_method_2_code (8 : Nat) (Option.some Jvm.ClassFile.FieldType.int)) ∈ wAll := wA_8 (j := 141) rfl rfl
theorem k_3_220 : (Jvm.Cond.methodLink "StaveHouse$Parser" (238 : Nat) ({ cls := "StaveHouse$Parser", name := "takeMusic", desc := "(I)Z" } : Jvm.MethodName)) ∈ wAll := wA_3 (j := 220) rfl rfl
theorem k_3_222 : (Jvm.Cond.instanceMethod ({ cls := "StaveHouse$Parser", name := "takeMusic", desc := "(I)Z" } : Jvm.MethodName)) ∈ wAll := wA_3 (j := 222) rfl rfl
theorem ks_12 : (Jvm.Cond.selects "StaveHouse$Parser" ({ cls := "StaveHouse$Parser", name := "takeMusic", desc := "(I)Z" } : Jvm.MethodName) ({ cls := "StaveHouse$Parser", name := "takeMusic", desc := "(I)Z" } : Jvm.MethodName)) ∈ wAll := wA_s (j := 12) rfl rfl
theorem k_3_223 : (Jvm.Cond.code ({ cls := "StaveHouse$Parser", name := "takeMusic", desc := "(I)Z" } : Jvm.MethodName) prog_5_method_20_code (6 : Nat) (Option.some Jvm.ClassFile.FieldType.boolean)) ∈ wAll := wA_3 (j := 223) rfl rfl
theorem k_4_37 : (Jvm.Cond.methodLink "StaveHouse$Parser" (241 : Nat) ({ cls := "StaveHouse$Parser", name := "takeClosing", desc := "(C)Z" } : Jvm.MethodName)) ∈ wAll := wA_4 (j := 37) rfl rfl
theorem k_4_39 : (Jvm.Cond.instanceMethod ({ cls := "StaveHouse$Parser", name := "takeClosing", desc := "(C)Z" } : Jvm.MethodName)) ∈ wAll := wA_4 (j := 39) rfl rfl
theorem ks_23 : (Jvm.Cond.selects "StaveHouse$Parser" ({ cls := "StaveHouse$Parser", name := "takeClosing", desc := "(C)Z" } : Jvm.MethodName) ({ cls := "StaveHouse$Parser", name := "takeClosing", desc := "(C)Z" } : Jvm.MethodName)) ∈ wAll := wA_s (j := 23) rfl rfl
theorem k_4_40 : (Jvm.Cond.code ({ cls := "StaveHouse$Parser", name := "takeClosing", desc := "(C)Z" } : Jvm.MethodName) prog_5_method_18_code (2 : Nat) (Option.some Jvm.ClassFile.FieldType.boolean)) ∈ wAll := wA_4 (j := 40) rfl rfl
theorem k_3_229 : (Jvm.Cond.methodLink "StaveHouse$Parser" (247 : Nat) ({ cls := "StaveHouse$Parser", name := "takeItem", desc := "(I)Z" } : Jvm.MethodName)) ∈ wAll := wA_3 (j := 229) rfl rfl
theorem k_3_231 : (Jvm.Cond.instanceMethod ({ cls := "StaveHouse$Parser", name := "takeItem", desc := "(I)Z" } : Jvm.MethodName)) ∈ wAll := wA_3 (j := 231) rfl rfl
theorem ks_14 : (Jvm.Cond.selects "StaveHouse$Parser" ({ cls := "StaveHouse$Parser", name := "takeItem", desc := "(I)Z" } : Jvm.MethodName) ({ cls := "StaveHouse$Parser", name := "takeItem", desc := "(I)Z" } : Jvm.MethodName)) ∈ wAll := wA_s (j := 14) rfl rfl
theorem k_3_232 : (Jvm.Cond.code ({ cls := "StaveHouse$Parser", name := "takeItem", desc := "(I)Z" } : Jvm.MethodName) prog_5_method_22_code (2 : Nat) (Option.some Jvm.ClassFile.FieldType.boolean)) ∈ wAll := wA_3 (j := 232) rfl rfl
theorem k_4_45 : (Jvm.Cond.methodLink "StaveHouse$Parser" (261 : Nat) ({ cls := "StaveHouse$Parser", name := "takeRepeat", desc := "(I)Z" } : Jvm.MethodName)) ∈ wAll := wA_4 (j := 45) rfl rfl
theorem k_4_47 : (Jvm.Cond.instanceMethod ({ cls := "StaveHouse$Parser", name := "takeRepeat", desc := "(I)Z" } : Jvm.MethodName)) ∈ wAll := wA_4 (j := 47) rfl rfl
theorem ks_25 : (Jvm.Cond.selects "StaveHouse$Parser" ({ cls := "StaveHouse$Parser", name := "takeRepeat", desc := "(I)Z" } : Jvm.MethodName) ({ cls := "StaveHouse$Parser", name := "takeRepeat", desc := "(I)Z" } : Jvm.MethodName)) ∈ wAll := wA_s (j := 25) rfl rfl
theorem k_4_48 : (Jvm.Cond.code ({ cls := "StaveHouse$Parser", name := "takeRepeat", desc := "(I)Z" } : Jvm.MethodName) prog_5_method_31_code (2 : Nat) (Option.some Jvm.ClassFile.FieldType.boolean)) ∈ wAll := wA_4 (j := 48) rfl rfl
theorem k_4_54 : (Jvm.Cond.methodLink "StaveHouse$Parser" (264 : Nat) ({ cls := "StaveHouse$Parser", name := "takeUse", desc := "(I)Z" } : Jvm.MethodName)) ∈ wAll := wA_4 (j := 54) rfl rfl
theorem k_4_56 : (Jvm.Cond.instanceMethod ({ cls := "StaveHouse$Parser", name := "takeUse", desc := "(I)Z" } : Jvm.MethodName)) ∈ wAll := wA_4 (j := 56) rfl rfl
theorem ks_27 : (Jvm.Cond.selects "StaveHouse$Parser" ({ cls := "StaveHouse$Parser", name := "takeUse", desc := "(I)Z" } : Jvm.MethodName) ({ cls := "StaveHouse$Parser", name := "takeUse", desc := "(I)Z" } : Jvm.MethodName)) ∈ wAll := wA_s (j := 27) rfl rfl
theorem k_4_57 : (Jvm.Cond.code ({ cls := "StaveHouse$Parser", name := "takeUse", desc := "(I)Z" } : Jvm.MethodName) prog_5_method_33_code (3 : Nat) (Option.some Jvm.ClassFile.FieldType.boolean)) ∈ wAll := wA_4 (j := 57) rfl rfl
theorem k_4_58 : (Jvm.Cond.methodLink "StaveHouse$Parser" (267 : Nat) ({ cls := "StaveHouse$Parser", name := "takeMove", desc := "(I)Z" } : Jvm.MethodName)) ∈ wAll := wA_4 (j := 58) rfl rfl
theorem k_4_60 : (Jvm.Cond.instanceMethod ({ cls := "StaveHouse$Parser", name := "takeMove", desc := "(I)Z" } : Jvm.MethodName)) ∈ wAll := wA_4 (j := 60) rfl rfl
theorem ks_28 : (Jvm.Cond.selects "StaveHouse$Parser" ({ cls := "StaveHouse$Parser", name := "takeMove", desc := "(I)Z" } : Jvm.MethodName) ({ cls := "StaveHouse$Parser", name := "takeMove", desc := "(I)Z" } : Jvm.MethodName)) ∈ wAll := wA_s (j := 28) rfl rfl
theorem k_4_61 : (Jvm.Cond.code ({ cls := "StaveHouse$Parser", name := "takeMove", desc := "(I)Z" } : Jvm.MethodName) prog_5_method_34_code (4 : Nat) (Option.some Jvm.ClassFile.FieldType.boolean)) ∈ wAll := wA_4 (j := 61) rfl rfl
theorem k_4_73 : (Jvm.Cond.methodLink "StaveHouse$Parser" (270 : Nat) ({ cls := "StaveHouse$Parser", name := "takeMirror", desc := "(I)Z" } : Jvm.MethodName)) ∈ wAll := wA_4 (j := 73) rfl rfl
theorem k_4_75 : (Jvm.Cond.instanceMethod ({ cls := "StaveHouse$Parser", name := "takeMirror", desc := "(I)Z" } : Jvm.MethodName)) ∈ wAll := wA_4 (j := 75) rfl rfl
theorem ks_29 : (Jvm.Cond.selects "StaveHouse$Parser" ({ cls := "StaveHouse$Parser", name := "takeMirror", desc := "(I)Z" } : Jvm.MethodName) ({ cls := "StaveHouse$Parser", name := "takeMirror", desc := "(I)Z" } : Jvm.MethodName)) ∈ wAll := wA_s (j := 29) rfl rfl
theorem k_4_76 : (Jvm.Cond.code ({ cls := "StaveHouse$Parser", name := "takeMirror", desc := "(I)Z" } : Jvm.MethodName) prog_5_method_35_code (2 : Nat) (Option.some Jvm.ClassFile.FieldType.boolean)) ∈ wAll := wA_4 (j := 76) rfl rfl
theorem k_3_212 : (Jvm.Cond.methodLink "StaveHouse$Parser" (184 : Nat) ({ cls := "StaveHouse$Parser", name := "takeBlock", desc := "(I)Z" } : Jvm.MethodName)) ∈ wAll := wA_3 (j := 212) rfl rfl
theorem k_3_214 : (Jvm.Cond.instanceMethod ({ cls := "StaveHouse$Parser", name := "takeBlock", desc := "(I)Z" } : Jvm.MethodName)) ∈ wAll := wA_3 (j := 214) rfl rfl
theorem ks_10 : (Jvm.Cond.selects "StaveHouse$Parser" ({ cls := "StaveHouse$Parser", name := "takeBlock", desc := "(I)Z" } : Jvm.MethodName) ({ cls := "StaveHouse$Parser", name := "takeBlock", desc := "(I)Z" } : Jvm.MethodName)) ∈ wAll := wA_s (j := 10) rfl rfl
theorem k_3_215 : (Jvm.Cond.code ({ cls := "StaveHouse$Parser", name := "takeBlock", desc := "(I)Z" } : Jvm.MethodName) prog_5_method_19_code (2 : Nat) (Option.some Jvm.ClassFile.FieldType.boolean)) ∈ wAll := wA_3 (j := 215) rfl rfl
theorem k_4_29 : (Jvm.Cond.methodLink "StaveHouse$Parser" (255 : Nat) ({ cls := "StaveHouse$Parser", name := "takeBracket", desc := "(I)Z" } : Jvm.MethodName)) ∈ wAll := wA_4 (j := 29) rfl rfl
theorem k_4_31 : (Jvm.Cond.instanceMethod ({ cls := "StaveHouse$Parser", name := "takeBracket", desc := "(I)Z" } : Jvm.MethodName)) ∈ wAll := wA_4 (j := 31) rfl rfl
theorem ks_21 : (Jvm.Cond.selects "StaveHouse$Parser" ({ cls := "StaveHouse$Parser", name := "takeBracket", desc := "(I)Z" } : Jvm.MethodName) ({ cls := "StaveHouse$Parser", name := "takeBracket", desc := "(I)Z" } : Jvm.MethodName)) ∈ wAll := wA_s (j := 21) rfl rfl
theorem k_4_32 : (Jvm.Cond.code ({ cls := "StaveHouse$Parser", name := "takeBracket", desc := "(I)Z" } : Jvm.MethodName) prog_5_method_30_code (2 : Nat) (Option.some Jvm.ClassFile.FieldType.boolean)) ∈ wAll := wA_4 (j := 32) rfl rfl
theorem k_3_233 : (Jvm.Cond.methodLink "StaveHouse$Parser" (252 : Nat) ({ cls := "StaveHouse$Parser", name := "takeEvent", desc := "(I)Z" } : Jvm.MethodName)) ∈ wAll := wA_3 (j := 233) rfl rfl
theorem k_3_235 : (Jvm.Cond.instanceMethod ({ cls := "StaveHouse$Parser", name := "takeEvent", desc := "(I)Z" } : Jvm.MethodName)) ∈ wAll := wA_3 (j := 235) rfl rfl
theorem ks_15 : (Jvm.Cond.selects "StaveHouse$Parser" ({ cls := "StaveHouse$Parser", name := "takeEvent", desc := "(I)Z" } : Jvm.MethodName) ({ cls := "StaveHouse$Parser", name := "takeEvent", desc := "(I)Z" } : Jvm.MethodName)) ∈ wAll := wA_s (j := 15) rfl rfl
theorem k_3_236 : (Jvm.Cond.code ({ cls := "StaveHouse$Parser", name := "takeEvent", desc := "(I)Z" } : Jvm.MethodName) prog_5_method_23_code (3 : Nat) (Option.some Jvm.ClassFile.FieldType.boolean)) ∈ wAll := wA_3 (j := 236) rfl rfl
theorem k_4_49 : (Jvm.Cond.constantLong "StaveHouse$Parser" (310 : Nat) (6384756 : Int64)) ∈ wAll := wA_4 (j := 49) rfl rfl
theorem k_4_50 : (Jvm.Cond.methodLink "StaveHouse$Parser" (312 : Nat) ({ cls := "StaveHouse$Parser", name := "takeAlternatives", desc := "(I)Z" } : Jvm.MethodName)) ∈ wAll := wA_4 (j := 50) rfl rfl
theorem k_4_52 : (Jvm.Cond.instanceMethod ({ cls := "StaveHouse$Parser", name := "takeAlternatives", desc := "(I)Z" } : Jvm.MethodName)) ∈ wAll := wA_4 (j := 52) rfl rfl
theorem ks_26 : (Jvm.Cond.selects "StaveHouse$Parser" ({ cls := "StaveHouse$Parser", name := "takeAlternatives", desc := "(I)Z" } : Jvm.MethodName) ({ cls := "StaveHouse$Parser", name := "takeAlternatives", desc := "(I)Z" } : Jvm.MethodName)) ∈ wAll := wA_s (j := 26) rfl rfl
theorem k_4_53 : (Jvm.Cond.code ({ cls := "StaveHouse$Parser", name := "takeAlternatives", desc := "(I)Z" } : Jvm.MethodName) prog_5_method_32_code (5 : Nat) (Option.some Jvm.ClassFile.FieldType.boolean)) ∈ wAll := wA_4 (j := 53) rfl rfl
theorem k_4_208 : (Jvm.Cond.methodLink "StaveHouse$Walker" (102 : Nat) ({ cls := "StaveHouse$Walker", name := "goItem", desc := "(II)V" } : Jvm.MethodName)) ∈ wAll := wA_4 (j := 208) rfl rfl
theorem k_4_210 : (Jvm.Cond.instanceMethod ({ cls := "StaveHouse$Walker", name := "goItem", desc := "(II)V" } : Jvm.MethodName)) ∈ wAll := wA_4 (j := 210) rfl rfl
theorem ks_37 : (Jvm.Cond.selects "StaveHouse$Walker" ({ cls := "StaveHouse$Walker", name := "goItem", desc := "(II)V" } : Jvm.MethodName) ({ cls := "StaveHouse$Walker", name := "goItem", desc := "(II)V" } : Jvm.MethodName)) ∈ wAll := wA_s (j := 37) rfl rfl
theorem k_4_211 : (Jvm.Cond.code ({ cls := "StaveHouse$Walker", name := "goItem", desc := "(II)V" } : Jvm.MethodName) prog_13_method_6_code (4 : Nat) (Option.none : Option Jvm.ClassFile.FieldType)) ∈ wAll := wA_4 (j := 211) rfl rfl
theorem k_1_117 : (Jvm.Cond.fieldLink "StaveHouse$Walker" (105 : Nat) "StaveHouse$Parser" "next" "[I") ∈ wAll := wA_1 (j := 117) rfl rfl
theorem k_4_235 : (Jvm.Cond.methodLink "StaveHouse$Walker" (120 : Nat) ({ cls := "StaveHouse$Walker", name := "goBracket", desc := "(II)V" } : Jvm.MethodName)) ∈ wAll := wA_4 (j := 235) rfl rfl
theorem k_4_237 : (Jvm.Cond.instanceMethod ({ cls := "StaveHouse$Walker", name := "goBracket", desc := "(II)V" } : Jvm.MethodName)) ∈ wAll := wA_4 (j := 237) rfl rfl
theorem ks_41 : (Jvm.Cond.selects "StaveHouse$Walker" ({ cls := "StaveHouse$Walker", name := "goBracket", desc := "(II)V" } : Jvm.MethodName) ({ cls := "StaveHouse$Walker", name := "goBracket", desc := "(II)V" } : Jvm.MethodName)) ∈ wAll := wA_s (j := 41) rfl rfl
theorem k_4_238 : (Jvm.Cond.code ({ cls := "StaveHouse$Walker", name := "goBracket", desc := "(II)V" } : Jvm.MethodName) prog_13_method_7_code (5 : Nat) (Option.none : Option Jvm.ClassFile.FieldType)) ∈ wAll := wA_4 (j := 238) rfl rfl
theorem k_4_239 : (Jvm.Cond.methodLink "StaveHouse$Walker" (123 : Nat) ({ cls := "StaveHouse$Walker", name := "goRepeat", desc := "(II)V" } : Jvm.MethodName)) ∈ wAll := wA_4 (j := 239) rfl rfl
theorem k_5_1 : (Jvm.Cond.instanceMethod ({ cls := "StaveHouse$Walker", name := "goRepeat", desc := "(II)V" } : Jvm.MethodName)) ∈ wAll := wA_5 (j := 1) rfl rfl
theorem ks_42 : (Jvm.Cond.selects "StaveHouse$Walker" ({ cls := "StaveHouse$Walker", name := "goRepeat", desc := "(II)V" } : Jvm.MethodName) ({ cls := "StaveHouse$Walker", name := "goRepeat", desc := "(II)V" } : Jvm.MethodName)) ∈ wAll := wA_s (j := 42) rfl rfl
theorem k_5_2 : (Jvm.Cond.code ({ cls := "StaveHouse$Walker", name := "goRepeat", desc := "(II)V" } : Jvm.MethodName) prog_13_method_8_code (6 : Nat) (Option.none : Option Jvm.ClassFile.FieldType)) ∈ wAll := wA_5 (j := 2) rfl rfl
theorem k_4_196 : (Jvm.Cond.methodLink "StaveHouse$Walker" (91 : Nat) ({ cls := "StaveHouse$Walker", name := "goThrough", desc := "(II)V" } : Jvm.MethodName)) ∈ wAll := wA_4 (j := 196) rfl rfl
theorem k_4_198 : (Jvm.Cond.instanceMethod ({ cls := "StaveHouse$Walker", name := "goThrough", desc := "(II)V" } : Jvm.MethodName)) ∈ wAll := wA_4 (j := 198) rfl rfl
theorem ks_34 : (Jvm.Cond.selects "StaveHouse$Walker" ({ cls := "StaveHouse$Walker", name := "goThrough", desc := "(II)V" } : Jvm.MethodName) ({ cls := "StaveHouse$Walker", name := "goThrough", desc := "(II)V" } : Jvm.MethodName)) ∈ wAll := wA_s (j := 34) rfl rfl
theorem k_4_199 : (Jvm.Cond.code ({ cls := "StaveHouse$Walker", name := "goThrough", desc := "(II)V" } : Jvm.MethodName) prog_13_method_4_code (5 : Nat) (Option.none : Option Jvm.ClassFile.FieldType)) ∈ wAll := wA_4 (j := 199) rfl rfl
theorem k_5_3 : (Jvm.Cond.methodLink "StaveHouse$Walker" (126 : Nat) ({ cls := "StaveHouse$Walker", name := "goCarried", desc := "(III)V" } : Jvm.MethodName)) ∈ wAll := wA_5 (j := 3) rfl rfl
theorem k_5_5 : (Jvm.Cond.instanceMethod ({ cls := "StaveHouse$Walker", name := "goCarried", desc := "(III)V" } : Jvm.MethodName)) ∈ wAll := wA_5 (j := 5) rfl rfl
theorem ks_43 : (Jvm.Cond.selects "StaveHouse$Walker" ({ cls := "StaveHouse$Walker", name := "goCarried", desc := "(III)V" } : Jvm.MethodName) ({ cls := "StaveHouse$Walker", name := "goCarried", desc := "(III)V" } : Jvm.MethodName)) ∈ wAll := wA_s (j := 43) rfl rfl
theorem k_5_6 : (Jvm.Cond.code ({ cls := "StaveHouse$Walker", name := "goCarried", desc := "(III)V" } : Jvm.MethodName) prog_13_method_9_code (4 : Nat) (Option.none : Option Jvm.ClassFile.FieldType)) ∈ wAll := wA_5 (j := 6) rfl rfl
theorem k_5_7 : (Jvm.Cond.methodLink "StaveHouse$Walker" (130 : Nat) ({ cls := "StaveHouse$Walker", name := "goBack", desc := "(II)V" } : Jvm.MethodName)) ∈ wAll := wA_5 (j := 7) rfl rfl
theorem k_5_9 : (Jvm.Cond.instanceMethod ({ cls := "StaveHouse$Walker", name := "goBack", desc := "(II)V" } : Jvm.MethodName)) ∈ wAll := wA_5 (j := 9) rfl rfl
theorem ks_44 : (Jvm.Cond.selects "StaveHouse$Walker" ({ cls := "StaveHouse$Walker", name := "goBack", desc := "(II)V" } : Jvm.MethodName) ({ cls := "StaveHouse$Walker", name := "goBack", desc := "(II)V" } : Jvm.MethodName)) ∈ wAll := wA_s (j := 44) rfl rfl
theorem k_5_10 : (Jvm.Cond.code ({ cls := "StaveHouse$Walker", name := "goBack", desc := "(II)V" } : Jvm.MethodName) prog_13_method_10_code (4 : Nat) (Option.none : Option Jvm.ClassFile.FieldType)) ∈ wAll := wA_5 (j := 10) rfl rfl
theorem k_5_19 : (Jvm.Cond.methodLink "StaveHouse$Walker" (133 : Nat) ({ cls := "StaveHouse$Walker", name := "multiplySlow", desc := "(II)V" } : Jvm.MethodName)) ∈ wAll := wA_5 (j := 19) rfl rfl
theorem k_5_21 : (Jvm.Cond.instanceMethod ({ cls := "StaveHouse$Walker", name := "multiplySlow", desc := "(II)V" } : Jvm.MethodName)) ∈ wAll := wA_5 (j := 21) rfl rfl
theorem ks_45 : (Jvm.Cond.selects "StaveHouse$Walker" ({ cls := "StaveHouse$Walker", name := "multiplySlow", desc := "(II)V" } : Jvm.MethodName) ({ cls := "StaveHouse$Walker", name := "multiplySlow", desc := "(II)V" } : Jvm.MethodName)) ∈ wAll := wA_s (j := 45) rfl rfl
theorem k_5_22 : (Jvm.Cond.code ({ cls := "StaveHouse$Walker", name := "multiplySlow", desc := "(II)V" } : Jvm.MethodName) prog_13_method_11_code (6 : Nat) (Option.none : Option Jvm.ClassFile.FieldType)) ∈ wAll := wA_5 (j := 22) rfl rfl
theorem k_5_11 : (Jvm.Cond.methodLink "StaveHouse$Walker" (142 : Nat) ({ cls := "StaveHouse$Part", name := "turn", desc := "(I)V" } : Jvm.MethodName)) ∈ wAll := wA_5 (j := 11) rfl rfl
theorem k_5_12 : (Jvm.Cond.instanceMethod ({ cls := "StaveHouse$Part", name := "turn", desc := "(I)V" } : Jvm.MethodName)) ∈ wAll := wA_5 (j := 12) rfl rfl
theorem k_5_13 : (Jvm.Cond.selects "StaveHouse$Part" ({ cls := "StaveHouse$Part", name := "turn", desc := "(I)V" } : Jvm.MethodName) ({ cls := "StaveHouse$Part", name := "turn", desc := "(I)V" } : Jvm.MethodName)) ∈ wAll := wA_5 (j := 13) rfl rfl
theorem k_5_14 : (Jvm.Cond.code ({ cls := "StaveHouse$Part", name := "turn", desc := "(I)V" } : Jvm.MethodName) prog_6_method_3_code (6 : Nat) (Option.none : Option Jvm.ClassFile.FieldType)) ∈ wAll := wA_5 (j := 14) rfl rfl
theorem W_prog_5_method_9_code_0 : chW prog_5_method_9_code 0 [42, 16, 10, 182, 0, 166, 60, 42, 180, 0, 48, 182, 0, 122, 42, 182, 0, 170, 154, 0, 9, 42, 5, 182, 0, 101, 172, 42, 180, 0, 48, 180, 0, 173, 65, 42] := chW_of (by decide +kernel)
theorem W_prog_5_method_19_code_0 : chW prog_5_method_19_code 0 [42, 16, 123, 182, 0, 235, 153, 0, 24, 42, 27, 182, 0, 238, 153, 0, 16, 42, 16, 125, 182, 0, 241, 153, 0, 7, 4, 167, 0, 4, 3, 172] := chW_of (by decide +kernel)
theorem W_prog_5_method_20_code_0 : chW prog_5_method_20_code 0 [2, 61, 3, 62, 29, 17, 11, 184, 162, 0, 69, 42, 182, 0, 244, 54, 4, 21, 4, 2, 160, 0, 5, 4, 172, 42, 21, 4, 182, 0, 166, 54, 5, 28, 2, 160] := chW_of (by decide +kernel)
theorem W_prog_5_method_20_code_64 : chW prog_5_method_20_code 64 [0, 247, 154, 0, 5, 3, 172, 132, 3, 1, 167, 255, 186, 4, 172] := chW_of (by decide +kernel)
theorem W_prog_5_method_22_code_0 : chW prog_5_method_22_code 0 [42, 180, 0, 9, 27, 46, 154, 0, 9, 42, 27, 182, 0, 252, 172, 42, 180, 0, 9, 27, 46, 6, 160, 0, 9, 42, 27, 182, 0, 255, 172, 42, 180, 0, 48, 182] := chW_of (by decide +kernel)
theorem W_prog_5_method_22_code_32 : chW prog_5_method_22_code 32 [180, 0, 48, 182, 0, 122, 42, 180, 0, 9, 27, 46, 170, 0, 0, 0, 0, 0, 0, 109, 0, 0, 0, 2, 0, 0, 0, 9, 0, 0, 0, 48, 0, 0, 0, 109] := chW_of (by decide +kernel)
theorem d_5_22_44 : decode prog_5_method_22_code 44 = .ok (.tableswitch 109 2 9 #[48, 109, 54, 60, 66, 72, 78, 84], 48) := by decide +kernel
theorem W_prog_5_method_22_code_64 : chW prog_5_method_22_code 64 [0, 0, 0, 109, 0, 0, 0, 54, 0, 0, 0, 60, 0, 0, 0, 66, 0, 0, 0, 72, 0, 0, 0, 78, 0, 0, 0, 84, 42, 27, 182, 1, 2, 172, 42, 27] := chW_of (by decide +kernel)
theorem W_prog_5_method_30_code_0 : chW prog_5_method_30_code 0 [42, 16, 91, 182, 0, 235, 153, 0, 44, 42, 27, 5, 16, 9, 182, 1, 17, 153, 0, 33, 42, 16, 58, 182, 0, 146, 153, 0, 24, 42, 27, 182, 0, 238, 153, 0] := chW_of (by decide +kernel)
theorem W_prog_5_method_31_code_0 : chW prog_5_method_31_code 0 [42, 5, 7, 3, 182, 0, 131, 154, 0, 5, 3, 172, 42, 180, 0, 18, 27, 42, 180, 0, 135, 79, 42, 27, 182, 0, 184, 154, 0, 5, 3, 172, 42, 180, 0, 48] := chW_of (by decide +kernel)
theorem W_prog_5_method_32_code_0 : chW prog_5_method_32_code 0 [42, 180, 0, 48, 182, 0, 122, 2, 61, 3, 62, 29, 17, 11, 184, 162, 0, 72, 28, 2, 159, 0, 15, 42, 180, 0, 48, 16, 123, 182, 0, 153, 153, 0, 55, 42] := chW_of (by decide +kernel)
theorem W_prog_5_method_32_code_32 : chW prog_5_method_32_code 32 [153, 0, 55, 42, 16, 10, 182, 0, 166, 54, 4, 28, 2, 160, 0, 14, 42, 180, 0, 21, 27, 21, 4, 79, 167, 0, 11, 42, 180, 0, 27, 28, 21, 4, 79, 21] := chW_of (by decide +kernel)
theorem W_prog_5_method_32_code_64 : chW prog_5_method_32_code 64 [21, 4, 79, 21, 4, 61, 42, 21, 4, 182, 0, 184, 154, 0, 5, 3, 172, 132, 3, 1, 167, 255, 183, 4, 172] := chW_of (by decide +kernel)
theorem W_prog_5_method_34_code_0 : chW prog_5_method_34_code 0 [42, 180, 0, 48, 180, 0, 108, 5, 159, 0, 9, 42, 5, 182, 0, 101, 172, 42, 180, 0, 48, 180, 1, 34, 61, 28, 184, 1, 59, 42, 180, 0, 48, 180, 1, 37] := chW_of (by decide +kernel)
theorem W_prog_5_method_35_code_0 : chW prog_5_method_35_code 0 [42, 180, 0, 48, 180, 0, 108, 5, 159, 0, 9, 42, 5, 182, 0, 101, 172, 42, 180, 0, 18, 27, 5, 42, 180, 0, 48, 180, 1, 34, 104, 79, 42, 180, 0, 21] := chW_of (by decide +kernel)
theorem W_prog_5_method_35_code_32 : chW prog_5_method_35_code 32 [42, 180, 0, 21, 27, 5, 42, 180, 0, 48, 180, 1, 34, 184, 1, 59, 42, 180, 0, 48, 180, 1, 37, 96, 104, 79, 42, 180, 0, 48, 182, 0, 122, 42, 27, 182] := chW_of (by decide +kernel)
theorem W_prog_13_method_4_code_0 : chW prog_13_method_4_code 0 [27, 62, 3, 54, 4, 21, 4, 17, 11, 184, 162, 0, 63, 29, 2, 159, 0, 58, 42, 180, 0, 32, 154, 0, 51, 28, 16, 64, 162, 0, 45, 42, 42, 180, 0, 24] := chW_of (by decide +kernel)
theorem W_prog_13_method_4_code_32 : chW prog_13_method_4_code 32 [42, 180, 0, 24, 180, 0, 95, 29, 46, 182, 0, 98, 42, 180, 0, 32, 154, 0, 9, 42, 29, 28, 182, 0, 102, 42, 180, 0, 24, 180, 0, 105, 29, 46, 62, 132] := chW_of (by decide +kernel)
theorem W_prog_13_method_6_code_0 : chW prog_13_method_6_code 0 [42, 180, 0, 24, 180, 0, 81, 27, 46, 62, 42, 180, 0, 24, 180, 0, 111, 27, 46, 170, 0, 0, 1, 10, 0, 0, 0, 0, 0, 0, 0, 9, 0, 0, 0, 53] := chW_of (by decide +kernel)
theorem d_13_6_19 : decode prog_13_method_6_code 19 = .ok (.tableswitch 266 0 9 #[53, 61, 109, 125, 134, 143, 170, 180, 190, 199], 53) := by decide +kernel
theorem W_prog_13_method_6_code_64 : chW prog_13_method_6_code 64 [0, 0, 0, 190, 0, 0, 0, 199, 42, 27, 182, 0, 114, 167, 0, 208, 42, 180, 0, 42, 154, 0, 201, 42, 180, 0, 70, 9, 148, 158, 0, 192, 42, 180, 0, 60] := chW_of (by decide +kernel)
theorem W_prog_13_method_7_code_0 : chW prog_13_method_7_code 0 [42, 180, 0, 54, 62, 42, 180, 0, 57, 54, 4, 42, 180, 0, 45, 154, 0, 26, 42, 89, 180, 0, 48, 4, 96, 181, 0, 48, 42, 42, 180, 0, 24, 180, 0, 95] := chW_of (by decide +kernel)
theorem W_prog_13_method_7_code_32 : chW prog_13_method_7_code 32 [24, 180, 0, 95, 27, 46, 181, 0, 51, 42, 89, 180, 0, 45, 4, 96, 181, 0, 45, 42, 180, 0, 45, 5, 163, 0, 39, 42, 89, 180, 0, 54, 42, 180, 0, 24] := chW_of (by decide +kernel)
theorem W_prog_13_method_7_code_64 : chW prog_13_method_7_code 64 [42, 180, 0, 24, 180, 0, 117, 27, 46, 104, 181, 0, 54, 42, 89, 180, 0, 57, 42, 180, 0, 24, 180, 0, 136, 27, 46, 104, 181, 0, 57, 42, 42, 180, 0, 24] := chW_of (by decide +kernel)
theorem W_prog_13_method_7_code_96 : chW prog_13_method_7_code 96 [42, 180, 0, 24, 180, 0, 81, 27, 46, 28, 4, 96, 182, 0, 91, 42, 89, 180, 0, 45, 4, 100, 181, 0, 45, 42, 29, 181, 0, 54, 42, 21, 4, 181, 0, 57] := chW_of (by decide +kernel)
theorem W_prog_13_method_8_code_0 : chW prog_13_method_8_code 0 [42, 180, 0, 24, 180, 0, 136, 27, 46, 62, 3, 54, 4, 21, 4, 42, 180, 0, 24, 180, 0, 117, 27, 46, 162, 0, 103, 42, 180, 0, 32, 154, 0, 96, 42, 42] := chW_of (by decide +kernel)
theorem W_prog_13_method_8_code_32 : chW prog_13_method_8_code 32 [0, 96, 42, 42, 180, 0, 24, 180, 0, 95, 27, 46, 182, 0, 98, 42, 42, 180, 0, 24, 180, 0, 81, 27, 46, 28, 4, 96, 182, 0, 91, 29, 2, 159, 0, 56] := chW_of (by decide +kernel)
theorem W_prog_13_method_9_code_0 : chW prog_13_method_9_code 0 [42, 180, 0, 78, 16, 64, 161, 0, 4, 177, 42, 180, 0, 15, 42, 180, 0, 78, 27, 79, 42, 180, 0, 18, 42, 180, 0, 78, 42, 180, 0, 24, 180, 0, 117, 28] := chW_of (by decide +kernel)
theorem W_prog_13_method_9_code_32 : chW prog_13_method_9_code 32 [180, 0, 117, 28, 46, 79, 42, 180, 0, 21, 42, 180, 0, 78, 42, 180, 0, 24, 180, 0, 136, 28, 46, 79, 42, 89, 180, 0, 78, 4, 96, 181, 0, 78, 42, 42] := chW_of (by decide +kernel)
theorem W_prog_13_method_9_code_64 : chW prog_13_method_9_code 64 [0, 78, 42, 42, 180, 0, 24, 180, 0, 81, 28, 46, 29, 4, 96, 182, 0, 91, 42, 89, 180, 0, 78, 4, 100, 181, 0, 78, 177] := chW_of (by decide +kernel)
theorem W_prog_13_method_10_code_0 : chW prog_13_method_10_code 0 [42, 180, 0, 28, 180, 0, 139, 62, 42, 89, 180, 0, 42, 4, 96, 181, 0, 42, 42, 27, 28, 4, 96, 182, 0, 91, 42, 89, 180, 0, 42, 4, 100, 181, 0, 42] := chW_of (by decide +kernel)
theorem W_prog_1_method_27_code_0 : chW prog_1_method_27_code 0 [27, 7, 159, 0, 21, 27, 16, 8, 159, 0, 15, 27, 16, 16, 159, 0, 9, 27, 16, 32, 160, 0, 7, 4, 167, 0, 4, 3, 61, 42, 180, 1, 26, 198, 0, 17] := chW_of (by decide +kernel)
theorem W_prog_1_method_27_code_32 : chW prog_1_method_27_code 32 [26, 198, 0, 17, 42, 180, 1, 26, 180, 1, 29, 153, 0, 7, 28, 154, 0, 5, 2, 172, 42, 180, 0, 48, 42, 180, 1, 26, 27, 42, 180, 0, 22, 182, 1, 37] := chW_of (by decide +kernel)
theorem W_prog_1_method_27_code_64 : chW prog_1_method_27_code 64 [22, 182, 1, 37, 172] := chW_of (by decide +kernel)
theorem W_prog_9_method_2_code_0 : chW prog_9_method_2_code 0 [42, 43, 181, 0, 22, 42, 45, 181, 0, 26, 42, 28, 4, 184, 0, 30, 181, 0, 36, 42, 17, 2, 0, 43, 180, 0, 40, 8, 46, 4, 184, 0, 30, 108, 43, 180] := chW_of (by decide +kernel)
theorem W_prog_9_method_2_code_32 : chW prog_9_method_2_code 32 [30, 108, 43, 180, 0, 40, 7, 46, 104, 181, 0, 46, 42, 180, 0, 26, 182, 0, 49, 42, 182, 0, 54, 17, 2, 0, 42, 180, 0, 36, 108, 133, 105, 55, 4, 22] := chW_of (by decide +kernel)
theorem W_prog_5_method_20_code_32 : chW prog_5_method_20_code 32 [5, 28, 2, 160, 0, 14, 42, 180, 0, 24, 27, 21, 5, 79, 167, 0, 11, 42, 180, 0, 27, 28, 21, 5, 79, 21, 5, 61, 42, 21, 5, 182, 0, 247, 154, 0] := chW_of (by decide +kernel)
theorem W_prog_5_method_22_code_96 : chW prog_5_method_22_code 96 [2, 172, 42, 27, 182, 1, 5, 172, 42, 27, 182, 1, 8, 172, 42, 27, 182, 1, 11, 172, 42, 27, 182, 1, 14, 172, 42, 27, 182, 0, 184, 172, 42, 27, 4, 16] := chW_of (by decide +kernel)
theorem W_prog_5_method_22_code_128 : chW prog_5_method_22_code 128 [42, 27, 4, 16, 8, 182, 1, 17, 153, 0, 15, 42, 27, 182, 0, 184, 153, 0, 7, 4, 167, 0, 4, 3, 172, 4, 172] := chW_of (by decide +kernel)
theorem W_prog_5_method_35_code_64 : chW prog_5_method_35_code 64 [122, 42, 27, 182, 0, 184, 172] := chW_of (by decide +kernel)
theorem W_prog_5_method_9_code_32 : chW prog_5_method_9_code 32 [0, 173, 65, 42, 32, 182, 0, 177, 2, 159, 0, 9, 42, 7, 182, 0, 101, 172, 42, 180, 0, 48, 182, 0, 122, 42, 16, 32, 181, 0, 181, 42, 16, 61, 182, 0] := chW_of (by decide +kernel)
theorem W_prog_5_method_9_code_64 : chW prog_5_method_9_code 64 [16, 61, 182, 0, 146, 153, 0, 11, 42, 27, 182, 0, 184, 154, 0, 5, 3, 172, 42, 180, 0, 52, 42, 180, 0, 66, 32, 80, 42, 180, 0, 56, 42, 180, 0, 66] := chW_of (by decide +kernel)
theorem W_prog_5_method_34_code_32 : chW prog_5_method_34_code 32 [48, 180, 1, 37, 96, 62, 42, 180, 0, 48, 182, 0, 122, 42, 180, 0, 48, 180, 0, 108, 5, 159, 0, 9, 42, 5, 182, 0, 101, 172, 42, 180, 0, 18, 27, 42] := chW_of (by decide +kernel)
theorem W_prog_5_method_34_code_64 : chW prog_5_method_34_code 64 [0, 18, 27, 42, 180, 0, 48, 180, 1, 34, 28, 100, 79, 42, 180, 0, 21, 27, 42, 180, 0, 48, 180, 1, 34, 184, 1, 59, 42, 180, 0, 48, 180, 1, 37, 96] := chW_of (by decide +kernel)
theorem W_prog_5_method_34_code_96 : chW prog_5_method_34_code 96 [180, 1, 37, 96, 29, 100, 79, 42, 180, 0, 48, 182, 0, 122, 42, 27, 182, 0, 184, 172] := chW_of (by decide +kernel)
theorem W_prog_13_method_6_code_96 : chW prog_13_method_6_code 96 [42, 180, 0, 60, 42, 180, 0, 70, 113, 9, 148, 153, 0, 178, 42, 16, 7, 42, 180, 0, 24, 180, 0, 95, 27, 46, 182, 0, 108, 167, 0, 160, 42, 42, 180, 0] := chW_of (by decide +kernel)
theorem W_prog_13_method_6_code_128 : chW prog_13_method_6_code 128 [42, 42, 180, 0, 24, 180, 0, 117, 27, 46, 181, 0, 39, 167, 0, 144, 42, 27, 28, 182, 0, 120, 167, 0, 135, 42, 27, 28, 182, 0, 123, 167, 0, 126, 42, 42] := chW_of (by decide +kernel)
theorem W_prog_9_method_2_code_64 : chW prog_9_method_2_code 64 [105, 55, 4, 22, 4, 20, 0, 58, 42, 180, 0, 46, 133, 105, 148, 158, 0, 6, 16, 254, 172, 42, 182, 0, 60, 3, 54, 6, 3, 54, 7, 21, 7, 43, 180, 0] := chW_of (by decide +kernel)
theorem W_prog_9_method_2_code_96 : chW prog_9_method_2_code 96 [7, 43, 180, 0, 63, 162, 0, 34, 21, 6, 7, 162, 0, 28, 42, 21, 7, 21, 6, 22, 4, 136, 182, 0, 66, 132, 6, 1, 42, 21, 7, 182, 0, 70, 54, 7] := chW_of (by decide +kernel)
theorem d_9_2_121 : decode prog_9_method_2_code 121 = .ok (.iinc 6 1, 3) := D_132 W_prog_9_method_2_code_96 25 rfl rfl rfl
theorem W_prog_9_method_2_code_128 : chW prog_9_method_2_code 128 [0, 70, 54, 7, 167, 255, 219, 42, 180, 0, 26, 180, 0, 74, 154, 0, 16, 42, 180, 0, 26, 180, 0, 78, 17, 11, 184, 164, 0, 13, 42, 180, 0, 26, 182, 0] := chW_of (by decide +kernel)
theorem W_prog_9_method_2_code_160 : chW prog_9_method_2_code 160 [0, 26, 182, 0, 49, 16, 254, 172, 42, 180, 0, 26, 180, 0, 78, 172] := chW_of (by decide +kernel)
theorem d_5_20_71 : decode prog_5_method_20_code 71 = .ok (.iinc 3 1, 3) := D_132 W_prog_5_method_20_code_64 7 rfl rfl rfl
theorem W_prog_5_method_30_code_32 : chW prog_5_method_30_code 32 [0, 238, 153, 0, 16, 42, 16, 93, 182, 0, 241, 153, 0, 7, 4, 167, 0, 4, 3, 172] := chW_of (by decide +kernel)
theorem W_prog_5_method_31_code_32 : chW prog_5_method_31_code 32 [42, 180, 0, 48, 20, 1, 54, 182, 0, 88, 153, 0, 11, 42, 27, 182, 1, 56, 153, 0, 7, 4, 167, 0, 4, 3, 172] := chW_of (by decide +kernel)
theorem d_5_32_81 : decode prog_5_method_32_code 81 = .ok (.iinc 3 1, 3) := D_132 W_prog_5_method_32_code_64 17 rfl rfl rfl
theorem W_prog_5_method_9_code_96 : chW prog_5_method_9_code 96 [42, 180, 0, 66, 27, 79, 42, 89, 180, 0, 66, 4, 96, 181, 0, 66, 4, 172] := chW_of (by decide +kernel)
theorem W_prog_13_method_4_code_64 : chW prog_13_method_4_code 64 [29, 46, 62, 132, 4, 1, 167, 255, 191, 177] := chW_of (by decide +kernel)
theorem d_13_4_67 : decode prog_13_method_4_code 67 = .ok (.iinc 4 1, 3) := D_132 W_prog_13_method_4_code_64 3 rfl rfl rfl
theorem W_prog_13_method_6_code_160 : chW prog_13_method_6_code 160 [0, 126, 42, 42, 180, 0, 24, 180, 0, 81, 42, 180, 0, 24, 180, 0, 117, 27, 46, 46, 28, 4, 96, 182, 0, 91, 167, 0, 99, 42, 4, 27, 28, 182, 0, 126] := chW_of (by decide +kernel)
theorem W_prog_13_method_6_code_192 : chW prog_13_method_6_code 192 [28, 182, 0, 126, 167, 0, 89, 42, 2, 27, 28, 182, 0, 126, 167, 0, 79, 42, 29, 28, 182, 0, 130, 167, 0, 70, 42, 42, 180, 0, 24, 180, 0, 117, 27, 46] := chW_of (by decide +kernel)
theorem W_prog_13_method_6_code_224 : chW prog_13_method_6_code 224 [0, 117, 27, 46, 4, 182, 0, 133, 42, 42, 180, 0, 24, 180, 0, 136, 27, 46, 2, 182, 0, 133, 42, 29, 28, 4, 96, 182, 0, 91, 42, 42, 180, 0, 24, 180] := chW_of (by decide +kernel)
theorem W_prog_13_method_6_code_256 : chW prog_13_method_6_code 256 [180, 0, 24, 180, 0, 117, 27, 46, 2, 182, 0, 133, 42, 42, 180, 0, 24, 180, 0, 136, 27, 46, 4, 182, 0, 133, 167, 0, 3, 177] := chW_of (by decide +kernel)
theorem W_prog_13_method_7_code_128 : chW prog_13_method_7_code 128 [4, 181, 0, 57, 177] := chW_of (by decide +kernel)
theorem W_prog_13_method_8_code_64 : chW prog_13_method_8_code 64 [2, 159, 0, 56, 42, 42, 180, 0, 24, 180, 0, 95, 27, 46, 182, 0, 98, 42, 42, 180, 0, 24, 180, 0, 81, 29, 46, 28, 4, 96, 182, 0, 91, 42, 180, 0] := chW_of (by decide +kernel)
theorem W_prog_13_method_8_code_96 : chW prog_13_method_8_code 96 [91, 42, 180, 0, 24, 180, 0, 105, 29, 46, 54, 5, 21, 5, 2, 160, 0, 7, 29, 167, 0, 5, 21, 5, 62, 132, 4, 1, 167, 255, 145, 177] := chW_of (by decide +kernel)
theorem d_13_8_121 : decode prog_13_method_8_code 121 = .ok (.iinc 4 1, 3) := D_132 W_prog_13_method_8_code_96 25 rfl rfl rfl
theorem W_prog_13_method_10_code_32 : chW prog_13_method_10_code 32 [100, 181, 0, 42, 42, 180, 0, 28, 29, 182, 0, 142, 177] := chW_of (by decide +kernel)
abbrev Q_Scribe_writeDown (K : zK) (D : va_G) (ca : Nat → ClassId) (ad : Nat → Int → Nat → Nat) (L : List Nat) (r : Int) (F : zF) (B : zB) (A : Nat → Prop) : Array Value → State → Outcome → State → Prop := va_Qi (S := Unit) (fun p _ => p = iI r) (fun _ => zPo D ca ad lnC K.2 L F B A) A
def f_Scribe_writeDown_158 (K : zK) (l0 : Int) (F : zF) (B : zB) : zO := if 0 ≤ l0 ∧ l0 < K.2 7 then if 0 ≤ (F 7 l0 1) ∧ (F 7 l0 1) < K.2 0 then zbind (f_ByteRow_clear K (F 7 l0 1) F B) (fun r40 F40 B40 => some ((-2), F40, B40)) else none else none
set_option maxHeartbeats 4000000 in
set_option maxRecDepth 100000 in
theorem b_Scribe_writeDown_158 {D : va_G} {ca : Nat → ClassId} {ad : Nat → Int → Nat → Nat} {L : List Nat} {aS vS : Nat → Nat} {A : Nat → Prop} {p : Program} {l : Launch} {e : Env} {s : State} {m : MethodId} {args : Array Value} {below : List Frame} {meth : Method} {c : Code} {K : zK} {r : Int} {F9 : zF} {B9 : zB} (X : zX D ca L aS vS A p s m args meth c prog_9_method_2_code 8 (Option.some Jvm.ClassFile.FieldType.int) "StaveHouse$Scribe") {l0 : Int} {F : zF} {B : zB} {H : Heap} {locs : List Loc} {ls : Array Slot} (hf : f_Scribe_writeDown_158 K l0 F B = some (r, F9, B9)) (hZ : zH D ca ad lnC K.2 L F B A H) (hS : va_S A s.heap H locs) (hl : lv_has ls 8 [(0, .ref (ad 7 l0 0))]) : W p l e ({ frames := 9, cells := 0, slots := 0, locals := 209 } : Room) s m args below meth c H locs 0 0 (MQ below (Q_Scribe_writeDown K D ca ad L r F9 B9 A) args s 0 0 A) (F0 m 158 ls []) := by
  obtain ⟨hx, hb, hr, hml, hown, hts, hlk, hK, hA, hL, hX⟩ := id X
  replace hf : (if 0 ≤ l0 ∧ l0 < K.2 7 then if 0 ≤ (F 7 l0 1) ∧ (F 7 l0 1) < K.2 0 then zbind (f_ByteRow_clear K (F 7 l0 1) F B) (fun r40 F40 B40 => some ((-2), F40, B40)) else none else none) = some (r, F9, B9) := hf
  refine lv_aload_n hx hb (D_42 W_prog_9_method_2_code_128 30 rfl rfl) rfl (lv_at hl 0 rfl) ?_
  obtain ⟨g38, hf⟩ := gif hf
  refine zget (ci := 7) (C := RX7) (T := TX7) (v := va_rf (zrf ad 0 (F 7 l0 1))) (k := 1) hx hb hts inW_7 hown hK hZ g38.1 g38.2 rfl (by decide) k_2_99 rfl (D_180 W_prog_9_method_2_code_128 31 rfl rfl rfl) ?_
  obtain ⟨g39, hf⟩ := gif hf
  refine W.eq (g2 := F0 m 162 ls [.ref (ad 0 (F 7 l0 1) 0)]) (by rw [zrf_pos (ad := ad) (t := 0) g39.1]; try rfl) ?_
  obtain ⟨r40, F40, B40, hc40, hf⟩ := gbind hf
  refine va_callv (va_runV (As := []) (rest := []) ⟨hx, hb, hml, hown, hts⟩ (c_ByteRow_clear (l := l) hc40) (cwV 0 hts (gdV k_8_143 k_5_167 k_5_168 k_1_2 k_5_169) rfl rfl rfl (by decide +kernel) ⟨Nat.le_of_ble_eq_true rfl, Nat.le_of_ble_eq_true rfl⟩) (zPV X hZ hS (ci := 0) g39.1 g39.2 (r := (RX0, TX0, 3)) rfl []) rfl rfl hl.1 rfl (lv_room (Nat.le_of_ble_eq_true rfl)) (D_182 W_prog_9_method_2_code_160 2 rfl rfl rfl) ⟨Nat.le_of_ble_eq_true rfl, Nat.le_of_ble_eq_true rfl⟩) hS (fun q _ h => zAin X hS q h) (zAin X hS) (fun u40 t40 H40 locs40 ht40 hv40 hw40 hB40 hz40 hk40 hS40 => ?_)
  have hZ40 := zBack X ht40 hB40
  refine lv_bipush (v := iI (-2)) hx hb (D_16 W_prog_9_method_2_code_160 5 rfl rfl rfl) (by decide) ?_
  cases hf
  exact W.iret hx hb hr (fun t ht hW => ⟨⟨_, (), rfl, rfl, by rw [ht]; exact hZ40, va_K.moved hW.alike hK⟩, hS40.F ht⟩) hS40.2.2 (D_172 W_prog_9_method_2_code_160 7 rfl rfl) hlk

def f_Scribe_writeDown_135 (K : zK) (l0 : Int) (F : zF) (B : zB) : zO := if 0 ≤ l0 ∧ l0 < K.2 7 then if 0 ≤ (F 7 l0 1) ∧ (F 7 l0 1) < K.2 0 then if r32 (F 0 (F 7 l0 1) 2) then (if (F 0 (F 7 l0 1) 2) = 0 then if r32 (F 0 (F 7 l0 1) 1) then (if (F 0 (F 7 l0 1) 1) ≤ 3000 then some (F 0 (F 7 l0 1) 1, F, B) else f_Scribe_writeDown_158 K l0 F B) else none else f_Scribe_writeDown_158 K l0 F B) else none else none else none
set_option maxHeartbeats 4000000 in
set_option maxRecDepth 100000 in
theorem b_Scribe_writeDown_135 {D : va_G} {ca : Nat → ClassId} {ad : Nat → Int → Nat → Nat} {L : List Nat} {aS vS : Nat → Nat} {A : Nat → Prop} {p : Program} {l : Launch} {e : Env} {s : State} {m : MethodId} {args : Array Value} {below : List Frame} {meth : Method} {c : Code} {K : zK} {r : Int} {F9 : zF} {B9 : zB} (X : zX D ca L aS vS A p s m args meth c prog_9_method_2_code 8 (Option.some Jvm.ClassFile.FieldType.int) "StaveHouse$Scribe") {l0 : Int} {F : zF} {B : zB} {H : Heap} {locs : List Loc} {ls : Array Slot} (hf : f_Scribe_writeDown_135 K l0 F B = some (r, F9, B9)) (hZ : zH D ca ad lnC K.2 L F B A H) (hS : va_S A s.heap H locs) (hl : lv_has ls 8 [(0, .ref (ad 7 l0 0))]) : W p l e ({ frames := 9, cells := 0, slots := 0, locals := 209 } : Room) s m args below meth c H locs 0 0 (MQ below (Q_Scribe_writeDown K D ca ad L r F9 B9 A) args s 0 0 A) (F0 m 135 ls []) := by
  obtain ⟨hx, hb, hr, hml, hown, hts, hlk, hK, hA, hL, hX⟩ := id X
  replace hf : (if 0 ≤ l0 ∧ l0 < K.2 7 then if 0 ≤ (F 7 l0 1) ∧ (F 7 l0 1) < K.2 0 then if r32 (F 0 (F 7 l0 1) 2) then (if (F 0 (F 7 l0 1) 2) = 0 then if r32 (F 0 (F 7 l0 1) 1) then (if (F 0 (F 7 l0 1) 1) ≤ 3000 then some (F 0 (F 7 l0 1) 1, F, B) else f_Scribe_writeDown_158 K l0 F B) else none else f_Scribe_writeDown_158 K l0 F B) else none else none else none) = some (r, F9, B9) := hf
  refine lv_aload_n hx hb (D_42 W_prog_9_method_2_code_128 7 rfl rfl) rfl (lv_at hl 0 rfl) ?_
  obtain ⟨g31, hf⟩ := gif hf
  refine zget (ci := 7) (C := RX7) (T := TX7) (v := va_rf (zrf ad 0 (F 7 l0 1))) (k := 1) hx hb hts inW_7 hown hK hZ g31.1 g31.2 rfl (by decide) k_2_99 rfl (D_180 W_prog_9_method_2_code_128 8 rfl rfl rfl) ?_
  obtain ⟨g33, hf⟩ := gif hf
  refine zunrf g33.1 ?_
  refine zget (ci := 0) (C := RX0) (T := TX0) (v := .int (iI (F 0 (F 7 l0 1) 2))) (k := 2) hx hb hts inW_0 hown hK hZ g33.1 g33.2 rfl (by decide) k_1_49 rfl (D_180 W_prog_9_method_2_code_128 11 rfl rfl rfl) ?_
  obtain ⟨g34, hf⟩ := gif hf
  refine z0ne (tgt := 158) hx hb g34 (D_154 W_prog_9_method_2_code_128 14 rfl rfl rfl) (by decide) (fun h35 => ?_) (fun h35 => ?_)
  · replace hf := gneg hf h35
    exact b_Scribe_writeDown_158 X hf hZ hS (lv_sub hl [0] rfl)
  · replace hf := gpos hf h35
    refine lv_aload_n hx hb (D_42 W_prog_9_method_2_code_128 17 rfl rfl) rfl (lv_at hl 0 rfl) ?_
    refine zget (ci := 7) (C := RX7) (T := TX7) (v := va_rf (zrf ad 0 (F 7 l0 1))) (k := 1) hx hb hts inW_7 hown hK hZ g31.1 g31.2 rfl (by decide) k_2_99 rfl (D_180 W_prog_9_method_2_code_128 18 rfl rfl rfl) ?_
    refine zunrf g33.1 ?_
    refine zget (ci := 0) (C := RX0) (T := TX0) (v := .int (iI (F 0 (F 7 l0 1) 1))) (k := 1) hx hb hts inW_0 hown hK hZ g33.1 g33.2 rfl (by decide) k_1_45 rfl (D_180 W_prog_9_method_2_code_128 21 rfl rfl rfl) ?_
    refine lv_sipush (v := iI 3000) hx hb (D_17 W_prog_9_method_2_code_128 24 rfl rfl rfl) (by decide) ?_
    obtain ⟨g36, hf⟩ := gif hf
    refine zle (tgt := 168) hx hb g36 (by decide) (D_164 W_prog_9_method_2_code_128 27 rfl rfl rfl) (by decide) (fun h37 => ?_) (fun h37 => ?_)
    · replace hf := gpos hf h37
      refine lv_aload_n hx hb (D_42 W_prog_9_method_2_code_160 8 rfl rfl) rfl (lv_at hl 0 rfl) ?_
      refine zget (ci := 7) (C := RX7) (T := TX7) (v := va_rf (zrf ad 0 (F 7 l0 1))) (k := 1) hx hb hts inW_7 hown hK hZ g31.1 g31.2 rfl (by decide) k_2_99 rfl (D_180 W_prog_9_method_2_code_160 9 rfl rfl rfl) ?_
      refine zunrf g33.1 ?_
      refine zget (ci := 0) (C := RX0) (T := TX0) (v := .int (iI (F 0 (F 7 l0 1) 1))) (k := 1) hx hb hts inW_0 hown hK hZ g33.1 g33.2 rfl (by decide) k_1_45 rfl (D_180 W_prog_9_method_2_code_160 12 rfl rfl rfl) ?_
      cases hf
      exact W.iret hx hb hr (fun t ht hW => ⟨⟨_, (), rfl, rfl, by rw [ht]; exact hZ, va_K.moved hW.alike hK⟩, hS.F ht⟩) hS.2.2 (D_172 W_prog_9_method_2_code_160 15 rfl rfl) hlk
    · replace hf := gneg hf h37
      exact b_Scribe_writeDown_158 X hf hZ hS (lv_sub hl [0] rfl)

def f_Scribe_writeDown_95 (K : zK) : Nat → Int → Int → Int → Int → Int → zF → zB → zO
  | 0, _, _, _, _, _, _, _ => none
  | n + 1, l7, l6, l4, l0, l1, F, B => if 0 ≤ l1 ∧ l1 < K.2 8 then if r32 l7 then if r32 (F 8 l1 2) then (if (F 8 l1 2) ≤ l7 then f_Scribe_writeDown_135 K l0 F B else if r32 l6 then (if 4 ≤ l6 then f_Scribe_writeDown_135 K l0 F B else if 0 ≤ l0 ∧ l0 < K.2 7 then zbind (f_Scribe_writeVoice K l0 l7 l6 l4 F B) (fun r29 F29 B29 => zbind (f_Scribe_trackEnd K l0 l7 F29 B29) (fun r30 F30 B30 => f_Scribe_writeDown_95 K n r30 (l6 + 1) l4 l0 l1 F30 B30)) else none) else none) else none else none else none
set_option maxHeartbeats 4000000 in
set_option maxRecDepth 100000 in
theorem b_Scribe_writeDown_95 {D : va_G} {ca : Nat → ClassId} {ad : Nat → Int → Nat → Nat} {L : List Nat} {aS vS : Nat → Nat} {A : Nat → Prop} {p : Program} {l : Launch} {e : Env} {s : State} {m : MethodId} {args : Array Value} {below : List Frame} {meth : Method} {c : Code} {K : zK} {r : Int} {F9 : zF} {B9 : zB} (X : zX D ca L aS vS A p s m args meth c prog_9_method_2_code 8 (Option.some Jvm.ClassFile.FieldType.int) "StaveHouse$Scribe") : ∀ {n : Nat} {l7 : Int} {l6 : Int} {l4 : Int} {l0 : Int} {l1 : Int} {F : zF} {B : zB} {H : Heap} {locs : List Loc} {ls : Array Slot}, f_Scribe_writeDown_95 K n l7 l6 l4 l0 l1 F B = some (r, F9, B9) → zH D ca ad lnC K.2 L F B A H → va_S A s.heap H locs → lv_has ls 8 [(7, .int (iI l7)), (6, .int (iI l6)), (4, .long (lI l4)), (0, .ref (ad 7 l0 0)), (1, .ref (ad 8 l1 0))] → W p l e ({ frames := 9, cells := 0, slots := 0, locals := 209 } : Room) s m args below meth c H locs 0 0 (MQ below (Q_Scribe_writeDown K D ca ad L r F9 B9 A) args s 0 0 A) (F0 m 95 ls []) := by
  obtain ⟨hx, hb, hr, hml, hown, hts, hlk, hK, hA, hL, hX⟩ := id X
  intro n
  induction n with
  | zero =>
    intros
    rename_i hf _ _ _
    cases hf
  | succ n ih =>
    intro l7 l6 l4 l0 l1 F B H locs ls hf hZ hS hl
    replace hf : (if 0 ≤ l1 ∧ l1 < K.2 8 then if r32 l7 then if r32 (F 8 l1 2) then (if (F 8 l1 2) ≤ l7 then f_Scribe_writeDown_135 K l0 F B else if r32 l6 then (if 4 ≤ l6 then f_Scribe_writeDown_135 K l0 F B else if 0 ≤ l0 ∧ l0 < K.2 7 then zbind (f_Scribe_writeVoice K l0 l7 l6 l4 F B) (fun r29 F29 B29 => zbind (f_Scribe_trackEnd K l0 l7 F29 B29) (fun r30 F30 B30 => f_Scribe_writeDown_95 K n r30 (l6 + 1) l4 l0 l1 F30 B30)) else none) else none) else none else none else none) = some (r, F9, B9) := hf
    refine lv_iload hx hb (D_21 W_prog_9_method_2_code_64 31 rfl rfl) (lv_at hl 0 rfl) ?_
    refine lv_aload_n hx hb (D_43 W_prog_9_method_2_code_96 1 rfl rfl) rfl (lv_at hl 4 rfl) ?_
    obtain ⟨g22, hf⟩ := gif hf
    refine zget (ci := 8) (C := RX8) (T := TX8) (v := .int (iI (F 8 l1 2))) (k := 2) hx hb hts inW_8 hown hK hZ g22.1 g22.2 rfl (by decide) k_7_224 rfl (D_180 W_prog_9_method_2_code_96 2 rfl rfl rfl) ?_
    obtain ⟨g23, hf⟩ := gif hf
    obtain ⟨g24, hf⟩ := gif hf
    refine zge (tgt := 135) hx hb g23 g24 (D_162 W_prog_9_method_2_code_96 5 rfl rfl rfl) (by decide) (fun h25 => ?_) (fun h25 => ?_)
    · replace hf := gpos hf h25
      exact b_Scribe_writeDown_135 X hf hZ hS (lv_sub hl [3] rfl)
    · replace hf := gneg hf h25
      refine lv_iload hx hb (D_21 W_prog_9_method_2_code_96 8 rfl rfl) (lv_at hl 1 rfl) ?_
      refine lv_iconst (v := iI 4) hx hb (D_7 W_prog_9_method_2_code_96 10 rfl rfl) rfl ?_
      obtain ⟨g26, hf⟩ := gif hf
      refine zge (tgt := 135) hx hb g26 (by decide) (D_162 W_prog_9_method_2_code_96 11 rfl rfl rfl) (by decide) (fun h27 => ?_) (fun h27 => ?_)
      · replace hf := gpos hf h27
        exact b_Scribe_writeDown_135 X hf hZ hS (lv_sub hl [3] rfl)
      · replace hf := gneg hf h27
        refine lv_aload_n hx hb (D_42 W_prog_9_method_2_code_96 14 rfl rfl) rfl (lv_at hl 3 rfl) ?_
        refine lv_iload hx hb (D_21 W_prog_9_method_2_code_96 15 rfl rfl) (lv_at hl 0 rfl) ?_
        refine lv_iload hx hb (D_21 W_prog_9_method_2_code_96 17 rfl rfl) (lv_at hl 1 rfl) ?_
        refine lv_lload hx hb (D_22 W_prog_9_method_2_code_96 19 rfl rfl) (lv_at hl 2 rfl) ?_
        refine zl2iw hx hb (D_136 W_prog_9_method_2_code_96 21 rfl rfl) ?_
        obtain ⟨g28, hf⟩ := gif hf
        obtain ⟨r29, F29, B29, hc29, hf⟩ := gbind hf
        refine va_callv (va_runV (As := [.int (iI l7), .int (iI l6), .int (iI l4)]) (rest := []) ⟨hx, hb, hml, hown, hts⟩ (c_Scribe_writeVoice (l := l) hc29) (cwV 3 hts (gdV k_8_182 k_8_184 ks_116 k_1_7 k_8_185) rfl rfl rfl (by decide +kernel) ⟨Nat.le_of_ble_eq_true rfl, Nat.le_of_ble_eq_true rfl⟩) (zPV X hZ hS (ci := 7) g28.1 g28.2 (r := (RX7, TX7, 9)) rfl [.int (iI l7), .int (iI l6), .int (iI l4)]) rfl rfl hl.1 rfl (lv_room (Nat.le_of_ble_eq_true rfl)) (D_182 W_prog_9_method_2_code_96 22 rfl rfl rfl) ⟨Nat.le_of_ble_eq_true rfl, Nat.le_of_ble_eq_true rfl⟩) hS (fun q _ h => zAin X hS q h) (zAin X hS) (fun u29 t29 H29 locs29 ht29 hv29 hw29 hB29 hz29 hk29 hS29 => ?_)
        have hZ29 := zBack X ht29 hB29
        refine lv_iinc (v := iI (l6 + 1)) (lv' := [(6, .int (iI (l6 + 1))), (7, .int (iI l7)), (4, .long (lI l4)), (0, .ref (ad 7 l0 0)), (1, .ref (ad 8 l1 0))]) hx hb d_9_2_121 hl (k := 1) rfl (iI_add _ 1) (by decide) rfl (fun ls hl => ?_)
        refine lv_aload_n hx hb (D_42 W_prog_9_method_2_code_96 28 rfl rfl) rfl (lv_at hl 3 rfl) ?_
        refine lv_iload hx hb (D_21 W_prog_9_method_2_code_96 29 rfl rfl) (lv_at hl 1 rfl) ?_
        obtain ⟨r30, F30, B30, hc30, hf⟩ := gbind hf
        refine va_calli (va_runV (As := [.int (iI l7)]) (rest := []) ⟨hx, hb, hml, hown, hts⟩ (c_Scribe_trackEnd (l := l) hc30) (cwV 1 hts (gdV k_8_148 k_8_150 ks_112 k_1_7 k_8_151) rfl rfl rfl (by decide +kernel) ⟨Nat.le_of_ble_eq_true rfl, Nat.le_of_ble_eq_true rfl⟩) (zPV X hZ29 hS29 (ci := 7) g28.1 g28.2 (r := (RX7, TX7, 9)) rfl [.int (iI l7)]) rfl rfl hl.1 rfl (lv_room (Nat.le_of_ble_eq_true rfl)) (D_182 W_prog_9_method_2_code_96 31 rfl rfl rfl) ⟨Nat.le_of_ble_eq_true rfl, Nat.le_of_ble_eq_true rfl⟩) hS29 (fun q _ h => zAin X hS29 q h) (zAin X hS29) (fun p30 u30 t30 H30 locs30 ht30 hv30 hw30 hB30 hz30 hk30 hS30 => ?_)
        have hZ30 := zBack X ht30 hB30
        subst hw30
        refine lv_istore (lv' := [(7, .int (iI r30)), (6, .int (iI (l6 + 1))), (4, .long (lI l4)), (0, .ref (ad 7 l0 0)), (1, .ref (ad 8 l1 0))]) hx hb (D_54 W_prog_9_method_2_code_128 2 rfl rfl) hl (by decide) rfl (fun ls hl => ?_)
        refine lv_goto (tgt := 95) hx hb (D_167 W_prog_9_method_2_code_128 4 rfl rfl rfl) (by decide) ?_
        exact ih hf hZ30 hS30 (lv_sub hl [0, 1, 2, 3, 4] rfl)

def f_Scribe_writeDown (K : zK) (l0 : Int) (l1 : Int) (l2 : Int) (l3 : Int) (F : zF) (B : zB) : zO := if 0 ≤ l0 ∧ l0 < K.2 7 then if 0 ≤ l1 ∧ l1 < K.2 8 then if l1 < K.2 8 then if 0 ≤ l3 ∧ l3 < K.2 0 then if l3 < K.2 0 then if r32 l2 then if r32 (B 8 l1 0 5) then if ¬ iI (zmax (B 8 l1 0 5) 1) = 0 then zbind (f_ByteRow_clear K l3 (zup3 (zup3 (zup3 (zup3 F 7 l0 0 l1) 7 l0 1 l3) 7 l0 2 (zmax l2 1)) 7 l0 3 ((zdv 512 (zmax (B 8 l1 0 5) 1)) * (B 8 l1 0 4))) B) (fun r13 F13 B13 => zbind (f_Scribe_lastPlace K l0 F13 B13) (fun r14 F14 B14 => if ¬ iI (F14 7 l0 2) = 0 then if r32 (zdv 512 (F14 7 l0 2)) then if r32 (F14 7 l0 3) then if r64 (r14 * (zdv 512 (F14 7 l0 2))) then if r64 (100 * (F14 7 l0 3)) then (if (zcmp (r14 * (zdv 512 (F14 7 l0 2))) (100 * (F14 7 l0 3))) ≤ 0 then zbind (f_Scribe_writeHead K l0 F14 B14) (fun r21 F21 B21 => f_Scribe_writeDown_95 K K.1 0 0 (r14 * (zdv 512 (F14 7 l0 2))) l0 l1 F21 B21) else some ((-2), F14, B14)) else none else none else none else none else none)) else none else none else none else none else none else none else none else none
set_option maxHeartbeats 4000000 in
set_option maxRecDepth 100000 in
theorem c_Scribe_writeDown {l : Launch} {D : va_G} {ca : Nat → ClassId} {ad : Nat → Int → Nat → Nat} {L : List Nat} {aS vS : Nat → Nat} {sz : Nat} {K : zK}  {l0 : Int} {l1 : Int} {l2 : Int} {l3 : Int} {F F9 : zF} {B B9 : zB} {r : Int} (hf : f_Scribe_writeDown K l0 l1 l2 l3 F B = some (r, F9, B9)) : Met l ({ cls := "StaveHouse$Scribe", name := "writeDown", desc := "(LStaveHouse$SoundFile;ILStaveHouse$ByteRow;)I" } : Jvm.MethodName) (Cond.code ({ cls := "StaveHouse$Scribe", name := "writeDown", desc := "(LStaveHouse$SoundFile;ILStaveHouse$ByteRow;)I" } : Jvm.MethodName) prog_9_method_2_code 8 (Option.some Jvm.ClassFile.FieldType.int) :: wAll) ({ frames := 9, cells := 0, slots := 0, locals := 209 } : Room) (va_Pc [.ref (ad 7 l0 0), .ref (ad 8 l1 0), .int (iI l2), .ref (ad 0 l3 0)] (zPre D ca ad lnC K.2 L aS vS F B sz)) (Q_Scribe_writeDown K D ca ad L r F9 B9 (zA L sz)) 0 0 (zA L sz) := by
  refine zMet (Qc := Q_Scribe_writeDown K D ca ad L r F9 B9) (lv := [(0, .ref (ad 7 l0 0)), (1, .ref (ad 8 l1 0)), (2, .int (iI l2)), (3, .ref (ad 0 l3 0))]) (by decide) (Nat.le_of_ble_eq_true rfl) rfl (fun A p e s m below meth c ls X hZ hS hl => ?_)
  obtain ⟨hx, hb, hr, hml, hown, hts, hlk, hK, hA, hL, hX⟩ := id X
  replace hf : (if 0 ≤ l0 ∧ l0 < K.2 7 then if 0 ≤ l1 ∧ l1 < K.2 8 then if l1 < K.2 8 then if 0 ≤ l3 ∧ l3 < K.2 0 then if l3 < K.2 0 then if r32 l2 then if r32 (B 8 l1 0 5) then if ¬ iI (zmax (B 8 l1 0 5) 1) = 0 then zbind (f_ByteRow_clear K l3 (zup3 (zup3 (zup3 (zup3 F 7 l0 0 l1) 7 l0 1 l3) 7 l0 2 (zmax l2 1)) 7 l0 3 ((zdv 512 (zmax (B 8 l1 0 5) 1)) * (B 8 l1 0 4))) B) (fun r13 F13 B13 => zbind (f_Scribe_lastPlace K l0 F13 B13) (fun r14 F14 B14 => if ¬ iI (F14 7 l0 2) = 0 then if r32 (zdv 512 (F14 7 l0 2)) then if r32 (F14 7 l0 3) then if r64 (r14 * (zdv 512 (F14 7 l0 2))) then if r64 (100 * (F14 7 l0 3)) then (if (zcmp (r14 * (zdv 512 (F14 7 l0 2))) (100 * (F14 7 l0 3))) ≤ 0 then zbind (f_Scribe_writeHead K l0 F14 B14) (fun r21 F21 B21 => f_Scribe_writeDown_95 K K.1 0 0 (r14 * (zdv 512 (F14 7 l0 2))) l0 l1 F21 B21) else some ((-2), F14, B14)) else none else none else none else none else none)) else none else none else none else none else none else none else none else none) = some (r, F9, B9) := hf
  refine lv_aload_n hx hb (D_42 W_prog_9_method_2_code_0 0 rfl rfl) rfl (lv_at hl 0 rfl) ?_
  refine lv_aload_n hx hb (D_43 W_prog_9_method_2_code_0 1 rfl rfl) rfl (lv_at hl 1 rfl) ?_
  obtain ⟨g1, hf⟩ := gif hf
  obtain ⟨g3, hf⟩ := gif hf
  refine W.eq (g2 := F0 m 2 ls [va_rf (zrf ad 8 l1), .ref (ad 7 l0 0)]) (by rw [zrf_pos (ad := ad) (t := 8) g3.1]; try rfl) ?_
  obtain ⟨g4, hf⟩ := gif hf
  refine zput (ci := 7) (C := RX7) (T := TX7) (k := 0) (v := l1) (w := va_rf (zrf ad 8 l1)) hx hb hts inW_7 tyX7 tyX7_ok nmX7 hown hK hZ hS g1.1 g1.2 rfl (by decide) k_2_98 rfl (fun G h => congrArg (fun q => va_rf (zrf ad 8 q)) h) (zrf_nar rfl _) (zrf_fit rfl _) (zyes (t0 := 8) rfl g4) (D_181 W_prog_9_method_2_code_0 2 rfl rfl rfl) (fun H2 locs2 hZ2 hS2 => ?_)
  refine lv_aload_n hx hb (D_42 W_prog_9_method_2_code_0 5 rfl rfl) rfl (lv_at hl 0 rfl) ?_
  refine lv_aload_n hx hb (D_45 W_prog_9_method_2_code_0 6 rfl rfl) rfl (lv_at hl 3 rfl) ?_
  obtain ⟨g6, hf⟩ := gif hf
  refine W.eq (g2 := F0 m 7 ls [va_rf (zrf ad 0 l3), .ref (ad 7 l0 0)]) (by rw [zrf_pos (ad := ad) (t := 0) g6.1]; try rfl) ?_
  obtain ⟨g7, hf⟩ := gif hf
  refine zput (ci := 7) (C := RX7) (T := TX7) (k := 1) (v := l3) (w := va_rf (zrf ad 0 l3)) hx hb hts inW_7 tyX7 tyX7_ok nmX7 hown hK hZ2 hS2 g1.1 g1.2 rfl (by decide) k_2_99 rfl (fun G h => congrArg (fun q => va_rf (zrf ad 0 q)) h) (zrf_nar rfl _) (zrf_fit rfl _) (zyes (t0 := 0) rfl g7) (D_181 W_prog_9_method_2_code_0 7 rfl rfl rfl) (fun H5 locs5 hZ5 hS5 => ?_)
  refine lv_aload_n hx hb (D_42 W_prog_9_method_2_code_0 10 rfl rfl) rfl (lv_at hl 0 rfl) ?_
  refine lv_iload_n hx hb (D_28 W_prog_9_method_2_code_0 11 rfl rfl) rfl (lv_at hl 2 rfl) ?_
  refine lv_iconst (v := iI 1) hx hb (D_4 W_prog_9_method_2_code_0 12 rfl rfl) rfl ?_
  obtain ⟨g8, hf⟩ := gif hf
  refine va_mmax hx hb (by rw [hml]; exact hl.1.symm) hown (hts _ k_8_142) (hts _ k_1_39) (hts _ k_1_3) (hts _ k_1_40) (Nat.le_of_ble_eq_true rfl) (Nat.le_of_ble_eq_true rfl) (Nat.le_of_ble_eq_true rfl) (Nat.le_of_ble_eq_true rfl) (D_184 W_prog_9_method_2_code_0 13 rfl rfl rfl) ?_
  rw [zmax_e g8 (by decide)]
  refine zput (ci := 7) (C := RX7) (T := TX7) (k := 2) (v := (zmax l2 1)) (w := .int (iI (zmax l2 1))) hx hb hts inW_7 tyX7 tyX7_ok nmX7 hown hK hZ5 hS5 g1.1 g1.2 rfl (by decide) k_2_100 rfl (fun G h => congrArg (fun q => Value.int (iI q)) h) rfl rfl (zno (by decide)) (D_181 W_prog_9_method_2_code_0 16 rfl rfl rfl) (fun H9 locs9 hZ9 hS9 => ?_)
  refine lv_aload_n hx hb (D_42 W_prog_9_method_2_code_0 19 rfl rfl) rfl (lv_at hl 0 rfl) ?_
  refine lv_sipush (v := iI 512) hx hb (D_17 W_prog_9_method_2_code_0 20 rfl rfl rfl) (by decide) ?_
  refine lv_aload_n hx hb (D_43 W_prog_9_method_2_code_0 23 rfl rfl) rfl (lv_at hl 1 rfl) ?_
  refine zget (ci := 8) (C := RX8) (T := TX8) (v := .ref (ad 8 l1 (0 + 1))) (k := 0) hx hb hts inW_8 hown hK hZ9 g3.1 g3.2 rfl (by decide) k_7_218 rfl (D_180 W_prog_9_method_2_code_0 24 rfl rfl rfl) ?_
  refine lv_iconst (v := iI 5) hx hb (D_8 W_prog_9_method_2_code_0 27 rfl rfl) rfl ?_
  refine zald (ci := 8) (k := 0) hx hb hK rfl hZ9 g3.1 g3.2 rfl (Nat.le_of_ble_eq_true rfl) (by decide) (show (5 : Int) < 7 by decide) (D_46 W_prog_9_method_2_code_0 28 rfl rfl) ?_
  refine lv_iconst (v := iI 1) hx hb (D_4 W_prog_9_method_2_code_0 29 rfl rfl) rfl ?_
  obtain ⟨g10, hf⟩ := gif hf
  refine va_mmax hx hb (by rw [hml]; exact hl.1.symm) hown (hts _ k_8_142) (hts _ k_1_39) (hts _ k_1_3) (hts _ k_1_40) (Nat.le_of_ble_eq_true rfl) (Nat.le_of_ble_eq_true rfl) (Nat.le_of_ble_eq_true rfl) (Nat.le_of_ble_eq_true rfl) (D_184 W_prog_9_method_2_code_0 30 rfl rfl rfl) ?_
  rw [zmax_e g10 (by decide)]
  obtain ⟨g11, hf⟩ := gif hf
  refine zdv_r hx hb g11 (D_108 W_prog_9_method_2_code_32 1 rfl rfl) ?_
  refine lv_aload_n hx hb (D_43 W_prog_9_method_2_code_32 2 rfl rfl) rfl (lv_at hl 1 rfl) ?_
  refine zget (ci := 8) (C := RX8) (T := TX8) (v := .ref (ad 8 l1 (0 + 1))) (k := 0) hx hb hts inW_8 hown hK hZ9 g3.1 g3.2 rfl (by decide) k_7_218 rfl (D_180 W_prog_9_method_2_code_32 3 rfl rfl rfl) ?_
  refine lv_iconst (v := iI 4) hx hb (D_7 W_prog_9_method_2_code_32 6 rfl rfl) rfl ?_
  refine zald (ci := 8) (k := 0) hx hb hK rfl hZ9 g3.1 g3.2 rfl (Nat.le_of_ble_eq_true rfl) (by decide) (show (4 : Int) < 7 by decide) (D_46 W_prog_9_method_2_code_32 7 rfl rfl) ?_
  refine zmul hx hb (D_104 W_prog_9_method_2_code_32 8 rfl rfl) ?_
  refine zput (ci := 7) (C := RX7) (T := TX7) (k := 3) (v := ((zdv 512 (zmax (B 8 l1 0 5) 1)) * (B 8 l1 0 4))) (w := .int (iI ((zdv 512 (zmax (B 8 l1 0 5) 1)) * (B 8 l1 0 4)))) hx hb hts inW_7 tyX7 tyX7_ok nmX7 hown hK hZ9 hS9 g1.1 g1.2 rfl (by decide) k_2_101 rfl (fun G h => congrArg (fun q => Value.int (iI q)) h) rfl rfl (zno (by decide)) (D_181 W_prog_9_method_2_code_32 9 rfl rfl rfl) (fun H12 locs12 hZ12 hS12 => ?_)
  refine lv_aload_n hx hb (D_42 W_prog_9_method_2_code_32 12 rfl rfl) rfl (lv_at hl 0 rfl) ?_
  refine zget (ci := 7) (C := RX7) (T := TX7) (v := va_rf (zrf ad 0 l3)) (k := 1) hx hb hts inW_7 hown hK hZ12 g1.1 g1.2 rfl (by decide) k_2_99 (congrArg (fun q : Int => va_rf (zrf ad 0 q)) (show (zup3 (zup3 (zup3 (zup3 F 7 l0 0 l1) 7 l0 1 l3) 7 l0 2 (zmax l2 1)) 7 l0 3 ((zdv 512 (zmax (B 8 l1 0 5) 1)) * (B 8 l1 0 4))) 7 l0 1 = l3 by simp [zup3])) (D_180 W_prog_9_method_2_code_32 13 rfl rfl rfl) ?_
  refine W.eq (g2 := F0 m 48 ls [.ref (ad 0 l3 0)]) (by rw [zrf_pos (ad := ad) (t := 0) g6.1]; try rfl) ?_
  obtain ⟨r13, F13, B13, hc13, hf⟩ := gbind hf
  refine va_callv (va_runV (As := []) (rest := []) ⟨hx, hb, hml, hown, hts⟩ (c_ByteRow_clear (l := l) hc13) (cwV 0 hts (gdV k_8_143 k_5_167 k_5_168 k_1_2 k_5_169) rfl rfl rfl (by decide +kernel) ⟨Nat.le_of_ble_eq_true rfl, Nat.le_of_ble_eq_true rfl⟩) (zPV X hZ12 hS12 (ci := 0) g6.1 g6.2 (r := (RX0, TX0, 3)) rfl []) rfl rfl hl.1 rfl (lv_room (Nat.le_of_ble_eq_true rfl)) (D_182 W_prog_9_method_2_code_32 16 rfl rfl rfl) ⟨Nat.le_of_ble_eq_true rfl, Nat.le_of_ble_eq_true rfl⟩) hS12 (fun q _ h => zAin X hS12 q h) (zAin X hS12) (fun u13 t13 H13 locs13 ht13 hv13 hw13 hB13 hz13 hk13 hS13 => ?_)
  have hZ13 := zBack X ht13 hB13
  refine lv_aload_n hx hb (D_42 W_prog_9_method_2_code_32 19 rfl rfl) rfl (lv_at hl 0 rfl) ?_
  obtain ⟨r14, F14, B14, hc14, hf⟩ := gbind hf
  refine va_calll (va_runV (As := []) (rest := []) ⟨hx, hb, hml, hown, hts⟩ (c_Scribe_lastPlace (l := l) hc14) (cwV 0 hts (gdV k_8_144 k_8_146 ks_111 k_1_7 k_8_147) rfl rfl rfl (by decide +kernel) ⟨Nat.le_of_ble_eq_true rfl, Nat.le_of_ble_eq_true rfl⟩) (zPV X hZ13 hS13 (ci := 7) g1.1 g1.2 (r := (RX7, TX7, 9)) rfl []) rfl rfl hl.1 rfl (lv_room (Nat.le_of_ble_eq_true rfl)) (D_182 W_prog_9_method_2_code_32 20 rfl rfl rfl) ⟨Nat.le_of_ble_eq_true rfl, Nat.le_of_ble_eq_true rfl⟩) hS13 (fun q _ h => zAin X hS13 q h) (zAin X hS13) (fun p14 u14 t14 H14 locs14 ht14 hv14 hw14 hB14 hz14 hk14 hS14 => ?_)
  have hZ14 := zBack X ht14 hB14
  subst hw14
  refine lv_sipush (v := iI 512) hx hb (D_17 W_prog_9_method_2_code_32 23 rfl rfl rfl) (by decide) ?_
  refine lv_aload_n hx hb (D_42 W_prog_9_method_2_code_32 26 rfl rfl) rfl (lv_at hl 0 rfl) ?_
  refine zget (ci := 7) (C := RX7) (T := TX7) (v := .int (iI (F14 7 l0 2))) (k := 2) hx hb hts inW_7 hown hK hZ14 g1.1 g1.2 rfl (by decide) k_2_100 rfl (D_180 W_prog_9_method_2_code_32 27 rfl rfl rfl) ?_
  obtain ⟨g15, hf⟩ := gif hf
  refine zdv_r hx hb g15 (D_108 W_prog_9_method_2_code_32 30 rfl rfl) ?_
  obtain ⟨g16, hf⟩ := gif hf
  refine zi2l hx hb g16 (D_133 W_prog_9_method_2_code_32 31 rfl rfl) ?_
  refine zlmul hx hb (D_105 W_prog_9_method_2_code_64 0 rfl rfl) ?_
  refine lv_lstore (lv' := [(4, .long (lI (r14 * (zdv 512 (F14 7 l0 2))))), (0, .ref (ad 7 l0 0)), (1, .ref (ad 8 l1 0)), (2, .int (iI l2)), (3, .ref (ad 0 l3 0))]) hx hb (D_55 W_prog_9_method_2_code_64 1 rfl rfl) hl (by decide) rfl (fun ls hl => ?_)
  refine lv_lload hx hb (D_22 W_prog_9_method_2_code_64 3 rfl rfl) (lv_at hl 0 rfl) ?_
  refine lv_ldc2 hx hb hown (hts _ k_8_165) (D_20 W_prog_9_method_2_code_64 5 rfl rfl rfl) ?_
  refine W.eq (g2 := F0 m 72 ls [.long (lI 100), .long (lI (r14 * (zdv 512 (F14 7 l0 2))))]) rfl ?_
  refine lv_aload_n hx hb (D_42 W_prog_9_method_2_code_64 8 rfl rfl) rfl (lv_at hl 1 rfl) ?_
  refine zget (ci := 7) (C := RX7) (T := TX7) (v := .int (iI (F14 7 l0 3))) (k := 3) hx hb hts inW_7 hown hK hZ14 g1.1 g1.2 rfl (by decide) k_2_101 rfl (D_180 W_prog_9_method_2_code_64 9 rfl rfl rfl) ?_
  obtain ⟨g17, hf⟩ := gif hf
  refine zi2l hx hb g17 (D_133 W_prog_9_method_2_code_64 12 rfl rfl) ?_
  refine zlmul hx hb (D_105 W_prog_9_method_2_code_64 13 rfl rfl) ?_
  obtain ⟨g18, hf⟩ := gif hf
  obtain ⟨g19, hf⟩ := gif hf
  refine zcmp_r hx hb g18 g19 (D_148 W_prog_9_method_2_code_64 14 rfl rfl) ?_
  refine z0le (tgt := 85) hx hb zcmp_32 (D_158 W_prog_9_method_2_code_64 15 rfl rfl rfl) (by decide) (fun h20 => ?_) (fun h20 => ?_)
  · replace hf := gpos hf h20
    refine lv_aload_n hx hb (D_42 W_prog_9_method_2_code_64 21 rfl rfl) rfl (lv_at hl 1 rfl) ?_
    obtain ⟨r21, F21, B21, hc21, hf⟩ := gbind hf
    refine va_callv (va_runV (As := []) (rest := []) ⟨hx, hb, hml, hown, hts⟩ (c_Scribe_writeHead (l := l) hc21) (cwV 0 hts (gdV k_8_166 k_8_168 ks_115 k_1_7 k_8_169) rfl rfl rfl (by decide +kernel) ⟨Nat.le_of_ble_eq_true rfl, Nat.le_of_ble_eq_true rfl⟩) (zPV X hZ14 hS14 (ci := 7) g1.1 g1.2 (r := (RX7, TX7, 9)) rfl []) rfl rfl hl.1 rfl (lv_room (Nat.le_of_ble_eq_true rfl)) (D_182 W_prog_9_method_2_code_64 22 rfl rfl rfl) ⟨Nat.le_of_ble_eq_true rfl, Nat.le_of_ble_eq_true rfl⟩) hS14 (fun q _ h => zAin X hS14 q h) (zAin X hS14) (fun u21 t21 H21 locs21 ht21 hv21 hw21 hB21 hz21 hk21 hS21 => ?_)
    have hZ21 := zBack X ht21 hB21
    refine lv_iconst (v := iI 0) hx hb (D_3 W_prog_9_method_2_code_64 25 rfl rfl) rfl ?_
    refine lv_istore (lv' := [(6, .int (iI 0)), (4, .long (lI (r14 * (zdv 512 (F14 7 l0 2))))), (0, .ref (ad 7 l0 0)), (1, .ref (ad 8 l1 0)), (2, .int (iI l2)), (3, .ref (ad 0 l3 0))]) hx hb (D_54 W_prog_9_method_2_code_64 26 rfl rfl) hl (by decide) rfl (fun ls hl => ?_)
    refine lv_iconst (v := iI 0) hx hb (D_3 W_prog_9_method_2_code_64 28 rfl rfl) rfl ?_
    refine lv_istore (lv' := [(7, .int (iI 0)), (6, .int (iI 0)), (4, .long (lI (r14 * (zdv 512 (F14 7 l0 2))))), (0, .ref (ad 7 l0 0)), (1, .ref (ad 8 l1 0)), (2, .int (iI l2)), (3, .ref (ad 0 l3 0))]) hx hb (D_54 W_prog_9_method_2_code_64 29 rfl rfl) hl (by decide) rfl (fun ls hl => ?_)
    exact b_Scribe_writeDown_95 X hf hZ21 hS21 (lv_sub hl [0, 1, 2, 3, 4] rfl)
  · replace hf := gneg hf h20
    refine lv_bipush (v := iI (-2)) hx hb (D_16 W_prog_9_method_2_code_64 18 rfl rfl rfl) (by decide) ?_
    cases hf
    exact W.iret hx hb hr (fun t ht hW => ⟨⟨_, (), rfl, rfl, by rw [ht]; exact hZ14, va_K.moved hW.alike hK⟩, hS14.F ht⟩) hS14.2.2 (D_172 W_prog_9_method_2_code_64 20 rfl rfl) hlk

abbrev Q_S_down (K : zK) (D : va_G) (ca : Nat → ClassId) (ad : Nat → Int → Nat → Nat) (L : List Nat) (r : Int) (F : zF) (B : zB) (A : Nat → Prop) : Array Value → State → Outcome → State → Prop := va_Qi (S := Unit) (fun p _ => p = iI r) (fun _ => zPo D ca ad lnC K.2 L F B A) A
def f_S_down_50 (K : zK)  (F : zF) (B : zB) : zO := some ((-1), F, B)
set_option maxHeartbeats 4000000 in
set_option maxRecDepth 100000 in
theorem b_S_down_50 {D : va_G} {ca : Nat → ClassId} {ad : Nat → Int → Nat → Nat} {L : List Nat} {aS vS : Nat → Nat} {A : Nat → Prop} {p : Program} {l : Launch} {e : Env} {s : State} {m : MethodId} {args : Array Value} {below : List Frame} {meth : Method} {c : Code} {K : zK} {r : Int} {F9 : zF} {B9 : zB} (X : zX D ca L aS vS A p s m args meth c prog_1_method_27_code 3 (Option.some Jvm.ClassFile.FieldType.int) "StaveHouse")  {F : zF} {B : zB} {H : Heap} {locs : List Loc} {ls : Array Slot} (hf : f_S_down_50 K  F B = some (r, F9, B9)) (hZ : zH D ca ad lnC K.2 L F B A H) (hS : va_S A s.heap H locs) (hl : lv_has ls 3 []) : W p l e ({ frames := 10, cells := 0, slots := 0, locals := 236 } : Room) s m args below meth c H locs 0 0 (MQ below (Q_S_down K D ca ad L r F9 B9 A) args s 0 0 A) (F0 m 50 ls []) := by
  obtain ⟨hx, hb, hr, hml, hown, hts, hlk, hK, hA, hL, hX⟩ := id X
  replace hf : (some ((-1), F, B)) = some (r, F9, B9) := hf
  refine lv_iconst (v := iI (-1)) hx hb (D_2 W_prog_1_method_27_code_32 18 rfl rfl) rfl ?_
  cases hf
  exact W.iret hx hb hr (fun t ht hW => ⟨⟨_, (), rfl, rfl, by rw [ht]; exact hZ, va_K.moved hW.alike hK⟩, hS.F ht⟩) hS.2.2 (D_172 W_prog_1_method_27_code_32 19 rfl rfl) hlk

def f_S_down_28 (K : zK) (l0 : Int) (l1 : Int) (s0 : Int) (F : zF) (B : zB) : zO := if 0 ≤ l0 ∧ l0 < K.2 12 then (if (F 12 l0 8) < 0 then f_S_down_50 K F B else if 0 ≤ (F 12 l0 8) ∧ (F 12 l0 8) < K.2 8 then if r32 (F 8 (F 12 l0 8) 2) then (if (F 8 (F 12 l0 8) 2) = 0 then f_S_down_50 K F B else if r32 s0 then (if s0 = 0 then f_S_down_50 K F B else if 0 ≤ (F 12 l0 6) ∧ (F 12 l0 6) < K.2 7 then if 0 ≤ (F 12 l0 2) ∧ (F 12 l0 2) < K.2 0 then zbind (f_Scribe_writeDown K (F 12 l0 6) (F 12 l0 8) l1 (F 12 l0 2) F B) (fun r15 F15 B15 => some (r15, F15, B15)) else none else none) else none) else none else none) else none
set_option maxHeartbeats 4000000 in
set_option maxRecDepth 100000 in
theorem b_S_down_28 {D : va_G} {ca : Nat → ClassId} {ad : Nat → Int → Nat → Nat} {L : List Nat} {aS vS : Nat → Nat} {A : Nat → Prop} {p : Program} {l : Launch} {e : Env} {s : State} {m : MethodId} {args : Array Value} {below : List Frame} {meth : Method} {c : Code} {K : zK} {r : Int} {F9 : zF} {B9 : zB} (X : zX D ca L aS vS A p s m args meth c prog_1_method_27_code 3 (Option.some Jvm.ClassFile.FieldType.int) "StaveHouse") {l0 : Int} {l1 : Int} {s0 : Int} {F : zF} {B : zB} {H : Heap} {locs : List Loc} {ls : Array Slot} (hf : f_S_down_28 K l0 l1 s0 F B = some (r, F9, B9)) (hZ : zH D ca ad lnC K.2 L F B A H) (hS : va_S A s.heap H locs) (hl : lv_has ls 3 [(0, .ref (ad 12 l0 0)), (1, .int (iI l1))]) : W p l e ({ frames := 10, cells := 0, slots := 0, locals := 236 } : Room) s m args below meth c H locs 0 0 (MQ below (Q_S_down K D ca ad L r F9 B9 A) args s 0 0 A) (F0 m 28 ls [.int (iI s0)]) := by
  obtain ⟨hx, hb, hr, hml, hown, hts, hlk, hK, hA, hL, hX⟩ := id X
  replace hf : (if 0 ≤ l0 ∧ l0 < K.2 12 then (if (F 12 l0 8) < 0 then f_S_down_50 K F B else if 0 ≤ (F 12 l0 8) ∧ (F 12 l0 8) < K.2 8 then if r32 (F 8 (F 12 l0 8) 2) then (if (F 8 (F 12 l0 8) 2) = 0 then f_S_down_50 K F B else if r32 s0 then (if s0 = 0 then f_S_down_50 K F B else if 0 ≤ (F 12 l0 6) ∧ (F 12 l0 6) < K.2 7 then if 0 ≤ (F 12 l0 2) ∧ (F 12 l0 2) < K.2 0 then zbind (f_Scribe_writeDown K (F 12 l0 6) (F 12 l0 8) l1 (F 12 l0 2) F B) (fun r15 F15 B15 => some (r15, F15, B15)) else none else none) else none) else none else none) else none) = some (r, F9, B9) := hf
  refine lv_istore_n (lv' := [(2, .int (iI s0)), (0, .ref (ad 12 l0 0)), (1, .int (iI l1))]) hx hb (D_61 W_prog_1_method_27_code_0 28 rfl rfl) rfl hl (by decide) rfl (fun ls hl => ?_)
  refine lv_aload_n hx hb (D_42 W_prog_1_method_27_code_0 29 rfl rfl) rfl (lv_at hl 1 rfl) ?_
  obtain ⟨g6, hf⟩ := gif hf
  refine zget (ci := 12) (C := RX12) (T := TX12) (v := va_rf (zrf ad 8 (F 12 l0 8))) (k := 8) hx hb hts inW_12 hown hK hZ g6.1 g6.2 rfl (by decide) k_2_135 rfl (D_180 W_prog_1_method_27_code_0 30 rfl rfl rfl) ?_
  refine zifnull (tgt := 50) hx hb (D_198 W_prog_1_method_27_code_32 1 rfl rfl rfl) (by decide) (fun h7 => ?_) (fun h7 => ?_)
  · replace hf := gpos hf h7
    exact b_S_down_50 X hf hZ hS (lv_sub hl [] rfl)
  · replace hf := gneg hf h7
    refine lv_aload_n hx hb (D_42 W_prog_1_method_27_code_32 4 rfl rfl) rfl (lv_at hl 1 rfl) ?_
    refine zget (ci := 12) (C := RX12) (T := TX12) (v := va_rf (zrf ad 8 (F 12 l0 8))) (k := 8) hx hb hts inW_12 hown hK hZ g6.1 g6.2 rfl (by decide) k_2_135 rfl (D_180 W_prog_1_method_27_code_32 5 rfl rfl rfl) ?_
    obtain ⟨g8, hf⟩ := gif hf
    refine zunrf g8.1 ?_
    refine zget (ci := 8) (C := RX8) (T := TX8) (v := .int (iI (F 8 (F 12 l0 8) 2))) (k := 2) hx hb hts inW_8 hown hK hZ g8.1 g8.2 rfl (by decide) k_7_225 rfl (D_180 W_prog_1_method_27_code_32 8 rfl rfl rfl) ?_
    obtain ⟨g9, hf⟩ := gif hf
    refine z0eq (tgt := 50) hx hb g9 (D_153 W_prog_1_method_27_code_32 11 rfl rfl rfl) (by decide) (fun h10 => ?_) (fun h10 => ?_)
    · replace hf := gpos hf h10
      exact b_S_down_50 X hf hZ hS (lv_sub hl [] rfl)
    · replace hf := gneg hf h10
      refine lv_iload_n hx hb (D_28 W_prog_1_method_27_code_32 14 rfl rfl) rfl (lv_at hl 0 rfl) ?_
      obtain ⟨g11, hf⟩ := gif hf
      refine z0ne (tgt := 52) hx hb g11 (D_154 W_prog_1_method_27_code_32 15 rfl rfl rfl) (by decide) (fun h12 => ?_) (fun h12 => ?_)
      · replace hf := gneg hf h12
        refine lv_aload_n hx hb (D_42 W_prog_1_method_27_code_32 20 rfl rfl) rfl (lv_at hl 1 rfl) ?_
        refine zget (ci := 12) (C := RX12) (T := TX12) (v := va_rf (zrf ad 7 (F 12 l0 6))) (k := 6) hx hb hts inW_12 hown hK hZ g6.1 g6.2 rfl (by decide) k_2_133 rfl (D_180 W_prog_1_method_27_code_32 21 rfl rfl rfl) ?_
        refine lv_aload_n hx hb (D_42 W_prog_1_method_27_code_32 24 rfl rfl) rfl (lv_at hl 1 rfl) ?_
        refine zget (ci := 12) (C := RX12) (T := TX12) (v := va_rf (zrf ad 8 (F 12 l0 8))) (k := 8) hx hb hts inW_12 hown hK hZ g6.1 g6.2 rfl (by decide) k_2_135 rfl (D_180 W_prog_1_method_27_code_32 25 rfl rfl rfl) ?_
        refine lv_iload_n hx hb (D_27 W_prog_1_method_27_code_32 28 rfl rfl) rfl (lv_at hl 2 rfl) ?_
        refine lv_aload_n hx hb (D_42 W_prog_1_method_27_code_32 29 rfl rfl) rfl (lv_at hl 1 rfl) ?_
        refine zget (ci := 12) (C := RX12) (T := TX12) (v := va_rf (zrf ad 0 (F 12 l0 2))) (k := 2) hx hb hts inW_12 hown hK hZ g6.1 g6.2 rfl (by decide) k_2_129 rfl (D_180 W_prog_1_method_27_code_32 30 rfl rfl rfl) ?_
        obtain ⟨g13, hf⟩ := gif hf
        refine W.eq (g2 := F0 m 65 ls [va_rf (zrf ad 0 (F 12 l0 2)), .int (iI l1), va_rf (zrf ad 8 (F 12 l0 8)), .ref (ad 7 (F 12 l0 6) 0)]) (by rw [zrf_pos (ad := ad) (t := 7) g13.1]; try rfl) ?_
        refine W.eq (g2 := F0 m 65 ls [va_rf (zrf ad 0 (F 12 l0 2)), .int (iI l1), .ref (ad 8 (F 12 l0 8) 0), .ref (ad 7 (F 12 l0 6) 0)]) (by rw [zrf_pos (ad := ad) (t := 8) g8.1]; try rfl) ?_
        obtain ⟨g14, hf⟩ := gif hf
        refine W.eq (g2 := F0 m 65 ls [.ref (ad 0 (F 12 l0 2) 0), .int (iI l1), .ref (ad 8 (F 12 l0 8) 0), .ref (ad 7 (F 12 l0 6) 0)]) (by rw [zrf_pos (ad := ad) (t := 0) g14.1]; try rfl) ?_
        obtain ⟨r15, F15, B15, hc15, hf⟩ := gbind hf
        refine va_calli (va_runV (As := [.ref (ad 8 (F 12 l0 8) 0), .int (iI l1), .ref (ad 0 (F 12 l0 2) 0)]) (rest := []) ⟨hx, hb, hml, hown, hts⟩ (c_Scribe_writeDown (l := l) hc15) (cwV 3 hts (gdV k_8_138 k_8_139 k_8_140 k_1_7 k_8_141) rfl rfl rfl (by decide +kernel) ⟨Nat.le_of_ble_eq_true rfl, Nat.le_of_ble_eq_true rfl⟩) (zPV X hZ hS (ci := 7) g13.1 g13.2 (r := (RX7, TX7, 9)) rfl [.ref (ad 8 (F 12 l0 8) 0), .int (iI l1), .ref (ad 0 (F 12 l0 2) 0)]) rfl rfl hl.1 rfl (lv_room (Nat.le_of_ble_eq_true rfl)) (D_182 W_prog_1_method_27_code_64 1 rfl rfl rfl) ⟨Nat.le_of_ble_eq_true rfl, Nat.le_of_ble_eq_true rfl⟩) hS (fun q _ h => zAin X hS q h) (zAin X hS) (fun p15 u15 t15 H15 locs15 ht15 hv15 hw15 hB15 hz15 hk15 hS15 => ?_)
        have hZ15 := zBack X ht15 hB15
        subst hw15
        cases hf
        exact W.iret hx hb hr (fun t ht hW => ⟨⟨_, (), rfl, rfl, by rw [ht]; exact hZ15, va_K.moved hW.alike hK⟩, hS15.F ht⟩) hS15.2.2 (D_172 W_prog_1_method_27_code_64 4 rfl rfl) hlk
      · replace hf := gpos hf h12
        exact b_S_down_50 X hf hZ hS (lv_sub hl [] rfl)

def f_S_down_23 (K : zK) (l0 : Int) (l1 : Int) (F : zF) (B : zB) : zO := f_S_down_28 K l0 l1 1 F B
set_option maxHeartbeats 4000000 in
set_option maxRecDepth 100000 in
theorem b_S_down_23 {D : va_G} {ca : Nat → ClassId} {ad : Nat → Int → Nat → Nat} {L : List Nat} {aS vS : Nat → Nat} {A : Nat → Prop} {p : Program} {l : Launch} {e : Env} {s : State} {m : MethodId} {args : Array Value} {below : List Frame} {meth : Method} {c : Code} {K : zK} {r : Int} {F9 : zF} {B9 : zB} (X : zX D ca L aS vS A p s m args meth c prog_1_method_27_code 3 (Option.some Jvm.ClassFile.FieldType.int) "StaveHouse") {l0 : Int} {l1 : Int} {F : zF} {B : zB} {H : Heap} {locs : List Loc} {ls : Array Slot} (hf : f_S_down_23 K l0 l1 F B = some (r, F9, B9)) (hZ : zH D ca ad lnC K.2 L F B A H) (hS : va_S A s.heap H locs) (hl : lv_has ls 3 [(0, .ref (ad 12 l0 0)), (1, .int (iI l1))]) : W p l e ({ frames := 10, cells := 0, slots := 0, locals := 236 } : Room) s m args below meth c H locs 0 0 (MQ below (Q_S_down K D ca ad L r F9 B9 A) args s 0 0 A) (F0 m 23 ls []) := by
  obtain ⟨hx, hb, hr, hml, hown, hts, hlk, hK, hA, hL, hX⟩ := id X
  replace hf : (f_S_down_28 K l0 l1 1 F B) = some (r, F9, B9) := hf
  refine lv_iconst (v := iI 1) hx hb (D_4 W_prog_1_method_27_code_0 23 rfl rfl) rfl ?_
  refine lv_goto (tgt := 28) hx hb (D_167 W_prog_1_method_27_code_0 24 rfl rfl rfl) (by decide) ?_
  exact b_S_down_28 X hf hZ hS (lv_sub hl [0, 1] rfl)

def f_S_down (K : zK) (l0 : Int) (l1 : Int) (F : zF) (B : zB) : zO := if r32 l1 then (if l1 = 4 then f_S_down_23 K l0 l1 F B else (if l1 = 8 then f_S_down_23 K l0 l1 F B else (if l1 = 16 then f_S_down_23 K l0 l1 F B else (if l1 = 32 then f_S_down_23 K l0 l1 F B else f_S_down_28 K l0 l1 0 F B)))) else none
set_option maxHeartbeats 4000000 in
set_option maxRecDepth 100000 in
theorem c_S_down {l : Launch} {D : va_G} {ca : Nat → ClassId} {ad : Nat → Int → Nat → Nat} {L : List Nat} {aS vS : Nat → Nat} {sz : Nat} {K : zK}  {l0 : Int} {l1 : Int} {F F9 : zF} {B B9 : zB} {r : Int} (hf : f_S_down K l0 l1 F B = some (r, F9, B9)) : Met l ({ cls := "StaveHouse", name := "down", desc := "(I)I" } : Jvm.MethodName) (Cond.code ({ cls := "StaveHouse", name := "down", desc := "(I)I" } : Jvm.MethodName) prog_1_method_27_code 3 (Option.some Jvm.ClassFile.FieldType.int) :: wAll) ({ frames := 10, cells := 0, slots := 0, locals := 236 } : Room) (va_Pc [.ref (ad 12 l0 0), .int (iI l1)] (zPre D ca ad lnC K.2 L aS vS F B sz)) (Q_S_down K D ca ad L r F9 B9 (zA L sz)) 0 0 (zA L sz) := by
  refine zMet (Qc := Q_S_down K D ca ad L r F9 B9) (lv := [(0, .ref (ad 12 l0 0)), (1, .int (iI l1))]) (by decide) (Nat.le_of_ble_eq_true rfl) rfl (fun A p e s m below meth c ls X hZ hS hl => ?_)
  obtain ⟨hx, hb, hr, hml, hown, hts, hlk, hK, hA, hL, hX⟩ := id X
  replace hf : (if r32 l1 then (if l1 = 4 then f_S_down_23 K l0 l1 F B else (if l1 = 8 then f_S_down_23 K l0 l1 F B else (if l1 = 16 then f_S_down_23 K l0 l1 F B else (if l1 = 32 then f_S_down_23 K l0 l1 F B else f_S_down_28 K l0 l1 0 F B)))) else none) = some (r, F9, B9) := hf
  refine lv_iload_n hx hb (D_27 W_prog_1_method_27_code_0 0 rfl rfl) rfl (lv_at hl 1 rfl) ?_
  refine lv_iconst (v := iI 4) hx hb (D_7 W_prog_1_method_27_code_0 1 rfl rfl) rfl ?_
  obtain ⟨g1, hf⟩ := gif hf
  refine zeq (tgt := 23) hx hb g1 (by decide) (D_159 W_prog_1_method_27_code_0 2 rfl rfl rfl) (by decide) (fun h2 => ?_) (fun h2 => ?_)
  · replace hf := gpos hf h2
    exact b_S_down_23 X hf hZ hS (lv_sub hl [0, 1] rfl)
  · replace hf := gneg hf h2
    refine lv_iload_n hx hb (D_27 W_prog_1_method_27_code_0 5 rfl rfl) rfl (lv_at hl 1 rfl) ?_
    refine lv_bipush (v := iI 8) hx hb (D_16 W_prog_1_method_27_code_0 6 rfl rfl rfl) (by decide) ?_
    refine zeq (tgt := 23) hx hb g1 (by decide) (D_159 W_prog_1_method_27_code_0 8 rfl rfl rfl) (by decide) (fun h3 => ?_) (fun h3 => ?_)
    · replace hf := gpos hf h3
      exact b_S_down_23 X hf hZ hS (lv_sub hl [0, 1] rfl)
    · replace hf := gneg hf h3
      refine lv_iload_n hx hb (D_27 W_prog_1_method_27_code_0 11 rfl rfl) rfl (lv_at hl 1 rfl) ?_
      refine lv_bipush (v := iI 16) hx hb (D_16 W_prog_1_method_27_code_0 12 rfl rfl rfl) (by decide) ?_
      refine zeq (tgt := 23) hx hb g1 (by decide) (D_159 W_prog_1_method_27_code_0 14 rfl rfl rfl) (by decide) (fun h4 => ?_) (fun h4 => ?_)
      · replace hf := gpos hf h4
        exact b_S_down_23 X hf hZ hS (lv_sub hl [0, 1] rfl)
      · replace hf := gneg hf h4
        refine lv_iload_n hx hb (D_27 W_prog_1_method_27_code_0 17 rfl rfl) rfl (lv_at hl 1 rfl) ?_
        refine lv_bipush (v := iI 32) hx hb (D_16 W_prog_1_method_27_code_0 18 rfl rfl rfl) (by decide) ?_
        refine zne (tgt := 27) hx hb g1 (by decide) (D_160 W_prog_1_method_27_code_0 20 rfl rfl rfl) (by decide) (fun h5 => ?_) (fun h5 => ?_)
        · replace hf := gneg hf h5
          refine lv_iconst (v := iI 0) hx hb (D_3 W_prog_1_method_27_code_0 27 rfl rfl) rfl ?_
          exact b_S_down_28 X hf hZ hS (lv_sub hl [0, 1] rfl)
        · replace hf := gpos hf h5
          exact b_S_down_23 X hf hZ hS (lv_sub hl [0, 1] rfl)

abbrev Q_Parser_takeBlock (K : zK) (D : va_G) (ca : Nat → ClassId) (ad : Nat → Int → Nat → Nat) (L : List Nat) (r : Int) (F : zF) (B : zB) (A : Nat → Prop) : Array Value → State → Outcome → State → Prop := va_Qi (S := Unit) (fun p _ => p = iI r) (fun _ => zPo D ca ad lnC K.2 L F B A) A
abbrev Q_Parser_takeMusic (K : zK) (D : va_G) (ca : Nat → ClassId) (ad : Nat → Int → Nat → Nat) (L : List Nat) (r : Int) (F : zF) (B : zB) (A : Nat → Prop) : Array Value → State → Outcome → State → Prop := va_Qi (S := Unit) (fun p _ => p = iI r) (fun _ => zPo D ca ad lnC K.2 L F B A) A
abbrev Q_Parser_takeItem (K : zK) (D : va_G) (ca : Nat → ClassId) (ad : Nat → Int → Nat → Nat) (L : List Nat) (r : Int) (F : zF) (B : zB) (A : Nat → Prop) : Array Value → State → Outcome → State → Prop := va_Qi (S := Unit) (fun p _ => p = iI r) (fun _ => zPo D ca ad lnC K.2 L F B A) A
abbrev Q_Parser_takeBracket (K : zK) (D : va_G) (ca : Nat → ClassId) (ad : Nat → Int → Nat → Nat) (L : List Nat) (r : Int) (F : zF) (B : zB) (A : Nat → Prop) : Array Value → State → Outcome → State → Prop := va_Qi (S := Unit) (fun p _ => p = iI r) (fun _ => zPo D ca ad lnC K.2 L F B A) A
abbrev Q_Parser_takeRepeat (K : zK) (D : va_G) (ca : Nat → ClassId) (ad : Nat → Int → Nat → Nat) (L : List Nat) (r : Int) (F : zF) (B : zB) (A : Nat → Prop) : Array Value → State → Outcome → State → Prop := va_Qi (S := Unit) (fun p _ => p = iI r) (fun _ => zPo D ca ad lnC K.2 L F B A) A
abbrev Q_Parser_takeAlternatives (K : zK) (D : va_G) (ca : Nat → ClassId) (ad : Nat → Int → Nat → Nat) (L : List Nat) (r : Int) (F : zF) (B : zB) (A : Nat → Prop) : Array Value → State → Outcome → State → Prop := va_Qi (S := Unit) (fun p _ => p = iI r) (fun _ => zPo D ca ad lnC K.2 L F B A) A
abbrev Q_Parser_takeMove (K : zK) (D : va_G) (ca : Nat → ClassId) (ad : Nat → Int → Nat → Nat) (L : List Nat) (r : Int) (F : zF) (B : zB) (A : Nat → Prop) : Array Value → State → Outcome → State → Prop := va_Qi (S := Unit) (fun p _ => p = iI r) (fun _ => zPo D ca ad lnC K.2 L F B A) A
abbrev Q_Parser_takeMirror (K : zK) (D : va_G) (ca : Nat → ClassId) (ad : Nat → Int → Nat → Nat) (L : List Nat) (r : Int) (F : zF) (B : zB) (A : Nat → Prop) : Array Value → State → Outcome → State → Prop := va_Qi (S := Unit) (fun p _ => p = iI r) (fun _ => zPo D ca ad lnC K.2 L F B A) A
abbrev oT_CP : Type := (Int → Int → zF → zB → zO) × (Int → Int → zF → zB → zO) × (Int → Int → zF → zB → zO) × (Int → Int → zF → zB → zO) × (Int → Int → zF → zB → zO) × (Int → Int → zF → zB → zO) × (Int → Int → zF → zB → zO) × (Int → Int → zF → zB → zO)
def oH_CP (K : zK) (l : Launch) (D : va_G) (ca : Nat → ClassId) (ad : Nat → Int → Nat → Nat) (L : List Nat) (aS vS : Nat → Nat) (d : Nat) (o : oT_CP) : Prop := (∀ {sz : Nat} {l0 : Int} {l1 : Int} {F F9 : zF} {B B9 : zB} {r : Int}, o.1 l0 l1 F B = some (r, F9, B9) → Met l ({ cls := "StaveHouse$Parser", name := "takeBlock", desc := "(I)Z" } : Jvm.MethodName) (Cond.code ({ cls := "StaveHouse$Parser", name := "takeBlock", desc := "(I)Z" } : Jvm.MethodName) prog_5_method_19_code 2 (Option.some Jvm.ClassFile.FieldType.boolean) :: wAll) ({ frames := d + 7, cells := 0, slots := 0, locals := 25 * d + 136 } : Room) (va_Pc [.ref (ad 3 l0 0), .int (iI l1)] (zPre D ca ad lnC K.2 L aS vS F B sz)) (Q_Parser_takeBlock K D ca ad L r F9 B9 (zA L sz)) 0 0 (zA L sz)) ∧ (∀ {sz : Nat} {l0 : Int} {l1 : Int} {F F9 : zF} {B B9 : zB} {r : Int}, o.2.1 l0 l1 F B = some (r, F9, B9) → Met l ({ cls := "StaveHouse$Parser", name := "takeMusic", desc := "(I)Z" } : Jvm.MethodName) (Cond.code ({ cls := "StaveHouse$Parser", name := "takeMusic", desc := "(I)Z" } : Jvm.MethodName) prog_5_method_20_code 6 (Option.some Jvm.ClassFile.FieldType.boolean) :: wAll) ({ frames := d + 7, cells := 0, slots := 0, locals := 25 * d + 136 } : Room) (va_Pc [.ref (ad 3 l0 0), .int (iI l1)] (zPre D ca ad lnC K.2 L aS vS F B sz)) (Q_Parser_takeMusic K D ca ad L r F9 B9 (zA L sz)) 0 0 (zA L sz)) ∧ (∀ {sz : Nat} {l0 : Int} {l1 : Int} {F F9 : zF} {B B9 : zB} {r : Int}, o.2.2.1 l0 l1 F B = some (r, F9, B9) → Met l ({ cls := "StaveHouse$Parser", name := "takeItem", desc := "(I)Z" } : Jvm.MethodName) (Cond.code ({ cls := "StaveHouse$Parser", name := "takeItem", desc := "(I)Z" } : Jvm.MethodName) prog_5_method_22_code 2 (Option.some Jvm.ClassFile.FieldType.boolean) :: wAll) ({ frames := d + 7, cells := 0, slots := 0, locals := 25 * d + 136 } : Room) (va_Pc [.ref (ad 3 l0 0), .int (iI l1)] (zPre D ca ad lnC K.2 L aS vS F B sz)) (Q_Parser_takeItem K D ca ad L r F9 B9 (zA L sz)) 0 0 (zA L sz)) ∧ (∀ {sz : Nat} {l0 : Int} {l1 : Int} {F F9 : zF} {B B9 : zB} {r : Int}, o.2.2.2.1 l0 l1 F B = some (r, F9, B9) → Met l ({ cls := "StaveHouse$Parser", name := "takeBracket", desc := "(I)Z" } : Jvm.MethodName) (Cond.code ({ cls := "StaveHouse$Parser", name := "takeBracket", desc := "(I)Z" } : Jvm.MethodName) prog_5_method_30_code 2 (Option.some Jvm.ClassFile.FieldType.boolean) :: wAll) ({ frames := d + 7, cells := 0, slots := 0, locals := 25 * d + 136 } : Room) (va_Pc [.ref (ad 3 l0 0), .int (iI l1)] (zPre D ca ad lnC K.2 L aS vS F B sz)) (Q_Parser_takeBracket K D ca ad L r F9 B9 (zA L sz)) 0 0 (zA L sz)) ∧ (∀ {sz : Nat} {l0 : Int} {l1 : Int} {F F9 : zF} {B B9 : zB} {r : Int}, o.2.2.2.2.1 l0 l1 F B = some (r, F9, B9) → Met l ({ cls := "StaveHouse$Parser", name := "takeRepeat", desc := "(I)Z" } : Jvm.MethodName) (Cond.code ({ cls := "StaveHouse$Parser", name := "takeRepeat", desc := "(I)Z" } : Jvm.MethodName) prog_5_method_31_code 2 (Option.some Jvm.ClassFile.FieldType.boolean) :: wAll) ({ frames := d + 7, cells := 0, slots := 0, locals := 25 * d + 136 } : Room) (va_Pc [.ref (ad 3 l0 0), .int (iI l1)] (zPre D ca ad lnC K.2 L aS vS F B sz)) (Q_Parser_takeRepeat K D ca ad L r F9 B9 (zA L sz)) 0 0 (zA L sz)) ∧ (∀ {sz : Nat} {l0 : Int} {l1 : Int} {F F9 : zF} {B B9 : zB} {r : Int}, o.2.2.2.2.2.1 l0 l1 F B = some (r, F9, B9) → Met l ({ cls := "StaveHouse$Parser", name := "takeAlternatives", desc := "(I)Z" } : Jvm.MethodName) (Cond.code ({ cls := "StaveHouse$Parser", name := "takeAlternatives", desc := "(I)Z" } : Jvm.MethodName) prog_5_method_32_code 5 (Option.some Jvm.ClassFile.FieldType.boolean) :: wAll) ({ frames := d + 7, cells := 0, slots := 0, locals := 25 * d + 136 } : Room) (va_Pc [.ref (ad 3 l0 0), .int (iI l1)] (zPre D ca ad lnC K.2 L aS vS F B sz)) (Q_Parser_takeAlternatives K D ca ad L r F9 B9 (zA L sz)) 0 0 (zA L sz)) ∧ (∀ {sz : Nat} {l0 : Int} {l1 : Int} {F F9 : zF} {B B9 : zB} {r : Int}, o.2.2.2.2.2.2.1 l0 l1 F B = some (r, F9, B9) → Met l ({ cls := "StaveHouse$Parser", name := "takeMove", desc := "(I)Z" } : Jvm.MethodName) (Cond.code ({ cls := "StaveHouse$Parser", name := "takeMove", desc := "(I)Z" } : Jvm.MethodName) prog_5_method_34_code 4 (Option.some Jvm.ClassFile.FieldType.boolean) :: wAll) ({ frames := d + 7, cells := 0, slots := 0, locals := 25 * d + 136 } : Room) (va_Pc [.ref (ad 3 l0 0), .int (iI l1)] (zPre D ca ad lnC K.2 L aS vS F B sz)) (Q_Parser_takeMove K D ca ad L r F9 B9 (zA L sz)) 0 0 (zA L sz)) ∧ (∀ {sz : Nat} {l0 : Int} {l1 : Int} {F F9 : zF} {B B9 : zB} {r : Int}, o.2.2.2.2.2.2.2 l0 l1 F B = some (r, F9, B9) → Met l ({ cls := "StaveHouse$Parser", name := "takeMirror", desc := "(I)Z" } : Jvm.MethodName) (Cond.code ({ cls := "StaveHouse$Parser", name := "takeMirror", desc := "(I)Z" } : Jvm.MethodName) prog_5_method_35_code 2 (Option.some Jvm.ClassFile.FieldType.boolean) :: wAll) ({ frames := d + 7, cells := 0, slots := 0, locals := 25 * d + 136 } : Room) (va_Pc [.ref (ad 3 l0 0), .int (iI l1)] (zPre D ca ad lnC K.2 L aS vS F B sz)) (Q_Parser_takeMirror K D ca ad L r F9 B9 (zA L sz)) 0 0 (zA L sz))
def f_Parser_takeBlock_31 (o : oT_CP) (K : zK) (s0 : Int) (F : zF) (B : zB) : zO := if (s0 = 0 ∨ s0 = 1) then some (s0, F, B) else none
set_option maxHeartbeats 4000000 in
set_option maxRecDepth 100000 in
theorem b_Parser_takeBlock_31 {D : va_G} {ca : Nat → ClassId} {ad : Nat → Int → Nat → Nat} {L : List Nat} {aS vS : Nat → Nat} {A : Nat → Prop} {p : Program} {l : Launch} {e : Env} {s : State} {m : MethodId} {args : Array Value} {below : List Frame} {meth : Method} {c : Code} {K : zK} {r : Int} {F9 : zF} {B9 : zB} {d : Nat} {o : oT_CP} (X : zX D ca L aS vS A p s m args meth c prog_5_method_19_code 2 (Option.some Jvm.ClassFile.FieldType.boolean) "StaveHouse$Parser") (ho : oH_CP K l D ca ad L aS vS d o) {s0 : Int} {F : zF} {B : zB} {H : Heap} {locs : List Loc} {ls : Array Slot} (hf : f_Parser_takeBlock_31 o K s0 F B = some (r, F9, B9)) (hZ : zH D ca ad lnC K.2 L F B A H) (hS : va_S A s.heap H locs) (hl : lv_has ls 2 []) : W p l e ({ frames := d + 1 + 7, cells := 0, slots := 0, locals := 25 * (d + 1) + 136 } : Room) s m args below meth c H locs 0 0 (MQ below (Q_Parser_takeBlock K D ca ad L r F9 B9 A) args s 0 0 A) (F0 m 31 ls [.int (iI s0)]) := by
  obtain ⟨hx, hb, hr, hml, hown, hts, hlk, hK, hA, hL, hX⟩ := id X
  replace hf : (if (s0 = 0 ∨ s0 = 1) then some (s0, F, B) else none) = some (r, F9, B9) := hf
  obtain ⟨g11, hf⟩ := gif hf
  cases hf
  exact W.zret hx hb hr (zbool g11) (fun t ht hW => ⟨⟨_, (), rfl, rfl, by rw [ht]; exact hZ, va_K.moved hW.alike hK⟩, hS.F ht⟩) hS.2.2 (D_172 W_prog_5_method_19_code_0 31 rfl rfl) hlk

def f_Parser_takeBlock_30 (o : oT_CP) (K : zK)  (F : zF) (B : zB) : zO := f_Parser_takeBlock_31 o K 0 F B
set_option maxHeartbeats 4000000 in
set_option maxRecDepth 100000 in
theorem b_Parser_takeBlock_30 {D : va_G} {ca : Nat → ClassId} {ad : Nat → Int → Nat → Nat} {L : List Nat} {aS vS : Nat → Nat} {A : Nat → Prop} {p : Program} {l : Launch} {e : Env} {s : State} {m : MethodId} {args : Array Value} {below : List Frame} {meth : Method} {c : Code} {K : zK} {r : Int} {F9 : zF} {B9 : zB} {d : Nat} {o : oT_CP} (X : zX D ca L aS vS A p s m args meth c prog_5_method_19_code 2 (Option.some Jvm.ClassFile.FieldType.boolean) "StaveHouse$Parser") (ho : oH_CP K l D ca ad L aS vS d o)  {F : zF} {B : zB} {H : Heap} {locs : List Loc} {ls : Array Slot} (hf : f_Parser_takeBlock_30 o K  F B = some (r, F9, B9)) (hZ : zH D ca ad lnC K.2 L F B A H) (hS : va_S A s.heap H locs) (hl : lv_has ls 2 []) : W p l e ({ frames := d + 1 + 7, cells := 0, slots := 0, locals := 25 * (d + 1) + 136 } : Room) s m args below meth c H locs 0 0 (MQ below (Q_Parser_takeBlock K D ca ad L r F9 B9 A) args s 0 0 A) (F0 m 30 ls []) := by
  obtain ⟨hx, hb, hr, hml, hown, hts, hlk, hK, hA, hL, hX⟩ := id X
  replace hf : (f_Parser_takeBlock_31 o K 0 F B) = some (r, F9, B9) := hf
  refine lv_iconst (v := iI 0) hx hb (D_3 W_prog_5_method_19_code_0 30 rfl rfl) rfl ?_
  exact b_Parser_takeBlock_31 X ho hf hZ hS (lv_sub hl [] rfl)

def fb_Parser_takeBlock (o : oT_CP) (K : zK) (l0 : Int) (l1 : Int) (F : zF) (B : zB) : zO := if 0 ≤ l0 ∧ l0 < K.2 3 then zbind (f_Parser_takeOpening K l0 123 F B) (fun r2 F2 B2 => if r32 r2 then (if r2 = 0 then f_Parser_takeBlock_30 o K F2 B2 else zbind (o.2.1 l0 l1 F2 B2) (fun r5 F5 B5 => if r32 r5 then (if r5 = 0 then f_Parser_takeBlock_30 o K F5 B5 else zbind (f_Parser_takeClosing K l0 125 F5 B5) (fun r8 F8 B8 => if r32 r8 then (if r8 = 0 then f_Parser_takeBlock_30 o K F8 B8 else f_Parser_takeBlock_31 o K 1 F8 B8) else none)) else none)) else none) else none
set_option maxHeartbeats 4000000 in
set_option maxRecDepth 100000 in
theorem cb_Parser_takeBlock {l : Launch} {D : va_G} {ca : Nat → ClassId} {ad : Nat → Int → Nat → Nat} {L : List Nat} {aS vS : Nat → Nat} {sz : Nat} {K : zK} {d : Nat} {o : oT_CP} (ho : oH_CP K l D ca ad L aS vS d o)  {l0 : Int} {l1 : Int} {F F9 : zF} {B B9 : zB} {r : Int} (hf : fb_Parser_takeBlock o K l0 l1 F B = some (r, F9, B9)) : Met l ({ cls := "StaveHouse$Parser", name := "takeBlock", desc := "(I)Z" } : Jvm.MethodName) (Cond.code ({ cls := "StaveHouse$Parser", name := "takeBlock", desc := "(I)Z" } : Jvm.MethodName) prog_5_method_19_code 2 (Option.some Jvm.ClassFile.FieldType.boolean) :: wAll) ({ frames := d + 1 + 7, cells := 0, slots := 0, locals := 25 * (d + 1) + 136 } : Room) (va_Pc [.ref (ad 3 l0 0), .int (iI l1)] (zPre D ca ad lnC K.2 L aS vS F B sz)) (Q_Parser_takeBlock K D ca ad L r F9 B9 (zA L sz)) 0 0 (zA L sz) := by
  refine zMet (Qc := Q_Parser_takeBlock K D ca ad L r F9 B9) (lv := [(0, .ref (ad 3 l0 0)), (1, .int (iI l1))]) (by decide) (Nat.le_of_ble_eq_true rfl) rfl (fun A p e s m below meth c ls X hZ hS hl => ?_)
  obtain ⟨hx, hb, hr, hml, hown, hts, hlk, hK, hA, hL, hX⟩ := id X
  replace hf : (if 0 ≤ l0 ∧ l0 < K.2 3 then zbind (f_Parser_takeOpening K l0 123 F B) (fun r2 F2 B2 => if r32 r2 then (if r2 = 0 then f_Parser_takeBlock_30 o K F2 B2 else zbind (o.2.1 l0 l1 F2 B2) (fun r5 F5 B5 => if r32 r5 then (if r5 = 0 then f_Parser_takeBlock_30 o K F5 B5 else zbind (f_Parser_takeClosing K l0 125 F5 B5) (fun r8 F8 B8 => if r32 r8 then (if r8 = 0 then f_Parser_takeBlock_30 o K F8 B8 else f_Parser_takeBlock_31 o K 1 F8 B8) else none)) else none)) else none) else none) = some (r, F9, B9) := hf
  refine lv_aload_n hx hb (D_42 W_prog_5_method_19_code_0 0 rfl rfl) rfl (lv_at hl 0 rfl) ?_
  refine lv_bipush (v := iI 123) hx hb (D_16 W_prog_5_method_19_code_0 1 rfl rfl rfl) (by decide) ?_
  obtain ⟨g1, hf⟩ := gif hf
  obtain ⟨r2, F2, B2, hc2, hf⟩ := gbind hf
  refine va_calli (va_runV (As := [.int (iI 123)]) (rest := []) ⟨hx, hb, hml, hown, hts⟩ (c_Parser_takeOpening (l := l) hc2) (cwV 1 hts (gdV k_3_216 k_3_218 ks_11 k_1_4 k_3_219) rfl rfl rfl (by decide +kernel) ⟨by dsimp only; omega, by dsimp only; omega⟩) (zPV X hZ hS (ci := 3) g1.1 g1.2 (r := (RX3, TX3, 22)) rfl [.int (iI 123)]) rfl rfl hl.1 rfl (lv_room (Nat.le_of_ble_eq_true rfl)) (D_182 W_prog_5_method_19_code_0 3 rfl rfl rfl) ⟨Nat.le_of_ble_eq_true rfl, Nat.le_of_ble_eq_true rfl⟩) hS (fun q _ h => zAin X hS q h) (zAin X hS) (fun p2 u2 t2 H2 locs2 ht2 hv2 hw2 hB2 hz2 hk2 hS2 => ?_)
  have hZ2 := zBack X ht2 hB2
  subst hw2
  obtain ⟨g3, hf⟩ := gif hf
  refine z0eq (tgt := 30) hx hb g3 (D_153 W_prog_5_method_19_code_0 6 rfl rfl rfl) (by decide) (fun h4 => ?_) (fun h4 => ?_)
  · replace hf := gpos hf h4
    exact b_Parser_takeBlock_30 X ho hf hZ2 hS2 (lv_sub hl [] rfl)
  · replace hf := gneg hf h4
    refine lv_aload_n hx hb (D_42 W_prog_5_method_19_code_0 9 rfl rfl) rfl (lv_at hl 0 rfl) ?_
    refine lv_iload_n hx hb (D_27 W_prog_5_method_19_code_0 10 rfl rfl) rfl (lv_at hl 1 rfl) ?_
    obtain ⟨r5, F5, B5, hc5, hf⟩ := gbind hf
    refine va_calli (va_runV (As := [.int (iI l1)]) (rest := []) ⟨hx, hb, hml, hown, hts⟩ (ho.2.1 hc5) (cwV 1 hts (gdV k_3_220 k_3_222 ks_12 k_1_4 k_3_223) rfl rfl rfl (by decide +kernel) ⟨by dsimp only; omega, by dsimp only; omega⟩) (zPV X hZ2 hS2 (ci := 3) g1.1 g1.2 (r := (RX3, TX3, 22)) rfl [.int (iI l1)]) rfl rfl hl.1 rfl (lv_room (Nat.le_of_ble_eq_true rfl)) (D_182 W_prog_5_method_19_code_0 11 rfl rfl rfl) ⟨Nat.le_of_ble_eq_true rfl, Nat.le_of_ble_eq_true rfl⟩) hS2 (fun q _ h => zAin X hS2 q h) (zAin X hS2) (fun p5 u5 t5 H5 locs5 ht5 hv5 hw5 hB5 hz5 hk5 hS5 => ?_)
    have hZ5 := zBack X ht5 hB5
    subst hw5
    obtain ⟨g6, hf⟩ := gif hf
    refine z0eq (tgt := 30) hx hb g6 (D_153 W_prog_5_method_19_code_0 14 rfl rfl rfl) (by decide) (fun h7 => ?_) (fun h7 => ?_)
    · replace hf := gpos hf h7
      exact b_Parser_takeBlock_30 X ho hf hZ5 hS5 (lv_sub hl [] rfl)
    · replace hf := gneg hf h7
      refine lv_aload_n hx hb (D_42 W_prog_5_method_19_code_0 17 rfl rfl) rfl (lv_at hl 0 rfl) ?_
      refine lv_bipush (v := iI 125) hx hb (D_16 W_prog_5_method_19_code_0 18 rfl rfl rfl) (by decide) ?_
      obtain ⟨r8, F8, B8, hc8, hf⟩ := gbind hf
      refine va_calli (va_runV (As := [.int (iI 125)]) (rest := []) ⟨hx, hb, hml, hown, hts⟩ (c_Parser_takeClosing (l := l) hc8) (cwV 1 hts (gdV k_4_37 k_4_39 ks_23 k_1_4 k_4_40) rfl rfl rfl (by decide +kernel) ⟨by dsimp only; omega, by dsimp only; omega⟩) (zPV X hZ5 hS5 (ci := 3) g1.1 g1.2 (r := (RX3, TX3, 22)) rfl [.int (iI 125)]) rfl rfl hl.1 rfl (lv_room (Nat.le_of_ble_eq_true rfl)) (D_182 W_prog_5_method_19_code_0 20 rfl rfl rfl) ⟨Nat.le_of_ble_eq_true rfl, Nat.le_of_ble_eq_true rfl⟩) hS5 (fun q _ h => zAin X hS5 q h) (zAin X hS5) (fun p8 u8 t8 H8 locs8 ht8 hv8 hw8 hB8 hz8 hk8 hS8 => ?_)
      have hZ8 := zBack X ht8 hB8
      subst hw8
      obtain ⟨g9, hf⟩ := gif hf
      refine z0eq (tgt := 30) hx hb g9 (D_153 W_prog_5_method_19_code_0 23 rfl rfl rfl) (by decide) (fun h10 => ?_) (fun h10 => ?_)
      · replace hf := gpos hf h10
        exact b_Parser_takeBlock_30 X ho hf hZ8 hS8 (lv_sub hl [] rfl)
      · replace hf := gneg hf h10
        refine lv_iconst (v := iI 1) hx hb (D_4 W_prog_5_method_19_code_0 26 rfl rfl) rfl ?_
        refine lv_goto (tgt := 31) hx hb (D_167 W_prog_5_method_19_code_0 27 rfl rfl rfl) (by decide) ?_
        exact b_Parser_takeBlock_31 X ho hf hZ8 hS8 (lv_sub hl [] rfl)

def f_Parser_takeMusic_57 (o : oT_CP) (rec4 : Int → Int → Int → Int → zF → zB → zO) (K : zK) (l5 : Int) (l3 : Int) (l0 : Int) (l1 : Int) (F : zF) (B : zB) : zO := if 0 ≤ l0 ∧ l0 < K.2 3 then zbind (o.2.2.1 l0 l5 F B) (fun r15 F15 B15 => if r32 r15 then (if r15 = 0 then some (0, F15, B15) else rec4 (l3 + 1) l5 l0 l1 F15 B15) else none) else none
set_option maxHeartbeats 4000000 in
set_option maxRecDepth 100000 in
theorem b_Parser_takeMusic_57 {D : va_G} {ca : Nat → ClassId} {ad : Nat → Int → Nat → Nat} {L : List Nat} {aS vS : Nat → Nat} {A : Nat → Prop} {p : Program} {l : Launch} {e : Env} {s : State} {m : MethodId} {args : Array Value} {below : List Frame} {meth : Method} {c : Code} {K : zK} {r : Int} {F9 : zF} {B9 : zB} {d : Nat} {o : oT_CP} (X : zX D ca L aS vS A p s m args meth c prog_5_method_20_code 6 (Option.some Jvm.ClassFile.FieldType.boolean) "StaveHouse$Parser") (ho : oH_CP K l D ca ad L aS vS d o) {rec4 : Int → Int → Int → Int → zF → zB → zO} (hrec4 : ∀ {l3 : Int} {l2 : Int} {l0 : Int} {l1 : Int} {F : zF} {B : zB} {H : Heap} {locs : List Loc} {ls : Array Slot}, rec4 l3 l2 l0 l1 F B = some (r, F9, B9) → zH D ca ad lnC K.2 L F B A H → va_S A s.heap H locs → lv_has ls 6 [(3, .int (iI l3)), (2, .int (iI l2)), (0, .ref (ad 3 l0 0)), (1, .int (iI l1))] → W p l e ({ frames := d + 1 + 7, cells := 0, slots := 0, locals := 25 * (d + 1) + 136 } : Room) s m args below meth c H locs 0 0 (MQ below (Q_Parser_takeMusic K D ca ad L r F9 B9 A) args s 0 0 A) (F0 m 4 ls [])) {l5 : Int} {l3 : Int} {l0 : Int} {l1 : Int} {F : zF} {B : zB} {H : Heap} {locs : List Loc} {ls : Array Slot} (hf : f_Parser_takeMusic_57 o rec4 K l5 l3 l0 l1 F B = some (r, F9, B9)) (hZ : zH D ca ad lnC K.2 L F B A H) (hS : va_S A s.heap H locs) (hl : lv_has ls 6 [(5, .int (iI l5)), (3, .int (iI l3)), (0, .ref (ad 3 l0 0)), (1, .int (iI l1))]) : W p l e ({ frames := d + 1 + 7, cells := 0, slots := 0, locals := 25 * (d + 1) + 136 } : Room) s m args below meth c H locs 0 0 (MQ below (Q_Parser_takeMusic K D ca ad L r F9 B9 A) args s 0 0 A) (F0 m 57 ls []) := by
  obtain ⟨hx, hb, hr, hml, hown, hts, hlk, hK, hA, hL, hX⟩ := id X
  replace hf : (if 0 ≤ l0 ∧ l0 < K.2 3 then zbind (o.2.2.1 l0 l5 F B) (fun r15 F15 B15 => if r32 r15 then (if r15 = 0 then some (0, F15, B15) else rec4 (l3 + 1) l5 l0 l1 F15 B15) else none) else none) = some (r, F9, B9) := hf
  refine lv_iload hx hb (D_21 W_prog_5_method_20_code_32 25 rfl rfl) (lv_at hl 0 rfl) ?_
  refine lv_istore_n (lv' := [(2, .int (iI l5)), (5, .int (iI l5)), (3, .int (iI l3)), (0, .ref (ad 3 l0 0)), (1, .int (iI l1))]) hx hb (D_61 W_prog_5_method_20_code_32 27 rfl rfl) rfl hl (by decide) rfl (fun ls hl => ?_)
  refine lv_aload_n hx hb (D_42 W_prog_5_method_20_code_32 28 rfl rfl) rfl (lv_at hl 3 rfl) ?_
  refine lv_iload hx hb (D_21 W_prog_5_method_20_code_32 29 rfl rfl) (lv_at hl 1 rfl) ?_
  obtain ⟨g14, hf⟩ := gif hf
  obtain ⟨r15, F15, B15, hc15, hf⟩ := gbind hf
  refine va_calli (va_runV (As := [.int (iI l5)]) (rest := []) ⟨hx, hb, hml, hown, hts⟩ (ho.2.2.1 hc15) (cwV 1 hts (gdV k_3_229 k_3_231 ks_14 k_1_4 k_3_232) rfl rfl rfl (by decide +kernel) ⟨by dsimp only; omega, by dsimp only; omega⟩) (zPV X hZ hS (ci := 3) g14.1 g14.2 (r := (RX3, TX3, 22)) rfl [.int (iI l5)]) rfl rfl hl.1 rfl (lv_room (Nat.le_of_ble_eq_true rfl)) (D_182 W_prog_5_method_20_code_32 31 rfl rfl rfl) ⟨Nat.le_of_ble_eq_true rfl, Nat.le_of_ble_eq_true rfl⟩) hS (fun q _ h => zAin X hS q h) (zAin X hS) (fun p15 u15 t15 H15 locs15 ht15 hv15 hw15 hB15 hz15 hk15 hS15 => ?_)
  have hZ15 := zBack X ht15 hB15
  subst hw15
  obtain ⟨g16, hf⟩ := gif hf
  refine z0ne (tgt := 71) hx hb g16 (D_154 W_prog_5_method_20_code_64 2 rfl rfl rfl) (by decide) (fun h17 => ?_) (fun h17 => ?_)
  · replace hf := gneg hf h17
    refine lv_iinc (v := iI (l3 + 1)) (lv' := [(3, .int (iI (l3 + 1))), (2, .int (iI l5)), (5, .int (iI l5)), (0, .ref (ad 3 l0 0)), (1, .int (iI l1))]) hx hb d_5_20_71 hl (k := 2) rfl (iI_add _ 1) (by decide) rfl (fun ls hl => ?_)
    refine lv_goto (tgt := 4) hx hb (D_167 W_prog_5_method_20_code_64 10 rfl rfl rfl) (by decide) ?_
    exact hrec4 hf hZ15 hS15 (lv_sub hl [0, 1, 3, 4] rfl)
  · replace hf := gpos hf h17
    refine lv_iconst (v := iI 0) hx hb (D_3 W_prog_5_method_20_code_64 5 rfl rfl) rfl ?_
    cases hf
    exact W.zret hx hb hr rfl (fun t ht hW => ⟨⟨_, (), rfl, rfl, by rw [ht]; exact hZ15, va_K.moved hW.alike hK⟩, hS15.F ht⟩) hS15.2.2 (D_172 W_prog_5_method_20_code_64 6 rfl rfl) hlk

def f_Parser_takeMusic_4 (o : oT_CP) (K : zK) : Nat → Int → Int → Int → Int → zF → zB → zO
  | 0, _, _, _, _, _, _ => none
  | n + 1, l3, l2, l0, l1, F, B => if r32 l3 then (if 3000 ≤ l3 then some (1, F, B) else if 0 ≤ l0 ∧ l0 < K.2 3 then zbind (f_Parser_itemSort K l0 F B) (fun r4 F4 B4 => if r32 r4 then (if r4 = (-1) then some (1, F4, B4) else zbind (f_Parser_newItem K l0 r4 F4 B4) (fun r7 F7 B7 => if r32 l2 then (if l2 = (-1) then if 0 ≤ l1 ∧ l1 < 3000 then f_Parser_takeMusic_57 o (f_Parser_takeMusic_4 o K n) K r7 l3 l0 l1 F7 (zup4 B7 3 l0 4 l1 r7) else none else if 0 ≤ l2 ∧ l2 < 3000 then f_Parser_takeMusic_57 o (f_Parser_takeMusic_4 o K n) K r7 l3 l0 l1 F7 (zup4 B7 3 l0 5 l2 r7) else none) else none)) else none) else none) else none
set_option maxHeartbeats 4000000 in
set_option maxRecDepth 100000 in
theorem b_Parser_takeMusic_4 {D : va_G} {ca : Nat → ClassId} {ad : Nat → Int → Nat → Nat} {L : List Nat} {aS vS : Nat → Nat} {A : Nat → Prop} {p : Program} {l : Launch} {e : Env} {s : State} {m : MethodId} {args : Array Value} {below : List Frame} {meth : Method} {c : Code} {K : zK} {r : Int} {F9 : zF} {B9 : zB} {d : Nat} {o : oT_CP} (X : zX D ca L aS vS A p s m args meth c prog_5_method_20_code 6 (Option.some Jvm.ClassFile.FieldType.boolean) "StaveHouse$Parser") (ho : oH_CP K l D ca ad L aS vS d o) : ∀ {n : Nat} {l3 : Int} {l2 : Int} {l0 : Int} {l1 : Int} {F : zF} {B : zB} {H : Heap} {locs : List Loc} {ls : Array Slot}, f_Parser_takeMusic_4 o K n l3 l2 l0 l1 F B = some (r, F9, B9) → zH D ca ad lnC K.2 L F B A H → va_S A s.heap H locs → lv_has ls 6 [(3, .int (iI l3)), (2, .int (iI l2)), (0, .ref (ad 3 l0 0)), (1, .int (iI l1))] → W p l e ({ frames := d + 1 + 7, cells := 0, slots := 0, locals := 25 * (d + 1) + 136 } : Room) s m args below meth c H locs 0 0 (MQ below (Q_Parser_takeMusic K D ca ad L r F9 B9 A) args s 0 0 A) (F0 m 4 ls []) := by
  obtain ⟨hx, hb, hr, hml, hown, hts, hlk, hK, hA, hL, hX⟩ := id X
  intro n
  induction n with
  | zero =>
    intros
    rename_i hf _ _ _
    cases hf
  | succ n ih =>
    intro l3 l2 l0 l1 F B H locs ls hf hZ hS hl
    replace hf : (if r32 l3 then (if 3000 ≤ l3 then some (1, F, B) else if 0 ≤ l0 ∧ l0 < K.2 3 then zbind (f_Parser_itemSort K l0 F B) (fun r4 F4 B4 => if r32 r4 then (if r4 = (-1) then some (1, F4, B4) else zbind (f_Parser_newItem K l0 r4 F4 B4) (fun r7 F7 B7 => if r32 l2 then (if l2 = (-1) then if 0 ≤ l1 ∧ l1 < 3000 then f_Parser_takeMusic_57 o (f_Parser_takeMusic_4 o K n) K r7 l3 l0 l1 F7 (zup4 B7 3 l0 4 l1 r7) else none else if 0 ≤ l2 ∧ l2 < 3000 then f_Parser_takeMusic_57 o (f_Parser_takeMusic_4 o K n) K r7 l3 l0 l1 F7 (zup4 B7 3 l0 5 l2 r7) else none) else none)) else none) else none) else none) = some (r, F9, B9) := hf
    refine lv_iload_n hx hb (D_29 W_prog_5_method_20_code_0 4 rfl rfl) rfl (lv_at hl 0 rfl) ?_
    refine lv_sipush (v := iI 3000) hx hb (D_17 W_prog_5_method_20_code_0 5 rfl rfl rfl) (by decide) ?_
    obtain ⟨g1, hf⟩ := gif hf
    refine zge (tgt := 77) hx hb g1 (by decide) (D_162 W_prog_5_method_20_code_0 8 rfl rfl rfl) (by decide) (fun h2 => ?_) (fun h2 => ?_)
    · replace hf := gpos hf h2
      refine lv_iconst (v := iI 1) hx hb (D_4 W_prog_5_method_20_code_64 13 rfl rfl) rfl ?_
      cases hf
      exact W.zret hx hb hr rfl (fun t ht hW => ⟨⟨_, (), rfl, rfl, by rw [ht]; exact hZ, va_K.moved hW.alike hK⟩, hS.F ht⟩) hS.2.2 (D_172 W_prog_5_method_20_code_64 14 rfl rfl) hlk
    · replace hf := gneg hf h2
      refine lv_aload_n hx hb (D_42 W_prog_5_method_20_code_0 11 rfl rfl) rfl (lv_at hl 2 rfl) ?_
      obtain ⟨g3, hf⟩ := gif hf
      obtain ⟨r4, F4, B4, hc4, hf⟩ := gbind hf
      refine va_calli (va_runV (As := []) (rest := []) ⟨hx, hb, hml, hown, hts⟩ (c_Parser_itemSort (l := l) hc4) (cwV 0 hts (gdV k_3_224 k_3_226 ks_13 k_1_4 k_3_227) rfl rfl rfl (by decide +kernel) ⟨by dsimp only; omega, by dsimp only; omega⟩) (zPV X hZ hS (ci := 3) g3.1 g3.2 (r := (RX3, TX3, 22)) rfl []) rfl rfl hl.1 rfl (lv_room (Nat.le_of_ble_eq_true rfl)) (D_182 W_prog_5_method_20_code_0 12 rfl rfl rfl) ⟨Nat.le_of_ble_eq_true rfl, Nat.le_of_ble_eq_true rfl⟩) hS (fun q _ h => zAin X hS q h) (zAin X hS) (fun p4 u4 t4 H4 locs4 ht4 hv4 hw4 hB4 hz4 hk4 hS4 => ?_)
      have hZ4 := zBack X ht4 hB4
      subst hw4
      refine lv_istore (lv' := [(4, .int (iI r4)), (3, .int (iI l3)), (2, .int (iI l2)), (0, .ref (ad 3 l0 0)), (1, .int (iI l1))]) hx hb (D_54 W_prog_5_method_20_code_0 15 rfl rfl) hl (by decide) rfl (fun ls hl => ?_)
      refine lv_iload hx hb (D_21 W_prog_5_method_20_code_0 17 rfl rfl) (lv_at hl 0 rfl) ?_
      refine lv_iconst (v := iI (-1)) hx hb (D_2 W_prog_5_method_20_code_0 19 rfl rfl) rfl ?_
      obtain ⟨g5, hf⟩ := gif hf
      refine zne (tgt := 25) hx hb g5 (by decide) (D_160 W_prog_5_method_20_code_0 20 rfl rfl rfl) (by decide) (fun h6 => ?_) (fun h6 => ?_)
      · replace hf := gneg hf h6
        refine lv_aload_n hx hb (D_42 W_prog_5_method_20_code_0 25 rfl rfl) rfl (lv_at hl 3 rfl) ?_
        refine lv_iload hx hb (D_21 W_prog_5_method_20_code_0 26 rfl rfl) (lv_at hl 0 rfl) ?_
        obtain ⟨r7, F7, B7, hc7, hf⟩ := gbind hf
        refine va_calli (va_runV (As := [.int (iI r4)]) (rest := []) ⟨hx, hb, hml, hown, hts⟩ (c_Parser_newItem (l := l) hc7) (cwV 1 hts (gdV k_3_175 k_3_177 ks_5 k_1_4 k_3_178) rfl rfl rfl (by decide +kernel) ⟨by dsimp only; omega, by dsimp only; omega⟩) (zPV X hZ4 hS4 (ci := 3) g3.1 g3.2 (r := (RX3, TX3, 22)) rfl [.int (iI r4)]) rfl rfl hl.1 rfl (lv_room (Nat.le_of_ble_eq_true rfl)) (D_182 W_prog_5_method_20_code_0 28 rfl rfl rfl) ⟨Nat.le_of_ble_eq_true rfl, Nat.le_of_ble_eq_true rfl⟩) hS4 (fun q _ h => zAin X hS4 q h) (zAin X hS4) (fun p7 u7 t7 H7 locs7 ht7 hv7 hw7 hB7 hz7 hk7 hS7 => ?_)
        have hZ7 := zBack X ht7 hB7
        subst hw7
        refine lv_istore (lv' := [(5, .int (iI r7)), (4, .int (iI r4)), (3, .int (iI l3)), (2, .int (iI l2)), (0, .ref (ad 3 l0 0)), (1, .int (iI l1))]) hx hb (D_54 W_prog_5_method_20_code_0 31 rfl rfl) hl (by decide) rfl (fun ls hl => ?_)
        refine lv_iload_n hx hb (D_28 W_prog_5_method_20_code_32 1 rfl rfl) rfl (lv_at hl 3 rfl) ?_
        refine lv_iconst (v := iI (-1)) hx hb (D_2 W_prog_5_method_20_code_32 2 rfl rfl) rfl ?_
        obtain ⟨g8, hf⟩ := gif hf
        refine zne (tgt := 49) hx hb g8 (by decide) (D_160 W_prog_5_method_20_code_32 3 rfl rfl rfl) (by decide) (fun h9 => ?_) (fun h9 => ?_)
        · replace hf := gneg hf h9
          refine lv_aload_n hx hb (D_42 W_prog_5_method_20_code_32 17 rfl rfl) rfl (lv_at hl 4 rfl) ?_
          refine zget (ci := 3) (C := RX3) (T := TX3) (v := .ref (ad 3 l0 (5 + 1))) (k := 5) hx hb hts inW_3 hown hK hZ7 g3.1 g3.2 rfl (by decide) k_1_116 rfl (D_180 W_prog_5_method_20_code_32 18 rfl rfl rfl) ?_
          refine lv_iload_n hx hb (D_28 W_prog_5_method_20_code_32 21 rfl rfl) rfl (lv_at hl 3 rfl) ?_
          refine lv_iload hx hb (D_21 W_prog_5_method_20_code_32 22 rfl rfl) (lv_at hl 0 rfl) ?_
          obtain ⟨g10, hf⟩ := gif hf
          refine zast (ci := 3) (k := 5) hx hb hK rfl hZ7 hS7 g3.1 g3.2 rfl (Nat.le_of_ble_eq_true rfl) g10.1 g10.2 (D_79 W_prog_5_method_20_code_32 24 rfl rfl) (fun H11 locs11 hZ11 hS11 => ?_)
          exact b_Parser_takeMusic_57 X ho ih hf hZ11 hS11 (lv_sub hl [0, 2, 4, 5] rfl)
        · replace hf := gpos hf h9
          refine lv_aload_n hx hb (D_42 W_prog_5_method_20_code_32 6 rfl rfl) rfl (lv_at hl 4 rfl) ?_
          refine zget (ci := 3) (C := RX3) (T := TX3) (v := .ref (ad 3 l0 (4 + 1))) (k := 4) hx hb hts inW_3 hown hK hZ7 g3.1 g3.2 rfl (by decide) k_1_114 rfl (D_180 W_prog_5_method_20_code_32 7 rfl rfl rfl) ?_
          refine lv_iload_n hx hb (D_27 W_prog_5_method_20_code_32 10 rfl rfl) rfl (lv_at hl 5 rfl) ?_
          refine lv_iload hx hb (D_21 W_prog_5_method_20_code_32 11 rfl rfl) (lv_at hl 0 rfl) ?_
          obtain ⟨g12, hf⟩ := gif hf
          refine zast (ci := 3) (k := 4) hx hb hK rfl hZ7 hS7 g3.1 g3.2 rfl (Nat.le_of_ble_eq_true rfl) g12.1 g12.2 (D_79 W_prog_5_method_20_code_32 13 rfl rfl) (fun H13 locs13 hZ13 hS13 => ?_)
          refine lv_goto (tgt := 57) hx hb (D_167 W_prog_5_method_20_code_32 14 rfl rfl rfl) (by decide) ?_
          exact b_Parser_takeMusic_57 X ho ih hf hZ13 hS13 (lv_sub hl [0, 2, 4, 5] rfl)
      · replace hf := gpos hf h6
        refine lv_iconst (v := iI 1) hx hb (D_4 W_prog_5_method_20_code_0 23 rfl rfl) rfl ?_
        cases hf
        exact W.zret hx hb hr rfl (fun t ht hW => ⟨⟨_, (), rfl, rfl, by rw [ht]; exact hZ4, va_K.moved hW.alike hK⟩, hS4.F ht⟩) hS4.2.2 (D_172 W_prog_5_method_20_code_0 24 rfl rfl) hlk

def fb_Parser_takeMusic (o : oT_CP) (K : zK) (l0 : Int) (l1 : Int) (F : zF) (B : zB) : zO := f_Parser_takeMusic_4 o K K.1 0 (-1) l0 l1 F B
set_option maxHeartbeats 4000000 in
set_option maxRecDepth 100000 in
theorem cb_Parser_takeMusic {l : Launch} {D : va_G} {ca : Nat → ClassId} {ad : Nat → Int → Nat → Nat} {L : List Nat} {aS vS : Nat → Nat} {sz : Nat} {K : zK} {d : Nat} {o : oT_CP} (ho : oH_CP K l D ca ad L aS vS d o)  {l0 : Int} {l1 : Int} {F F9 : zF} {B B9 : zB} {r : Int} (hf : fb_Parser_takeMusic o K l0 l1 F B = some (r, F9, B9)) : Met l ({ cls := "StaveHouse$Parser", name := "takeMusic", desc := "(I)Z" } : Jvm.MethodName) (Cond.code ({ cls := "StaveHouse$Parser", name := "takeMusic", desc := "(I)Z" } : Jvm.MethodName) prog_5_method_20_code 6 (Option.some Jvm.ClassFile.FieldType.boolean) :: wAll) ({ frames := d + 1 + 7, cells := 0, slots := 0, locals := 25 * (d + 1) + 136 } : Room) (va_Pc [.ref (ad 3 l0 0), .int (iI l1)] (zPre D ca ad lnC K.2 L aS vS F B sz)) (Q_Parser_takeMusic K D ca ad L r F9 B9 (zA L sz)) 0 0 (zA L sz) := by
  refine zMet (Qc := Q_Parser_takeMusic K D ca ad L r F9 B9) (lv := [(0, .ref (ad 3 l0 0)), (1, .int (iI l1))]) (by decide) (Nat.le_of_ble_eq_true rfl) rfl (fun A p e s m below meth c ls X hZ hS hl => ?_)
  obtain ⟨hx, hb, hr, hml, hown, hts, hlk, hK, hA, hL, hX⟩ := id X
  replace hf : (f_Parser_takeMusic_4 o K K.1 0 (-1) l0 l1 F B) = some (r, F9, B9) := hf
  refine lv_iconst (v := iI (-1)) hx hb (D_2 W_prog_5_method_20_code_0 0 rfl rfl) rfl ?_
  refine lv_istore_n (lv' := [(2, .int (iI (-1))), (0, .ref (ad 3 l0 0)), (1, .int (iI l1))]) hx hb (D_61 W_prog_5_method_20_code_0 1 rfl rfl) rfl hl (by decide) rfl (fun ls hl => ?_)
  refine lv_iconst (v := iI 0) hx hb (D_3 W_prog_5_method_20_code_0 2 rfl rfl) rfl ?_
  refine lv_istore_n (lv' := [(3, .int (iI 0)), (2, .int (iI (-1))), (0, .ref (ad 3 l0 0)), (1, .int (iI l1))]) hx hb (D_62 W_prog_5_method_20_code_0 3 rfl rfl) rfl hl (by decide) rfl (fun ls hl => ?_)
  exact b_Parser_takeMusic_4 X ho hf hZ hS (lv_sub hl [0, 1, 2, 3] rfl)

def f_Parser_takeItem_152 (o : oT_CP) (K : zK) (s0 : Int) (F : zF) (B : zB) : zO := if (s0 = 0 ∨ s0 = 1) then some (s0, F, B) else none
set_option maxHeartbeats 4000000 in
set_option maxRecDepth 100000 in
theorem b_Parser_takeItem_152 {D : va_G} {ca : Nat → ClassId} {ad : Nat → Int → Nat → Nat} {L : List Nat} {aS vS : Nat → Nat} {A : Nat → Prop} {p : Program} {l : Launch} {e : Env} {s : State} {m : MethodId} {args : Array Value} {below : List Frame} {meth : Method} {c : Code} {K : zK} {r : Int} {F9 : zF} {B9 : zB} {d : Nat} {o : oT_CP} (X : zX D ca L aS vS A p s m args meth c prog_5_method_22_code 2 (Option.some Jvm.ClassFile.FieldType.boolean) "StaveHouse$Parser") (ho : oH_CP K l D ca ad L aS vS d o) {s0 : Int} {F : zF} {B : zB} {H : Heap} {locs : List Loc} {ls : Array Slot} (hf : f_Parser_takeItem_152 o K s0 F B = some (r, F9, B9)) (hZ : zH D ca ad lnC K.2 L F B A H) (hS : va_S A s.heap H locs) (hl : lv_has ls 2 []) : W p l e ({ frames := d + 1 + 7, cells := 0, slots := 0, locals := 25 * (d + 1) + 136 } : Room) s m args below meth c H locs 0 0 (MQ below (Q_Parser_takeItem K D ca ad L r F9 B9 A) args s 0 0 A) (F0 m 152 ls [.int (iI s0)]) := by
  obtain ⟨hx, hb, hr, hml, hown, hts, hlk, hK, hA, hL, hX⟩ := id X
  replace hf : (if (s0 = 0 ∨ s0 = 1) then some (s0, F, B) else none) = some (r, F9, B9) := hf
  obtain ⟨g40, hf⟩ := gif hf
  cases hf
  exact W.zret hx hb hr (zbool g40) (fun t ht hW => ⟨⟨_, (), rfl, rfl, by rw [ht]; exact hZ, va_K.moved hW.alike hK⟩, hS.F ht⟩) hS.2.2 (D_172 W_prog_5_method_22_code_128 24 rfl rfl) hlk

def f_Parser_takeItem_151 (o : oT_CP) (K : zK)  (F : zF) (B : zB) : zO := f_Parser_takeItem_152 o K 0 F B
set_option maxHeartbeats 4000000 in
set_option maxRecDepth 100000 in
theorem b_Parser_takeItem_151 {D : va_G} {ca : Nat → ClassId} {ad : Nat → Int → Nat → Nat} {L : List Nat} {aS vS : Nat → Nat} {A : Nat → Prop} {p : Program} {l : Launch} {e : Env} {s : State} {m : MethodId} {args : Array Value} {below : List Frame} {meth : Method} {c : Code} {K : zK} {r : Int} {F9 : zF} {B9 : zB} {d : Nat} {o : oT_CP} (X : zX D ca L aS vS A p s m args meth c prog_5_method_22_code 2 (Option.some Jvm.ClassFile.FieldType.boolean) "StaveHouse$Parser") (ho : oH_CP K l D ca ad L aS vS d o)  {F : zF} {B : zB} {H : Heap} {locs : List Loc} {ls : Array Slot} (hf : f_Parser_takeItem_151 o K  F B = some (r, F9, B9)) (hZ : zH D ca ad lnC K.2 L F B A H) (hS : va_S A s.heap H locs) (hl : lv_has ls 2 []) : W p l e ({ frames := d + 1 + 7, cells := 0, slots := 0, locals := 25 * (d + 1) + 136 } : Room) s m args below meth c H locs 0 0 (MQ below (Q_Parser_takeItem K D ca ad L r F9 B9 A) args s 0 0 A) (F0 m 151 ls []) := by
  obtain ⟨hx, hb, hr, hml, hown, hts, hlk, hK, hA, hL, hX⟩ := id X
  replace hf : (f_Parser_takeItem_152 o K 0 F B) = some (r, F9, B9) := hf
  refine lv_iconst (v := iI 0) hx hb (D_3 W_prog_5_method_22_code_128 23 rfl rfl) rfl ?_
  exact b_Parser_takeItem_152 X ho hf hZ hS (lv_sub hl [] rfl)

def fb_Parser_takeItem (o : oT_CP) (K : zK) (l0 : Int) (l1 : Int) (F : zF) (B : zB) : zO := if 0 ≤ l0 ∧ l0 < K.2 3 then if 0 ≤ l1 ∧ l1 < 3000 then if r32 (B 3 l0 0 l1) then (if (B 3 l0 0 l1) = 0 then zbind (f_Parser_takeEvent K l0 l1 F B) (fun r38 F38 B38 => if (r38 = 0 ∨ r38 = 1) then some (r38, F38, B38) else none) else (if (B 3 l0 0 l1) = 3 then zbind (o.2.2.2.1 l0 l1 F B) (fun r36 F36 B36 => if (r36 = 0 ∨ r36 = 1) then some (r36, F36, B36) else none) else if 0 ≤ (F 3 l0 11) ∧ (F 3 l0 11) < K.2 10 then zbind (f_Tokens_advance K (F 3 l0 11) F B) (fun r7 F7 B7 => if r32 (B7 3 l0 0 l1) then (if (B7 3 l0 0 l1) = 2 then zbind (f_Parser_takeLoud K l0 l1 F7 B7) (fun r10 F10 B10 => if (r10 = 0 ∨ r10 = 1) then some (r10, F10, B10) else none) else (if (B7 3 l0 0 l1) = 3 then some (1, F7, B7) else (if (B7 3 l0 0 l1) = 4 then zbind (o.2.2.2.2.1 l0 l1 F7 B7) (fun r14 F14 B14 => if (r14 = 0 ∨ r14 = 1) then some (r14, F14, B14) else none) else (if (B7 3 l0 0 l1) = 5 then zbind (f_Parser_takeUse K l0 l1 F7 B7) (fun r17 F17 B17 => if (r17 = 0 ∨ r17 = 1) then some (r17, F17, B17) else none) else (if (B7 3 l0 0 l1) = 6 then zbind (o.2.2.2.2.2.2.1 l0 l1 F7 B7) (fun r20 F20 B20 => if (r20 = 0 ∨ r20 = 1) then some (r20, F20, B20) else none) else (if (B7 3 l0 0 l1) = 7 then zbind (o.2.2.2.2.2.2.2 l0 l1 F7 B7) (fun r23 F23 B23 => if (r23 = 0 ∨ r23 = 1) then some (r23, F23, B23) else none) else (if (B7 3 l0 0 l1) = 8 then zbind (o.1 l0 l1 F7 B7) (fun r26 F26 B26 => if (r26 = 0 ∨ r26 = 1) then some (r26, F26, B26) else none) else (if (B7 3 l0 0 l1) = 9 then zbind (f_Parser_takeFraction K l0 l1 1 8 F7 B7) (fun r29 F29 B29 => if r32 r29 then (if r29 = 0 then f_Parser_takeItem_151 o K F29 B29 else zbind (o.1 l0 l1 F29 B29) (fun r33 F33 B33 => if r32 r33 then (if r33 = 0 then f_Parser_takeItem_151 o K F33 B33 else f_Parser_takeItem_152 o K 1 F33 B33) else none)) else none) else some (1, F7, B7))))))))) else none) else none)) else none else none else none
set_option maxHeartbeats 4000000 in
set_option maxRecDepth 100000 in
theorem cb_Parser_takeItem {l : Launch} {D : va_G} {ca : Nat → ClassId} {ad : Nat → Int → Nat → Nat} {L : List Nat} {aS vS : Nat → Nat} {sz : Nat} {K : zK} {d : Nat} {o : oT_CP} (ho : oH_CP K l D ca ad L aS vS d o)  {l0 : Int} {l1 : Int} {F F9 : zF} {B B9 : zB} {r : Int} (hf : fb_Parser_takeItem o K l0 l1 F B = some (r, F9, B9)) : Met l ({ cls := "StaveHouse$Parser", name := "takeItem", desc := "(I)Z" } : Jvm.MethodName) (Cond.code ({ cls := "StaveHouse$Parser", name := "takeItem", desc := "(I)Z" } : Jvm.MethodName) prog_5_method_22_code 2 (Option.some Jvm.ClassFile.FieldType.boolean) :: wAll) ({ frames := d + 1 + 7, cells := 0, slots := 0, locals := 25 * (d + 1) + 136 } : Room) (va_Pc [.ref (ad 3 l0 0), .int (iI l1)] (zPre D ca ad lnC K.2 L aS vS F B sz)) (Q_Parser_takeItem K D ca ad L r F9 B9 (zA L sz)) 0 0 (zA L sz) := by
  refine zMet (Qc := Q_Parser_takeItem K D ca ad L r F9 B9) (lv := [(0, .ref (ad 3 l0 0)), (1, .int (iI l1))]) (by decide) (Nat.le_of_ble_eq_true rfl) rfl (fun A p e s m below meth c ls X hZ hS hl => ?_)
  obtain ⟨hx, hb, hr, hml, hown, hts, hlk, hK, hA, hL, hX⟩ := id X
  replace hf : (if 0 ≤ l0 ∧ l0 < K.2 3 then if 0 ≤ l1 ∧ l1 < 3000 then if r32 (B 3 l0 0 l1) then (if (B 3 l0 0 l1) = 0 then zbind (f_Parser_takeEvent K l0 l1 F B) (fun r38 F38 B38 => if (r38 = 0 ∨ r38 = 1) then some (r38, F38, B38) else none) else (if (B 3 l0 0 l1) = 3 then zbind (o.2.2.2.1 l0 l1 F B) (fun r36 F36 B36 => if (r36 = 0 ∨ r36 = 1) then some (r36, F36, B36) else none) else if 0 ≤ (F 3 l0 11) ∧ (F 3 l0 11) < K.2 10 then zbind (f_Tokens_advance K (F 3 l0 11) F B) (fun r7 F7 B7 => if r32 (B7 3 l0 0 l1) then (if (B7 3 l0 0 l1) = 2 then zbind (f_Parser_takeLoud K l0 l1 F7 B7) (fun r10 F10 B10 => if (r10 = 0 ∨ r10 = 1) then some (r10, F10, B10) else none) else (if (B7 3 l0 0 l1) = 3 then some (1, F7, B7) else (if (B7 3 l0 0 l1) = 4 then zbind (o.2.2.2.2.1 l0 l1 F7 B7) (fun r14 F14 B14 => if (r14 = 0 ∨ r14 = 1) then some (r14, F14, B14) else none) else (if (B7 3 l0 0 l1) = 5 then zbind (f_Parser_takeUse K l0 l1 F7 B7) (fun r17 F17 B17 => if (r17 = 0 ∨ r17 = 1) then some (r17, F17, B17) else none) else (if (B7 3 l0 0 l1) = 6 then zbind (o.2.2.2.2.2.2.1 l0 l1 F7 B7) (fun r20 F20 B20 => if (r20 = 0 ∨ r20 = 1) then some (r20, F20, B20) else none) else (if (B7 3 l0 0 l1) = 7 then zbind (o.2.2.2.2.2.2.2 l0 l1 F7 B7) (fun r23 F23 B23 => if (r23 = 0 ∨ r23 = 1) then some (r23, F23, B23) else none) else (if (B7 3 l0 0 l1) = 8 then zbind (o.1 l0 l1 F7 B7) (fun r26 F26 B26 => if (r26 = 0 ∨ r26 = 1) then some (r26, F26, B26) else none) else (if (B7 3 l0 0 l1) = 9 then zbind (f_Parser_takeFraction K l0 l1 1 8 F7 B7) (fun r29 F29 B29 => if r32 r29 then (if r29 = 0 then f_Parser_takeItem_151 o K F29 B29 else zbind (o.1 l0 l1 F29 B29) (fun r33 F33 B33 => if r32 r33 then (if r33 = 0 then f_Parser_takeItem_151 o K F33 B33 else f_Parser_takeItem_152 o K 1 F33 B33) else none)) else none) else some (1, F7, B7))))))))) else none) else none)) else none else none else none) = some (r, F9, B9) := hf
  refine lv_aload_n hx hb (D_42 W_prog_5_method_22_code_0 0 rfl rfl) rfl (lv_at hl 0 rfl) ?_
  obtain ⟨g1, hf⟩ := gif hf
  refine zget (ci := 3) (C := RX3) (T := TX3) (v := .ref (ad 3 l0 (0 + 1))) (k := 0) hx hb hts inW_3 hown hK hZ g1.1 g1.2 rfl (by decide) k_1_106 rfl (D_180 W_prog_5_method_22_code_0 1 rfl rfl rfl) ?_
  refine lv_iload_n hx hb (D_27 W_prog_5_method_22_code_0 4 rfl rfl) rfl (lv_at hl 1 rfl) ?_
  obtain ⟨g2, hf⟩ := gif hf
  refine zald (ci := 3) (k := 0) hx hb hK rfl hZ g1.1 g1.2 rfl (Nat.le_of_ble_eq_true rfl) g2.1 g2.2 (D_46 W_prog_5_method_22_code_0 5 rfl rfl) ?_
  obtain ⟨g3, hf⟩ := gif hf
  refine z0ne (tgt := 15) hx hb g3 (D_154 W_prog_5_method_22_code_0 6 rfl rfl rfl) (by decide) (fun h4 => ?_) (fun h4 => ?_)
  · replace hf := gneg hf h4
    refine lv_aload_n hx hb (D_42 W_prog_5_method_22_code_0 15 rfl rfl) rfl (lv_at hl 0 rfl) ?_
    refine zget (ci := 3) (C := RX3) (T := TX3) (v := .ref (ad 3 l0 (0 + 1))) (k := 0) hx hb hts inW_3 hown hK hZ g1.1 g1.2 rfl (by decide) k_1_106 rfl (D_180 W_prog_5_method_22_code_0 16 rfl rfl rfl) ?_
    refine lv_iload_n hx hb (D_27 W_prog_5_method_22_code_0 19 rfl rfl) rfl (lv_at hl 1 rfl) ?_
    refine zald (ci := 3) (k := 0) hx hb hK rfl hZ g1.1 g1.2 rfl (Nat.le_of_ble_eq_true rfl) g2.1 g2.2 (D_46 W_prog_5_method_22_code_0 20 rfl rfl) ?_
    refine lv_iconst (v := iI 3) hx hb (D_6 W_prog_5_method_22_code_0 21 rfl rfl) rfl ?_
    refine zne (tgt := 31) hx hb g3 (by decide) (D_160 W_prog_5_method_22_code_0 22 rfl rfl rfl) (by decide) (fun h5 => ?_) (fun h5 => ?_)
    · replace hf := gneg hf h5
      refine lv_aload_n hx hb (D_42 W_prog_5_method_22_code_0 31 rfl rfl) rfl (lv_at hl 0 rfl) ?_
      refine zget (ci := 3) (C := RX3) (T := TX3) (v := va_rf (zrf ad 10 (F 3 l0 11))) (k := 11) hx hb hts inW_3 hown hK hZ g1.1 g1.2 rfl (by decide) k_1_128 rfl (D_180 W_prog_5_method_22_code_32 0 rfl rfl rfl) ?_
      obtain ⟨g6, hf⟩ := gif hf
      refine W.eq (g2 := F0 m 35 ls [.ref (ad 10 (F 3 l0 11) 0)]) (by rw [zrf_pos (ad := ad) (t := 10) g6.1]; try rfl) ?_
      obtain ⟨r7, F7, B7, hc7, hf⟩ := gbind hf
      refine va_callv (va_runV (As := []) (rest := []) ⟨hx, hb, hml, hown, hts⟩ (c_Tokens_advance (l := l) hc7) (cwV 0 hts (gdV k_3_180 k_3_152 k_3_153 k_1_5 k_3_154) rfl rfl rfl (by decide +kernel) ⟨by dsimp only; omega, by dsimp only; omega⟩) (zPV X hZ hS (ci := 10) g6.1 g6.2 (r := (RX10, TX10, 9)) rfl []) rfl rfl hl.1 rfl (lv_room (Nat.le_of_ble_eq_true rfl)) (D_182 W_prog_5_method_22_code_32 3 rfl rfl rfl) ⟨Nat.le_of_ble_eq_true rfl, Nat.le_of_ble_eq_true rfl⟩) hS (fun q _ h => zAin X hS q h) (zAin X hS) (fun u7 t7 H7 locs7 ht7 hv7 hw7 hB7 hz7 hk7 hS7 => ?_)
      have hZ7 := zBack X ht7 hB7
      refine lv_aload_n hx hb (D_42 W_prog_5_method_22_code_32 6 rfl rfl) rfl (lv_at hl 0 rfl) ?_
      refine zget (ci := 3) (C := RX3) (T := TX3) (v := .ref (ad 3 l0 (0 + 1))) (k := 0) hx hb hts inW_3 hown hK hZ7 g1.1 g1.2 rfl (by decide) k_1_106 rfl (D_180 W_prog_5_method_22_code_32 7 rfl rfl rfl) ?_
      refine lv_iload_n hx hb (D_27 W_prog_5_method_22_code_32 10 rfl rfl) rfl (lv_at hl 1 rfl) ?_
      refine zald (ci := 3) (k := 0) hx hb hK rfl hZ7 g1.1 g1.2 rfl (Nat.le_of_ble_eq_true rfl) g2.1 g2.2 (D_46 W_prog_5_method_22_code_32 11 rfl rfl) ?_
      obtain ⟨g8, hf⟩ := gif hf
      by_cases h9 : (B7 3 l0 0 l1) = 2
      · replace hf := gpos hf h9
        refine lv_tableIn (off := 48) (tgt := 92) hx hb d_5_22_44 (by rw [iI_to g8, h9]; decide) (by rw [iI_to g8, h9]; decide) (by rw [iI_to g8, h9]; rfl) (by decide) ?_
        refine lv_aload_n hx hb (D_42 W_prog_5_method_22_code_64 28 rfl rfl) rfl (lv_at hl 0 rfl) ?_
        refine lv_iload_n hx hb (D_27 W_prog_5_method_22_code_64 29 rfl rfl) rfl (lv_at hl 1 rfl) ?_
        obtain ⟨r10, F10, B10, hc10, hf⟩ := gbind hf
        refine va_calli (va_runV (As := [.int (iI l1)]) (rest := []) ⟨hx, hb, hml, hown, hts⟩ (c_Parser_takeLoud (l := l) hc10) (cwV 1 hts (gdV k_4_41 k_4_43 ks_24 k_1_4 k_4_44) rfl rfl rfl (by decide +kernel) ⟨by dsimp only; omega, by dsimp only; omega⟩) (zPV X hZ7 hS7 (ci := 3) g1.1 g1.2 (r := (RX3, TX3, 22)) rfl [.int (iI l1)]) rfl rfl hl.1 rfl (lv_room (Nat.le_of_ble_eq_true rfl)) (D_182 W_prog_5_method_22_code_64 30 rfl rfl rfl) ⟨Nat.le_of_ble_eq_true rfl, Nat.le_of_ble_eq_true rfl⟩) hS7 (fun q _ h => zAin X hS7 q h) (zAin X hS7) (fun p10 u10 t10 H10 locs10 ht10 hv10 hw10 hB10 hz10 hk10 hS10 => ?_)
        have hZ10 := zBack X ht10 hB10
        subst hw10
        obtain ⟨g11, hf⟩ := gif hf
        cases hf
        exact W.zret hx hb hr (zbool g11) (fun t ht hW => ⟨⟨_, (), rfl, rfl, by rw [ht]; exact hZ10, va_K.moved hW.alike hK⟩, hS10.F ht⟩) hS10.2.2 (D_172 W_prog_5_method_22_code_96 1 rfl rfl) hlk
      replace hf := gneg hf h9
      by_cases h12 : (B7 3 l0 0 l1) = 3
      · replace hf := gpos hf h12
        refine lv_tableIn (off := 109) (tgt := 153) hx hb d_5_22_44 (by rw [iI_to g8, h12]; decide) (by rw [iI_to g8, h12]; decide) (by rw [iI_to g8, h12]; rfl) (by decide) ?_
        refine lv_iconst (v := iI 1) hx hb (D_4 W_prog_5_method_22_code_128 25 rfl rfl) rfl ?_
        cases hf
        exact W.zret hx hb hr rfl (fun t ht hW => ⟨⟨_, (), rfl, rfl, by rw [ht]; exact hZ7, va_K.moved hW.alike hK⟩, hS7.F ht⟩) hS7.2.2 (D_172 W_prog_5_method_22_code_128 26 rfl rfl) hlk
      replace hf := gneg hf h12
      by_cases h13 : (B7 3 l0 0 l1) = 4
      · replace hf := gpos hf h13
        refine lv_tableIn (off := 54) (tgt := 98) hx hb d_5_22_44 (by rw [iI_to g8, h13]; decide) (by rw [iI_to g8, h13]; decide) (by rw [iI_to g8, h13]; rfl) (by decide) ?_
        refine lv_aload_n hx hb (D_42 W_prog_5_method_22_code_96 2 rfl rfl) rfl (lv_at hl 0 rfl) ?_
        refine lv_iload_n hx hb (D_27 W_prog_5_method_22_code_96 3 rfl rfl) rfl (lv_at hl 1 rfl) ?_
        obtain ⟨r14, F14, B14, hc14, hf⟩ := gbind hf
        refine va_calli (va_runV (As := [.int (iI l1)]) (rest := []) ⟨hx, hb, hml, hown, hts⟩ (ho.2.2.2.2.1 hc14) (cwV 1 hts (gdV k_4_45 k_4_47 ks_25 k_1_4 k_4_48) rfl rfl rfl (by decide +kernel) ⟨by dsimp only; omega, by dsimp only; omega⟩) (zPV X hZ7 hS7 (ci := 3) g1.1 g1.2 (r := (RX3, TX3, 22)) rfl [.int (iI l1)]) rfl rfl hl.1 rfl (lv_room (Nat.le_of_ble_eq_true rfl)) (D_182 W_prog_5_method_22_code_96 4 rfl rfl rfl) ⟨Nat.le_of_ble_eq_true rfl, Nat.le_of_ble_eq_true rfl⟩) hS7 (fun q _ h => zAin X hS7 q h) (zAin X hS7) (fun p14 u14 t14 H14 locs14 ht14 hv14 hw14 hB14 hz14 hk14 hS14 => ?_)
        have hZ14 := zBack X ht14 hB14
        subst hw14
        obtain ⟨g15, hf⟩ := gif hf
        cases hf
        exact W.zret hx hb hr (zbool g15) (fun t ht hW => ⟨⟨_, (), rfl, rfl, by rw [ht]; exact hZ14, va_K.moved hW.alike hK⟩, hS14.F ht⟩) hS14.2.2 (D_172 W_prog_5_method_22_code_96 7 rfl rfl) hlk
      replace hf := gneg hf h13
      by_cases h16 : (B7 3 l0 0 l1) = 5
      · replace hf := gpos hf h16
        refine lv_tableIn (off := 60) (tgt := 104) hx hb d_5_22_44 (by rw [iI_to g8, h16]; decide) (by rw [iI_to g8, h16]; decide) (by rw [iI_to g8, h16]; rfl) (by decide) ?_
        refine lv_aload_n hx hb (D_42 W_prog_5_method_22_code_96 8 rfl rfl) rfl (lv_at hl 0 rfl) ?_
        refine lv_iload_n hx hb (D_27 W_prog_5_method_22_code_96 9 rfl rfl) rfl (lv_at hl 1 rfl) ?_
        obtain ⟨r17, F17, B17, hc17, hf⟩ := gbind hf
        refine va_calli (va_runV (As := [.int (iI l1)]) (rest := []) ⟨hx, hb, hml, hown, hts⟩ (c_Parser_takeUse (l := l) hc17) (cwV 1 hts (gdV k_4_54 k_4_56 ks_27 k_1_4 k_4_57) rfl rfl rfl (by decide +kernel) ⟨by dsimp only; omega, by dsimp only; omega⟩) (zPV X hZ7 hS7 (ci := 3) g1.1 g1.2 (r := (RX3, TX3, 22)) rfl [.int (iI l1)]) rfl rfl hl.1 rfl (lv_room (Nat.le_of_ble_eq_true rfl)) (D_182 W_prog_5_method_22_code_96 10 rfl rfl rfl) ⟨Nat.le_of_ble_eq_true rfl, Nat.le_of_ble_eq_true rfl⟩) hS7 (fun q _ h => zAin X hS7 q h) (zAin X hS7) (fun p17 u17 t17 H17 locs17 ht17 hv17 hw17 hB17 hz17 hk17 hS17 => ?_)
        have hZ17 := zBack X ht17 hB17
        subst hw17
        obtain ⟨g18, hf⟩ := gif hf
        cases hf
        exact W.zret hx hb hr (zbool g18) (fun t ht hW => ⟨⟨_, (), rfl, rfl, by rw [ht]; exact hZ17, va_K.moved hW.alike hK⟩, hS17.F ht⟩) hS17.2.2 (D_172 W_prog_5_method_22_code_96 13 rfl rfl) hlk
      replace hf := gneg hf h16
      by_cases h19 : (B7 3 l0 0 l1) = 6
      · replace hf := gpos hf h19
        refine lv_tableIn (off := 66) (tgt := 110) hx hb d_5_22_44 (by rw [iI_to g8, h19]; decide) (by rw [iI_to g8, h19]; decide) (by rw [iI_to g8, h19]; rfl) (by decide) ?_
        refine lv_aload_n hx hb (D_42 W_prog_5_method_22_code_96 14 rfl rfl) rfl (lv_at hl 0 rfl) ?_
        refine lv_iload_n hx hb (D_27 W_prog_5_method_22_code_96 15 rfl rfl) rfl (lv_at hl 1 rfl) ?_
        obtain ⟨r20, F20, B20, hc20, hf⟩ := gbind hf
        refine va_calli (va_runV (As := [.int (iI l1)]) (rest := []) ⟨hx, hb, hml, hown, hts⟩ (ho.2.2.2.2.2.2.1 hc20) (cwV 1 hts (gdV k_4_58 k_4_60 ks_28 k_1_4 k_4_61) rfl rfl rfl (by decide +kernel) ⟨by dsimp only; omega, by dsimp only; omega⟩) (zPV X hZ7 hS7 (ci := 3) g1.1 g1.2 (r := (RX3, TX3, 22)) rfl [.int (iI l1)]) rfl rfl hl.1 rfl (lv_room (Nat.le_of_ble_eq_true rfl)) (D_182 W_prog_5_method_22_code_96 16 rfl rfl rfl) ⟨Nat.le_of_ble_eq_true rfl, Nat.le_of_ble_eq_true rfl⟩) hS7 (fun q _ h => zAin X hS7 q h) (zAin X hS7) (fun p20 u20 t20 H20 locs20 ht20 hv20 hw20 hB20 hz20 hk20 hS20 => ?_)
        have hZ20 := zBack X ht20 hB20
        subst hw20
        obtain ⟨g21, hf⟩ := gif hf
        cases hf
        exact W.zret hx hb hr (zbool g21) (fun t ht hW => ⟨⟨_, (), rfl, rfl, by rw [ht]; exact hZ20, va_K.moved hW.alike hK⟩, hS20.F ht⟩) hS20.2.2 (D_172 W_prog_5_method_22_code_96 19 rfl rfl) hlk
      replace hf := gneg hf h19
      by_cases h22 : (B7 3 l0 0 l1) = 7
      · replace hf := gpos hf h22
        refine lv_tableIn (off := 72) (tgt := 116) hx hb d_5_22_44 (by rw [iI_to g8, h22]; decide) (by rw [iI_to g8, h22]; decide) (by rw [iI_to g8, h22]; rfl) (by decide) ?_
        refine lv_aload_n hx hb (D_42 W_prog_5_method_22_code_96 20 rfl rfl) rfl (lv_at hl 0 rfl) ?_
        refine lv_iload_n hx hb (D_27 W_prog_5_method_22_code_96 21 rfl rfl) rfl (lv_at hl 1 rfl) ?_
        obtain ⟨r23, F23, B23, hc23, hf⟩ := gbind hf
        refine va_calli (va_runV (As := [.int (iI l1)]) (rest := []) ⟨hx, hb, hml, hown, hts⟩ (ho.2.2.2.2.2.2.2 hc23) (cwV 1 hts (gdV k_4_73 k_4_75 ks_29 k_1_4 k_4_76) rfl rfl rfl (by decide +kernel) ⟨by dsimp only; omega, by dsimp only; omega⟩) (zPV X hZ7 hS7 (ci := 3) g1.1 g1.2 (r := (RX3, TX3, 22)) rfl [.int (iI l1)]) rfl rfl hl.1 rfl (lv_room (Nat.le_of_ble_eq_true rfl)) (D_182 W_prog_5_method_22_code_96 22 rfl rfl rfl) ⟨Nat.le_of_ble_eq_true rfl, Nat.le_of_ble_eq_true rfl⟩) hS7 (fun q _ h => zAin X hS7 q h) (zAin X hS7) (fun p23 u23 t23 H23 locs23 ht23 hv23 hw23 hB23 hz23 hk23 hS23 => ?_)
        have hZ23 := zBack X ht23 hB23
        subst hw23
        obtain ⟨g24, hf⟩ := gif hf
        cases hf
        exact W.zret hx hb hr (zbool g24) (fun t ht hW => ⟨⟨_, (), rfl, rfl, by rw [ht]; exact hZ23, va_K.moved hW.alike hK⟩, hS23.F ht⟩) hS23.2.2 (D_172 W_prog_5_method_22_code_96 25 rfl rfl) hlk
      replace hf := gneg hf h22
      by_cases h25 : (B7 3 l0 0 l1) = 8
      · replace hf := gpos hf h25
        refine lv_tableIn (off := 78) (tgt := 122) hx hb d_5_22_44 (by rw [iI_to g8, h25]; decide) (by rw [iI_to g8, h25]; decide) (by rw [iI_to g8, h25]; rfl) (by decide) ?_
        refine lv_aload_n hx hb (D_42 W_prog_5_method_22_code_96 26 rfl rfl) rfl (lv_at hl 0 rfl) ?_
        refine lv_iload_n hx hb (D_27 W_prog_5_method_22_code_96 27 rfl rfl) rfl (lv_at hl 1 rfl) ?_
        obtain ⟨r26, F26, B26, hc26, hf⟩ := gbind hf
        refine va_calli (va_runV (As := [.int (iI l1)]) (rest := []) ⟨hx, hb, hml, hown, hts⟩ (ho.1 hc26) (cwV 1 hts (gdV k_3_212 k_3_214 ks_10 k_1_4 k_3_215) rfl rfl rfl (by decide +kernel) ⟨by dsimp only; omega, by dsimp only; omega⟩) (zPV X hZ7 hS7 (ci := 3) g1.1 g1.2 (r := (RX3, TX3, 22)) rfl [.int (iI l1)]) rfl rfl hl.1 rfl (lv_room (Nat.le_of_ble_eq_true rfl)) (D_182 W_prog_5_method_22_code_96 28 rfl rfl rfl) ⟨Nat.le_of_ble_eq_true rfl, Nat.le_of_ble_eq_true rfl⟩) hS7 (fun q _ h => zAin X hS7 q h) (zAin X hS7) (fun p26 u26 t26 H26 locs26 ht26 hv26 hw26 hB26 hz26 hk26 hS26 => ?_)
        have hZ26 := zBack X ht26 hB26
        subst hw26
        obtain ⟨g27, hf⟩ := gif hf
        cases hf
        exact W.zret hx hb hr (zbool g27) (fun t ht hW => ⟨⟨_, (), rfl, rfl, by rw [ht]; exact hZ26, va_K.moved hW.alike hK⟩, hS26.F ht⟩) hS26.2.2 (D_172 W_prog_5_method_22_code_96 31 rfl rfl) hlk
      replace hf := gneg hf h25
      by_cases h28 : (B7 3 l0 0 l1) = 9
      · replace hf := gpos hf h28
        refine lv_tableIn (off := 84) (tgt := 128) hx hb d_5_22_44 (by rw [iI_to g8, h28]; decide) (by rw [iI_to g8, h28]; decide) (by rw [iI_to g8, h28]; rfl) (by decide) ?_
        refine lv_aload_n hx hb (D_42 W_prog_5_method_22_code_128 0 rfl rfl) rfl (lv_at hl 0 rfl) ?_
        refine lv_iload_n hx hb (D_27 W_prog_5_method_22_code_128 1 rfl rfl) rfl (lv_at hl 1 rfl) ?_
        refine lv_iconst (v := iI 1) hx hb (D_4 W_prog_5_method_22_code_128 2 rfl rfl) rfl ?_
        refine lv_bipush (v := iI 8) hx hb (D_16 W_prog_5_method_22_code_128 3 rfl rfl rfl) (by decide) ?_
        obtain ⟨r29, F29, B29, hc29, hf⟩ := gbind hf
        refine va_calli (va_runV (As := [.int (iI l1), .int (iI 1), .int (iI 8)]) (rest := []) ⟨hx, hb, hml, hown, hts⟩ (c_Parser_takeFraction (l := l) hc29) (cwV 3 hts (gdV k_4_33 k_4_35 ks_22 k_1_4 k_4_36) rfl rfl rfl (by decide +kernel) ⟨by dsimp only; omega, by dsimp only; omega⟩) (zPV X hZ7 hS7 (ci := 3) g1.1 g1.2 (r := (RX3, TX3, 22)) rfl [.int (iI l1), .int (iI 1), .int (iI 8)]) rfl rfl hl.1 rfl (lv_room (Nat.le_of_ble_eq_true rfl)) (D_182 W_prog_5_method_22_code_128 5 rfl rfl rfl) ⟨Nat.le_of_ble_eq_true rfl, Nat.le_of_ble_eq_true rfl⟩) hS7 (fun q _ h => zAin X hS7 q h) (zAin X hS7) (fun p29 u29 t29 H29 locs29 ht29 hv29 hw29 hB29 hz29 hk29 hS29 => ?_)
        have hZ29 := zBack X ht29 hB29
        subst hw29
        obtain ⟨g30, hf⟩ := gif hf
        refine z0eq (tgt := 151) hx hb g30 (D_153 W_prog_5_method_22_code_128 8 rfl rfl rfl) (by decide) (fun h31 => ?_) (fun h31 => ?_)
        · replace hf := gpos hf h31
          exact b_Parser_takeItem_151 X ho hf hZ29 hS29 (lv_sub hl [] rfl)
        · replace hf := gneg hf h31
          refine lv_aload_n hx hb (D_42 W_prog_5_method_22_code_128 11 rfl rfl) rfl (lv_at hl 0 rfl) ?_
          refine lv_iload_n hx hb (D_27 W_prog_5_method_22_code_128 12 rfl rfl) rfl (lv_at hl 1 rfl) ?_
          obtain ⟨r33, F33, B33, hc33, hf⟩ := gbind hf
          refine va_calli (va_runV (As := [.int (iI l1)]) (rest := []) ⟨hx, hb, hml, hown, hts⟩ (ho.1 hc33) (cwV 1 hts (gdV k_3_212 k_3_214 ks_10 k_1_4 k_3_215) rfl rfl rfl (by decide +kernel) ⟨by dsimp only; omega, by dsimp only; omega⟩) (zPV X hZ29 hS29 (ci := 3) g1.1 g1.2 (r := (RX3, TX3, 22)) rfl [.int (iI l1)]) rfl rfl hl.1 rfl (lv_room (Nat.le_of_ble_eq_true rfl)) (D_182 W_prog_5_method_22_code_128 13 rfl rfl rfl) ⟨Nat.le_of_ble_eq_true rfl, Nat.le_of_ble_eq_true rfl⟩) hS29 (fun q _ h => zAin X hS29 q h) (zAin X hS29) (fun p33 u33 t33 H33 locs33 ht33 hv33 hw33 hB33 hz33 hk33 hS33 => ?_)
          have hZ33 := zBack X ht33 hB33
          subst hw33
          obtain ⟨g34, hf⟩ := gif hf
          refine z0eq (tgt := 151) hx hb g34 (D_153 W_prog_5_method_22_code_128 16 rfl rfl rfl) (by decide) (fun h35 => ?_) (fun h35 => ?_)
          · replace hf := gpos hf h35
            exact b_Parser_takeItem_151 X ho hf hZ33 hS33 (lv_sub hl [] rfl)
          · replace hf := gneg hf h35
            refine lv_iconst (v := iI 1) hx hb (D_4 W_prog_5_method_22_code_128 19 rfl rfl) rfl ?_
            refine lv_goto (tgt := 152) hx hb (D_167 W_prog_5_method_22_code_128 20 rfl rfl rfl) (by decide) ?_
            exact b_Parser_takeItem_152 X ho hf hZ33 hS33 (lv_sub hl [] rfl)
      replace hf := gneg hf h28
      refine lv_tableOut (tgt := 153) hx hb d_5_22_44 (by rw [iI_to g8]; omega) (by decide) ?_
      refine lv_iconst (v := iI 1) hx hb (D_4 W_prog_5_method_22_code_128 25 rfl rfl) rfl ?_
      cases hf
      exact W.zret hx hb hr rfl (fun t ht hW => ⟨⟨_, (), rfl, rfl, by rw [ht]; exact hZ7, va_K.moved hW.alike hK⟩, hS7.F ht⟩) hS7.2.2 (D_172 W_prog_5_method_22_code_128 26 rfl rfl) hlk
    · replace hf := gpos hf h5
      refine lv_aload_n hx hb (D_42 W_prog_5_method_22_code_0 25 rfl rfl) rfl (lv_at hl 0 rfl) ?_
      refine lv_iload_n hx hb (D_27 W_prog_5_method_22_code_0 26 rfl rfl) rfl (lv_at hl 1 rfl) ?_
      obtain ⟨r36, F36, B36, hc36, hf⟩ := gbind hf
      refine va_calli (va_runV (As := [.int (iI l1)]) (rest := []) ⟨hx, hb, hml, hown, hts⟩ (ho.2.2.2.1 hc36) (cwV 1 hts (gdV k_4_29 k_4_31 ks_21 k_1_4 k_4_32) rfl rfl rfl (by decide +kernel) ⟨by dsimp only; omega, by dsimp only; omega⟩) (zPV X hZ hS (ci := 3) g1.1 g1.2 (r := (RX3, TX3, 22)) rfl [.int (iI l1)]) rfl rfl hl.1 rfl (lv_room (Nat.le_of_ble_eq_true rfl)) (D_182 W_prog_5_method_22_code_0 27 rfl rfl rfl) ⟨Nat.le_of_ble_eq_true rfl, Nat.le_of_ble_eq_true rfl⟩) hS (fun q _ h => zAin X hS q h) (zAin X hS) (fun p36 u36 t36 H36 locs36 ht36 hv36 hw36 hB36 hz36 hk36 hS36 => ?_)
      have hZ36 := zBack X ht36 hB36
      subst hw36
      obtain ⟨g37, hf⟩ := gif hf
      cases hf
      exact W.zret hx hb hr (zbool g37) (fun t ht hW => ⟨⟨_, (), rfl, rfl, by rw [ht]; exact hZ36, va_K.moved hW.alike hK⟩, hS36.F ht⟩) hS36.2.2 (D_172 W_prog_5_method_22_code_0 30 rfl rfl) hlk
  · replace hf := gpos hf h4
    refine lv_aload_n hx hb (D_42 W_prog_5_method_22_code_0 9 rfl rfl) rfl (lv_at hl 0 rfl) ?_
    refine lv_iload_n hx hb (D_27 W_prog_5_method_22_code_0 10 rfl rfl) rfl (lv_at hl 1 rfl) ?_
    obtain ⟨r38, F38, B38, hc38, hf⟩ := gbind hf
    refine va_calli (va_runV (As := [.int (iI l1)]) (rest := []) ⟨hx, hb, hml, hown, hts⟩ (c_Parser_takeEvent (l := l) hc38) (cwV 1 hts (gdV k_3_233 k_3_235 ks_15 k_1_4 k_3_236) rfl rfl rfl (by decide +kernel) ⟨by dsimp only; omega, by dsimp only; omega⟩) (zPV X hZ hS (ci := 3) g1.1 g1.2 (r := (RX3, TX3, 22)) rfl [.int (iI l1)]) rfl rfl hl.1 rfl (lv_room (Nat.le_of_ble_eq_true rfl)) (D_182 W_prog_5_method_22_code_0 11 rfl rfl rfl) ⟨Nat.le_of_ble_eq_true rfl, Nat.le_of_ble_eq_true rfl⟩) hS (fun q _ h => zAin X hS q h) (zAin X hS) (fun p38 u38 t38 H38 locs38 ht38 hv38 hw38 hB38 hz38 hk38 hS38 => ?_)
    have hZ38 := zBack X ht38 hB38
    subst hw38
    obtain ⟨g39, hf⟩ := gif hf
    cases hf
    exact W.zret hx hb hr (zbool g39) (fun t ht hW => ⟨⟨_, (), rfl, rfl, by rw [ht]; exact hZ38, va_K.moved hW.alike hK⟩, hS38.F ht⟩) hS38.2.2 (D_172 W_prog_5_method_22_code_0 14 rfl rfl) hlk

def f_Parser_takeBracket_51 (o : oT_CP) (K : zK) (s0 : Int) (F : zF) (B : zB) : zO := if (s0 = 0 ∨ s0 = 1) then some (s0, F, B) else none
set_option maxHeartbeats 4000000 in
set_option maxRecDepth 100000 in
theorem b_Parser_takeBracket_51 {D : va_G} {ca : Nat → ClassId} {ad : Nat → Int → Nat → Nat} {L : List Nat} {aS vS : Nat → Nat} {A : Nat → Prop} {p : Program} {l : Launch} {e : Env} {s : State} {m : MethodId} {args : Array Value} {below : List Frame} {meth : Method} {c : Code} {K : zK} {r : Int} {F9 : zF} {B9 : zB} {d : Nat} {o : oT_CP} (X : zX D ca L aS vS A p s m args meth c prog_5_method_30_code 2 (Option.some Jvm.ClassFile.FieldType.boolean) "StaveHouse$Parser") (ho : oH_CP K l D ca ad L aS vS d o) {s0 : Int} {F : zF} {B : zB} {H : Heap} {locs : List Loc} {ls : Array Slot} (hf : f_Parser_takeBracket_51 o K s0 F B = some (r, F9, B9)) (hZ : zH D ca ad lnC K.2 L F B A H) (hS : va_S A s.heap H locs) (hl : lv_has ls 2 []) : W p l e ({ frames := d + 1 + 7, cells := 0, slots := 0, locals := 25 * (d + 1) + 136 } : Room) s m args below meth c H locs 0 0 (MQ below (Q_Parser_takeBracket K D ca ad L r F9 B9 A) args s 0 0 A) (F0 m 51 ls [.int (iI s0)]) := by
  obtain ⟨hx, hb, hr, hml, hown, hts, hlk, hK, hA, hL, hX⟩ := id X
  replace hf : (if (s0 = 0 ∨ s0 = 1) then some (s0, F, B) else none) = some (r, F9, B9) := hf
  obtain ⟨g17, hf⟩ := gif hf
  cases hf
  exact W.zret hx hb hr (zbool g17) (fun t ht hW => ⟨⟨_, (), rfl, rfl, by rw [ht]; exact hZ, va_K.moved hW.alike hK⟩, hS.F ht⟩) hS.2.2 (D_172 W_prog_5_method_30_code_32 19 rfl rfl) hlk

def f_Parser_takeBracket_50 (o : oT_CP) (K : zK)  (F : zF) (B : zB) : zO := f_Parser_takeBracket_51 o K 0 F B
set_option maxHeartbeats 4000000 in
set_option maxRecDepth 100000 in
theorem b_Parser_takeBracket_50 {D : va_G} {ca : Nat → ClassId} {ad : Nat → Int → Nat → Nat} {L : List Nat} {aS vS : Nat → Nat} {A : Nat → Prop} {p : Program} {l : Launch} {e : Env} {s : State} {m : MethodId} {args : Array Value} {below : List Frame} {meth : Method} {c : Code} {K : zK} {r : Int} {F9 : zF} {B9 : zB} {d : Nat} {o : oT_CP} (X : zX D ca L aS vS A p s m args meth c prog_5_method_30_code 2 (Option.some Jvm.ClassFile.FieldType.boolean) "StaveHouse$Parser") (ho : oH_CP K l D ca ad L aS vS d o)  {F : zF} {B : zB} {H : Heap} {locs : List Loc} {ls : Array Slot} (hf : f_Parser_takeBracket_50 o K  F B = some (r, F9, B9)) (hZ : zH D ca ad lnC K.2 L F B A H) (hS : va_S A s.heap H locs) (hl : lv_has ls 2 []) : W p l e ({ frames := d + 1 + 7, cells := 0, slots := 0, locals := 25 * (d + 1) + 136 } : Room) s m args below meth c H locs 0 0 (MQ below (Q_Parser_takeBracket K D ca ad L r F9 B9 A) args s 0 0 A) (F0 m 50 ls []) := by
  obtain ⟨hx, hb, hr, hml, hown, hts, hlk, hK, hA, hL, hX⟩ := id X
  replace hf : (f_Parser_takeBracket_51 o K 0 F B) = some (r, F9, B9) := hf
  refine lv_iconst (v := iI 0) hx hb (D_3 W_prog_5_method_30_code_32 18 rfl rfl) rfl ?_
  exact b_Parser_takeBracket_51 X ho hf hZ hS (lv_sub hl [] rfl)

def fb_Parser_takeBracket (o : oT_CP) (K : zK) (l0 : Int) (l1 : Int) (F : zF) (B : zB) : zO := if 0 ≤ l0 ∧ l0 < K.2 3 then zbind (f_Parser_takeOpening K l0 91 F B) (fun r2 F2 B2 => if r32 r2 then (if r2 = 0 then f_Parser_takeBracket_50 o K F2 B2 else zbind (f_Parser_takeFraction K l0 l1 2 9 F2 B2) (fun r5 F5 B5 => if r32 r5 then (if r5 = 0 then f_Parser_takeBracket_50 o K F5 B5 else zbind (f_Parser_takeSign K l0 58 F5 B5) (fun r8 F8 B8 => if r32 r8 then (if r8 = 0 then f_Parser_takeBracket_50 o K F8 B8 else zbind (o.2.1 l0 l1 F8 B8) (fun r11 F11 B11 => if r32 r11 then (if r11 = 0 then f_Parser_takeBracket_50 o K F11 B11 else zbind (f_Parser_takeClosing K l0 93 F11 B11) (fun r14 F14 B14 => if r32 r14 then (if r14 = 0 then f_Parser_takeBracket_50 o K F14 B14 else f_Parser_takeBracket_51 o K 1 F14 B14) else none)) else none)) else none)) else none)) else none) else none
set_option maxHeartbeats 4000000 in
set_option maxRecDepth 100000 in
theorem cb_Parser_takeBracket {l : Launch} {D : va_G} {ca : Nat → ClassId} {ad : Nat → Int → Nat → Nat} {L : List Nat} {aS vS : Nat → Nat} {sz : Nat} {K : zK} {d : Nat} {o : oT_CP} (ho : oH_CP K l D ca ad L aS vS d o)  {l0 : Int} {l1 : Int} {F F9 : zF} {B B9 : zB} {r : Int} (hf : fb_Parser_takeBracket o K l0 l1 F B = some (r, F9, B9)) : Met l ({ cls := "StaveHouse$Parser", name := "takeBracket", desc := "(I)Z" } : Jvm.MethodName) (Cond.code ({ cls := "StaveHouse$Parser", name := "takeBracket", desc := "(I)Z" } : Jvm.MethodName) prog_5_method_30_code 2 (Option.some Jvm.ClassFile.FieldType.boolean) :: wAll) ({ frames := d + 1 + 7, cells := 0, slots := 0, locals := 25 * (d + 1) + 136 } : Room) (va_Pc [.ref (ad 3 l0 0), .int (iI l1)] (zPre D ca ad lnC K.2 L aS vS F B sz)) (Q_Parser_takeBracket K D ca ad L r F9 B9 (zA L sz)) 0 0 (zA L sz) := by
  refine zMet (Qc := Q_Parser_takeBracket K D ca ad L r F9 B9) (lv := [(0, .ref (ad 3 l0 0)), (1, .int (iI l1))]) (by decide) (Nat.le_of_ble_eq_true rfl) rfl (fun A p e s m below meth c ls X hZ hS hl => ?_)
  obtain ⟨hx, hb, hr, hml, hown, hts, hlk, hK, hA, hL, hX⟩ := id X
  replace hf : (if 0 ≤ l0 ∧ l0 < K.2 3 then zbind (f_Parser_takeOpening K l0 91 F B) (fun r2 F2 B2 => if r32 r2 then (if r2 = 0 then f_Parser_takeBracket_50 o K F2 B2 else zbind (f_Parser_takeFraction K l0 l1 2 9 F2 B2) (fun r5 F5 B5 => if r32 r5 then (if r5 = 0 then f_Parser_takeBracket_50 o K F5 B5 else zbind (f_Parser_takeSign K l0 58 F5 B5) (fun r8 F8 B8 => if r32 r8 then (if r8 = 0 then f_Parser_takeBracket_50 o K F8 B8 else zbind (o.2.1 l0 l1 F8 B8) (fun r11 F11 B11 => if r32 r11 then (if r11 = 0 then f_Parser_takeBracket_50 o K F11 B11 else zbind (f_Parser_takeClosing K l0 93 F11 B11) (fun r14 F14 B14 => if r32 r14 then (if r14 = 0 then f_Parser_takeBracket_50 o K F14 B14 else f_Parser_takeBracket_51 o K 1 F14 B14) else none)) else none)) else none)) else none)) else none) else none) = some (r, F9, B9) := hf
  refine lv_aload_n hx hb (D_42 W_prog_5_method_30_code_0 0 rfl rfl) rfl (lv_at hl 0 rfl) ?_
  refine lv_bipush (v := iI 91) hx hb (D_16 W_prog_5_method_30_code_0 1 rfl rfl rfl) (by decide) ?_
  obtain ⟨g1, hf⟩ := gif hf
  obtain ⟨r2, F2, B2, hc2, hf⟩ := gbind hf
  refine va_calli (va_runV (As := [.int (iI 91)]) (rest := []) ⟨hx, hb, hml, hown, hts⟩ (c_Parser_takeOpening (l := l) hc2) (cwV 1 hts (gdV k_3_216 k_3_218 ks_11 k_1_4 k_3_219) rfl rfl rfl (by decide +kernel) ⟨by dsimp only; omega, by dsimp only; omega⟩) (zPV X hZ hS (ci := 3) g1.1 g1.2 (r := (RX3, TX3, 22)) rfl [.int (iI 91)]) rfl rfl hl.1 rfl (lv_room (Nat.le_of_ble_eq_true rfl)) (D_182 W_prog_5_method_30_code_0 3 rfl rfl rfl) ⟨Nat.le_of_ble_eq_true rfl, Nat.le_of_ble_eq_true rfl⟩) hS (fun q _ h => zAin X hS q h) (zAin X hS) (fun p2 u2 t2 H2 locs2 ht2 hv2 hw2 hB2 hz2 hk2 hS2 => ?_)
  have hZ2 := zBack X ht2 hB2
  subst hw2
  obtain ⟨g3, hf⟩ := gif hf
  refine z0eq (tgt := 50) hx hb g3 (D_153 W_prog_5_method_30_code_0 6 rfl rfl rfl) (by decide) (fun h4 => ?_) (fun h4 => ?_)
  · replace hf := gpos hf h4
    exact b_Parser_takeBracket_50 X ho hf hZ2 hS2 (lv_sub hl [] rfl)
  · replace hf := gneg hf h4
    refine lv_aload_n hx hb (D_42 W_prog_5_method_30_code_0 9 rfl rfl) rfl (lv_at hl 0 rfl) ?_
    refine lv_iload_n hx hb (D_27 W_prog_5_method_30_code_0 10 rfl rfl) rfl (lv_at hl 1 rfl) ?_
    refine lv_iconst (v := iI 2) hx hb (D_5 W_prog_5_method_30_code_0 11 rfl rfl) rfl ?_
    refine lv_bipush (v := iI 9) hx hb (D_16 W_prog_5_method_30_code_0 12 rfl rfl rfl) (by decide) ?_
    obtain ⟨r5, F5, B5, hc5, hf⟩ := gbind hf
    refine va_calli (va_runV (As := [.int (iI l1), .int (iI 2), .int (iI 9)]) (rest := []) ⟨hx, hb, hml, hown, hts⟩ (c_Parser_takeFraction (l := l) hc5) (cwV 3 hts (gdV k_4_33 k_4_35 ks_22 k_1_4 k_4_36) rfl rfl rfl (by decide +kernel) ⟨by dsimp only; omega, by dsimp only; omega⟩) (zPV X hZ2 hS2 (ci := 3) g1.1 g1.2 (r := (RX3, TX3, 22)) rfl [.int (iI l1), .int (iI 2), .int (iI 9)]) rfl rfl hl.1 rfl (lv_room (Nat.le_of_ble_eq_true rfl)) (D_182 W_prog_5_method_30_code_0 14 rfl rfl rfl) ⟨Nat.le_of_ble_eq_true rfl, Nat.le_of_ble_eq_true rfl⟩) hS2 (fun q _ h => zAin X hS2 q h) (zAin X hS2) (fun p5 u5 t5 H5 locs5 ht5 hv5 hw5 hB5 hz5 hk5 hS5 => ?_)
    have hZ5 := zBack X ht5 hB5
    subst hw5
    obtain ⟨g6, hf⟩ := gif hf
    refine z0eq (tgt := 50) hx hb g6 (D_153 W_prog_5_method_30_code_0 17 rfl rfl rfl) (by decide) (fun h7 => ?_) (fun h7 => ?_)
    · replace hf := gpos hf h7
      exact b_Parser_takeBracket_50 X ho hf hZ5 hS5 (lv_sub hl [] rfl)
    · replace hf := gneg hf h7
      refine lv_aload_n hx hb (D_42 W_prog_5_method_30_code_0 20 rfl rfl) rfl (lv_at hl 0 rfl) ?_
      refine lv_bipush (v := iI 58) hx hb (D_16 W_prog_5_method_30_code_0 21 rfl rfl rfl) (by decide) ?_
      obtain ⟨r8, F8, B8, hc8, hf⟩ := gbind hf
      refine va_calli (va_runV (As := [.int (iI 58)]) (rest := []) ⟨hx, hb, hml, hown, hts⟩ (c_Parser_takeSign (l := l) hc8) (cwV 1 hts (gdV k_3_204 k_3_206 ks_9 k_1_4 k_3_207) rfl rfl rfl (by decide +kernel) ⟨by dsimp only; omega, by dsimp only; omega⟩) (zPV X hZ5 hS5 (ci := 3) g1.1 g1.2 (r := (RX3, TX3, 22)) rfl [.int (iI 58)]) rfl rfl hl.1 rfl (lv_room (Nat.le_of_ble_eq_true rfl)) (D_182 W_prog_5_method_30_code_0 23 rfl rfl rfl) ⟨Nat.le_of_ble_eq_true rfl, Nat.le_of_ble_eq_true rfl⟩) hS5 (fun q _ h => zAin X hS5 q h) (zAin X hS5) (fun p8 u8 t8 H8 locs8 ht8 hv8 hw8 hB8 hz8 hk8 hS8 => ?_)
      have hZ8 := zBack X ht8 hB8
      subst hw8
      obtain ⟨g9, hf⟩ := gif hf
      refine z0eq (tgt := 50) hx hb g9 (D_153 W_prog_5_method_30_code_0 26 rfl rfl rfl) (by decide) (fun h10 => ?_) (fun h10 => ?_)
      · replace hf := gpos hf h10
        exact b_Parser_takeBracket_50 X ho hf hZ8 hS8 (lv_sub hl [] rfl)
      · replace hf := gneg hf h10
        refine lv_aload_n hx hb (D_42 W_prog_5_method_30_code_0 29 rfl rfl) rfl (lv_at hl 0 rfl) ?_
        refine lv_iload_n hx hb (D_27 W_prog_5_method_30_code_0 30 rfl rfl) rfl (lv_at hl 1 rfl) ?_
        obtain ⟨r11, F11, B11, hc11, hf⟩ := gbind hf
        refine va_calli (va_runV (As := [.int (iI l1)]) (rest := []) ⟨hx, hb, hml, hown, hts⟩ (ho.2.1 hc11) (cwV 1 hts (gdV k_3_220 k_3_222 ks_12 k_1_4 k_3_223) rfl rfl rfl (by decide +kernel) ⟨by dsimp only; omega, by dsimp only; omega⟩) (zPV X hZ8 hS8 (ci := 3) g1.1 g1.2 (r := (RX3, TX3, 22)) rfl [.int (iI l1)]) rfl rfl hl.1 rfl (lv_room (Nat.le_of_ble_eq_true rfl)) (D_182 W_prog_5_method_30_code_0 31 rfl rfl rfl) ⟨Nat.le_of_ble_eq_true rfl, Nat.le_of_ble_eq_true rfl⟩) hS8 (fun q _ h => zAin X hS8 q h) (zAin X hS8) (fun p11 u11 t11 H11 locs11 ht11 hv11 hw11 hB11 hz11 hk11 hS11 => ?_)
        have hZ11 := zBack X ht11 hB11
        subst hw11
        obtain ⟨g12, hf⟩ := gif hf
        refine z0eq (tgt := 50) hx hb g12 (D_153 W_prog_5_method_30_code_32 2 rfl rfl rfl) (by decide) (fun h13 => ?_) (fun h13 => ?_)
        · replace hf := gpos hf h13
          exact b_Parser_takeBracket_50 X ho hf hZ11 hS11 (lv_sub hl [] rfl)
        · replace hf := gneg hf h13
          refine lv_aload_n hx hb (D_42 W_prog_5_method_30_code_32 5 rfl rfl) rfl (lv_at hl 0 rfl) ?_
          refine lv_bipush (v := iI 93) hx hb (D_16 W_prog_5_method_30_code_32 6 rfl rfl rfl) (by decide) ?_
          obtain ⟨r14, F14, B14, hc14, hf⟩ := gbind hf
          refine va_calli (va_runV (As := [.int (iI 93)]) (rest := []) ⟨hx, hb, hml, hown, hts⟩ (c_Parser_takeClosing (l := l) hc14) (cwV 1 hts (gdV k_4_37 k_4_39 ks_23 k_1_4 k_4_40) rfl rfl rfl (by decide +kernel) ⟨by dsimp only; omega, by dsimp only; omega⟩) (zPV X hZ11 hS11 (ci := 3) g1.1 g1.2 (r := (RX3, TX3, 22)) rfl [.int (iI 93)]) rfl rfl hl.1 rfl (lv_room (Nat.le_of_ble_eq_true rfl)) (D_182 W_prog_5_method_30_code_32 8 rfl rfl rfl) ⟨Nat.le_of_ble_eq_true rfl, Nat.le_of_ble_eq_true rfl⟩) hS11 (fun q _ h => zAin X hS11 q h) (zAin X hS11) (fun p14 u14 t14 H14 locs14 ht14 hv14 hw14 hB14 hz14 hk14 hS14 => ?_)
          have hZ14 := zBack X ht14 hB14
          subst hw14
          obtain ⟨g15, hf⟩ := gif hf
          refine z0eq (tgt := 50) hx hb g15 (D_153 W_prog_5_method_30_code_32 11 rfl rfl rfl) (by decide) (fun h16 => ?_) (fun h16 => ?_)
          · replace hf := gpos hf h16
            exact b_Parser_takeBracket_50 X ho hf hZ14 hS14 (lv_sub hl [] rfl)
          · replace hf := gneg hf h16
            refine lv_iconst (v := iI 1) hx hb (D_4 W_prog_5_method_30_code_32 14 rfl rfl) rfl ?_
            refine lv_goto (tgt := 51) hx hb (D_167 W_prog_5_method_30_code_32 15 rfl rfl rfl) (by decide) ?_
            exact b_Parser_takeBracket_51 X ho hf hZ14 hS14 (lv_sub hl [] rfl)

def f_Parser_takeRepeat_58 (o : oT_CP) (K : zK) (s0 : Int) (F : zF) (B : zB) : zO := if (s0 = 0 ∨ s0 = 1) then some (s0, F, B) else none
set_option maxHeartbeats 4000000 in
set_option maxRecDepth 100000 in
theorem b_Parser_takeRepeat_58 {D : va_G} {ca : Nat → ClassId} {ad : Nat → Int → Nat → Nat} {L : List Nat} {aS vS : Nat → Nat} {A : Nat → Prop} {p : Program} {l : Launch} {e : Env} {s : State} {m : MethodId} {args : Array Value} {below : List Frame} {meth : Method} {c : Code} {K : zK} {r : Int} {F9 : zF} {B9 : zB} {d : Nat} {o : oT_CP} (X : zX D ca L aS vS A p s m args meth c prog_5_method_31_code 2 (Option.some Jvm.ClassFile.FieldType.boolean) "StaveHouse$Parser") (ho : oH_CP K l D ca ad L aS vS d o) {s0 : Int} {F : zF} {B : zB} {H : Heap} {locs : List Loc} {ls : Array Slot} (hf : f_Parser_takeRepeat_58 o K s0 F B = some (r, F9, B9)) (hZ : zH D ca ad lnC K.2 L F B A H) (hS : va_S A s.heap H locs) (hl : lv_has ls 2 []) : W p l e ({ frames := d + 1 + 7, cells := 0, slots := 0, locals := 25 * (d + 1) + 136 } : Room) s m args below meth c H locs 0 0 (MQ below (Q_Parser_takeRepeat K D ca ad L r F9 B9 A) args s 0 0 A) (F0 m 58 ls [.int (iI s0)]) := by
  obtain ⟨hx, hb, hr, hml, hown, hts, hlk, hK, hA, hL, hX⟩ := id X
  replace hf : (if (s0 = 0 ∨ s0 = 1) then some (s0, F, B) else none) = some (r, F9, B9) := hf
  obtain ⟨g17, hf⟩ := gif hf
  cases hf
  exact W.zret hx hb hr (zbool g17) (fun t ht hW => ⟨⟨_, (), rfl, rfl, by rw [ht]; exact hZ, va_K.moved hW.alike hK⟩, hS.F ht⟩) hS.2.2 (D_172 W_prog_5_method_31_code_32 26 rfl rfl) hlk

def f_Parser_takeRepeat_53 (o : oT_CP) (K : zK)  (F : zF) (B : zB) : zO := f_Parser_takeRepeat_58 o K 1 F B
set_option maxHeartbeats 4000000 in
set_option maxRecDepth 100000 in
theorem b_Parser_takeRepeat_53 {D : va_G} {ca : Nat → ClassId} {ad : Nat → Int → Nat → Nat} {L : List Nat} {aS vS : Nat → Nat} {A : Nat → Prop} {p : Program} {l : Launch} {e : Env} {s : State} {m : MethodId} {args : Array Value} {below : List Frame} {meth : Method} {c : Code} {K : zK} {r : Int} {F9 : zF} {B9 : zB} {d : Nat} {o : oT_CP} (X : zX D ca L aS vS A p s m args meth c prog_5_method_31_code 2 (Option.some Jvm.ClassFile.FieldType.boolean) "StaveHouse$Parser") (ho : oH_CP K l D ca ad L aS vS d o)  {F : zF} {B : zB} {H : Heap} {locs : List Loc} {ls : Array Slot} (hf : f_Parser_takeRepeat_53 o K  F B = some (r, F9, B9)) (hZ : zH D ca ad lnC K.2 L F B A H) (hS : va_S A s.heap H locs) (hl : lv_has ls 2 []) : W p l e ({ frames := d + 1 + 7, cells := 0, slots := 0, locals := 25 * (d + 1) + 136 } : Room) s m args below meth c H locs 0 0 (MQ below (Q_Parser_takeRepeat K D ca ad L r F9 B9 A) args s 0 0 A) (F0 m 53 ls []) := by
  obtain ⟨hx, hb, hr, hml, hown, hts, hlk, hK, hA, hL, hX⟩ := id X
  replace hf : (f_Parser_takeRepeat_58 o K 1 F B) = some (r, F9, B9) := hf
  refine lv_iconst (v := iI 1) hx hb (D_4 W_prog_5_method_31_code_32 21 rfl rfl) rfl ?_
  refine lv_goto (tgt := 58) hx hb (D_167 W_prog_5_method_31_code_32 22 rfl rfl rfl) (by decide) ?_
  exact b_Parser_takeRepeat_58 X ho hf hZ hS (lv_sub hl [] rfl)

def fb_Parser_takeRepeat (o : oT_CP) (K : zK) (l0 : Int) (l1 : Int) (F : zF) (B : zB) : zO := if 0 ≤ l0 ∧ l0 < K.2 3 then zbind (f_Parser_takeNumber K l0 2 4 0 F B) (fun r2 F2 B2 => if r32 r2 then (if r2 = 0 then some (0, F2, B2) else if 0 ≤ l1 ∧ l1 < 3000 then zbind (o.1 l0 l1 F2 (zup4 B2 3 l0 2 l1 (F2 3 l0 19))) (fun r7 F7 B7 => if r32 r7 then (if r7 = 0 then some (0, F7, B7) else if 0 ≤ (F7 3 l0 11) ∧ (F7 3 l0 11) < K.2 10 then zbind (f_Tokens_isWord K (F7 3 l0 11) 6384756 F7 B7) (fun r11 F11 B11 => if r32 r11 then (if r11 = 0 then f_Parser_takeRepeat_53 o K F11 B11 else zbind (o.2.2.2.2.2.1 l0 l1 F11 B11) (fun r14 F14 B14 => if r32 r14 then (if r14 = 0 then f_Parser_takeRepeat_58 o K 0 F14 B14 else f_Parser_takeRepeat_53 o K F14 B14) else none)) else none) else none) else none) else none) else none) else none
set_option maxHeartbeats 4000000 in
set_option maxRecDepth 100000 in
theorem cb_Parser_takeRepeat {l : Launch} {D : va_G} {ca : Nat → ClassId} {ad : Nat → Int → Nat → Nat} {L : List Nat} {aS vS : Nat → Nat} {sz : Nat} {K : zK} {d : Nat} {o : oT_CP} (ho : oH_CP K l D ca ad L aS vS d o)  {l0 : Int} {l1 : Int} {F F9 : zF} {B B9 : zB} {r : Int} (hf : fb_Parser_takeRepeat o K l0 l1 F B = some (r, F9, B9)) : Met l ({ cls := "StaveHouse$Parser", name := "takeRepeat", desc := "(I)Z" } : Jvm.MethodName) (Cond.code ({ cls := "StaveHouse$Parser", name := "takeRepeat", desc := "(I)Z" } : Jvm.MethodName) prog_5_method_31_code 2 (Option.some Jvm.ClassFile.FieldType.boolean) :: wAll) ({ frames := d + 1 + 7, cells := 0, slots := 0, locals := 25 * (d + 1) + 136 } : Room) (va_Pc [.ref (ad 3 l0 0), .int (iI l1)] (zPre D ca ad lnC K.2 L aS vS F B sz)) (Q_Parser_takeRepeat K D ca ad L r F9 B9 (zA L sz)) 0 0 (zA L sz) := by
  refine zMet (Qc := Q_Parser_takeRepeat K D ca ad L r F9 B9) (lv := [(0, .ref (ad 3 l0 0)), (1, .int (iI l1))]) (by decide) (Nat.le_of_ble_eq_true rfl) rfl (fun A p e s m below meth c ls X hZ hS hl => ?_)
  obtain ⟨hx, hb, hr, hml, hown, hts, hlk, hK, hA, hL, hX⟩ := id X
  replace hf : (if 0 ≤ l0 ∧ l0 < K.2 3 then zbind (f_Parser_takeNumber K l0 2 4 0 F B) (fun r2 F2 B2 => if r32 r2 then (if r2 = 0 then some (0, F2, B2) else if 0 ≤ l1 ∧ l1 < 3000 then zbind (o.1 l0 l1 F2 (zup4 B2 3 l0 2 l1 (F2 3 l0 19))) (fun r7 F7 B7 => if r32 r7 then (if r7 = 0 then some (0, F7, B7) else if 0 ≤ (F7 3 l0 11) ∧ (F7 3 l0 11) < K.2 10 then zbind (f_Tokens_isWord K (F7 3 l0 11) 6384756 F7 B7) (fun r11 F11 B11 => if r32 r11 then (if r11 = 0 then f_Parser_takeRepeat_53 o K F11 B11 else zbind (o.2.2.2.2.2.1 l0 l1 F11 B11) (fun r14 F14 B14 => if r32 r14 then (if r14 = 0 then f_Parser_takeRepeat_58 o K 0 F14 B14 else f_Parser_takeRepeat_53 o K F14 B14) else none)) else none) else none) else none) else none) else none) else none) = some (r, F9, B9) := hf
  refine lv_aload_n hx hb (D_42 W_prog_5_method_31_code_0 0 rfl rfl) rfl (lv_at hl 0 rfl) ?_
  refine lv_iconst (v := iI 2) hx hb (D_5 W_prog_5_method_31_code_0 1 rfl rfl) rfl ?_
  refine lv_iconst (v := iI 4) hx hb (D_7 W_prog_5_method_31_code_0 2 rfl rfl) rfl ?_
  refine lv_iconst (v := iI 0) hx hb (D_3 W_prog_5_method_31_code_0 3 rfl rfl) rfl ?_
  obtain ⟨g1, hf⟩ := gif hf
  obtain ⟨r2, F2, B2, hc2, hf⟩ := gbind hf
  refine va_calli (va_runV (As := [.int (iI 2), .int (iI 4), .int (iI 0)]) (rest := []) ⟨hx, hb, hml, hown, hts⟩ (c_Parser_takeNumber (l := l) hc2) (cwV 3 hts (gdV k_4_9 k_4_11 ks_19 k_1_4 k_4_12) rfl rfl rfl (by decide +kernel) ⟨by dsimp only; omega, by dsimp only; omega⟩) (zPV X hZ hS (ci := 3) g1.1 g1.2 (r := (RX3, TX3, 22)) rfl [.int (iI 2), .int (iI 4), .int (iI 0)]) rfl rfl hl.1 rfl (lv_room (Nat.le_of_ble_eq_true rfl)) (D_182 W_prog_5_method_31_code_0 4 rfl rfl rfl) ⟨Nat.le_of_ble_eq_true rfl, Nat.le_of_ble_eq_true rfl⟩) hS (fun q _ h => zAin X hS q h) (zAin X hS) (fun p2 u2 t2 H2 locs2 ht2 hv2 hw2 hB2 hz2 hk2 hS2 => ?_)
  have hZ2 := zBack X ht2 hB2
  subst hw2
  obtain ⟨g3, hf⟩ := gif hf
  refine z0ne (tgt := 12) hx hb g3 (D_154 W_prog_5_method_31_code_0 7 rfl rfl rfl) (by decide) (fun h4 => ?_) (fun h4 => ?_)
  · replace hf := gneg hf h4
    refine lv_aload_n hx hb (D_42 W_prog_5_method_31_code_0 12 rfl rfl) rfl (lv_at hl 0 rfl) ?_
    refine zget (ci := 3) (C := RX3) (T := TX3) (v := .ref (ad 3 l0 (2 + 1))) (k := 2) hx hb hts inW_3 hown hK hZ2 g1.1 g1.2 rfl (by decide) k_1_110 rfl (D_180 W_prog_5_method_31_code_0 13 rfl rfl rfl) ?_
    refine lv_iload_n hx hb (D_27 W_prog_5_method_31_code_0 16 rfl rfl) rfl (lv_at hl 1 rfl) ?_
    refine lv_aload_n hx hb (D_42 W_prog_5_method_31_code_0 17 rfl rfl) rfl (lv_at hl 0 rfl) ?_
    refine zget (ci := 3) (C := RX3) (T := TX3) (v := .int (iI (F2 3 l0 19))) (k := 19) hx hb hts inW_3 hown hK hZ2 g1.1 g1.2 rfl (by decide) k_1_136 rfl (D_180 W_prog_5_method_31_code_0 18 rfl rfl rfl) ?_
    obtain ⟨g5, hf⟩ := gif hf
    refine zast (ci := 3) (k := 2) hx hb hK rfl hZ2 hS2 g1.1 g1.2 rfl (Nat.le_of_ble_eq_true rfl) g5.1 g5.2 (D_79 W_prog_5_method_31_code_0 21 rfl rfl) (fun H6 locs6 hZ6 hS6 => ?_)
    refine lv_aload_n hx hb (D_42 W_prog_5_method_31_code_0 22 rfl rfl) rfl (lv_at hl 0 rfl) ?_
    refine lv_iload_n hx hb (D_27 W_prog_5_method_31_code_0 23 rfl rfl) rfl (lv_at hl 1 rfl) ?_
    obtain ⟨r7, F7, B7, hc7, hf⟩ := gbind hf
    refine va_calli (va_runV (As := [.int (iI l1)]) (rest := []) ⟨hx, hb, hml, hown, hts⟩ (ho.1 hc7) (cwV 1 hts (gdV k_3_212 k_3_214 ks_10 k_1_4 k_3_215) rfl rfl rfl (by decide +kernel) ⟨by dsimp only; omega, by dsimp only; omega⟩) (zPV X hZ6 hS6 (ci := 3) g1.1 g1.2 (r := (RX3, TX3, 22)) rfl [.int (iI l1)]) rfl rfl hl.1 rfl (lv_room (Nat.le_of_ble_eq_true rfl)) (D_182 W_prog_5_method_31_code_0 24 rfl rfl rfl) ⟨Nat.le_of_ble_eq_true rfl, Nat.le_of_ble_eq_true rfl⟩) hS6 (fun q _ h => zAin X hS6 q h) (zAin X hS6) (fun p7 u7 t7 H7 locs7 ht7 hv7 hw7 hB7 hz7 hk7 hS7 => ?_)
    have hZ7 := zBack X ht7 hB7
    subst hw7
    obtain ⟨g8, hf⟩ := gif hf
    refine z0ne (tgt := 32) hx hb g8 (D_154 W_prog_5_method_31_code_0 27 rfl rfl rfl) (by decide) (fun h9 => ?_) (fun h9 => ?_)
    · replace hf := gneg hf h9
      refine lv_aload_n hx hb (D_42 W_prog_5_method_31_code_32 0 rfl rfl) rfl (lv_at hl 0 rfl) ?_
      refine zget (ci := 3) (C := RX3) (T := TX3) (v := va_rf (zrf ad 10 (F7 3 l0 11))) (k := 11) hx hb hts inW_3 hown hK hZ7 g1.1 g1.2 rfl (by decide) k_1_128 rfl (D_180 W_prog_5_method_31_code_32 1 rfl rfl rfl) ?_
      refine lv_ldc2 hx hb hown (hts _ k_4_49) (D_20 W_prog_5_method_31_code_32 4 rfl rfl rfl) ?_
      refine W.eq (g2 := F0 m 39 ls [.long (lI 6384756), va_rf (zrf ad 10 (F7 3 l0 11))]) rfl ?_
      obtain ⟨g10, hf⟩ := gif hf
      refine W.eq (g2 := F0 m 39 ls [.long (lI 6384756), .ref (ad 10 (F7 3 l0 11) 0)]) (by rw [zrf_pos (ad := ad) (t := 10) g10.1]; try rfl) ?_
      obtain ⟨r11, F11, B11, hc11, hf⟩ := gbind hf
      refine va_calli (va_runV (As := [.long (lI 6384756)]) (rest := []) ⟨hx, hb, hml, hown, hts⟩ (c_Tokens_isWord (l := l) hc11) (cwV 1 hts (gdV k_3_160 k_3_161 k_3_162 k_1_5 k_3_163) rfl rfl rfl (by decide +kernel) ⟨by dsimp only; omega, by dsimp only; omega⟩) (zPV X hZ7 hS7 (ci := 10) g10.1 g10.2 (r := (RX10, TX10, 9)) rfl [.long (lI 6384756)]) rfl rfl hl.1 rfl (lv_room (Nat.le_of_ble_eq_true rfl)) (D_182 W_prog_5_method_31_code_32 7 rfl rfl rfl) ⟨Nat.le_of_ble_eq_true rfl, Nat.le_of_ble_eq_true rfl⟩) hS7 (fun q _ h => zAin X hS7 q h) (zAin X hS7) (fun p11 u11 t11 H11 locs11 ht11 hv11 hw11 hB11 hz11 hk11 hS11 => ?_)
      have hZ11 := zBack X ht11 hB11
      subst hw11
      obtain ⟨g12, hf⟩ := gif hf
      refine z0eq (tgt := 53) hx hb g12 (D_153 W_prog_5_method_31_code_32 10 rfl rfl rfl) (by decide) (fun h13 => ?_) (fun h13 => ?_)
      · replace hf := gpos hf h13
        exact b_Parser_takeRepeat_53 X ho hf hZ11 hS11 (lv_sub hl [] rfl)
      · replace hf := gneg hf h13
        refine lv_aload_n hx hb (D_42 W_prog_5_method_31_code_32 13 rfl rfl) rfl (lv_at hl 0 rfl) ?_
        refine lv_iload_n hx hb (D_27 W_prog_5_method_31_code_32 14 rfl rfl) rfl (lv_at hl 1 rfl) ?_
        obtain ⟨r14, F14, B14, hc14, hf⟩ := gbind hf
        refine va_calli (va_runV (As := [.int (iI l1)]) (rest := []) ⟨hx, hb, hml, hown, hts⟩ (ho.2.2.2.2.2.1 hc14) (cwV 1 hts (gdV k_4_50 k_4_52 ks_26 k_1_4 k_4_53) rfl rfl rfl (by decide +kernel) ⟨by dsimp only; omega, by dsimp only; omega⟩) (zPV X hZ11 hS11 (ci := 3) g1.1 g1.2 (r := (RX3, TX3, 22)) rfl [.int (iI l1)]) rfl rfl hl.1 rfl (lv_room (Nat.le_of_ble_eq_true rfl)) (D_182 W_prog_5_method_31_code_32 15 rfl rfl rfl) ⟨Nat.le_of_ble_eq_true rfl, Nat.le_of_ble_eq_true rfl⟩) hS11 (fun q _ h => zAin X hS11 q h) (zAin X hS11) (fun p14 u14 t14 H14 locs14 ht14 hv14 hw14 hB14 hz14 hk14 hS14 => ?_)
        have hZ14 := zBack X ht14 hB14
        subst hw14
        obtain ⟨g15, hf⟩ := gif hf
        refine z0eq (tgt := 57) hx hb g15 (D_153 W_prog_5_method_31_code_32 18 rfl rfl rfl) (by decide) (fun h16 => ?_) (fun h16 => ?_)
        · replace hf := gpos hf h16
          refine lv_iconst (v := iI 0) hx hb (D_3 W_prog_5_method_31_code_32 25 rfl rfl) rfl ?_
          exact b_Parser_takeRepeat_58 X ho hf hZ14 hS14 (lv_sub hl [] rfl)
        · replace hf := gneg hf h16
          exact b_Parser_takeRepeat_53 X ho hf hZ14 hS14 (lv_sub hl [] rfl)
    · replace hf := gpos hf h9
      refine lv_iconst (v := iI 0) hx hb (D_3 W_prog_5_method_31_code_0 30 rfl rfl) rfl ?_
      cases hf
      exact W.zret hx hb hr rfl (fun t ht hW => ⟨⟨_, (), rfl, rfl, by rw [ht]; exact hZ7, va_K.moved hW.alike hK⟩, hS7.F ht⟩) hS7.2.2 (D_172 W_prog_5_method_31_code_0 31 rfl rfl) hlk
  · replace hf := gpos hf h4
    refine lv_iconst (v := iI 0) hx hb (D_3 W_prog_5_method_31_code_0 10 rfl rfl) rfl ?_
    cases hf
    exact W.zret hx hb hr rfl (fun t ht hW => ⟨⟨_, (), rfl, rfl, by rw [ht]; exact hZ2, va_K.moved hW.alike hK⟩, hS2.F ht⟩) hS2.2.2 (D_172 W_prog_5_method_31_code_0 11 rfl rfl) hlk

def f_Parser_takeAlternatives_87 (o : oT_CP) (K : zK)  (F : zF) (B : zB) : zO := some (1, F, B)
set_option maxHeartbeats 4000000 in
set_option maxRecDepth 100000 in
theorem b_Parser_takeAlternatives_87 {D : va_G} {ca : Nat → ClassId} {ad : Nat → Int → Nat → Nat} {L : List Nat} {aS vS : Nat → Nat} {A : Nat → Prop} {p : Program} {l : Launch} {e : Env} {s : State} {m : MethodId} {args : Array Value} {below : List Frame} {meth : Method} {c : Code} {K : zK} {r : Int} {F9 : zF} {B9 : zB} {d : Nat} {o : oT_CP} (X : zX D ca L aS vS A p s m args meth c prog_5_method_32_code 5 (Option.some Jvm.ClassFile.FieldType.boolean) "StaveHouse$Parser") (ho : oH_CP K l D ca ad L aS vS d o)  {F : zF} {B : zB} {H : Heap} {locs : List Loc} {ls : Array Slot} (hf : f_Parser_takeAlternatives_87 o K  F B = some (r, F9, B9)) (hZ : zH D ca ad lnC K.2 L F B A H) (hS : va_S A s.heap H locs) (hl : lv_has ls 5 []) : W p l e ({ frames := d + 1 + 7, cells := 0, slots := 0, locals := 25 * (d + 1) + 136 } : Room) s m args below meth c H locs 0 0 (MQ below (Q_Parser_takeAlternatives K D ca ad L r F9 B9 A) args s 0 0 A) (F0 m 87 ls []) := by
  obtain ⟨hx, hb, hr, hml, hown, hts, hlk, hK, hA, hL, hX⟩ := id X
  replace hf : (some (1, F, B)) = some (r, F9, B9) := hf
  refine lv_iconst (v := iI 1) hx hb (D_4 W_prog_5_method_32_code_64 23 rfl rfl) rfl ?_
  cases hf
  exact W.zret hx hb hr rfl (fun t ht hW => ⟨⟨_, (), rfl, rfl, by rw [ht]; exact hZ, va_K.moved hW.alike hK⟩, hS.F ht⟩) hS.2.2 (D_172 W_prog_5_method_32_code_64 24 rfl rfl) hlk

def f_Parser_takeAlternatives_67 (o : oT_CP) (rec11 : Int → Int → Int → Int → zF → zB → zO) (K : zK) (l4 : Int) (l3 : Int) (l0 : Int) (l1 : Int) (F : zF) (B : zB) : zO := if 0 ≤ l0 ∧ l0 < K.2 3 then zbind (o.1 l0 l4 F B) (fun r22 F22 B22 => if r32 r22 then (if r22 = 0 then some (0, F22, B22) else rec11 (l3 + 1) l4 l0 l1 F22 B22) else none) else none
set_option maxHeartbeats 4000000 in
set_option maxRecDepth 100000 in
theorem b_Parser_takeAlternatives_67 {D : va_G} {ca : Nat → ClassId} {ad : Nat → Int → Nat → Nat} {L : List Nat} {aS vS : Nat → Nat} {A : Nat → Prop} {p : Program} {l : Launch} {e : Env} {s : State} {m : MethodId} {args : Array Value} {below : List Frame} {meth : Method} {c : Code} {K : zK} {r : Int} {F9 : zF} {B9 : zB} {d : Nat} {o : oT_CP} (X : zX D ca L aS vS A p s m args meth c prog_5_method_32_code 5 (Option.some Jvm.ClassFile.FieldType.boolean) "StaveHouse$Parser") (ho : oH_CP K l D ca ad L aS vS d o) {rec11 : Int → Int → Int → Int → zF → zB → zO} (hrec11 : ∀ {l3 : Int} {l2 : Int} {l0 : Int} {l1 : Int} {F : zF} {B : zB} {H : Heap} {locs : List Loc} {ls : Array Slot}, rec11 l3 l2 l0 l1 F B = some (r, F9, B9) → zH D ca ad lnC K.2 L F B A H → va_S A s.heap H locs → lv_has ls 5 [(3, .int (iI l3)), (2, .int (iI l2)), (0, .ref (ad 3 l0 0)), (1, .int (iI l1))] → W p l e ({ frames := d + 1 + 7, cells := 0, slots := 0, locals := 25 * (d + 1) + 136 } : Room) s m args below meth c H locs 0 0 (MQ below (Q_Parser_takeAlternatives K D ca ad L r F9 B9 A) args s 0 0 A) (F0 m 11 ls [])) {l4 : Int} {l3 : Int} {l0 : Int} {l1 : Int} {F : zF} {B : zB} {H : Heap} {locs : List Loc} {ls : Array Slot} (hf : f_Parser_takeAlternatives_67 o rec11 K l4 l3 l0 l1 F B = some (r, F9, B9)) (hZ : zH D ca ad lnC K.2 L F B A H) (hS : va_S A s.heap H locs) (hl : lv_has ls 5 [(4, .int (iI l4)), (3, .int (iI l3)), (0, .ref (ad 3 l0 0)), (1, .int (iI l1))]) : W p l e ({ frames := d + 1 + 7, cells := 0, slots := 0, locals := 25 * (d + 1) + 136 } : Room) s m args below meth c H locs 0 0 (MQ below (Q_Parser_takeAlternatives K D ca ad L r F9 B9 A) args s 0 0 A) (F0 m 67 ls []) := by
  obtain ⟨hx, hb, hr, hml, hown, hts, hlk, hK, hA, hL, hX⟩ := id X
  replace hf : (if 0 ≤ l0 ∧ l0 < K.2 3 then zbind (o.1 l0 l4 F B) (fun r22 F22 B22 => if r32 r22 then (if r22 = 0 then some (0, F22, B22) else rec11 (l3 + 1) l4 l0 l1 F22 B22) else none) else none) = some (r, F9, B9) := hf
  refine lv_iload hx hb (D_21 W_prog_5_method_32_code_64 3 rfl rfl) (lv_at hl 0 rfl) ?_
  refine lv_istore_n (lv' := [(2, .int (iI l4)), (4, .int (iI l4)), (3, .int (iI l3)), (0, .ref (ad 3 l0 0)), (1, .int (iI l1))]) hx hb (D_61 W_prog_5_method_32_code_64 5 rfl rfl) rfl hl (by decide) rfl (fun ls hl => ?_)
  refine lv_aload_n hx hb (D_42 W_prog_5_method_32_code_64 6 rfl rfl) rfl (lv_at hl 3 rfl) ?_
  refine lv_iload hx hb (D_21 W_prog_5_method_32_code_64 7 rfl rfl) (lv_at hl 1 rfl) ?_
  obtain ⟨g21, hf⟩ := gif hf
  obtain ⟨r22, F22, B22, hc22, hf⟩ := gbind hf
  refine va_calli (va_runV (As := [.int (iI l4)]) (rest := []) ⟨hx, hb, hml, hown, hts⟩ (ho.1 hc22) (cwV 1 hts (gdV k_3_212 k_3_214 ks_10 k_1_4 k_3_215) rfl rfl rfl (by decide +kernel) ⟨by dsimp only; omega, by dsimp only; omega⟩) (zPV X hZ hS (ci := 3) g21.1 g21.2 (r := (RX3, TX3, 22)) rfl [.int (iI l4)]) rfl rfl hl.1 rfl (lv_room (Nat.le_of_ble_eq_true rfl)) (D_182 W_prog_5_method_32_code_64 9 rfl rfl rfl) ⟨Nat.le_of_ble_eq_true rfl, Nat.le_of_ble_eq_true rfl⟩) hS (fun q _ h => zAin X hS q h) (zAin X hS) (fun p22 u22 t22 H22 locs22 ht22 hv22 hw22 hB22 hz22 hk22 hS22 => ?_)
  have hZ22 := zBack X ht22 hB22
  subst hw22
  obtain ⟨g23, hf⟩ := gif hf
  refine z0ne (tgt := 81) hx hb g23 (D_154 W_prog_5_method_32_code_64 12 rfl rfl rfl) (by decide) (fun h24 => ?_) (fun h24 => ?_)
  · replace hf := gneg hf h24
    refine lv_iinc (v := iI (l3 + 1)) (lv' := [(3, .int (iI (l3 + 1))), (2, .int (iI l4)), (4, .int (iI l4)), (0, .ref (ad 3 l0 0)), (1, .int (iI l1))]) hx hb d_5_32_81 hl (k := 2) rfl (iI_add _ 1) (by decide) rfl (fun ls hl => ?_)
    refine lv_goto (tgt := 11) hx hb (D_167 W_prog_5_method_32_code_64 20 rfl rfl rfl) (by decide) ?_
    exact hrec11 hf hZ22 hS22 (lv_sub hl [0, 1, 3, 4] rfl)
  · replace hf := gpos hf h24
    refine lv_iconst (v := iI 0) hx hb (D_3 W_prog_5_method_32_code_64 15 rfl rfl) rfl ?_
    cases hf
    exact W.zret hx hb hr rfl (fun t ht hW => ⟨⟨_, (), rfl, rfl, by rw [ht]; exact hZ22, va_K.moved hW.alike hK⟩, hS22.F ht⟩) hS22.2.2 (D_172 W_prog_5_method_32_code_64 16 rfl rfl) hlk

def f_Parser_takeAlternatives_35 (o : oT_CP) (rec11 : Int → Int → Int → Int → zF → zB → zO) (K : zK) (l3 : Int) (l2 : Int) (l0 : Int) (l1 : Int) (F : zF) (B : zB) : zO := if 0 ≤ l0 ∧ l0 < K.2 3 then zbind (f_Parser_newItem K l0 10 F B) (fun r14 F14 B14 => if r32 l2 then (if l2 = (-1) then if 0 ≤ l1 ∧ l1 < 3000 then f_Parser_takeAlternatives_67 o rec11 K r14 l3 l0 l1 F14 (zup4 B14 3 l0 3 l1 r14) else none else if 0 ≤ l2 ∧ l2 < 3000 then f_Parser_takeAlternatives_67 o rec11 K r14 l3 l0 l1 F14 (zup4 B14 3 l0 5 l2 r14) else none) else none) else none
set_option maxHeartbeats 4000000 in
set_option maxRecDepth 100000 in
theorem b_Parser_takeAlternatives_35 {D : va_G} {ca : Nat → ClassId} {ad : Nat → Int → Nat → Nat} {L : List Nat} {aS vS : Nat → Nat} {A : Nat → Prop} {p : Program} {l : Launch} {e : Env} {s : State} {m : MethodId} {args : Array Value} {below : List Frame} {meth : Method} {c : Code} {K : zK} {r : Int} {F9 : zF} {B9 : zB} {d : Nat} {o : oT_CP} (X : zX D ca L aS vS A p s m args meth c prog_5_method_32_code 5 (Option.some Jvm.ClassFile.FieldType.boolean) "StaveHouse$Parser") (ho : oH_CP K l D ca ad L aS vS d o) {rec11 : Int → Int → Int → Int → zF → zB → zO} (hrec11 : ∀ {l3 : Int} {l2 : Int} {l0 : Int} {l1 : Int} {F : zF} {B : zB} {H : Heap} {locs : List Loc} {ls : Array Slot}, rec11 l3 l2 l0 l1 F B = some (r, F9, B9) → zH D ca ad lnC K.2 L F B A H → va_S A s.heap H locs → lv_has ls 5 [(3, .int (iI l3)), (2, .int (iI l2)), (0, .ref (ad 3 l0 0)), (1, .int (iI l1))] → W p l e ({ frames := d + 1 + 7, cells := 0, slots := 0, locals := 25 * (d + 1) + 136 } : Room) s m args below meth c H locs 0 0 (MQ below (Q_Parser_takeAlternatives K D ca ad L r F9 B9 A) args s 0 0 A) (F0 m 11 ls [])) {l3 : Int} {l2 : Int} {l0 : Int} {l1 : Int} {F : zF} {B : zB} {H : Heap} {locs : List Loc} {ls : Array Slot} (hf : f_Parser_takeAlternatives_35 o rec11 K l3 l2 l0 l1 F B = some (r, F9, B9)) (hZ : zH D ca ad lnC K.2 L F B A H) (hS : va_S A s.heap H locs) (hl : lv_has ls 5 [(3, .int (iI l3)), (2, .int (iI l2)), (0, .ref (ad 3 l0 0)), (1, .int (iI l1))]) : W p l e ({ frames := d + 1 + 7, cells := 0, slots := 0, locals := 25 * (d + 1) + 136 } : Room) s m args below meth c H locs 0 0 (MQ below (Q_Parser_takeAlternatives K D ca ad L r F9 B9 A) args s 0 0 A) (F0 m 35 ls []) := by
  obtain ⟨hx, hb, hr, hml, hown, hts, hlk, hK, hA, hL, hX⟩ := id X
  replace hf : (if 0 ≤ l0 ∧ l0 < K.2 3 then zbind (f_Parser_newItem K l0 10 F B) (fun r14 F14 B14 => if r32 l2 then (if l2 = (-1) then if 0 ≤ l1 ∧ l1 < 3000 then f_Parser_takeAlternatives_67 o rec11 K r14 l3 l0 l1 F14 (zup4 B14 3 l0 3 l1 r14) else none else if 0 ≤ l2 ∧ l2 < 3000 then f_Parser_takeAlternatives_67 o rec11 K r14 l3 l0 l1 F14 (zup4 B14 3 l0 5 l2 r14) else none) else none) else none) = some (r, F9, B9) := hf
  refine lv_aload_n hx hb (D_42 W_prog_5_method_32_code_32 3 rfl rfl) rfl (lv_at hl 2 rfl) ?_
  refine lv_bipush (v := iI 10) hx hb (D_16 W_prog_5_method_32_code_32 4 rfl rfl rfl) (by decide) ?_
  obtain ⟨g13, hf⟩ := gif hf
  obtain ⟨r14, F14, B14, hc14, hf⟩ := gbind hf
  refine va_calli (va_runV (As := [.int (iI 10)]) (rest := []) ⟨hx, hb, hml, hown, hts⟩ (c_Parser_newItem (l := l) hc14) (cwV 1 hts (gdV k_3_175 k_3_177 ks_5 k_1_4 k_3_178) rfl rfl rfl (by decide +kernel) ⟨by dsimp only; omega, by dsimp only; omega⟩) (zPV X hZ hS (ci := 3) g13.1 g13.2 (r := (RX3, TX3, 22)) rfl [.int (iI 10)]) rfl rfl hl.1 rfl (lv_room (Nat.le_of_ble_eq_true rfl)) (D_182 W_prog_5_method_32_code_32 6 rfl rfl rfl) ⟨Nat.le_of_ble_eq_true rfl, Nat.le_of_ble_eq_true rfl⟩) hS (fun q _ h => zAin X hS q h) (zAin X hS) (fun p14 u14 t14 H14 locs14 ht14 hv14 hw14 hB14 hz14 hk14 hS14 => ?_)
  have hZ14 := zBack X ht14 hB14
  subst hw14
  refine lv_istore (lv' := [(4, .int (iI r14)), (3, .int (iI l3)), (2, .int (iI l2)), (0, .ref (ad 3 l0 0)), (1, .int (iI l1))]) hx hb (D_54 W_prog_5_method_32_code_32 9 rfl rfl) hl (by decide) rfl (fun ls hl => ?_)
  refine lv_iload_n hx hb (D_28 W_prog_5_method_32_code_32 11 rfl rfl) rfl (lv_at hl 2 rfl) ?_
  refine lv_iconst (v := iI (-1)) hx hb (D_2 W_prog_5_method_32_code_32 12 rfl rfl) rfl ?_
  obtain ⟨g15, hf⟩ := gif hf
  refine zne (tgt := 59) hx hb g15 (by decide) (D_160 W_prog_5_method_32_code_32 13 rfl rfl rfl) (by decide) (fun h16 => ?_) (fun h16 => ?_)
  · replace hf := gneg hf h16
    refine lv_aload_n hx hb (D_42 W_prog_5_method_32_code_32 27 rfl rfl) rfl (lv_at hl 3 rfl) ?_
    refine zget (ci := 3) (C := RX3) (T := TX3) (v := .ref (ad 3 l0 (5 + 1))) (k := 5) hx hb hts inW_3 hown hK hZ14 g13.1 g13.2 rfl (by decide) k_1_116 rfl (D_180 W_prog_5_method_32_code_32 28 rfl rfl rfl) ?_
    refine lv_iload_n hx hb (D_28 W_prog_5_method_32_code_32 31 rfl rfl) rfl (lv_at hl 2 rfl) ?_
    refine lv_iload hx hb (D_21 W_prog_5_method_32_code_64 0 rfl rfl) (lv_at hl 0 rfl) ?_
    obtain ⟨g17, hf⟩ := gif hf
    refine zast (ci := 3) (k := 5) hx hb hK rfl hZ14 hS14 g13.1 g13.2 rfl (Nat.le_of_ble_eq_true rfl) g17.1 g17.2 (D_79 W_prog_5_method_32_code_64 2 rfl rfl) (fun H18 locs18 hZ18 hS18 => ?_)
    exact b_Parser_takeAlternatives_67 X ho hrec11 hf hZ18 hS18 (lv_sub hl [0, 1, 3, 4] rfl)
  · replace hf := gpos hf h16
    refine lv_aload_n hx hb (D_42 W_prog_5_method_32_code_32 16 rfl rfl) rfl (lv_at hl 3 rfl) ?_
    refine zget (ci := 3) (C := RX3) (T := TX3) (v := .ref (ad 3 l0 (3 + 1))) (k := 3) hx hb hts inW_3 hown hK hZ14 g13.1 g13.2 rfl (by decide) k_1_112 rfl (D_180 W_prog_5_method_32_code_32 17 rfl rfl rfl) ?_
    refine lv_iload_n hx hb (D_27 W_prog_5_method_32_code_32 20 rfl rfl) rfl (lv_at hl 4 rfl) ?_
    refine lv_iload hx hb (D_21 W_prog_5_method_32_code_32 21 rfl rfl) (lv_at hl 0 rfl) ?_
    obtain ⟨g19, hf⟩ := gif hf
    refine zast (ci := 3) (k := 3) hx hb hK rfl hZ14 hS14 g13.1 g13.2 rfl (Nat.le_of_ble_eq_true rfl) g19.1 g19.2 (D_79 W_prog_5_method_32_code_32 23 rfl rfl) (fun H20 locs20 hZ20 hS20 => ?_)
    refine lv_goto (tgt := 67) hx hb (D_167 W_prog_5_method_32_code_32 24 rfl rfl rfl) (by decide) ?_
    exact b_Parser_takeAlternatives_67 X ho hrec11 hf hZ20 hS20 (lv_sub hl [0, 1, 3, 4] rfl)

def f_Parser_takeAlternatives_11 (o : oT_CP) (K : zK) : Nat → Int → Int → Int → Int → zF → zB → zO
  | 0, _, _, _, _, _, _ => none
  | n + 1, l3, l2, l0, l1, F, B => if r32 l3 then (if 3000 ≤ l3 then f_Parser_takeAlternatives_87 o K F B else if r32 l2 then (if l2 = (-1) then f_Parser_takeAlternatives_35 o (f_Parser_takeAlternatives_11 o K n) K l3 l2 l0 l1 F B else if 0 ≤ l0 ∧ l0 < K.2 3 then if 0 ≤ (F 3 l0 11) ∧ (F 3 l0 11) < K.2 10 then zbind (f_Tokens_isSign K (F 3 l0 11) 123 F B) (fun r10 F10 B10 => if r32 r10 then (if r10 = 0 then f_Parser_takeAlternatives_87 o K F10 B10 else f_Parser_takeAlternatives_35 o (f_Parser_takeAlternatives_11 o K n) K l3 l2 l0 l1 F10 B10) else none) else none else none) else none) else none
set_option maxHeartbeats 4000000 in
set_option maxRecDepth 100000 in
theorem b_Parser_takeAlternatives_11 {D : va_G} {ca : Nat → ClassId} {ad : Nat → Int → Nat → Nat} {L : List Nat} {aS vS : Nat → Nat} {A : Nat → Prop} {p : Program} {l : Launch} {e : Env} {s : State} {m : MethodId} {args : Array Value} {below : List Frame} {meth : Method} {c : Code} {K : zK} {r : Int} {F9 : zF} {B9 : zB} {d : Nat} {o : oT_CP} (X : zX D ca L aS vS A p s m args meth c prog_5_method_32_code 5 (Option.some Jvm.ClassFile.FieldType.boolean) "StaveHouse$Parser") (ho : oH_CP K l D ca ad L aS vS d o) : ∀ {n : Nat} {l3 : Int} {l2 : Int} {l0 : Int} {l1 : Int} {F : zF} {B : zB} {H : Heap} {locs : List Loc} {ls : Array Slot}, f_Parser_takeAlternatives_11 o K n l3 l2 l0 l1 F B = some (r, F9, B9) → zH D ca ad lnC K.2 L F B A H → va_S A s.heap H locs → lv_has ls 5 [(3, .int (iI l3)), (2, .int (iI l2)), (0, .ref (ad 3 l0 0)), (1, .int (iI l1))] → W p l e ({ frames := d + 1 + 7, cells := 0, slots := 0, locals := 25 * (d + 1) + 136 } : Room) s m args below meth c H locs 0 0 (MQ below (Q_Parser_takeAlternatives K D ca ad L r F9 B9 A) args s 0 0 A) (F0 m 11 ls []) := by
  obtain ⟨hx, hb, hr, hml, hown, hts, hlk, hK, hA, hL, hX⟩ := id X
  intro n
  induction n with
  | zero =>
    intros
    rename_i hf _ _ _
    cases hf
  | succ n ih =>
    intro l3 l2 l0 l1 F B H locs ls hf hZ hS hl
    replace hf : (if r32 l3 then (if 3000 ≤ l3 then f_Parser_takeAlternatives_87 o K F B else if r32 l2 then (if l2 = (-1) then f_Parser_takeAlternatives_35 o (f_Parser_takeAlternatives_11 o K n) K l3 l2 l0 l1 F B else if 0 ≤ l0 ∧ l0 < K.2 3 then if 0 ≤ (F 3 l0 11) ∧ (F 3 l0 11) < K.2 10 then zbind (f_Tokens_isSign K (F 3 l0 11) 123 F B) (fun r10 F10 B10 => if r32 r10 then (if r10 = 0 then f_Parser_takeAlternatives_87 o K F10 B10 else f_Parser_takeAlternatives_35 o (f_Parser_takeAlternatives_11 o K n) K l3 l2 l0 l1 F10 B10) else none) else none else none) else none) else none) = some (r, F9, B9) := hf
    refine lv_iload_n hx hb (D_29 W_prog_5_method_32_code_0 11 rfl rfl) rfl (lv_at hl 0 rfl) ?_
    refine lv_sipush (v := iI 3000) hx hb (D_17 W_prog_5_method_32_code_0 12 rfl rfl rfl) (by decide) ?_
    obtain ⟨g4, hf⟩ := gif hf
    refine zge (tgt := 87) hx hb g4 (by decide) (D_162 W_prog_5_method_32_code_0 15 rfl rfl rfl) (by decide) (fun h5 => ?_) (fun h5 => ?_)
    · replace hf := gpos hf h5
      exact b_Parser_takeAlternatives_87 X ho hf hZ hS (lv_sub hl [] rfl)
    · replace hf := gneg hf h5
      refine lv_iload_n hx hb (D_28 W_prog_5_method_32_code_0 18 rfl rfl) rfl (lv_at hl 1 rfl) ?_
      refine lv_iconst (v := iI (-1)) hx hb (D_2 W_prog_5_method_32_code_0 19 rfl rfl) rfl ?_
      obtain ⟨g6, hf⟩ := gif hf
      refine zeq (tgt := 35) hx hb g6 (by decide) (D_159 W_prog_5_method_32_code_0 20 rfl rfl rfl) (by decide) (fun h7 => ?_) (fun h7 => ?_)
      · replace hf := gpos hf h7
        exact b_Parser_takeAlternatives_35 X ho ih hf hZ hS (lv_sub hl [0, 1, 2, 3] rfl)
      · replace hf := gneg hf h7
        refine lv_aload_n hx hb (D_42 W_prog_5_method_32_code_0 23 rfl rfl) rfl (lv_at hl 2 rfl) ?_
        obtain ⟨g8, hf⟩ := gif hf
        refine zget (ci := 3) (C := RX3) (T := TX3) (v := va_rf (zrf ad 10 (F 3 l0 11))) (k := 11) hx hb hts inW_3 hown hK hZ g8.1 g8.2 rfl (by decide) k_1_128 rfl (D_180 W_prog_5_method_32_code_0 24 rfl rfl rfl) ?_
        refine lv_bipush (v := iI 123) hx hb (D_16 W_prog_5_method_32_code_0 27 rfl rfl rfl) (by decide) ?_
        obtain ⟨g9, hf⟩ := gif hf
        refine W.eq (g2 := F0 m 29 ls [.int (iI 123), .ref (ad 10 (F 3 l0 11) 0)]) (by rw [zrf_pos (ad := ad) (t := 10) g9.1]; try rfl) ?_
        obtain ⟨r10, F10, B10, hc10, hf⟩ := gbind hf
        refine va_calli (va_runV (As := [.int (iI 123)]) (rest := []) ⟨hx, hb, hml, hown, hts⟩ (c_Tokens_isSign (l := l) hc10) (cwV 1 hts (gdV k_3_208 k_3_209 k_3_210 k_1_5 k_3_211) rfl rfl rfl (by decide +kernel) ⟨by dsimp only; omega, by dsimp only; omega⟩) (zPV X hZ hS (ci := 10) g9.1 g9.2 (r := (RX10, TX10, 9)) rfl [.int (iI 123)]) rfl rfl hl.1 rfl (lv_room (Nat.le_of_ble_eq_true rfl)) (D_182 W_prog_5_method_32_code_0 29 rfl rfl rfl) ⟨Nat.le_of_ble_eq_true rfl, Nat.le_of_ble_eq_true rfl⟩) hS (fun q _ h => zAin X hS q h) (zAin X hS) (fun p10 u10 t10 H10 locs10 ht10 hv10 hw10 hB10 hz10 hk10 hS10 => ?_)
        have hZ10 := zBack X ht10 hB10
        subst hw10
        obtain ⟨g11, hf⟩ := gif hf
        refine z0eq (tgt := 87) hx hb g11 (D_153 W_prog_5_method_32_code_32 0 rfl rfl rfl) (by decide) (fun h12 => ?_) (fun h12 => ?_)
        · replace hf := gpos hf h12
          exact b_Parser_takeAlternatives_87 X ho hf hZ10 hS10 (lv_sub hl [] rfl)
        · replace hf := gneg hf h12
          exact b_Parser_takeAlternatives_35 X ho ih hf hZ10 hS10 (lv_sub hl [0, 1, 2, 3] rfl)

def fb_Parser_takeAlternatives (o : oT_CP) (K : zK) (l0 : Int) (l1 : Int) (F : zF) (B : zB) : zO := if 0 ≤ l0 ∧ l0 < K.2 3 then if 0 ≤ (F 3 l0 11) ∧ (F 3 l0 11) < K.2 10 then zbind (f_Tokens_advance K (F 3 l0 11) F B) (fun r3 F3 B3 => f_Parser_takeAlternatives_11 o K K.1 0 (-1) l0 l1 F3 B3) else none else none
set_option maxHeartbeats 4000000 in
set_option maxRecDepth 100000 in
theorem cb_Parser_takeAlternatives {l : Launch} {D : va_G} {ca : Nat → ClassId} {ad : Nat → Int → Nat → Nat} {L : List Nat} {aS vS : Nat → Nat} {sz : Nat} {K : zK} {d : Nat} {o : oT_CP} (ho : oH_CP K l D ca ad L aS vS d o)  {l0 : Int} {l1 : Int} {F F9 : zF} {B B9 : zB} {r : Int} (hf : fb_Parser_takeAlternatives o K l0 l1 F B = some (r, F9, B9)) : Met l ({ cls := "StaveHouse$Parser", name := "takeAlternatives", desc := "(I)Z" } : Jvm.MethodName) (Cond.code ({ cls := "StaveHouse$Parser", name := "takeAlternatives", desc := "(I)Z" } : Jvm.MethodName) prog_5_method_32_code 5 (Option.some Jvm.ClassFile.FieldType.boolean) :: wAll) ({ frames := d + 1 + 7, cells := 0, slots := 0, locals := 25 * (d + 1) + 136 } : Room) (va_Pc [.ref (ad 3 l0 0), .int (iI l1)] (zPre D ca ad lnC K.2 L aS vS F B sz)) (Q_Parser_takeAlternatives K D ca ad L r F9 B9 (zA L sz)) 0 0 (zA L sz) := by
  refine zMet (Qc := Q_Parser_takeAlternatives K D ca ad L r F9 B9) (lv := [(0, .ref (ad 3 l0 0)), (1, .int (iI l1))]) (by decide) (Nat.le_of_ble_eq_true rfl) rfl (fun A p e s m below meth c ls X hZ hS hl => ?_)
  obtain ⟨hx, hb, hr, hml, hown, hts, hlk, hK, hA, hL, hX⟩ := id X
  replace hf : (if 0 ≤ l0 ∧ l0 < K.2 3 then if 0 ≤ (F 3 l0 11) ∧ (F 3 l0 11) < K.2 10 then zbind (f_Tokens_advance K (F 3 l0 11) F B) (fun r3 F3 B3 => f_Parser_takeAlternatives_11 o K K.1 0 (-1) l0 l1 F3 B3) else none else none) = some (r, F9, B9) := hf
  refine lv_aload_n hx hb (D_42 W_prog_5_method_32_code_0 0 rfl rfl) rfl (lv_at hl 0 rfl) ?_
  obtain ⟨g1, hf⟩ := gif hf
  refine zget (ci := 3) (C := RX3) (T := TX3) (v := va_rf (zrf ad 10 (F 3 l0 11))) (k := 11) hx hb hts inW_3 hown hK hZ g1.1 g1.2 rfl (by decide) k_1_128 rfl (D_180 W_prog_5_method_32_code_0 1 rfl rfl rfl) ?_
  obtain ⟨g2, hf⟩ := gif hf
  refine W.eq (g2 := F0 m 4 ls [.ref (ad 10 (F 3 l0 11) 0)]) (by rw [zrf_pos (ad := ad) (t := 10) g2.1]; try rfl) ?_
  obtain ⟨r3, F3, B3, hc3, hf⟩ := gbind hf
  refine va_callv (va_runV (As := []) (rest := []) ⟨hx, hb, hml, hown, hts⟩ (c_Tokens_advance (l := l) hc3) (cwV 0 hts (gdV k_3_180 k_3_152 k_3_153 k_1_5 k_3_154) rfl rfl rfl (by decide +kernel) ⟨by dsimp only; omega, by dsimp only; omega⟩) (zPV X hZ hS (ci := 10) g2.1 g2.2 (r := (RX10, TX10, 9)) rfl []) rfl rfl hl.1 rfl (lv_room (Nat.le_of_ble_eq_true rfl)) (D_182 W_prog_5_method_32_code_0 4 rfl rfl rfl) ⟨Nat.le_of_ble_eq_true rfl, Nat.le_of_ble_eq_true rfl⟩) hS (fun q _ h => zAin X hS q h) (zAin X hS) (fun u3 t3 H3 locs3 ht3 hv3 hw3 hB3 hz3 hk3 hS3 => ?_)
  have hZ3 := zBack X ht3 hB3
  refine lv_iconst (v := iI (-1)) hx hb (D_2 W_prog_5_method_32_code_0 7 rfl rfl) rfl ?_
  refine lv_istore_n (lv' := [(2, .int (iI (-1))), (0, .ref (ad 3 l0 0)), (1, .int (iI l1))]) hx hb (D_61 W_prog_5_method_32_code_0 8 rfl rfl) rfl hl (by decide) rfl (fun ls hl => ?_)
  refine lv_iconst (v := iI 0) hx hb (D_3 W_prog_5_method_32_code_0 9 rfl rfl) rfl ?_
  refine lv_istore_n (lv' := [(3, .int (iI 0)), (2, .int (iI (-1))), (0, .ref (ad 3 l0 0)), (1, .int (iI l1))]) hx hb (D_62 W_prog_5_method_32_code_0 10 rfl rfl) rfl hl (by decide) rfl (fun ls hl => ?_)
  exact b_Parser_takeAlternatives_11 X ho hf hZ3 hS3 (lv_sub hl [0, 1, 2, 3] rfl)

def fb_Parser_takeMove (o : oT_CP) (K : zK) (l0 : Int) (l1 : Int) (F : zF) (B : zB) : zO := if 0 ≤ l0 ∧ l0 < K.2 3 then if 0 ≤ (F 3 l0 11) ∧ (F 3 l0 11) < K.2 10 then if r32 (F 10 (F 3 l0 11) 0) then (if (F 10 (F 3 l0 11) 0) = 2 then zbind (f_S_naturalTone K (F 10 (F 3 l0 11) 3) F B) (fun r5 F5 B5 => if 0 ≤ (F5 3 l0 11) ∧ (F5 3 l0 11) < K.2 10 then zbind (f_Tokens_advance K (F5 3 l0 11) F5 B5) (fun r7 F7 B7 => if 0 ≤ (F7 3 l0 11) ∧ (F7 3 l0 11) < K.2 10 then if r32 (F7 10 (F7 3 l0 11) 0) then (if (F7 10 (F7 3 l0 11) 0) = 2 then if 0 ≤ l1 ∧ l1 < 3000 then zbind (f_S_naturalTone K (F7 10 (F7 3 l0 11) 3) F7 (zup4 B7 3 l0 2 l1 ((F7 10 (F7 3 l0 11) 3) - (F 10 (F 3 l0 11) 3)))) (fun r13 F13 B13 => if 0 ≤ (F13 3 l0 11) ∧ (F13 3 l0 11) < K.2 10 then zbind (f_Tokens_advance K (F13 3 l0 11) F13 (zup4 B13 3 l0 3 l1 ((r13 + (F13 10 (F13 3 l0 11) 4)) - (r5 + (F5 10 (F5 3 l0 11) 4))))) (fun r16 F16 B16 => zbind (o.1 l0 l1 F16 B16) (fun r17 F17 B17 => if (r17 = 0 ∨ r17 = 1) then some (r17, F17, B17) else none)) else none) else none else zbind (f_Parser_refuse K l0 2 F7 B7) (fun r19 F19 B19 => if (r19 = 0 ∨ r19 = 1) then some (r19, F19, B19) else none)) else none else none) else none) else zbind (f_Parser_refuse K l0 2 F B) (fun r21 F21 B21 => if (r21 = 0 ∨ r21 = 1) then some (r21, F21, B21) else none)) else none else none else none
set_option maxHeartbeats 4000000 in
set_option maxRecDepth 100000 in
theorem cb_Parser_takeMove {l : Launch} {D : va_G} {ca : Nat → ClassId} {ad : Nat → Int → Nat → Nat} {L : List Nat} {aS vS : Nat → Nat} {sz : Nat} {K : zK} {d : Nat} {o : oT_CP} (ho : oH_CP K l D ca ad L aS vS d o)  {l0 : Int} {l1 : Int} {F F9 : zF} {B B9 : zB} {r : Int} (hf : fb_Parser_takeMove o K l0 l1 F B = some (r, F9, B9)) : Met l ({ cls := "StaveHouse$Parser", name := "takeMove", desc := "(I)Z" } : Jvm.MethodName) (Cond.code ({ cls := "StaveHouse$Parser", name := "takeMove", desc := "(I)Z" } : Jvm.MethodName) prog_5_method_34_code 4 (Option.some Jvm.ClassFile.FieldType.boolean) :: wAll) ({ frames := d + 1 + 7, cells := 0, slots := 0, locals := 25 * (d + 1) + 136 } : Room) (va_Pc [.ref (ad 3 l0 0), .int (iI l1)] (zPre D ca ad lnC K.2 L aS vS F B sz)) (Q_Parser_takeMove K D ca ad L r F9 B9 (zA L sz)) 0 0 (zA L sz) := by
  refine zMet (Qc := Q_Parser_takeMove K D ca ad L r F9 B9) (lv := [(0, .ref (ad 3 l0 0)), (1, .int (iI l1))]) (by decide) (Nat.le_of_ble_eq_true rfl) rfl (fun A p e s m below meth c ls X hZ hS hl => ?_)
  obtain ⟨hx, hb, hr, hml, hown, hts, hlk, hK, hA, hL, hX⟩ := id X
  replace hf : (if 0 ≤ l0 ∧ l0 < K.2 3 then if 0 ≤ (F 3 l0 11) ∧ (F 3 l0 11) < K.2 10 then if r32 (F 10 (F 3 l0 11) 0) then (if (F 10 (F 3 l0 11) 0) = 2 then zbind (f_S_naturalTone K (F 10 (F 3 l0 11) 3) F B) (fun r5 F5 B5 => if 0 ≤ (F5 3 l0 11) ∧ (F5 3 l0 11) < K.2 10 then zbind (f_Tokens_advance K (F5 3 l0 11) F5 B5) (fun r7 F7 B7 => if 0 ≤ (F7 3 l0 11) ∧ (F7 3 l0 11) < K.2 10 then if r32 (F7 10 (F7 3 l0 11) 0) then (if (F7 10 (F7 3 l0 11) 0) = 2 then if 0 ≤ l1 ∧ l1 < 3000 then zbind (f_S_naturalTone K (F7 10 (F7 3 l0 11) 3) F7 (zup4 B7 3 l0 2 l1 ((F7 10 (F7 3 l0 11) 3) - (F 10 (F 3 l0 11) 3)))) (fun r13 F13 B13 => if 0 ≤ (F13 3 l0 11) ∧ (F13 3 l0 11) < K.2 10 then zbind (f_Tokens_advance K (F13 3 l0 11) F13 (zup4 B13 3 l0 3 l1 ((r13 + (F13 10 (F13 3 l0 11) 4)) - (r5 + (F5 10 (F5 3 l0 11) 4))))) (fun r16 F16 B16 => zbind (o.1 l0 l1 F16 B16) (fun r17 F17 B17 => if (r17 = 0 ∨ r17 = 1) then some (r17, F17, B17) else none)) else none) else none else zbind (f_Parser_refuse K l0 2 F7 B7) (fun r19 F19 B19 => if (r19 = 0 ∨ r19 = 1) then some (r19, F19, B19) else none)) else none else none) else none) else zbind (f_Parser_refuse K l0 2 F B) (fun r21 F21 B21 => if (r21 = 0 ∨ r21 = 1) then some (r21, F21, B21) else none)) else none else none else none) = some (r, F9, B9) := hf
  refine lv_aload_n hx hb (D_42 W_prog_5_method_34_code_0 0 rfl rfl) rfl (lv_at hl 0 rfl) ?_
  obtain ⟨g1, hf⟩ := gif hf
  refine zget (ci := 3) (C := RX3) (T := TX3) (v := va_rf (zrf ad 10 (F 3 l0 11))) (k := 11) hx hb hts inW_3 hown hK hZ g1.1 g1.2 rfl (by decide) k_1_128 rfl (D_180 W_prog_5_method_34_code_0 1 rfl rfl rfl) ?_
  obtain ⟨g2, hf⟩ := gif hf
  refine zunrf g2.1 ?_
  refine zget (ci := 10) (C := RX10) (T := TX10) (v := .int (iI (F 10 (F 3 l0 11) 0))) (k := 0) hx hb hts inW_10 hown hK hZ g2.1 g2.2 rfl (by decide) k_1_72 rfl (D_180 W_prog_5_method_34_code_0 4 rfl rfl rfl) ?_
  refine lv_iconst (v := iI 2) hx hb (D_5 W_prog_5_method_34_code_0 7 rfl rfl) rfl ?_
  obtain ⟨g3, hf⟩ := gif hf
  refine zeq (tgt := 17) hx hb g3 (by decide) (D_159 W_prog_5_method_34_code_0 8 rfl rfl rfl) (by decide) (fun h4 => ?_) (fun h4 => ?_)
  · replace hf := gpos hf h4
    refine lv_aload_n hx hb (D_42 W_prog_5_method_34_code_0 17 rfl rfl) rfl (lv_at hl 0 rfl) ?_
    refine zget (ci := 3) (C := RX3) (T := TX3) (v := va_rf (zrf ad 10 (F 3 l0 11))) (k := 11) hx hb hts inW_3 hown hK hZ g1.1 g1.2 rfl (by decide) k_1_128 rfl (D_180 W_prog_5_method_34_code_0 18 rfl rfl rfl) ?_
    refine zunrf g2.1 ?_
    refine zget (ci := 10) (C := RX10) (T := TX10) (v := .int (iI (F 10 (F 3 l0 11) 3))) (k := 3) hx hb hts inW_10 hown hK hZ g2.1 g2.2 rfl (by decide) k_1_79 rfl (D_180 W_prog_5_method_34_code_0 21 rfl rfl rfl) ?_
    refine lv_istore_n (lv' := [(2, .int (iI (F 10 (F 3 l0 11) 3))), (0, .ref (ad 3 l0 0)), (1, .int (iI l1))]) hx hb (D_61 W_prog_5_method_34_code_0 24 rfl rfl) rfl hl (by decide) rfl (fun ls hl => ?_)
    refine lv_iload_n hx hb (D_28 W_prog_5_method_34_code_0 25 rfl rfl) rfl (lv_at hl 0 rfl) ?_
    obtain ⟨r5, F5, B5, hc5, hf⟩ := gbind hf
    refine va_calli (va_runSN (As := [.int (iI (F 10 (F 3 l0 11) 3))]) (rest := []) ⟨hx, hb, hml, hown, hts⟩ (c_S_naturalTone (l := l) hc5) ⟨va_cnB 1 hts (gdC k_4_64) rfl rfl rfl (hX.1 _ (List.mem_of_getElem? (i := 12) rfl) :) (hts _ k_1_1) (by decide +kernel) ⟨by dsimp only; omega, by dsimp only; omega⟩, hts _ k_4_63, trivial⟩ (zPS X hZ hS [.int (iI (F 10 (F 3 l0 11) 3))]) rfl rfl hl.1 rfl (lv_room (Nat.le_of_ble_eq_true rfl)) (D_184 W_prog_5_method_34_code_0 26 rfl rfl rfl) ⟨Nat.le_of_ble_eq_true rfl, Nat.le_of_ble_eq_true rfl⟩) hS (fun q _ h => zAin X hS q h) (zAin X hS) (fun p5 u5 t5 H5 locs5 ht5 hv5 hw5 hB5 hz5 hk5 hS5 => ?_)
    have hZ5 := zBack X ht5 hB5
    subst hw5
    refine lv_aload_n hx hb (D_42 W_prog_5_method_34_code_0 29 rfl rfl) rfl (lv_at hl 1 rfl) ?_
    refine zget (ci := 3) (C := RX3) (T := TX3) (v := va_rf (zrf ad 10 (F5 3 l0 11))) (k := 11) hx hb hts inW_3 hown hK hZ5 g1.1 g1.2 rfl (by decide) k_1_128 rfl (D_180 W_prog_5_method_34_code_0 30 rfl rfl rfl) ?_
    obtain ⟨g6, hf⟩ := gif hf
    refine zunrf g6.1 ?_
    refine zget (ci := 10) (C := RX10) (T := TX10) (v := .int (iI (F5 10 (F5 3 l0 11) 4))) (k := 4) hx hb hts inW_10 hown hK hZ5 g6.1 g6.2 rfl (by decide) k_1_81 rfl (D_180 W_prog_5_method_34_code_32 1 rfl rfl rfl) ?_
    refine zadd hx hb (D_96 W_prog_5_method_34_code_32 4 rfl rfl) ?_
    refine lv_istore_n (lv' := [(3, .int (iI (r5 + (F5 10 (F5 3 l0 11) 4)))), (2, .int (iI (F 10 (F 3 l0 11) 3))), (0, .ref (ad 3 l0 0)), (1, .int (iI l1))]) hx hb (D_62 W_prog_5_method_34_code_32 5 rfl rfl) rfl hl (by decide) rfl (fun ls hl => ?_)
    refine lv_aload_n hx hb (D_42 W_prog_5_method_34_code_32 6 rfl rfl) rfl (lv_at hl 2 rfl) ?_
    refine zget (ci := 3) (C := RX3) (T := TX3) (v := va_rf (zrf ad 10 (F5 3 l0 11))) (k := 11) hx hb hts inW_3 hown hK hZ5 g1.1 g1.2 rfl (by decide) k_1_128 rfl (D_180 W_prog_5_method_34_code_32 7 rfl rfl rfl) ?_
    refine W.eq (g2 := F0 m 42 ls [.ref (ad 10 (F5 3 l0 11) 0)]) (by rw [zrf_pos (ad := ad) (t := 10) g6.1]; try rfl) ?_
    obtain ⟨r7, F7, B7, hc7, hf⟩ := gbind hf
    refine va_callv (va_runV (As := []) (rest := []) ⟨hx, hb, hml, hown, hts⟩ (c_Tokens_advance (l := l) hc7) (cwV 0 hts (gdV k_3_180 k_3_152 k_3_153 k_1_5 k_3_154) rfl rfl rfl (by decide +kernel) ⟨by dsimp only; omega, by dsimp only; omega⟩) (zPV X hZ5 hS5 (ci := 10) g6.1 g6.2 (r := (RX10, TX10, 9)) rfl []) rfl rfl hl.1 rfl (lv_room (Nat.le_of_ble_eq_true rfl)) (D_182 W_prog_5_method_34_code_32 10 rfl rfl rfl) ⟨Nat.le_of_ble_eq_true rfl, Nat.le_of_ble_eq_true rfl⟩) hS5 (fun q _ h => zAin X hS5 q h) (zAin X hS5) (fun u7 t7 H7 locs7 ht7 hv7 hw7 hB7 hz7 hk7 hS7 => ?_)
    have hZ7 := zBack X ht7 hB7
    refine lv_aload_n hx hb (D_42 W_prog_5_method_34_code_32 13 rfl rfl) rfl (lv_at hl 2 rfl) ?_
    refine zget (ci := 3) (C := RX3) (T := TX3) (v := va_rf (zrf ad 10 (F7 3 l0 11))) (k := 11) hx hb hts inW_3 hown hK hZ7 g1.1 g1.2 rfl (by decide) k_1_128 rfl (D_180 W_prog_5_method_34_code_32 14 rfl rfl rfl) ?_
    obtain ⟨g8, hf⟩ := gif hf
    refine zunrf g8.1 ?_
    refine zget (ci := 10) (C := RX10) (T := TX10) (v := .int (iI (F7 10 (F7 3 l0 11) 0))) (k := 0) hx hb hts inW_10 hown hK hZ7 g8.1 g8.2 rfl (by decide) k_1_72 rfl (D_180 W_prog_5_method_34_code_32 17 rfl rfl rfl) ?_
    refine lv_iconst (v := iI 2) hx hb (D_5 W_prog_5_method_34_code_32 20 rfl rfl) rfl ?_
    obtain ⟨g9, hf⟩ := gif hf
    refine zeq (tgt := 62) hx hb g9 (by decide) (D_159 W_prog_5_method_34_code_32 21 rfl rfl rfl) (by decide) (fun h10 => ?_) (fun h10 => ?_)
    · replace hf := gpos hf h10
      refine lv_aload_n hx hb (D_42 W_prog_5_method_34_code_32 30 rfl rfl) rfl (lv_at hl 2 rfl) ?_
      refine zget (ci := 3) (C := RX3) (T := TX3) (v := .ref (ad 3 l0 (2 + 1))) (k := 2) hx hb hts inW_3 hown hK hZ7 g1.1 g1.2 rfl (by decide) k_1_110 rfl (D_180 W_prog_5_method_34_code_32 31 rfl rfl rfl) ?_
      refine lv_iload_n hx hb (D_27 W_prog_5_method_34_code_64 2 rfl rfl) rfl (lv_at hl 3 rfl) ?_
      refine lv_aload_n hx hb (D_42 W_prog_5_method_34_code_64 3 rfl rfl) rfl (lv_at hl 2 rfl) ?_
      refine zget (ci := 3) (C := RX3) (T := TX3) (v := va_rf (zrf ad 10 (F7 3 l0 11))) (k := 11) hx hb hts inW_3 hown hK hZ7 g1.1 g1.2 rfl (by decide) k_1_128 rfl (D_180 W_prog_5_method_34_code_64 4 rfl rfl rfl) ?_
      refine zunrf g8.1 ?_
      refine zget (ci := 10) (C := RX10) (T := TX10) (v := .int (iI (F7 10 (F7 3 l0 11) 3))) (k := 3) hx hb hts inW_10 hown hK hZ7 g8.1 g8.2 rfl (by decide) k_1_79 rfl (D_180 W_prog_5_method_34_code_64 7 rfl rfl rfl) ?_
      refine lv_iload_n hx hb (D_28 W_prog_5_method_34_code_64 10 rfl rfl) rfl (lv_at hl 1 rfl) ?_
      refine zsub hx hb (D_100 W_prog_5_method_34_code_64 11 rfl rfl) ?_
      obtain ⟨g11, hf⟩ := gif hf
      refine zast (ci := 3) (k := 2) hx hb hK rfl hZ7 hS7 g1.1 g1.2 rfl (Nat.le_of_ble_eq_true rfl) g11.1 g11.2 (D_79 W_prog_5_method_34_code_64 12 rfl rfl) (fun H12 locs12 hZ12 hS12 => ?_)
      refine lv_aload_n hx hb (D_42 W_prog_5_method_34_code_64 13 rfl rfl) rfl (lv_at hl 2 rfl) ?_
      refine zget (ci := 3) (C := RX3) (T := TX3) (v := .ref (ad 3 l0 (3 + 1))) (k := 3) hx hb hts inW_3 hown hK hZ12 g1.1 g1.2 rfl (by decide) k_1_112 rfl (D_180 W_prog_5_method_34_code_64 14 rfl rfl rfl) ?_
      refine lv_iload_n hx hb (D_27 W_prog_5_method_34_code_64 17 rfl rfl) rfl (lv_at hl 3 rfl) ?_
      refine lv_aload_n hx hb (D_42 W_prog_5_method_34_code_64 18 rfl rfl) rfl (lv_at hl 2 rfl) ?_
      refine zget (ci := 3) (C := RX3) (T := TX3) (v := va_rf (zrf ad 10 (F7 3 l0 11))) (k := 11) hx hb hts inW_3 hown hK hZ12 g1.1 g1.2 rfl (by decide) k_1_128 rfl (D_180 W_prog_5_method_34_code_64 19 rfl rfl rfl) ?_
      refine zunrf g8.1 ?_
      refine zget (ci := 10) (C := RX10) (T := TX10) (v := .int (iI (F7 10 (F7 3 l0 11) 3))) (k := 3) hx hb hts inW_10 hown hK hZ12 g8.1 g8.2 rfl (by decide) k_1_79 rfl (D_180 W_prog_5_method_34_code_64 22 rfl rfl rfl) ?_
      obtain ⟨r13, F13, B13, hc13, hf⟩ := gbind hf
      refine va_calli (va_runSN (As := [.int (iI (F7 10 (F7 3 l0 11) 3))]) (rest := [.int (iI l1), .ref (ad 3 l0 (3 + 1))]) ⟨hx, hb, hml, hown, hts⟩ (c_S_naturalTone (l := l) hc13) ⟨va_cnB 1 hts (gdC k_4_64) rfl rfl rfl (hX.1 _ (List.mem_of_getElem? (i := 12) rfl) :) (hts _ k_1_1) (by decide +kernel) ⟨by dsimp only; omega, by dsimp only; omega⟩, hts _ k_4_63, trivial⟩ (zPS X hZ12 hS12 [.int (iI (F7 10 (F7 3 l0 11) 3))]) rfl rfl hl.1 rfl (lv_room (Nat.le_of_ble_eq_true rfl)) (D_184 W_prog_5_method_34_code_64 25 rfl rfl rfl) ⟨Nat.le_of_ble_eq_true rfl, Nat.le_of_ble_eq_true rfl⟩) hS12 (fun q _ h => zAin X hS12 q h) (zAin X hS12) (fun p13 u13 t13 H13 locs13 ht13 hv13 hw13 hB13 hz13 hk13 hS13 => ?_)
      have hZ13 := zBack X ht13 hB13
      subst hw13
      refine lv_aload_n hx hb (D_42 W_prog_5_method_34_code_64 28 rfl rfl) rfl (lv_at hl 2 rfl) ?_
      refine zget (ci := 3) (C := RX3) (T := TX3) (v := va_rf (zrf ad 10 (F13 3 l0 11))) (k := 11) hx hb hts inW_3 hown hK hZ13 g1.1 g1.2 rfl (by decide) k_1_128 rfl (D_180 W_prog_5_method_34_code_64 29 rfl rfl rfl) ?_
      obtain ⟨g14, hf⟩ := gif hf
      refine zunrf g14.1 ?_
      refine zget (ci := 10) (C := RX10) (T := TX10) (v := .int (iI (F13 10 (F13 3 l0 11) 4))) (k := 4) hx hb hts inW_10 hown hK hZ13 g14.1 g14.2 rfl (by decide) k_1_81 rfl (D_180 W_prog_5_method_34_code_96 0 rfl rfl rfl) ?_
      refine zadd hx hb (D_96 W_prog_5_method_34_code_96 3 rfl rfl) ?_
      refine lv_iload_n hx hb (D_29 W_prog_5_method_34_code_96 4 rfl rfl) rfl (lv_at hl 0 rfl) ?_
      refine zsub hx hb (D_100 W_prog_5_method_34_code_96 5 rfl rfl) ?_
      refine zast (ci := 3) (k := 3) hx hb hK rfl hZ13 hS13 g1.1 g1.2 rfl (Nat.le_of_ble_eq_true rfl) g11.1 g11.2 (D_79 W_prog_5_method_34_code_96 6 rfl rfl) (fun H15 locs15 hZ15 hS15 => ?_)
      refine lv_aload_n hx hb (D_42 W_prog_5_method_34_code_96 7 rfl rfl) rfl (lv_at hl 2 rfl) ?_
      refine zget (ci := 3) (C := RX3) (T := TX3) (v := va_rf (zrf ad 10 (F13 3 l0 11))) (k := 11) hx hb hts inW_3 hown hK hZ15 g1.1 g1.2 rfl (by decide) k_1_128 rfl (D_180 W_prog_5_method_34_code_96 8 rfl rfl rfl) ?_
      refine W.eq (g2 := F0 m 107 ls [.ref (ad 10 (F13 3 l0 11) 0)]) (by rw [zrf_pos (ad := ad) (t := 10) g14.1]; try rfl) ?_
      obtain ⟨r16, F16, B16, hc16, hf⟩ := gbind hf
      refine va_callv (va_runV (As := []) (rest := []) ⟨hx, hb, hml, hown, hts⟩ (c_Tokens_advance (l := l) hc16) (cwV 0 hts (gdV k_3_180 k_3_152 k_3_153 k_1_5 k_3_154) rfl rfl rfl (by decide +kernel) ⟨by dsimp only; omega, by dsimp only; omega⟩) (zPV X hZ15 hS15 (ci := 10) g14.1 g14.2 (r := (RX10, TX10, 9)) rfl []) rfl rfl hl.1 rfl (lv_room (Nat.le_of_ble_eq_true rfl)) (D_182 W_prog_5_method_34_code_96 11 rfl rfl rfl) ⟨Nat.le_of_ble_eq_true rfl, Nat.le_of_ble_eq_true rfl⟩) hS15 (fun q _ h => zAin X hS15 q h) (zAin X hS15) (fun u16 t16 H16 locs16 ht16 hv16 hw16 hB16 hz16 hk16 hS16 => ?_)
      have hZ16 := zBack X ht16 hB16
      refine lv_aload_n hx hb (D_42 W_prog_5_method_34_code_96 14 rfl rfl) rfl (lv_at hl 2 rfl) ?_
      refine lv_iload_n hx hb (D_27 W_prog_5_method_34_code_96 15 rfl rfl) rfl (lv_at hl 3 rfl) ?_
      obtain ⟨r17, F17, B17, hc17, hf⟩ := gbind hf
      refine va_calli (va_runV (As := [.int (iI l1)]) (rest := []) ⟨hx, hb, hml, hown, hts⟩ (ho.1 hc17) (cwV 1 hts (gdV k_3_212 k_3_214 ks_10 k_1_4 k_3_215) rfl rfl rfl (by decide +kernel) ⟨by dsimp only; omega, by dsimp only; omega⟩) (zPV X hZ16 hS16 (ci := 3) g1.1 g1.2 (r := (RX3, TX3, 22)) rfl [.int (iI l1)]) rfl rfl hl.1 rfl (lv_room (Nat.le_of_ble_eq_true rfl)) (D_182 W_prog_5_method_34_code_96 16 rfl rfl rfl) ⟨Nat.le_of_ble_eq_true rfl, Nat.le_of_ble_eq_true rfl⟩) hS16 (fun q _ h => zAin X hS16 q h) (zAin X hS16) (fun p17 u17 t17 H17 locs17 ht17 hv17 hw17 hB17 hz17 hk17 hS17 => ?_)
      have hZ17 := zBack X ht17 hB17
      subst hw17
      obtain ⟨g18, hf⟩ := gif hf
      cases hf
      exact W.zret hx hb hr (zbool g18) (fun t ht hW => ⟨⟨_, (), rfl, rfl, by rw [ht]; exact hZ17, va_K.moved hW.alike hK⟩, hS17.F ht⟩) hS17.2.2 (D_172 W_prog_5_method_34_code_96 19 rfl rfl) hlk
    · replace hf := gneg hf h10
      refine lv_aload_n hx hb (D_42 W_prog_5_method_34_code_32 24 rfl rfl) rfl (lv_at hl 2 rfl) ?_
      refine lv_iconst (v := iI 2) hx hb (D_5 W_prog_5_method_34_code_32 25 rfl rfl) rfl ?_
      obtain ⟨r19, F19, B19, hc19, hf⟩ := gbind hf
      refine va_calli (va_runV (As := [.int (iI 2)]) (rest := []) ⟨hx, hb, hml, hown, hts⟩ (c_Parser_refuse (l := l) hc19) (cwV 1 hts (gdV k_3_196 k_3_198 ks_7 k_1_4 k_3_199) rfl rfl rfl (by decide +kernel) ⟨by dsimp only; omega, by dsimp only; omega⟩) (zPV X hZ7 hS7 (ci := 3) g1.1 g1.2 (r := (RX3, TX3, 22)) rfl [.int (iI 2)]) rfl rfl hl.1 rfl (lv_room (Nat.le_of_ble_eq_true rfl)) (D_182 W_prog_5_method_34_code_32 26 rfl rfl rfl) ⟨Nat.le_of_ble_eq_true rfl, Nat.le_of_ble_eq_true rfl⟩) hS7 (fun q _ h => zAin X hS7 q h) (zAin X hS7) (fun p19 u19 t19 H19 locs19 ht19 hv19 hw19 hB19 hz19 hk19 hS19 => ?_)
      have hZ19 := zBack X ht19 hB19
      subst hw19
      obtain ⟨g20, hf⟩ := gif hf
      cases hf
      exact W.zret hx hb hr (zbool g20) (fun t ht hW => ⟨⟨_, (), rfl, rfl, by rw [ht]; exact hZ19, va_K.moved hW.alike hK⟩, hS19.F ht⟩) hS19.2.2 (D_172 W_prog_5_method_34_code_32 29 rfl rfl) hlk
  · replace hf := gneg hf h4
    refine lv_aload_n hx hb (D_42 W_prog_5_method_34_code_0 11 rfl rfl) rfl (lv_at hl 0 rfl) ?_
    refine lv_iconst (v := iI 2) hx hb (D_5 W_prog_5_method_34_code_0 12 rfl rfl) rfl ?_
    obtain ⟨r21, F21, B21, hc21, hf⟩ := gbind hf
    refine va_calli (va_runV (As := [.int (iI 2)]) (rest := []) ⟨hx, hb, hml, hown, hts⟩ (c_Parser_refuse (l := l) hc21) (cwV 1 hts (gdV k_3_196 k_3_198 ks_7 k_1_4 k_3_199) rfl rfl rfl (by decide +kernel) ⟨by dsimp only; omega, by dsimp only; omega⟩) (zPV X hZ hS (ci := 3) g1.1 g1.2 (r := (RX3, TX3, 22)) rfl [.int (iI 2)]) rfl rfl hl.1 rfl (lv_room (Nat.le_of_ble_eq_true rfl)) (D_182 W_prog_5_method_34_code_0 13 rfl rfl rfl) ⟨Nat.le_of_ble_eq_true rfl, Nat.le_of_ble_eq_true rfl⟩) hS (fun q _ h => zAin X hS q h) (zAin X hS) (fun p21 u21 t21 H21 locs21 ht21 hv21 hw21 hB21 hz21 hk21 hS21 => ?_)
    have hZ21 := zBack X ht21 hB21
    subst hw21
    obtain ⟨g22, hf⟩ := gif hf
    cases hf
    exact W.zret hx hb hr (zbool g22) (fun t ht hW => ⟨⟨_, (), rfl, rfl, by rw [ht]; exact hZ21, va_K.moved hW.alike hK⟩, hS21.F ht⟩) hS21.2.2 (D_172 W_prog_5_method_34_code_0 16 rfl rfl) hlk

def fb_Parser_takeMirror (o : oT_CP) (K : zK) (l0 : Int) (l1 : Int) (F : zF) (B : zB) : zO := if 0 ≤ l0 ∧ l0 < K.2 3 then if 0 ≤ (F 3 l0 11) ∧ (F 3 l0 11) < K.2 10 then if r32 (F 10 (F 3 l0 11) 0) then (if (F 10 (F 3 l0 11) 0) = 2 then if 0 ≤ l1 ∧ l1 < 3000 then zbind (f_S_naturalTone K (F 10 (F 3 l0 11) 3) F (zup4 B 3 l0 2 l1 (2 * (F 10 (F 3 l0 11) 3)))) (fun r7 F7 B7 => if 0 ≤ (F7 3 l0 11) ∧ (F7 3 l0 11) < K.2 10 then zbind (f_Tokens_advance K (F7 3 l0 11) F7 (zup4 B7 3 l0 3 l1 (2 * (r7 + (F7 10 (F7 3 l0 11) 4))))) (fun r10 F10 B10 => zbind (o.1 l0 l1 F10 B10) (fun r11 F11 B11 => if (r11 = 0 ∨ r11 = 1) then some (r11, F11, B11) else none)) else none) else none else zbind (f_Parser_refuse K l0 2 F B) (fun r13 F13 B13 => if (r13 = 0 ∨ r13 = 1) then some (r13, F13, B13) else none)) else none else none else none
set_option maxHeartbeats 4000000 in
set_option maxRecDepth 100000 in
theorem cb_Parser_takeMirror {l : Launch} {D : va_G} {ca : Nat → ClassId} {ad : Nat → Int → Nat → Nat} {L : List Nat} {aS vS : Nat → Nat} {sz : Nat} {K : zK} {d : Nat} {o : oT_CP} (ho : oH_CP K l D ca ad L aS vS d o)  {l0 : Int} {l1 : Int} {F F9 : zF} {B B9 : zB} {r : Int} (hf : fb_Parser_takeMirror o K l0 l1 F B = some (r, F9, B9)) : Met l ({ cls := "StaveHouse$Parser", name := "takeMirror", desc := "(I)Z" } : Jvm.MethodName) (Cond.code ({ cls := "StaveHouse$Parser", name := "takeMirror", desc := "(I)Z" } : Jvm.MethodName) prog_5_method_35_code 2 (Option.some Jvm.ClassFile.FieldType.boolean) :: wAll) ({ frames := d + 1 + 7, cells := 0, slots := 0, locals := 25 * (d + 1) + 136 } : Room) (va_Pc [.ref (ad 3 l0 0), .int (iI l1)] (zPre D ca ad lnC K.2 L aS vS F B sz)) (Q_Parser_takeMirror K D ca ad L r F9 B9 (zA L sz)) 0 0 (zA L sz) := by
  refine zMet (Qc := Q_Parser_takeMirror K D ca ad L r F9 B9) (lv := [(0, .ref (ad 3 l0 0)), (1, .int (iI l1))]) (by decide) (Nat.le_of_ble_eq_true rfl) rfl (fun A p e s m below meth c ls X hZ hS hl => ?_)
  obtain ⟨hx, hb, hr, hml, hown, hts, hlk, hK, hA, hL, hX⟩ := id X
  replace hf : (if 0 ≤ l0 ∧ l0 < K.2 3 then if 0 ≤ (F 3 l0 11) ∧ (F 3 l0 11) < K.2 10 then if r32 (F 10 (F 3 l0 11) 0) then (if (F 10 (F 3 l0 11) 0) = 2 then if 0 ≤ l1 ∧ l1 < 3000 then zbind (f_S_naturalTone K (F 10 (F 3 l0 11) 3) F (zup4 B 3 l0 2 l1 (2 * (F 10 (F 3 l0 11) 3)))) (fun r7 F7 B7 => if 0 ≤ (F7 3 l0 11) ∧ (F7 3 l0 11) < K.2 10 then zbind (f_Tokens_advance K (F7 3 l0 11) F7 (zup4 B7 3 l0 3 l1 (2 * (r7 + (F7 10 (F7 3 l0 11) 4))))) (fun r10 F10 B10 => zbind (o.1 l0 l1 F10 B10) (fun r11 F11 B11 => if (r11 = 0 ∨ r11 = 1) then some (r11, F11, B11) else none)) else none) else none else zbind (f_Parser_refuse K l0 2 F B) (fun r13 F13 B13 => if (r13 = 0 ∨ r13 = 1) then some (r13, F13, B13) else none)) else none else none else none) = some (r, F9, B9) := hf
  refine lv_aload_n hx hb (D_42 W_prog_5_method_35_code_0 0 rfl rfl) rfl (lv_at hl 0 rfl) ?_
  obtain ⟨g1, hf⟩ := gif hf
  refine zget (ci := 3) (C := RX3) (T := TX3) (v := va_rf (zrf ad 10 (F 3 l0 11))) (k := 11) hx hb hts inW_3 hown hK hZ g1.1 g1.2 rfl (by decide) k_1_128 rfl (D_180 W_prog_5_method_35_code_0 1 rfl rfl rfl) ?_
  obtain ⟨g2, hf⟩ := gif hf
  refine zunrf g2.1 ?_
  refine zget (ci := 10) (C := RX10) (T := TX10) (v := .int (iI (F 10 (F 3 l0 11) 0))) (k := 0) hx hb hts inW_10 hown hK hZ g2.1 g2.2 rfl (by decide) k_1_72 rfl (D_180 W_prog_5_method_35_code_0 4 rfl rfl rfl) ?_
  refine lv_iconst (v := iI 2) hx hb (D_5 W_prog_5_method_35_code_0 7 rfl rfl) rfl ?_
  obtain ⟨g3, hf⟩ := gif hf
  refine zeq (tgt := 17) hx hb g3 (by decide) (D_159 W_prog_5_method_35_code_0 8 rfl rfl rfl) (by decide) (fun h4 => ?_) (fun h4 => ?_)
  · replace hf := gpos hf h4
    refine lv_aload_n hx hb (D_42 W_prog_5_method_35_code_0 17 rfl rfl) rfl (lv_at hl 0 rfl) ?_
    refine zget (ci := 3) (C := RX3) (T := TX3) (v := .ref (ad 3 l0 (2 + 1))) (k := 2) hx hb hts inW_3 hown hK hZ g1.1 g1.2 rfl (by decide) k_1_110 rfl (D_180 W_prog_5_method_35_code_0 18 rfl rfl rfl) ?_
    refine lv_iload_n hx hb (D_27 W_prog_5_method_35_code_0 21 rfl rfl) rfl (lv_at hl 1 rfl) ?_
    refine lv_iconst (v := iI 2) hx hb (D_5 W_prog_5_method_35_code_0 22 rfl rfl) rfl ?_
    refine lv_aload_n hx hb (D_42 W_prog_5_method_35_code_0 23 rfl rfl) rfl (lv_at hl 0 rfl) ?_
    refine zget (ci := 3) (C := RX3) (T := TX3) (v := va_rf (zrf ad 10 (F 3 l0 11))) (k := 11) hx hb hts inW_3 hown hK hZ g1.1 g1.2 rfl (by decide) k_1_128 rfl (D_180 W_prog_5_method_35_code_0 24 rfl rfl rfl) ?_
    refine zunrf g2.1 ?_
    refine zget (ci := 10) (C := RX10) (T := TX10) (v := .int (iI (F 10 (F 3 l0 11) 3))) (k := 3) hx hb hts inW_10 hown hK hZ g2.1 g2.2 rfl (by decide) k_1_79 rfl (D_180 W_prog_5_method_35_code_0 27 rfl rfl rfl) ?_
    refine zmul hx hb (D_104 W_prog_5_method_35_code_0 30 rfl rfl) ?_
    obtain ⟨g5, hf⟩ := gif hf
    refine zast (ci := 3) (k := 2) hx hb hK rfl hZ hS g1.1 g1.2 rfl (Nat.le_of_ble_eq_true rfl) g5.1 g5.2 (D_79 W_prog_5_method_35_code_0 31 rfl rfl) (fun H6 locs6 hZ6 hS6 => ?_)
    refine lv_aload_n hx hb (D_42 W_prog_5_method_35_code_32 0 rfl rfl) rfl (lv_at hl 0 rfl) ?_
    refine zget (ci := 3) (C := RX3) (T := TX3) (v := .ref (ad 3 l0 (3 + 1))) (k := 3) hx hb hts inW_3 hown hK hZ6 g1.1 g1.2 rfl (by decide) k_1_112 rfl (D_180 W_prog_5_method_35_code_32 1 rfl rfl rfl) ?_
    refine lv_iload_n hx hb (D_27 W_prog_5_method_35_code_32 4 rfl rfl) rfl (lv_at hl 1 rfl) ?_
    refine lv_iconst (v := iI 2) hx hb (D_5 W_prog_5_method_35_code_32 5 rfl rfl) rfl ?_
    refine lv_aload_n hx hb (D_42 W_prog_5_method_35_code_32 6 rfl rfl) rfl (lv_at hl 0 rfl) ?_
    refine zget (ci := 3) (C := RX3) (T := TX3) (v := va_rf (zrf ad 10 (F 3 l0 11))) (k := 11) hx hb hts inW_3 hown hK hZ6 g1.1 g1.2 rfl (by decide) k_1_128 rfl (D_180 W_prog_5_method_35_code_32 7 rfl rfl rfl) ?_
    refine zunrf g2.1 ?_
    refine zget (ci := 10) (C := RX10) (T := TX10) (v := .int (iI (F 10 (F 3 l0 11) 3))) (k := 3) hx hb hts inW_10 hown hK hZ6 g2.1 g2.2 rfl (by decide) k_1_79 rfl (D_180 W_prog_5_method_35_code_32 10 rfl rfl rfl) ?_
    obtain ⟨r7, F7, B7, hc7, hf⟩ := gbind hf
    refine va_calli (va_runSN (As := [.int (iI (F 10 (F 3 l0 11) 3))]) (rest := [.int (iI 2), .int (iI l1), .ref (ad 3 l0 (3 + 1))]) ⟨hx, hb, hml, hown, hts⟩ (c_S_naturalTone (l := l) hc7) ⟨va_cnB 1 hts (gdC k_4_64) rfl rfl rfl (hX.1 _ (List.mem_of_getElem? (i := 12) rfl) :) (hts _ k_1_1) (by decide +kernel) ⟨by dsimp only; omega, by dsimp only; omega⟩, hts _ k_4_63, trivial⟩ (zPS X hZ6 hS6 [.int (iI (F 10 (F 3 l0 11) 3))]) rfl rfl hl.1 rfl (lv_room (Nat.le_of_ble_eq_true rfl)) (D_184 W_prog_5_method_35_code_32 13 rfl rfl rfl) ⟨Nat.le_of_ble_eq_true rfl, Nat.le_of_ble_eq_true rfl⟩) hS6 (fun q _ h => zAin X hS6 q h) (zAin X hS6) (fun p7 u7 t7 H7 locs7 ht7 hv7 hw7 hB7 hz7 hk7 hS7 => ?_)
    have hZ7 := zBack X ht7 hB7
    subst hw7
    refine lv_aload_n hx hb (D_42 W_prog_5_method_35_code_32 16 rfl rfl) rfl (lv_at hl 0 rfl) ?_
    refine zget (ci := 3) (C := RX3) (T := TX3) (v := va_rf (zrf ad 10 (F7 3 l0 11))) (k := 11) hx hb hts inW_3 hown hK hZ7 g1.1 g1.2 rfl (by decide) k_1_128 rfl (D_180 W_prog_5_method_35_code_32 17 rfl rfl rfl) ?_
    obtain ⟨g8, hf⟩ := gif hf
    refine zunrf g8.1 ?_
    refine zget (ci := 10) (C := RX10) (T := TX10) (v := .int (iI (F7 10 (F7 3 l0 11) 4))) (k := 4) hx hb hts inW_10 hown hK hZ7 g8.1 g8.2 rfl (by decide) k_1_81 rfl (D_180 W_prog_5_method_35_code_32 20 rfl rfl rfl) ?_
    refine zadd hx hb (D_96 W_prog_5_method_35_code_32 23 rfl rfl) ?_
    refine zmul hx hb (D_104 W_prog_5_method_35_code_32 24 rfl rfl) ?_
    refine zast (ci := 3) (k := 3) hx hb hK rfl hZ7 hS7 g1.1 g1.2 rfl (Nat.le_of_ble_eq_true rfl) g5.1 g5.2 (D_79 W_prog_5_method_35_code_32 25 rfl rfl) (fun H9 locs9 hZ9 hS9 => ?_)
    refine lv_aload_n hx hb (D_42 W_prog_5_method_35_code_32 26 rfl rfl) rfl (lv_at hl 0 rfl) ?_
    refine zget (ci := 3) (C := RX3) (T := TX3) (v := va_rf (zrf ad 10 (F7 3 l0 11))) (k := 11) hx hb hts inW_3 hown hK hZ9 g1.1 g1.2 rfl (by decide) k_1_128 rfl (D_180 W_prog_5_method_35_code_32 27 rfl rfl rfl) ?_
    refine W.eq (g2 := F0 m 62 ls [.ref (ad 10 (F7 3 l0 11) 0)]) (by rw [zrf_pos (ad := ad) (t := 10) g8.1]; try rfl) ?_
    obtain ⟨r10, F10, B10, hc10, hf⟩ := gbind hf
    refine va_callv (va_runV (As := []) (rest := []) ⟨hx, hb, hml, hown, hts⟩ (c_Tokens_advance (l := l) hc10) (cwV 0 hts (gdV k_3_180 k_3_152 k_3_153 k_1_5 k_3_154) rfl rfl rfl (by decide +kernel) ⟨by dsimp only; omega, by dsimp only; omega⟩) (zPV X hZ9 hS9 (ci := 10) g8.1 g8.2 (r := (RX10, TX10, 9)) rfl []) rfl rfl hl.1 rfl (lv_room (Nat.le_of_ble_eq_true rfl)) (D_182 W_prog_5_method_35_code_32 30 rfl rfl rfl) ⟨Nat.le_of_ble_eq_true rfl, Nat.le_of_ble_eq_true rfl⟩) hS9 (fun q _ h => zAin X hS9 q h) (zAin X hS9) (fun u10 t10 H10 locs10 ht10 hv10 hw10 hB10 hz10 hk10 hS10 => ?_)
    have hZ10 := zBack X ht10 hB10
    refine lv_aload_n hx hb (D_42 W_prog_5_method_35_code_64 1 rfl rfl) rfl (lv_at hl 0 rfl) ?_
    refine lv_iload_n hx hb (D_27 W_prog_5_method_35_code_64 2 rfl rfl) rfl (lv_at hl 1 rfl) ?_
    obtain ⟨r11, F11, B11, hc11, hf⟩ := gbind hf
    refine va_calli (va_runV (As := [.int (iI l1)]) (rest := []) ⟨hx, hb, hml, hown, hts⟩ (ho.1 hc11) (cwV 1 hts (gdV k_3_212 k_3_214 ks_10 k_1_4 k_3_215) rfl rfl rfl (by decide +kernel) ⟨by dsimp only; omega, by dsimp only; omega⟩) (zPV X hZ10 hS10 (ci := 3) g1.1 g1.2 (r := (RX3, TX3, 22)) rfl [.int (iI l1)]) rfl rfl hl.1 rfl (lv_room (Nat.le_of_ble_eq_true rfl)) (D_182 W_prog_5_method_35_code_64 3 rfl rfl rfl) ⟨Nat.le_of_ble_eq_true rfl, Nat.le_of_ble_eq_true rfl⟩) hS10 (fun q _ h => zAin X hS10 q h) (zAin X hS10) (fun p11 u11 t11 H11 locs11 ht11 hv11 hw11 hB11 hz11 hk11 hS11 => ?_)
    have hZ11 := zBack X ht11 hB11
    subst hw11
    obtain ⟨g12, hf⟩ := gif hf
    cases hf
    exact W.zret hx hb hr (zbool g12) (fun t ht hW => ⟨⟨_, (), rfl, rfl, by rw [ht]; exact hZ11, va_K.moved hW.alike hK⟩, hS11.F ht⟩) hS11.2.2 (D_172 W_prog_5_method_35_code_64 6 rfl rfl) hlk
  · replace hf := gneg hf h4
    refine lv_aload_n hx hb (D_42 W_prog_5_method_35_code_0 11 rfl rfl) rfl (lv_at hl 0 rfl) ?_
    refine lv_iconst (v := iI 2) hx hb (D_5 W_prog_5_method_35_code_0 12 rfl rfl) rfl ?_
    obtain ⟨r13, F13, B13, hc13, hf⟩ := gbind hf
    refine va_calli (va_runV (As := [.int (iI 2)]) (rest := []) ⟨hx, hb, hml, hown, hts⟩ (c_Parser_refuse (l := l) hc13) (cwV 1 hts (gdV k_3_196 k_3_198 ks_7 k_1_4 k_3_199) rfl rfl rfl (by decide +kernel) ⟨by dsimp only; omega, by dsimp only; omega⟩) (zPV X hZ hS (ci := 3) g1.1 g1.2 (r := (RX3, TX3, 22)) rfl [.int (iI 2)]) rfl rfl hl.1 rfl (lv_room (Nat.le_of_ble_eq_true rfl)) (D_182 W_prog_5_method_35_code_0 13 rfl rfl rfl) ⟨Nat.le_of_ble_eq_true rfl, Nat.le_of_ble_eq_true rfl⟩) hS (fun q _ h => zAin X hS q h) (zAin X hS) (fun p13 u13 t13 H13 locs13 ht13 hv13 hw13 hB13 hz13 hk13 hS13 => ?_)
    have hZ13 := zBack X ht13 hB13
    subst hw13
    obtain ⟨g14, hf⟩ := gif hf
    cases hf
    exact W.zret hx hb hr (zbool g14) (fun t ht hW => ⟨⟨_, (), rfl, rfl, by rw [ht]; exact hZ13, va_K.moved hW.alike hK⟩, hS13.F ht⟩) hS13.2.2 (D_172 W_prog_5_method_35_code_0 16 rfl rfl) hlk

def gr_CP (K : zK) : Nat → oT_CP
  | 0 => (fun _ _ _ _ => none, fun _ _ _ _ => none, fun _ _ _ _ => none, fun _ _ _ _ => none, fun _ _ _ _ => none, fun _ _ _ _ => none, fun _ _ _ _ => none, fun _ _ _ _ => none)
  | d + 1 => (fun l0 l1 F B => fb_Parser_takeBlock (gr_CP K d) K l0 l1 F B, fun l0 l1 F B => fb_Parser_takeMusic (gr_CP K d) K l0 l1 F B, fun l0 l1 F B => fb_Parser_takeItem (gr_CP K d) K l0 l1 F B, fun l0 l1 F B => fb_Parser_takeBracket (gr_CP K d) K l0 l1 F B, fun l0 l1 F B => fb_Parser_takeRepeat (gr_CP K d) K l0 l1 F B, fun l0 l1 F B => fb_Parser_takeAlternatives (gr_CP K d) K l0 l1 F B, fun l0 l1 F B => fb_Parser_takeMove (gr_CP K d) K l0 l1 F B, fun l0 l1 F B => fb_Parser_takeMirror (gr_CP K d) K l0 l1 F B)
theorem gh_CP {l : Launch} {D : va_G} {ca : Nat → ClassId} {ad : Nat → Int → Nat → Nat} {L : List Nat} {aS vS : Nat → Nat} {K : zK} : ∀ d, oH_CP K l D ca ad L aS vS d (gr_CP K d) := by
  intro d
  induction d with
  | zero => exact ⟨(fun hf => by cases hf), (fun hf => by cases hf), (fun hf => by cases hf), (fun hf => by cases hf), (fun hf => by cases hf), (fun hf => by cases hf), (fun hf => by cases hf), (fun hf => by cases hf)⟩
  | succ d ih => exact ⟨(fun hf => cb_Parser_takeBlock ih hf), (fun hf => cb_Parser_takeMusic ih hf), (fun hf => cb_Parser_takeItem ih hf), (fun hf => cb_Parser_takeBracket ih hf), (fun hf => cb_Parser_takeRepeat ih hf), (fun hf => cb_Parser_takeAlternatives ih hf), (fun hf => cb_Parser_takeMove ih hf), (fun hf => cb_Parser_takeMirror ih hf)⟩
def f_Parser_takeBlock (K : zK) (l0 : Int) (l1 : Int) (F : zF) (B : zB) : zO := (gr_CP K 60).1 l0 l1 F B
theorem c_Parser_takeBlock {l : Launch} {D : va_G} {ca : Nat → ClassId} {ad : Nat → Int → Nat → Nat} {L : List Nat} {aS vS : Nat → Nat} {sz : Nat} {K : zK} {l0 : Int} {l1 : Int} {F F9 : zF} {B B9 : zB} {r : Int} (hf : f_Parser_takeBlock K l0 l1 F B = some (r, F9, B9)) : Met l ({ cls := "StaveHouse$Parser", name := "takeBlock", desc := "(I)Z" } : Jvm.MethodName) (Cond.code ({ cls := "StaveHouse$Parser", name := "takeBlock", desc := "(I)Z" } : Jvm.MethodName) prog_5_method_19_code 2 (Option.some Jvm.ClassFile.FieldType.boolean) :: wAll) ({ frames := 67, cells := 0, slots := 0, locals := 1636 } : Room) (va_Pc [.ref (ad 3 l0 0), .int (iI l1)] (zPre D ca ad lnC K.2 L aS vS F B sz)) (Q_Parser_takeBlock K D ca ad L r F9 B9 (zA L sz)) 0 0 (zA L sz) := (gh_CP 60).1 hf
def f_Parser_takeMusic (K : zK) (l0 : Int) (l1 : Int) (F : zF) (B : zB) : zO := (gr_CP K 60).2.1 l0 l1 F B
theorem c_Parser_takeMusic {l : Launch} {D : va_G} {ca : Nat → ClassId} {ad : Nat → Int → Nat → Nat} {L : List Nat} {aS vS : Nat → Nat} {sz : Nat} {K : zK} {l0 : Int} {l1 : Int} {F F9 : zF} {B B9 : zB} {r : Int} (hf : f_Parser_takeMusic K l0 l1 F B = some (r, F9, B9)) : Met l ({ cls := "StaveHouse$Parser", name := "takeMusic", desc := "(I)Z" } : Jvm.MethodName) (Cond.code ({ cls := "StaveHouse$Parser", name := "takeMusic", desc := "(I)Z" } : Jvm.MethodName) prog_5_method_20_code 6 (Option.some Jvm.ClassFile.FieldType.boolean) :: wAll) ({ frames := 67, cells := 0, slots := 0, locals := 1636 } : Room) (va_Pc [.ref (ad 3 l0 0), .int (iI l1)] (zPre D ca ad lnC K.2 L aS vS F B sz)) (Q_Parser_takeMusic K D ca ad L r F9 B9 (zA L sz)) 0 0 (zA L sz) := (gh_CP 60).2.1 hf
def f_Parser_takeItem (K : zK) (l0 : Int) (l1 : Int) (F : zF) (B : zB) : zO := (gr_CP K 60).2.2.1 l0 l1 F B
theorem c_Parser_takeItem {l : Launch} {D : va_G} {ca : Nat → ClassId} {ad : Nat → Int → Nat → Nat} {L : List Nat} {aS vS : Nat → Nat} {sz : Nat} {K : zK} {l0 : Int} {l1 : Int} {F F9 : zF} {B B9 : zB} {r : Int} (hf : f_Parser_takeItem K l0 l1 F B = some (r, F9, B9)) : Met l ({ cls := "StaveHouse$Parser", name := "takeItem", desc := "(I)Z" } : Jvm.MethodName) (Cond.code ({ cls := "StaveHouse$Parser", name := "takeItem", desc := "(I)Z" } : Jvm.MethodName) prog_5_method_22_code 2 (Option.some Jvm.ClassFile.FieldType.boolean) :: wAll) ({ frames := 67, cells := 0, slots := 0, locals := 1636 } : Room) (va_Pc [.ref (ad 3 l0 0), .int (iI l1)] (zPre D ca ad lnC K.2 L aS vS F B sz)) (Q_Parser_takeItem K D ca ad L r F9 B9 (zA L sz)) 0 0 (zA L sz) := (gh_CP 60).2.2.1 hf
def f_Parser_takeBracket (K : zK) (l0 : Int) (l1 : Int) (F : zF) (B : zB) : zO := (gr_CP K 60).2.2.2.1 l0 l1 F B
theorem c_Parser_takeBracket {l : Launch} {D : va_G} {ca : Nat → ClassId} {ad : Nat → Int → Nat → Nat} {L : List Nat} {aS vS : Nat → Nat} {sz : Nat} {K : zK} {l0 : Int} {l1 : Int} {F F9 : zF} {B B9 : zB} {r : Int} (hf : f_Parser_takeBracket K l0 l1 F B = some (r, F9, B9)) : Met l ({ cls := "StaveHouse$Parser", name := "takeBracket", desc := "(I)Z" } : Jvm.MethodName) (Cond.code ({ cls := "StaveHouse$Parser", name := "takeBracket", desc := "(I)Z" } : Jvm.MethodName) prog_5_method_30_code 2 (Option.some Jvm.ClassFile.FieldType.boolean) :: wAll) ({ frames := 67, cells := 0, slots := 0, locals := 1636 } : Room) (va_Pc [.ref (ad 3 l0 0), .int (iI l1)] (zPre D ca ad lnC K.2 L aS vS F B sz)) (Q_Parser_takeBracket K D ca ad L r F9 B9 (zA L sz)) 0 0 (zA L sz) := (gh_CP 60).2.2.2.1 hf
def f_Parser_takeRepeat (K : zK) (l0 : Int) (l1 : Int) (F : zF) (B : zB) : zO := (gr_CP K 60).2.2.2.2.1 l0 l1 F B
theorem c_Parser_takeRepeat {l : Launch} {D : va_G} {ca : Nat → ClassId} {ad : Nat → Int → Nat → Nat} {L : List Nat} {aS vS : Nat → Nat} {sz : Nat} {K : zK} {l0 : Int} {l1 : Int} {F F9 : zF} {B B9 : zB} {r : Int} (hf : f_Parser_takeRepeat K l0 l1 F B = some (r, F9, B9)) : Met l ({ cls := "StaveHouse$Parser", name := "takeRepeat", desc := "(I)Z" } : Jvm.MethodName) (Cond.code ({ cls := "StaveHouse$Parser", name := "takeRepeat", desc := "(I)Z" } : Jvm.MethodName) prog_5_method_31_code 2 (Option.some Jvm.ClassFile.FieldType.boolean) :: wAll) ({ frames := 67, cells := 0, slots := 0, locals := 1636 } : Room) (va_Pc [.ref (ad 3 l0 0), .int (iI l1)] (zPre D ca ad lnC K.2 L aS vS F B sz)) (Q_Parser_takeRepeat K D ca ad L r F9 B9 (zA L sz)) 0 0 (zA L sz) := (gh_CP 60).2.2.2.2.1 hf
def f_Parser_takeAlternatives (K : zK) (l0 : Int) (l1 : Int) (F : zF) (B : zB) : zO := (gr_CP K 60).2.2.2.2.2.1 l0 l1 F B
theorem c_Parser_takeAlternatives {l : Launch} {D : va_G} {ca : Nat → ClassId} {ad : Nat → Int → Nat → Nat} {L : List Nat} {aS vS : Nat → Nat} {sz : Nat} {K : zK} {l0 : Int} {l1 : Int} {F F9 : zF} {B B9 : zB} {r : Int} (hf : f_Parser_takeAlternatives K l0 l1 F B = some (r, F9, B9)) : Met l ({ cls := "StaveHouse$Parser", name := "takeAlternatives", desc := "(I)Z" } : Jvm.MethodName) (Cond.code ({ cls := "StaveHouse$Parser", name := "takeAlternatives", desc := "(I)Z" } : Jvm.MethodName) prog_5_method_32_code 5 (Option.some Jvm.ClassFile.FieldType.boolean) :: wAll) ({ frames := 67, cells := 0, slots := 0, locals := 1636 } : Room) (va_Pc [.ref (ad 3 l0 0), .int (iI l1)] (zPre D ca ad lnC K.2 L aS vS F B sz)) (Q_Parser_takeAlternatives K D ca ad L r F9 B9 (zA L sz)) 0 0 (zA L sz) := (gh_CP 60).2.2.2.2.2.1 hf
def f_Parser_takeMove (K : zK) (l0 : Int) (l1 : Int) (F : zF) (B : zB) : zO := (gr_CP K 60).2.2.2.2.2.2.1 l0 l1 F B
theorem c_Parser_takeMove {l : Launch} {D : va_G} {ca : Nat → ClassId} {ad : Nat → Int → Nat → Nat} {L : List Nat} {aS vS : Nat → Nat} {sz : Nat} {K : zK} {l0 : Int} {l1 : Int} {F F9 : zF} {B B9 : zB} {r : Int} (hf : f_Parser_takeMove K l0 l1 F B = some (r, F9, B9)) : Met l ({ cls := "StaveHouse$Parser", name := "takeMove", desc := "(I)Z" } : Jvm.MethodName) (Cond.code ({ cls := "StaveHouse$Parser", name := "takeMove", desc := "(I)Z" } : Jvm.MethodName) prog_5_method_34_code 4 (Option.some Jvm.ClassFile.FieldType.boolean) :: wAll) ({ frames := 67, cells := 0, slots := 0, locals := 1636 } : Room) (va_Pc [.ref (ad 3 l0 0), .int (iI l1)] (zPre D ca ad lnC K.2 L aS vS F B sz)) (Q_Parser_takeMove K D ca ad L r F9 B9 (zA L sz)) 0 0 (zA L sz) := (gh_CP 60).2.2.2.2.2.2.1 hf
def f_Parser_takeMirror (K : zK) (l0 : Int) (l1 : Int) (F : zF) (B : zB) : zO := (gr_CP K 60).2.2.2.2.2.2.2 l0 l1 F B
theorem c_Parser_takeMirror {l : Launch} {D : va_G} {ca : Nat → ClassId} {ad : Nat → Int → Nat → Nat} {L : List Nat} {aS vS : Nat → Nat} {sz : Nat} {K : zK} {l0 : Int} {l1 : Int} {F F9 : zF} {B B9 : zB} {r : Int} (hf : f_Parser_takeMirror K l0 l1 F B = some (r, F9, B9)) : Met l ({ cls := "StaveHouse$Parser", name := "takeMirror", desc := "(I)Z" } : Jvm.MethodName) (Cond.code ({ cls := "StaveHouse$Parser", name := "takeMirror", desc := "(I)Z" } : Jvm.MethodName) prog_5_method_35_code 2 (Option.some Jvm.ClassFile.FieldType.boolean) :: wAll) ({ frames := 67, cells := 0, slots := 0, locals := 1636 } : Room) (va_Pc [.ref (ad 3 l0 0), .int (iI l1)] (zPre D ca ad lnC K.2 L aS vS F B sz)) (Q_Parser_takeMirror K D ca ad L r F9 B9 (zA L sz)) 0 0 (zA L sz) := (gh_CP 60).2.2.2.2.2.2.2 hf
abbrev Q_Parser_takeLet (K : zK) (D : va_G) (ca : Nat → ClassId) (ad : Nat → Int → Nat → Nat) (L : List Nat) (r : Int) (F : zF) (B : zB) (A : Nat → Prop) : Array Value → State → Outcome → State → Prop := va_Qi (S := Unit) (fun p _ => p = iI r) (fun _ => zPo D ca ad lnC K.2 L F B A) A
def f_Parser_takeLet_80 (K : zK)  (F : zF) (B : zB) : zO := some (0, F, B)
set_option maxHeartbeats 4000000 in
set_option maxRecDepth 100000 in
theorem b_Parser_takeLet_80 {D : va_G} {ca : Nat → ClassId} {ad : Nat → Int → Nat → Nat} {L : List Nat} {aS vS : Nat → Nat} {A : Nat → Prop} {p : Program} {l : Launch} {e : Env} {s : State} {m : MethodId} {args : Array Value} {below : List Frame} {meth : Method} {c : Code} {K : zK} {r : Int} {F9 : zF} {B9 : zB} (X : zX D ca L aS vS A p s m args meth c prog_5_method_9_code 4 (Option.some Jvm.ClassFile.FieldType.boolean) "StaveHouse$Parser")  {F : zF} {B : zB} {H : Heap} {locs : List Loc} {ls : Array Slot} (hf : f_Parser_takeLet_80 K  F B = some (r, F9, B9)) (hZ : zH D ca ad lnC K.2 L F B A H) (hS : va_S A s.heap H locs) (hl : lv_has ls 4 []) : W p l e ({ frames := 68, cells := 0, slots := 0, locals := 1657 } : Room) s m args below meth c H locs 0 0 (MQ below (Q_Parser_takeLet K D ca ad L r F9 B9 A) args s 0 0 A) (F0 m 80 ls []) := by
  obtain ⟨hx, hb, hr, hml, hown, hts, hlk, hK, hA, hL, hX⟩ := id X
  replace hf : (some (0, F, B)) = some (r, F9, B9) := hf
  refine lv_iconst (v := iI 0) hx hb (D_3 W_prog_5_method_9_code_64 16 rfl rfl) rfl ?_
  cases hf
  exact W.zret hx hb hr rfl (fun t ht hW => ⟨⟨_, (), rfl, rfl, by rw [ht]; exact hZ, va_K.moved hW.alike hK⟩, hS.F ht⟩) hS.2.2 (D_172 W_prog_5_method_9_code_64 17 rfl rfl) hlk

def f_Parser_takeLet (K : zK) (l0 : Int) (F : zF) (B : zB) : zO := if 0 ≤ l0 ∧ l0 < K.2 3 then zbind (f_Parser_newItem K l0 10 F B) (fun r2 F2 B2 => if 0 ≤ (F2 3 l0 11) ∧ (F2 3 l0 11) < K.2 10 then zbind (f_Tokens_advance K (F2 3 l0 11) F2 B2) (fun r4 F4 B4 => zbind (f_Parser_isName K l0 F4 B4) (fun r5 F5 B5 => if r32 r5 then (if r5 = 0 then zbind (f_Parser_refuse K l0 2 F5 B5) (fun r27 F27 B27 => if (r27 = 0 ∨ r27 = 1) then some (r27, F27, B27) else none) else if 0 ≤ (F5 3 l0 11) ∧ (F5 3 l0 11) < K.2 10 then zbind (f_Parser_letNamed K l0 (F5 10 (F5 3 l0 11) 2) F5 B5) (fun r9 F9 B9 => if r32 r9 then (if r9 = (-1) then if 0 ≤ (F9 3 l0 11) ∧ (F9 3 l0 11) < K.2 10 then zbind (f_Tokens_advance K (F9 3 l0 11) F9 B9) (fun r13 F13 B13 => zbind (f_Parser_takeSign K l0 61 (zup3 F13 3 l0 20 32) B13) (fun r15 F15 B15 => if r32 r15 then (if r15 = 0 then f_Parser_takeLet_80 K F15 B15 else zbind (f_Parser_takeBlock K l0 r2 F15 B15) (fun r18 F18 B18 => if r32 r18 then (if r18 = 0 then f_Parser_takeLet_80 K F18 B18 else if 0 ≤ (F18 3 l0 16) ∧ (F18 3 l0 16) < 6 then some (1, (zup3 F18 3 l0 16 ((F18 3 l0 16) + 1)), (zup4 (zup4 B18 3 l0 12 (F18 3 l0 16) (F5 10 (F5 3 l0 11) 2)) 3 l0 13 (F18 3 l0 16) r2)) else none) else none)) else none)) else none else zbind (f_Parser_refuse K l0 4 F9 B9) (fun r25 F25 B25 => if (r25 = 0 ∨ r25 = 1) then some (r25, F25, B25) else none)) else none) else none) else none)) else none) else none
set_option maxHeartbeats 4000000 in
set_option maxRecDepth 100000 in
theorem c_Parser_takeLet {l : Launch} {D : va_G} {ca : Nat → ClassId} {ad : Nat → Int → Nat → Nat} {L : List Nat} {aS vS : Nat → Nat} {sz : Nat} {K : zK}  {l0 : Int} {F F9 : zF} {B B9 : zB} {r : Int} (hf : f_Parser_takeLet K l0 F B = some (r, F9, B9)) : Met l ({ cls := "StaveHouse$Parser", name := "takeLet", desc := "()Z" } : Jvm.MethodName) (Cond.code ({ cls := "StaveHouse$Parser", name := "takeLet", desc := "()Z" } : Jvm.MethodName) prog_5_method_9_code 4 (Option.some Jvm.ClassFile.FieldType.boolean) :: wAll) ({ frames := 68, cells := 0, slots := 0, locals := 1657 } : Room) (va_Pc [.ref (ad 3 l0 0)] (zPre D ca ad lnC K.2 L aS vS F B sz)) (Q_Parser_takeLet K D ca ad L r F9 B9 (zA L sz)) 0 0 (zA L sz) := by
  refine zMet (Qc := Q_Parser_takeLet K D ca ad L r F9 B9) (lv := [(0, .ref (ad 3 l0 0))]) (by decide) (Nat.le_of_ble_eq_true rfl) rfl (fun A p e s m below meth c ls X hZ hS hl => ?_)
  obtain ⟨hx, hb, hr, hml, hown, hts, hlk, hK, hA, hL, hX⟩ := id X
  replace hf : (if 0 ≤ l0 ∧ l0 < K.2 3 then zbind (f_Parser_newItem K l0 10 F B) (fun r2 F2 B2 => if 0 ≤ (F2 3 l0 11) ∧ (F2 3 l0 11) < K.2 10 then zbind (f_Tokens_advance K (F2 3 l0 11) F2 B2) (fun r4 F4 B4 => zbind (f_Parser_isName K l0 F4 B4) (fun r5 F5 B5 => if r32 r5 then (if r5 = 0 then zbind (f_Parser_refuse K l0 2 F5 B5) (fun r27 F27 B27 => if (r27 = 0 ∨ r27 = 1) then some (r27, F27, B27) else none) else if 0 ≤ (F5 3 l0 11) ∧ (F5 3 l0 11) < K.2 10 then zbind (f_Parser_letNamed K l0 (F5 10 (F5 3 l0 11) 2) F5 B5) (fun r9 F9 B9 => if r32 r9 then (if r9 = (-1) then if 0 ≤ (F9 3 l0 11) ∧ (F9 3 l0 11) < K.2 10 then zbind (f_Tokens_advance K (F9 3 l0 11) F9 B9) (fun r13 F13 B13 => zbind (f_Parser_takeSign K l0 61 (zup3 F13 3 l0 20 32) B13) (fun r15 F15 B15 => if r32 r15 then (if r15 = 0 then f_Parser_takeLet_80 K F15 B15 else zbind (f_Parser_takeBlock K l0 r2 F15 B15) (fun r18 F18 B18 => if r32 r18 then (if r18 = 0 then f_Parser_takeLet_80 K F18 B18 else if 0 ≤ (F18 3 l0 16) ∧ (F18 3 l0 16) < 6 then some (1, (zup3 F18 3 l0 16 ((F18 3 l0 16) + 1)), (zup4 (zup4 B18 3 l0 12 (F18 3 l0 16) (F5 10 (F5 3 l0 11) 2)) 3 l0 13 (F18 3 l0 16) r2)) else none) else none)) else none)) else none else zbind (f_Parser_refuse K l0 4 F9 B9) (fun r25 F25 B25 => if (r25 = 0 ∨ r25 = 1) then some (r25, F25, B25) else none)) else none) else none) else none)) else none) else none) = some (r, F9, B9) := hf
  refine lv_aload_n hx hb (D_42 W_prog_5_method_9_code_0 0 rfl rfl) rfl (lv_at hl 0 rfl) ?_
  refine lv_bipush (v := iI 10) hx hb (D_16 W_prog_5_method_9_code_0 1 rfl rfl rfl) (by decide) ?_
  obtain ⟨g1, hf⟩ := gif hf
  obtain ⟨r2, F2, B2, hc2, hf⟩ := gbind hf
  refine va_calli (va_runV (As := [.int (iI 10)]) (rest := []) ⟨hx, hb, hml, hown, hts⟩ (c_Parser_newItem (l := l) hc2) (cwV 1 hts (gdV k_3_175 k_3_177 ks_5 k_1_4 k_3_178) rfl rfl rfl (by decide +kernel) ⟨Nat.le_of_ble_eq_true rfl, Nat.le_of_ble_eq_true rfl⟩) (zPV X hZ hS (ci := 3) g1.1 g1.2 (r := (RX3, TX3, 22)) rfl [.int (iI 10)]) rfl rfl hl.1 rfl (lv_room (Nat.le_of_ble_eq_true rfl)) (D_182 W_prog_5_method_9_code_0 3 rfl rfl rfl) ⟨Nat.le_of_ble_eq_true rfl, Nat.le_of_ble_eq_true rfl⟩) hS (fun q _ h => zAin X hS q h) (zAin X hS) (fun p2 u2 t2 H2 locs2 ht2 hv2 hw2 hB2 hz2 hk2 hS2 => ?_)
  have hZ2 := zBack X ht2 hB2
  subst hw2
  refine lv_istore_n (lv' := [(1, .int (iI r2)), (0, .ref (ad 3 l0 0))]) hx hb (D_60 W_prog_5_method_9_code_0 6 rfl rfl) rfl hl (by decide) rfl (fun ls hl => ?_)
  refine lv_aload_n hx hb (D_42 W_prog_5_method_9_code_0 7 rfl rfl) rfl (lv_at hl 1 rfl) ?_
  refine zget (ci := 3) (C := RX3) (T := TX3) (v := va_rf (zrf ad 10 (F2 3 l0 11))) (k := 11) hx hb hts inW_3 hown hK hZ2 g1.1 g1.2 rfl (by decide) k_1_128 rfl (D_180 W_prog_5_method_9_code_0 8 rfl rfl rfl) ?_
  obtain ⟨g3, hf⟩ := gif hf
  refine W.eq (g2 := F0 m 11 ls [.ref (ad 10 (F2 3 l0 11) 0)]) (by rw [zrf_pos (ad := ad) (t := 10) g3.1]; try rfl) ?_
  obtain ⟨r4, F4, B4, hc4, hf⟩ := gbind hf
  refine va_callv (va_runV (As := []) (rest := []) ⟨hx, hb, hml, hown, hts⟩ (c_Tokens_advance (l := l) hc4) (cwV 0 hts (gdV k_3_180 k_3_152 k_3_153 k_1_5 k_3_154) rfl rfl rfl (by decide +kernel) ⟨Nat.le_of_ble_eq_true rfl, Nat.le_of_ble_eq_true rfl⟩) (zPV X hZ2 hS2 (ci := 10) g3.1 g3.2 (r := (RX10, TX10, 9)) rfl []) rfl rfl hl.1 rfl (lv_room (Nat.le_of_ble_eq_true rfl)) (D_182 W_prog_5_method_9_code_0 11 rfl rfl rfl) ⟨Nat.le_of_ble_eq_true rfl, Nat.le_of_ble_eq_true rfl⟩) hS2 (fun q _ h => zAin X hS2 q h) (zAin X hS2) (fun u4 t4 H4 locs4 ht4 hv4 hw4 hB4 hz4 hk4 hS4 => ?_)
  have hZ4 := zBack X ht4 hB4
  refine lv_aload_n hx hb (D_42 W_prog_5_method_9_code_0 14 rfl rfl) rfl (lv_at hl 1 rfl) ?_
  obtain ⟨r5, F5, B5, hc5, hf⟩ := gbind hf
  refine va_calli (va_runV (As := []) (rest := []) ⟨hx, hb, hml, hown, hts⟩ (c_Parser_isName (l := l) hc5) (cwV 0 hts (gdV k_3_181 k_3_183 ks_6 k_1_4 k_3_184) rfl rfl rfl (by decide +kernel) ⟨Nat.le_of_ble_eq_true rfl, Nat.le_of_ble_eq_true rfl⟩) (zPV X hZ4 hS4 (ci := 3) g1.1 g1.2 (r := (RX3, TX3, 22)) rfl []) rfl rfl hl.1 rfl (lv_room (Nat.le_of_ble_eq_true rfl)) (D_182 W_prog_5_method_9_code_0 15 rfl rfl rfl) ⟨Nat.le_of_ble_eq_true rfl, Nat.le_of_ble_eq_true rfl⟩) hS4 (fun q _ h => zAin X hS4 q h) (zAin X hS4) (fun p5 u5 t5 H5 locs5 ht5 hv5 hw5 hB5 hz5 hk5 hS5 => ?_)
  have hZ5 := zBack X ht5 hB5
  subst hw5
  obtain ⟨g6, hf⟩ := gif hf
  refine z0ne (tgt := 27) hx hb g6 (D_154 W_prog_5_method_9_code_0 18 rfl rfl rfl) (by decide) (fun h7 => ?_) (fun h7 => ?_)
  · replace hf := gneg hf h7
    refine lv_aload_n hx hb (D_42 W_prog_5_method_9_code_0 27 rfl rfl) rfl (lv_at hl 1 rfl) ?_
    refine zget (ci := 3) (C := RX3) (T := TX3) (v := va_rf (zrf ad 10 (F5 3 l0 11))) (k := 11) hx hb hts inW_3 hown hK hZ5 g1.1 g1.2 rfl (by decide) k_1_128 rfl (D_180 W_prog_5_method_9_code_0 28 rfl rfl rfl) ?_
    obtain ⟨g8, hf⟩ := gif hf
    refine zunrf g8.1 ?_
    refine zget (ci := 10) (C := RX10) (T := TX10) (v := .long (lI (F5 10 (F5 3 l0 11) 2))) (k := 2) hx hb hts inW_10 hown hK hZ5 g8.1 g8.2 rfl (by decide) k_1_77 rfl (D_180 W_prog_5_method_9_code_0 31 rfl rfl rfl) ?_
    refine lv_lstore_n (lv' := [(2, .long (lI (F5 10 (F5 3 l0 11) 2))), (1, .int (iI r2)), (0, .ref (ad 3 l0 0))]) hx hb (D_65 W_prog_5_method_9_code_32 2 rfl rfl) rfl hl (by decide) rfl (fun ls hl => ?_)
    refine lv_aload_n hx hb (D_42 W_prog_5_method_9_code_32 3 rfl rfl) rfl (lv_at hl 2 rfl) ?_
    refine lv_lload_n hx hb (D_32 W_prog_5_method_9_code_32 4 rfl rfl) rfl (lv_at hl 0 rfl) ?_
    obtain ⟨r9, F9, B9, hc9, hf⟩ := gbind hf
    refine va_calli (va_runV (As := [.long (lI (F5 10 (F5 3 l0 11) 2))]) (rest := []) ⟨hx, hb, hml, hown, hts⟩ (c_Parser_letNamed (l := l) hc9) (cwV 1 hts (gdV k_3_200 k_3_202 ks_8 k_1_4 k_3_203) rfl rfl rfl (by decide +kernel) ⟨Nat.le_of_ble_eq_true rfl, Nat.le_of_ble_eq_true rfl⟩) (zPV X hZ5 hS5 (ci := 3) g1.1 g1.2 (r := (RX3, TX3, 22)) rfl [.long (lI (F5 10 (F5 3 l0 11) 2))]) rfl rfl hl.1 rfl (lv_room (Nat.le_of_ble_eq_true rfl)) (D_182 W_prog_5_method_9_code_32 5 rfl rfl rfl) ⟨Nat.le_of_ble_eq_true rfl, Nat.le_of_ble_eq_true rfl⟩) hS5 (fun q _ h => zAin X hS5 q h) (zAin X hS5) (fun p9 u9 t9 H9 locs9 ht9 hv9 hw9 hB9 hz9 hk9 hS9 => ?_)
    have hZ9 := zBack X ht9 hB9
    subst hw9
    refine lv_iconst (v := iI (-1)) hx hb (D_2 W_prog_5_method_9_code_32 8 rfl rfl) rfl ?_
    obtain ⟨g10, hf⟩ := gif hf
    refine zeq (tgt := 50) hx hb g10 (by decide) (D_159 W_prog_5_method_9_code_32 9 rfl rfl rfl) (by decide) (fun h11 => ?_) (fun h11 => ?_)
    · replace hf := gpos hf h11
      refine lv_aload_n hx hb (D_42 W_prog_5_method_9_code_32 18 rfl rfl) rfl (lv_at hl 2 rfl) ?_
      refine zget (ci := 3) (C := RX3) (T := TX3) (v := va_rf (zrf ad 10 (F9 3 l0 11))) (k := 11) hx hb hts inW_3 hown hK hZ9 g1.1 g1.2 rfl (by decide) k_1_128 rfl (D_180 W_prog_5_method_9_code_32 19 rfl rfl rfl) ?_
      obtain ⟨g12, hf⟩ := gif hf
      refine W.eq (g2 := F0 m 54 ls [.ref (ad 10 (F9 3 l0 11) 0)]) (by rw [zrf_pos (ad := ad) (t := 10) g12.1]; try rfl) ?_
      obtain ⟨r13, F13, B13, hc13, hf⟩ := gbind hf
      refine va_callv (va_runV (As := []) (rest := []) ⟨hx, hb, hml, hown, hts⟩ (c_Tokens_advance (l := l) hc13) (cwV 0 hts (gdV k_3_180 k_3_152 k_3_153 k_1_5 k_3_154) rfl rfl rfl (by decide +kernel) ⟨Nat.le_of_ble_eq_true rfl, Nat.le_of_ble_eq_true rfl⟩) (zPV X hZ9 hS9 (ci := 10) g12.1 g12.2 (r := (RX10, TX10, 9)) rfl []) rfl rfl hl.1 rfl (lv_room (Nat.le_of_ble_eq_true rfl)) (D_182 W_prog_5_method_9_code_32 22 rfl rfl rfl) ⟨Nat.le_of_ble_eq_true rfl, Nat.le_of_ble_eq_true rfl⟩) hS9 (fun q _ h => zAin X hS9 q h) (zAin X hS9) (fun u13 t13 H13 locs13 ht13 hv13 hw13 hB13 hz13 hk13 hS13 => ?_)
      have hZ13 := zBack X ht13 hB13
      refine lv_aload_n hx hb (D_42 W_prog_5_method_9_code_32 25 rfl rfl) rfl (lv_at hl 2 rfl) ?_
      refine lv_bipush (v := iI 32) hx hb (D_16 W_prog_5_method_9_code_32 26 rfl rfl rfl) (by decide) ?_
      refine zput (ci := 3) (C := RX3) (T := TX3) (k := 20) (v := 32) (w := .int (iI 32)) hx hb hts inW_3 tyX3 tyX3_ok nmX3 hown hK hZ13 hS13 g1.1 g1.2 rfl (by decide) k_1_137 rfl (fun G h => congrArg (fun q => Value.int (iI q)) h) rfl rfl (zno (by decide)) (D_181 W_prog_5_method_9_code_32 28 rfl rfl rfl) (fun H14 locs14 hZ14 hS14 => ?_)
      refine lv_aload_n hx hb (D_42 W_prog_5_method_9_code_32 31 rfl rfl) rfl (lv_at hl 2 rfl) ?_
      refine lv_bipush (v := iI 61) hx hb (D_16 W_prog_5_method_9_code_64 0 rfl rfl rfl) (by decide) ?_
      obtain ⟨r15, F15, B15, hc15, hf⟩ := gbind hf
      refine va_calli (va_runV (As := [.int (iI 61)]) (rest := []) ⟨hx, hb, hml, hown, hts⟩ (c_Parser_takeSign (l := l) hc15) (cwV 1 hts (gdV k_3_204 k_3_206 ks_9 k_1_4 k_3_207) rfl rfl rfl (by decide +kernel) ⟨Nat.le_of_ble_eq_true rfl, Nat.le_of_ble_eq_true rfl⟩) (zPV X hZ14 hS14 (ci := 3) g1.1 g1.2 (r := (RX3, TX3, 22)) rfl [.int (iI 61)]) rfl rfl hl.1 rfl (lv_room (Nat.le_of_ble_eq_true rfl)) (D_182 W_prog_5_method_9_code_64 2 rfl rfl rfl) ⟨Nat.le_of_ble_eq_true rfl, Nat.le_of_ble_eq_true rfl⟩) hS14 (fun q _ h => zAin X hS14 q h) (zAin X hS14) (fun p15 u15 t15 H15 locs15 ht15 hv15 hw15 hB15 hz15 hk15 hS15 => ?_)
      have hZ15 := zBack X ht15 hB15
      subst hw15
      obtain ⟨g16, hf⟩ := gif hf
      refine z0eq (tgt := 80) hx hb g16 (D_153 W_prog_5_method_9_code_64 5 rfl rfl rfl) (by decide) (fun h17 => ?_) (fun h17 => ?_)
      · replace hf := gpos hf h17
        exact b_Parser_takeLet_80 X hf hZ15 hS15 (lv_sub hl [] rfl)
      · replace hf := gneg hf h17
        refine lv_aload_n hx hb (D_42 W_prog_5_method_9_code_64 8 rfl rfl) rfl (lv_at hl 2 rfl) ?_
        refine lv_iload_n hx hb (D_27 W_prog_5_method_9_code_64 9 rfl rfl) rfl (lv_at hl 1 rfl) ?_
        obtain ⟨r18, F18, B18, hc18, hf⟩ := gbind hf
        refine va_calli (va_runV (As := [.int (iI r2)]) (rest := []) ⟨hx, hb, hml, hown, hts⟩ (c_Parser_takeBlock (l := l) hc18) (cwV 1 hts (gdV k_3_212 k_3_214 ks_10 k_1_4 k_3_215) rfl rfl rfl (by decide +kernel) ⟨Nat.le_of_ble_eq_true rfl, Nat.le_of_ble_eq_true rfl⟩) (zPV X hZ15 hS15 (ci := 3) g1.1 g1.2 (r := (RX3, TX3, 22)) rfl [.int (iI r2)]) rfl rfl hl.1 rfl (lv_room (Nat.le_of_ble_eq_true rfl)) (D_182 W_prog_5_method_9_code_64 10 rfl rfl rfl) ⟨Nat.le_of_ble_eq_true rfl, Nat.le_of_ble_eq_true rfl⟩) hS15 (fun q _ h => zAin X hS15 q h) (zAin X hS15) (fun p18 u18 t18 H18 locs18 ht18 hv18 hw18 hB18 hz18 hk18 hS18 => ?_)
        have hZ18 := zBack X ht18 hB18
        subst hw18
        obtain ⟨g19, hf⟩ := gif hf
        refine z0ne (tgt := 82) hx hb g19 (D_154 W_prog_5_method_9_code_64 13 rfl rfl rfl) (by decide) (fun h20 => ?_) (fun h20 => ?_)
        · replace hf := gneg hf h20
          refine lv_aload_n hx hb (D_42 W_prog_5_method_9_code_64 18 rfl rfl) rfl (lv_at hl 2 rfl) ?_
          refine zget (ci := 3) (C := RX3) (T := TX3) (v := .ref (ad 3 l0 (12 + 1))) (k := 12) hx hb hts inW_3 hown hK hZ18 g1.1 g1.2 rfl (by decide) k_1_129 rfl (D_180 W_prog_5_method_9_code_64 19 rfl rfl rfl) ?_
          refine lv_aload_n hx hb (D_42 W_prog_5_method_9_code_64 22 rfl rfl) rfl (lv_at hl 2 rfl) ?_
          refine zget (ci := 3) (C := RX3) (T := TX3) (v := .int (iI (F18 3 l0 16))) (k := 16) hx hb hts inW_3 hown hK hZ18 g1.1 g1.2 rfl (by decide) k_1_133 rfl (D_180 W_prog_5_method_9_code_64 23 rfl rfl rfl) ?_
          refine lv_lload_n hx hb (D_32 W_prog_5_method_9_code_64 26 rfl rfl) rfl (lv_at hl 0 rfl) ?_
          obtain ⟨g21, hf⟩ := gif hf
          refine zlast (ci := 3) (k := 12) hx hb hK rfl hZ18 hS18 g1.1 g1.2 rfl (Nat.le_of_ble_eq_true rfl) g21.1 g21.2 (D_80 W_prog_5_method_9_code_64 27 rfl rfl) (fun H22 locs22 hZ22 hS22 => ?_)
          refine lv_aload_n hx hb (D_42 W_prog_5_method_9_code_64 28 rfl rfl) rfl (lv_at hl 2 rfl) ?_
          refine zget (ci := 3) (C := RX3) (T := TX3) (v := .ref (ad 3 l0 (13 + 1))) (k := 13) hx hb hts inW_3 hown hK hZ22 g1.1 g1.2 rfl (by decide) k_1_130 rfl (D_180 W_prog_5_method_9_code_64 29 rfl rfl rfl) ?_
          refine lv_aload_n hx hb (D_42 W_prog_5_method_9_code_96 0 rfl rfl) rfl (lv_at hl 2 rfl) ?_
          refine zget (ci := 3) (C := RX3) (T := TX3) (v := .int (iI (F18 3 l0 16))) (k := 16) hx hb hts inW_3 hown hK hZ22 g1.1 g1.2 rfl (by decide) k_1_133 rfl (D_180 W_prog_5_method_9_code_96 1 rfl rfl rfl) ?_
          refine lv_iload_n hx hb (D_27 W_prog_5_method_9_code_96 4 rfl rfl) rfl (lv_at hl 1 rfl) ?_
          refine zast (ci := 3) (k := 13) hx hb hK rfl hZ22 hS22 g1.1 g1.2 rfl (Nat.le_of_ble_eq_true rfl) g21.1 g21.2 (D_79 W_prog_5_method_9_code_96 5 rfl rfl) (fun H23 locs23 hZ23 hS23 => ?_)
          refine lv_aload_n hx hb (D_42 W_prog_5_method_9_code_96 6 rfl rfl) rfl (lv_at hl 2 rfl) ?_
          refine lv_dup hx hb (D_89 W_prog_5_method_9_code_96 7 rfl rfl) rfl ?_
          refine zget (ci := 3) (C := RX3) (T := TX3) (v := .int (iI (F18 3 l0 16))) (k := 16) hx hb hts inW_3 hown hK hZ23 g1.1 g1.2 rfl (by decide) k_1_133 rfl (D_180 W_prog_5_method_9_code_96 8 rfl rfl rfl) ?_
          refine lv_iconst (v := iI 1) hx hb (D_4 W_prog_5_method_9_code_96 11 rfl rfl) rfl ?_
          refine zadd hx hb (D_96 W_prog_5_method_9_code_96 12 rfl rfl) ?_
          refine zput (ci := 3) (C := RX3) (T := TX3) (k := 16) (v := ((F18 3 l0 16) + 1)) (w := .int (iI ((F18 3 l0 16) + 1))) hx hb hts inW_3 tyX3 tyX3_ok nmX3 hown hK hZ23 hS23 g1.1 g1.2 rfl (by decide) k_1_133 rfl (fun G h => congrArg (fun q => Value.int (iI q)) h) rfl rfl (zno (by decide)) (D_181 W_prog_5_method_9_code_96 13 rfl rfl rfl) (fun H24 locs24 hZ24 hS24 => ?_)
          refine lv_iconst (v := iI 1) hx hb (D_4 W_prog_5_method_9_code_96 16 rfl rfl) rfl ?_
          cases hf
          exact W.zret hx hb hr rfl (fun t ht hW => ⟨⟨_, (), rfl, rfl, by rw [ht]; exact hZ24, va_K.moved hW.alike hK⟩, hS24.F ht⟩) hS24.2.2 (D_172 W_prog_5_method_9_code_96 17 rfl rfl) hlk
        · replace hf := gpos hf h20
          exact b_Parser_takeLet_80 X hf hZ18 hS18 (lv_sub hl [] rfl)
    · replace hf := gneg hf h11
      refine lv_aload_n hx hb (D_42 W_prog_5_method_9_code_32 12 rfl rfl) rfl (lv_at hl 2 rfl) ?_
      refine lv_iconst (v := iI 4) hx hb (D_7 W_prog_5_method_9_code_32 13 rfl rfl) rfl ?_
      obtain ⟨r25, F25, B25, hc25, hf⟩ := gbind hf
      refine va_calli (va_runV (As := [.int (iI 4)]) (rest := []) ⟨hx, hb, hml, hown, hts⟩ (c_Parser_refuse (l := l) hc25) (cwV 1 hts (gdV k_3_196 k_3_198 ks_7 k_1_4 k_3_199) rfl rfl rfl (by decide +kernel) ⟨Nat.le_of_ble_eq_true rfl, Nat.le_of_ble_eq_true rfl⟩) (zPV X hZ9 hS9 (ci := 3) g1.1 g1.2 (r := (RX3, TX3, 22)) rfl [.int (iI 4)]) rfl rfl hl.1 rfl (lv_room (Nat.le_of_ble_eq_true rfl)) (D_182 W_prog_5_method_9_code_32 14 rfl rfl rfl) ⟨Nat.le_of_ble_eq_true rfl, Nat.le_of_ble_eq_true rfl⟩) hS9 (fun q _ h => zAin X hS9 q h) (zAin X hS9) (fun p25 u25 t25 H25 locs25 ht25 hv25 hw25 hB25 hz25 hk25 hS25 => ?_)
      have hZ25 := zBack X ht25 hB25
      subst hw25
      obtain ⟨g26, hf⟩ := gif hf
      cases hf
      exact W.zret hx hb hr (zbool g26) (fun t ht hW => ⟨⟨_, (), rfl, rfl, by rw [ht]; exact hZ25, va_K.moved hW.alike hK⟩, hS25.F ht⟩) hS25.2.2 (D_172 W_prog_5_method_9_code_32 17 rfl rfl) hlk
  · replace hf := gpos hf h7
    refine lv_aload_n hx hb (D_42 W_prog_5_method_9_code_0 21 rfl rfl) rfl (lv_at hl 1 rfl) ?_
    refine lv_iconst (v := iI 2) hx hb (D_5 W_prog_5_method_9_code_0 22 rfl rfl) rfl ?_
    obtain ⟨r27, F27, B27, hc27, hf⟩ := gbind hf
    refine va_calli (va_runV (As := [.int (iI 2)]) (rest := []) ⟨hx, hb, hml, hown, hts⟩ (c_Parser_refuse (l := l) hc27) (cwV 1 hts (gdV k_3_196 k_3_198 ks_7 k_1_4 k_3_199) rfl rfl rfl (by decide +kernel) ⟨Nat.le_of_ble_eq_true rfl, Nat.le_of_ble_eq_true rfl⟩) (zPV X hZ5 hS5 (ci := 3) g1.1 g1.2 (r := (RX3, TX3, 22)) rfl [.int (iI 2)]) rfl rfl hl.1 rfl (lv_room (Nat.le_of_ble_eq_true rfl)) (D_182 W_prog_5_method_9_code_0 23 rfl rfl rfl) ⟨Nat.le_of_ble_eq_true rfl, Nat.le_of_ble_eq_true rfl⟩) hS5 (fun q _ h => zAin X hS5 q h) (zAin X hS5) (fun p27 u27 t27 H27 locs27 ht27 hv27 hw27 hB27 hz27 hk27 hS27 => ?_)
    have hZ27 := zBack X ht27 hB27
    subst hw27
    obtain ⟨g28, hf⟩ := gif hf
    cases hf
    exact W.zret hx hb hr (zbool g28) (fun t ht hW => ⟨⟨_, (), rfl, rfl, by rw [ht]; exact hZ27, va_K.moved hW.alike hK⟩, hS27.F ht⟩) hS27.2.2 (D_172 W_prog_5_method_9_code_0 26 rfl rfl) hlk

abbrev Q_Walker_goThrough (K : zK) (D : va_G) (ca : Nat → ClassId) (ad : Nat → Int → Nat → Nat) (L : List Nat) (r : Int) (F : zF) (B : zB) (A : Nat → Prop) : Array Value → State → Outcome → State → Prop := va_Qv (S := Unit) (fun _ => True) (fun _ => zPo D ca ad lnC K.2 L F B A) A
abbrev Q_Walker_goItem (K : zK) (D : va_G) (ca : Nat → ClassId) (ad : Nat → Int → Nat → Nat) (L : List Nat) (r : Int) (F : zF) (B : zB) (A : Nat → Prop) : Array Value → State → Outcome → State → Prop := va_Qv (S := Unit) (fun _ => True) (fun _ => zPo D ca ad lnC K.2 L F B A) A
abbrev Q_Walker_goBracket (K : zK) (D : va_G) (ca : Nat → ClassId) (ad : Nat → Int → Nat → Nat) (L : List Nat) (r : Int) (F : zF) (B : zB) (A : Nat → Prop) : Array Value → State → Outcome → State → Prop := va_Qv (S := Unit) (fun _ => True) (fun _ => zPo D ca ad lnC K.2 L F B A) A
abbrev Q_Walker_goRepeat (K : zK) (D : va_G) (ca : Nat → ClassId) (ad : Nat → Int → Nat → Nat) (L : List Nat) (r : Int) (F : zF) (B : zB) (A : Nat → Prop) : Array Value → State → Outcome → State → Prop := va_Qv (S := Unit) (fun _ => True) (fun _ => zPo D ca ad lnC K.2 L F B A) A
abbrev Q_Walker_goCarried (K : zK) (D : va_G) (ca : Nat → ClassId) (ad : Nat → Int → Nat → Nat) (L : List Nat) (r : Int) (F : zF) (B : zB) (A : Nat → Prop) : Array Value → State → Outcome → State → Prop := va_Qv (S := Unit) (fun _ => True) (fun _ => zPo D ca ad lnC K.2 L F B A) A
abbrev Q_Walker_goBack (K : zK) (D : va_G) (ca : Nat → ClassId) (ad : Nat → Int → Nat → Nat) (L : List Nat) (r : Int) (F : zF) (B : zB) (A : Nat → Prop) : Array Value → State → Outcome → State → Prop := va_Qv (S := Unit) (fun _ => True) (fun _ => zPo D ca ad lnC K.2 L F B A) A
abbrev oT_CW : Type := (Int → Int → Int → zF → zB → zO) × (Int → Int → Int → zF → zB → zO) × (Int → Int → Int → zF → zB → zO) × (Int → Int → Int → zF → zB → zO) × (Int → Int → Int → Int → zF → zB → zO) × (Int → Int → Int → zF → zB → zO)
def oH_CW (K : zK) (l : Launch) (D : va_G) (ca : Nat → ClassId) (ad : Nat → Int → Nat → Nat) (L : List Nat) (aS vS : Nat → Nat) (d : Nat) (o : oT_CW) : Prop := (∀ {sz : Nat} {l0 : Int} {l1 : Int} {l2 : Int} {F F9 : zF} {B B9 : zB} {r : Int}, o.1 l0 l1 l2 F B = some (r, F9, B9) → Met l ({ cls := "StaveHouse$Walker", name := "goThrough", desc := "(II)V" } : Jvm.MethodName) (Cond.code ({ cls := "StaveHouse$Walker", name := "goThrough", desc := "(II)V" } : Jvm.MethodName) prog_13_method_4_code 5 (Option.none : Option Jvm.ClassFile.FieldType) :: wAll) ({ frames := d + 5, cells := 0, slots := 0, locals := 25 * d + 95 } : Room) (va_Pc [.ref (ad 11 l0 0), .int (iI l1), .int (iI l2)] (zPre D ca ad lnC K.2 L aS vS F B sz)) (Q_Walker_goThrough K D ca ad L r F9 B9 (zA L sz)) 0 0 (zA L sz)) ∧ (∀ {sz : Nat} {l0 : Int} {l1 : Int} {l2 : Int} {F F9 : zF} {B B9 : zB} {r : Int}, o.2.1 l0 l1 l2 F B = some (r, F9, B9) → Met l ({ cls := "StaveHouse$Walker", name := "goItem", desc := "(II)V" } : Jvm.MethodName) (Cond.code ({ cls := "StaveHouse$Walker", name := "goItem", desc := "(II)V" } : Jvm.MethodName) prog_13_method_6_code 4 (Option.none : Option Jvm.ClassFile.FieldType) :: wAll) ({ frames := d + 5, cells := 0, slots := 0, locals := 25 * d + 95 } : Room) (va_Pc [.ref (ad 11 l0 0), .int (iI l1), .int (iI l2)] (zPre D ca ad lnC K.2 L aS vS F B sz)) (Q_Walker_goItem K D ca ad L r F9 B9 (zA L sz)) 0 0 (zA L sz)) ∧ (∀ {sz : Nat} {l0 : Int} {l1 : Int} {l2 : Int} {F F9 : zF} {B B9 : zB} {r : Int}, o.2.2.1 l0 l1 l2 F B = some (r, F9, B9) → Met l ({ cls := "StaveHouse$Walker", name := "goBracket", desc := "(II)V" } : Jvm.MethodName) (Cond.code ({ cls := "StaveHouse$Walker", name := "goBracket", desc := "(II)V" } : Jvm.MethodName) prog_13_method_7_code 5 (Option.none : Option Jvm.ClassFile.FieldType) :: wAll) ({ frames := d + 5, cells := 0, slots := 0, locals := 25 * d + 95 } : Room) (va_Pc [.ref (ad 11 l0 0), .int (iI l1), .int (iI l2)] (zPre D ca ad lnC K.2 L aS vS F B sz)) (Q_Walker_goBracket K D ca ad L r F9 B9 (zA L sz)) 0 0 (zA L sz)) ∧ (∀ {sz : Nat} {l0 : Int} {l1 : Int} {l2 : Int} {F F9 : zF} {B B9 : zB} {r : Int}, o.2.2.2.1 l0 l1 l2 F B = some (r, F9, B9) → Met l ({ cls := "StaveHouse$Walker", name := "goRepeat", desc := "(II)V" } : Jvm.MethodName) (Cond.code ({ cls := "StaveHouse$Walker", name := "goRepeat", desc := "(II)V" } : Jvm.MethodName) prog_13_method_8_code 6 (Option.none : Option Jvm.ClassFile.FieldType) :: wAll) ({ frames := d + 5, cells := 0, slots := 0, locals := 25 * d + 95 } : Room) (va_Pc [.ref (ad 11 l0 0), .int (iI l1), .int (iI l2)] (zPre D ca ad lnC K.2 L aS vS F B sz)) (Q_Walker_goRepeat K D ca ad L r F9 B9 (zA L sz)) 0 0 (zA L sz)) ∧ (∀ {sz : Nat} {l0 : Int} {l1 : Int} {l2 : Int} {l3 : Int} {F F9 : zF} {B B9 : zB} {r : Int}, o.2.2.2.2.1 l0 l1 l2 l3 F B = some (r, F9, B9) → Met l ({ cls := "StaveHouse$Walker", name := "goCarried", desc := "(III)V" } : Jvm.MethodName) (Cond.code ({ cls := "StaveHouse$Walker", name := "goCarried", desc := "(III)V" } : Jvm.MethodName) prog_13_method_9_code 4 (Option.none : Option Jvm.ClassFile.FieldType) :: wAll) ({ frames := d + 5, cells := 0, slots := 0, locals := 25 * d + 95 } : Room) (va_Pc [.ref (ad 11 l0 0), .int (iI l1), .int (iI l2), .int (iI l3)] (zPre D ca ad lnC K.2 L aS vS F B sz)) (Q_Walker_goCarried K D ca ad L r F9 B9 (zA L sz)) 0 0 (zA L sz)) ∧ (∀ {sz : Nat} {l0 : Int} {l1 : Int} {l2 : Int} {F F9 : zF} {B B9 : zB} {r : Int}, o.2.2.2.2.2 l0 l1 l2 F B = some (r, F9, B9) → Met l ({ cls := "StaveHouse$Walker", name := "goBack", desc := "(II)V" } : Jvm.MethodName) (Cond.code ({ cls := "StaveHouse$Walker", name := "goBack", desc := "(II)V" } : Jvm.MethodName) prog_13_method_10_code 4 (Option.none : Option Jvm.ClassFile.FieldType) :: wAll) ({ frames := d + 5, cells := 0, slots := 0, locals := 25 * d + 95 } : Room) (va_Pc [.ref (ad 11 l0 0), .int (iI l1), .int (iI l2)] (zPre D ca ad lnC K.2 L aS vS F B sz)) (Q_Walker_goBack K D ca ad L r F9 B9 (zA L sz)) 0 0 (zA L sz))
def f_Walker_goThrough_73 (o : oT_CW) (K : zK)  (F : zF) (B : zB) : zO := some (0, F, B)
set_option maxHeartbeats 4000000 in
set_option maxRecDepth 100000 in
theorem b_Walker_goThrough_73 {D : va_G} {ca : Nat → ClassId} {ad : Nat → Int → Nat → Nat} {L : List Nat} {aS vS : Nat → Nat} {A : Nat → Prop} {p : Program} {l : Launch} {e : Env} {s : State} {m : MethodId} {args : Array Value} {below : List Frame} {meth : Method} {c : Code} {K : zK} {r : Int} {F9 : zF} {B9 : zB} {d : Nat} {o : oT_CW} (X : zX D ca L aS vS A p s m args meth c prog_13_method_4_code 5 (Option.none : Option Jvm.ClassFile.FieldType) "StaveHouse$Walker") (ho : oH_CW K l D ca ad L aS vS d o)  {F : zF} {B : zB} {H : Heap} {locs : List Loc} {ls : Array Slot} (hf : f_Walker_goThrough_73 o K  F B = some (r, F9, B9)) (hZ : zH D ca ad lnC K.2 L F B A H) (hS : va_S A s.heap H locs) (hl : lv_has ls 5 []) : W p l e ({ frames := d + 1 + 5, cells := 0, slots := 0, locals := 25 * (d + 1) + 95 } : Room) s m args below meth c H locs 0 0 (MQ below (Q_Walker_goThrough K D ca ad L r F9 B9 A) args s 0 0 A) (F0 m 73 ls []) := by
  obtain ⟨hx, hb, hr, hml, hown, hts, hlk, hK, hA, hL, hX⟩ := id X
  replace hf : (some (0, F, B)) = some (r, F9, B9) := hf
  cases hf
  exact W.vret hx hb hr (fun t ht hW => ⟨⟨(), rfl, trivial, by rw [ht]; exact hZ, va_K.moved hW.alike hK⟩, hS.F ht⟩) hS.2.2 (D_177 W_prog_13_method_4_code_64 9 rfl rfl) hlk

def f_Walker_goThrough_57 (o : oT_CW) (rec5 : Int → Int → Int → Int → zF → zB → zO) (K : zK) (l4 : Int) (l3 : Int) (l0 : Int) (l2 : Int) (F : zF) (B : zB) : zO := if 0 ≤ l0 ∧ l0 < K.2 11 then if 0 ≤ (F 11 l0 0) ∧ (F 11 l0 0) < K.2 3 then if 0 ≤ l3 ∧ l3 < 3000 then rec5 (l4 + 1) (B 3 (F 11 l0 0) 5 l3) l0 l2 F B else none else none else none
set_option maxHeartbeats 4000000 in
set_option maxRecDepth 100000 in
theorem b_Walker_goThrough_57 {D : va_G} {ca : Nat → ClassId} {ad : Nat → Int → Nat → Nat} {L : List Nat} {aS vS : Nat → Nat} {A : Nat → Prop} {p : Program} {l : Launch} {e : Env} {s : State} {m : MethodId} {args : Array Value} {below : List Frame} {meth : Method} {c : Code} {K : zK} {r : Int} {F9 : zF} {B9 : zB} {d : Nat} {o : oT_CW} (X : zX D ca L aS vS A p s m args meth c prog_13_method_4_code 5 (Option.none : Option Jvm.ClassFile.FieldType) "StaveHouse$Walker") (ho : oH_CW K l D ca ad L aS vS d o) {rec5 : Int → Int → Int → Int → zF → zB → zO} (hrec5 : ∀ {l4 : Int} {l3 : Int} {l0 : Int} {l2 : Int} {F : zF} {B : zB} {H : Heap} {locs : List Loc} {ls : Array Slot}, rec5 l4 l3 l0 l2 F B = some (r, F9, B9) → zH D ca ad lnC K.2 L F B A H → va_S A s.heap H locs → lv_has ls 5 [(4, .int (iI l4)), (3, .int (iI l3)), (0, .ref (ad 11 l0 0)), (2, .int (iI l2))] → W p l e ({ frames := d + 1 + 5, cells := 0, slots := 0, locals := 25 * (d + 1) + 95 } : Room) s m args below meth c H locs 0 0 (MQ below (Q_Walker_goThrough K D ca ad L r F9 B9 A) args s 0 0 A) (F0 m 5 ls [])) {l4 : Int} {l3 : Int} {l0 : Int} {l2 : Int} {F : zF} {B : zB} {H : Heap} {locs : List Loc} {ls : Array Slot} (hf : f_Walker_goThrough_57 o rec5 K l4 l3 l0 l2 F B = some (r, F9, B9)) (hZ : zH D ca ad lnC K.2 L F B A H) (hS : va_S A s.heap H locs) (hl : lv_has ls 5 [(4, .int (iI l4)), (3, .int (iI l3)), (0, .ref (ad 11 l0 0)), (2, .int (iI l2))]) : W p l e ({ frames := d + 1 + 5, cells := 0, slots := 0, locals := 25 * (d + 1) + 95 } : Room) s m args below meth c H locs 0 0 (MQ below (Q_Walker_goThrough K D ca ad L r F9 B9 A) args s 0 0 A) (F0 m 57 ls []) := by
  obtain ⟨hx, hb, hr, hml, hown, hts, hlk, hK, hA, hL, hX⟩ := id X
  replace hf : (if 0 ≤ l0 ∧ l0 < K.2 11 then if 0 ≤ (F 11 l0 0) ∧ (F 11 l0 0) < K.2 3 then if 0 ≤ l3 ∧ l3 < 3000 then rec5 (l4 + 1) (B 3 (F 11 l0 0) 5 l3) l0 l2 F B else none else none else none) = some (r, F9, B9) := hf
  refine lv_aload_n hx hb (D_42 W_prog_13_method_4_code_32 25 rfl rfl) rfl (lv_at hl 2 rfl) ?_
  obtain ⟨g16, hf⟩ := gif hf
  refine zget (ci := 11) (C := RX11) (T := TX11) (v := va_rf (zrf ad 3 (F 11 l0 0))) (k := 0) hx hb hts inW_11 hown hK hZ g16.1 g16.2 rfl (by decide) k_1_190 rfl (D_180 W_prog_13_method_4_code_32 26 rfl rfl rfl) ?_
  obtain ⟨g17, hf⟩ := gif hf
  refine zunrf g17.1 ?_
  refine zget (ci := 3) (C := RX3) (T := TX3) (v := .ref (ad 3 (F 11 l0 0) (5 + 1))) (k := 5) hx hb hts inW_3 hown hK hZ g17.1 g17.2 rfl (by decide) k_1_117 rfl (D_180 W_prog_13_method_4_code_32 29 rfl rfl rfl) ?_
  refine lv_iload_n hx hb (D_29 W_prog_13_method_4_code_64 0 rfl rfl) rfl (lv_at hl 1 rfl) ?_
  obtain ⟨g18, hf⟩ := gif hf
  refine zald (ci := 3) (k := 5) hx hb hK rfl hZ g17.1 g17.2 rfl (Nat.le_of_ble_eq_true rfl) g18.1 g18.2 (D_46 W_prog_13_method_4_code_64 1 rfl rfl) ?_
  refine lv_istore_n (lv' := [(3, .int (iI (B 3 (F 11 l0 0) 5 l3))), (4, .int (iI l4)), (0, .ref (ad 11 l0 0)), (2, .int (iI l2))]) hx hb (D_62 W_prog_13_method_4_code_64 2 rfl rfl) rfl hl (by decide) rfl (fun ls hl => ?_)
  refine lv_iinc (v := iI (l4 + 1)) (lv' := [(4, .int (iI (l4 + 1))), (3, .int (iI (B 3 (F 11 l0 0) 5 l3))), (0, .ref (ad 11 l0 0)), (2, .int (iI l2))]) hx hb d_13_4_67 hl (k := 1) rfl (iI_add _ 1) (by decide) rfl (fun ls hl => ?_)
  refine lv_goto (tgt := 5) hx hb (D_167 W_prog_13_method_4_code_64 6 rfl rfl rfl) (by decide) ?_
  exact hrec5 hf hZ hS (lv_sub hl [0, 1, 2, 3] rfl)

def f_Walker_goThrough_5 (o : oT_CW) (K : zK) : Nat → Int → Int → Int → Int → zF → zB → zO
  | 0, _, _, _, _, _, _ => none
  | n + 1, l4, l3, l0, l2, F, B => if r32 l4 then (if 3000 ≤ l4 then f_Walker_goThrough_73 o K F B else if r32 l3 then (if l3 = (-1) then f_Walker_goThrough_73 o K F B else if 0 ≤ l0 ∧ l0 < K.2 11 then if r32 (F 11 l0 2) then (if (F 11 l0 2) = 0 then if r32 l2 then (if 64 ≤ l2 then f_Walker_goThrough_73 o K F B else if 0 ≤ (F 11 l0 0) ∧ (F 11 l0 0) < K.2 3 then if 0 ≤ l3 ∧ l3 < 3000 then zbind (f_Walker_countItem K l0 (B 3 (F 11 l0 0) 1 l3) F B) (fun r12 F12 B12 => if r32 (F12 11 l0 2) then (if (F12 11 l0 2) = 0 then zbind (o.2.1 l0 l3 l2 F12 B12) (fun r15 F15 B15 => f_Walker_goThrough_57 o (f_Walker_goThrough_5 o K n) K l4 l3 l0 l2 F15 B15) else f_Walker_goThrough_57 o (f_Walker_goThrough_5 o K n) K l4 l3 l0 l2 F12 B12) else none) else none else none) else none else f_Walker_goThrough_73 o K F B) else none else none) else none) else none
set_option maxHeartbeats 4000000 in
set_option maxRecDepth 100000 in
theorem b_Walker_goThrough_5 {D : va_G} {ca : Nat → ClassId} {ad : Nat → Int → Nat → Nat} {L : List Nat} {aS vS : Nat → Nat} {A : Nat → Prop} {p : Program} {l : Launch} {e : Env} {s : State} {m : MethodId} {args : Array Value} {below : List Frame} {meth : Method} {c : Code} {K : zK} {r : Int} {F9 : zF} {B9 : zB} {d : Nat} {o : oT_CW} (X : zX D ca L aS vS A p s m args meth c prog_13_method_4_code 5 (Option.none : Option Jvm.ClassFile.FieldType) "StaveHouse$Walker") (ho : oH_CW K l D ca ad L aS vS d o) : ∀ {n : Nat} {l4 : Int} {l3 : Int} {l0 : Int} {l2 : Int} {F : zF} {B : zB} {H : Heap} {locs : List Loc} {ls : Array Slot}, f_Walker_goThrough_5 o K n l4 l3 l0 l2 F B = some (r, F9, B9) → zH D ca ad lnC K.2 L F B A H → va_S A s.heap H locs → lv_has ls 5 [(4, .int (iI l4)), (3, .int (iI l3)), (0, .ref (ad 11 l0 0)), (2, .int (iI l2))] → W p l e ({ frames := d + 1 + 5, cells := 0, slots := 0, locals := 25 * (d + 1) + 95 } : Room) s m args below meth c H locs 0 0 (MQ below (Q_Walker_goThrough K D ca ad L r F9 B9 A) args s 0 0 A) (F0 m 5 ls []) := by
  obtain ⟨hx, hb, hr, hml, hown, hts, hlk, hK, hA, hL, hX⟩ := id X
  intro n
  induction n with
  | zero =>
    intros
    rename_i hf _ _ _
    cases hf
  | succ n ih =>
    intro l4 l3 l0 l2 F B H locs ls hf hZ hS hl
    replace hf : (if r32 l4 then (if 3000 ≤ l4 then f_Walker_goThrough_73 o K F B else if r32 l3 then (if l3 = (-1) then f_Walker_goThrough_73 o K F B else if 0 ≤ l0 ∧ l0 < K.2 11 then if r32 (F 11 l0 2) then (if (F 11 l0 2) = 0 then if r32 l2 then (if 64 ≤ l2 then f_Walker_goThrough_73 o K F B else if 0 ≤ (F 11 l0 0) ∧ (F 11 l0 0) < K.2 3 then if 0 ≤ l3 ∧ l3 < 3000 then zbind (f_Walker_countItem K l0 (B 3 (F 11 l0 0) 1 l3) F B) (fun r12 F12 B12 => if r32 (F12 11 l0 2) then (if (F12 11 l0 2) = 0 then zbind (o.2.1 l0 l3 l2 F12 B12) (fun r15 F15 B15 => f_Walker_goThrough_57 o (f_Walker_goThrough_5 o K n) K l4 l3 l0 l2 F15 B15) else f_Walker_goThrough_57 o (f_Walker_goThrough_5 o K n) K l4 l3 l0 l2 F12 B12) else none) else none else none) else none else f_Walker_goThrough_73 o K F B) else none else none) else none) else none) = some (r, F9, B9) := hf
    refine lv_iload hx hb (D_21 W_prog_13_method_4_code_0 5 rfl rfl) (lv_at hl 0 rfl) ?_
    refine lv_sipush (v := iI 3000) hx hb (D_17 W_prog_13_method_4_code_0 7 rfl rfl rfl) (by decide) ?_
    obtain ⟨g1, hf⟩ := gif hf
    refine zge (tgt := 73) hx hb g1 (by decide) (D_162 W_prog_13_method_4_code_0 10 rfl rfl rfl) (by decide) (fun h2 => ?_) (fun h2 => ?_)
    · replace hf := gpos hf h2
      exact b_Walker_goThrough_73 X ho hf hZ hS (lv_sub hl [] rfl)
    · replace hf := gneg hf h2
      refine lv_iload_n hx hb (D_29 W_prog_13_method_4_code_0 13 rfl rfl) rfl (lv_at hl 1 rfl) ?_
      refine lv_iconst (v := iI (-1)) hx hb (D_2 W_prog_13_method_4_code_0 14 rfl rfl) rfl ?_
      obtain ⟨g3, hf⟩ := gif hf
      refine zeq (tgt := 73) hx hb g3 (by decide) (D_159 W_prog_13_method_4_code_0 15 rfl rfl rfl) (by decide) (fun h4 => ?_) (fun h4 => ?_)
      · replace hf := gpos hf h4
        exact b_Walker_goThrough_73 X ho hf hZ hS (lv_sub hl [] rfl)
      · replace hf := gneg hf h4
        refine lv_aload_n hx hb (D_42 W_prog_13_method_4_code_0 18 rfl rfl) rfl (lv_at hl 2 rfl) ?_
        obtain ⟨g5, hf⟩ := gif hf
        refine zget (ci := 11) (C := RX11) (T := TX11) (v := .int (iI (F 11 l0 2))) (k := 2) hx hb hts inW_11 hown hK hZ g5.1 g5.2 rfl (by decide) k_1_192 rfl (D_180 W_prog_13_method_4_code_0 19 rfl rfl rfl) ?_
        obtain ⟨g6, hf⟩ := gif hf
        refine z0ne (tgt := 73) hx hb g6 (D_154 W_prog_13_method_4_code_0 22 rfl rfl rfl) (by decide) (fun h7 => ?_) (fun h7 => ?_)
        · replace hf := gneg hf h7
          exact b_Walker_goThrough_73 X ho hf hZ hS (lv_sub hl [] rfl)
        · replace hf := gpos hf h7
          refine lv_iload_n hx hb (D_28 W_prog_13_method_4_code_0 25 rfl rfl) rfl (lv_at hl 3 rfl) ?_
          refine lv_bipush (v := iI 64) hx hb (D_16 W_prog_13_method_4_code_0 26 rfl rfl rfl) (by decide) ?_
          obtain ⟨g8, hf⟩ := gif hf
          refine zge (tgt := 73) hx hb g8 (by decide) (D_162 W_prog_13_method_4_code_0 28 rfl rfl rfl) (by decide) (fun h9 => ?_) (fun h9 => ?_)
          · replace hf := gpos hf h9
            exact b_Walker_goThrough_73 X ho hf hZ hS (lv_sub hl [] rfl)
          · replace hf := gneg hf h9
            refine lv_aload_n hx hb (D_42 W_prog_13_method_4_code_0 31 rfl rfl) rfl (lv_at hl 2 rfl) ?_
            refine lv_aload_n hx hb (D_42 W_prog_13_method_4_code_32 0 rfl rfl) rfl (lv_at hl 2 rfl) ?_
            refine zget (ci := 11) (C := RX11) (T := TX11) (v := va_rf (zrf ad 3 (F 11 l0 0))) (k := 0) hx hb hts inW_11 hown hK hZ g5.1 g5.2 rfl (by decide) k_1_190 rfl (D_180 W_prog_13_method_4_code_32 1 rfl rfl rfl) ?_
            obtain ⟨g10, hf⟩ := gif hf
            refine zunrf g10.1 ?_
            refine zget (ci := 3) (C := RX3) (T := TX3) (v := .ref (ad 3 (F 11 l0 0) (1 + 1))) (k := 1) hx hb hts inW_3 hown hK hZ g10.1 g10.2 rfl (by decide) k_1_109 rfl (D_180 W_prog_13_method_4_code_32 4 rfl rfl rfl) ?_
            refine lv_iload_n hx hb (D_29 W_prog_13_method_4_code_32 7 rfl rfl) rfl (lv_at hl 1 rfl) ?_
            obtain ⟨g11, hf⟩ := gif hf
            refine zald (ci := 3) (k := 1) hx hb hK rfl hZ g10.1 g10.2 rfl (Nat.le_of_ble_eq_true rfl) g11.1 g11.2 (D_46 W_prog_13_method_4_code_32 8 rfl rfl) ?_
            obtain ⟨r12, F12, B12, hc12, hf⟩ := gbind hf
            refine va_callv (va_runV (As := [.int (iI (B 3 (F 11 l0 0) 1 l3))]) (rest := []) ⟨hx, hb, hml, hown, hts⟩ (c_Walker_countItem (l := l) hc12) (cwV 1 hts (gdV k_4_200 k_4_202 ks_35 k_1_6 k_4_203) rfl rfl rfl (by decide +kernel) ⟨by dsimp only; omega, by dsimp only; omega⟩) (zPV X hZ hS (ci := 11) g5.1 g5.2 (r := (RX11, TX11, 19)) rfl [.int (iI (B 3 (F 11 l0 0) 1 l3))]) rfl rfl hl.1 rfl (lv_room (Nat.le_of_ble_eq_true rfl)) (D_182 W_prog_13_method_4_code_32 9 rfl rfl rfl) ⟨Nat.le_of_ble_eq_true rfl, Nat.le_of_ble_eq_true rfl⟩) hS (fun q _ h => zAin X hS q h) (zAin X hS) (fun u12 t12 H12 locs12 ht12 hv12 hw12 hB12 hz12 hk12 hS12 => ?_)
            have hZ12 := zBack X ht12 hB12
            refine lv_aload_n hx hb (D_42 W_prog_13_method_4_code_32 12 rfl rfl) rfl (lv_at hl 2 rfl) ?_
            refine zget (ci := 11) (C := RX11) (T := TX11) (v := .int (iI (F12 11 l0 2))) (k := 2) hx hb hts inW_11 hown hK hZ12 g5.1 g5.2 rfl (by decide) k_1_192 rfl (D_180 W_prog_13_method_4_code_32 13 rfl rfl rfl) ?_
            obtain ⟨g13, hf⟩ := gif hf
            refine z0ne (tgt := 57) hx hb g13 (D_154 W_prog_13_method_4_code_32 16 rfl rfl rfl) (by decide) (fun h14 => ?_) (fun h14 => ?_)
            · replace hf := gneg hf h14
              exact b_Walker_goThrough_57 X ho ih hf hZ12 hS12 (lv_sub hl [0, 1, 2, 3] rfl)
            · replace hf := gpos hf h14
              refine lv_aload_n hx hb (D_42 W_prog_13_method_4_code_32 19 rfl rfl) rfl (lv_at hl 2 rfl) ?_
              refine lv_iload_n hx hb (D_29 W_prog_13_method_4_code_32 20 rfl rfl) rfl (lv_at hl 1 rfl) ?_
              refine lv_iload_n hx hb (D_28 W_prog_13_method_4_code_32 21 rfl rfl) rfl (lv_at hl 3 rfl) ?_
              obtain ⟨r15, F15, B15, hc15, hf⟩ := gbind hf
              refine va_callv (va_runV (As := [.int (iI l3), .int (iI l2)]) (rest := []) ⟨hx, hb, hml, hown, hts⟩ (ho.2.1 hc15) (cwV 2 hts (gdV k_4_208 k_4_210 ks_37 k_1_6 k_4_211) rfl rfl rfl (by decide +kernel) ⟨by dsimp only; omega, by dsimp only; omega⟩) (zPV X hZ12 hS12 (ci := 11) g5.1 g5.2 (r := (RX11, TX11, 19)) rfl [.int (iI l3), .int (iI l2)]) rfl rfl hl.1 rfl (lv_room (Nat.le_of_ble_eq_true rfl)) (D_182 W_prog_13_method_4_code_32 22 rfl rfl rfl) ⟨Nat.le_of_ble_eq_true rfl, Nat.le_of_ble_eq_true rfl⟩) hS12 (fun q _ h => zAin X hS12 q h) (zAin X hS12) (fun u15 t15 H15 locs15 ht15 hv15 hw15 hB15 hz15 hk15 hS15 => ?_)
              have hZ15 := zBack X ht15 hB15
              exact b_Walker_goThrough_57 X ho ih hf hZ15 hS15 (lv_sub hl [0, 1, 2, 3] rfl)

def fb_Walker_goThrough (o : oT_CW) (K : zK) (l0 : Int) (l1 : Int) (l2 : Int) (F : zF) (B : zB) : zO := f_Walker_goThrough_5 o K K.1 0 l1 l0 l2 F B
set_option maxHeartbeats 4000000 in
set_option maxRecDepth 100000 in
theorem cb_Walker_goThrough {l : Launch} {D : va_G} {ca : Nat → ClassId} {ad : Nat → Int → Nat → Nat} {L : List Nat} {aS vS : Nat → Nat} {sz : Nat} {K : zK} {d : Nat} {o : oT_CW} (ho : oH_CW K l D ca ad L aS vS d o)  {l0 : Int} {l1 : Int} {l2 : Int} {F F9 : zF} {B B9 : zB} {r : Int} (hf : fb_Walker_goThrough o K l0 l1 l2 F B = some (r, F9, B9)) : Met l ({ cls := "StaveHouse$Walker", name := "goThrough", desc := "(II)V" } : Jvm.MethodName) (Cond.code ({ cls := "StaveHouse$Walker", name := "goThrough", desc := "(II)V" } : Jvm.MethodName) prog_13_method_4_code 5 (Option.none : Option Jvm.ClassFile.FieldType) :: wAll) ({ frames := d + 1 + 5, cells := 0, slots := 0, locals := 25 * (d + 1) + 95 } : Room) (va_Pc [.ref (ad 11 l0 0), .int (iI l1), .int (iI l2)] (zPre D ca ad lnC K.2 L aS vS F B sz)) (Q_Walker_goThrough K D ca ad L r F9 B9 (zA L sz)) 0 0 (zA L sz) := by
  refine zMet (Qc := Q_Walker_goThrough K D ca ad L r F9 B9) (lv := [(0, .ref (ad 11 l0 0)), (1, .int (iI l1)), (2, .int (iI l2))]) (by decide) (Nat.le_of_ble_eq_true rfl) rfl (fun A p e s m below meth c ls X hZ hS hl => ?_)
  obtain ⟨hx, hb, hr, hml, hown, hts, hlk, hK, hA, hL, hX⟩ := id X
  replace hf : (f_Walker_goThrough_5 o K K.1 0 l1 l0 l2 F B) = some (r, F9, B9) := hf
  refine lv_iload_n hx hb (D_27 W_prog_13_method_4_code_0 0 rfl rfl) rfl (lv_at hl 1 rfl) ?_
  refine lv_istore_n (lv' := [(3, .int (iI l1)), (0, .ref (ad 11 l0 0)), (1, .int (iI l1)), (2, .int (iI l2))]) hx hb (D_62 W_prog_13_method_4_code_0 1 rfl rfl) rfl hl (by decide) rfl (fun ls hl => ?_)
  refine lv_iconst (v := iI 0) hx hb (D_3 W_prog_13_method_4_code_0 2 rfl rfl) rfl ?_
  refine lv_istore (lv' := [(4, .int (iI 0)), (3, .int (iI l1)), (0, .ref (ad 11 l0 0)), (1, .int (iI l1)), (2, .int (iI l2))]) hx hb (D_54 W_prog_13_method_4_code_0 3 rfl rfl) hl (by decide) rfl (fun ls hl => ?_)
  exact b_Walker_goThrough_5 X ho hf hZ hS (lv_sub hl [0, 1, 2, 4] rfl)

def f_Walker_goItem_285 (o : oT_CW) (K : zK)  (F : zF) (B : zB) : zO := some (0, F, B)
set_option maxHeartbeats 4000000 in
set_option maxRecDepth 100000 in
theorem b_Walker_goItem_285 {D : va_G} {ca : Nat → ClassId} {ad : Nat → Int → Nat → Nat} {L : List Nat} {aS vS : Nat → Nat} {A : Nat → Prop} {p : Program} {l : Launch} {e : Env} {s : State} {m : MethodId} {args : Array Value} {below : List Frame} {meth : Method} {c : Code} {K : zK} {r : Int} {F9 : zF} {B9 : zB} {d : Nat} {o : oT_CW} (X : zX D ca L aS vS A p s m args meth c prog_13_method_6_code 4 (Option.none : Option Jvm.ClassFile.FieldType) "StaveHouse$Walker") (ho : oH_CW K l D ca ad L aS vS d o)  {F : zF} {B : zB} {H : Heap} {locs : List Loc} {ls : Array Slot} (hf : f_Walker_goItem_285 o K  F B = some (r, F9, B9)) (hZ : zH D ca ad lnC K.2 L F B A H) (hS : va_S A s.heap H locs) (hl : lv_has ls 4 []) : W p l e ({ frames := d + 1 + 5, cells := 0, slots := 0, locals := 25 * (d + 1) + 95 } : Room) s m args below meth c H locs 0 0 (MQ below (Q_Walker_goItem K D ca ad L r F9 B9 A) args s 0 0 A) (F0 m 285 ls []) := by
  obtain ⟨hx, hb, hr, hml, hown, hts, hlk, hK, hA, hL, hX⟩ := id X
  replace hf : (some (0, F, B)) = some (r, F9, B9) := hf
  cases hf
  exact W.vret hx hb hr (fun t ht hW => ⟨⟨(), rfl, trivial, by rw [ht]; exact hZ, va_K.moved hW.alike hK⟩, hS.F ht⟩) hS.2.2 (D_177 W_prog_13_method_6_code_256 29 rfl rfl) hlk

def fb_Walker_goItem (o : oT_CW) (K : zK) (l0 : Int) (l1 : Int) (l2 : Int) (F : zF) (B : zB) : zO := if 0 ≤ l0 ∧ l0 < K.2 11 then if 0 ≤ (F 11 l0 0) ∧ (F 11 l0 0) < K.2 3 then if 0 ≤ l1 ∧ l1 < 3000 then if r32 (B 3 (F 11 l0 0) 0 l1) then (if (B 3 (F 11 l0 0) 0 l1) = 0 then zbind (f_Walker_makeEvent K l0 l1 F B) (fun r6 F6 B6 => f_Walker_goItem_285 o K F6 B6) else (if (B 3 (F 11 l0 0) 0 l1) = 1 then if r32 (F 11 l0 5) then (if (F 11 l0 5) = 0 then if r64 (F 11 l0 13) then (if (zcmp (F 11 l0 13) 0) ≤ 0 then f_Walker_goItem_285 o K F B else if ¬ lI (F 11 l0 13) = 0 then if r64 (zlrm (F 11 l0 11) (F 11 l0 13)) then (if (zcmp (zlrm (F 11 l0 11) (F 11 l0 13)) 0) = 0 then f_Walker_goItem_285 o K F B else zbind (f_Walker_refuse K l0 7 (B 3 (F 11 l0 0) 1 l1) F B) (fun r15 F15 B15 => f_Walker_goItem_285 o K F15 B15)) else none else none) else none else f_Walker_goItem_285 o K F B) else none else (if (B 3 (F 11 l0 0) 0 l1) = 2 then f_Walker_goItem_285 o K (zup3 F 11 l0 4 (B 3 (F 11 l0 0) 2 l1)) B else (if (B 3 (F 11 l0 0) 0 l1) = 3 then zbind (o.2.2.1 l0 l1 l2 F B) (fun r19 F19 B19 => f_Walker_goItem_285 o K F19 B19) else (if (B 3 (F 11 l0 0) 0 l1) = 4 then zbind (o.2.2.2.1 l0 l1 l2 F B) (fun r21 F21 B21 => f_Walker_goItem_285 o K F21 B21) else (if (B 3 (F 11 l0 0) 0 l1) = 5 then if 0 ≤ (B 3 (F 11 l0 0) 2 l1) ∧ (B 3 (F 11 l0 0) 2 l1) < 3000 then zbind (o.1 l0 (B 3 (F 11 l0 0) 4 (B 3 (F 11 l0 0) 2 l1)) (l2 + 1) F B) (fun r24 F24 B24 => f_Walker_goItem_285 o K F24 B24) else none else (if (B 3 (F 11 l0 0) 0 l1) = 6 then zbind (o.2.2.2.2.1 l0 1 l1 l2 F B) (fun r26 F26 B26 => f_Walker_goItem_285 o K F26 B26) else (if (B 3 (F 11 l0 0) 0 l1) = 7 then zbind (o.2.2.2.2.1 l0 (-1) l1 l2 F B) (fun r28 F28 B28 => f_Walker_goItem_285 o K F28 B28) else (if (B 3 (F 11 l0 0) 0 l1) = 8 then zbind (o.2.2.2.2.2 l0 (B 3 (F 11 l0 0) 4 l1) l2 F B) (fun r30 F30 B30 => f_Walker_goItem_285 o K F30 B30) else (if (B 3 (F 11 l0 0) 0 l1) = 9 then zbind (f_Walker_multiplySlow K l0 (B 3 (F 11 l0 0) 2 l1) 1 F B) (fun r33 F33 B33 => if 0 ≤ (F33 11 l0 0) ∧ (F33 11 l0 0) < K.2 3 then zbind (f_Walker_multiplySlow K l0 (B33 3 (F33 11 l0 0) 3 l1) (-1) F33 B33) (fun r35 F35 B35 => zbind (o.1 l0 (B 3 (F 11 l0 0) 4 l1) (l2 + 1) F35 B35) (fun r36 F36 B36 => if 0 ≤ (F36 11 l0 0) ∧ (F36 11 l0 0) < K.2 3 then zbind (f_Walker_multiplySlow K l0 (B36 3 (F36 11 l0 0) 2 l1) (-1) F36 B36) (fun r38 F38 B38 => if 0 ≤ (F38 11 l0 0) ∧ (F38 11 l0 0) < K.2 3 then zbind (f_Walker_multiplySlow K l0 (B38 3 (F38 11 l0 0) 3 l1) 1 F38 B38) (fun r40 F40 B40 => f_Walker_goItem_285 o K F40 B40) else none) else none)) else none) else f_Walker_goItem_285 o K F B)))))))))) else none else none else none else none
set_option maxHeartbeats 4000000 in
set_option maxRecDepth 100000 in
theorem cb_Walker_goItem {l : Launch} {D : va_G} {ca : Nat → ClassId} {ad : Nat → Int → Nat → Nat} {L : List Nat} {aS vS : Nat → Nat} {sz : Nat} {K : zK} {d : Nat} {o : oT_CW} (ho : oH_CW K l D ca ad L aS vS d o)  {l0 : Int} {l1 : Int} {l2 : Int} {F F9 : zF} {B B9 : zB} {r : Int} (hf : fb_Walker_goItem o K l0 l1 l2 F B = some (r, F9, B9)) : Met l ({ cls := "StaveHouse$Walker", name := "goItem", desc := "(II)V" } : Jvm.MethodName) (Cond.code ({ cls := "StaveHouse$Walker", name := "goItem", desc := "(II)V" } : Jvm.MethodName) prog_13_method_6_code 4 (Option.none : Option Jvm.ClassFile.FieldType) :: wAll) ({ frames := d + 1 + 5, cells := 0, slots := 0, locals := 25 * (d + 1) + 95 } : Room) (va_Pc [.ref (ad 11 l0 0), .int (iI l1), .int (iI l2)] (zPre D ca ad lnC K.2 L aS vS F B sz)) (Q_Walker_goItem K D ca ad L r F9 B9 (zA L sz)) 0 0 (zA L sz) := by
  refine zMet (Qc := Q_Walker_goItem K D ca ad L r F9 B9) (lv := [(0, .ref (ad 11 l0 0)), (1, .int (iI l1)), (2, .int (iI l2))]) (by decide) (Nat.le_of_ble_eq_true rfl) rfl (fun A p e s m below meth c ls X hZ hS hl => ?_)
  obtain ⟨hx, hb, hr, hml, hown, hts, hlk, hK, hA, hL, hX⟩ := id X
  replace hf : (if 0 ≤ l0 ∧ l0 < K.2 11 then if 0 ≤ (F 11 l0 0) ∧ (F 11 l0 0) < K.2 3 then if 0 ≤ l1 ∧ l1 < 3000 then if r32 (B 3 (F 11 l0 0) 0 l1) then (if (B 3 (F 11 l0 0) 0 l1) = 0 then zbind (f_Walker_makeEvent K l0 l1 F B) (fun r6 F6 B6 => f_Walker_goItem_285 o K F6 B6) else (if (B 3 (F 11 l0 0) 0 l1) = 1 then if r32 (F 11 l0 5) then (if (F 11 l0 5) = 0 then if r64 (F 11 l0 13) then (if (zcmp (F 11 l0 13) 0) ≤ 0 then f_Walker_goItem_285 o K F B else if ¬ lI (F 11 l0 13) = 0 then if r64 (zlrm (F 11 l0 11) (F 11 l0 13)) then (if (zcmp (zlrm (F 11 l0 11) (F 11 l0 13)) 0) = 0 then f_Walker_goItem_285 o K F B else zbind (f_Walker_refuse K l0 7 (B 3 (F 11 l0 0) 1 l1) F B) (fun r15 F15 B15 => f_Walker_goItem_285 o K F15 B15)) else none else none) else none else f_Walker_goItem_285 o K F B) else none else (if (B 3 (F 11 l0 0) 0 l1) = 2 then f_Walker_goItem_285 o K (zup3 F 11 l0 4 (B 3 (F 11 l0 0) 2 l1)) B else (if (B 3 (F 11 l0 0) 0 l1) = 3 then zbind (o.2.2.1 l0 l1 l2 F B) (fun r19 F19 B19 => f_Walker_goItem_285 o K F19 B19) else (if (B 3 (F 11 l0 0) 0 l1) = 4 then zbind (o.2.2.2.1 l0 l1 l2 F B) (fun r21 F21 B21 => f_Walker_goItem_285 o K F21 B21) else (if (B 3 (F 11 l0 0) 0 l1) = 5 then if 0 ≤ (B 3 (F 11 l0 0) 2 l1) ∧ (B 3 (F 11 l0 0) 2 l1) < 3000 then zbind (o.1 l0 (B 3 (F 11 l0 0) 4 (B 3 (F 11 l0 0) 2 l1)) (l2 + 1) F B) (fun r24 F24 B24 => f_Walker_goItem_285 o K F24 B24) else none else (if (B 3 (F 11 l0 0) 0 l1) = 6 then zbind (o.2.2.2.2.1 l0 1 l1 l2 F B) (fun r26 F26 B26 => f_Walker_goItem_285 o K F26 B26) else (if (B 3 (F 11 l0 0) 0 l1) = 7 then zbind (o.2.2.2.2.1 l0 (-1) l1 l2 F B) (fun r28 F28 B28 => f_Walker_goItem_285 o K F28 B28) else (if (B 3 (F 11 l0 0) 0 l1) = 8 then zbind (o.2.2.2.2.2 l0 (B 3 (F 11 l0 0) 4 l1) l2 F B) (fun r30 F30 B30 => f_Walker_goItem_285 o K F30 B30) else (if (B 3 (F 11 l0 0) 0 l1) = 9 then zbind (f_Walker_multiplySlow K l0 (B 3 (F 11 l0 0) 2 l1) 1 F B) (fun r33 F33 B33 => if 0 ≤ (F33 11 l0 0) ∧ (F33 11 l0 0) < K.2 3 then zbind (f_Walker_multiplySlow K l0 (B33 3 (F33 11 l0 0) 3 l1) (-1) F33 B33) (fun r35 F35 B35 => zbind (o.1 l0 (B 3 (F 11 l0 0) 4 l1) (l2 + 1) F35 B35) (fun r36 F36 B36 => if 0 ≤ (F36 11 l0 0) ∧ (F36 11 l0 0) < K.2 3 then zbind (f_Walker_multiplySlow K l0 (B36 3 (F36 11 l0 0) 2 l1) (-1) F36 B36) (fun r38 F38 B38 => if 0 ≤ (F38 11 l0 0) ∧ (F38 11 l0 0) < K.2 3 then zbind (f_Walker_multiplySlow K l0 (B38 3 (F38 11 l0 0) 3 l1) 1 F38 B38) (fun r40 F40 B40 => f_Walker_goItem_285 o K F40 B40) else none) else none)) else none) else f_Walker_goItem_285 o K F B)))))))))) else none else none else none else none) = some (r, F9, B9) := hf
  refine lv_aload_n hx hb (D_42 W_prog_13_method_6_code_0 0 rfl rfl) rfl (lv_at hl 0 rfl) ?_
  obtain ⟨g1, hf⟩ := gif hf
  refine zget (ci := 11) (C := RX11) (T := TX11) (v := va_rf (zrf ad 3 (F 11 l0 0))) (k := 0) hx hb hts inW_11 hown hK hZ g1.1 g1.2 rfl (by decide) k_1_190 rfl (D_180 W_prog_13_method_6_code_0 1 rfl rfl rfl) ?_
  obtain ⟨g2, hf⟩ := gif hf
  refine zunrf g2.1 ?_
  refine zget (ci := 3) (C := RX3) (T := TX3) (v := .ref (ad 3 (F 11 l0 0) (4 + 1))) (k := 4) hx hb hts inW_3 hown hK hZ g2.1 g2.2 rfl (by decide) k_1_115 rfl (D_180 W_prog_13_method_6_code_0 4 rfl rfl rfl) ?_
  refine lv_iload_n hx hb (D_27 W_prog_13_method_6_code_0 7 rfl rfl) rfl (lv_at hl 1 rfl) ?_
  obtain ⟨g3, hf⟩ := gif hf
  refine zald (ci := 3) (k := 4) hx hb hK rfl hZ g2.1 g2.2 rfl (Nat.le_of_ble_eq_true rfl) g3.1 g3.2 (D_46 W_prog_13_method_6_code_0 8 rfl rfl) ?_
  refine lv_istore_n (lv' := [(3, .int (iI (B 3 (F 11 l0 0) 4 l1))), (0, .ref (ad 11 l0 0)), (1, .int (iI l1)), (2, .int (iI l2))]) hx hb (D_62 W_prog_13_method_6_code_0 9 rfl rfl) rfl hl (by decide) rfl (fun ls hl => ?_)
  refine lv_aload_n hx hb (D_42 W_prog_13_method_6_code_0 10 rfl rfl) rfl (lv_at hl 1 rfl) ?_
  refine zget (ci := 11) (C := RX11) (T := TX11) (v := va_rf (zrf ad 3 (F 11 l0 0))) (k := 0) hx hb hts inW_11 hown hK hZ g1.1 g1.2 rfl (by decide) k_1_190 rfl (D_180 W_prog_13_method_6_code_0 11 rfl rfl rfl) ?_
  refine zunrf g2.1 ?_
  refine zget (ci := 3) (C := RX3) (T := TX3) (v := .ref (ad 3 (F 11 l0 0) (0 + 1))) (k := 0) hx hb hts inW_3 hown hK hZ g2.1 g2.2 rfl (by decide) k_1_107 rfl (D_180 W_prog_13_method_6_code_0 14 rfl rfl rfl) ?_
  refine lv_iload_n hx hb (D_27 W_prog_13_method_6_code_0 17 rfl rfl) rfl (lv_at hl 2 rfl) ?_
  refine zald (ci := 3) (k := 0) hx hb hK rfl hZ g2.1 g2.2 rfl (Nat.le_of_ble_eq_true rfl) g3.1 g3.2 (D_46 W_prog_13_method_6_code_0 18 rfl rfl) ?_
  obtain ⟨g4, hf⟩ := gif hf
  by_cases h5 : (B 3 (F 11 l0 0) 0 l1) = 0
  · replace hf := gpos hf h5
    refine lv_tableIn (off := 53) (tgt := 72) hx hb d_13_6_19 (by rw [iI_to g4, h5]; decide) (by rw [iI_to g4, h5]; decide) (by rw [iI_to g4, h5]; rfl) (by decide) ?_
    refine lv_aload_n hx hb (D_42 W_prog_13_method_6_code_64 8 rfl rfl) rfl (lv_at hl 1 rfl) ?_
    refine lv_iload_n hx hb (D_27 W_prog_13_method_6_code_64 9 rfl rfl) rfl (lv_at hl 2 rfl) ?_
    obtain ⟨r6, F6, B6, hc6, hf⟩ := gbind hf
    refine va_callv (va_runV (As := [.int (iI l1)]) (rest := []) ⟨hx, hb, hml, hown, hts⟩ (c_Walker_makeEvent (l := l) hc6) (cwV 1 hts (gdV k_4_212 k_4_214 ks_38 k_1_6 k_4_215) rfl rfl rfl (by decide +kernel) ⟨by dsimp only; omega, by dsimp only; omega⟩) (zPV X hZ hS (ci := 11) g1.1 g1.2 (r := (RX11, TX11, 19)) rfl [.int (iI l1)]) rfl rfl hl.1 rfl (lv_room (Nat.le_of_ble_eq_true rfl)) (D_182 W_prog_13_method_6_code_64 10 rfl rfl rfl) ⟨Nat.le_of_ble_eq_true rfl, Nat.le_of_ble_eq_true rfl⟩) hS (fun q _ h => zAin X hS q h) (zAin X hS) (fun u6 t6 H6 locs6 ht6 hv6 hw6 hB6 hz6 hk6 hS6 => ?_)
    have hZ6 := zBack X ht6 hB6
    refine lv_goto (tgt := 285) hx hb (D_167 W_prog_13_method_6_code_64 13 rfl rfl rfl) (by decide) ?_
    exact b_Walker_goItem_285 X ho hf hZ6 hS6 (lv_sub hl [] rfl)
  replace hf := gneg hf h5
  by_cases h7 : (B 3 (F 11 l0 0) 0 l1) = 1
  · replace hf := gpos hf h7
    refine lv_tableIn (off := 61) (tgt := 80) hx hb d_13_6_19 (by rw [iI_to g4, h7]; decide) (by rw [iI_to g4, h7]; decide) (by rw [iI_to g4, h7]; rfl) (by decide) ?_
    refine lv_aload_n hx hb (D_42 W_prog_13_method_6_code_64 16 rfl rfl) rfl (lv_at hl 1 rfl) ?_
    refine zget (ci := 11) (C := RX11) (T := TX11) (v := .int (iI (F 11 l0 5))) (k := 5) hx hb hts inW_11 hown hK hZ g1.1 g1.2 rfl (by decide) k_1_195 rfl (D_180 W_prog_13_method_6_code_64 17 rfl rfl rfl) ?_
    obtain ⟨g8, hf⟩ := gif hf
    refine z0ne (tgt := 285) hx hb g8 (D_154 W_prog_13_method_6_code_64 20 rfl rfl rfl) (by decide) (fun h9 => ?_) (fun h9 => ?_)
    · replace hf := gneg hf h9
      exact b_Walker_goItem_285 X ho hf hZ hS (lv_sub hl [] rfl)
    · replace hf := gpos hf h9
      refine lv_aload_n hx hb (D_42 W_prog_13_method_6_code_64 23 rfl rfl) rfl (lv_at hl 1 rfl) ?_
      refine zget (ci := 11) (C := RX11) (T := TX11) (v := .long (lI (F 11 l0 13))) (k := 13) hx hb hts inW_11 hown hK hZ g1.1 g1.2 rfl (by decide) k_1_203 rfl (D_180 W_prog_13_method_6_code_64 24 rfl rfl rfl) ?_
      refine lv_lconst (v := lI 0) hx hb (D_9 W_prog_13_method_6_code_64 27 rfl rfl) (by decide) ?_
      obtain ⟨g10, hf⟩ := gif hf
      refine zcmp_r hx hb g10 (by decide) (D_148 W_prog_13_method_6_code_64 28 rfl rfl) ?_
      refine z0le (tgt := 285) hx hb zcmp_32 (D_158 W_prog_13_method_6_code_64 29 rfl rfl rfl) (by decide) (fun h11 => ?_) (fun h11 => ?_)
      · replace hf := gpos hf h11
        exact b_Walker_goItem_285 X ho hf hZ hS (lv_sub hl [] rfl)
      · replace hf := gneg hf h11
        refine lv_aload_n hx hb (D_42 W_prog_13_method_6_code_96 0 rfl rfl) rfl (lv_at hl 1 rfl) ?_
        refine zget (ci := 11) (C := RX11) (T := TX11) (v := .long (lI (F 11 l0 11))) (k := 11) hx hb hts inW_11 hown hK hZ g1.1 g1.2 rfl (by decide) k_1_201 rfl (D_180 W_prog_13_method_6_code_96 1 rfl rfl rfl) ?_
        refine lv_aload_n hx hb (D_42 W_prog_13_method_6_code_96 4 rfl rfl) rfl (lv_at hl 1 rfl) ?_
        refine zget (ci := 11) (C := RX11) (T := TX11) (v := .long (lI (F 11 l0 13))) (k := 13) hx hb hts inW_11 hown hK hZ g1.1 g1.2 rfl (by decide) k_1_203 rfl (D_180 W_prog_13_method_6_code_96 5 rfl rfl rfl) ?_
        obtain ⟨g12, hf⟩ := gif hf
        refine zlrm_r hx hb g12 (D_113 W_prog_13_method_6_code_96 8 rfl rfl) ?_
        refine lv_lconst (v := lI 0) hx hb (D_9 W_prog_13_method_6_code_96 9 rfl rfl) (by decide) ?_
        obtain ⟨g13, hf⟩ := gif hf
        refine zcmp_r hx hb g13 (by decide) (D_148 W_prog_13_method_6_code_96 10 rfl rfl) ?_
        refine z0eq (tgt := 285) hx hb zcmp_32 (D_153 W_prog_13_method_6_code_96 11 rfl rfl rfl) (by decide) (fun h14 => ?_) (fun h14 => ?_)
        · replace hf := gpos hf h14
          exact b_Walker_goItem_285 X ho hf hZ hS (lv_sub hl [] rfl)
        · replace hf := gneg hf h14
          refine lv_aload_n hx hb (D_42 W_prog_13_method_6_code_96 14 rfl rfl) rfl (lv_at hl 1 rfl) ?_
          refine lv_bipush (v := iI 7) hx hb (D_16 W_prog_13_method_6_code_96 15 rfl rfl rfl) (by decide) ?_
          refine lv_aload_n hx hb (D_42 W_prog_13_method_6_code_96 17 rfl rfl) rfl (lv_at hl 1 rfl) ?_
          refine zget (ci := 11) (C := RX11) (T := TX11) (v := va_rf (zrf ad 3 (F 11 l0 0))) (k := 0) hx hb hts inW_11 hown hK hZ g1.1 g1.2 rfl (by decide) k_1_190 rfl (D_180 W_prog_13_method_6_code_96 18 rfl rfl rfl) ?_
          refine zunrf g2.1 ?_
          refine zget (ci := 3) (C := RX3) (T := TX3) (v := .ref (ad 3 (F 11 l0 0) (1 + 1))) (k := 1) hx hb hts inW_3 hown hK hZ g2.1 g2.2 rfl (by decide) k_1_109 rfl (D_180 W_prog_13_method_6_code_96 21 rfl rfl rfl) ?_
          refine lv_iload_n hx hb (D_27 W_prog_13_method_6_code_96 24 rfl rfl) rfl (lv_at hl 2 rfl) ?_
          refine zald (ci := 3) (k := 1) hx hb hK rfl hZ g2.1 g2.2 rfl (Nat.le_of_ble_eq_true rfl) g3.1 g3.2 (D_46 W_prog_13_method_6_code_96 25 rfl rfl) ?_
          obtain ⟨r15, F15, B15, hc15, hf⟩ := gbind hf
          refine va_callv (va_runV (As := [.int (iI 7), .int (iI (B 3 (F 11 l0 0) 1 l1))]) (rest := []) ⟨hx, hb, hml, hown, hts⟩ (c_Walker_refuse (l := l) hc15) (cwV 2 hts (gdV k_4_204 k_4_206 ks_36 k_1_6 k_4_207) rfl rfl rfl (by decide +kernel) ⟨by dsimp only; omega, by dsimp only; omega⟩) (zPV X hZ hS (ci := 11) g1.1 g1.2 (r := (RX11, TX11, 19)) rfl [.int (iI 7), .int (iI (B 3 (F 11 l0 0) 1 l1))]) rfl rfl hl.1 rfl (lv_room (Nat.le_of_ble_eq_true rfl)) (D_182 W_prog_13_method_6_code_96 26 rfl rfl rfl) ⟨Nat.le_of_ble_eq_true rfl, Nat.le_of_ble_eq_true rfl⟩) hS (fun q _ h => zAin X hS q h) (zAin X hS) (fun u15 t15 H15 locs15 ht15 hv15 hw15 hB15 hz15 hk15 hS15 => ?_)
          have hZ15 := zBack X ht15 hB15
          refine lv_goto (tgt := 285) hx hb (D_167 W_prog_13_method_6_code_96 29 rfl rfl rfl) (by decide) ?_
          exact b_Walker_goItem_285 X ho hf hZ15 hS15 (lv_sub hl [] rfl)
  replace hf := gneg hf h7
  by_cases h16 : (B 3 (F 11 l0 0) 0 l1) = 2
  · replace hf := gpos hf h16
    refine lv_tableIn (off := 109) (tgt := 128) hx hb d_13_6_19 (by rw [iI_to g4, h16]; decide) (by rw [iI_to g4, h16]; decide) (by rw [iI_to g4, h16]; rfl) (by decide) ?_
    refine lv_aload_n hx hb (D_42 W_prog_13_method_6_code_128 0 rfl rfl) rfl (lv_at hl 1 rfl) ?_
    refine lv_aload_n hx hb (D_42 W_prog_13_method_6_code_128 1 rfl rfl) rfl (lv_at hl 1 rfl) ?_
    refine zget (ci := 11) (C := RX11) (T := TX11) (v := va_rf (zrf ad 3 (F 11 l0 0))) (k := 0) hx hb hts inW_11 hown hK hZ g1.1 g1.2 rfl (by decide) k_1_190 rfl (D_180 W_prog_13_method_6_code_128 2 rfl rfl rfl) ?_
    refine zunrf g2.1 ?_
    refine zget (ci := 3) (C := RX3) (T := TX3) (v := .ref (ad 3 (F 11 l0 0) (2 + 1))) (k := 2) hx hb hts inW_3 hown hK hZ g2.1 g2.2 rfl (by decide) k_1_111 rfl (D_180 W_prog_13_method_6_code_128 5 rfl rfl rfl) ?_
    refine lv_iload_n hx hb (D_27 W_prog_13_method_6_code_128 8 rfl rfl) rfl (lv_at hl 2 rfl) ?_
    refine zald (ci := 3) (k := 2) hx hb hK rfl hZ g2.1 g2.2 rfl (Nat.le_of_ble_eq_true rfl) g3.1 g3.2 (D_46 W_prog_13_method_6_code_128 9 rfl rfl) ?_
    refine zput (ci := 11) (C := RX11) (T := TX11) (k := 4) (v := (B 3 (F 11 l0 0) 2 l1)) (w := .int (iI (B 3 (F 11 l0 0) 2 l1))) hx hb hts inW_11 tyX11 tyX11_ok nmX11 hown hK hZ hS g1.1 g1.2 rfl (by decide) k_1_194 rfl (fun G h => congrArg (fun q => Value.int (iI q)) h) rfl rfl (zno (by decide)) (D_181 W_prog_13_method_6_code_128 10 rfl rfl rfl) (fun H17 locs17 hZ17 hS17 => ?_)
    refine lv_goto (tgt := 285) hx hb (D_167 W_prog_13_method_6_code_128 13 rfl rfl rfl) (by decide) ?_
    exact b_Walker_goItem_285 X ho hf hZ17 hS17 (lv_sub hl [] rfl)
  replace hf := gneg hf h16
  by_cases h18 : (B 3 (F 11 l0 0) 0 l1) = 3
  · replace hf := gpos hf h18
    refine lv_tableIn (off := 125) (tgt := 144) hx hb d_13_6_19 (by rw [iI_to g4, h18]; decide) (by rw [iI_to g4, h18]; decide) (by rw [iI_to g4, h18]; rfl) (by decide) ?_
    refine lv_aload_n hx hb (D_42 W_prog_13_method_6_code_128 16 rfl rfl) rfl (lv_at hl 1 rfl) ?_
    refine lv_iload_n hx hb (D_27 W_prog_13_method_6_code_128 17 rfl rfl) rfl (lv_at hl 2 rfl) ?_
    refine lv_iload_n hx hb (D_28 W_prog_13_method_6_code_128 18 rfl rfl) rfl (lv_at hl 3 rfl) ?_
    obtain ⟨r19, F19, B19, hc19, hf⟩ := gbind hf
    refine va_callv (va_runV (As := [.int (iI l1), .int (iI l2)]) (rest := []) ⟨hx, hb, hml, hown, hts⟩ (ho.2.2.1 hc19) (cwV 2 hts (gdV k_4_235 k_4_237 ks_41 k_1_6 k_4_238) rfl rfl rfl (by decide +kernel) ⟨by dsimp only; omega, by dsimp only; omega⟩) (zPV X hZ hS (ci := 11) g1.1 g1.2 (r := (RX11, TX11, 19)) rfl [.int (iI l1), .int (iI l2)]) rfl rfl hl.1 rfl (lv_room (Nat.le_of_ble_eq_true rfl)) (D_182 W_prog_13_method_6_code_128 19 rfl rfl rfl) ⟨Nat.le_of_ble_eq_true rfl, Nat.le_of_ble_eq_true rfl⟩) hS (fun q _ h => zAin X hS q h) (zAin X hS) (fun u19 t19 H19 locs19 ht19 hv19 hw19 hB19 hz19 hk19 hS19 => ?_)
    have hZ19 := zBack X ht19 hB19
    refine lv_goto (tgt := 285) hx hb (D_167 W_prog_13_method_6_code_128 22 rfl rfl rfl) (by decide) ?_
    exact b_Walker_goItem_285 X ho hf hZ19 hS19 (lv_sub hl [] rfl)
  replace hf := gneg hf h18
  by_cases h20 : (B 3 (F 11 l0 0) 0 l1) = 4
  · replace hf := gpos hf h20
    refine lv_tableIn (off := 134) (tgt := 153) hx hb d_13_6_19 (by rw [iI_to g4, h20]; decide) (by rw [iI_to g4, h20]; decide) (by rw [iI_to g4, h20]; rfl) (by decide) ?_
    refine lv_aload_n hx hb (D_42 W_prog_13_method_6_code_128 25 rfl rfl) rfl (lv_at hl 1 rfl) ?_
    refine lv_iload_n hx hb (D_27 W_prog_13_method_6_code_128 26 rfl rfl) rfl (lv_at hl 2 rfl) ?_
    refine lv_iload_n hx hb (D_28 W_prog_13_method_6_code_128 27 rfl rfl) rfl (lv_at hl 3 rfl) ?_
    obtain ⟨r21, F21, B21, hc21, hf⟩ := gbind hf
    refine va_callv (va_runV (As := [.int (iI l1), .int (iI l2)]) (rest := []) ⟨hx, hb, hml, hown, hts⟩ (ho.2.2.2.1 hc21) (cwV 2 hts (gdV k_4_239 k_5_1 ks_42 k_1_6 k_5_2) rfl rfl rfl (by decide +kernel) ⟨by dsimp only; omega, by dsimp only; omega⟩) (zPV X hZ hS (ci := 11) g1.1 g1.2 (r := (RX11, TX11, 19)) rfl [.int (iI l1), .int (iI l2)]) rfl rfl hl.1 rfl (lv_room (Nat.le_of_ble_eq_true rfl)) (D_182 W_prog_13_method_6_code_128 28 rfl rfl rfl) ⟨Nat.le_of_ble_eq_true rfl, Nat.le_of_ble_eq_true rfl⟩) hS (fun q _ h => zAin X hS q h) (zAin X hS) (fun u21 t21 H21 locs21 ht21 hv21 hw21 hB21 hz21 hk21 hS21 => ?_)
    have hZ21 := zBack X ht21 hB21
    refine lv_goto (tgt := 285) hx hb (D_167 W_prog_13_method_6_code_128 31 rfl rfl rfl) (by decide) ?_
    exact b_Walker_goItem_285 X ho hf hZ21 hS21 (lv_sub hl [] rfl)
  replace hf := gneg hf h20
  by_cases h22 : (B 3 (F 11 l0 0) 0 l1) = 5
  · replace hf := gpos hf h22
    refine lv_tableIn (off := 143) (tgt := 162) hx hb d_13_6_19 (by rw [iI_to g4, h22]; decide) (by rw [iI_to g4, h22]; decide) (by rw [iI_to g4, h22]; rfl) (by decide) ?_
    refine lv_aload_n hx hb (D_42 W_prog_13_method_6_code_160 2 rfl rfl) rfl (lv_at hl 1 rfl) ?_
    refine lv_aload_n hx hb (D_42 W_prog_13_method_6_code_160 3 rfl rfl) rfl (lv_at hl 1 rfl) ?_
    refine zget (ci := 11) (C := RX11) (T := TX11) (v := va_rf (zrf ad 3 (F 11 l0 0))) (k := 0) hx hb hts inW_11 hown hK hZ g1.1 g1.2 rfl (by decide) k_1_190 rfl (D_180 W_prog_13_method_6_code_160 4 rfl rfl rfl) ?_
    refine zunrf g2.1 ?_
    refine zget (ci := 3) (C := RX3) (T := TX3) (v := .ref (ad 3 (F 11 l0 0) (4 + 1))) (k := 4) hx hb hts inW_3 hown hK hZ g2.1 g2.2 rfl (by decide) k_1_115 rfl (D_180 W_prog_13_method_6_code_160 7 rfl rfl rfl) ?_
    refine lv_aload_n hx hb (D_42 W_prog_13_method_6_code_160 10 rfl rfl) rfl (lv_at hl 1 rfl) ?_
    refine zget (ci := 11) (C := RX11) (T := TX11) (v := va_rf (zrf ad 3 (F 11 l0 0))) (k := 0) hx hb hts inW_11 hown hK hZ g1.1 g1.2 rfl (by decide) k_1_190 rfl (D_180 W_prog_13_method_6_code_160 11 rfl rfl rfl) ?_
    refine zunrf g2.1 ?_
    refine zget (ci := 3) (C := RX3) (T := TX3) (v := .ref (ad 3 (F 11 l0 0) (2 + 1))) (k := 2) hx hb hts inW_3 hown hK hZ g2.1 g2.2 rfl (by decide) k_1_111 rfl (D_180 W_prog_13_method_6_code_160 14 rfl rfl rfl) ?_
    refine lv_iload_n hx hb (D_27 W_prog_13_method_6_code_160 17 rfl rfl) rfl (lv_at hl 2 rfl) ?_
    refine zald (ci := 3) (k := 2) hx hb hK rfl hZ g2.1 g2.2 rfl (Nat.le_of_ble_eq_true rfl) g3.1 g3.2 (D_46 W_prog_13_method_6_code_160 18 rfl rfl) ?_
    obtain ⟨g23, hf⟩ := gif hf
    refine zald (ci := 3) (k := 4) hx hb hK rfl hZ g2.1 g2.2 rfl (Nat.le_of_ble_eq_true rfl) g23.1 g23.2 (D_46 W_prog_13_method_6_code_160 19 rfl rfl) ?_
    refine lv_iload_n hx hb (D_28 W_prog_13_method_6_code_160 20 rfl rfl) rfl (lv_at hl 3 rfl) ?_
    refine lv_iconst (v := iI 1) hx hb (D_4 W_prog_13_method_6_code_160 21 rfl rfl) rfl ?_
    refine zadd hx hb (D_96 W_prog_13_method_6_code_160 22 rfl rfl) ?_
    obtain ⟨r24, F24, B24, hc24, hf⟩ := gbind hf
    refine va_callv (va_runV (As := [.int (iI (B 3 (F 11 l0 0) 4 (B 3 (F 11 l0 0) 2 l1))), .int (iI (l2 + 1))]) (rest := []) ⟨hx, hb, hml, hown, hts⟩ (ho.1 hc24) (cwV 2 hts (gdV k_4_196 k_4_198 ks_34 k_1_6 k_4_199) rfl rfl rfl (by decide +kernel) ⟨by dsimp only; omega, by dsimp only; omega⟩) (zPV X hZ hS (ci := 11) g1.1 g1.2 (r := (RX11, TX11, 19)) rfl [.int (iI (B 3 (F 11 l0 0) 4 (B 3 (F 11 l0 0) 2 l1))), .int (iI (l2 + 1))]) rfl rfl hl.1 rfl (lv_room (Nat.le_of_ble_eq_true rfl)) (D_182 W_prog_13_method_6_code_160 23 rfl rfl rfl) ⟨Nat.le_of_ble_eq_true rfl, Nat.le_of_ble_eq_true rfl⟩) hS (fun q _ h => zAin X hS q h) (zAin X hS) (fun u24 t24 H24 locs24 ht24 hv24 hw24 hB24 hz24 hk24 hS24 => ?_)
    have hZ24 := zBack X ht24 hB24
    refine lv_goto (tgt := 285) hx hb (D_167 W_prog_13_method_6_code_160 26 rfl rfl rfl) (by decide) ?_
    exact b_Walker_goItem_285 X ho hf hZ24 hS24 (lv_sub hl [] rfl)
  replace hf := gneg hf h22
  by_cases h25 : (B 3 (F 11 l0 0) 0 l1) = 6
  · replace hf := gpos hf h25
    refine lv_tableIn (off := 170) (tgt := 189) hx hb d_13_6_19 (by rw [iI_to g4, h25]; decide) (by rw [iI_to g4, h25]; decide) (by rw [iI_to g4, h25]; rfl) (by decide) ?_
    refine lv_aload_n hx hb (D_42 W_prog_13_method_6_code_160 29 rfl rfl) rfl (lv_at hl 1 rfl) ?_
    refine lv_iconst (v := iI 1) hx hb (D_4 W_prog_13_method_6_code_160 30 rfl rfl) rfl ?_
    refine lv_iload_n hx hb (D_27 W_prog_13_method_6_code_160 31 rfl rfl) rfl (lv_at hl 2 rfl) ?_
    refine lv_iload_n hx hb (D_28 W_prog_13_method_6_code_192 0 rfl rfl) rfl (lv_at hl 3 rfl) ?_
    obtain ⟨r26, F26, B26, hc26, hf⟩ := gbind hf
    refine va_callv (va_runV (As := [.int (iI 1), .int (iI l1), .int (iI l2)]) (rest := []) ⟨hx, hb, hml, hown, hts⟩ (ho.2.2.2.2.1 hc26) (cwV 3 hts (gdV k_5_3 k_5_5 ks_43 k_1_6 k_5_6) rfl rfl rfl (by decide +kernel) ⟨by dsimp only; omega, by dsimp only; omega⟩) (zPV X hZ hS (ci := 11) g1.1 g1.2 (r := (RX11, TX11, 19)) rfl [.int (iI 1), .int (iI l1), .int (iI l2)]) rfl rfl hl.1 rfl (lv_room (Nat.le_of_ble_eq_true rfl)) (D_182 W_prog_13_method_6_code_192 1 rfl rfl rfl) ⟨Nat.le_of_ble_eq_true rfl, Nat.le_of_ble_eq_true rfl⟩) hS (fun q _ h => zAin X hS q h) (zAin X hS) (fun u26 t26 H26 locs26 ht26 hv26 hw26 hB26 hz26 hk26 hS26 => ?_)
    have hZ26 := zBack X ht26 hB26
    refine lv_goto (tgt := 285) hx hb (D_167 W_prog_13_method_6_code_192 4 rfl rfl rfl) (by decide) ?_
    exact b_Walker_goItem_285 X ho hf hZ26 hS26 (lv_sub hl [] rfl)
  replace hf := gneg hf h25
  by_cases h27 : (B 3 (F 11 l0 0) 0 l1) = 7
  · replace hf := gpos hf h27
    refine lv_tableIn (off := 180) (tgt := 199) hx hb d_13_6_19 (by rw [iI_to g4, h27]; decide) (by rw [iI_to g4, h27]; decide) (by rw [iI_to g4, h27]; rfl) (by decide) ?_
    refine lv_aload_n hx hb (D_42 W_prog_13_method_6_code_192 7 rfl rfl) rfl (lv_at hl 1 rfl) ?_
    refine lv_iconst (v := iI (-1)) hx hb (D_2 W_prog_13_method_6_code_192 8 rfl rfl) rfl ?_
    refine lv_iload_n hx hb (D_27 W_prog_13_method_6_code_192 9 rfl rfl) rfl (lv_at hl 2 rfl) ?_
    refine lv_iload_n hx hb (D_28 W_prog_13_method_6_code_192 10 rfl rfl) rfl (lv_at hl 3 rfl) ?_
    obtain ⟨r28, F28, B28, hc28, hf⟩ := gbind hf
    refine va_callv (va_runV (As := [.int (iI (-1)), .int (iI l1), .int (iI l2)]) (rest := []) ⟨hx, hb, hml, hown, hts⟩ (ho.2.2.2.2.1 hc28) (cwV 3 hts (gdV k_5_3 k_5_5 ks_43 k_1_6 k_5_6) rfl rfl rfl (by decide +kernel) ⟨by dsimp only; omega, by dsimp only; omega⟩) (zPV X hZ hS (ci := 11) g1.1 g1.2 (r := (RX11, TX11, 19)) rfl [.int (iI (-1)), .int (iI l1), .int (iI l2)]) rfl rfl hl.1 rfl (lv_room (Nat.le_of_ble_eq_true rfl)) (D_182 W_prog_13_method_6_code_192 11 rfl rfl rfl) ⟨Nat.le_of_ble_eq_true rfl, Nat.le_of_ble_eq_true rfl⟩) hS (fun q _ h => zAin X hS q h) (zAin X hS) (fun u28 t28 H28 locs28 ht28 hv28 hw28 hB28 hz28 hk28 hS28 => ?_)
    have hZ28 := zBack X ht28 hB28
    refine lv_goto (tgt := 285) hx hb (D_167 W_prog_13_method_6_code_192 14 rfl rfl rfl) (by decide) ?_
    exact b_Walker_goItem_285 X ho hf hZ28 hS28 (lv_sub hl [] rfl)
  replace hf := gneg hf h27
  by_cases h29 : (B 3 (F 11 l0 0) 0 l1) = 8
  · replace hf := gpos hf h29
    refine lv_tableIn (off := 190) (tgt := 209) hx hb d_13_6_19 (by rw [iI_to g4, h29]; decide) (by rw [iI_to g4, h29]; decide) (by rw [iI_to g4, h29]; rfl) (by decide) ?_
    refine lv_aload_n hx hb (D_42 W_prog_13_method_6_code_192 17 rfl rfl) rfl (lv_at hl 1 rfl) ?_
    refine lv_iload_n hx hb (D_29 W_prog_13_method_6_code_192 18 rfl rfl) rfl (lv_at hl 0 rfl) ?_
    refine lv_iload_n hx hb (D_28 W_prog_13_method_6_code_192 19 rfl rfl) rfl (lv_at hl 3 rfl) ?_
    obtain ⟨r30, F30, B30, hc30, hf⟩ := gbind hf
    refine va_callv (va_runV (As := [.int (iI (B 3 (F 11 l0 0) 4 l1)), .int (iI l2)]) (rest := []) ⟨hx, hb, hml, hown, hts⟩ (ho.2.2.2.2.2 hc30) (cwV 2 hts (gdV k_5_7 k_5_9 ks_44 k_1_6 k_5_10) rfl rfl rfl (by decide +kernel) ⟨by dsimp only; omega, by dsimp only; omega⟩) (zPV X hZ hS (ci := 11) g1.1 g1.2 (r := (RX11, TX11, 19)) rfl [.int (iI (B 3 (F 11 l0 0) 4 l1)), .int (iI l2)]) rfl rfl hl.1 rfl (lv_room (Nat.le_of_ble_eq_true rfl)) (D_182 W_prog_13_method_6_code_192 20 rfl rfl rfl) ⟨Nat.le_of_ble_eq_true rfl, Nat.le_of_ble_eq_true rfl⟩) hS (fun q _ h => zAin X hS q h) (zAin X hS) (fun u30 t30 H30 locs30 ht30 hv30 hw30 hB30 hz30 hk30 hS30 => ?_)
    have hZ30 := zBack X ht30 hB30
    refine lv_goto (tgt := 285) hx hb (D_167 W_prog_13_method_6_code_192 23 rfl rfl rfl) (by decide) ?_
    exact b_Walker_goItem_285 X ho hf hZ30 hS30 (lv_sub hl [] rfl)
  replace hf := gneg hf h29
  by_cases h31 : (B 3 (F 11 l0 0) 0 l1) = 9
  · replace hf := gpos hf h31
    refine lv_tableIn (off := 199) (tgt := 218) hx hb d_13_6_19 (by rw [iI_to g4, h31]; decide) (by rw [iI_to g4, h31]; decide) (by rw [iI_to g4, h31]; rfl) (by decide) ?_
    refine lv_aload_n hx hb (D_42 W_prog_13_method_6_code_192 26 rfl rfl) rfl (lv_at hl 1 rfl) ?_
    refine lv_aload_n hx hb (D_42 W_prog_13_method_6_code_192 27 rfl rfl) rfl (lv_at hl 1 rfl) ?_
    refine zget (ci := 11) (C := RX11) (T := TX11) (v := va_rf (zrf ad 3 (F 11 l0 0))) (k := 0) hx hb hts inW_11 hown hK hZ g1.1 g1.2 rfl (by decide) k_1_190 rfl (D_180 W_prog_13_method_6_code_192 28 rfl rfl rfl) ?_
    refine zunrf g2.1 ?_
    refine zget (ci := 3) (C := RX3) (T := TX3) (v := .ref (ad 3 (F 11 l0 0) (2 + 1))) (k := 2) hx hb hts inW_3 hown hK hZ g2.1 g2.2 rfl (by decide) k_1_111 rfl (D_180 W_prog_13_method_6_code_192 31 rfl rfl rfl) ?_
    refine lv_iload_n hx hb (D_27 W_prog_13_method_6_code_224 2 rfl rfl) rfl (lv_at hl 2 rfl) ?_
    refine zald (ci := 3) (k := 2) hx hb hK rfl hZ g2.1 g2.2 rfl (Nat.le_of_ble_eq_true rfl) g3.1 g3.2 (D_46 W_prog_13_method_6_code_224 3 rfl rfl) ?_
    refine lv_iconst (v := iI 1) hx hb (D_4 W_prog_13_method_6_code_224 4 rfl rfl) rfl ?_
    obtain ⟨r33, F33, B33, hc33, hf⟩ := gbind hf
    refine va_callv (va_runV (As := [.int (iI (B 3 (F 11 l0 0) 2 l1)), .int (iI 1)]) (rest := []) ⟨hx, hb, hml, hown, hts⟩ (c_Walker_multiplySlow (l := l) hc33) (cwV 2 hts (gdV k_5_19 k_5_21 ks_45 k_1_6 k_5_22) rfl rfl rfl (by decide +kernel) ⟨by dsimp only; omega, by dsimp only; omega⟩) (zPV X hZ hS (ci := 11) g1.1 g1.2 (r := (RX11, TX11, 19)) rfl [.int (iI (B 3 (F 11 l0 0) 2 l1)), .int (iI 1)]) rfl rfl hl.1 rfl (lv_room (Nat.le_of_ble_eq_true rfl)) (D_182 W_prog_13_method_6_code_224 5 rfl rfl rfl) ⟨Nat.le_of_ble_eq_true rfl, Nat.le_of_ble_eq_true rfl⟩) hS (fun q _ h => zAin X hS q h) (zAin X hS) (fun u33 t33 H33 locs33 ht33 hv33 hw33 hB33 hz33 hk33 hS33 => ?_)
    have hZ33 := zBack X ht33 hB33
    refine lv_aload_n hx hb (D_42 W_prog_13_method_6_code_224 8 rfl rfl) rfl (lv_at hl 1 rfl) ?_
    refine lv_aload_n hx hb (D_42 W_prog_13_method_6_code_224 9 rfl rfl) rfl (lv_at hl 1 rfl) ?_
    refine zget (ci := 11) (C := RX11) (T := TX11) (v := va_rf (zrf ad 3 (F33 11 l0 0))) (k := 0) hx hb hts inW_11 hown hK hZ33 g1.1 g1.2 rfl (by decide) k_1_190 rfl (D_180 W_prog_13_method_6_code_224 10 rfl rfl rfl) ?_
    obtain ⟨g34, hf⟩ := gif hf
    refine zunrf g34.1 ?_
    refine zget (ci := 3) (C := RX3) (T := TX3) (v := .ref (ad 3 (F33 11 l0 0) (3 + 1))) (k := 3) hx hb hts inW_3 hown hK hZ33 g34.1 g34.2 rfl (by decide) k_1_113 rfl (D_180 W_prog_13_method_6_code_224 13 rfl rfl rfl) ?_
    refine lv_iload_n hx hb (D_27 W_prog_13_method_6_code_224 16 rfl rfl) rfl (lv_at hl 2 rfl) ?_
    refine zald (ci := 3) (k := 3) hx hb hK rfl hZ33 g34.1 g34.2 rfl (Nat.le_of_ble_eq_true rfl) g3.1 g3.2 (D_46 W_prog_13_method_6_code_224 17 rfl rfl) ?_
    refine lv_iconst (v := iI (-1)) hx hb (D_2 W_prog_13_method_6_code_224 18 rfl rfl) rfl ?_
    obtain ⟨r35, F35, B35, hc35, hf⟩ := gbind hf
    refine va_callv (va_runV (As := [.int (iI (B33 3 (F33 11 l0 0) 3 l1)), .int (iI (-1))]) (rest := []) ⟨hx, hb, hml, hown, hts⟩ (c_Walker_multiplySlow (l := l) hc35) (cwV 2 hts (gdV k_5_19 k_5_21 ks_45 k_1_6 k_5_22) rfl rfl rfl (by decide +kernel) ⟨by dsimp only; omega, by dsimp only; omega⟩) (zPV X hZ33 hS33 (ci := 11) g1.1 g1.2 (r := (RX11, TX11, 19)) rfl [.int (iI (B33 3 (F33 11 l0 0) 3 l1)), .int (iI (-1))]) rfl rfl hl.1 rfl (lv_room (Nat.le_of_ble_eq_true rfl)) (D_182 W_prog_13_method_6_code_224 19 rfl rfl rfl) ⟨Nat.le_of_ble_eq_true rfl, Nat.le_of_ble_eq_true rfl⟩) hS33 (fun q _ h => zAin X hS33 q h) (zAin X hS33) (fun u35 t35 H35 locs35 ht35 hv35 hw35 hB35 hz35 hk35 hS35 => ?_)
    have hZ35 := zBack X ht35 hB35
    refine lv_aload_n hx hb (D_42 W_prog_13_method_6_code_224 22 rfl rfl) rfl (lv_at hl 1 rfl) ?_
    refine lv_iload_n hx hb (D_29 W_prog_13_method_6_code_224 23 rfl rfl) rfl (lv_at hl 0 rfl) ?_
    refine lv_iload_n hx hb (D_28 W_prog_13_method_6_code_224 24 rfl rfl) rfl (lv_at hl 3 rfl) ?_
    refine lv_iconst (v := iI 1) hx hb (D_4 W_prog_13_method_6_code_224 25 rfl rfl) rfl ?_
    refine zadd hx hb (D_96 W_prog_13_method_6_code_224 26 rfl rfl) ?_
    obtain ⟨r36, F36, B36, hc36, hf⟩ := gbind hf
    refine va_callv (va_runV (As := [.int (iI (B 3 (F 11 l0 0) 4 l1)), .int (iI (l2 + 1))]) (rest := []) ⟨hx, hb, hml, hown, hts⟩ (ho.1 hc36) (cwV 2 hts (gdV k_4_196 k_4_198 ks_34 k_1_6 k_4_199) rfl rfl rfl (by decide +kernel) ⟨by dsimp only; omega, by dsimp only; omega⟩) (zPV X hZ35 hS35 (ci := 11) g1.1 g1.2 (r := (RX11, TX11, 19)) rfl [.int (iI (B 3 (F 11 l0 0) 4 l1)), .int (iI (l2 + 1))]) rfl rfl hl.1 rfl (lv_room (Nat.le_of_ble_eq_true rfl)) (D_182 W_prog_13_method_6_code_224 27 rfl rfl rfl) ⟨Nat.le_of_ble_eq_true rfl, Nat.le_of_ble_eq_true rfl⟩) hS35 (fun q _ h => zAin X hS35 q h) (zAin X hS35) (fun u36 t36 H36 locs36 ht36 hv36 hw36 hB36 hz36 hk36 hS36 => ?_)
    have hZ36 := zBack X ht36 hB36
    refine lv_aload_n hx hb (D_42 W_prog_13_method_6_code_224 30 rfl rfl) rfl (lv_at hl 1 rfl) ?_
    refine lv_aload_n hx hb (D_42 W_prog_13_method_6_code_224 31 rfl rfl) rfl (lv_at hl 1 rfl) ?_
    refine zget (ci := 11) (C := RX11) (T := TX11) (v := va_rf (zrf ad 3 (F36 11 l0 0))) (k := 0) hx hb hts inW_11 hown hK hZ36 g1.1 g1.2 rfl (by decide) k_1_190 rfl (D_180 W_prog_13_method_6_code_256 0 rfl rfl rfl) ?_
    obtain ⟨g37, hf⟩ := gif hf
    refine zunrf g37.1 ?_
    refine zget (ci := 3) (C := RX3) (T := TX3) (v := .ref (ad 3 (F36 11 l0 0) (2 + 1))) (k := 2) hx hb hts inW_3 hown hK hZ36 g37.1 g37.2 rfl (by decide) k_1_111 rfl (D_180 W_prog_13_method_6_code_256 3 rfl rfl rfl) ?_
    refine lv_iload_n hx hb (D_27 W_prog_13_method_6_code_256 6 rfl rfl) rfl (lv_at hl 2 rfl) ?_
    refine zald (ci := 3) (k := 2) hx hb hK rfl hZ36 g37.1 g37.2 rfl (Nat.le_of_ble_eq_true rfl) g3.1 g3.2 (D_46 W_prog_13_method_6_code_256 7 rfl rfl) ?_
    refine lv_iconst (v := iI (-1)) hx hb (D_2 W_prog_13_method_6_code_256 8 rfl rfl) rfl ?_
    obtain ⟨r38, F38, B38, hc38, hf⟩ := gbind hf
    refine va_callv (va_runV (As := [.int (iI (B36 3 (F36 11 l0 0) 2 l1)), .int (iI (-1))]) (rest := []) ⟨hx, hb, hml, hown, hts⟩ (c_Walker_multiplySlow (l := l) hc38) (cwV 2 hts (gdV k_5_19 k_5_21 ks_45 k_1_6 k_5_22) rfl rfl rfl (by decide +kernel) ⟨by dsimp only; omega, by dsimp only; omega⟩) (zPV X hZ36 hS36 (ci := 11) g1.1 g1.2 (r := (RX11, TX11, 19)) rfl [.int (iI (B36 3 (F36 11 l0 0) 2 l1)), .int (iI (-1))]) rfl rfl hl.1 rfl (lv_room (Nat.le_of_ble_eq_true rfl)) (D_182 W_prog_13_method_6_code_256 9 rfl rfl rfl) ⟨Nat.le_of_ble_eq_true rfl, Nat.le_of_ble_eq_true rfl⟩) hS36 (fun q _ h => zAin X hS36 q h) (zAin X hS36) (fun u38 t38 H38 locs38 ht38 hv38 hw38 hB38 hz38 hk38 hS38 => ?_)
    have hZ38 := zBack X ht38 hB38
    refine lv_aload_n hx hb (D_42 W_prog_13_method_6_code_256 12 rfl rfl) rfl (lv_at hl 1 rfl) ?_
    refine lv_aload_n hx hb (D_42 W_prog_13_method_6_code_256 13 rfl rfl) rfl (lv_at hl 1 rfl) ?_
    refine zget (ci := 11) (C := RX11) (T := TX11) (v := va_rf (zrf ad 3 (F38 11 l0 0))) (k := 0) hx hb hts inW_11 hown hK hZ38 g1.1 g1.2 rfl (by decide) k_1_190 rfl (D_180 W_prog_13_method_6_code_256 14 rfl rfl rfl) ?_
    obtain ⟨g39, hf⟩ := gif hf
    refine zunrf g39.1 ?_
    refine zget (ci := 3) (C := RX3) (T := TX3) (v := .ref (ad 3 (F38 11 l0 0) (3 + 1))) (k := 3) hx hb hts inW_3 hown hK hZ38 g39.1 g39.2 rfl (by decide) k_1_113 rfl (D_180 W_prog_13_method_6_code_256 17 rfl rfl rfl) ?_
    refine lv_iload_n hx hb (D_27 W_prog_13_method_6_code_256 20 rfl rfl) rfl (lv_at hl 2 rfl) ?_
    refine zald (ci := 3) (k := 3) hx hb hK rfl hZ38 g39.1 g39.2 rfl (Nat.le_of_ble_eq_true rfl) g3.1 g3.2 (D_46 W_prog_13_method_6_code_256 21 rfl rfl) ?_
    refine lv_iconst (v := iI 1) hx hb (D_4 W_prog_13_method_6_code_256 22 rfl rfl) rfl ?_
    obtain ⟨r40, F40, B40, hc40, hf⟩ := gbind hf
    refine va_callv (va_runV (As := [.int (iI (B38 3 (F38 11 l0 0) 3 l1)), .int (iI 1)]) (rest := []) ⟨hx, hb, hml, hown, hts⟩ (c_Walker_multiplySlow (l := l) hc40) (cwV 2 hts (gdV k_5_19 k_5_21 ks_45 k_1_6 k_5_22) rfl rfl rfl (by decide +kernel) ⟨by dsimp only; omega, by dsimp only; omega⟩) (zPV X hZ38 hS38 (ci := 11) g1.1 g1.2 (r := (RX11, TX11, 19)) rfl [.int (iI (B38 3 (F38 11 l0 0) 3 l1)), .int (iI 1)]) rfl rfl hl.1 rfl (lv_room (Nat.le_of_ble_eq_true rfl)) (D_182 W_prog_13_method_6_code_256 23 rfl rfl rfl) ⟨Nat.le_of_ble_eq_true rfl, Nat.le_of_ble_eq_true rfl⟩) hS38 (fun q _ h => zAin X hS38 q h) (zAin X hS38) (fun u40 t40 H40 locs40 ht40 hv40 hw40 hB40 hz40 hk40 hS40 => ?_)
    have hZ40 := zBack X ht40 hB40
    refine lv_goto (tgt := 285) hx hb (D_167 W_prog_13_method_6_code_256 26 rfl rfl rfl) (by decide) ?_
    exact b_Walker_goItem_285 X ho hf hZ40 hS40 (lv_sub hl [] rfl)
  replace hf := gneg hf h31
  refine lv_tableOut (tgt := 285) hx hb d_13_6_19 (by rw [iI_to g4]; omega) (by decide) ?_
  exact b_Walker_goItem_285 X ho hf hZ hS (lv_sub hl [] rfl)

def f_Walker_goBracket_95 (o : oT_CW) (K : zK) (l4 : Int) (l3 : Int) (l0 : Int) (l1 : Int) (l2 : Int) (F : zF) (B : zB) : zO := if 0 ≤ l0 ∧ l0 < K.2 11 then if 0 ≤ (F 11 l0 0) ∧ (F 11 l0 0) < K.2 3 then if 0 ≤ l1 ∧ l1 < 3000 then zbind (o.1 l0 (B 3 (F 11 l0 0) 4 l1) (l2 + 1) F B) (fun r19 F19 B19 => some (0, (zup3 (zup3 (zup3 F19 11 l0 6 ((F19 11 l0 6) - 1)) 11 l0 9 l3) 11 l0 10 l4), B19)) else none else none else none
set_option maxHeartbeats 4000000 in
set_option maxRecDepth 100000 in
theorem b_Walker_goBracket_95 {D : va_G} {ca : Nat → ClassId} {ad : Nat → Int → Nat → Nat} {L : List Nat} {aS vS : Nat → Nat} {A : Nat → Prop} {p : Program} {l : Launch} {e : Env} {s : State} {m : MethodId} {args : Array Value} {below : List Frame} {meth : Method} {c : Code} {K : zK} {r : Int} {F9 : zF} {B9 : zB} {d : Nat} {o : oT_CW} (X : zX D ca L aS vS A p s m args meth c prog_13_method_7_code 5 (Option.none : Option Jvm.ClassFile.FieldType) "StaveHouse$Walker") (ho : oH_CW K l D ca ad L aS vS d o) {l4 : Int} {l3 : Int} {l0 : Int} {l1 : Int} {l2 : Int} {F : zF} {B : zB} {H : Heap} {locs : List Loc} {ls : Array Slot} (hf : f_Walker_goBracket_95 o K l4 l3 l0 l1 l2 F B = some (r, F9, B9)) (hZ : zH D ca ad lnC K.2 L F B A H) (hS : va_S A s.heap H locs) (hl : lv_has ls 5 [(4, .int (iI l4)), (3, .int (iI l3)), (0, .ref (ad 11 l0 0)), (1, .int (iI l1)), (2, .int (iI l2))]) : W p l e ({ frames := d + 1 + 5, cells := 0, slots := 0, locals := 25 * (d + 1) + 95 } : Room) s m args below meth c H locs 0 0 (MQ below (Q_Walker_goBracket K D ca ad L r F9 B9 A) args s 0 0 A) (F0 m 95 ls []) := by
  obtain ⟨hx, hb, hr, hml, hown, hts, hlk, hK, hA, hL, hX⟩ := id X
  replace hf : (if 0 ≤ l0 ∧ l0 < K.2 11 then if 0 ≤ (F 11 l0 0) ∧ (F 11 l0 0) < K.2 3 then if 0 ≤ l1 ∧ l1 < 3000 then zbind (o.1 l0 (B 3 (F 11 l0 0) 4 l1) (l2 + 1) F B) (fun r19 F19 B19 => some (0, (zup3 (zup3 (zup3 F19 11 l0 6 ((F19 11 l0 6) - 1)) 11 l0 9 l3) 11 l0 10 l4), B19)) else none else none else none) = some (r, F9, B9) := hf
  refine lv_aload_n hx hb (D_42 W_prog_13_method_7_code_64 31 rfl rfl) rfl (lv_at hl 2 rfl) ?_
  refine lv_aload_n hx hb (D_42 W_prog_13_method_7_code_96 0 rfl rfl) rfl (lv_at hl 2 rfl) ?_
  obtain ⟨g16, hf⟩ := gif hf
  refine zget (ci := 11) (C := RX11) (T := TX11) (v := va_rf (zrf ad 3 (F 11 l0 0))) (k := 0) hx hb hts inW_11 hown hK hZ g16.1 g16.2 rfl (by decide) k_1_190 rfl (D_180 W_prog_13_method_7_code_96 1 rfl rfl rfl) ?_
  obtain ⟨g17, hf⟩ := gif hf
  refine zunrf g17.1 ?_
  refine zget (ci := 3) (C := RX3) (T := TX3) (v := .ref (ad 3 (F 11 l0 0) (4 + 1))) (k := 4) hx hb hts inW_3 hown hK hZ g17.1 g17.2 rfl (by decide) k_1_115 rfl (D_180 W_prog_13_method_7_code_96 4 rfl rfl rfl) ?_
  refine lv_iload_n hx hb (D_27 W_prog_13_method_7_code_96 7 rfl rfl) rfl (lv_at hl 3 rfl) ?_
  obtain ⟨g18, hf⟩ := gif hf
  refine zald (ci := 3) (k := 4) hx hb hK rfl hZ g17.1 g17.2 rfl (Nat.le_of_ble_eq_true rfl) g18.1 g18.2 (D_46 W_prog_13_method_7_code_96 8 rfl rfl) ?_
  refine lv_iload_n hx hb (D_28 W_prog_13_method_7_code_96 9 rfl rfl) rfl (lv_at hl 4 rfl) ?_
  refine lv_iconst (v := iI 1) hx hb (D_4 W_prog_13_method_7_code_96 10 rfl rfl) rfl ?_
  refine zadd hx hb (D_96 W_prog_13_method_7_code_96 11 rfl rfl) ?_
  obtain ⟨r19, F19, B19, hc19, hf⟩ := gbind hf
  refine va_callv (va_runV (As := [.int (iI (B 3 (F 11 l0 0) 4 l1)), .int (iI (l2 + 1))]) (rest := []) ⟨hx, hb, hml, hown, hts⟩ (ho.1 hc19) (cwV 2 hts (gdV k_4_196 k_4_198 ks_34 k_1_6 k_4_199) rfl rfl rfl (by decide +kernel) ⟨by dsimp only; omega, by dsimp only; omega⟩) (zPV X hZ hS (ci := 11) g16.1 g16.2 (r := (RX11, TX11, 19)) rfl [.int (iI (B 3 (F 11 l0 0) 4 l1)), .int (iI (l2 + 1))]) rfl rfl hl.1 rfl (lv_room (Nat.le_of_ble_eq_true rfl)) (D_182 W_prog_13_method_7_code_96 12 rfl rfl rfl) ⟨Nat.le_of_ble_eq_true rfl, Nat.le_of_ble_eq_true rfl⟩) hS (fun q _ h => zAin X hS q h) (zAin X hS) (fun u19 t19 H19 locs19 ht19 hv19 hw19 hB19 hz19 hk19 hS19 => ?_)
  have hZ19 := zBack X ht19 hB19
  refine lv_aload_n hx hb (D_42 W_prog_13_method_7_code_96 15 rfl rfl) rfl (lv_at hl 2 rfl) ?_
  refine lv_dup hx hb (D_89 W_prog_13_method_7_code_96 16 rfl rfl) rfl ?_
  refine zget (ci := 11) (C := RX11) (T := TX11) (v := .int (iI (F19 11 l0 6))) (k := 6) hx hb hts inW_11 hown hK hZ19 g16.1 g16.2 rfl (by decide) k_1_196 rfl (D_180 W_prog_13_method_7_code_96 17 rfl rfl rfl) ?_
  refine lv_iconst (v := iI 1) hx hb (D_4 W_prog_13_method_7_code_96 20 rfl rfl) rfl ?_
  refine zsub hx hb (D_100 W_prog_13_method_7_code_96 21 rfl rfl) ?_
  refine zput (ci := 11) (C := RX11) (T := TX11) (k := 6) (v := ((F19 11 l0 6) - 1)) (w := .int (iI ((F19 11 l0 6) - 1))) hx hb hts inW_11 tyX11 tyX11_ok nmX11 hown hK hZ19 hS19 g16.1 g16.2 rfl (by decide) k_1_196 rfl (fun G h => congrArg (fun q => Value.int (iI q)) h) rfl rfl (zno (by decide)) (D_181 W_prog_13_method_7_code_96 22 rfl rfl rfl) (fun H20 locs20 hZ20 hS20 => ?_)
  refine lv_aload_n hx hb (D_42 W_prog_13_method_7_code_96 25 rfl rfl) rfl (lv_at hl 2 rfl) ?_
  refine lv_iload_n hx hb (D_29 W_prog_13_method_7_code_96 26 rfl rfl) rfl (lv_at hl 1 rfl) ?_
  refine zput (ci := 11) (C := RX11) (T := TX11) (k := 9) (v := l3) (w := .int (iI l3)) hx hb hts inW_11 tyX11 tyX11_ok nmX11 hown hK hZ20 hS20 g16.1 g16.2 rfl (by decide) k_1_199 rfl (fun G h => congrArg (fun q => Value.int (iI q)) h) rfl rfl (zno (by decide)) (D_181 W_prog_13_method_7_code_96 27 rfl rfl rfl) (fun H21 locs21 hZ21 hS21 => ?_)
  refine lv_aload_n hx hb (D_42 W_prog_13_method_7_code_96 30 rfl rfl) rfl (lv_at hl 2 rfl) ?_
  refine lv_iload hx hb (D_21 W_prog_13_method_7_code_96 31 rfl rfl) (lv_at hl 0 rfl) ?_
  refine zput (ci := 11) (C := RX11) (T := TX11) (k := 10) (v := l4) (w := .int (iI l4)) hx hb hts inW_11 tyX11 tyX11_ok nmX11 hown hK hZ21 hS21 g16.1 g16.2 rfl (by decide) k_1_200 rfl (fun G h => congrArg (fun q => Value.int (iI q)) h) rfl rfl (zno (by decide)) (D_181 W_prog_13_method_7_code_128 1 rfl rfl rfl) (fun H22 locs22 hZ22 hS22 => ?_)
  cases hf
  exact W.vret hx hb hr (fun t ht hW => ⟨⟨(), rfl, trivial, by rw [ht]; exact hZ22, va_K.moved hW.alike hK⟩, hS22.F ht⟩) hS22.2.2 (D_177 W_prog_13_method_7_code_128 4 rfl rfl) hlk

def f_Walker_goBracket_41 (o : oT_CW) (K : zK) (l4 : Int) (l3 : Int) (l0 : Int) (l1 : Int) (l2 : Int) (F : zF) (B : zB) : zO := if 0 ≤ l0 ∧ l0 < K.2 11 then if r32 ((F 11 l0 6) + 1) then (if 2 < ((F 11 l0 6) + 1) then f_Walker_goBracket_95 o K l4 l3 l0 l1 l2 (zup3 F 11 l0 6 ((F 11 l0 6) + 1)) B else if 0 ≤ (F 11 l0 0) ∧ (F 11 l0 0) < K.2 3 then if 0 ≤ l1 ∧ l1 < 3000 then f_Walker_goBracket_95 o K l4 l3 l0 l1 l2 (zup3 (zup3 (zup3 F 11 l0 6 ((F 11 l0 6) + 1)) 11 l0 9 ((F 11 l0 9) * (B 3 (F 11 l0 0) 2 l1))) 11 l0 10 ((F 11 l0 10) * (B 3 (F 11 l0 0) 3 l1))) B else none else none) else none else none
set_option maxHeartbeats 4000000 in
set_option maxRecDepth 100000 in
theorem b_Walker_goBracket_41 {D : va_G} {ca : Nat → ClassId} {ad : Nat → Int → Nat → Nat} {L : List Nat} {aS vS : Nat → Nat} {A : Nat → Prop} {p : Program} {l : Launch} {e : Env} {s : State} {m : MethodId} {args : Array Value} {below : List Frame} {meth : Method} {c : Code} {K : zK} {r : Int} {F9 : zF} {B9 : zB} {d : Nat} {o : oT_CW} (X : zX D ca L aS vS A p s m args meth c prog_13_method_7_code 5 (Option.none : Option Jvm.ClassFile.FieldType) "StaveHouse$Walker") (ho : oH_CW K l D ca ad L aS vS d o) {l4 : Int} {l3 : Int} {l0 : Int} {l1 : Int} {l2 : Int} {F : zF} {B : zB} {H : Heap} {locs : List Loc} {ls : Array Slot} (hf : f_Walker_goBracket_41 o K l4 l3 l0 l1 l2 F B = some (r, F9, B9)) (hZ : zH D ca ad lnC K.2 L F B A H) (hS : va_S A s.heap H locs) (hl : lv_has ls 5 [(4, .int (iI l4)), (3, .int (iI l3)), (0, .ref (ad 11 l0 0)), (1, .int (iI l1)), (2, .int (iI l2))]) : W p l e ({ frames := d + 1 + 5, cells := 0, slots := 0, locals := 25 * (d + 1) + 95 } : Room) s m args below meth c H locs 0 0 (MQ below (Q_Walker_goBracket K D ca ad L r F9 B9 A) args s 0 0 A) (F0 m 41 ls []) := by
  obtain ⟨hx, hb, hr, hml, hown, hts, hlk, hK, hA, hL, hX⟩ := id X
  replace hf : (if 0 ≤ l0 ∧ l0 < K.2 11 then if r32 ((F 11 l0 6) + 1) then (if 2 < ((F 11 l0 6) + 1) then f_Walker_goBracket_95 o K l4 l3 l0 l1 l2 (zup3 F 11 l0 6 ((F 11 l0 6) + 1)) B else if 0 ≤ (F 11 l0 0) ∧ (F 11 l0 0) < K.2 3 then if 0 ≤ l1 ∧ l1 < 3000 then f_Walker_goBracket_95 o K l4 l3 l0 l1 l2 (zup3 (zup3 (zup3 F 11 l0 6 ((F 11 l0 6) + 1)) 11 l0 9 ((F 11 l0 9) * (B 3 (F 11 l0 0) 2 l1))) 11 l0 10 ((F 11 l0 10) * (B 3 (F 11 l0 0) 3 l1))) B else none else none) else none else none) = some (r, F9, B9) := hf
  refine lv_aload_n hx hb (D_42 W_prog_13_method_7_code_32 9 rfl rfl) rfl (lv_at hl 2 rfl) ?_
  refine lv_dup hx hb (D_89 W_prog_13_method_7_code_32 10 rfl rfl) rfl ?_
  obtain ⟨g8, hf⟩ := gif hf
  refine zget (ci := 11) (C := RX11) (T := TX11) (v := .int (iI (F 11 l0 6))) (k := 6) hx hb hts inW_11 hown hK hZ g8.1 g8.2 rfl (by decide) k_1_196 rfl (D_180 W_prog_13_method_7_code_32 11 rfl rfl rfl) ?_
  refine lv_iconst (v := iI 1) hx hb (D_4 W_prog_13_method_7_code_32 14 rfl rfl) rfl ?_
  refine zadd hx hb (D_96 W_prog_13_method_7_code_32 15 rfl rfl) ?_
  refine zput (ci := 11) (C := RX11) (T := TX11) (k := 6) (v := ((F 11 l0 6) + 1)) (w := .int (iI ((F 11 l0 6) + 1))) hx hb hts inW_11 tyX11 tyX11_ok nmX11 hown hK hZ hS g8.1 g8.2 rfl (by decide) k_1_196 rfl (fun G h => congrArg (fun q => Value.int (iI q)) h) rfl rfl (zno (by decide)) (D_181 W_prog_13_method_7_code_32 16 rfl rfl rfl) (fun H9 locs9 hZ9 hS9 => ?_)
  refine lv_aload_n hx hb (D_42 W_prog_13_method_7_code_32 19 rfl rfl) rfl (lv_at hl 2 rfl) ?_
  refine zget (ci := 11) (C := RX11) (T := TX11) (v := .int (iI ((F 11 l0 6) + 1))) (k := 6) hx hb hts inW_11 hown hK hZ9 g8.1 g8.2 rfl (by decide) k_1_196 (congrArg (fun q : Int => Value.int (iI q)) (show (zup3 F 11 l0 6 ((F 11 l0 6) + 1)) 11 l0 6 = (F 11 l0 6) + 1 by simp [zup3])) (D_180 W_prog_13_method_7_code_32 20 rfl rfl rfl) ?_
  refine lv_iconst (v := iI 2) hx hb (D_5 W_prog_13_method_7_code_32 23 rfl rfl) rfl ?_
  obtain ⟨g10, hf⟩ := gif hf
  refine zgt (tgt := 95) hx hb g10 (by decide) (D_163 W_prog_13_method_7_code_32 24 rfl rfl rfl) (by decide) (fun h11 => ?_) (fun h11 => ?_)
  · replace hf := gpos hf h11
    exact b_Walker_goBracket_95 X ho hf hZ9 hS9 (lv_sub hl [0, 1, 2, 3, 4] rfl)
  · replace hf := gneg hf h11
    refine lv_aload_n hx hb (D_42 W_prog_13_method_7_code_32 27 rfl rfl) rfl (lv_at hl 2 rfl) ?_
    refine lv_dup hx hb (D_89 W_prog_13_method_7_code_32 28 rfl rfl) rfl ?_
    refine zget (ci := 11) (C := RX11) (T := TX11) (v := .int (iI (F 11 l0 9))) (k := 9) hx hb hts inW_11 hown hK hZ9 g8.1 g8.2 rfl (by decide) k_1_199 (congrArg (fun q : Int => Value.int (iI q)) (show (zup3 F 11 l0 6 ((F 11 l0 6) + 1)) 11 l0 9 = F 11 l0 9 by simp [zup3])) (D_180 W_prog_13_method_7_code_32 29 rfl rfl rfl) ?_
    refine lv_aload_n hx hb (D_42 W_prog_13_method_7_code_64 0 rfl rfl) rfl (lv_at hl 2 rfl) ?_
    refine zget (ci := 11) (C := RX11) (T := TX11) (v := va_rf (zrf ad 3 (F 11 l0 0))) (k := 0) hx hb hts inW_11 hown hK hZ9 g8.1 g8.2 rfl (by decide) k_1_190 (congrArg (fun q : Int => va_rf (zrf ad 3 q)) (show (zup3 F 11 l0 6 ((F 11 l0 6) + 1)) 11 l0 0 = F 11 l0 0 by simp [zup3])) (D_180 W_prog_13_method_7_code_64 1 rfl rfl rfl) ?_
    obtain ⟨g12, hf⟩ := gif hf
    refine zunrf g12.1 ?_
    refine zget (ci := 3) (C := RX3) (T := TX3) (v := .ref (ad 3 (F 11 l0 0) (2 + 1))) (k := 2) hx hb hts inW_3 hown hK hZ9 g12.1 g12.2 rfl (by decide) k_1_111 rfl (D_180 W_prog_13_method_7_code_64 4 rfl rfl rfl) ?_
    refine lv_iload_n hx hb (D_27 W_prog_13_method_7_code_64 7 rfl rfl) rfl (lv_at hl 3 rfl) ?_
    obtain ⟨g13, hf⟩ := gif hf
    refine zald (ci := 3) (k := 2) hx hb hK rfl hZ9 g12.1 g12.2 rfl (Nat.le_of_ble_eq_true rfl) g13.1 g13.2 (D_46 W_prog_13_method_7_code_64 8 rfl rfl) ?_
    refine zmul hx hb (D_104 W_prog_13_method_7_code_64 9 rfl rfl) ?_
    refine zput (ci := 11) (C := RX11) (T := TX11) (k := 9) (v := ((F 11 l0 9) * (B 3 (F 11 l0 0) 2 l1))) (w := .int (iI ((F 11 l0 9) * (B 3 (F 11 l0 0) 2 l1)))) hx hb hts inW_11 tyX11 tyX11_ok nmX11 hown hK hZ9 hS9 g8.1 g8.2 rfl (by decide) k_1_199 rfl (fun G h => congrArg (fun q => Value.int (iI q)) h) rfl rfl (zno (by decide)) (D_181 W_prog_13_method_7_code_64 10 rfl rfl rfl) (fun H14 locs14 hZ14 hS14 => ?_)
    refine lv_aload_n hx hb (D_42 W_prog_13_method_7_code_64 13 rfl rfl) rfl (lv_at hl 2 rfl) ?_
    refine lv_dup hx hb (D_89 W_prog_13_method_7_code_64 14 rfl rfl) rfl ?_
    refine zget (ci := 11) (C := RX11) (T := TX11) (v := .int (iI (F 11 l0 10))) (k := 10) hx hb hts inW_11 hown hK hZ14 g8.1 g8.2 rfl (by decide) k_1_200 (congrArg (fun q : Int => Value.int (iI q)) (show (zup3 (zup3 F 11 l0 6 ((F 11 l0 6) + 1)) 11 l0 9 ((F 11 l0 9) * (B 3 (F 11 l0 0) 2 l1))) 11 l0 10 = F 11 l0 10 by simp [zup3])) (D_180 W_prog_13_method_7_code_64 15 rfl rfl rfl) ?_
    refine lv_aload_n hx hb (D_42 W_prog_13_method_7_code_64 18 rfl rfl) rfl (lv_at hl 2 rfl) ?_
    refine zget (ci := 11) (C := RX11) (T := TX11) (v := va_rf (zrf ad 3 (F 11 l0 0))) (k := 0) hx hb hts inW_11 hown hK hZ14 g8.1 g8.2 rfl (by decide) k_1_190 (congrArg (fun q : Int => va_rf (zrf ad 3 q)) (show (zup3 (zup3 F 11 l0 6 ((F 11 l0 6) + 1)) 11 l0 9 ((F 11 l0 9) * (B 3 (F 11 l0 0) 2 l1))) 11 l0 0 = F 11 l0 0 by simp [zup3])) (D_180 W_prog_13_method_7_code_64 19 rfl rfl rfl) ?_
    refine zunrf g12.1 ?_
    refine zget (ci := 3) (C := RX3) (T := TX3) (v := .ref (ad 3 (F 11 l0 0) (3 + 1))) (k := 3) hx hb hts inW_3 hown hK hZ14 g12.1 g12.2 rfl (by decide) k_1_113 rfl (D_180 W_prog_13_method_7_code_64 22 rfl rfl rfl) ?_
    refine lv_iload_n hx hb (D_27 W_prog_13_method_7_code_64 25 rfl rfl) rfl (lv_at hl 3 rfl) ?_
    refine zald (ci := 3) (k := 3) hx hb hK rfl hZ14 g12.1 g12.2 rfl (Nat.le_of_ble_eq_true rfl) g13.1 g13.2 (D_46 W_prog_13_method_7_code_64 26 rfl rfl) ?_
    refine zmul hx hb (D_104 W_prog_13_method_7_code_64 27 rfl rfl) ?_
    refine zput (ci := 11) (C := RX11) (T := TX11) (k := 10) (v := ((F 11 l0 10) * (B 3 (F 11 l0 0) 3 l1))) (w := .int (iI ((F 11 l0 10) * (B 3 (F 11 l0 0) 3 l1)))) hx hb hts inW_11 tyX11 tyX11_ok nmX11 hown hK hZ14 hS14 g8.1 g8.2 rfl (by decide) k_1_200 rfl (fun G h => congrArg (fun q => Value.int (iI q)) h) rfl rfl (zno (by decide)) (D_181 W_prog_13_method_7_code_64 28 rfl rfl rfl) (fun H15 locs15 hZ15 hS15 => ?_)
    exact b_Walker_goBracket_95 X ho hf hZ15 hS15 (lv_sub hl [0, 1, 2, 3, 4] rfl)

def fb_Walker_goBracket (o : oT_CW) (K : zK) (l0 : Int) (l1 : Int) (l2 : Int) (F : zF) (B : zB) : zO := if 0 ≤ l0 ∧ l0 < K.2 11 then if r32 (F 11 l0 6) then (if (F 11 l0 6) = 0 then if 0 ≤ (F 11 l0 0) ∧ (F 11 l0 0) < K.2 3 then if 0 ≤ l1 ∧ l1 < 3000 then f_Walker_goBracket_41 o K (F 11 l0 10) (F 11 l0 9) l0 l1 l2 (zup3 (zup3 F 11 l0 7 ((F 11 l0 7) + 1)) 11 l0 8 (B 3 (F 11 l0 0) 1 l1)) B else none else none else f_Walker_goBracket_41 o K (F 11 l0 10) (F 11 l0 9) l0 l1 l2 F B) else none else none
set_option maxHeartbeats 4000000 in
set_option maxRecDepth 100000 in
theorem cb_Walker_goBracket {l : Launch} {D : va_G} {ca : Nat → ClassId} {ad : Nat → Int → Nat → Nat} {L : List Nat} {aS vS : Nat → Nat} {sz : Nat} {K : zK} {d : Nat} {o : oT_CW} (ho : oH_CW K l D ca ad L aS vS d o)  {l0 : Int} {l1 : Int} {l2 : Int} {F F9 : zF} {B B9 : zB} {r : Int} (hf : fb_Walker_goBracket o K l0 l1 l2 F B = some (r, F9, B9)) : Met l ({ cls := "StaveHouse$Walker", name := "goBracket", desc := "(II)V" } : Jvm.MethodName) (Cond.code ({ cls := "StaveHouse$Walker", name := "goBracket", desc := "(II)V" } : Jvm.MethodName) prog_13_method_7_code 5 (Option.none : Option Jvm.ClassFile.FieldType) :: wAll) ({ frames := d + 1 + 5, cells := 0, slots := 0, locals := 25 * (d + 1) + 95 } : Room) (va_Pc [.ref (ad 11 l0 0), .int (iI l1), .int (iI l2)] (zPre D ca ad lnC K.2 L aS vS F B sz)) (Q_Walker_goBracket K D ca ad L r F9 B9 (zA L sz)) 0 0 (zA L sz) := by
  refine zMet (Qc := Q_Walker_goBracket K D ca ad L r F9 B9) (lv := [(0, .ref (ad 11 l0 0)), (1, .int (iI l1)), (2, .int (iI l2))]) (by decide) (Nat.le_of_ble_eq_true rfl) rfl (fun A p e s m below meth c ls X hZ hS hl => ?_)
  obtain ⟨hx, hb, hr, hml, hown, hts, hlk, hK, hA, hL, hX⟩ := id X
  replace hf : (if 0 ≤ l0 ∧ l0 < K.2 11 then if r32 (F 11 l0 6) then (if (F 11 l0 6) = 0 then if 0 ≤ (F 11 l0 0) ∧ (F 11 l0 0) < K.2 3 then if 0 ≤ l1 ∧ l1 < 3000 then f_Walker_goBracket_41 o K (F 11 l0 10) (F 11 l0 9) l0 l1 l2 (zup3 (zup3 F 11 l0 7 ((F 11 l0 7) + 1)) 11 l0 8 (B 3 (F 11 l0 0) 1 l1)) B else none else none else f_Walker_goBracket_41 o K (F 11 l0 10) (F 11 l0 9) l0 l1 l2 F B) else none else none) = some (r, F9, B9) := hf
  refine lv_aload_n hx hb (D_42 W_prog_13_method_7_code_0 0 rfl rfl) rfl (lv_at hl 0 rfl) ?_
  obtain ⟨g1, hf⟩ := gif hf
  refine zget (ci := 11) (C := RX11) (T := TX11) (v := .int (iI (F 11 l0 9))) (k := 9) hx hb hts inW_11 hown hK hZ g1.1 g1.2 rfl (by decide) k_1_199 rfl (D_180 W_prog_13_method_7_code_0 1 rfl rfl rfl) ?_
  refine lv_istore_n (lv' := [(3, .int (iI (F 11 l0 9))), (0, .ref (ad 11 l0 0)), (1, .int (iI l1)), (2, .int (iI l2))]) hx hb (D_62 W_prog_13_method_7_code_0 4 rfl rfl) rfl hl (by decide) rfl (fun ls hl => ?_)
  refine lv_aload_n hx hb (D_42 W_prog_13_method_7_code_0 5 rfl rfl) rfl (lv_at hl 1 rfl) ?_
  refine zget (ci := 11) (C := RX11) (T := TX11) (v := .int (iI (F 11 l0 10))) (k := 10) hx hb hts inW_11 hown hK hZ g1.1 g1.2 rfl (by decide) k_1_200 rfl (D_180 W_prog_13_method_7_code_0 6 rfl rfl rfl) ?_
  refine lv_istore (lv' := [(4, .int (iI (F 11 l0 10))), (3, .int (iI (F 11 l0 9))), (0, .ref (ad 11 l0 0)), (1, .int (iI l1)), (2, .int (iI l2))]) hx hb (D_54 W_prog_13_method_7_code_0 9 rfl rfl) hl (by decide) rfl (fun ls hl => ?_)
  refine lv_aload_n hx hb (D_42 W_prog_13_method_7_code_0 11 rfl rfl) rfl (lv_at hl 2 rfl) ?_
  refine zget (ci := 11) (C := RX11) (T := TX11) (v := .int (iI (F 11 l0 6))) (k := 6) hx hb hts inW_11 hown hK hZ g1.1 g1.2 rfl (by decide) k_1_196 rfl (D_180 W_prog_13_method_7_code_0 12 rfl rfl rfl) ?_
  obtain ⟨g2, hf⟩ := gif hf
  refine z0ne (tgt := 41) hx hb g2 (D_154 W_prog_13_method_7_code_0 15 rfl rfl rfl) (by decide) (fun h3 => ?_) (fun h3 => ?_)
  · replace hf := gneg hf h3
    exact b_Walker_goBracket_41 X ho hf hZ hS (lv_sub hl [0, 1, 2, 3, 4] rfl)
  · replace hf := gpos hf h3
    refine lv_aload_n hx hb (D_42 W_prog_13_method_7_code_0 18 rfl rfl) rfl (lv_at hl 2 rfl) ?_
    refine lv_dup hx hb (D_89 W_prog_13_method_7_code_0 19 rfl rfl) rfl ?_
    refine zget (ci := 11) (C := RX11) (T := TX11) (v := .int (iI (F 11 l0 7))) (k := 7) hx hb hts inW_11 hown hK hZ g1.1 g1.2 rfl (by decide) k_1_197 rfl (D_180 W_prog_13_method_7_code_0 20 rfl rfl rfl) ?_
    refine lv_iconst (v := iI 1) hx hb (D_4 W_prog_13_method_7_code_0 23 rfl rfl) rfl ?_
    refine zadd hx hb (D_96 W_prog_13_method_7_code_0 24 rfl rfl) ?_
    refine zput (ci := 11) (C := RX11) (T := TX11) (k := 7) (v := ((F 11 l0 7) + 1)) (w := .int (iI ((F 11 l0 7) + 1))) hx hb hts inW_11 tyX11 tyX11_ok nmX11 hown hK hZ hS g1.1 g1.2 rfl (by decide) k_1_197 rfl (fun G h => congrArg (fun q => Value.int (iI q)) h) rfl rfl (zno (by decide)) (D_181 W_prog_13_method_7_code_0 25 rfl rfl rfl) (fun H4 locs4 hZ4 hS4 => ?_)
    refine lv_aload_n hx hb (D_42 W_prog_13_method_7_code_0 28 rfl rfl) rfl (lv_at hl 2 rfl) ?_
    refine lv_aload_n hx hb (D_42 W_prog_13_method_7_code_0 29 rfl rfl) rfl (lv_at hl 2 rfl) ?_
    refine zget (ci := 11) (C := RX11) (T := TX11) (v := va_rf (zrf ad 3 (F 11 l0 0))) (k := 0) hx hb hts inW_11 hown hK hZ4 g1.1 g1.2 rfl (by decide) k_1_190 (congrArg (fun q : Int => va_rf (zrf ad 3 q)) (show (zup3 F 11 l0 7 ((F 11 l0 7) + 1)) 11 l0 0 = F 11 l0 0 by simp [zup3])) (D_180 W_prog_13_method_7_code_0 30 rfl rfl rfl) ?_
    obtain ⟨g5, hf⟩ := gif hf
    refine zunrf g5.1 ?_
    refine zget (ci := 3) (C := RX3) (T := TX3) (v := .ref (ad 3 (F 11 l0 0) (1 + 1))) (k := 1) hx hb hts inW_3 hown hK hZ4 g5.1 g5.2 rfl (by decide) k_1_109 rfl (D_180 W_prog_13_method_7_code_32 1 rfl rfl rfl) ?_
    refine lv_iload_n hx hb (D_27 W_prog_13_method_7_code_32 4 rfl rfl) rfl (lv_at hl 3 rfl) ?_
    obtain ⟨g6, hf⟩ := gif hf
    refine zald (ci := 3) (k := 1) hx hb hK rfl hZ4 g5.1 g5.2 rfl (Nat.le_of_ble_eq_true rfl) g6.1 g6.2 (D_46 W_prog_13_method_7_code_32 5 rfl rfl) ?_
    refine zput (ci := 11) (C := RX11) (T := TX11) (k := 8) (v := (B 3 (F 11 l0 0) 1 l1)) (w := .int (iI (B 3 (F 11 l0 0) 1 l1))) hx hb hts inW_11 tyX11 tyX11_ok nmX11 hown hK hZ4 hS4 g1.1 g1.2 rfl (by decide) k_1_198 rfl (fun G h => congrArg (fun q => Value.int (iI q)) h) rfl rfl (zno (by decide)) (D_181 W_prog_13_method_7_code_32 6 rfl rfl rfl) (fun H7 locs7 hZ7 hS7 => ?_)
    exact b_Walker_goBracket_41 X ho hf hZ7 hS7 (lv_sub hl [0, 1, 2, 3, 4] rfl)

def f_Walker_goRepeat_127 (o : oT_CW) (K : zK)  (F : zF) (B : zB) : zO := some (0, F, B)
set_option maxHeartbeats 4000000 in
set_option maxRecDepth 100000 in
theorem b_Walker_goRepeat_127 {D : va_G} {ca : Nat → ClassId} {ad : Nat → Int → Nat → Nat} {L : List Nat} {aS vS : Nat → Nat} {A : Nat → Prop} {p : Program} {l : Launch} {e : Env} {s : State} {m : MethodId} {args : Array Value} {below : List Frame} {meth : Method} {c : Code} {K : zK} {r : Int} {F9 : zF} {B9 : zB} {d : Nat} {o : oT_CW} (X : zX D ca L aS vS A p s m args meth c prog_13_method_8_code 6 (Option.none : Option Jvm.ClassFile.FieldType) "StaveHouse$Walker") (ho : oH_CW K l D ca ad L aS vS d o)  {F : zF} {B : zB} {H : Heap} {locs : List Loc} {ls : Array Slot} (hf : f_Walker_goRepeat_127 o K  F B = some (r, F9, B9)) (hZ : zH D ca ad lnC K.2 L F B A H) (hS : va_S A s.heap H locs) (hl : lv_has ls 6 []) : W p l e ({ frames := d + 1 + 5, cells := 0, slots := 0, locals := 25 * (d + 1) + 95 } : Room) s m args below meth c H locs 0 0 (MQ below (Q_Walker_goRepeat K D ca ad L r F9 B9 A) args s 0 0 A) (F0 m 127 ls []) := by
  obtain ⟨hx, hb, hr, hml, hown, hts, hlk, hK, hA, hL, hX⟩ := id X
  replace hf : (some (0, F, B)) = some (r, F9, B9) := hf
  cases hf
  exact W.vret hx hb hr (fun t ht hW => ⟨⟨(), rfl, trivial, by rw [ht]; exact hZ, va_K.moved hW.alike hK⟩, hS.F ht⟩) hS.2.2 (D_177 W_prog_13_method_8_code_96 31 rfl rfl) hlk

def f_Walker_goRepeat_121 (o : oT_CW) (rec13 : Int → Int → Int → Int → Int → zF → zB → zO) (K : zK) (l4 : Int) (l3 : Int) (l0 : Int) (l1 : Int) (l2 : Int) (F : zF) (B : zB) : zO := rec13 (l4 + 1) l3 l0 l1 l2 F B
set_option maxHeartbeats 4000000 in
set_option maxRecDepth 100000 in
theorem b_Walker_goRepeat_121 {D : va_G} {ca : Nat → ClassId} {ad : Nat → Int → Nat → Nat} {L : List Nat} {aS vS : Nat → Nat} {A : Nat → Prop} {p : Program} {l : Launch} {e : Env} {s : State} {m : MethodId} {args : Array Value} {below : List Frame} {meth : Method} {c : Code} {K : zK} {r : Int} {F9 : zF} {B9 : zB} {d : Nat} {o : oT_CW} (X : zX D ca L aS vS A p s m args meth c prog_13_method_8_code 6 (Option.none : Option Jvm.ClassFile.FieldType) "StaveHouse$Walker") (ho : oH_CW K l D ca ad L aS vS d o) {rec13 : Int → Int → Int → Int → Int → zF → zB → zO} (hrec13 : ∀ {l4 : Int} {l3 : Int} {l0 : Int} {l1 : Int} {l2 : Int} {F : zF} {B : zB} {H : Heap} {locs : List Loc} {ls : Array Slot}, rec13 l4 l3 l0 l1 l2 F B = some (r, F9, B9) → zH D ca ad lnC K.2 L F B A H → va_S A s.heap H locs → lv_has ls 6 [(4, .int (iI l4)), (3, .int (iI l3)), (0, .ref (ad 11 l0 0)), (1, .int (iI l1)), (2, .int (iI l2))] → W p l e ({ frames := d + 1 + 5, cells := 0, slots := 0, locals := 25 * (d + 1) + 95 } : Room) s m args below meth c H locs 0 0 (MQ below (Q_Walker_goRepeat K D ca ad L r F9 B9 A) args s 0 0 A) (F0 m 13 ls [])) {l4 : Int} {l3 : Int} {l0 : Int} {l1 : Int} {l2 : Int} {F : zF} {B : zB} {H : Heap} {locs : List Loc} {ls : Array Slot} (hf : f_Walker_goRepeat_121 o rec13 K l4 l3 l0 l1 l2 F B = some (r, F9, B9)) (hZ : zH D ca ad lnC K.2 L F B A H) (hS : va_S A s.heap H locs) (hl : lv_has ls 6 [(4, .int (iI l4)), (3, .int (iI l3)), (0, .ref (ad 11 l0 0)), (1, .int (iI l1)), (2, .int (iI l2))]) : W p l e ({ frames := d + 1 + 5, cells := 0, slots := 0, locals := 25 * (d + 1) + 95 } : Room) s m args below meth c H locs 0 0 (MQ below (Q_Walker_goRepeat K D ca ad L r F9 B9 A) args s 0 0 A) (F0 m 121 ls []) := by
  obtain ⟨hx, hb, hr, hml, hown, hts, hlk, hK, hA, hL, hX⟩ := id X
  replace hf : (rec13 (l4 + 1) l3 l0 l1 l2 F B) = some (r, F9, B9) := hf
  refine lv_iinc (v := iI (l4 + 1)) (lv' := [(4, .int (iI (l4 + 1))), (3, .int (iI l3)), (0, .ref (ad 11 l0 0)), (1, .int (iI l1)), (2, .int (iI l2))]) hx hb d_13_8_121 hl (k := 0) rfl (iI_add _ 1) (by decide) rfl (fun ls hl => ?_)
  refine lv_goto (tgt := 13) hx hb (D_167 W_prog_13_method_8_code_96 28 rfl rfl rfl) (by decide) ?_
  exact hrec13 hf hZ hS (lv_sub hl [0, 1, 2, 3, 4] rfl)

def f_Walker_goRepeat_120 (o : oT_CW) (rec13 : Int → Int → Int → Int → Int → zF → zB → zO) (K : zK) (l4 : Int) (l0 : Int) (l1 : Int) (l2 : Int) (s0 : Int) (F : zF) (B : zB) : zO := f_Walker_goRepeat_121 o rec13 K l4 s0 l0 l1 l2 F B
set_option maxHeartbeats 4000000 in
set_option maxRecDepth 100000 in
theorem b_Walker_goRepeat_120 {D : va_G} {ca : Nat → ClassId} {ad : Nat → Int → Nat → Nat} {L : List Nat} {aS vS : Nat → Nat} {A : Nat → Prop} {p : Program} {l : Launch} {e : Env} {s : State} {m : MethodId} {args : Array Value} {below : List Frame} {meth : Method} {c : Code} {K : zK} {r : Int} {F9 : zF} {B9 : zB} {d : Nat} {o : oT_CW} (X : zX D ca L aS vS A p s m args meth c prog_13_method_8_code 6 (Option.none : Option Jvm.ClassFile.FieldType) "StaveHouse$Walker") (ho : oH_CW K l D ca ad L aS vS d o) {rec13 : Int → Int → Int → Int → Int → zF → zB → zO} (hrec13 : ∀ {l4 : Int} {l3 : Int} {l0 : Int} {l1 : Int} {l2 : Int} {F : zF} {B : zB} {H : Heap} {locs : List Loc} {ls : Array Slot}, rec13 l4 l3 l0 l1 l2 F B = some (r, F9, B9) → zH D ca ad lnC K.2 L F B A H → va_S A s.heap H locs → lv_has ls 6 [(4, .int (iI l4)), (3, .int (iI l3)), (0, .ref (ad 11 l0 0)), (1, .int (iI l1)), (2, .int (iI l2))] → W p l e ({ frames := d + 1 + 5, cells := 0, slots := 0, locals := 25 * (d + 1) + 95 } : Room) s m args below meth c H locs 0 0 (MQ below (Q_Walker_goRepeat K D ca ad L r F9 B9 A) args s 0 0 A) (F0 m 13 ls [])) {l4 : Int} {l0 : Int} {l1 : Int} {l2 : Int} {s0 : Int} {F : zF} {B : zB} {H : Heap} {locs : List Loc} {ls : Array Slot} (hf : f_Walker_goRepeat_120 o rec13 K l4 l0 l1 l2 s0 F B = some (r, F9, B9)) (hZ : zH D ca ad lnC K.2 L F B A H) (hS : va_S A s.heap H locs) (hl : lv_has ls 6 [(4, .int (iI l4)), (0, .ref (ad 11 l0 0)), (1, .int (iI l1)), (2, .int (iI l2))]) : W p l e ({ frames := d + 1 + 5, cells := 0, slots := 0, locals := 25 * (d + 1) + 95 } : Room) s m args below meth c H locs 0 0 (MQ below (Q_Walker_goRepeat K D ca ad L r F9 B9 A) args s 0 0 A) (F0 m 120 ls [.int (iI s0)]) := by
  obtain ⟨hx, hb, hr, hml, hown, hts, hlk, hK, hA, hL, hX⟩ := id X
  replace hf : (f_Walker_goRepeat_121 o rec13 K l4 s0 l0 l1 l2 F B) = some (r, F9, B9) := hf
  refine lv_istore_n (lv' := [(3, .int (iI s0)), (4, .int (iI l4)), (0, .ref (ad 11 l0 0)), (1, .int (iI l1)), (2, .int (iI l2))]) hx hb (D_62 W_prog_13_method_8_code_96 24 rfl rfl) rfl hl (by decide) rfl (fun ls hl => ?_)
  exact b_Walker_goRepeat_121 X ho hrec13 hf hZ hS (lv_sub hl [1, 0, 2, 3, 4] rfl)

def f_Walker_goRepeat_13 (o : oT_CW) (K : zK) : Nat → Int → Int → Int → Int → Int → zF → zB → zO
  | 0, _, _, _, _, _, _, _ => none
  | n + 1, l4, l3, l0, l1, l2, F, B => if 0 ≤ l0 ∧ l0 < K.2 11 then if 0 ≤ (F 11 l0 0) ∧ (F 11 l0 0) < K.2 3 then if 0 ≤ l1 ∧ l1 < 3000 then if r32 l4 then if r32 (B 3 (F 11 l0 0) 2 l1) then (if (B 3 (F 11 l0 0) 2 l1) ≤ l4 then f_Walker_goRepeat_127 o K F B else if r32 (F 11 l0 2) then (if (F 11 l0 2) = 0 then zbind (f_Walker_countItem K l0 (B 3 (F 11 l0 0) 1 l1) F B) (fun r12 F12 B12 => if 0 ≤ (F12 11 l0 0) ∧ (F12 11 l0 0) < K.2 3 then zbind (o.1 l0 (B12 3 (F12 11 l0 0) 4 l1) (l2 + 1) F12 B12) (fun r14 F14 B14 => if r32 l3 then (if l3 = (-1) then f_Walker_goRepeat_121 o (f_Walker_goRepeat_13 o K n) K l4 l3 l0 l1 l2 F14 B14 else if 0 ≤ (F14 11 l0 0) ∧ (F14 11 l0 0) < K.2 3 then zbind (f_Walker_countItem K l0 (B14 3 (F14 11 l0 0) 1 l1) F14 B14) (fun r18 F18 B18 => if 0 ≤ (F18 11 l0 0) ∧ (F18 11 l0 0) < K.2 3 then if 0 ≤ l3 ∧ l3 < 3000 then zbind (o.1 l0 (B18 3 (F18 11 l0 0) 4 l3) (l2 + 1) F18 B18) (fun r21 F21 B21 => if 0 ≤ (F21 11 l0 0) ∧ (F21 11 l0 0) < K.2 3 then if r32 (B21 3 (F21 11 l0 0) 5 l3) then (if (B21 3 (F21 11 l0 0) 5 l3) = (-1) then f_Walker_goRepeat_120 o (f_Walker_goRepeat_13 o K n) K l4 l0 l1 l2 l3 F21 B21 else f_Walker_goRepeat_120 o (f_Walker_goRepeat_13 o K n) K l4 l0 l1 l2 (B21 3 (F21 11 l0 0) 5 l3) F21 B21) else none else none) else none else none) else none) else none) else none) else f_Walker_goRepeat_127 o K F B) else none) else none else none else none else none else none
set_option maxHeartbeats 4000000 in
set_option maxRecDepth 100000 in
theorem b_Walker_goRepeat_13 {D : va_G} {ca : Nat → ClassId} {ad : Nat → Int → Nat → Nat} {L : List Nat} {aS vS : Nat → Nat} {A : Nat → Prop} {p : Program} {l : Launch} {e : Env} {s : State} {m : MethodId} {args : Array Value} {below : List Frame} {meth : Method} {c : Code} {K : zK} {r : Int} {F9 : zF} {B9 : zB} {d : Nat} {o : oT_CW} (X : zX D ca L aS vS A p s m args meth c prog_13_method_8_code 6 (Option.none : Option Jvm.ClassFile.FieldType) "StaveHouse$Walker") (ho : oH_CW K l D ca ad L aS vS d o) : ∀ {n : Nat} {l4 : Int} {l3 : Int} {l0 : Int} {l1 : Int} {l2 : Int} {F : zF} {B : zB} {H : Heap} {locs : List Loc} {ls : Array Slot}, f_Walker_goRepeat_13 o K n l4 l3 l0 l1 l2 F B = some (r, F9, B9) → zH D ca ad lnC K.2 L F B A H → va_S A s.heap H locs → lv_has ls 6 [(4, .int (iI l4)), (3, .int (iI l3)), (0, .ref (ad 11 l0 0)), (1, .int (iI l1)), (2, .int (iI l2))] → W p l e ({ frames := d + 1 + 5, cells := 0, slots := 0, locals := 25 * (d + 1) + 95 } : Room) s m args below meth c H locs 0 0 (MQ below (Q_Walker_goRepeat K D ca ad L r F9 B9 A) args s 0 0 A) (F0 m 13 ls []) := by
  obtain ⟨hx, hb, hr, hml, hown, hts, hlk, hK, hA, hL, hX⟩ := id X
  intro n
  induction n with
  | zero =>
    intros
    rename_i hf _ _ _
    cases hf
  | succ n ih =>
    intro l4 l3 l0 l1 l2 F B H locs ls hf hZ hS hl
    replace hf : (if 0 ≤ l0 ∧ l0 < K.2 11 then if 0 ≤ (F 11 l0 0) ∧ (F 11 l0 0) < K.2 3 then if 0 ≤ l1 ∧ l1 < 3000 then if r32 l4 then if r32 (B 3 (F 11 l0 0) 2 l1) then (if (B 3 (F 11 l0 0) 2 l1) ≤ l4 then f_Walker_goRepeat_127 o K F B else if r32 (F 11 l0 2) then (if (F 11 l0 2) = 0 then zbind (f_Walker_countItem K l0 (B 3 (F 11 l0 0) 1 l1) F B) (fun r12 F12 B12 => if 0 ≤ (F12 11 l0 0) ∧ (F12 11 l0 0) < K.2 3 then zbind (o.1 l0 (B12 3 (F12 11 l0 0) 4 l1) (l2 + 1) F12 B12) (fun r14 F14 B14 => if r32 l3 then (if l3 = (-1) then f_Walker_goRepeat_121 o (f_Walker_goRepeat_13 o K n) K l4 l3 l0 l1 l2 F14 B14 else if 0 ≤ (F14 11 l0 0) ∧ (F14 11 l0 0) < K.2 3 then zbind (f_Walker_countItem K l0 (B14 3 (F14 11 l0 0) 1 l1) F14 B14) (fun r18 F18 B18 => if 0 ≤ (F18 11 l0 0) ∧ (F18 11 l0 0) < K.2 3 then if 0 ≤ l3 ∧ l3 < 3000 then zbind (o.1 l0 (B18 3 (F18 11 l0 0) 4 l3) (l2 + 1) F18 B18) (fun r21 F21 B21 => if 0 ≤ (F21 11 l0 0) ∧ (F21 11 l0 0) < K.2 3 then if r32 (B21 3 (F21 11 l0 0) 5 l3) then (if (B21 3 (F21 11 l0 0) 5 l3) = (-1) then f_Walker_goRepeat_120 o (f_Walker_goRepeat_13 o K n) K l4 l0 l1 l2 l3 F21 B21 else f_Walker_goRepeat_120 o (f_Walker_goRepeat_13 o K n) K l4 l0 l1 l2 (B21 3 (F21 11 l0 0) 5 l3) F21 B21) else none else none) else none else none) else none) else none) else none) else f_Walker_goRepeat_127 o K F B) else none) else none else none else none else none else none) = some (r, F9, B9) := hf
    refine lv_iload hx hb (D_21 W_prog_13_method_8_code_0 13 rfl rfl) (lv_at hl 0 rfl) ?_
    refine lv_aload_n hx hb (D_42 W_prog_13_method_8_code_0 15 rfl rfl) rfl (lv_at hl 2 rfl) ?_
    obtain ⟨g4, hf⟩ := gif hf
    refine zget (ci := 11) (C := RX11) (T := TX11) (v := va_rf (zrf ad 3 (F 11 l0 0))) (k := 0) hx hb hts inW_11 hown hK hZ g4.1 g4.2 rfl (by decide) k_1_190 rfl (D_180 W_prog_13_method_8_code_0 16 rfl rfl rfl) ?_
    obtain ⟨g5, hf⟩ := gif hf
    refine zunrf g5.1 ?_
    refine zget (ci := 3) (C := RX3) (T := TX3) (v := .ref (ad 3 (F 11 l0 0) (2 + 1))) (k := 2) hx hb hts inW_3 hown hK hZ g5.1 g5.2 rfl (by decide) k_1_111 rfl (D_180 W_prog_13_method_8_code_0 19 rfl rfl rfl) ?_
    refine lv_iload_n hx hb (D_27 W_prog_13_method_8_code_0 22 rfl rfl) rfl (lv_at hl 3 rfl) ?_
    obtain ⟨g6, hf⟩ := gif hf
    refine zald (ci := 3) (k := 2) hx hb hK rfl hZ g5.1 g5.2 rfl (Nat.le_of_ble_eq_true rfl) g6.1 g6.2 (D_46 W_prog_13_method_8_code_0 23 rfl rfl) ?_
    obtain ⟨g7, hf⟩ := gif hf
    obtain ⟨g8, hf⟩ := gif hf
    refine zge (tgt := 127) hx hb g7 g8 (D_162 W_prog_13_method_8_code_0 24 rfl rfl rfl) (by decide) (fun h9 => ?_) (fun h9 => ?_)
    · replace hf := gpos hf h9
      exact b_Walker_goRepeat_127 X ho hf hZ hS (lv_sub hl [] rfl)
    · replace hf := gneg hf h9
      refine lv_aload_n hx hb (D_42 W_prog_13_method_8_code_0 27 rfl rfl) rfl (lv_at hl 2 rfl) ?_
      refine zget (ci := 11) (C := RX11) (T := TX11) (v := .int (iI (F 11 l0 2))) (k := 2) hx hb hts inW_11 hown hK hZ g4.1 g4.2 rfl (by decide) k_1_192 rfl (D_180 W_prog_13_method_8_code_0 28 rfl rfl rfl) ?_
      obtain ⟨g10, hf⟩ := gif hf
      refine z0ne (tgt := 127) hx hb g10 (D_154 W_prog_13_method_8_code_0 31 rfl rfl rfl) (by decide) (fun h11 => ?_) (fun h11 => ?_)
      · replace hf := gneg hf h11
        exact b_Walker_goRepeat_127 X ho hf hZ hS (lv_sub hl [] rfl)
      · replace hf := gpos hf h11
        refine lv_aload_n hx hb (D_42 W_prog_13_method_8_code_32 2 rfl rfl) rfl (lv_at hl 2 rfl) ?_
        refine lv_aload_n hx hb (D_42 W_prog_13_method_8_code_32 3 rfl rfl) rfl (lv_at hl 2 rfl) ?_
        refine zget (ci := 11) (C := RX11) (T := TX11) (v := va_rf (zrf ad 3 (F 11 l0 0))) (k := 0) hx hb hts inW_11 hown hK hZ g4.1 g4.2 rfl (by decide) k_1_190 rfl (D_180 W_prog_13_method_8_code_32 4 rfl rfl rfl) ?_
        refine zunrf g5.1 ?_
        refine zget (ci := 3) (C := RX3) (T := TX3) (v := .ref (ad 3 (F 11 l0 0) (1 + 1))) (k := 1) hx hb hts inW_3 hown hK hZ g5.1 g5.2 rfl (by decide) k_1_109 rfl (D_180 W_prog_13_method_8_code_32 7 rfl rfl rfl) ?_
        refine lv_iload_n hx hb (D_27 W_prog_13_method_8_code_32 10 rfl rfl) rfl (lv_at hl 3 rfl) ?_
        refine zald (ci := 3) (k := 1) hx hb hK rfl hZ g5.1 g5.2 rfl (Nat.le_of_ble_eq_true rfl) g6.1 g6.2 (D_46 W_prog_13_method_8_code_32 11 rfl rfl) ?_
        obtain ⟨r12, F12, B12, hc12, hf⟩ := gbind hf
        refine va_callv (va_runV (As := [.int (iI (B 3 (F 11 l0 0) 1 l1))]) (rest := []) ⟨hx, hb, hml, hown, hts⟩ (c_Walker_countItem (l := l) hc12) (cwV 1 hts (gdV k_4_200 k_4_202 ks_35 k_1_6 k_4_203) rfl rfl rfl (by decide +kernel) ⟨by dsimp only; omega, by dsimp only; omega⟩) (zPV X hZ hS (ci := 11) g4.1 g4.2 (r := (RX11, TX11, 19)) rfl [.int (iI (B 3 (F 11 l0 0) 1 l1))]) rfl rfl hl.1 rfl (lv_room (Nat.le_of_ble_eq_true rfl)) (D_182 W_prog_13_method_8_code_32 12 rfl rfl rfl) ⟨Nat.le_of_ble_eq_true rfl, Nat.le_of_ble_eq_true rfl⟩) hS (fun q _ h => zAin X hS q h) (zAin X hS) (fun u12 t12 H12 locs12 ht12 hv12 hw12 hB12 hz12 hk12 hS12 => ?_)
        have hZ12 := zBack X ht12 hB12
        refine lv_aload_n hx hb (D_42 W_prog_13_method_8_code_32 15 rfl rfl) rfl (lv_at hl 2 rfl) ?_
        refine lv_aload_n hx hb (D_42 W_prog_13_method_8_code_32 16 rfl rfl) rfl (lv_at hl 2 rfl) ?_
        refine zget (ci := 11) (C := RX11) (T := TX11) (v := va_rf (zrf ad 3 (F12 11 l0 0))) (k := 0) hx hb hts inW_11 hown hK hZ12 g4.1 g4.2 rfl (by decide) k_1_190 rfl (D_180 W_prog_13_method_8_code_32 17 rfl rfl rfl) ?_
        obtain ⟨g13, hf⟩ := gif hf
        refine zunrf g13.1 ?_
        refine zget (ci := 3) (C := RX3) (T := TX3) (v := .ref (ad 3 (F12 11 l0 0) (4 + 1))) (k := 4) hx hb hts inW_3 hown hK hZ12 g13.1 g13.2 rfl (by decide) k_1_115 rfl (D_180 W_prog_13_method_8_code_32 20 rfl rfl rfl) ?_
        refine lv_iload_n hx hb (D_27 W_prog_13_method_8_code_32 23 rfl rfl) rfl (lv_at hl 3 rfl) ?_
        refine zald (ci := 3) (k := 4) hx hb hK rfl hZ12 g13.1 g13.2 rfl (Nat.le_of_ble_eq_true rfl) g6.1 g6.2 (D_46 W_prog_13_method_8_code_32 24 rfl rfl) ?_
        refine lv_iload_n hx hb (D_28 W_prog_13_method_8_code_32 25 rfl rfl) rfl (lv_at hl 4 rfl) ?_
        refine lv_iconst (v := iI 1) hx hb (D_4 W_prog_13_method_8_code_32 26 rfl rfl) rfl ?_
        refine zadd hx hb (D_96 W_prog_13_method_8_code_32 27 rfl rfl) ?_
        obtain ⟨r14, F14, B14, hc14, hf⟩ := gbind hf
        refine va_callv (va_runV (As := [.int (iI (B12 3 (F12 11 l0 0) 4 l1)), .int (iI (l2 + 1))]) (rest := []) ⟨hx, hb, hml, hown, hts⟩ (ho.1 hc14) (cwV 2 hts (gdV k_4_196 k_4_198 ks_34 k_1_6 k_4_199) rfl rfl rfl (by decide +kernel) ⟨by dsimp only; omega, by dsimp only; omega⟩) (zPV X hZ12 hS12 (ci := 11) g4.1 g4.2 (r := (RX11, TX11, 19)) rfl [.int (iI (B12 3 (F12 11 l0 0) 4 l1)), .int (iI (l2 + 1))]) rfl rfl hl.1 rfl (lv_room (Nat.le_of_ble_eq_true rfl)) (D_182 W_prog_13_method_8_code_32 28 rfl rfl rfl) ⟨Nat.le_of_ble_eq_true rfl, Nat.le_of_ble_eq_true rfl⟩) hS12 (fun q _ h => zAin X hS12 q h) (zAin X hS12) (fun u14 t14 H14 locs14 ht14 hv14 hw14 hB14 hz14 hk14 hS14 => ?_)
        have hZ14 := zBack X ht14 hB14
        refine lv_iload_n hx hb (D_29 W_prog_13_method_8_code_32 31 rfl rfl) rfl (lv_at hl 1 rfl) ?_
        refine lv_iconst (v := iI (-1)) hx hb (D_2 W_prog_13_method_8_code_64 0 rfl rfl) rfl ?_
        obtain ⟨g15, hf⟩ := gif hf
        refine zeq (tgt := 121) hx hb g15 (by decide) (D_159 W_prog_13_method_8_code_64 1 rfl rfl rfl) (by decide) (fun h16 => ?_) (fun h16 => ?_)
        · replace hf := gpos hf h16
          exact b_Walker_goRepeat_121 X ho ih hf hZ14 hS14 (lv_sub hl [0, 1, 2, 3, 4] rfl)
        · replace hf := gneg hf h16
          refine lv_aload_n hx hb (D_42 W_prog_13_method_8_code_64 4 rfl rfl) rfl (lv_at hl 2 rfl) ?_
          refine lv_aload_n hx hb (D_42 W_prog_13_method_8_code_64 5 rfl rfl) rfl (lv_at hl 2 rfl) ?_
          refine zget (ci := 11) (C := RX11) (T := TX11) (v := va_rf (zrf ad 3 (F14 11 l0 0))) (k := 0) hx hb hts inW_11 hown hK hZ14 g4.1 g4.2 rfl (by decide) k_1_190 rfl (D_180 W_prog_13_method_8_code_64 6 rfl rfl rfl) ?_
          obtain ⟨g17, hf⟩ := gif hf
          refine zunrf g17.1 ?_
          refine zget (ci := 3) (C := RX3) (T := TX3) (v := .ref (ad 3 (F14 11 l0 0) (1 + 1))) (k := 1) hx hb hts inW_3 hown hK hZ14 g17.1 g17.2 rfl (by decide) k_1_109 rfl (D_180 W_prog_13_method_8_code_64 9 rfl rfl rfl) ?_
          refine lv_iload_n hx hb (D_27 W_prog_13_method_8_code_64 12 rfl rfl) rfl (lv_at hl 3 rfl) ?_
          refine zald (ci := 3) (k := 1) hx hb hK rfl hZ14 g17.1 g17.2 rfl (Nat.le_of_ble_eq_true rfl) g6.1 g6.2 (D_46 W_prog_13_method_8_code_64 13 rfl rfl) ?_
          obtain ⟨r18, F18, B18, hc18, hf⟩ := gbind hf
          refine va_callv (va_runV (As := [.int (iI (B14 3 (F14 11 l0 0) 1 l1))]) (rest := []) ⟨hx, hb, hml, hown, hts⟩ (c_Walker_countItem (l := l) hc18) (cwV 1 hts (gdV k_4_200 k_4_202 ks_35 k_1_6 k_4_203) rfl rfl rfl (by decide +kernel) ⟨by dsimp only; omega, by dsimp only; omega⟩) (zPV X hZ14 hS14 (ci := 11) g4.1 g4.2 (r := (RX11, TX11, 19)) rfl [.int (iI (B14 3 (F14 11 l0 0) 1 l1))]) rfl rfl hl.1 rfl (lv_room (Nat.le_of_ble_eq_true rfl)) (D_182 W_prog_13_method_8_code_64 14 rfl rfl rfl) ⟨Nat.le_of_ble_eq_true rfl, Nat.le_of_ble_eq_true rfl⟩) hS14 (fun q _ h => zAin X hS14 q h) (zAin X hS14) (fun u18 t18 H18 locs18 ht18 hv18 hw18 hB18 hz18 hk18 hS18 => ?_)
          have hZ18 := zBack X ht18 hB18
          refine lv_aload_n hx hb (D_42 W_prog_13_method_8_code_64 17 rfl rfl) rfl (lv_at hl 2 rfl) ?_
          refine lv_aload_n hx hb (D_42 W_prog_13_method_8_code_64 18 rfl rfl) rfl (lv_at hl 2 rfl) ?_
          refine zget (ci := 11) (C := RX11) (T := TX11) (v := va_rf (zrf ad 3 (F18 11 l0 0))) (k := 0) hx hb hts inW_11 hown hK hZ18 g4.1 g4.2 rfl (by decide) k_1_190 rfl (D_180 W_prog_13_method_8_code_64 19 rfl rfl rfl) ?_
          obtain ⟨g19, hf⟩ := gif hf
          refine zunrf g19.1 ?_
          refine zget (ci := 3) (C := RX3) (T := TX3) (v := .ref (ad 3 (F18 11 l0 0) (4 + 1))) (k := 4) hx hb hts inW_3 hown hK hZ18 g19.1 g19.2 rfl (by decide) k_1_115 rfl (D_180 W_prog_13_method_8_code_64 22 rfl rfl rfl) ?_
          refine lv_iload_n hx hb (D_29 W_prog_13_method_8_code_64 25 rfl rfl) rfl (lv_at hl 1 rfl) ?_
          obtain ⟨g20, hf⟩ := gif hf
          refine zald (ci := 3) (k := 4) hx hb hK rfl hZ18 g19.1 g19.2 rfl (Nat.le_of_ble_eq_true rfl) g20.1 g20.2 (D_46 W_prog_13_method_8_code_64 26 rfl rfl) ?_
          refine lv_iload_n hx hb (D_28 W_prog_13_method_8_code_64 27 rfl rfl) rfl (lv_at hl 4 rfl) ?_
          refine lv_iconst (v := iI 1) hx hb (D_4 W_prog_13_method_8_code_64 28 rfl rfl) rfl ?_
          refine zadd hx hb (D_96 W_prog_13_method_8_code_64 29 rfl rfl) ?_
          obtain ⟨r21, F21, B21, hc21, hf⟩ := gbind hf
          refine va_callv (va_runV (As := [.int (iI (B18 3 (F18 11 l0 0) 4 l3)), .int (iI (l2 + 1))]) (rest := []) ⟨hx, hb, hml, hown, hts⟩ (ho.1 hc21) (cwV 2 hts (gdV k_4_196 k_4_198 ks_34 k_1_6 k_4_199) rfl rfl rfl (by decide +kernel) ⟨by dsimp only; omega, by dsimp only; omega⟩) (zPV X hZ18 hS18 (ci := 11) g4.1 g4.2 (r := (RX11, TX11, 19)) rfl [.int (iI (B18 3 (F18 11 l0 0) 4 l3)), .int (iI (l2 + 1))]) rfl rfl hl.1 rfl (lv_room (Nat.le_of_ble_eq_true rfl)) (D_182 W_prog_13_method_8_code_64 30 rfl rfl rfl) ⟨Nat.le_of_ble_eq_true rfl, Nat.le_of_ble_eq_true rfl⟩) hS18 (fun q _ h => zAin X hS18 q h) (zAin X hS18) (fun u21 t21 H21 locs21 ht21 hv21 hw21 hB21 hz21 hk21 hS21 => ?_)
          have hZ21 := zBack X ht21 hB21
          refine lv_aload_n hx hb (D_42 W_prog_13_method_8_code_96 1 rfl rfl) rfl (lv_at hl 2 rfl) ?_
          refine zget (ci := 11) (C := RX11) (T := TX11) (v := va_rf (zrf ad 3 (F21 11 l0 0))) (k := 0) hx hb hts inW_11 hown hK hZ21 g4.1 g4.2 rfl (by decide) k_1_190 rfl (D_180 W_prog_13_method_8_code_96 2 rfl rfl rfl) ?_
          obtain ⟨g22, hf⟩ := gif hf
          refine zunrf g22.1 ?_
          refine zget (ci := 3) (C := RX3) (T := TX3) (v := .ref (ad 3 (F21 11 l0 0) (5 + 1))) (k := 5) hx hb hts inW_3 hown hK hZ21 g22.1 g22.2 rfl (by decide) k_1_117 rfl (D_180 W_prog_13_method_8_code_96 5 rfl rfl rfl) ?_
          refine lv_iload_n hx hb (D_29 W_prog_13_method_8_code_96 8 rfl rfl) rfl (lv_at hl 1 rfl) ?_
          refine zald (ci := 3) (k := 5) hx hb hK rfl hZ21 g22.1 g22.2 rfl (Nat.le_of_ble_eq_true rfl) g20.1 g20.2 (D_46 W_prog_13_method_8_code_96 9 rfl rfl) ?_
          refine lv_istore (lv' := [(5, .int (iI (B21 3 (F21 11 l0 0) 5 l3))), (4, .int (iI l4)), (3, .int (iI l3)), (0, .ref (ad 11 l0 0)), (1, .int (iI l1)), (2, .int (iI l2))]) hx hb (D_54 W_prog_13_method_8_code_96 10 rfl rfl) hl (by decide) rfl (fun ls hl => ?_)
          refine lv_iload hx hb (D_21 W_prog_13_method_8_code_96 12 rfl rfl) (lv_at hl 0 rfl) ?_
          refine lv_iconst (v := iI (-1)) hx hb (D_2 W_prog_13_method_8_code_96 14 rfl rfl) rfl ?_
          obtain ⟨g23, hf⟩ := gif hf
          refine zne (tgt := 118) hx hb g23 (by decide) (D_160 W_prog_13_method_8_code_96 15 rfl rfl rfl) (by decide) (fun h24 => ?_) (fun h24 => ?_)
          · replace hf := gneg hf h24
            refine lv_iload hx hb (D_21 W_prog_13_method_8_code_96 22 rfl rfl) (lv_at hl 0 rfl) ?_
            exact b_Walker_goRepeat_120 X ho ih hf hZ21 hS21 (lv_sub hl [1, 3, 4, 5] rfl)
          · replace hf := gpos hf h24
            refine lv_iload_n hx hb (D_29 W_prog_13_method_8_code_96 18 rfl rfl) rfl (lv_at hl 2 rfl) ?_
            refine lv_goto (tgt := 120) hx hb (D_167 W_prog_13_method_8_code_96 19 rfl rfl rfl) (by decide) ?_
            exact b_Walker_goRepeat_120 X ho ih hf hZ21 hS21 (lv_sub hl [1, 3, 4, 5] rfl)

def fb_Walker_goRepeat (o : oT_CW) (K : zK) (l0 : Int) (l1 : Int) (l2 : Int) (F : zF) (B : zB) : zO := if 0 ≤ l0 ∧ l0 < K.2 11 then if 0 ≤ (F 11 l0 0) ∧ (F 11 l0 0) < K.2 3 then if 0 ≤ l1 ∧ l1 < 3000 then f_Walker_goRepeat_13 o K K.1 0 (B 3 (F 11 l0 0) 3 l1) l0 l1 l2 F B else none else none else none
set_option maxHeartbeats 4000000 in
set_option maxRecDepth 100000 in
theorem cb_Walker_goRepeat {l : Launch} {D : va_G} {ca : Nat → ClassId} {ad : Nat → Int → Nat → Nat} {L : List Nat} {aS vS : Nat → Nat} {sz : Nat} {K : zK} {d : Nat} {o : oT_CW} (ho : oH_CW K l D ca ad L aS vS d o)  {l0 : Int} {l1 : Int} {l2 : Int} {F F9 : zF} {B B9 : zB} {r : Int} (hf : fb_Walker_goRepeat o K l0 l1 l2 F B = some (r, F9, B9)) : Met l ({ cls := "StaveHouse$Walker", name := "goRepeat", desc := "(II)V" } : Jvm.MethodName) (Cond.code ({ cls := "StaveHouse$Walker", name := "goRepeat", desc := "(II)V" } : Jvm.MethodName) prog_13_method_8_code 6 (Option.none : Option Jvm.ClassFile.FieldType) :: wAll) ({ frames := d + 1 + 5, cells := 0, slots := 0, locals := 25 * (d + 1) + 95 } : Room) (va_Pc [.ref (ad 11 l0 0), .int (iI l1), .int (iI l2)] (zPre D ca ad lnC K.2 L aS vS F B sz)) (Q_Walker_goRepeat K D ca ad L r F9 B9 (zA L sz)) 0 0 (zA L sz) := by
  refine zMet (Qc := Q_Walker_goRepeat K D ca ad L r F9 B9) (lv := [(0, .ref (ad 11 l0 0)), (1, .int (iI l1)), (2, .int (iI l2))]) (by decide) (Nat.le_of_ble_eq_true rfl) rfl (fun A p e s m below meth c ls X hZ hS hl => ?_)
  obtain ⟨hx, hb, hr, hml, hown, hts, hlk, hK, hA, hL, hX⟩ := id X
  replace hf : (if 0 ≤ l0 ∧ l0 < K.2 11 then if 0 ≤ (F 11 l0 0) ∧ (F 11 l0 0) < K.2 3 then if 0 ≤ l1 ∧ l1 < 3000 then f_Walker_goRepeat_13 o K K.1 0 (B 3 (F 11 l0 0) 3 l1) l0 l1 l2 F B else none else none else none) = some (r, F9, B9) := hf
  refine lv_aload_n hx hb (D_42 W_prog_13_method_8_code_0 0 rfl rfl) rfl (lv_at hl 0 rfl) ?_
  obtain ⟨g1, hf⟩ := gif hf
  refine zget (ci := 11) (C := RX11) (T := TX11) (v := va_rf (zrf ad 3 (F 11 l0 0))) (k := 0) hx hb hts inW_11 hown hK hZ g1.1 g1.2 rfl (by decide) k_1_190 rfl (D_180 W_prog_13_method_8_code_0 1 rfl rfl rfl) ?_
  obtain ⟨g2, hf⟩ := gif hf
  refine zunrf g2.1 ?_
  refine zget (ci := 3) (C := RX3) (T := TX3) (v := .ref (ad 3 (F 11 l0 0) (3 + 1))) (k := 3) hx hb hts inW_3 hown hK hZ g2.1 g2.2 rfl (by decide) k_1_113 rfl (D_180 W_prog_13_method_8_code_0 4 rfl rfl rfl) ?_
  refine lv_iload_n hx hb (D_27 W_prog_13_method_8_code_0 7 rfl rfl) rfl (lv_at hl 1 rfl) ?_
  obtain ⟨g3, hf⟩ := gif hf
  refine zald (ci := 3) (k := 3) hx hb hK rfl hZ g2.1 g2.2 rfl (Nat.le_of_ble_eq_true rfl) g3.1 g3.2 (D_46 W_prog_13_method_8_code_0 8 rfl rfl) ?_
  refine lv_istore_n (lv' := [(3, .int (iI (B 3 (F 11 l0 0) 3 l1))), (0, .ref (ad 11 l0 0)), (1, .int (iI l1)), (2, .int (iI l2))]) hx hb (D_62 W_prog_13_method_8_code_0 9 rfl rfl) rfl hl (by decide) rfl (fun ls hl => ?_)
  refine lv_iconst (v := iI 0) hx hb (D_3 W_prog_13_method_8_code_0 10 rfl rfl) rfl ?_
  refine lv_istore (lv' := [(4, .int (iI 0)), (3, .int (iI (B 3 (F 11 l0 0) 3 l1))), (0, .ref (ad 11 l0 0)), (1, .int (iI l1)), (2, .int (iI l2))]) hx hb (D_54 W_prog_13_method_8_code_0 11 rfl rfl) hl (by decide) rfl (fun ls hl => ?_)
  exact b_Walker_goRepeat_13 X ho hf hZ hS (lv_sub hl [0, 1, 2, 3, 4] rfl)

def fb_Walker_goCarried (o : oT_CW) (K : zK) (l0 : Int) (l1 : Int) (l2 : Int) (l3 : Int) (F : zF) (B : zB) : zO := if 0 ≤ l0 ∧ l0 < K.2 11 then if r32 (F 11 l0 18) then (if (F 11 l0 18) < 64 then if 0 ≤ (F 11 l0 18) ∧ (F 11 l0 18) < 64 then if 0 ≤ (F 11 l0 0) ∧ (F 11 l0 0) < K.2 3 then if 0 ≤ l2 ∧ l2 < 3000 then zbind (o.1 l0 ((zup4 (zup4 (zup4 B 11 l0 15 (F 11 l0 18) l1) 11 l0 16 (F 11 l0 18) ((zup4 B 11 l0 15 (F 11 l0 18) l1) 3 (F 11 l0 0) 2 l2)) 11 l0 17 (F 11 l0 18) ((zup4 (zup4 B 11 l0 15 (F 11 l0 18) l1) 11 l0 16 (F 11 l0 18) ((zup4 B 11 l0 15 (F 11 l0 18) l1) 3 (F 11 l0 0) 2 l2)) 3 (F 11 l0 0) 3 l2)) 3 (F 11 l0 0) 4 l2) (l3 + 1) (zup3 F 11 l0 18 ((F 11 l0 18) + 1)) (zup4 (zup4 (zup4 B 11 l0 15 (F 11 l0 18) l1) 11 l0 16 (F 11 l0 18) ((zup4 B 11 l0 15 (F 11 l0 18) l1) 3 (F 11 l0 0) 2 l2)) 11 l0 17 (F 11 l0 18) ((zup4 (zup4 B 11 l0 15 (F 11 l0 18) l1) 11 l0 16 (F 11 l0 18) ((zup4 B 11 l0 15 (F 11 l0 18) l1) 3 (F 11 l0 0) 2 l2)) 3 (F 11 l0 0) 3 l2))) (fun r11 F11 B11 => some (0, (zup3 F11 11 l0 18 ((F11 11 l0 18) - 1)), B11)) else none else none else none else some (0, F, B)) else none else none
set_option maxHeartbeats 4000000 in
set_option maxRecDepth 100000 in
theorem cb_Walker_goCarried {l : Launch} {D : va_G} {ca : Nat → ClassId} {ad : Nat → Int → Nat → Nat} {L : List Nat} {aS vS : Nat → Nat} {sz : Nat} {K : zK} {d : Nat} {o : oT_CW} (ho : oH_CW K l D ca ad L aS vS d o)  {l0 : Int} {l1 : Int} {l2 : Int} {l3 : Int} {F F9 : zF} {B B9 : zB} {r : Int} (hf : fb_Walker_goCarried o K l0 l1 l2 l3 F B = some (r, F9, B9)) : Met l ({ cls := "StaveHouse$Walker", name := "goCarried", desc := "(III)V" } : Jvm.MethodName) (Cond.code ({ cls := "StaveHouse$Walker", name := "goCarried", desc := "(III)V" } : Jvm.MethodName) prog_13_method_9_code 4 (Option.none : Option Jvm.ClassFile.FieldType) :: wAll) ({ frames := d + 1 + 5, cells := 0, slots := 0, locals := 25 * (d + 1) + 95 } : Room) (va_Pc [.ref (ad 11 l0 0), .int (iI l1), .int (iI l2), .int (iI l3)] (zPre D ca ad lnC K.2 L aS vS F B sz)) (Q_Walker_goCarried K D ca ad L r F9 B9 (zA L sz)) 0 0 (zA L sz) := by
  refine zMet (Qc := Q_Walker_goCarried K D ca ad L r F9 B9) (lv := [(0, .ref (ad 11 l0 0)), (1, .int (iI l1)), (2, .int (iI l2)), (3, .int (iI l3))]) (by decide) (Nat.le_of_ble_eq_true rfl) rfl (fun A p e s m below meth c ls X hZ hS hl => ?_)
  obtain ⟨hx, hb, hr, hml, hown, hts, hlk, hK, hA, hL, hX⟩ := id X
  replace hf : (if 0 ≤ l0 ∧ l0 < K.2 11 then if r32 (F 11 l0 18) then (if (F 11 l0 18) < 64 then if 0 ≤ (F 11 l0 18) ∧ (F 11 l0 18) < 64 then if 0 ≤ (F 11 l0 0) ∧ (F 11 l0 0) < K.2 3 then if 0 ≤ l2 ∧ l2 < 3000 then zbind (o.1 l0 ((zup4 (zup4 (zup4 B 11 l0 15 (F 11 l0 18) l1) 11 l0 16 (F 11 l0 18) ((zup4 B 11 l0 15 (F 11 l0 18) l1) 3 (F 11 l0 0) 2 l2)) 11 l0 17 (F 11 l0 18) ((zup4 (zup4 B 11 l0 15 (F 11 l0 18) l1) 11 l0 16 (F 11 l0 18) ((zup4 B 11 l0 15 (F 11 l0 18) l1) 3 (F 11 l0 0) 2 l2)) 3 (F 11 l0 0) 3 l2)) 3 (F 11 l0 0) 4 l2) (l3 + 1) (zup3 F 11 l0 18 ((F 11 l0 18) + 1)) (zup4 (zup4 (zup4 B 11 l0 15 (F 11 l0 18) l1) 11 l0 16 (F 11 l0 18) ((zup4 B 11 l0 15 (F 11 l0 18) l1) 3 (F 11 l0 0) 2 l2)) 11 l0 17 (F 11 l0 18) ((zup4 (zup4 B 11 l0 15 (F 11 l0 18) l1) 11 l0 16 (F 11 l0 18) ((zup4 B 11 l0 15 (F 11 l0 18) l1) 3 (F 11 l0 0) 2 l2)) 3 (F 11 l0 0) 3 l2))) (fun r11 F11 B11 => some (0, (zup3 F11 11 l0 18 ((F11 11 l0 18) - 1)), B11)) else none else none else none else some (0, F, B)) else none else none) = some (r, F9, B9) := hf
  refine lv_aload_n hx hb (D_42 W_prog_13_method_9_code_0 0 rfl rfl) rfl (lv_at hl 0 rfl) ?_
  obtain ⟨g1, hf⟩ := gif hf
  refine zget (ci := 11) (C := RX11) (T := TX11) (v := .int (iI (F 11 l0 18))) (k := 18) hx hb hts inW_11 hown hK hZ g1.1 g1.2 rfl (by decide) k_1_208 rfl (D_180 W_prog_13_method_9_code_0 1 rfl rfl rfl) ?_
  refine lv_bipush (v := iI 64) hx hb (D_16 W_prog_13_method_9_code_0 4 rfl rfl rfl) (by decide) ?_
  obtain ⟨g2, hf⟩ := gif hf
  refine zlt (tgt := 10) hx hb g2 (by decide) (D_161 W_prog_13_method_9_code_0 6 rfl rfl rfl) (by decide) (fun h3 => ?_) (fun h3 => ?_)
  · replace hf := gpos hf h3
    refine lv_aload_n hx hb (D_42 W_prog_13_method_9_code_0 10 rfl rfl) rfl (lv_at hl 0 rfl) ?_
    refine zget (ci := 11) (C := RX11) (T := TX11) (v := .ref (ad 11 l0 (15 + 1))) (k := 15) hx hb hts inW_11 hown hK hZ g1.1 g1.2 rfl (by decide) k_1_205 rfl (D_180 W_prog_13_method_9_code_0 11 rfl rfl rfl) ?_
    refine lv_aload_n hx hb (D_42 W_prog_13_method_9_code_0 14 rfl rfl) rfl (lv_at hl 0 rfl) ?_
    refine zget (ci := 11) (C := RX11) (T := TX11) (v := .int (iI (F 11 l0 18))) (k := 18) hx hb hts inW_11 hown hK hZ g1.1 g1.2 rfl (by decide) k_1_208 rfl (D_180 W_prog_13_method_9_code_0 15 rfl rfl rfl) ?_
    refine lv_iload_n hx hb (D_27 W_prog_13_method_9_code_0 18 rfl rfl) rfl (lv_at hl 1 rfl) ?_
    obtain ⟨g4, hf⟩ := gif hf
    refine zast (ci := 11) (k := 15) hx hb hK rfl hZ hS g1.1 g1.2 rfl (Nat.le_of_ble_eq_true rfl) g4.1 g4.2 (D_79 W_prog_13_method_9_code_0 19 rfl rfl) (fun H5 locs5 hZ5 hS5 => ?_)
    refine lv_aload_n hx hb (D_42 W_prog_13_method_9_code_0 20 rfl rfl) rfl (lv_at hl 0 rfl) ?_
    refine zget (ci := 11) (C := RX11) (T := TX11) (v := .ref (ad 11 l0 (16 + 1))) (k := 16) hx hb hts inW_11 hown hK hZ5 g1.1 g1.2 rfl (by decide) k_1_206 rfl (D_180 W_prog_13_method_9_code_0 21 rfl rfl rfl) ?_
    refine lv_aload_n hx hb (D_42 W_prog_13_method_9_code_0 24 rfl rfl) rfl (lv_at hl 0 rfl) ?_
    refine zget (ci := 11) (C := RX11) (T := TX11) (v := .int (iI (F 11 l0 18))) (k := 18) hx hb hts inW_11 hown hK hZ5 g1.1 g1.2 rfl (by decide) k_1_208 rfl (D_180 W_prog_13_method_9_code_0 25 rfl rfl rfl) ?_
    refine lv_aload_n hx hb (D_42 W_prog_13_method_9_code_0 28 rfl rfl) rfl (lv_at hl 0 rfl) ?_
    refine zget (ci := 11) (C := RX11) (T := TX11) (v := va_rf (zrf ad 3 (F 11 l0 0))) (k := 0) hx hb hts inW_11 hown hK hZ5 g1.1 g1.2 rfl (by decide) k_1_190 rfl (D_180 W_prog_13_method_9_code_0 29 rfl rfl rfl) ?_
    obtain ⟨g6, hf⟩ := gif hf
    refine zunrf g6.1 ?_
    refine zget (ci := 3) (C := RX3) (T := TX3) (v := .ref (ad 3 (F 11 l0 0) (2 + 1))) (k := 2) hx hb hts inW_3 hown hK hZ5 g6.1 g6.2 rfl (by decide) k_1_111 rfl (D_180 W_prog_13_method_9_code_32 0 rfl rfl rfl) ?_
    refine lv_iload_n hx hb (D_28 W_prog_13_method_9_code_32 3 rfl rfl) rfl (lv_at hl 2 rfl) ?_
    obtain ⟨g7, hf⟩ := gif hf
    refine zald (ci := 3) (k := 2) hx hb hK rfl hZ5 g6.1 g6.2 rfl (Nat.le_of_ble_eq_true rfl) g7.1 g7.2 (D_46 W_prog_13_method_9_code_32 4 rfl rfl) ?_
    refine zast (ci := 11) (k := 16) hx hb hK rfl hZ5 hS5 g1.1 g1.2 rfl (Nat.le_of_ble_eq_true rfl) g4.1 g4.2 (D_79 W_prog_13_method_9_code_32 5 rfl rfl) (fun H8 locs8 hZ8 hS8 => ?_)
    refine lv_aload_n hx hb (D_42 W_prog_13_method_9_code_32 6 rfl rfl) rfl (lv_at hl 0 rfl) ?_
    refine zget (ci := 11) (C := RX11) (T := TX11) (v := .ref (ad 11 l0 (17 + 1))) (k := 17) hx hb hts inW_11 hown hK hZ8 g1.1 g1.2 rfl (by decide) k_1_207 rfl (D_180 W_prog_13_method_9_code_32 7 rfl rfl rfl) ?_
    refine lv_aload_n hx hb (D_42 W_prog_13_method_9_code_32 10 rfl rfl) rfl (lv_at hl 0 rfl) ?_
    refine zget (ci := 11) (C := RX11) (T := TX11) (v := .int (iI (F 11 l0 18))) (k := 18) hx hb hts inW_11 hown hK hZ8 g1.1 g1.2 rfl (by decide) k_1_208 rfl (D_180 W_prog_13_method_9_code_32 11 rfl rfl rfl) ?_
    refine lv_aload_n hx hb (D_42 W_prog_13_method_9_code_32 14 rfl rfl) rfl (lv_at hl 0 rfl) ?_
    refine zget (ci := 11) (C := RX11) (T := TX11) (v := va_rf (zrf ad 3 (F 11 l0 0))) (k := 0) hx hb hts inW_11 hown hK hZ8 g1.1 g1.2 rfl (by decide) k_1_190 rfl (D_180 W_prog_13_method_9_code_32 15 rfl rfl rfl) ?_
    refine zunrf g6.1 ?_
    refine zget (ci := 3) (C := RX3) (T := TX3) (v := .ref (ad 3 (F 11 l0 0) (3 + 1))) (k := 3) hx hb hts inW_3 hown hK hZ8 g6.1 g6.2 rfl (by decide) k_1_113 rfl (D_180 W_prog_13_method_9_code_32 18 rfl rfl rfl) ?_
    refine lv_iload_n hx hb (D_28 W_prog_13_method_9_code_32 21 rfl rfl) rfl (lv_at hl 2 rfl) ?_
    refine zald (ci := 3) (k := 3) hx hb hK rfl hZ8 g6.1 g6.2 rfl (Nat.le_of_ble_eq_true rfl) g7.1 g7.2 (D_46 W_prog_13_method_9_code_32 22 rfl rfl) ?_
    refine zast (ci := 11) (k := 17) hx hb hK rfl hZ8 hS8 g1.1 g1.2 rfl (Nat.le_of_ble_eq_true rfl) g4.1 g4.2 (D_79 W_prog_13_method_9_code_32 23 rfl rfl) (fun H9 locs9 hZ9 hS9 => ?_)
    refine lv_aload_n hx hb (D_42 W_prog_13_method_9_code_32 24 rfl rfl) rfl (lv_at hl 0 rfl) ?_
    refine lv_dup hx hb (D_89 W_prog_13_method_9_code_32 25 rfl rfl) rfl ?_
    refine zget (ci := 11) (C := RX11) (T := TX11) (v := .int (iI (F 11 l0 18))) (k := 18) hx hb hts inW_11 hown hK hZ9 g1.1 g1.2 rfl (by decide) k_1_208 rfl (D_180 W_prog_13_method_9_code_32 26 rfl rfl rfl) ?_
    refine lv_iconst (v := iI 1) hx hb (D_4 W_prog_13_method_9_code_32 29 rfl rfl) rfl ?_
    refine zadd hx hb (D_96 W_prog_13_method_9_code_32 30 rfl rfl) ?_
    refine zput (ci := 11) (C := RX11) (T := TX11) (k := 18) (v := ((F 11 l0 18) + 1)) (w := .int (iI ((F 11 l0 18) + 1))) hx hb hts inW_11 tyX11 tyX11_ok nmX11 hown hK hZ9 hS9 g1.1 g1.2 rfl (by decide) k_1_208 rfl (fun G h => congrArg (fun q => Value.int (iI q)) h) rfl rfl (zno (by decide)) (D_181 W_prog_13_method_9_code_32 31 rfl rfl rfl) (fun H10 locs10 hZ10 hS10 => ?_)
    refine lv_aload_n hx hb (D_42 W_prog_13_method_9_code_64 2 rfl rfl) rfl (lv_at hl 0 rfl) ?_
    refine lv_aload_n hx hb (D_42 W_prog_13_method_9_code_64 3 rfl rfl) rfl (lv_at hl 0 rfl) ?_
    refine zget (ci := 11) (C := RX11) (T := TX11) (v := va_rf (zrf ad 3 (F 11 l0 0))) (k := 0) hx hb hts inW_11 hown hK hZ10 g1.1 g1.2 rfl (by decide) k_1_190 (congrArg (fun q : Int => va_rf (zrf ad 3 q)) (show (zup3 F 11 l0 18 ((F 11 l0 18) + 1)) 11 l0 0 = F 11 l0 0 by simp [zup3])) (D_180 W_prog_13_method_9_code_64 4 rfl rfl rfl) ?_
    refine zunrf g6.1 ?_
    refine zget (ci := 3) (C := RX3) (T := TX3) (v := .ref (ad 3 (F 11 l0 0) (4 + 1))) (k := 4) hx hb hts inW_3 hown hK hZ10 g6.1 g6.2 rfl (by decide) k_1_115 rfl (D_180 W_prog_13_method_9_code_64 7 rfl rfl rfl) ?_
    refine lv_iload_n hx hb (D_28 W_prog_13_method_9_code_64 10 rfl rfl) rfl (lv_at hl 2 rfl) ?_
    refine zald (ci := 3) (k := 4) hx hb hK rfl hZ10 g6.1 g6.2 rfl (Nat.le_of_ble_eq_true rfl) g7.1 g7.2 (D_46 W_prog_13_method_9_code_64 11 rfl rfl) ?_
    refine lv_iload_n hx hb (D_29 W_prog_13_method_9_code_64 12 rfl rfl) rfl (lv_at hl 3 rfl) ?_
    refine lv_iconst (v := iI 1) hx hb (D_4 W_prog_13_method_9_code_64 13 rfl rfl) rfl ?_
    refine zadd hx hb (D_96 W_prog_13_method_9_code_64 14 rfl rfl) ?_
    obtain ⟨r11, F11, B11, hc11, hf⟩ := gbind hf
    refine va_callv (va_runV (As := [.int (iI ((zup4 (zup4 (zup4 B 11 l0 15 (F 11 l0 18) l1) 11 l0 16 (F 11 l0 18) ((zup4 B 11 l0 15 (F 11 l0 18) l1) 3 (F 11 l0 0) 2 l2)) 11 l0 17 (F 11 l0 18) ((zup4 (zup4 B 11 l0 15 (F 11 l0 18) l1) 11 l0 16 (F 11 l0 18) ((zup4 B 11 l0 15 (F 11 l0 18) l1) 3 (F 11 l0 0) 2 l2)) 3 (F 11 l0 0) 3 l2)) 3 (F 11 l0 0) 4 l2)), .int (iI (l3 + 1))]) (rest := []) ⟨hx, hb, hml, hown, hts⟩ (ho.1 hc11) (cwV 2 hts (gdV k_4_196 k_4_198 ks_34 k_1_6 k_4_199) rfl rfl rfl (by decide +kernel) ⟨by dsimp only; omega, by dsimp only; omega⟩) (zPV X hZ10 hS10 (ci := 11) g1.1 g1.2 (r := (RX11, TX11, 19)) rfl [.int (iI ((zup4 (zup4 (zup4 B 11 l0 15 (F 11 l0 18) l1) 11 l0 16 (F 11 l0 18) ((zup4 B 11 l0 15 (F 11 l0 18) l1) 3 (F 11 l0 0) 2 l2)) 11 l0 17 (F 11 l0 18) ((zup4 (zup4 B 11 l0 15 (F 11 l0 18) l1) 11 l0 16 (F 11 l0 18) ((zup4 B 11 l0 15 (F 11 l0 18) l1) 3 (F 11 l0 0) 2 l2)) 3 (F 11 l0 0) 3 l2)) 3 (F 11 l0 0) 4 l2)), .int (iI (l3 + 1))]) rfl rfl hl.1 rfl (lv_room (Nat.le_of_ble_eq_true rfl)) (D_182 W_prog_13_method_9_code_64 15 rfl rfl rfl) ⟨Nat.le_of_ble_eq_true rfl, Nat.le_of_ble_eq_true rfl⟩) hS10 (fun q _ h => zAin X hS10 q h) (zAin X hS10) (fun u11 t11 H11 locs11 ht11 hv11 hw11 hB11 hz11 hk11 hS11 => ?_)
    have hZ11 := zBack X ht11 hB11
    refine lv_aload_n hx hb (D_42 W_prog_13_method_9_code_64 18 rfl rfl) rfl (lv_at hl 0 rfl) ?_
    refine lv_dup hx hb (D_89 W_prog_13_method_9_code_64 19 rfl rfl) rfl ?_
    refine zget (ci := 11) (C := RX11) (T := TX11) (v := .int (iI (F11 11 l0 18))) (k := 18) hx hb hts inW_11 hown hK hZ11 g1.1 g1.2 rfl (by decide) k_1_208 rfl (D_180 W_prog_13_method_9_code_64 20 rfl rfl rfl) ?_
    refine lv_iconst (v := iI 1) hx hb (D_4 W_prog_13_method_9_code_64 23 rfl rfl) rfl ?_
    refine zsub hx hb (D_100 W_prog_13_method_9_code_64 24 rfl rfl) ?_
    refine zput (ci := 11) (C := RX11) (T := TX11) (k := 18) (v := ((F11 11 l0 18) - 1)) (w := .int (iI ((F11 11 l0 18) - 1))) hx hb hts inW_11 tyX11 tyX11_ok nmX11 hown hK hZ11 hS11 g1.1 g1.2 rfl (by decide) k_1_208 rfl (fun G h => congrArg (fun q => Value.int (iI q)) h) rfl rfl (zno (by decide)) (D_181 W_prog_13_method_9_code_64 25 rfl rfl rfl) (fun H12 locs12 hZ12 hS12 => ?_)
    cases hf
    exact W.vret hx hb hr (fun t ht hW => ⟨⟨(), rfl, trivial, by rw [ht]; exact hZ12, va_K.moved hW.alike hK⟩, hS12.F ht⟩) hS12.2.2 (D_177 W_prog_13_method_9_code_64 28 rfl rfl) hlk
  · replace hf := gneg hf h3
    cases hf
    exact W.vret hx hb hr (fun t ht hW => ⟨⟨(), rfl, trivial, by rw [ht]; exact hZ, va_K.moved hW.alike hK⟩, hS.F ht⟩) hS.2.2 (D_177 W_prog_13_method_9_code_0 9 rfl rfl) hlk

def fb_Walker_goBack (o : oT_CW) (K : zK) (l0 : Int) (l1 : Int) (l2 : Int) (F : zF) (B : zB) : zO := if 0 ≤ l0 ∧ l0 < K.2 11 then if 0 ≤ (F 11 l0 1) ∧ (F 11 l0 1) < K.2 4 then zbind (o.1 l0 l1 (l2 + 1) (zup3 F 11 l0 5 ((F 11 l0 5) + 1)) B) (fun r4 F4 B4 => if 0 ≤ (F4 11 l0 1) ∧ (F4 11 l0 1) < K.2 4 then zbind (f_Part_turn K (F4 11 l0 1) (F 4 (F 11 l0 1) 6) (zup3 F4 11 l0 5 ((F4 11 l0 5) - 1)) B4) (fun r7 F7 B7 => some (0, F7, B7)) else none) else none else none
set_option maxHeartbeats 4000000 in
set_option maxRecDepth 100000 in
theorem cb_Walker_goBack {l : Launch} {D : va_G} {ca : Nat → ClassId} {ad : Nat → Int → Nat → Nat} {L : List Nat} {aS vS : Nat → Nat} {sz : Nat} {K : zK} {d : Nat} {o : oT_CW} (ho : oH_CW K l D ca ad L aS vS d o)  {l0 : Int} {l1 : Int} {l2 : Int} {F F9 : zF} {B B9 : zB} {r : Int} (hf : fb_Walker_goBack o K l0 l1 l2 F B = some (r, F9, B9)) : Met l ({ cls := "StaveHouse$Walker", name := "goBack", desc := "(II)V" } : Jvm.MethodName) (Cond.code ({ cls := "StaveHouse$Walker", name := "goBack", desc := "(II)V" } : Jvm.MethodName) prog_13_method_10_code 4 (Option.none : Option Jvm.ClassFile.FieldType) :: wAll) ({ frames := d + 1 + 5, cells := 0, slots := 0, locals := 25 * (d + 1) + 95 } : Room) (va_Pc [.ref (ad 11 l0 0), .int (iI l1), .int (iI l2)] (zPre D ca ad lnC K.2 L aS vS F B sz)) (Q_Walker_goBack K D ca ad L r F9 B9 (zA L sz)) 0 0 (zA L sz) := by
  refine zMet (Qc := Q_Walker_goBack K D ca ad L r F9 B9) (lv := [(0, .ref (ad 11 l0 0)), (1, .int (iI l1)), (2, .int (iI l2))]) (by decide) (Nat.le_of_ble_eq_true rfl) rfl (fun A p e s m below meth c ls X hZ hS hl => ?_)
  obtain ⟨hx, hb, hr, hml, hown, hts, hlk, hK, hA, hL, hX⟩ := id X
  replace hf : (if 0 ≤ l0 ∧ l0 < K.2 11 then if 0 ≤ (F 11 l0 1) ∧ (F 11 l0 1) < K.2 4 then zbind (o.1 l0 l1 (l2 + 1) (zup3 F 11 l0 5 ((F 11 l0 5) + 1)) B) (fun r4 F4 B4 => if 0 ≤ (F4 11 l0 1) ∧ (F4 11 l0 1) < K.2 4 then zbind (f_Part_turn K (F4 11 l0 1) (F 4 (F 11 l0 1) 6) (zup3 F4 11 l0 5 ((F4 11 l0 5) - 1)) B4) (fun r7 F7 B7 => some (0, F7, B7)) else none) else none else none) = some (r, F9, B9) := hf
  refine lv_aload_n hx hb (D_42 W_prog_13_method_10_code_0 0 rfl rfl) rfl (lv_at hl 0 rfl) ?_
  obtain ⟨g1, hf⟩ := gif hf
  refine zget (ci := 11) (C := RX11) (T := TX11) (v := va_rf (zrf ad 4 (F 11 l0 1))) (k := 1) hx hb hts inW_11 hown hK hZ g1.1 g1.2 rfl (by decide) k_1_191 rfl (D_180 W_prog_13_method_10_code_0 1 rfl rfl rfl) ?_
  obtain ⟨g2, hf⟩ := gif hf
  refine zunrf g2.1 ?_
  refine zget (ci := 4) (C := RX4) (T := TX4) (v := .int (iI (F 4 (F 11 l0 1) 6))) (k := 6) hx hb hts inW_4 hown hK hZ g2.1 g2.2 rfl (by decide) k_4_139 rfl (D_180 W_prog_13_method_10_code_0 4 rfl rfl rfl) ?_
  refine lv_istore_n (lv' := [(3, .int (iI (F 4 (F 11 l0 1) 6))), (0, .ref (ad 11 l0 0)), (1, .int (iI l1)), (2, .int (iI l2))]) hx hb (D_62 W_prog_13_method_10_code_0 7 rfl rfl) rfl hl (by decide) rfl (fun ls hl => ?_)
  refine lv_aload_n hx hb (D_42 W_prog_13_method_10_code_0 8 rfl rfl) rfl (lv_at hl 1 rfl) ?_
  refine lv_dup hx hb (D_89 W_prog_13_method_10_code_0 9 rfl rfl) rfl ?_
  refine zget (ci := 11) (C := RX11) (T := TX11) (v := .int (iI (F 11 l0 5))) (k := 5) hx hb hts inW_11 hown hK hZ g1.1 g1.2 rfl (by decide) k_1_195 rfl (D_180 W_prog_13_method_10_code_0 10 rfl rfl rfl) ?_
  refine lv_iconst (v := iI 1) hx hb (D_4 W_prog_13_method_10_code_0 13 rfl rfl) rfl ?_
  refine zadd hx hb (D_96 W_prog_13_method_10_code_0 14 rfl rfl) ?_
  refine zput (ci := 11) (C := RX11) (T := TX11) (k := 5) (v := ((F 11 l0 5) + 1)) (w := .int (iI ((F 11 l0 5) + 1))) hx hb hts inW_11 tyX11 tyX11_ok nmX11 hown hK hZ hS g1.1 g1.2 rfl (by decide) k_1_195 rfl (fun G h => congrArg (fun q => Value.int (iI q)) h) rfl rfl (zno (by decide)) (D_181 W_prog_13_method_10_code_0 15 rfl rfl rfl) (fun H3 locs3 hZ3 hS3 => ?_)
  refine lv_aload_n hx hb (D_42 W_prog_13_method_10_code_0 18 rfl rfl) rfl (lv_at hl 1 rfl) ?_
  refine lv_iload_n hx hb (D_27 W_prog_13_method_10_code_0 19 rfl rfl) rfl (lv_at hl 2 rfl) ?_
  refine lv_iload_n hx hb (D_28 W_prog_13_method_10_code_0 20 rfl rfl) rfl (lv_at hl 3 rfl) ?_
  refine lv_iconst (v := iI 1) hx hb (D_4 W_prog_13_method_10_code_0 21 rfl rfl) rfl ?_
  refine zadd hx hb (D_96 W_prog_13_method_10_code_0 22 rfl rfl) ?_
  obtain ⟨r4, F4, B4, hc4, hf⟩ := gbind hf
  refine va_callv (va_runV (As := [.int (iI l1), .int (iI (l2 + 1))]) (rest := []) ⟨hx, hb, hml, hown, hts⟩ (ho.1 hc4) (cwV 2 hts (gdV k_4_196 k_4_198 ks_34 k_1_6 k_4_199) rfl rfl rfl (by decide +kernel) ⟨by dsimp only; omega, by dsimp only; omega⟩) (zPV X hZ3 hS3 (ci := 11) g1.1 g1.2 (r := (RX11, TX11, 19)) rfl [.int (iI l1), .int (iI (l2 + 1))]) rfl rfl hl.1 rfl (lv_room (Nat.le_of_ble_eq_true rfl)) (D_182 W_prog_13_method_10_code_0 23 rfl rfl rfl) ⟨Nat.le_of_ble_eq_true rfl, Nat.le_of_ble_eq_true rfl⟩) hS3 (fun q _ h => zAin X hS3 q h) (zAin X hS3) (fun u4 t4 H4 locs4 ht4 hv4 hw4 hB4 hz4 hk4 hS4 => ?_)
  have hZ4 := zBack X ht4 hB4
  refine lv_aload_n hx hb (D_42 W_prog_13_method_10_code_0 26 rfl rfl) rfl (lv_at hl 1 rfl) ?_
  refine lv_dup hx hb (D_89 W_prog_13_method_10_code_0 27 rfl rfl) rfl ?_
  refine zget (ci := 11) (C := RX11) (T := TX11) (v := .int (iI (F4 11 l0 5))) (k := 5) hx hb hts inW_11 hown hK hZ4 g1.1 g1.2 rfl (by decide) k_1_195 rfl (D_180 W_prog_13_method_10_code_0 28 rfl rfl rfl) ?_
  refine lv_iconst (v := iI 1) hx hb (D_4 W_prog_13_method_10_code_0 31 rfl rfl) rfl ?_
  refine zsub hx hb (D_100 W_prog_13_method_10_code_32 0 rfl rfl) ?_
  refine zput (ci := 11) (C := RX11) (T := TX11) (k := 5) (v := ((F4 11 l0 5) - 1)) (w := .int (iI ((F4 11 l0 5) - 1))) hx hb hts inW_11 tyX11 tyX11_ok nmX11 hown hK hZ4 hS4 g1.1 g1.2 rfl (by decide) k_1_195 rfl (fun G h => congrArg (fun q => Value.int (iI q)) h) rfl rfl (zno (by decide)) (D_181 W_prog_13_method_10_code_32 1 rfl rfl rfl) (fun H5 locs5 hZ5 hS5 => ?_)
  refine lv_aload_n hx hb (D_42 W_prog_13_method_10_code_32 4 rfl rfl) rfl (lv_at hl 1 rfl) ?_
  refine zget (ci := 11) (C := RX11) (T := TX11) (v := va_rf (zrf ad 4 (F4 11 l0 1))) (k := 1) hx hb hts inW_11 hown hK hZ5 g1.1 g1.2 rfl (by decide) k_1_191 (congrArg (fun q : Int => va_rf (zrf ad 4 q)) (show (zup3 F4 11 l0 5 ((F4 11 l0 5) - 1)) 11 l0 1 = F4 11 l0 1 by simp [zup3])) (D_180 W_prog_13_method_10_code_32 5 rfl rfl rfl) ?_
  refine lv_iload_n hx hb (D_29 W_prog_13_method_10_code_32 8 rfl rfl) rfl (lv_at hl 0 rfl) ?_
  obtain ⟨g6, hf⟩ := gif hf
  refine W.eq (g2 := F0 m 41 ls [.int (iI (F 4 (F 11 l0 1) 6)), .ref (ad 4 (F4 11 l0 1) 0)]) (by rw [zrf_pos (ad := ad) (t := 4) g6.1]; try rfl) ?_
  obtain ⟨r7, F7, B7, hc7, hf⟩ := gbind hf
  refine va_callv (va_runV (As := [.int (iI (F 4 (F 11 l0 1) 6))]) (rest := []) ⟨hx, hb, hml, hown, hts⟩ (c_Part_turn (l := l) hc7) (cwV 1 hts (gdV k_5_11 k_5_12 k_5_13 k_1_18 k_5_14) rfl rfl rfl (by decide +kernel) ⟨by dsimp only; omega, by dsimp only; omega⟩) (zPV X hZ5 hS5 (ci := 4) g6.1 g6.2 (r := (RX4, TX4, 13)) rfl [.int (iI (F 4 (F 11 l0 1) 6))]) rfl rfl hl.1 rfl (lv_room (Nat.le_of_ble_eq_true rfl)) (D_182 W_prog_13_method_10_code_32 9 rfl rfl rfl) ⟨Nat.le_of_ble_eq_true rfl, Nat.le_of_ble_eq_true rfl⟩) hS5 (fun q _ h => zAin X hS5 q h) (zAin X hS5) (fun u7 t7 H7 locs7 ht7 hv7 hw7 hB7 hz7 hk7 hS7 => ?_)
  have hZ7 := zBack X ht7 hB7
  cases hf
  exact W.vret hx hb hr (fun t ht hW => ⟨⟨(), rfl, trivial, by rw [ht]; exact hZ7, va_K.moved hW.alike hK⟩, hS7.F ht⟩) hS7.2.2 (D_177 W_prog_13_method_10_code_32 12 rfl rfl) hlk

def gr_CW (K : zK) : Nat → oT_CW
  | 0 => (fun _ _ _ _ _ => none, fun _ _ _ _ _ => none, fun _ _ _ _ _ => none, fun _ _ _ _ _ => none, fun _ _ _ _ _ _ => none, fun _ _ _ _ _ => none)
  | d + 1 => (fun l0 l1 l2 F B => fb_Walker_goThrough (gr_CW K d) K l0 l1 l2 F B, fun l0 l1 l2 F B => fb_Walker_goItem (gr_CW K d) K l0 l1 l2 F B, fun l0 l1 l2 F B => fb_Walker_goBracket (gr_CW K d) K l0 l1 l2 F B, fun l0 l1 l2 F B => fb_Walker_goRepeat (gr_CW K d) K l0 l1 l2 F B, fun l0 l1 l2 l3 F B => fb_Walker_goCarried (gr_CW K d) K l0 l1 l2 l3 F B, fun l0 l1 l2 F B => fb_Walker_goBack (gr_CW K d) K l0 l1 l2 F B)
theorem gh_CW {l : Launch} {D : va_G} {ca : Nat → ClassId} {ad : Nat → Int → Nat → Nat} {L : List Nat} {aS vS : Nat → Nat} {K : zK} : ∀ d, oH_CW K l D ca ad L aS vS d (gr_CW K d) := by
  intro d
  induction d with
  | zero => exact ⟨(fun hf => by cases hf), (fun hf => by cases hf), (fun hf => by cases hf), (fun hf => by cases hf), (fun hf => by cases hf), (fun hf => by cases hf)⟩
  | succ d ih => exact ⟨(fun hf => cb_Walker_goThrough ih hf), (fun hf => cb_Walker_goItem ih hf), (fun hf => cb_Walker_goBracket ih hf), (fun hf => cb_Walker_goRepeat ih hf), (fun hf => cb_Walker_goCarried ih hf), (fun hf => cb_Walker_goBack ih hf)⟩
def f_Walker_goThrough (K : zK) (l0 : Int) (l1 : Int) (l2 : Int) (F : zF) (B : zB) : zO := (gr_CW K 200).1 l0 l1 l2 F B
theorem c_Walker_goThrough {l : Launch} {D : va_G} {ca : Nat → ClassId} {ad : Nat → Int → Nat → Nat} {L : List Nat} {aS vS : Nat → Nat} {sz : Nat} {K : zK} {l0 : Int} {l1 : Int} {l2 : Int} {F F9 : zF} {B B9 : zB} {r : Int} (hf : f_Walker_goThrough K l0 l1 l2 F B = some (r, F9, B9)) : Met l ({ cls := "StaveHouse$Walker", name := "goThrough", desc := "(II)V" } : Jvm.MethodName) (Cond.code ({ cls := "StaveHouse$Walker", name := "goThrough", desc := "(II)V" } : Jvm.MethodName) prog_13_method_4_code 5 (Option.none : Option Jvm.ClassFile.FieldType) :: wAll) ({ frames := 205, cells := 0, slots := 0, locals := 5095 } : Room) (va_Pc [.ref (ad 11 l0 0), .int (iI l1), .int (iI l2)] (zPre D ca ad lnC K.2 L aS vS F B sz)) (Q_Walker_goThrough K D ca ad L r F9 B9 (zA L sz)) 0 0 (zA L sz) := (gh_CW 200).1 hf
def f_Walker_goItem (K : zK) (l0 : Int) (l1 : Int) (l2 : Int) (F : zF) (B : zB) : zO := (gr_CW K 200).2.1 l0 l1 l2 F B
theorem c_Walker_goItem {l : Launch} {D : va_G} {ca : Nat → ClassId} {ad : Nat → Int → Nat → Nat} {L : List Nat} {aS vS : Nat → Nat} {sz : Nat} {K : zK} {l0 : Int} {l1 : Int} {l2 : Int} {F F9 : zF} {B B9 : zB} {r : Int} (hf : f_Walker_goItem K l0 l1 l2 F B = some (r, F9, B9)) : Met l ({ cls := "StaveHouse$Walker", name := "goItem", desc := "(II)V" } : Jvm.MethodName) (Cond.code ({ cls := "StaveHouse$Walker", name := "goItem", desc := "(II)V" } : Jvm.MethodName) prog_13_method_6_code 4 (Option.none : Option Jvm.ClassFile.FieldType) :: wAll) ({ frames := 205, cells := 0, slots := 0, locals := 5095 } : Room) (va_Pc [.ref (ad 11 l0 0), .int (iI l1), .int (iI l2)] (zPre D ca ad lnC K.2 L aS vS F B sz)) (Q_Walker_goItem K D ca ad L r F9 B9 (zA L sz)) 0 0 (zA L sz) := (gh_CW 200).2.1 hf
def f_Walker_goBracket (K : zK) (l0 : Int) (l1 : Int) (l2 : Int) (F : zF) (B : zB) : zO := (gr_CW K 200).2.2.1 l0 l1 l2 F B
theorem c_Walker_goBracket {l : Launch} {D : va_G} {ca : Nat → ClassId} {ad : Nat → Int → Nat → Nat} {L : List Nat} {aS vS : Nat → Nat} {sz : Nat} {K : zK} {l0 : Int} {l1 : Int} {l2 : Int} {F F9 : zF} {B B9 : zB} {r : Int} (hf : f_Walker_goBracket K l0 l1 l2 F B = some (r, F9, B9)) : Met l ({ cls := "StaveHouse$Walker", name := "goBracket", desc := "(II)V" } : Jvm.MethodName) (Cond.code ({ cls := "StaveHouse$Walker", name := "goBracket", desc := "(II)V" } : Jvm.MethodName) prog_13_method_7_code 5 (Option.none : Option Jvm.ClassFile.FieldType) :: wAll) ({ frames := 205, cells := 0, slots := 0, locals := 5095 } : Room) (va_Pc [.ref (ad 11 l0 0), .int (iI l1), .int (iI l2)] (zPre D ca ad lnC K.2 L aS vS F B sz)) (Q_Walker_goBracket K D ca ad L r F9 B9 (zA L sz)) 0 0 (zA L sz) := (gh_CW 200).2.2.1 hf
def f_Walker_goRepeat (K : zK) (l0 : Int) (l1 : Int) (l2 : Int) (F : zF) (B : zB) : zO := (gr_CW K 200).2.2.2.1 l0 l1 l2 F B
theorem c_Walker_goRepeat {l : Launch} {D : va_G} {ca : Nat → ClassId} {ad : Nat → Int → Nat → Nat} {L : List Nat} {aS vS : Nat → Nat} {sz : Nat} {K : zK} {l0 : Int} {l1 : Int} {l2 : Int} {F F9 : zF} {B B9 : zB} {r : Int} (hf : f_Walker_goRepeat K l0 l1 l2 F B = some (r, F9, B9)) : Met l ({ cls := "StaveHouse$Walker", name := "goRepeat", desc := "(II)V" } : Jvm.MethodName) (Cond.code ({ cls := "StaveHouse$Walker", name := "goRepeat", desc := "(II)V" } : Jvm.MethodName) prog_13_method_8_code 6 (Option.none : Option Jvm.ClassFile.FieldType) :: wAll) ({ frames := 205, cells := 0, slots := 0, locals := 5095 } : Room) (va_Pc [.ref (ad 11 l0 0), .int (iI l1), .int (iI l2)] (zPre D ca ad lnC K.2 L aS vS F B sz)) (Q_Walker_goRepeat K D ca ad L r F9 B9 (zA L sz)) 0 0 (zA L sz) := (gh_CW 200).2.2.2.1 hf
def f_Walker_goCarried (K : zK) (l0 : Int) (l1 : Int) (l2 : Int) (l3 : Int) (F : zF) (B : zB) : zO := (gr_CW K 200).2.2.2.2.1 l0 l1 l2 l3 F B
theorem c_Walker_goCarried {l : Launch} {D : va_G} {ca : Nat → ClassId} {ad : Nat → Int → Nat → Nat} {L : List Nat} {aS vS : Nat → Nat} {sz : Nat} {K : zK} {l0 : Int} {l1 : Int} {l2 : Int} {l3 : Int} {F F9 : zF} {B B9 : zB} {r : Int} (hf : f_Walker_goCarried K l0 l1 l2 l3 F B = some (r, F9, B9)) : Met l ({ cls := "StaveHouse$Walker", name := "goCarried", desc := "(III)V" } : Jvm.MethodName) (Cond.code ({ cls := "StaveHouse$Walker", name := "goCarried", desc := "(III)V" } : Jvm.MethodName) prog_13_method_9_code 4 (Option.none : Option Jvm.ClassFile.FieldType) :: wAll) ({ frames := 205, cells := 0, slots := 0, locals := 5095 } : Room) (va_Pc [.ref (ad 11 l0 0), .int (iI l1), .int (iI l2), .int (iI l3)] (zPre D ca ad lnC K.2 L aS vS F B sz)) (Q_Walker_goCarried K D ca ad L r F9 B9 (zA L sz)) 0 0 (zA L sz) := (gh_CW 200).2.2.2.2.1 hf
def f_Walker_goBack (K : zK) (l0 : Int) (l1 : Int) (l2 : Int) (F : zF) (B : zB) : zO := (gr_CW K 200).2.2.2.2.2 l0 l1 l2 F B
theorem c_Walker_goBack {l : Launch} {D : va_G} {ca : Nat → ClassId} {ad : Nat → Int → Nat → Nat} {L : List Nat} {aS vS : Nat → Nat} {sz : Nat} {K : zK} {l0 : Int} {l1 : Int} {l2 : Int} {F F9 : zF} {B B9 : zB} {r : Int} (hf : f_Walker_goBack K l0 l1 l2 F B = some (r, F9, B9)) : Met l ({ cls := "StaveHouse$Walker", name := "goBack", desc := "(II)V" } : Jvm.MethodName) (Cond.code ({ cls := "StaveHouse$Walker", name := "goBack", desc := "(II)V" } : Jvm.MethodName) prog_13_method_10_code 4 (Option.none : Option Jvm.ClassFile.FieldType) :: wAll) ({ frames := 205, cells := 0, slots := 0, locals := 5095 } : Room) (va_Pc [.ref (ad 11 l0 0), .int (iI l1), .int (iI l2)] (zPre D ca ad lnC K.2 L aS vS F B sz)) (Q_Walker_goBack K D ca ad L r F9 B9 (zA L sz)) 0 0 (zA L sz) := (gh_CW 200).2.2.2.2.2 hf

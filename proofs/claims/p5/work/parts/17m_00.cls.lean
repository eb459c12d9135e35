theorem k_3_216 : (Jvm.Cond.methodLink "StaveHouse$Parser" (235 : Nat) ({ cls := "StaveHouse$Parser", name := "takeOpening", desc := "(C)Z" } : Jvm.MethodName)) ∈ wAll := wA_3 (j := 216) rfl rfl
theorem k_3_218 : (Jvm.Cond.instanceMethod ({ cls := "StaveHouse$Parser", name := "takeOpening", desc := "(C)Z" } : Jvm.MethodName)) ∈ wAll := wA_3 (j := 218) rfl rfl
theorem ks_11 : (Jvm.Cond.selects "StaveHouse$Parser" ({ cls := "StaveHouse$Parser", name := "takeOpening", desc := "(C)Z" } : Jvm.MethodName) ({ cls := "StaveHouse$Parser", name := "takeOpening", desc := "(C)Z" } : Jvm.MethodName)) ∈ wAll := wA_s (j := 11) rfl rfl
theorem k_3_219 : (Jvm.Cond.code ({ cls := "StaveHouse$Parser", name := "takeOpening", desc := "(C)Z" } : Jvm.MethodName) prog_5_method_17_code (2 : Nat) (Option.some Jvm.ClassFile.FieldType.boolean)) ∈ wAll := wA_3 (j := 219) rfl rfl
theorem k_3_175 : (Jvm.Cond.methodLink "StaveHouse$Parser" (166 : Nat) ({ cls := "StaveHouse$Parser", name := "newItem", desc := "(I)I" } : Jvm.MethodName)) ∈ wAll := wA_3 (j := 175) rfl rfl
theorem k_3_177 : (Jvm.Cond.instanceMethod ({ cls := "StaveHouse$Parser", name := "newItem", desc := "(I)I" } : Jvm.MethodName)) ∈ wAll := wA_3 (j := 177) rfl rfl
theorem ks_5 : (Jvm.Cond.selects "StaveHouse$Parser" ({ cls := "StaveHouse$Parser", name := "newItem", desc := "(I)I" } : Jvm.MethodName) ({ cls := "StaveHouse$Parser", name := "newItem", desc := "(I)I" } : Jvm.MethodName)) ∈ wAll := wA_s (j := 5) rfl rfl
theorem k_3_178 : (Jvm.Cond.code ({ cls := "StaveHouse$Parser", name := "newItem", desc := "(I)I" } : Jvm.MethodName) prog_5_method_16_code (3 : Nat) (Option.some Jvm.ClassFile.FieldType.int)) ∈ wAll := wA_3 (j := 178) rfl rfl
theorem k_1_195 : (Jvm.Cond.fieldLink "StaveHouse$Walker" (42 : Nat) "StaveHouse$Walker" "backs" "I") ∈ wAll := wA_1 (j := 195) rfl rfl
theorem k_1_115 : (Jvm.Cond.fieldLink "StaveHouse$Walker" (81 : Nat) "StaveHouse$Parser" "child" "[I") ∈ wAll := wA_1 (j := 115) rfl rfl
theorem k_1_107 : (Jvm.Cond.fieldLink "StaveHouse$Walker" (111 : Nat) "StaveHouse$Parser" "kind" "[I") ∈ wAll := wA_1 (j := 107) rfl rfl
theorem k_2_133 : (Jvm.Cond.fieldLink "StaveHouse" (48 : Nat) "StaveHouse" "scribe" "LStaveHouse$Scribe;") ∈ wAll := wA_2 (j := 133) rfl rfl
theorem k_8_143 : (Jvm.Cond.methodLink "StaveHouse$Scribe" (49 : Nat) ({ cls := "StaveHouse$ByteRow", name := "clear", desc := "()V" } : Jvm.MethodName)) ∈ wAll := wA_8 (j := 143) rfl rfl
theorem k_3_224 : (Jvm.Cond.methodLink "StaveHouse$Parser" (244 : Nat) ({ cls := "StaveHouse$Parser", name := "itemSort", desc := "()I" } : Jvm.MethodName)) ∈ wAll := wA_3 (j := 224) rfl rfl
theorem k_3_226 : (Jvm.Cond.instanceMethod ({ cls := "StaveHouse$Parser", name := "itemSort", desc := "()I" } : Jvm.MethodName)) ∈ wAll := wA_3 (j := 226) rfl rfl
theorem ks_13 : (Jvm.Cond.selects "StaveHouse$Parser" ({ cls := "StaveHouse$Parser", name := "itemSort", desc := "()I" } : Jvm.MethodName) ({ cls := "StaveHouse$Parser", name := "itemSort", desc := "()I" } : Jvm.MethodName)) ∈ wAll := wA_s (j := 13) rfl rfl
theorem k_3_227 : (Jvm.Cond.code ({ cls := "StaveHouse$Parser", name := "itemSort", desc := "()I" } : Jvm.MethodName) prog_5_method_21_code (2 : Nat) (Option.some Jvm.ClassFile.FieldType.int)) ∈ wAll := wA_3 (j := 227) rfl rfl
theorem k_4_41 : (Jvm.Cond.methodLink "StaveHouse$Parser" (258 : Nat) ({ cls := "StaveHouse$Parser", name := "takeLoud", desc := "(I)Z" } : Jvm.MethodName)) ∈ wAll := wA_4 (j := 41) rfl rfl
theorem k_4_43 : (Jvm.Cond.instanceMethod ({ cls := "StaveHouse$Parser", name := "takeLoud", desc := "(I)Z" } : Jvm.MethodName)) ∈ wAll := wA_4 (j := 43) rfl rfl
theorem ks_24 : (Jvm.Cond.selects "StaveHouse$Parser" ({ cls := "StaveHouse$Parser", name := "takeLoud", desc := "(I)Z" } : Jvm.MethodName) ({ cls := "StaveHouse$Parser", name := "takeLoud", desc := "(I)Z" } : Jvm.MethodName)) ∈ wAll := wA_s (j := 24) rfl rfl
theorem k_4_44 : (Jvm.Cond.code ({ cls := "StaveHouse$Parser", name := "takeLoud", desc := "(I)Z" } : Jvm.MethodName) prog_5_method_28_code (3 : Nat) (Option.some Jvm.ClassFile.FieldType.boolean)) ∈ wAll := wA_4 (j := 44) rfl rfl
theorem k_1_203 : (Jvm.Cond.fieldLink "StaveHouse$Walker" (70 : Nat) "StaveHouse$Walker" "bar" "J") ∈ wAll := wA_1 (j := 203) rfl rfl
theorem k_4_200 : (Jvm.Cond.methodLink "StaveHouse$Walker" (98 : Nat) ({ cls := "StaveHouse$Walker", name := "countItem", desc := "(I)V" } : Jvm.MethodName)) ∈ wAll := wA_4 (j := 200) rfl rfl
theorem k_4_202 : (Jvm.Cond.instanceMethod ({ cls := "StaveHouse$Walker", name := "countItem", desc := "(I)V" } : Jvm.MethodName)) ∈ wAll := wA_4 (j := 202) rfl rfl
theorem ks_35 : (Jvm.Cond.selects "StaveHouse$Walker" ({ cls := "StaveHouse$Walker", name := "countItem", desc := "(I)V" } : Jvm.MethodName) ({ cls := "StaveHouse$Walker", name := "countItem", desc := "(I)V" } : Jvm.MethodName)) ∈ wAll := wA_s (j := 35) rfl rfl
theorem k_4_203 : (Jvm.Cond.code ({ cls := "StaveHouse$Walker", name := "countItem", desc := "(I)V" } : Jvm.MethodName) prog_13_method_5_code (2 : Nat) (Option.none : Option Jvm.ClassFile.FieldType)) ∈ wAll := wA_4 (j := 203) rfl rfl
theorem k_4_33 : (Jvm.Cond.methodLink "StaveHouse$Parser" (273 : Nat) ({ cls := "StaveHouse$Parser", name := "takeFraction", desc := "(III)Z" } : Jvm.MethodName)) ∈ wAll := wA_4 (j := 33) rfl rfl
theorem k_4_35 : (Jvm.Cond.instanceMethod ({ cls := "StaveHouse$Parser", name := "takeFraction", desc := "(III)Z" } : Jvm.MethodName)) ∈ wAll := wA_4 (j := 35) rfl rfl
theorem ks_22 : (Jvm.Cond.selects "StaveHouse$Parser" ({ cls := "StaveHouse$Parser", name := "takeFraction", desc := "(III)Z" } : Jvm.MethodName) ({ cls := "StaveHouse$Parser", name := "takeFraction", desc := "(III)Z" } : Jvm.MethodName)) ∈ wAll := wA_s (j := 22) rfl rfl
theorem k_4_36 : (Jvm.Cond.code ({ cls := "StaveHouse$Parser", name := "takeFraction", desc := "(III)Z" } : Jvm.MethodName) prog_5_method_29_code (4 : Nat) (Option.some Jvm.ClassFile.FieldType.boolean)) ∈ wAll := wA_4 (j := 36) rfl rfl
theorem k_4_212 : (Jvm.Cond.methodLink "StaveHouse$Walker" (114 : Nat) ({ cls := "StaveHouse$Walker", name := "makeEvent", desc := "(I)V" } : Jvm.MethodName)) ∈ wAll := wA_4 (j := 212) rfl rfl
theorem k_4_214 : (Jvm.Cond.instanceMethod ({ cls := "StaveHouse$Walker", name := "makeEvent", desc := "(I)V" } : Jvm.MethodName)) ∈ wAll := wA_4 (j := 214) rfl rfl
theorem ks_38 : (Jvm.Cond.selects "StaveHouse$Walker" ({ cls := "StaveHouse$Walker", name := "makeEvent", desc := "(I)V" } : Jvm.MethodName) ({ cls := "StaveHouse$Walker", name := "makeEvent", desc := "(I)V" } : Jvm.MethodName)) ∈ wAll := wA_s (j := 38) rfl rfl
theorem k_4_215 : (Jvm.Cond.code ({ cls := "StaveHouse$Walker", name := "makeEvent", desc := "(I)V" } : Jvm.MethodName) prog_13_method_13_code (8 : Nat) (Option.none : Option Jvm.ClassFile.FieldType)) ∈ wAll := wA_4 (j := 215) rfl rfl
theorem k_8_144 : (Jvm.Cond.methodLink "StaveHouse$Scribe" (54 : Nat) ({ cls := "StaveHouse$Scribe", name := "lastPlace", desc := "()J" } : Jvm.MethodName)) ∈ wAll := wA_8 (j := 144) rfl rfl
theorem k_8_146 : (Jvm.Cond.instanceMethod ({ cls := "StaveHouse$Scribe", name := "lastPlace", desc := "()J" } : Jvm.MethodName)) ∈ wAll := wA_8 (j := 146) rfl rfl
theorem ks_111 : (Jvm.Cond.selects "StaveHouse$Scribe" ({ cls := "StaveHouse$Scribe", name := "lastPlace", desc := "()J" } : Jvm.MethodName) ({ cls := "StaveHouse$Scribe", name := "lastPlace", desc := "()J" } : Jvm.MethodName)) ∈ wAll := wA_s (j := 111) rfl rfl
theorem k_8_147 : (Jvm.Cond.code ({ cls := "StaveHouse$Scribe", name := "lastPlace", desc := "()J" } : Jvm.MethodName) prog_9_method_5_code (7 : Nat) (Option.some Jvm.ClassFile.FieldType.long)) ∈ wAll := wA_8 (j := 147) rfl rfl
theorem k_8_165 : (Jvm.Cond.constantLong "StaveHouse$Scribe" (58 : Nat) (100 : Int64)) ∈ wAll := wA_8 (j := 165) rfl rfl
theorem k_8_166 : (Jvm.Cond.methodLink "StaveHouse$Scribe" (60 : Nat) ({ cls := "StaveHouse$Scribe", name := "writeHead", desc := "()V" } : Jvm.MethodName)) ∈ wAll := wA_8 (j := 166) rfl rfl
theorem k_8_168 : (Jvm.Cond.instanceMethod ({ cls := "StaveHouse$Scribe", name := "writeHead", desc := "()V" } : Jvm.MethodName)) ∈ wAll := wA_8 (j := 168) rfl rfl
theorem ks_115 : (Jvm.Cond.selects "StaveHouse$Scribe" ({ cls := "StaveHouse$Scribe", name := "writeHead", desc := "()V" } : Jvm.MethodName) ({ cls := "StaveHouse$Scribe", name := "writeHead", desc := "()V" } : Jvm.MethodName)) ∈ wAll := wA_s (j := 115) rfl rfl
theorem k_8_169 : (Jvm.Cond.code ({ cls := "StaveHouse$Scribe", name := "writeHead", desc := "()V" } : Jvm.MethodName) prog_9_method_9_code (2 : Nat) (Option.none : Option Jvm.ClassFile.FieldType)) ∈ wAll := wA_8 (j := 169) rfl rfl
theorem k_8_182 : (Jvm.Cond.methodLink "StaveHouse$Scribe" (66 : Nat) ({ cls := "StaveHouse$Scribe", name := "writeVoice", desc := "(III)V" } : Jvm.MethodName)) ∈ wAll := wA_8 (j := 182) rfl rfl
theorem k_8_184 : (Jvm.Cond.instanceMethod ({ cls := "StaveHouse$Scribe", name := "writeVoice", desc := "(III)V" } : Jvm.MethodName)) ∈ wAll := wA_8 (j := 184) rfl rfl
theorem ks_116 : (Jvm.Cond.selects "StaveHouse$Scribe" ({ cls := "StaveHouse$Scribe", name := "writeVoice", desc := "(III)V" } : Jvm.MethodName) ({ cls := "StaveHouse$Scribe", name := "writeVoice", desc := "(III)V" } : Jvm.MethodName)) ∈ wAll := wA_s (j := 116) rfl rfl
theorem k_8_185 : (Jvm.Cond.code ({ cls := "StaveHouse$Scribe", name := "writeVoice", desc := "(III)V" } : Jvm.MethodName) prog_9_method_10_code (11 : Nat) (Option.none : Option Jvm.ClassFile.FieldType)) ∈ wAll := wA_8 (j := 185) rfl rfl
theorem k_1_49 : (Jvm.Cond.fieldLink "StaveHouse$Scribe" (74 : Nat) "StaveHouse$ByteRow" "full" "Z") ∈ wAll := wA_1 (j := 49) rfl rfl
theorem k_1_45 : (Jvm.Cond.fieldLink "StaveHouse$Scribe" (78 : Nat) "StaveHouse$ByteRow" "size" "I") ∈ wAll := wA_1 (j := 45) rfl rfl
theorem k_8_138 : (Jvm.Cond.methodLink "StaveHouse" (293 : Nat) ({ cls := "StaveHouse$Scribe", name := "writeDown", desc := "(LStaveHouse$SoundFile;ILStaveHouse$ByteRow;)I" } : Jvm.MethodName)) ∈ wAll := wA_8 (j := 138) rfl rfl
theorem k_8_139 : (Jvm.Cond.instanceMethod ({ cls := "StaveHouse$Scribe", name := "writeDown", desc := "(LStaveHouse$SoundFile;ILStaveHouse$ByteRow;)I" } : Jvm.MethodName)) ∈ wAll := wA_8 (j := 139) rfl rfl
theorem k_8_140 : (Jvm.Cond.selects "StaveHouse$Scribe" ({ cls := "StaveHouse$Scribe", name := "writeDown", desc := "(LStaveHouse$SoundFile;ILStaveHouse$ByteRow;)I" } : Jvm.MethodName) ({ cls := "StaveHouse$Scribe", name := "writeDown", desc := "(LStaveHouse$SoundFile;ILStaveHouse$ByteRow;)I" } : Jvm.MethodName)) ∈ wAll := wA_8 (j := 140) rfl rfl
theorem k_8_141 : (Jvm.Cond.code ({ cls := "StaveHouse$Scribe", name := "writeDown", desc := "(LStaveHouse$SoundFile;ILStaveHouse$ByteRow;)I" } : Jvm.MethodName) prog_9_method_2_code (8 : Nat) (Option.some Jvm.ClassFile.FieldType.int)) ∈ wAll := wA_8 (j := 141) rfl rfl
theorem k_3_220 : (Jvm.Cond.methodLink "StaveHouse$Parser" (238 : Nat) ({ cls := "StaveHouse$Parser", name := "takeMusic", desc := "(I)Z" } : Jvm.MethodName)) ∈ wAll := wA_3 (j := 220) rfl rfl
theorem k_3_222 : (Jvm.Cond.instanceMethod ({ cls := "StaveHouse$Parser", name := "takeMusic", desc := "(I)Z" } : Jvm.MethodName)) ∈ wAll := wA_3 (j := 222) rfl rfl
theorem ks_12 : (Jvm.Cond.selects "StaveHouse$Parser" ({ cls := "StaveHouse$Parser", name := "takeMusic", desc := "(I)Z" } : Jvm.MethodName) ({ cls := "StaveHouse$Parser", name := "takeMusic", desc := "(I)Z" } : Jvm.MethodName)) ∈ wAll := wA_s (j := 12) rfl rfl
theorem k_3_223 : (Jvm.Cond.code ({ cls := "StaveHouse$Parser", name := "takeMusic", desc := "(I)Z" } : Jvm.MethodName) prog_5_method_20_code (6 : Nat) (Option.some Jvm.ClassFile.FieldType.boolean)) ∈ wAll := wA_3 (j := 223) rfl rfl
theorem k_4_37 : (Jvm.Cond.methodLink "StaveHouse$Parser" (241 : Nat) ({ cls := "StaveHouse$Parser", name := "takeClosing", desc := "(C)Z" } : Jvm.MethodName)) ∈ wAll := wA_4 (j := 37) rfl rfl
theorem k_4_39 : (Jvm.Cond.instanceMethod ({ cls := "StaveHouse$Parser", name := "takeClosing", desc := "(C)Z" } : Jvm.MethodName)) ∈ wAll := wA_4 (j := 39) rfl rfl
theorem ks_23 : (Jvm.Cond.selects "StaveHouse$Parser" ({ cls := "StaveHouse$Parser", name := "takeClosing", desc := "(C)Z" } : Jvm.MethodName) ({ cls := "StaveHouse$Parser", name := "takeClosing", desc := "(C)Z" } : Jvm.MethodName)) ∈ wAll := wA_s (j := 23) rfl rfl
theorem k_4_40 : (Jvm.Cond.code ({ cls := "StaveHouse$Parser", name := "takeClosing", desc := "(C)Z" } : Jvm.MethodName) prog_5_method_18_code (2 : Nat) (Option.some Jvm.ClassFile.FieldType.boolean)) ∈ wAll := wA_4 (j := 40) rfl rfl
theorem k_3_229 : (Jvm.Cond.methodLink "StaveHouse$Parser" (247 : Nat) ({ cls := "StaveHouse$Parser", name := "takeItem", desc := "(I)Z" } : Jvm.MethodName)) ∈ wAll := wA_3 (j := 229) rfl rfl
theorem k_3_231 : (Jvm.Cond.instanceMethod ({ cls := "StaveHouse$Parser", name := "takeItem", desc := "(I)Z" } : Jvm.MethodName)) ∈ wAll := wA_3 (j := 231) rfl rfl
theorem ks_14 : (Jvm.Cond.selects "StaveHouse$Parser" ({ cls := "StaveHouse$Parser", name := "takeItem", desc := "(I)Z" } : Jvm.MethodName) ({ cls := "StaveHouse$Parser", name := "takeItem", desc := "(I)Z" } : Jvm.MethodName)) ∈ wAll := wA_s (j := 14) rfl rfl
theorem k_3_232 : (Jvm.Cond.code ({ cls := "StaveHouse$Parser", name := "takeItem", desc := "(I)Z" } : Jvm.MethodName) prog_5_method_22_code (2 : Nat) (Option.some Jvm.ClassFile.FieldType.boolean)) ∈ wAll := wA_3 (j := 232) rfl rfl
theorem k_4_45 : (Jvm.Cond.methodLink "StaveHouse$Parser" (261 : Nat) ({ cls := "StaveHouse$Parser", name := "takeRepeat", desc := "(I)Z" } : Jvm.MethodName)) ∈ wAll := wA_4 (j := 45) rfl rfl
theorem k_4_47 : (Jvm.Cond.instanceMethod ({ cls := "StaveHouse$Parser", name := "takeRepeat", desc := "(I)Z" } : Jvm.MethodName)) ∈ wAll := wA_4 (j := 47) rfl rfl
theorem ks_25 : (Jvm.Cond.selects "StaveHouse$Parser" ({ cls := "StaveHouse$Parser", name := "takeRepeat", desc := "(I)Z" } : Jvm.MethodName) ({ cls := "StaveHouse$Parser", name := "takeRepeat", desc := "(I)Z" } : Jvm.MethodName)) ∈ wAll := wA_s (j := 25) rfl rfl
theorem k_4_48 : (Jvm.Cond.code ({ cls := "StaveHouse$Parser", name := "takeRepeat", desc := "(I)Z" } : Jvm.MethodName) prog_5_method_31_code (2 : Nat) (Option.some Jvm.ClassFile.FieldType.boolean)) ∈ wAll := wA_4 (j := 48) rfl rfl
theorem k_4_54 : (Jvm.Cond.methodLink "StaveHouse$Parser" (264 : Nat) ({ cls := "StaveHouse$Parser", name := "takeUse", desc := "(I)Z" } : Jvm.MethodName)) ∈ wAll := wA_4 (j := 54) rfl rfl
theorem k_4_56 : (Jvm.Cond.instanceMethod ({ cls := "StaveHouse$Parser", name := "takeUse", desc := "(I)Z" } : Jvm.MethodName)) ∈ wAll := wA_4 (j := 56) rfl rfl
theorem ks_27 : (Jvm.Cond.selects "StaveHouse$Parser" ({ cls := "StaveHouse$Parser", name := "takeUse", desc := "(I)Z" } : Jvm.MethodName) ({ cls := "StaveHouse$Parser", name := "takeUse", desc := "(I)Z" } : Jvm.MethodName)) ∈ wAll := wA_s (j := 27) rfl rfl
theorem k_4_57 : (Jvm.Cond.code ({ cls := "StaveHouse$Parser", name := "takeUse", desc := "(I)Z" } : Jvm.MethodName) prog_5_method_33_code (3 : Nat) (Option.some Jvm.ClassFile.FieldType.boolean)) ∈ wAll := wA_4 (j := 57) rfl rfl
theorem k_4_58 : (Jvm.Cond.methodLink "StaveHouse$Parser" (267 : Nat) ({ cls := "StaveHouse$Parser", name := "takeMove", desc := "(I)Z" } : Jvm.MethodName)) ∈ wAll := wA_4 (j := 58) rfl rfl
theorem k_4_60 : (Jvm.Cond.instanceMethod ({ cls := "StaveHouse$Parser", name := "takeMove", desc := "(I)Z" } : Jvm.MethodName)) ∈ wAll := wA_4 (j := 60) rfl rfl
theorem ks_28 : (Jvm.Cond.selects "StaveHouse$Parser" ({ cls := "StaveHouse$Parser", name := "takeMove", desc := "(I)Z" } : Jvm.MethodName) ({ cls := "StaveHouse$Parser", name := "takeMove", desc := "(I)Z" } : Jvm.MethodName)) ∈ wAll := wA_s (j := 28) rfl rfl
theorem k_4_61 : (Jvm.Cond.code ({ cls := "StaveHouse$Parser", name := "takeMove", desc := "(I)Z" } : Jvm.MethodName) prog_5_method_34_code (4 : Nat) (Option.some Jvm.ClassFile.FieldType.boolean)) ∈ wAll := wA_4 (j := 61) rfl rfl
theorem k_4_73 : (Jvm.Cond.methodLink "StaveHouse$Parser" (270 : Nat) ({ cls := "StaveHouse$Parser", name := "takeMirror", desc := "(I)Z" } : Jvm.MethodName)) ∈ wAll := wA_4 (j := 73) rfl rfl
theorem k_4_75 : (Jvm.Cond.instanceMethod ({ cls := "StaveHouse$Parser", name := "takeMirror", desc := "(I)Z" } : Jvm.MethodName)) ∈ wAll := wA_4 (j := 75) rfl rfl
theorem ks_29 : (Jvm.Cond.selects "StaveHouse$Parser" ({ cls := "StaveHouse$Parser", name := "takeMirror", desc := "(I)Z" } : Jvm.MethodName) ({ cls := "StaveHouse$Parser", name := "takeMirror", desc := "(I)Z" } : Jvm.MethodName)) ∈ wAll := wA_s (j := 29) rfl rfl
theorem k_4_76 : (Jvm.Cond.code ({ cls := "StaveHouse$Parser", name := "takeMirror", desc := "(I)Z" } : Jvm.MethodName) prog_5_method_35_code (2 : Nat) (Option.some Jvm.ClassFile.FieldType.boolean)) ∈ wAll := wA_4 (j := 76) rfl rfl
theorem k_3_212 : (Jvm.Cond.methodLink "StaveHouse$Parser" (184 : Nat) ({ cls := "StaveHouse$Parser", name := "takeBlock", desc := "(I)Z" } : Jvm.MethodName)) ∈ wAll := wA_3 (j := 212) rfl rfl
theorem k_3_214 : (Jvm.Cond.instanceMethod ({ cls := "StaveHouse$Parser", name := "takeBlock", desc := "(I)Z" } : Jvm.MethodName)) ∈ wAll := wA_3 (j := 214) rfl rfl
theorem ks_10 : (Jvm.Cond.selects "StaveHouse$Parser" ({ cls := "StaveHouse$Parser", name := "takeBlock", desc := "(I)Z" } : Jvm.MethodName) ({ cls := "StaveHouse$Parser", name := "takeBlock", desc := "(I)Z" } : Jvm.MethodName)) ∈ wAll := wA_s (j := 10) rfl rfl
theorem k_3_215 : (Jvm.Cond.code ({ cls := "StaveHouse$Parser", name := "takeBlock", desc := "(I)Z" } : Jvm.MethodName) prog_5_method_19_code (2 : Nat) (Option.some Jvm.ClassFile.FieldType.boolean)) ∈ wAll := wA_3 (j := 215) rfl rfl
theorem k_4_29 : (Jvm.Cond.methodLink "StaveHouse$Parser" (255 : Nat) ({ cls := "StaveHouse$Parser", name := "takeBracket", desc := "(I)Z" } : Jvm.MethodName)) ∈ wAll := wA_4 (j := 29) rfl rfl
theorem k_4_31 : (Jvm.Cond.instanceMethod ({ cls := "StaveHouse$Parser", name := "takeBracket", desc := "(I)Z" } : Jvm.MethodName)) ∈ wAll := wA_4 (j := 31) rfl rfl
theorem ks_21 : (Jvm.Cond.selects "StaveHouse$Parser" ({ cls := "StaveHouse$Parser", name := "takeBracket", desc := "(I)Z" } : Jvm.MethodName) ({ cls := "StaveHouse$Parser", name := "takeBracket", desc := "(I)Z" } : Jvm.MethodName)) ∈ wAll := wA_s (j := 21) rfl rfl
theorem k_4_32 : (Jvm.Cond.code ({ cls := "StaveHouse$Parser", name := "takeBracket", desc := "(I)Z" } : Jvm.MethodName) prog_5_method_30_code (2 : Nat) (Option.some Jvm.ClassFile.FieldType.boolean)) ∈ wAll := wA_4 (j := 32) rfl rfl
theorem k_3_233 : (Jvm.Cond.methodLink "StaveHouse$Parser" (252 : Nat) ({ cls := "StaveHouse$Parser", name := "takeEvent", desc := "(I)Z" } : Jvm.MethodName)) ∈ wAll := wA_3 (j := 233) rfl rfl
theorem k_3_235 : (Jvm.Cond.instanceMethod ({ cls := "StaveHouse$Parser", name := "takeEvent", desc := "(I)Z" } : Jvm.MethodName)) ∈ wAll := wA_3 (j := 235) rfl rfl
theorem ks_15 : (Jvm.Cond.selects "StaveHouse$Parser" ({ cls := "StaveHouse$Parser", name := "takeEvent", desc := "(I)Z" } : Jvm.MethodName) ({ cls := "StaveHouse$Parser", name := "takeEvent", desc := "(I)Z" } : Jvm.MethodName)) ∈ wAll := wA_s (j := 15) rfl rfl
theorem k_3_236 : (Jvm.Cond.code ({ cls := "StaveHouse$Parser", name := "takeEvent", desc := "(I)Z" } : Jvm.MethodName) prog_5_method_23_code (3 : Nat) (Option.some Jvm.ClassFile.FieldType.boolean)) ∈ wAll := wA_3 (j := 236) rfl rfl
theorem k_4_49 : (Jvm.Cond.constantLong "StaveHouse$Parser" (310 : Nat) (6384756 : Int64)) ∈ wAll := wA_4 (j := 49) rfl rfl
theorem k_4_50 : (Jvm.Cond.methodLink "StaveHouse$Parser" (312 : Nat) ({ cls := "StaveHouse$Parser", name := "takeAlternatives", desc := "(I)Z" } : Jvm.MethodName)) ∈ wAll := wA_4 (j := 50) rfl rfl
theorem k_4_52 : (Jvm.Cond.instanceMethod ({ cls := "StaveHouse$Parser", name := "takeAlternatives", desc := "(I)Z" } : Jvm.MethodName)) ∈ wAll := wA_4 (j := 52) rfl rfl
theorem ks_26 : (Jvm.Cond.selects "StaveHouse$Parser" ({ cls := "StaveHouse$Parser", name := "takeAlternatives", desc := "(I)Z" } : Jvm.MethodName) ({ cls := "StaveHouse$Parser", name := "takeAlternatives", desc := "(I)Z" } : Jvm.MethodName)) ∈ wAll := wA_s (j := 26) rfl rfl
theorem k_4_53 : (Jvm.Cond.code ({ cls := "StaveHouse$Parser", name := "takeAlternatives", desc := "(I)Z" } : Jvm.MethodName) prog_5_method_32_code (5 : Nat) (Option.some Jvm.ClassFile.FieldType.boolean)) ∈ wAll := wA_4 (j := 53) rfl rfl
theorem k_4_208 : (Jvm.Cond.methodLink "StaveHouse$Walker" (102 : Nat) ({ cls := "StaveHouse$Walker", name := "goItem", desc := "(II)V" } : Jvm.MethodName)) ∈ wAll := wA_4 (j := 208) rfl rfl
theorem k_4_210 : (Jvm.Cond.instanceMethod ({ cls := "StaveHouse$Walker", name := "goItem", desc := "(II)V" } : Jvm.MethodName)) ∈ wAll := wA_4 (j := 210) rfl rfl
theorem ks_37 : (Jvm.Cond.selects "StaveHouse$Walker" ({ cls := "StaveHouse$Walker", name := "goItem", desc := "(II)V" } : Jvm.MethodName) ({ cls := "StaveHouse$Walker", name := "goItem", desc := "(II)V" } : Jvm.MethodName)) ∈ wAll := wA_s (j := 37) rfl rfl
theorem k_4_211 : (Jvm.Cond.code ({ cls := "StaveHouse$Walker", name := "goItem", desc := "(II)V" } : Jvm.MethodName) prog_13_method_6_code (4 : Nat) (Option.none : Option Jvm.ClassFile.FieldType)) ∈ wAll := wA_4 (j := 211) rfl rfl
theorem k_1_117 : (Jvm.Cond.fieldLink "StaveHouse$Walker" (105 : Nat) "StaveHouse$Parser" "next" "[I") ∈ wAll := wA_1 (j := 117) rfl rfl
theorem k_4_235 : (Jvm.Cond.methodLink "StaveHouse$Walker" (120 : Nat) ({ cls := "StaveHouse$Walker", name := "goBracket", desc := "(II)V" } : Jvm.MethodName)) ∈ wAll := wA_4 (j := 235) rfl rfl
theorem k_4_237 : (Jvm.Cond.instanceMethod ({ cls := "StaveHouse$Walker", name := "goBracket", desc := "(II)V" } : Jvm.MethodName)) ∈ wAll := wA_4 (j := 237) rfl rfl
theorem ks_41 : (Jvm.Cond.selects "StaveHouse$Walker" ({ cls := "StaveHouse$Walker", name := "goBracket", desc := "(II)V" } : Jvm.MethodName) ({ cls := "StaveHouse$Walker", name := "goBracket", desc := "(II)V" } : Jvm.MethodName)) ∈ wAll := wA_s (j := 41) rfl rfl
theorem k_4_238 : (Jvm.Cond.code ({ cls := "StaveHouse$Walker", name := "goBracket", desc := "(II)V" } : Jvm.MethodName) prog_13_method_7_code (5 : Nat) (Option.none : Option Jvm.ClassFile.FieldType)) ∈ wAll := wA_4 (j := 238) rfl rfl
theorem k_4_239 : (Jvm.Cond.methodLink "StaveHouse$Walker" (123 : Nat) ({ cls := "StaveHouse$Walker", name := "goRepeat", desc := "(II)V" } : Jvm.MethodName)) ∈ wAll := wA_4 (j := 239) rfl rfl
theorem k_5_1 : (Jvm.Cond.instanceMethod ({ cls := "StaveHouse$Walker", name := "goRepeat", desc := "(II)V" } : Jvm.MethodName)) ∈ wAll := wA_5 (j := 1) rfl rfl
theorem ks_42 : (Jvm.Cond.selects "StaveHouse$Walker" ({ cls := "StaveHouse$Walker", name := "goRepeat", desc := "(II)V" } : Jvm.MethodName) ({ cls := "StaveHouse$Walker", name := "goRepeat", desc := "(II)V" } : Jvm.MethodName)) ∈ wAll := wA_s (j := 42) rfl rfl
theorem k_5_2 : (Jvm.Cond.code ({ cls := "StaveHouse$Walker", name := "goRepeat", desc := "(II)V" } : Jvm.MethodName) prog_13_method_8_code (6 : Nat) (Option.none : Option Jvm.ClassFile.FieldType)) ∈ wAll := wA_5 (j := 2) rfl rfl
theorem k_4_196 : (Jvm.Cond.methodLink "StaveHouse$Walker" (91 : Nat) ({ cls := "StaveHouse$Walker", name := "goThrough", desc := "(II)V" } : Jvm.MethodName)) ∈ wAll := wA_4 (j := 196) rfl rfl
theorem k_4_198 : (Jvm.Cond.instanceMethod ({ cls := "StaveHouse$Walker", name := "goThrough", desc := "(II)V" } : Jvm.MethodName)) ∈ wAll := wA_4 (j := 198) rfl rfl
theorem ks_34 : (Jvm.Cond.selects "StaveHouse$Walker" ({ cls := "StaveHouse$Walker", name := "goThrough", desc := "(II)V" } : Jvm.MethodName) ({ cls := "StaveHouse$Walker", name := "goThrough", desc := "(II)V" } : Jvm.MethodName)) ∈ wAll := wA_s (j := 34) rfl rfl
theorem k_4_199 : (Jvm.Cond.code ({ cls := "StaveHouse$Walker", name := "goThrough", desc := "(II)V" } : Jvm.MethodName) prog_13_method_4_code (5 : Nat) (Option.none : Option Jvm.ClassFile.FieldType)) ∈ wAll := wA_4 (j := 199) rfl rfl
theorem k_5_3 : (Jvm.Cond.methodLink "StaveHouse$Walker" (126 : Nat) ({ cls := "StaveHouse$Walker", name := "goCarried", desc := "(III)V" } : Jvm.MethodName)) ∈ wAll := wA_5 (j := 3) rfl rfl
theorem k_5_5 : (Jvm.Cond.instanceMethod ({ cls := "StaveHouse$Walker", name := "goCarried", desc := "(III)V" } : Jvm.MethodName)) ∈ wAll := wA_5 (j := 5) rfl rfl
theorem ks_43 : (Jvm.Cond.selects "StaveHouse$Walker" ({ cls := "StaveHouse$Walker", name := "goCarried", desc := "(III)V" } : Jvm.MethodName) ({ cls := "StaveHouse$Walker", name := "goCarried", desc := "(III)V" } : Jvm.MethodName)) ∈ wAll := wA_s (j := 43) rfl rfl
theorem k_5_6 : (Jvm.Cond.code ({ cls := "StaveHouse$Walker", name := "goCarried", desc := "(III)V" } : Jvm.MethodName) prog_13_method_9_code (4 : Nat) (Option.none : Option Jvm.ClassFile.FieldType)) ∈ wAll := wA_5 (j := 6) rfl rfl
theorem k_5_7 : (Jvm.Cond.methodLink "StaveHouse$Walker" (130 : Nat) ({ cls := "StaveHouse$Walker", name := "goBack", desc := "(II)V" } : Jvm.MethodName)) ∈ wAll := wA_5 (j := 7) rfl rfl
theorem k_5_9 : (Jvm.Cond.instanceMethod ({ cls := "StaveHouse$Walker", name := "goBack", desc := "(II)V" } : Jvm.MethodName)) ∈ wAll := wA_5 (j := 9) rfl rfl
theorem ks_44 : (Jvm.Cond.selects "StaveHouse$Walker" ({ cls := "StaveHouse$Walker", name := "goBack", desc := "(II)V" } : Jvm.MethodName) ({ cls := "StaveHouse$Walker", name := "goBack", desc := "(II)V" } : Jvm.MethodName)) ∈ wAll := wA_s (j := 44) rfl rfl
theorem k_5_10 : (Jvm.Cond.code ({ cls := "StaveHouse$Walker", name := "goBack", desc := "(II)V" } : Jvm.MethodName) prog_13_method_10_code (4 : Nat) (Option.none : Option Jvm.ClassFile.FieldType)) ∈ wAll := wA_5 (j := 10) rfl rfl
theorem k_5_19 : (Jvm.Cond.methodLink "StaveHouse$Walker" (133 : Nat) ({ cls := "StaveHouse$Walker", name := "multiplySlow", desc := "(II)V" } : Jvm.MethodName)) ∈ wAll := wA_5 (j := 19) rfl rfl
theorem k_5_21 : (Jvm.Cond.instanceMethod ({ cls := "StaveHouse$Walker", name := "multiplySlow", desc := "(II)V" } : Jvm.MethodName)) ∈ wAll := wA_5 (j := 21) rfl rfl
theorem ks_45 : (Jvm.Cond.selects "StaveHouse$Walker" ({ cls := "StaveHouse$Walker", name := "multiplySlow", desc := "(II)V" } : Jvm.MethodName) ({ cls := "StaveHouse$Walker", name := "multiplySlow", desc := "(II)V" } : Jvm.MethodName)) ∈ wAll := wA_s (j := 45) rfl rfl
theorem k_5_22 : (Jvm.Cond.code ({ cls := "StaveHouse$Walker", name := "multiplySlow", desc := "(II)V" } : Jvm.MethodName) prog_13_method_11_code (6 : Nat) (Option.none : Option Jvm.ClassFile.FieldType)) ∈ wAll := wA_5 (j := 22) rfl rfl
theorem k_5_11 : (Jvm.Cond.methodLink "StaveHouse$Walker" (142 : Nat) ({ cls := "StaveHouse$Part", name := "turn", desc := "(I)V" } : Jvm.MethodName)) ∈ wAll := wA_5 (j := 11) rfl rfl
theorem k_5_12 : (Jvm.Cond.instanceMethod ({ cls := "StaveHouse$Part", name := "turn", desc := "(I)V" } : Jvm.MethodName)) ∈ wAll := wA_5 (j := 12) rfl rfl
theorem k_5_13 : (Jvm.Cond.selects "StaveHouse$Part" ({ cls := "StaveHouse$Part", name := "turn", desc := "(I)V" } : Jvm.MethodName) ({ cls := "StaveHouse$Part", name := "turn", desc := "(I)V" } : Jvm.MethodName)) ∈ wAll := wA_5 (j := 13) rfl rfl
theorem k_5_14 : (Jvm.Cond.code ({ cls := "StaveHouse$Part", name := "turn", desc := "(I)V" } : Jvm.MethodName) prog_6_method_3_code (6 : Nat) (Option.none : Option Jvm.ClassFile.FieldType)) ∈ wAll := wA_5 (j := 14) rfl rfl
theorem W_prog_5_method_9_code_0 : chW prog_5_method_9_code 0 [42, 16, 10, 182, 0, 166, 60, 42, 180, 0, 48, 182, 0, 122, 42, 182, 0, 170, 154, 0, 9, 42, 5, 182, 0, 101, 172, 42, 180, 0, 48, 180, 0, 173, 65, 42] := chW_of (by decide +kernel)
theorem d_5_9_0 : decode prog_5_method_9_code 0 = .ok (.aload_n 0, 1) := D_42 W_prog_5_method_9_code_0 0 rfl rfl
theorem d_5_9_1 : decode prog_5_method_9_code 1 = .ok (.bipush 10, 2) := D_16 W_prog_5_method_9_code_0 1 rfl rfl rfl
theorem d_5_9_3 : decode prog_5_method_9_code 3 = .ok (.invokevirtual 166, 3) := D_182 W_prog_5_method_9_code_0 3 rfl rfl rfl
theorem W_prog_5_method_19_code_0 : chW prog_5_method_19_code 0 [42, 16, 123, 182, 0, 235, 153, 0, 24, 42, 27, 182, 0, 238, 153, 0, 16, 42, 16, 125, 182, 0, 241, 153, 0, 7, 4, 167, 0, 4, 3, 172] := chW_of (by decide +kernel)
theorem d_5_19_0 : decode prog_5_method_19_code 0 = .ok (.aload_n 0, 1) := D_42 W_prog_5_method_19_code_0 0 rfl rfl
theorem d_5_19_1 : decode prog_5_method_19_code 1 = .ok (.bipush 123, 2) := D_16 W_prog_5_method_19_code_0 1 rfl rfl rfl
theorem d_5_19_3 : decode prog_5_method_19_code 3 = .ok (.invokevirtual 235, 3) := D_182 W_prog_5_method_19_code_0 3 rfl rfl rfl
theorem W_prog_5_method_20_code_0 : chW prog_5_method_20_code 0 [2, 61, 3, 62, 29, 17, 11, 184, 162, 0, 69, 42, 182, 0, 244, 54, 4, 21, 4, 2, 160, 0, 5, 4, 172, 42, 21, 4, 182, 0, 166, 54, 5, 28, 2, 160] := chW_of (by decide +kernel)
theorem d_5_20_0 : decode prog_5_method_20_code 0 = .ok (.iconst (-1), 1) := D_2 W_prog_5_method_20_code_0 0 rfl rfl
theorem d_5_20_1 : decode prog_5_method_20_code 1 = .ok (.istore_n 2, 1) := D_61 W_prog_5_method_20_code_0 1 rfl rfl
theorem d_5_20_2 : decode prog_5_method_20_code 2 = .ok (.iconst 0, 1) := D_3 W_prog_5_method_20_code_0 2 rfl rfl
theorem d_5_20_3 : decode prog_5_method_20_code 3 = .ok (.istore_n 3, 1) := D_62 W_prog_5_method_20_code_0 3 rfl rfl
theorem d_5_20_4 : decode prog_5_method_20_code 4 = .ok (.iload_n 3, 1) := D_29 W_prog_5_method_20_code_0 4 rfl rfl
theorem d_5_20_5 : decode prog_5_method_20_code 5 = .ok (.sipush 3000, 3) := D_17 W_prog_5_method_20_code_0 5 rfl rfl rfl
theorem d_5_20_8 : decode prog_5_method_20_code 8 = .ok (.if_icmp .ge 69, 3) := D_162 W_prog_5_method_20_code_0 8 rfl rfl rfl
theorem W_prog_5_method_20_code_64 : chW prog_5_method_20_code 64 [0, 247, 154, 0, 5, 3, 172, 132, 3, 1, 167, 255, 186, 4, 172] := chW_of (by decide +kernel)
theorem d_5_20_77 : decode prog_5_method_20_code 77 = .ok (.iconst 1, 1) := D_4 W_prog_5_method_20_code_64 13 rfl rfl
theorem d_5_20_78 : decode prog_5_method_20_code 78 = .ok (.ireturn, 1) := D_172 W_prog_5_method_20_code_64 14 rfl rfl
theorem d_5_20_11 : decode prog_5_method_20_code 11 = .ok (.aload_n 0, 1) := D_42 W_prog_5_method_20_code_0 11 rfl rfl
theorem d_5_20_12 : decode prog_5_method_20_code 12 = .ok (.invokevirtual 244, 3) := D_182 W_prog_5_method_20_code_0 12 rfl rfl rfl
theorem W_prog_5_method_22_code_0 : chW prog_5_method_22_code 0 [42, 180, 0, 9, 27, 46, 154, 0, 9, 42, 27, 182, 0, 252, 172, 42, 180, 0, 9, 27, 46, 6, 160, 0, 9, 42, 27, 182, 0, 255, 172, 42, 180, 0, 48, 182] := chW_of (by decide +kernel)
theorem d_5_22_0 : decode prog_5_method_22_code 0 = .ok (.aload_n 0, 1) := D_42 W_prog_5_method_22_code_0 0 rfl rfl
theorem d_5_22_1 : decode prog_5_method_22_code 1 = .ok (.getfield 9, 3) := D_180 W_prog_5_method_22_code_0 1 rfl rfl rfl
theorem d_5_22_4 : decode prog_5_method_22_code 4 = .ok (.iload_n 1, 1) := D_27 W_prog_5_method_22_code_0 4 rfl rfl
theorem d_5_22_5 : decode prog_5_method_22_code 5 = .ok (.iaload, 1) := D_46 W_prog_5_method_22_code_0 5 rfl rfl
theorem d_5_22_6 : decode prog_5_method_22_code 6 = .ok (.ifCond .ne 9, 3) := D_154 W_prog_5_method_22_code_0 6 rfl rfl rfl
theorem d_5_22_15 : decode prog_5_method_22_code 15 = .ok (.aload_n 0, 1) := D_42 W_prog_5_method_22_code_0 15 rfl rfl
theorem d_5_22_16 : decode prog_5_method_22_code 16 = .ok (.getfield 9, 3) := D_180 W_prog_5_method_22_code_0 16 rfl rfl rfl
theorem d_5_22_19 : decode prog_5_method_22_code 19 = .ok (.iload_n 1, 1) := D_27 W_prog_5_method_22_code_0 19 rfl rfl
theorem d_5_22_20 : decode prog_5_method_22_code 20 = .ok (.iaload, 1) := D_46 W_prog_5_method_22_code_0 20 rfl rfl
theorem d_5_22_21 : decode prog_5_method_22_code 21 = .ok (.iconst 3, 1) := D_6 W_prog_5_method_22_code_0 21 rfl rfl
theorem d_5_22_22 : decode prog_5_method_22_code 22 = .ok (.if_icmp .ne 9, 3) := D_160 W_prog_5_method_22_code_0 22 rfl rfl rfl
theorem d_5_22_31 : decode prog_5_method_22_code 31 = .ok (.aload_n 0, 1) := D_42 W_prog_5_method_22_code_0 31 rfl rfl
theorem W_prog_5_method_22_code_32 : chW prog_5_method_22_code 32 [180, 0, 48, 182, 0, 122, 42, 180, 0, 9, 27, 46, 170, 0, 0, 0, 0, 0, 0, 109, 0, 0, 0, 2, 0, 0, 0, 9, 0, 0, 0, 48, 0, 0, 0, 109] := chW_of (by decide +kernel)
theorem d_5_22_32 : decode prog_5_method_22_code 32 = .ok (.getfield 48, 3) := D_180 W_prog_5_method_22_code_32 0 rfl rfl rfl
theorem d_5_22_35 : decode prog_5_method_22_code 35 = .ok (.invokevirtual 122, 3) := D_182 W_prog_5_method_22_code_32 3 rfl rfl rfl
theorem d_5_22_38 : decode prog_5_method_22_code 38 = .ok (.aload_n 0, 1) := D_42 W_prog_5_method_22_code_32 6 rfl rfl
theorem d_5_22_39 : decode prog_5_method_22_code 39 = .ok (.getfield 9, 3) := D_180 W_prog_5_method_22_code_32 7 rfl rfl rfl
theorem d_5_22_42 : decode prog_5_method_22_code 42 = .ok (.iload_n 1, 1) := D_27 W_prog_5_method_22_code_32 10 rfl rfl
theorem d_5_22_43 : decode prog_5_method_22_code 43 = .ok (.iaload, 1) := D_46 W_prog_5_method_22_code_32 11 rfl rfl
theorem d_5_22_44 : decode prog_5_method_22_code 44 = .ok (.tableswitch 109 2 9 #[48, 109, 54, 60, 66, 72, 78, 84], 48) := by decide +kernel
theorem W_prog_5_method_22_code_64 : chW prog_5_method_22_code 64 [0, 0, 0, 109, 0, 0, 0, 54, 0, 0, 0, 60, 0, 0, 0, 66, 0, 0, 0, 72, 0, 0, 0, 78, 0, 0, 0, 84, 42, 27, 182, 1, 2, 172, 42, 27] := chW_of (by decide +kernel)
theorem d_5_22_92 : decode prog_5_method_22_code 92 = .ok (.aload_n 0, 1) := D_42 W_prog_5_method_22_code_64 28 rfl rfl
theorem d_5_22_93 : decode prog_5_method_22_code 93 = .ok (.iload_n 1, 1) := D_27 W_prog_5_method_22_code_64 29 rfl rfl
theorem d_5_22_94 : decode prog_5_method_22_code 94 = .ok (.invokevirtual 258, 3) := D_182 W_prog_5_method_22_code_64 30 rfl rfl rfl
theorem W_prog_5_method_30_code_0 : chW prog_5_method_30_code 0 [42, 16, 91, 182, 0, 235, 153, 0, 44, 42, 27, 5, 16, 9, 182, 1, 17, 153, 0, 33, 42, 16, 58, 182, 0, 146, 153, 0, 24, 42, 27, 182, 0, 238, 153, 0] := chW_of (by decide +kernel)
theorem d_5_30_0 : decode prog_5_method_30_code 0 = .ok (.aload_n 0, 1) := D_42 W_prog_5_method_30_code_0 0 rfl rfl
theorem d_5_30_1 : decode prog_5_method_30_code 1 = .ok (.bipush 91, 2) := D_16 W_prog_5_method_30_code_0 1 rfl rfl rfl
theorem d_5_30_3 : decode prog_5_method_30_code 3 = .ok (.invokevirtual 235, 3) := D_182 W_prog_5_method_30_code_0 3 rfl rfl rfl
theorem d_5_30_6 : decode prog_5_method_30_code 6 = .ok (.ifCond .eq 44, 3) := D_153 W_prog_5_method_30_code_0 6 rfl rfl rfl
theorem d_5_30_9 : decode prog_5_method_30_code 9 = .ok (.aload_n 0, 1) := D_42 W_prog_5_method_30_code_0 9 rfl rfl
theorem d_5_30_10 : decode prog_5_method_30_code 10 = .ok (.iload_n 1, 1) := D_27 W_prog_5_method_30_code_0 10 rfl rfl
theorem d_5_30_11 : decode prog_5_method_30_code 11 = .ok (.iconst 2, 1) := D_5 W_prog_5_method_30_code_0 11 rfl rfl
theorem d_5_30_12 : decode prog_5_method_30_code 12 = .ok (.bipush 9, 2) := D_16 W_prog_5_method_30_code_0 12 rfl rfl rfl
theorem d_5_30_14 : decode prog_5_method_30_code 14 = .ok (.invokevirtual 273, 3) := D_182 W_prog_5_method_30_code_0 14 rfl rfl rfl
theorem W_prog_5_method_31_code_0 : chW prog_5_method_31_code 0 [42, 5, 7, 3, 182, 0, 131, 154, 0, 5, 3, 172, 42, 180, 0, 18, 27, 42, 180, 0, 135, 79, 42, 27, 182, 0, 184, 154, 0, 5, 3, 172, 42, 180, 0, 48] := chW_of (by decide +kernel)
theorem d_5_31_0 : decode prog_5_method_31_code 0 = .ok (.aload_n 0, 1) := D_42 W_prog_5_method_31_code_0 0 rfl rfl
theorem d_5_31_1 : decode prog_5_method_31_code 1 = .ok (.iconst 2, 1) := D_5 W_prog_5_method_31_code_0 1 rfl rfl
theorem d_5_31_2 : decode prog_5_method_31_code 2 = .ok (.iconst 4, 1) := D_7 W_prog_5_method_31_code_0 2 rfl rfl
theorem d_5_31_3 : decode prog_5_method_31_code 3 = .ok (.iconst 0, 1) := D_3 W_prog_5_method_31_code_0 3 rfl rfl
theorem d_5_31_4 : decode prog_5_method_31_code 4 = .ok (.invokevirtual 131, 3) := D_182 W_prog_5_method_31_code_0 4 rfl rfl rfl
theorem W_prog_5_method_32_code_0 : chW prog_5_method_32_code 0 [42, 180, 0, 48, 182, 0, 122, 2, 61, 3, 62, 29, 17, 11, 184, 162, 0, 72, 28, 2, 159, 0, 15, 42, 180, 0, 48, 16, 123, 182, 0, 153, 153, 0, 55, 42] := chW_of (by decide +kernel)
theorem d_5_32_0 : decode prog_5_method_32_code 0 = .ok (.aload_n 0, 1) := D_42 W_prog_5_method_32_code_0 0 rfl rfl
theorem d_5_32_1 : decode prog_5_method_32_code 1 = .ok (.getfield 48, 3) := D_180 W_prog_5_method_32_code_0 1 rfl rfl rfl
theorem d_5_32_4 : decode prog_5_method_32_code 4 = .ok (.invokevirtual 122, 3) := D_182 W_prog_5_method_32_code_0 4 rfl rfl rfl
theorem d_5_32_7 : decode prog_5_method_32_code 7 = .ok (.iconst (-1), 1) := D_2 W_prog_5_method_32_code_0 7 rfl rfl
theorem d_5_32_8 : decode prog_5_method_32_code 8 = .ok (.istore_n 2, 1) := D_61 W_prog_5_method_32_code_0 8 rfl rfl
theorem d_5_32_9 : decode prog_5_method_32_code 9 = .ok (.iconst 0, 1) := D_3 W_prog_5_method_32_code_0 9 rfl rfl
theorem d_5_32_10 : decode prog_5_method_32_code 10 = .ok (.istore_n 3, 1) := D_62 W_prog_5_method_32_code_0 10 rfl rfl
theorem d_5_32_11 : decode prog_5_method_32_code 11 = .ok (.iload_n 3, 1) := D_29 W_prog_5_method_32_code_0 11 rfl rfl
theorem d_5_32_12 : decode prog_5_method_32_code 12 = .ok (.sipush 3000, 3) := D_17 W_prog_5_method_32_code_0 12 rfl rfl rfl
theorem d_5_32_15 : decode prog_5_method_32_code 15 = .ok (.if_icmp .ge 72, 3) := D_162 W_prog_5_method_32_code_0 15 rfl rfl rfl
theorem d_5_32_18 : decode prog_5_method_32_code 18 = .ok (.iload_n 2, 1) := D_28 W_prog_5_method_32_code_0 18 rfl rfl
theorem d_5_32_19 : decode prog_5_method_32_code 19 = .ok (.iconst (-1), 1) := D_2 W_prog_5_method_32_code_0 19 rfl rfl
theorem d_5_32_20 : decode prog_5_method_32_code 20 = .ok (.if_icmp .eq 15, 3) := D_159 W_prog_5_method_32_code_0 20 rfl rfl rfl
theorem d_5_32_23 : decode prog_5_method_32_code 23 = .ok (.aload_n 0, 1) := D_42 W_prog_5_method_32_code_0 23 rfl rfl
theorem d_5_32_24 : decode prog_5_method_32_code 24 = .ok (.getfield 48, 3) := D_180 W_prog_5_method_32_code_0 24 rfl rfl rfl
theorem d_5_32_27 : decode prog_5_method_32_code 27 = .ok (.bipush 123, 2) := D_16 W_prog_5_method_32_code_0 27 rfl rfl rfl
theorem d_5_32_29 : decode prog_5_method_32_code 29 = .ok (.invokevirtual 153, 3) := D_182 W_prog_5_method_32_code_0 29 rfl rfl rfl
theorem W_prog_5_method_32_code_32 : chW prog_5_method_32_code 32 [153, 0, 55, 42, 16, 10, 182, 0, 166, 54, 4, 28, 2, 160, 0, 14, 42, 180, 0, 21, 27, 21, 4, 79, 167, 0, 11, 42, 180, 0, 27, 28, 21, 4, 79, 21] := chW_of (by decide +kernel)
theorem d_5_32_32 : decode prog_5_method_32_code 32 = .ok (.ifCond .eq 55, 3) := D_153 W_prog_5_method_32_code_32 0 rfl rfl rfl
theorem d_5_32_35 : decode prog_5_method_32_code 35 = .ok (.aload_n 0, 1) := D_42 W_prog_5_method_32_code_32 3 rfl rfl
theorem d_5_32_36 : decode prog_5_method_32_code 36 = .ok (.bipush 10, 2) := D_16 W_prog_5_method_32_code_32 4 rfl rfl rfl
theorem d_5_32_38 : decode prog_5_method_32_code 38 = .ok (.invokevirtual 166, 3) := D_182 W_prog_5_method_32_code_32 6 rfl rfl rfl
theorem d_5_32_41 : decode prog_5_method_32_code 41 = .ok (.istore 4, 2) := D_54 W_prog_5_method_32_code_32 9 rfl rfl
theorem d_5_32_43 : decode prog_5_method_32_code 43 = .ok (.iload_n 2, 1) := D_28 W_prog_5_method_32_code_32 11 rfl rfl
theorem d_5_32_44 : decode prog_5_method_32_code 44 = .ok (.iconst (-1), 1) := D_2 W_prog_5_method_32_code_32 12 rfl rfl
theorem d_5_32_45 : decode prog_5_method_32_code 45 = .ok (.if_icmp .ne 14, 3) := D_160 W_prog_5_method_32_code_32 13 rfl rfl rfl
theorem d_5_32_59 : decode prog_5_method_32_code 59 = .ok (.aload_n 0, 1) := D_42 W_prog_5_method_32_code_32 27 rfl rfl
theorem d_5_32_60 : decode prog_5_method_32_code 60 = .ok (.getfield 27, 3) := D_180 W_prog_5_method_32_code_32 28 rfl rfl rfl
theorem d_5_32_63 : decode prog_5_method_32_code 63 = .ok (.iload_n 2, 1) := D_28 W_prog_5_method_32_code_32 31 rfl rfl
theorem W_prog_5_method_32_code_64 : chW prog_5_method_32_code 64 [21, 4, 79, 21, 4, 61, 42, 21, 4, 182, 0, 184, 154, 0, 5, 3, 172, 132, 3, 1, 167, 255, 183, 4, 172] := chW_of (by decide +kernel)
theorem d_5_32_64 : decode prog_5_method_32_code 64 = .ok (.iload 4, 2) := D_21 W_prog_5_method_32_code_64 0 rfl rfl
theorem d_5_32_66 : decode prog_5_method_32_code 66 = .ok (.iastore, 1) := D_79 W_prog_5_method_32_code_64 2 rfl rfl
theorem d_5_32_48 : decode prog_5_method_32_code 48 = .ok (.aload_n 0, 1) := D_42 W_prog_5_method_32_code_32 16 rfl rfl
theorem d_5_32_49 : decode prog_5_method_32_code 49 = .ok (.getfield 21, 3) := D_180 W_prog_5_method_32_code_32 17 rfl rfl rfl
theorem d_5_32_52 : decode prog_5_method_32_code 52 = .ok (.iload_n 1, 1) := D_27 W_prog_5_method_32_code_32 20 rfl rfl
theorem d_5_32_53 : decode prog_5_method_32_code 53 = .ok (.iload 4, 2) := D_21 W_prog_5_method_32_code_32 21 rfl rfl
theorem d_5_32_55 : decode prog_5_method_32_code 55 = .ok (.iastore, 1) := D_79 W_prog_5_method_32_code_32 23 rfl rfl
theorem d_5_32_56 : decode prog_5_method_32_code 56 = .ok (.goto 11, 3) := D_167 W_prog_5_method_32_code_32 24 rfl rfl rfl
theorem d_5_32_67 : decode prog_5_method_32_code 67 = .ok (.iload 4, 2) := D_21 W_prog_5_method_32_code_64 3 rfl rfl
theorem d_5_32_69 : decode prog_5_method_32_code 69 = .ok (.istore_n 2, 1) := D_61 W_prog_5_method_32_code_64 5 rfl rfl
theorem d_5_32_70 : decode prog_5_method_32_code 70 = .ok (.aload_n 0, 1) := D_42 W_prog_5_method_32_code_64 6 rfl rfl
theorem d_5_32_71 : decode prog_5_method_32_code 71 = .ok (.iload 4, 2) := D_21 W_prog_5_method_32_code_64 7 rfl rfl
theorem d_5_32_73 : decode prog_5_method_32_code 73 = .ok (.invokevirtual 184, 3) := D_182 W_prog_5_method_32_code_64 9 rfl rfl rfl
theorem W_prog_5_method_34_code_0 : chW prog_5_method_34_code 0 [42, 180, 0, 48, 180, 0, 108, 5, 159, 0, 9, 42, 5, 182, 0, 101, 172, 42, 180, 0, 48, 180, 1, 34, 61, 28, 184, 1, 59, 42, 180, 0, 48, 180, 1, 37] := chW_of (by decide +kernel)
theorem d_5_34_0 : decode prog_5_method_34_code 0 = .ok (.aload_n 0, 1) := D_42 W_prog_5_method_34_code_0 0 rfl rfl
theorem d_5_34_1 : decode prog_5_method_34_code 1 = .ok (.getfield 48, 3) := D_180 W_prog_5_method_34_code_0 1 rfl rfl rfl
theorem d_5_34_4 : decode prog_5_method_34_code 4 = .ok (.getfield 108, 3) := D_180 W_prog_5_method_34_code_0 4 rfl rfl rfl
theorem d_5_34_7 : decode prog_5_method_34_code 7 = .ok (.iconst 2, 1) := D_5 W_prog_5_method_34_code_0 7 rfl rfl
theorem d_5_34_8 : decode prog_5_method_34_code 8 = .ok (.if_icmp .eq 9, 3) := D_159 W_prog_5_method_34_code_0 8 rfl rfl rfl
theorem d_5_34_17 : decode prog_5_method_34_code 17 = .ok (.aload_n 0, 1) := D_42 W_prog_5_method_34_code_0 17 rfl rfl
theorem d_5_34_18 : decode prog_5_method_34_code 18 = .ok (.getfield 48, 3) := D_180 W_prog_5_method_34_code_0 18 rfl rfl rfl
theorem d_5_34_21 : decode prog_5_method_34_code 21 = .ok (.getfield 290, 3) := D_180 W_prog_5_method_34_code_0 21 rfl rfl rfl
theorem d_5_34_24 : decode prog_5_method_34_code 24 = .ok (.istore_n 2, 1) := D_61 W_prog_5_method_34_code_0 24 rfl rfl
theorem d_5_34_25 : decode prog_5_method_34_code 25 = .ok (.iload_n 2, 1) := D_28 W_prog_5_method_34_code_0 25 rfl rfl
theorem d_5_34_26 : decode prog_5_method_34_code 26 = .ok (.invokestatic 315, 3) := D_184 W_prog_5_method_34_code_0 26 rfl rfl rfl
theorem W_prog_5_method_35_code_0 : chW prog_5_method_35_code 0 [42, 180, 0, 48, 180, 0, 108, 5, 159, 0, 9, 42, 5, 182, 0, 101, 172, 42, 180, 0, 18, 27, 5, 42, 180, 0, 48, 180, 1, 34, 104, 79, 42, 180, 0, 21] := chW_of (by decide +kernel)
theorem d_5_35_0 : decode prog_5_method_35_code 0 = .ok (.aload_n 0, 1) := D_42 W_prog_5_method_35_code_0 0 rfl rfl
theorem d_5_35_1 : decode prog_5_method_35_code 1 = .ok (.getfield 48, 3) := D_180 W_prog_5_method_35_code_0 1 rfl rfl rfl
theorem d_5_35_4 : decode prog_5_method_35_code 4 = .ok (.getfield 108, 3) := D_180 W_prog_5_method_35_code_0 4 rfl rfl rfl
theorem d_5_35_7 : decode prog_5_method_35_code 7 = .ok (.iconst 2, 1) := D_5 W_prog_5_method_35_code_0 7 rfl rfl
theorem d_5_35_8 : decode prog_5_method_35_code 8 = .ok (.if_icmp .eq 9, 3) := D_159 W_prog_5_method_35_code_0 8 rfl rfl rfl
theorem d_5_35_17 : decode prog_5_method_35_code 17 = .ok (.aload_n 0, 1) := D_42 W_prog_5_method_35_code_0 17 rfl rfl
theorem d_5_35_18 : decode prog_5_method_35_code 18 = .ok (.getfield 18, 3) := D_180 W_prog_5_method_35_code_0 18 rfl rfl rfl
theorem d_5_35_21 : decode prog_5_method_35_code 21 = .ok (.iload_n 1, 1) := D_27 W_prog_5_method_35_code_0 21 rfl rfl
theorem d_5_35_22 : decode prog_5_method_35_code 22 = .ok (.iconst 2, 1) := D_5 W_prog_5_method_35_code_0 22 rfl rfl
theorem d_5_35_23 : decode prog_5_method_35_code 23 = .ok (.aload_n 0, 1) := D_42 W_prog_5_method_35_code_0 23 rfl rfl
theorem d_5_35_24 : decode prog_5_method_35_code 24 = .ok (.getfield 48, 3) := D_180 W_prog_5_method_35_code_0 24 rfl rfl rfl
theorem d_5_35_27 : decode prog_5_method_35_code 27 = .ok (.getfield 290, 3) := D_180 W_prog_5_method_35_code_0 27 rfl rfl rfl
theorem d_5_35_30 : decode prog_5_method_35_code 30 = .ok (.imul, 1) := D_104 W_prog_5_method_35_code_0 30 rfl rfl
theorem d_5_35_31 : decode prog_5_method_35_code 31 = .ok (.iastore, 1) := D_79 W_prog_5_method_35_code_0 31 rfl rfl
theorem W_prog_5_method_35_code_32 : chW prog_5_method_35_code 32 [42, 180, 0, 21, 27, 5, 42, 180, 0, 48, 180, 1, 34, 184, 1, 59, 42, 180, 0, 48, 180, 1, 37, 96, 104, 79, 42, 180, 0, 48, 182, 0, 122, 42, 27, 182] := chW_of (by decide +kernel)
theorem d_5_35_32 : decode prog_5_method_35_code 32 = .ok (.aload_n 0, 1) := D_42 W_prog_5_method_35_code_32 0 rfl rfl
theorem d_5_35_33 : decode prog_5_method_35_code 33 = .ok (.getfield 21, 3) := D_180 W_prog_5_method_35_code_32 1 rfl rfl rfl
theorem d_5_35_36 : decode prog_5_method_35_code 36 = .ok (.iload_n 1, 1) := D_27 W_prog_5_method_35_code_32 4 rfl rfl
theorem d_5_35_37 : decode prog_5_method_35_code 37 = .ok (.iconst 2, 1) := D_5 W_prog_5_method_35_code_32 5 rfl rfl
theorem d_5_35_38 : decode prog_5_method_35_code 38 = .ok (.aload_n 0, 1) := D_42 W_prog_5_method_35_code_32 6 rfl rfl
theorem d_5_35_39 : decode prog_5_method_35_code 39 = .ok (.getfield 48, 3) := D_180 W_prog_5_method_35_code_32 7 rfl rfl rfl
theorem d_5_35_42 : decode prog_5_method_35_code 42 = .ok (.getfield 290, 3) := D_180 W_prog_5_method_35_code_32 10 rfl rfl rfl
theorem d_5_35_45 : decode prog_5_method_35_code 45 = .ok (.invokestatic 315, 3) := D_184 W_prog_5_method_35_code_32 13 rfl rfl rfl
theorem W_prog_13_method_4_code_0 : chW prog_13_method_4_code 0 [27, 62, 3, 54, 4, 21, 4, 17, 11, 184, 162, 0, 63, 29, 2, 159, 0, 58, 42, 180, 0, 32, 154, 0, 51, 28, 16, 64, 162, 0, 45, 42, 42, 180, 0, 24] := chW_of (by decide +kernel)
theorem d_13_4_0 : decode prog_13_method_4_code 0 = .ok (.iload_n 1, 1) := D_27 W_prog_13_method_4_code_0 0 rfl rfl
theorem d_13_4_1 : decode prog_13_method_4_code 1 = .ok (.istore_n 3, 1) := D_62 W_prog_13_method_4_code_0 1 rfl rfl
theorem d_13_4_2 : decode prog_13_method_4_code 2 = .ok (.iconst 0, 1) := D_3 W_prog_13_method_4_code_0 2 rfl rfl
theorem d_13_4_3 : decode prog_13_method_4_code 3 = .ok (.istore 4, 2) := D_54 W_prog_13_method_4_code_0 3 rfl rfl
theorem d_13_4_5 : decode prog_13_method_4_code 5 = .ok (.iload 4, 2) := D_21 W_prog_13_method_4_code_0 5 rfl rfl
theorem d_13_4_7 : decode prog_13_method_4_code 7 = .ok (.sipush 3000, 3) := D_17 W_prog_13_method_4_code_0 7 rfl rfl rfl
theorem d_13_4_10 : decode prog_13_method_4_code 10 = .ok (.if_icmp .ge 63, 3) := D_162 W_prog_13_method_4_code_0 10 rfl rfl rfl
theorem d_13_4_13 : decode prog_13_method_4_code 13 = .ok (.iload_n 3, 1) := D_29 W_prog_13_method_4_code_0 13 rfl rfl
theorem d_13_4_14 : decode prog_13_method_4_code 14 = .ok (.iconst (-1), 1) := D_2 W_prog_13_method_4_code_0 14 rfl rfl
theorem d_13_4_15 : decode prog_13_method_4_code 15 = .ok (.if_icmp .eq 58, 3) := D_159 W_prog_13_method_4_code_0 15 rfl rfl rfl
theorem d_13_4_18 : decode prog_13_method_4_code 18 = .ok (.aload_n 0, 1) := D_42 W_prog_13_method_4_code_0 18 rfl rfl
theorem d_13_4_19 : decode prog_13_method_4_code 19 = .ok (.getfield 32, 3) := D_180 W_prog_13_method_4_code_0 19 rfl rfl rfl
theorem d_13_4_22 : decode prog_13_method_4_code 22 = .ok (.ifCond .ne 51, 3) := D_154 W_prog_13_method_4_code_0 22 rfl rfl rfl
theorem d_13_4_25 : decode prog_13_method_4_code 25 = .ok (.iload_n 2, 1) := D_28 W_prog_13_method_4_code_0 25 rfl rfl
theorem d_13_4_26 : decode prog_13_method_4_code 26 = .ok (.bipush 64, 2) := D_16 W_prog_13_method_4_code_0 26 rfl rfl rfl
theorem d_13_4_28 : decode prog_13_method_4_code 28 = .ok (.if_icmp .ge 45, 3) := D_162 W_prog_13_method_4_code_0 28 rfl rfl rfl
theorem d_13_4_31 : decode prog_13_method_4_code 31 = .ok (.aload_n 0, 1) := D_42 W_prog_13_method_4_code_0 31 rfl rfl
theorem W_prog_13_method_4_code_32 : chW prog_13_method_4_code 32 [42, 180, 0, 24, 180, 0, 95, 29, 46, 182, 0, 98, 42, 180, 0, 32, 154, 0, 9, 42, 29, 28, 182, 0, 102, 42, 180, 0, 24, 180, 0, 105, 29, 46, 62, 132] := chW_of (by decide +kernel)
theorem d_13_4_32 : decode prog_13_method_4_code 32 = .ok (.aload_n 0, 1) := D_42 W_prog_13_method_4_code_32 0 rfl rfl
theorem d_13_4_33 : decode prog_13_method_4_code 33 = .ok (.getfield 24, 3) := D_180 W_prog_13_method_4_code_32 1 rfl rfl rfl
theorem d_13_4_36 : decode prog_13_method_4_code 36 = .ok (.getfield 95, 3) := D_180 W_prog_13_method_4_code_32 4 rfl rfl rfl
theorem d_13_4_39 : decode prog_13_method_4_code 39 = .ok (.iload_n 3, 1) := D_29 W_prog_13_method_4_code_32 7 rfl rfl
theorem d_13_4_40 : decode prog_13_method_4_code 40 = .ok (.iaload, 1) := D_46 W_prog_13_method_4_code_32 8 rfl rfl
theorem d_13_4_41 : decode prog_13_method_4_code 41 = .ok (.invokevirtual 98, 3) := D_182 W_prog_13_method_4_code_32 9 rfl rfl rfl
theorem W_prog_13_method_6_code_0 : chW prog_13_method_6_code 0 [42, 180, 0, 24, 180, 0, 81, 27, 46, 62, 42, 180, 0, 24, 180, 0, 111, 27, 46, 170, 0, 0, 1, 10, 0, 0, 0, 0, 0, 0, 0, 9, 0, 0, 0, 53] := chW_of (by decide +kernel)
theorem d_13_6_0 : decode prog_13_method_6_code 0 = .ok (.aload_n 0, 1) := D_42 W_prog_13_method_6_code_0 0 rfl rfl
theorem d_13_6_1 : decode prog_13_method_6_code 1 = .ok (.getfield 24, 3) := D_180 W_prog_13_method_6_code_0 1 rfl rfl rfl
theorem d_13_6_4 : decode prog_13_method_6_code 4 = .ok (.getfield 81, 3) := D_180 W_prog_13_method_6_code_0 4 rfl rfl rfl
theorem d_13_6_7 : decode prog_13_method_6_code 7 = .ok (.iload_n 1, 1) := D_27 W_prog_13_method_6_code_0 7 rfl rfl
theorem d_13_6_8 : decode prog_13_method_6_code 8 = .ok (.iaload, 1) := D_46 W_prog_13_method_6_code_0 8 rfl rfl
theorem d_13_6_9 : decode prog_13_method_6_code 9 = .ok (.istore_n 3, 1) := D_62 W_prog_13_method_6_code_0 9 rfl rfl
theorem d_13_6_10 : decode prog_13_method_6_code 10 = .ok (.aload_n 0, 1) := D_42 W_prog_13_method_6_code_0 10 rfl rfl
theorem d_13_6_11 : decode prog_13_method_6_code 11 = .ok (.getfield 24, 3) := D_180 W_prog_13_method_6_code_0 11 rfl rfl rfl
theorem d_13_6_14 : decode prog_13_method_6_code 14 = .ok (.getfield 111, 3) := D_180 W_prog_13_method_6_code_0 14 rfl rfl rfl
theorem d_13_6_17 : decode prog_13_method_6_code 17 = .ok (.iload_n 1, 1) := D_27 W_prog_13_method_6_code_0 17 rfl rfl
theorem d_13_6_18 : decode prog_13_method_6_code 18 = .ok (.iaload, 1) := D_46 W_prog_13_method_6_code_0 18 rfl rfl
theorem d_13_6_19 : decode prog_13_method_6_code 19 = .ok (.tableswitch 266 0 9 #[53, 61, 109, 125, 134, 143, 170, 180, 190, 199], 53) := by decide +kernel
theorem W_prog_13_method_6_code_64 : chW prog_13_method_6_code 64 [0, 0, 0, 190, 0, 0, 0, 199, 42, 27, 182, 0, 114, 167, 0, 208, 42, 180, 0, 42, 154, 0, 201, 42, 180, 0, 70, 9, 148, 158, 0, 192, 42, 180, 0, 60] := chW_of (by decide +kernel)
theorem d_13_6_72 : decode prog_13_method_6_code 72 = .ok (.aload_n 0, 1) := D_42 W_prog_13_method_6_code_64 8 rfl rfl
theorem d_13_6_73 : decode prog_13_method_6_code 73 = .ok (.iload_n 1, 1) := D_27 W_prog_13_method_6_code_64 9 rfl rfl
theorem d_13_6_74 : decode prog_13_method_6_code 74 = .ok (.invokevirtual 114, 3) := D_182 W_prog_13_method_6_code_64 10 rfl rfl rfl
theorem W_prog_13_method_7_code_0 : chW prog_13_method_7_code 0 [42, 180, 0, 54, 62, 42, 180, 0, 57, 54, 4, 42, 180, 0, 45, 154, 0, 26, 42, 89, 180, 0, 48, 4, 96, 181, 0, 48, 42, 42, 180, 0, 24, 180, 0, 95] := chW_of (by decide +kernel)
theorem d_13_7_0 : decode prog_13_method_7_code 0 = .ok (.aload_n 0, 1) := D_42 W_prog_13_method_7_code_0 0 rfl rfl
theorem d_13_7_1 : decode prog_13_method_7_code 1 = .ok (.getfield 54, 3) := D_180 W_prog_13_method_7_code_0 1 rfl rfl rfl
theorem d_13_7_4 : decode prog_13_method_7_code 4 = .ok (.istore_n 3, 1) := D_62 W_prog_13_method_7_code_0 4 rfl rfl
theorem d_13_7_5 : decode prog_13_method_7_code 5 = .ok (.aload_n 0, 1) := D_42 W_prog_13_method_7_code_0 5 rfl rfl
theorem d_13_7_6 : decode prog_13_method_7_code 6 = .ok (.getfield 57, 3) := D_180 W_prog_13_method_7_code_0 6 rfl rfl rfl
theorem d_13_7_9 : decode prog_13_method_7_code 9 = .ok (.istore 4, 2) := D_54 W_prog_13_method_7_code_0 9 rfl rfl
theorem d_13_7_11 : decode prog_13_method_7_code 11 = .ok (.aload_n 0, 1) := D_42 W_prog_13_method_7_code_0 11 rfl rfl
theorem d_13_7_12 : decode prog_13_method_7_code 12 = .ok (.getfield 45, 3) := D_180 W_prog_13_method_7_code_0 12 rfl rfl rfl
theorem d_13_7_15 : decode prog_13_method_7_code 15 = .ok (.ifCond .ne 26, 3) := D_154 W_prog_13_method_7_code_0 15 rfl rfl rfl
theorem d_13_7_18 : decode prog_13_method_7_code 18 = .ok (.aload_n 0, 1) := D_42 W_prog_13_method_7_code_0 18 rfl rfl
theorem d_13_7_19 : decode prog_13_method_7_code 19 = .ok (.dup, 1) := D_89 W_prog_13_method_7_code_0 19 rfl rfl
theorem d_13_7_20 : decode prog_13_method_7_code 20 = .ok (.getfield 48, 3) := D_180 W_prog_13_method_7_code_0 20 rfl rfl rfl
theorem d_13_7_23 : decode prog_13_method_7_code 23 = .ok (.iconst 1, 1) := D_4 W_prog_13_method_7_code_0 23 rfl rfl
theorem d_13_7_24 : decode prog_13_method_7_code 24 = .ok (.iadd, 1) := D_96 W_prog_13_method_7_code_0 24 rfl rfl
theorem d_13_7_25 : decode prog_13_method_7_code 25 = .ok (.putfield 48, 3) := D_181 W_prog_13_method_7_code_0 25 rfl rfl rfl
theorem d_13_7_28 : decode prog_13_method_7_code 28 = .ok (.aload_n 0, 1) := D_42 W_prog_13_method_7_code_0 28 rfl rfl
theorem d_13_7_29 : decode prog_13_method_7_code 29 = .ok (.aload_n 0, 1) := D_42 W_prog_13_method_7_code_0 29 rfl rfl
theorem d_13_7_30 : decode prog_13_method_7_code 30 = .ok (.getfield 24, 3) := D_180 W_prog_13_method_7_code_0 30 rfl rfl rfl
theorem W_prog_13_method_7_code_32 : chW prog_13_method_7_code 32 [24, 180, 0, 95, 27, 46, 181, 0, 51, 42, 89, 180, 0, 45, 4, 96, 181, 0, 45, 42, 180, 0, 45, 5, 163, 0, 39, 42, 89, 180, 0, 54, 42, 180, 0, 24] := chW_of (by decide +kernel)
theorem d_13_7_33 : decode prog_13_method_7_code 33 = .ok (.getfield 95, 3) := D_180 W_prog_13_method_7_code_32 1 rfl rfl rfl
theorem d_13_7_36 : decode prog_13_method_7_code 36 = .ok (.iload_n 1, 1) := D_27 W_prog_13_method_7_code_32 4 rfl rfl
theorem d_13_7_37 : decode prog_13_method_7_code 37 = .ok (.iaload, 1) := D_46 W_prog_13_method_7_code_32 5 rfl rfl
theorem d_13_7_38 : decode prog_13_method_7_code 38 = .ok (.putfield 51, 3) := D_181 W_prog_13_method_7_code_32 6 rfl rfl rfl
theorem d_13_7_41 : decode prog_13_method_7_code 41 = .ok (.aload_n 0, 1) := D_42 W_prog_13_method_7_code_32 9 rfl rfl
theorem d_13_7_42 : decode prog_13_method_7_code 42 = .ok (.dup, 1) := D_89 W_prog_13_method_7_code_32 10 rfl rfl
theorem d_13_7_43 : decode prog_13_method_7_code 43 = .ok (.getfield 45, 3) := D_180 W_prog_13_method_7_code_32 11 rfl rfl rfl
theorem d_13_7_46 : decode prog_13_method_7_code 46 = .ok (.iconst 1, 1) := D_4 W_prog_13_method_7_code_32 14 rfl rfl
theorem d_13_7_47 : decode prog_13_method_7_code 47 = .ok (.iadd, 1) := D_96 W_prog_13_method_7_code_32 15 rfl rfl
theorem d_13_7_48 : decode prog_13_method_7_code 48 = .ok (.putfield 45, 3) := D_181 W_prog_13_method_7_code_32 16 rfl rfl rfl
theorem d_13_7_51 : decode prog_13_method_7_code 51 = .ok (.aload_n 0, 1) := D_42 W_prog_13_method_7_code_32 19 rfl rfl
theorem d_13_7_52 : decode prog_13_method_7_code 52 = .ok (.getfield 45, 3) := D_180 W_prog_13_method_7_code_32 20 rfl rfl rfl
theorem d_13_7_55 : decode prog_13_method_7_code 55 = .ok (.iconst 2, 1) := D_5 W_prog_13_method_7_code_32 23 rfl rfl
theorem d_13_7_56 : decode prog_13_method_7_code 56 = .ok (.if_icmp .gt 39, 3) := D_163 W_prog_13_method_7_code_32 24 rfl rfl rfl
theorem d_13_7_59 : decode prog_13_method_7_code 59 = .ok (.aload_n 0, 1) := D_42 W_prog_13_method_7_code_32 27 rfl rfl
theorem d_13_7_60 : decode prog_13_method_7_code 60 = .ok (.dup, 1) := D_89 W_prog_13_method_7_code_32 28 rfl rfl
theorem d_13_7_61 : decode prog_13_method_7_code 61 = .ok (.getfield 54, 3) := D_180 W_prog_13_method_7_code_32 29 rfl rfl rfl
theorem W_prog_13_method_7_code_64 : chW prog_13_method_7_code 64 [42, 180, 0, 24, 180, 0, 117, 27, 46, 104, 181, 0, 54, 42, 89, 180, 0, 57, 42, 180, 0, 24, 180, 0, 136, 27, 46, 104, 181, 0, 57, 42, 42, 180, 0, 24] := chW_of (by decide +kernel)
theorem d_13_7_64 : decode prog_13_method_7_code 64 = .ok (.aload_n 0, 1) := D_42 W_prog_13_method_7_code_64 0 rfl rfl
theorem d_13_7_65 : decode prog_13_method_7_code 65 = .ok (.getfield 24, 3) := D_180 W_prog_13_method_7_code_64 1 rfl rfl rfl
theorem d_13_7_68 : decode prog_13_method_7_code 68 = .ok (.getfield 117, 3) := D_180 W_prog_13_method_7_code_64 4 rfl rfl rfl
theorem d_13_7_71 : decode prog_13_method_7_code 71 = .ok (.iload_n 1, 1) := D_27 W_prog_13_method_7_code_64 7 rfl rfl
theorem d_13_7_72 : decode prog_13_method_7_code 72 = .ok (.iaload, 1) := D_46 W_prog_13_method_7_code_64 8 rfl rfl
theorem d_13_7_73 : decode prog_13_method_7_code 73 = .ok (.imul, 1) := D_104 W_prog_13_method_7_code_64 9 rfl rfl
theorem d_13_7_74 : decode prog_13_method_7_code 74 = .ok (.putfield 54, 3) := D_181 W_prog_13_method_7_code_64 10 rfl rfl rfl
theorem d_13_7_77 : decode prog_13_method_7_code 77 = .ok (.aload_n 0, 1) := D_42 W_prog_13_method_7_code_64 13 rfl rfl
theorem d_13_7_78 : decode prog_13_method_7_code 78 = .ok (.dup, 1) := D_89 W_prog_13_method_7_code_64 14 rfl rfl
theorem d_13_7_79 : decode prog_13_method_7_code 79 = .ok (.getfield 57, 3) := D_180 W_prog_13_method_7_code_64 15 rfl rfl rfl
theorem d_13_7_82 : decode prog_13_method_7_code 82 = .ok (.aload_n 0, 1) := D_42 W_prog_13_method_7_code_64 18 rfl rfl
theorem d_13_7_83 : decode prog_13_method_7_code 83 = .ok (.getfield 24, 3) := D_180 W_prog_13_method_7_code_64 19 rfl rfl rfl
theorem d_13_7_86 : decode prog_13_method_7_code 86 = .ok (.getfield 136, 3) := D_180 W_prog_13_method_7_code_64 22 rfl rfl rfl
theorem d_13_7_89 : decode prog_13_method_7_code 89 = .ok (.iload_n 1, 1) := D_27 W_prog_13_method_7_code_64 25 rfl rfl
theorem d_13_7_90 : decode prog_13_method_7_code 90 = .ok (.iaload, 1) := D_46 W_prog_13_method_7_code_64 26 rfl rfl
theorem d_13_7_91 : decode prog_13_method_7_code 91 = .ok (.imul, 1) := D_104 W_prog_13_method_7_code_64 27 rfl rfl
theorem d_13_7_92 : decode prog_13_method_7_code 92 = .ok (.putfield 57, 3) := D_181 W_prog_13_method_7_code_64 28 rfl rfl rfl
theorem d_13_7_95 : decode prog_13_method_7_code 95 = .ok (.aload_n 0, 1) := D_42 W_prog_13_method_7_code_64 31 rfl rfl
theorem W_prog_13_method_7_code_96 : chW prog_13_method_7_code 96 [42, 180, 0, 24, 180, 0, 81, 27, 46, 28, 4, 96, 182, 0, 91, 42, 89, 180, 0, 45, 4, 100, 181, 0, 45, 42, 29, 181, 0, 54, 42, 21, 4, 181, 0, 57] := chW_of (by decide +kernel)
theorem d_13_7_96 : decode prog_13_method_7_code 96 = .ok (.aload_n 0, 1) := D_42 W_prog_13_method_7_code_96 0 rfl rfl
theorem d_13_7_97 : decode prog_13_method_7_code 97 = .ok (.getfield 24, 3) := D_180 W_prog_13_method_7_code_96 1 rfl rfl rfl
theorem d_13_7_100 : decode prog_13_method_7_code 100 = .ok (.getfield 81, 3) := D_180 W_prog_13_method_7_code_96 4 rfl rfl rfl
theorem d_13_7_103 : decode prog_13_method_7_code 103 = .ok (.iload_n 1, 1) := D_27 W_prog_13_method_7_code_96 7 rfl rfl
theorem d_13_7_104 : decode prog_13_method_7_code 104 = .ok (.iaload, 1) := D_46 W_prog_13_method_7_code_96 8 rfl rfl
theorem d_13_7_105 : decode prog_13_method_7_code 105 = .ok (.iload_n 2, 1) := D_28 W_prog_13_method_7_code_96 9 rfl rfl
theorem d_13_7_106 : decode prog_13_method_7_code 106 = .ok (.iconst 1, 1) := D_4 W_prog_13_method_7_code_96 10 rfl rfl

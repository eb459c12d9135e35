theorem k_7_119 : (Jvm.Cond.methodLink "StaveHouseLaw" (77 : Nat) ({ cls := "StaveHouse", name := "file", desc := "(I)I" } : Jvm.MethodName)) ∈ wAll := wA_7 (j := 119) rfl rfl
theorem k_7_120 : (Jvm.Cond.instanceMethod ({ cls := "StaveHouse", name := "file", desc := "(I)I" } : Jvm.MethodName)) ∈ wAll := wA_7 (j := 120) rfl rfl
theorem k_7_121 : (Jvm.Cond.selects "StaveHouse" ({ cls := "StaveHouse", name := "file", desc := "(I)I" } : Jvm.MethodName) ({ cls := "StaveHouse", name := "file", desc := "(I)I" } : Jvm.MethodName)) ∈ wAll := wA_7 (j := 121) rfl rfl
theorem k_7_122 : (Jvm.Cond.code ({ cls := "StaveHouse", name := "file", desc := "(I)I" } : Jvm.MethodName) prog_1_method_21_code (4 : Nat) (Option.some Jvm.ClassFile.FieldType.int)) ∈ wAll := wA_7 (j := 122) rfl rfl
theorem k_12_190 : (Jvm.Cond.methodLink "StaveHouseLaw" (80 : Nat) ({ cls := "StaveHouseModel", name := "file", desc := "(I)I" } : Jvm.MethodName)) ∈ wAll := wA_12 (j := 190) rfl rfl
theorem k_12_191 : (Jvm.Cond.instanceMethod ({ cls := "StaveHouseModel", name := "file", desc := "(I)I" } : Jvm.MethodName)) ∈ wAll := wA_12 (j := 191) rfl rfl
theorem k_12_192 : (Jvm.Cond.selects "StaveHouseModel" ({ cls := "StaveHouseModel", name := "file", desc := "(I)I" } : Jvm.MethodName) ({ cls := "StaveHouseModel", name := "file", desc := "(I)I" } : Jvm.MethodName)) ∈ wAll := wA_12 (j := 192) rfl rfl
theorem k_12_193 : (Jvm.Cond.code ({ cls := "StaveHouseModel", name := "file", desc := "(I)I" } : Jvm.MethodName) prog_15_method_129_code (6 : Nat) (Option.some Jvm.ClassFile.FieldType.int)) ∈ wAll := wA_12 (j := 193) rfl rfl
theorem k_7_196 : (Jvm.Cond.methodLink "StaveHouseLaw" (81 : Nat) ({ cls := "StaveHouse", name := "out", desc := "(I)I" } : Jvm.MethodName)) ∈ wAll := wA_7 (j := 196) rfl rfl
theorem k_7_197 : (Jvm.Cond.instanceMethod ({ cls := "StaveHouse", name := "out", desc := "(I)I" } : Jvm.MethodName)) ∈ wAll := wA_7 (j := 197) rfl rfl
theorem k_7_198 : (Jvm.Cond.selects "StaveHouse" ({ cls := "StaveHouse", name := "out", desc := "(I)I" } : Jvm.MethodName) ({ cls := "StaveHouse", name := "out", desc := "(I)I" } : Jvm.MethodName)) ∈ wAll := wA_7 (j := 198) rfl rfl
theorem k_7_199 : (Jvm.Cond.code ({ cls := "StaveHouse", name := "out", desc := "(I)I" } : Jvm.MethodName) prog_1_method_22_code (2 : Nat) (Option.some Jvm.ClassFile.FieldType.int)) ∈ wAll := wA_7 (j := 199) rfl rfl
theorem k_12_230 : (Jvm.Cond.methodLink "StaveHouseLaw" (84 : Nat) ({ cls := "StaveHouseModel", name := "out", desc := "(I)I" } : Jvm.MethodName)) ∈ wAll := wA_12 (j := 230) rfl rfl
theorem k_12_231 : (Jvm.Cond.instanceMethod ({ cls := "StaveHouseModel", name := "out", desc := "(I)I" } : Jvm.MethodName)) ∈ wAll := wA_12 (j := 231) rfl rfl
theorem k_12_232 : (Jvm.Cond.selects "StaveHouseModel" ({ cls := "StaveHouseModel", name := "out", desc := "(I)I" } : Jvm.MethodName) ({ cls := "StaveHouseModel", name := "out", desc := "(I)I" } : Jvm.MethodName)) ∈ wAll := wA_12 (j := 232) rfl rfl
theorem k_12_233 : (Jvm.Cond.code ({ cls := "StaveHouseModel", name := "out", desc := "(I)I" } : Jvm.MethodName) prog_15_method_133_code (2 : Nat) (Option.some Jvm.ClassFile.FieldType.int)) ∈ wAll := wA_12 (j := 233) rfl rfl
theorem k_7_201 : (Jvm.Cond.methodLink "StaveHouseLaw" (85 : Nat) ({ cls := "StaveHouse", name := "again", desc := "()I" } : Jvm.MethodName)) ∈ wAll := wA_7 (j := 201) rfl rfl
theorem k_7_202 : (Jvm.Cond.instanceMethod ({ cls := "StaveHouse", name := "again", desc := "()I" } : Jvm.MethodName)) ∈ wAll := wA_7 (j := 202) rfl rfl
theorem k_7_203 : (Jvm.Cond.selects "StaveHouse" ({ cls := "StaveHouse", name := "again", desc := "()I" } : Jvm.MethodName) ({ cls := "StaveHouse", name := "again", desc := "()I" } : Jvm.MethodName)) ∈ wAll := wA_7 (j := 203) rfl rfl
theorem k_7_204 : (Jvm.Cond.code ({ cls := "StaveHouse", name := "again", desc := "()I" } : Jvm.MethodName) prog_1_method_23_code (2 : Nat) (Option.some Jvm.ClassFile.FieldType.int)) ∈ wAll := wA_7 (j := 204) rfl rfl
theorem k_12_234 : (Jvm.Cond.methodLink "StaveHouseLaw" (89 : Nat) ({ cls := "StaveHouseModel", name := "again", desc := "()I" } : Jvm.MethodName)) ∈ wAll := wA_12 (j := 234) rfl rfl
theorem k_12_235 : (Jvm.Cond.instanceMethod ({ cls := "StaveHouseModel", name := "again", desc := "()I" } : Jvm.MethodName)) ∈ wAll := wA_12 (j := 235) rfl rfl
theorem k_12_236 : (Jvm.Cond.selects "StaveHouseModel" ({ cls := "StaveHouseModel", name := "again", desc := "()I" } : Jvm.MethodName) ({ cls := "StaveHouseModel", name := "again", desc := "()I" } : Jvm.MethodName)) ∈ wAll := wA_12 (j := 236) rfl rfl
theorem k_12_237 : (Jvm.Cond.code ({ cls := "StaveHouseModel", name := "again", desc := "()I" } : Jvm.MethodName) prog_15_method_134_code (2 : Nat) (Option.some Jvm.ClassFile.FieldType.int)) ∈ wAll := wA_12 (j := 237) rfl rfl
theorem k_7_205 : (Jvm.Cond.methodLink "StaveHouseLaw" (90 : Nat) ({ cls := "StaveHouse", name := "open", desc := "()I" } : Jvm.MethodName)) ∈ wAll := wA_7 (j := 205) rfl rfl
theorem k_7_206 : (Jvm.Cond.instanceMethod ({ cls := "StaveHouse", name := "open", desc := "()I" } : Jvm.MethodName)) ∈ wAll := wA_7 (j := 206) rfl rfl
theorem k_7_207 : (Jvm.Cond.selects "StaveHouse" ({ cls := "StaveHouse", name := "open", desc := "()I" } : Jvm.MethodName) ({ cls := "StaveHouse", name := "open", desc := "()I" } : Jvm.MethodName)) ∈ wAll := wA_7 (j := 207) rfl rfl
theorem k_7_208 : (Jvm.Cond.code ({ cls := "StaveHouse", name := "open", desc := "()I" } : Jvm.MethodName) prog_1_method_24_code (3 : Nat) (Option.some Jvm.ClassFile.FieldType.int)) ∈ wAll := wA_7 (j := 208) rfl rfl
theorem k_12_238 : (Jvm.Cond.methodLink "StaveHouseLaw" (93 : Nat) ({ cls := "StaveHouseModel", name := "open", desc := "()I" } : Jvm.MethodName)) ∈ wAll := wA_12 (j := 238) rfl rfl
theorem k_12_239 : (Jvm.Cond.instanceMethod ({ cls := "StaveHouseModel", name := "open", desc := "()I" } : Jvm.MethodName)) ∈ wAll := wA_12 (j := 239) rfl rfl
theorem k_13_0 : (Jvm.Cond.selects "StaveHouseModel" ({ cls := "StaveHouseModel", name := "open", desc := "()I" } : Jvm.MethodName) ({ cls := "StaveHouseModel", name := "open", desc := "()I" } : Jvm.MethodName)) ∈ wAll := wA_13 (j := 0) rfl rfl
theorem k_13_1 : (Jvm.Cond.code ({ cls := "StaveHouseModel", name := "open", desc := "()I" } : Jvm.MethodName) prog_15_method_140_code (7 : Nat) (Option.some Jvm.ClassFile.FieldType.int)) ∈ wAll := wA_13 (j := 1) rfl rfl
theorem k_8_126 : (Jvm.Cond.methodLink "StaveHouseLaw" (94 : Nat) ({ cls := "StaveHouse", name := "track", desc := "(I)I" } : Jvm.MethodName)) ∈ wAll := wA_8 (j := 126) rfl rfl
theorem k_8_127 : (Jvm.Cond.instanceMethod ({ cls := "StaveHouse", name := "track", desc := "(I)I" } : Jvm.MethodName)) ∈ wAll := wA_8 (j := 127) rfl rfl
theorem k_8_128 : (Jvm.Cond.selects "StaveHouse" ({ cls := "StaveHouse", name := "track", desc := "(I)I" } : Jvm.MethodName) ({ cls := "StaveHouse", name := "track", desc := "(I)I" } : Jvm.MethodName)) ∈ wAll := wA_8 (j := 128) rfl rfl
theorem k_8_129 : (Jvm.Cond.code ({ cls := "StaveHouse", name := "track", desc := "(I)I" } : Jvm.MethodName) prog_1_method_25_code (2 : Nat) (Option.some Jvm.ClassFile.FieldType.int)) ∈ wAll := wA_8 (j := 129) rfl rfl
theorem k_13_64 : (Jvm.Cond.methodLink "StaveHouseLaw" (97 : Nat) ({ cls := "StaveHouseModel", name := "track", desc := "(I)I" } : Jvm.MethodName)) ∈ wAll := wA_13 (j := 64) rfl rfl
theorem k_13_65 : (Jvm.Cond.instanceMethod ({ cls := "StaveHouseModel", name := "track", desc := "(I)I" } : Jvm.MethodName)) ∈ wAll := wA_13 (j := 65) rfl rfl
theorem k_13_66 : (Jvm.Cond.selects "StaveHouseModel" ({ cls := "StaveHouseModel", name := "track", desc := "(I)I" } : Jvm.MethodName) ({ cls := "StaveHouseModel", name := "track", desc := "(I)I" } : Jvm.MethodName)) ∈ wAll := wA_13 (j := 66) rfl rfl
theorem k_13_67 : (Jvm.Cond.code ({ cls := "StaveHouseModel", name := "track", desc := "(I)I" } : Jvm.MethodName) prog_15_method_149_code (2 : Nat) (Option.some Jvm.ClassFile.FieldType.int)) ∈ wAll := wA_13 (j := 67) rfl rfl
theorem k_8_130 : (Jvm.Cond.methodLink "StaveHouseLaw" (98 : Nat) ({ cls := "StaveHouse", name := "sound", desc := "(II)J" } : Jvm.MethodName)) ∈ wAll := wA_8 (j := 130) rfl rfl
theorem k_8_131 : (Jvm.Cond.instanceMethod ({ cls := "StaveHouse", name := "sound", desc := "(II)J" } : Jvm.MethodName)) ∈ wAll := wA_8 (j := 131) rfl rfl
theorem k_8_132 : (Jvm.Cond.selects "StaveHouse" ({ cls := "StaveHouse", name := "sound", desc := "(II)J" } : Jvm.MethodName) ({ cls := "StaveHouse", name := "sound", desc := "(II)J" } : Jvm.MethodName)) ∈ wAll := wA_8 (j := 132) rfl rfl
theorem k_8_133 : (Jvm.Cond.code ({ cls := "StaveHouse", name := "sound", desc := "(II)J" } : Jvm.MethodName) prog_1_method_26_code (3 : Nat) (Option.some Jvm.ClassFile.FieldType.long)) ∈ wAll := wA_8 (j := 133) rfl rfl
theorem k_13_69 : (Jvm.Cond.methodLink "StaveHouseLaw" (101 : Nat) ({ cls := "StaveHouseModel", name := "sound", desc := "(II)J" } : Jvm.MethodName)) ∈ wAll := wA_13 (j := 69) rfl rfl
theorem k_13_70 : (Jvm.Cond.instanceMethod ({ cls := "StaveHouseModel", name := "sound", desc := "(II)J" } : Jvm.MethodName)) ∈ wAll := wA_13 (j := 70) rfl rfl
theorem k_13_71 : (Jvm.Cond.selects "StaveHouseModel" ({ cls := "StaveHouseModel", name := "sound", desc := "(II)J" } : Jvm.MethodName) ({ cls := "StaveHouseModel", name := "sound", desc := "(II)J" } : Jvm.MethodName)) ∈ wAll := wA_13 (j := 71) rfl rfl
theorem k_13_72 : (Jvm.Cond.code ({ cls := "StaveHouseModel", name := "sound", desc := "(II)J" } : Jvm.MethodName) prog_15_method_150_code (3 : Nat) (Option.some Jvm.ClassFile.FieldType.long)) ∈ wAll := wA_13 (j := 72) rfl rfl
theorem k_8_134 : (Jvm.Cond.methodLink "StaveHouseLaw" (102 : Nat) ({ cls := "StaveHouse", name := "down", desc := "(I)I" } : Jvm.MethodName)) ∈ wAll := wA_8 (j := 134) rfl rfl
theorem k_8_135 : (Jvm.Cond.instanceMethod ({ cls := "StaveHouse", name := "down", desc := "(I)I" } : Jvm.MethodName)) ∈ wAll := wA_8 (j := 135) rfl rfl
theorem k_8_136 : (Jvm.Cond.selects "StaveHouse" ({ cls := "StaveHouse", name := "down", desc := "(I)I" } : Jvm.MethodName) ({ cls := "StaveHouse", name := "down", desc := "(I)I" } : Jvm.MethodName)) ∈ wAll := wA_8 (j := 136) rfl rfl
theorem k_8_137 : (Jvm.Cond.code ({ cls := "StaveHouse", name := "down", desc := "(I)I" } : Jvm.MethodName) prog_1_method_27_code (3 : Nat) (Option.some Jvm.ClassFile.FieldType.int)) ∈ wAll := wA_8 (j := 137) rfl rfl
theorem k_13_73 : (Jvm.Cond.methodLink "StaveHouseLaw" (105 : Nat) ({ cls := "StaveHouseModel", name := "down", desc := "(I)I" } : Jvm.MethodName)) ∈ wAll := wA_13 (j := 73) rfl rfl
theorem k_13_74 : (Jvm.Cond.instanceMethod ({ cls := "StaveHouseModel", name := "down", desc := "(I)I" } : Jvm.MethodName)) ∈ wAll := wA_13 (j := 74) rfl rfl
theorem k_13_75 : (Jvm.Cond.selects "StaveHouseModel" ({ cls := "StaveHouseModel", name := "down", desc := "(I)I" } : Jvm.MethodName) ({ cls := "StaveHouseModel", name := "down", desc := "(I)I" } : Jvm.MethodName)) ∈ wAll := wA_13 (j := 75) rfl rfl
theorem k_13_76 : (Jvm.Cond.code ({ cls := "StaveHouseModel", name := "down", desc := "(I)I" } : Jvm.MethodName) prog_15_method_153_code (7 : Nat) (Option.some Jvm.ClassFile.FieldType.int)) ∈ wAll := wA_13 (j := 76) rfl rfl
theorem k_8_234 : (Jvm.Cond.methodLink "StaveHouseLaw" (106 : Nat) ({ cls := "StaveHouse", name := "play", desc := "(II)I" } : Jvm.MethodName)) ∈ wAll := wA_8 (j := 234) rfl rfl
theorem k_8_235 : (Jvm.Cond.instanceMethod ({ cls := "StaveHouse", name := "play", desc := "(II)I" } : Jvm.MethodName)) ∈ wAll := wA_8 (j := 235) rfl rfl
theorem k_8_236 : (Jvm.Cond.selects "StaveHouse" ({ cls := "StaveHouse", name := "play", desc := "(II)I" } : Jvm.MethodName) ({ cls := "StaveHouse", name := "play", desc := "(II)I" } : Jvm.MethodName)) ∈ wAll := wA_8 (j := 236) rfl rfl
theorem k_8_237 : (Jvm.Cond.code ({ cls := "StaveHouse", name := "play", desc := "(II)I" } : Jvm.MethodName) prog_1_method_28_code (5 : Nat) (Option.some Jvm.ClassFile.FieldType.int)) ∈ wAll := wA_8 (j := 237) rfl rfl
theorem k_13_203 : (Jvm.Cond.methodLink "StaveHouseLaw" (109 : Nat) ({ cls := "StaveHouseModel", name := "play", desc := "(II)I" } : Jvm.MethodName)) ∈ wAll := wA_13 (j := 203) rfl rfl
theorem k_13_204 : (Jvm.Cond.instanceMethod ({ cls := "StaveHouseModel", name := "play", desc := "(II)I" } : Jvm.MethodName)) ∈ wAll := wA_13 (j := 204) rfl rfl
theorem k_13_205 : (Jvm.Cond.selects "StaveHouseModel" ({ cls := "StaveHouseModel", name := "play", desc := "(II)I" } : Jvm.MethodName) ({ cls := "StaveHouseModel", name := "play", desc := "(II)I" } : Jvm.MethodName)) ∈ wAll := wA_13 (j := 205) rfl rfl
theorem k_13_206 : (Jvm.Cond.code ({ cls := "StaveHouseModel", name := "play", desc := "(II)I" } : Jvm.MethodName) prog_15_method_168_code (5 : Nat) (Option.some Jvm.ClassFile.FieldType.int)) ∈ wAll := wA_13 (j := 206) rfl rfl
theorem k_9_30 : (Jvm.Cond.methodLink "StaveHouseLaw" (110 : Nat) ({ cls := "StaveHouse", name := "sample", desc := "(III)I" } : Jvm.MethodName)) ∈ wAll := wA_9 (j := 30) rfl rfl
theorem k_9_31 : (Jvm.Cond.instanceMethod ({ cls := "StaveHouse", name := "sample", desc := "(III)I" } : Jvm.MethodName)) ∈ wAll := wA_9 (j := 31) rfl rfl
theorem k_9_32 : (Jvm.Cond.selects "StaveHouse" ({ cls := "StaveHouse", name := "sample", desc := "(III)I" } : Jvm.MethodName) ({ cls := "StaveHouse", name := "sample", desc := "(III)I" } : Jvm.MethodName)) ∈ wAll := wA_9 (j := 32) rfl rfl
theorem k_9_33 : (Jvm.Cond.code ({ cls := "StaveHouse", name := "sample", desc := "(III)I" } : Jvm.MethodName) prog_1_method_29_code (5 : Nat) (Option.some Jvm.ClassFile.FieldType.int)) ∈ wAll := wA_9 (j := 33) rfl rfl
theorem k_14_8 : (Jvm.Cond.methodLink "StaveHouseLaw" (113 : Nat) ({ cls := "StaveHouseModel", name := "sample", desc := "(III)I" } : Jvm.MethodName)) ∈ wAll := wA_14 (j := 8) rfl rfl
theorem k_14_9 : (Jvm.Cond.instanceMethod ({ cls := "StaveHouseModel", name := "sample", desc := "(III)I" } : Jvm.MethodName)) ∈ wAll := wA_14 (j := 9) rfl rfl
theorem k_14_10 : (Jvm.Cond.selects "StaveHouseModel" ({ cls := "StaveHouseModel", name := "sample", desc := "(III)I" } : Jvm.MethodName) ({ cls := "StaveHouseModel", name := "sample", desc := "(III)I" } : Jvm.MethodName)) ∈ wAll := wA_14 (j := 10) rfl rfl
theorem k_14_11 : (Jvm.Cond.code ({ cls := "StaveHouseModel", name := "sample", desc := "(III)I" } : Jvm.MethodName) prog_15_method_170_code (5 : Nat) (Option.some Jvm.ClassFile.FieldType.int)) ∈ wAll := wA_14 (j := 11) rfl rfl
theorem k_9_34 : (Jvm.Cond.methodLink "StaveHouseLaw" (114 : Nat) ({ cls := "StaveHouse", name := "moment", desc := "(III)J" } : Jvm.MethodName)) ∈ wAll := wA_9 (j := 34) rfl rfl
theorem k_9_35 : (Jvm.Cond.instanceMethod ({ cls := "StaveHouse", name := "moment", desc := "(III)J" } : Jvm.MethodName)) ∈ wAll := wA_9 (j := 35) rfl rfl
theorem k_9_36 : (Jvm.Cond.selects "StaveHouse" ({ cls := "StaveHouse", name := "moment", desc := "(III)J" } : Jvm.MethodName) ({ cls := "StaveHouse", name := "moment", desc := "(III)J" } : Jvm.MethodName)) ∈ wAll := wA_9 (j := 36) rfl rfl
theorem k_9_37 : (Jvm.Cond.code ({ cls := "StaveHouse", name := "moment", desc := "(III)J" } : Jvm.MethodName) prog_1_method_30_code (6 : Nat) (Option.some Jvm.ClassFile.FieldType.long)) ∈ wAll := wA_9 (j := 37) rfl rfl
theorem k_14_12 : (Jvm.Cond.methodLink "StaveHouseLaw" (117 : Nat) ({ cls := "StaveHouseModel", name := "moment", desc := "(III)J" } : Jvm.MethodName)) ∈ wAll := wA_14 (j := 12) rfl rfl
theorem k_14_13 : (Jvm.Cond.instanceMethod ({ cls := "StaveHouseModel", name := "moment", desc := "(III)J" } : Jvm.MethodName)) ∈ wAll := wA_14 (j := 13) rfl rfl
theorem k_14_14 : (Jvm.Cond.selects "StaveHouseModel" ({ cls := "StaveHouseModel", name := "moment", desc := "(III)J" } : Jvm.MethodName) ({ cls := "StaveHouseModel", name := "moment", desc := "(III)J" } : Jvm.MethodName)) ∈ wAll := wA_14 (j := 14) rfl rfl
theorem k_14_15 : (Jvm.Cond.code ({ cls := "StaveHouseModel", name := "moment", desc := "(III)J" } : Jvm.MethodName) prog_15_method_181_code (5 : Nat) (Option.some Jvm.ClassFile.FieldType.long)) ∈ wAll := wA_14 (j := 15) rfl rfl
theorem k_9_77 : (Jvm.Cond.methodLink "StaveHouseLaw" (118 : Nat) ({ cls := "StaveHouse", name := "fault", desc := "(III)I" } : Jvm.MethodName)) ∈ wAll := wA_9 (j := 77) rfl rfl
theorem k_9_78 : (Jvm.Cond.instanceMethod ({ cls := "StaveHouse", name := "fault", desc := "(III)I" } : Jvm.MethodName)) ∈ wAll := wA_9 (j := 78) rfl rfl
theorem k_9_79 : (Jvm.Cond.selects "StaveHouse" ({ cls := "StaveHouse", name := "fault", desc := "(III)I" } : Jvm.MethodName) ({ cls := "StaveHouse", name := "fault", desc := "(III)I" } : Jvm.MethodName)) ∈ wAll := wA_9 (j := 79) rfl rfl
theorem k_9_80 : (Jvm.Cond.code ({ cls := "StaveHouse", name := "fault", desc := "(III)I" } : Jvm.MethodName) prog_1_method_31_code (5 : Nat) (Option.some Jvm.ClassFile.FieldType.int)) ∈ wAll := wA_9 (j := 80) rfl rfl
theorem k_14_50 : (Jvm.Cond.methodLink "StaveHouseLaw" (121 : Nat) ({ cls := "StaveHouseModel", name := "fault", desc := "(III)I" } : Jvm.MethodName)) ∈ wAll := wA_14 (j := 50) rfl rfl
theorem k_14_51 : (Jvm.Cond.instanceMethod ({ cls := "StaveHouseModel", name := "fault", desc := "(III)I" } : Jvm.MethodName)) ∈ wAll := wA_14 (j := 51) rfl rfl
theorem k_14_52 : (Jvm.Cond.selects "StaveHouseModel" ({ cls := "StaveHouseModel", name := "fault", desc := "(III)I" } : Jvm.MethodName) ({ cls := "StaveHouseModel", name := "fault", desc := "(III)I" } : Jvm.MethodName)) ∈ wAll := wA_14 (j := 52) rfl rfl
theorem k_14_53 : (Jvm.Cond.code ({ cls := "StaveHouseModel", name := "fault", desc := "(III)I" } : Jvm.MethodName) prog_15_method_194_code (5 : Nat) (Option.some Jvm.ClassFile.FieldType.int)) ∈ wAll := wA_14 (j := 53) rfl rfl
theorem k_9_81 : (Jvm.Cond.methodLink "StaveHouseLaw" (122 : Nat) ({ cls := "StaveHouse", name := "follows", desc := "(IIII)J" } : Jvm.MethodName)) ∈ wAll := wA_9 (j := 81) rfl rfl
theorem k_9_82 : (Jvm.Cond.instanceMethod ({ cls := "StaveHouse", name := "follows", desc := "(IIII)J" } : Jvm.MethodName)) ∈ wAll := wA_9 (j := 82) rfl rfl
theorem k_9_83 : (Jvm.Cond.selects "StaveHouse" ({ cls := "StaveHouse", name := "follows", desc := "(IIII)J" } : Jvm.MethodName) ({ cls := "StaveHouse", name := "follows", desc := "(IIII)J" } : Jvm.MethodName)) ∈ wAll := wA_9 (j := 83) rfl rfl
theorem k_9_84 : (Jvm.Cond.code ({ cls := "StaveHouse", name := "follows", desc := "(IIII)J" } : Jvm.MethodName) prog_1_method_32_code (12 : Nat) (Option.some Jvm.ClassFile.FieldType.long)) ∈ wAll := wA_9 (j := 84) rfl rfl
theorem k_14_54 : (Jvm.Cond.methodLink "StaveHouseLaw" (125 : Nat) ({ cls := "StaveHouseModel", name := "follows", desc := "(IIII)J" } : Jvm.MethodName)) ∈ wAll := wA_14 (j := 54) rfl rfl
theorem k_14_55 : (Jvm.Cond.instanceMethod ({ cls := "StaveHouseModel", name := "follows", desc := "(IIII)J" } : Jvm.MethodName)) ∈ wAll := wA_14 (j := 55) rfl rfl
theorem k_14_56 : (Jvm.Cond.selects "StaveHouseModel" ({ cls := "StaveHouseModel", name := "follows", desc := "(IIII)J" } : Jvm.MethodName) ({ cls := "StaveHouseModel", name := "follows", desc := "(IIII)J" } : Jvm.MethodName)) ∈ wAll := wA_14 (j := 56) rfl rfl
theorem k_14_57 : (Jvm.Cond.code ({ cls := "StaveHouseModel", name := "follows", desc := "(IIII)J" } : Jvm.MethodName) prog_15_method_198_code (13 : Nat) (Option.some Jvm.ClassFile.FieldType.long)) ∈ wAll := wA_14 (j := 57) rfl rfl
theorem k_9_99 : (Jvm.Cond.methodLink "StaveHouseLaw" (126 : Nat) ({ cls := "StaveHouse", name := "shape", desc := "(IIIIIIII)I" } : Jvm.MethodName)) ∈ wAll := wA_9 (j := 99) rfl rfl
theorem k_9_100 : (Jvm.Cond.instanceMethod ({ cls := "StaveHouse", name := "shape", desc := "(IIIIIIII)I" } : Jvm.MethodName)) ∈ wAll := wA_9 (j := 100) rfl rfl
theorem k_9_101 : (Jvm.Cond.selects "StaveHouse" ({ cls := "StaveHouse", name := "shape", desc := "(IIIIIIII)I" } : Jvm.MethodName) ({ cls := "StaveHouse", name := "shape", desc := "(IIIIIIII)I" } : Jvm.MethodName)) ∈ wAll := wA_9 (j := 101) rfl rfl
theorem k_9_102 : (Jvm.Cond.code ({ cls := "StaveHouse", name := "shape", desc := "(IIIIIIII)I" } : Jvm.MethodName) prog_1_method_33_code (14 : Nat) (Option.some Jvm.ClassFile.FieldType.int)) ∈ wAll := wA_9 (j := 102) rfl rfl
theorem k_14_67 : (Jvm.Cond.methodLink "StaveHouseLaw" (130 : Nat) ({ cls := "StaveHouseModel", name := "shape", desc := "(IIIIIIII)I" } : Jvm.MethodName)) ∈ wAll := wA_14 (j := 67) rfl rfl
theorem k_14_68 : (Jvm.Cond.instanceMethod ({ cls := "StaveHouseModel", name := "shape", desc := "(IIIIIIII)I" } : Jvm.MethodName)) ∈ wAll := wA_14 (j := 68) rfl rfl
theorem k_14_69 : (Jvm.Cond.selects "StaveHouseModel" ({ cls := "StaveHouseModel", name := "shape", desc := "(IIIIIIII)I" } : Jvm.MethodName) ({ cls := "StaveHouseModel", name := "shape", desc := "(IIIIIIII)I" } : Jvm.MethodName)) ∈ wAll := wA_14 (j := 69) rfl rfl
theorem k_14_70 : (Jvm.Cond.code ({ cls := "StaveHouseModel", name := "shape", desc := "(IIIIIIII)I" } : Jvm.MethodName) prog_15_method_199_code (13 : Nat) (Option.some Jvm.ClassFile.FieldType.int)) ∈ wAll := wA_14 (j := 70) rfl rfl
theorem d_code_726 : decode code 726 = .ok (.aload_n 1, 1) := D_43 W_code_704 22 rfl rfl
theorem d_code_727 : decode code 727 = .ok (.aload_n 0, 1) := D_42 W_code_704 23 rfl rfl
theorem d_code_728 : decode code 728 = .ok (.iload_n 3, 1) := D_29 W_code_704 24 rfl rfl
theorem d_code_729 : decode code 729 = .ok (.iconst 1, 1) := D_4 W_code_704 25 rfl rfl
theorem d_code_730 : decode code 730 = .ok (.iadd, 1) := D_96 W_code_704 26 rfl rfl
theorem d_code_731 : decode code 731 = .ok (.iaload, 1) := D_46 W_code_704 27 rfl rfl
theorem d_code_732 : decode code 732 = .ok (.invokevirtual 77, 3) := D_182 W_code_704 28 rfl rfl rfl
theorem d_code_735 : decode code 735 = .ok (.pop, 1) := D_87 W_code_704 31 rfl rfl
theorem W_code_736 : chW code 736 [44, 42, 29, 4, 96, 46, 182, 0, 80, 87, 167, 1, 189, 43, 42, 29, 4, 96, 46, 182, 0, 81, 87, 44, 42, 29, 4, 96, 46, 182, 0, 84, 87, 167, 1, 166] := chW_of (by decide +kernel)
theorem d_code_736 : decode code 736 = .ok (.aload_n 2, 1) := D_44 W_code_736 0 rfl rfl
theorem d_code_737 : decode code 737 = .ok (.aload_n 0, 1) := D_42 W_code_736 1 rfl rfl
theorem d_code_738 : decode code 738 = .ok (.iload_n 3, 1) := D_29 W_code_736 2 rfl rfl
theorem d_code_739 : decode code 739 = .ok (.iconst 1, 1) := D_4 W_code_736 3 rfl rfl
theorem d_code_740 : decode code 740 = .ok (.iadd, 1) := D_96 W_code_736 4 rfl rfl
theorem d_code_741 : decode code 741 = .ok (.iaload, 1) := D_46 W_code_736 5 rfl rfl
theorem d_code_742 : decode code 742 = .ok (.invokevirtual 80, 3) := D_182 W_code_736 6 rfl rfl rfl
theorem d_code_745 : decode code 745 = .ok (.pop, 1) := D_87 W_code_736 9 rfl rfl
theorem d_code_746 : decode code 746 = .ok (.goto 445, 3) := D_167 W_code_736 10 rfl rfl rfl
theorem d_code_749 : decode code 749 = .ok (.aload_n 1, 1) := D_43 W_code_736 13 rfl rfl
theorem d_code_750 : decode code 750 = .ok (.aload_n 0, 1) := D_42 W_code_736 14 rfl rfl
theorem d_code_751 : decode code 751 = .ok (.iload_n 3, 1) := D_29 W_code_736 15 rfl rfl
theorem d_code_752 : decode code 752 = .ok (.iconst 1, 1) := D_4 W_code_736 16 rfl rfl
theorem d_code_753 : decode code 753 = .ok (.iadd, 1) := D_96 W_code_736 17 rfl rfl
theorem d_code_754 : decode code 754 = .ok (.iaload, 1) := D_46 W_code_736 18 rfl rfl
theorem d_code_755 : decode code 755 = .ok (.invokevirtual 81, 3) := D_182 W_code_736 19 rfl rfl rfl
theorem d_code_758 : decode code 758 = .ok (.pop, 1) := D_87 W_code_736 22 rfl rfl
theorem d_code_759 : decode code 759 = .ok (.aload_n 2, 1) := D_44 W_code_736 23 rfl rfl
theorem d_code_760 : decode code 760 = .ok (.aload_n 0, 1) := D_42 W_code_736 24 rfl rfl
theorem d_code_761 : decode code 761 = .ok (.iload_n 3, 1) := D_29 W_code_736 25 rfl rfl
theorem d_code_762 : decode code 762 = .ok (.iconst 1, 1) := D_4 W_code_736 26 rfl rfl
theorem d_code_763 : decode code 763 = .ok (.iadd, 1) := D_96 W_code_736 27 rfl rfl
theorem d_code_764 : decode code 764 = .ok (.iaload, 1) := D_46 W_code_736 28 rfl rfl
theorem d_code_765 : decode code 765 = .ok (.invokevirtual 84, 3) := D_182 W_code_736 29 rfl rfl rfl
theorem W_code_768 : chW code 768 [87, 167, 1, 166, 43, 182, 0, 85, 87, 44, 182, 0, 89, 87, 167, 1, 153, 43, 182, 0, 90, 87, 44, 182, 0, 93, 87, 167, 1, 140, 43, 42, 29, 4, 96, 46] := chW_of (by decide +kernel)
theorem d_code_768 : decode code 768 = .ok (.pop, 1) := D_87 W_code_768 0 rfl rfl
theorem d_code_769 : decode code 769 = .ok (.goto 422, 3) := D_167 W_code_768 1 rfl rfl rfl
theorem d_code_772 : decode code 772 = .ok (.aload_n 1, 1) := D_43 W_code_768 4 rfl rfl
theorem d_code_773 : decode code 773 = .ok (.invokevirtual 85, 3) := D_182 W_code_768 5 rfl rfl rfl
theorem d_code_776 : decode code 776 = .ok (.pop, 1) := D_87 W_code_768 8 rfl rfl
theorem d_code_777 : decode code 777 = .ok (.aload_n 2, 1) := D_44 W_code_768 9 rfl rfl
theorem d_code_778 : decode code 778 = .ok (.invokevirtual 89, 3) := D_182 W_code_768 10 rfl rfl rfl
theorem d_code_781 : decode code 781 = .ok (.pop, 1) := D_87 W_code_768 13 rfl rfl
theorem d_code_782 : decode code 782 = .ok (.goto 409, 3) := D_167 W_code_768 14 rfl rfl rfl
theorem d_code_785 : decode code 785 = .ok (.aload_n 1, 1) := D_43 W_code_768 17 rfl rfl
theorem d_code_786 : decode code 786 = .ok (.invokevirtual 90, 3) := D_182 W_code_768 18 rfl rfl rfl
theorem d_code_789 : decode code 789 = .ok (.pop, 1) := D_87 W_code_768 21 rfl rfl
theorem d_code_790 : decode code 790 = .ok (.aload_n 2, 1) := D_44 W_code_768 22 rfl rfl
theorem d_code_791 : decode code 791 = .ok (.invokevirtual 93, 3) := D_182 W_code_768 23 rfl rfl rfl
theorem d_code_794 : decode code 794 = .ok (.pop, 1) := D_87 W_code_768 26 rfl rfl
theorem d_code_795 : decode code 795 = .ok (.goto 396, 3) := D_167 W_code_768 27 rfl rfl rfl
theorem d_code_798 : decode code 798 = .ok (.aload_n 1, 1) := D_43 W_code_768 30 rfl rfl
theorem d_code_799 : decode code 799 = .ok (.aload_n 0, 1) := D_42 W_code_768 31 rfl rfl
theorem W_code_800 : chW code 800 [29, 4, 96, 46, 182, 0, 94, 87, 44, 42, 29, 4, 96, 46, 182, 0, 97, 87, 167, 1, 117, 43, 42, 29, 4, 96, 46, 42, 29, 5, 96, 46, 182, 0, 98, 88] := chW_of (by decide +kernel)
theorem d_code_800 : decode code 800 = .ok (.iload_n 3, 1) := D_29 W_code_800 0 rfl rfl
theorem d_code_801 : decode code 801 = .ok (.iconst 1, 1) := D_4 W_code_800 1 rfl rfl
theorem d_code_802 : decode code 802 = .ok (.iadd, 1) := D_96 W_code_800 2 rfl rfl
theorem d_code_803 : decode code 803 = .ok (.iaload, 1) := D_46 W_code_800 3 rfl rfl
theorem d_code_804 : decode code 804 = .ok (.invokevirtual 94, 3) := D_182 W_code_800 4 rfl rfl rfl
theorem d_code_807 : decode code 807 = .ok (.pop, 1) := D_87 W_code_800 7 rfl rfl
theorem d_code_808 : decode code 808 = .ok (.aload_n 2, 1) := D_44 W_code_800 8 rfl rfl
theorem d_code_809 : decode code 809 = .ok (.aload_n 0, 1) := D_42 W_code_800 9 rfl rfl
theorem d_code_810 : decode code 810 = .ok (.iload_n 3, 1) := D_29 W_code_800 10 rfl rfl
theorem d_code_811 : decode code 811 = .ok (.iconst 1, 1) := D_4 W_code_800 11 rfl rfl
theorem d_code_812 : decode code 812 = .ok (.iadd, 1) := D_96 W_code_800 12 rfl rfl
theorem d_code_813 : decode code 813 = .ok (.iaload, 1) := D_46 W_code_800 13 rfl rfl
theorem d_code_814 : decode code 814 = .ok (.invokevirtual 97, 3) := D_182 W_code_800 14 rfl rfl rfl
theorem d_code_817 : decode code 817 = .ok (.pop, 1) := D_87 W_code_800 17 rfl rfl
theorem d_code_818 : decode code 818 = .ok (.goto 373, 3) := D_167 W_code_800 18 rfl rfl rfl
theorem d_code_821 : decode code 821 = .ok (.aload_n 1, 1) := D_43 W_code_800 21 rfl rfl
theorem d_code_822 : decode code 822 = .ok (.aload_n 0, 1) := D_42 W_code_800 22 rfl rfl
theorem d_code_823 : decode code 823 = .ok (.iload_n 3, 1) := D_29 W_code_800 23 rfl rfl
theorem d_code_824 : decode code 824 = .ok (.iconst 1, 1) := D_4 W_code_800 24 rfl rfl
theorem d_code_825 : decode code 825 = .ok (.iadd, 1) := D_96 W_code_800 25 rfl rfl
theorem d_code_826 : decode code 826 = .ok (.iaload, 1) := D_46 W_code_800 26 rfl rfl
theorem d_code_827 : decode code 827 = .ok (.aload_n 0, 1) := D_42 W_code_800 27 rfl rfl
theorem d_code_828 : decode code 828 = .ok (.iload_n 3, 1) := D_29 W_code_800 28 rfl rfl
theorem d_code_829 : decode code 829 = .ok (.iconst 2, 1) := D_5 W_code_800 29 rfl rfl
theorem d_code_830 : decode code 830 = .ok (.iadd, 1) := D_96 W_code_800 30 rfl rfl
theorem d_code_831 : decode code 831 = .ok (.iaload, 1) := D_46 W_code_800 31 rfl rfl
theorem W_code_832 : chW code 832 [182, 0, 98, 88, 44, 42, 29, 4, 96, 46, 42, 29, 5, 96, 46, 182, 0, 101, 88, 167, 1, 84, 43, 42, 29, 4, 96, 46, 182, 0, 102, 87, 44, 42, 29, 4] := chW_of (by decide +kernel)
theorem d_code_832 : decode code 832 = .ok (.invokevirtual 98, 3) := D_182 W_code_832 0 rfl rfl rfl
theorem d_code_835 : decode code 835 = .ok (.pop2, 1) := D_88 W_code_832 3 rfl rfl
theorem d_code_836 : decode code 836 = .ok (.aload_n 2, 1) := D_44 W_code_832 4 rfl rfl
theorem d_code_837 : decode code 837 = .ok (.aload_n 0, 1) := D_42 W_code_832 5 rfl rfl
theorem d_code_838 : decode code 838 = .ok (.iload_n 3, 1) := D_29 W_code_832 6 rfl rfl
theorem d_code_839 : decode code 839 = .ok (.iconst 1, 1) := D_4 W_code_832 7 rfl rfl
theorem d_code_840 : decode code 840 = .ok (.iadd, 1) := D_96 W_code_832 8 rfl rfl
theorem d_code_841 : decode code 841 = .ok (.iaload, 1) := D_46 W_code_832 9 rfl rfl
theorem d_code_842 : decode code 842 = .ok (.aload_n 0, 1) := D_42 W_code_832 10 rfl rfl
theorem d_code_843 : decode code 843 = .ok (.iload_n 3, 1) := D_29 W_code_832 11 rfl rfl
theorem d_code_844 : decode code 844 = .ok (.iconst 2, 1) := D_5 W_code_832 12 rfl rfl
theorem d_code_845 : decode code 845 = .ok (.iadd, 1) := D_96 W_code_832 13 rfl rfl
theorem d_code_846 : decode code 846 = .ok (.iaload, 1) := D_46 W_code_832 14 rfl rfl
theorem d_code_847 : decode code 847 = .ok (.invokevirtual 101, 3) := D_182 W_code_832 15 rfl rfl rfl
theorem d_code_850 : decode code 850 = .ok (.pop2, 1) := D_88 W_code_832 18 rfl rfl
theorem d_code_851 : decode code 851 = .ok (.goto 340, 3) := D_167 W_code_832 19 rfl rfl rfl
theorem d_code_854 : decode code 854 = .ok (.aload_n 1, 1) := D_43 W_code_832 22 rfl rfl
theorem d_code_855 : decode code 855 = .ok (.aload_n 0, 1) := D_42 W_code_832 23 rfl rfl
theorem d_code_856 : decode code 856 = .ok (.iload_n 3, 1) := D_29 W_code_832 24 rfl rfl
theorem d_code_857 : decode code 857 = .ok (.iconst 1, 1) := D_4 W_code_832 25 rfl rfl
theorem d_code_858 : decode code 858 = .ok (.iadd, 1) := D_96 W_code_832 26 rfl rfl
theorem d_code_859 : decode code 859 = .ok (.iaload, 1) := D_46 W_code_832 27 rfl rfl
theorem d_code_860 : decode code 860 = .ok (.invokevirtual 102, 3) := D_182 W_code_832 28 rfl rfl rfl
theorem d_code_863 : decode code 863 = .ok (.pop, 1) := D_87 W_code_832 31 rfl rfl
theorem W_code_864 : chW code 864 [44, 42, 29, 4, 96, 46, 182, 0, 105, 87, 167, 1, 61, 43, 42, 29, 4, 96, 46, 42, 29, 5, 96, 46, 182, 0, 106, 87, 44, 42, 29, 4, 96, 46, 42, 29] := chW_of (by decide +kernel)
theorem d_code_864 : decode code 864 = .ok (.aload_n 2, 1) := D_44 W_code_864 0 rfl rfl
theorem d_code_865 : decode code 865 = .ok (.aload_n 0, 1) := D_42 W_code_864 1 rfl rfl
theorem d_code_866 : decode code 866 = .ok (.iload_n 3, 1) := D_29 W_code_864 2 rfl rfl
theorem d_code_867 : decode code 867 = .ok (.iconst 1, 1) := D_4 W_code_864 3 rfl rfl
theorem d_code_868 : decode code 868 = .ok (.iadd, 1) := D_96 W_code_864 4 rfl rfl
theorem d_code_869 : decode code 869 = .ok (.iaload, 1) := D_46 W_code_864 5 rfl rfl
theorem d_code_870 : decode code 870 = .ok (.invokevirtual 105, 3) := D_182 W_code_864 6 rfl rfl rfl
theorem d_code_873 : decode code 873 = .ok (.pop, 1) := D_87 W_code_864 9 rfl rfl
theorem d_code_874 : decode code 874 = .ok (.goto 317, 3) := D_167 W_code_864 10 rfl rfl rfl
theorem d_code_877 : decode code 877 = .ok (.aload_n 1, 1) := D_43 W_code_864 13 rfl rfl
theorem d_code_878 : decode code 878 = .ok (.aload_n 0, 1) := D_42 W_code_864 14 rfl rfl
theorem d_code_879 : decode code 879 = .ok (.iload_n 3, 1) := D_29 W_code_864 15 rfl rfl
theorem d_code_880 : decode code 880 = .ok (.iconst 1, 1) := D_4 W_code_864 16 rfl rfl
theorem d_code_881 : decode code 881 = .ok (.iadd, 1) := D_96 W_code_864 17 rfl rfl
theorem d_code_882 : decode code 882 = .ok (.iaload, 1) := D_46 W_code_864 18 rfl rfl
theorem d_code_883 : decode code 883 = .ok (.aload_n 0, 1) := D_42 W_code_864 19 rfl rfl
theorem d_code_884 : decode code 884 = .ok (.iload_n 3, 1) := D_29 W_code_864 20 rfl rfl
theorem d_code_885 : decode code 885 = .ok (.iconst 2, 1) := D_5 W_code_864 21 rfl rfl
theorem d_code_886 : decode code 886 = .ok (.iadd, 1) := D_96 W_code_864 22 rfl rfl
theorem d_code_887 : decode code 887 = .ok (.iaload, 1) := D_46 W_code_864 23 rfl rfl
theorem d_code_888 : decode code 888 = .ok (.invokevirtual 106, 3) := D_182 W_code_864 24 rfl rfl rfl
theorem d_code_891 : decode code 891 = .ok (.pop, 1) := D_87 W_code_864 27 rfl rfl
theorem d_code_892 : decode code 892 = .ok (.aload_n 2, 1) := D_44 W_code_864 28 rfl rfl
theorem d_code_893 : decode code 893 = .ok (.aload_n 0, 1) := D_42 W_code_864 29 rfl rfl
theorem d_code_894 : decode code 894 = .ok (.iload_n 3, 1) := D_29 W_code_864 30 rfl rfl
theorem d_code_895 : decode code 895 = .ok (.iconst 1, 1) := D_4 W_code_864 31 rfl rfl
theorem W_code_896 : chW code 896 [96, 46, 42, 29, 5, 96, 46, 182, 0, 109, 87, 167, 1, 28, 43, 42, 29, 4, 96, 46, 42, 29, 5, 96, 46, 42, 29, 6, 96, 46, 182, 0, 110, 87, 44, 42] := chW_of (by decide +kernel)
theorem d_code_896 : decode code 896 = .ok (.iadd, 1) := D_96 W_code_896 0 rfl rfl
theorem d_code_897 : decode code 897 = .ok (.iaload, 1) := D_46 W_code_896 1 rfl rfl
theorem d_code_898 : decode code 898 = .ok (.aload_n 0, 1) := D_42 W_code_896 2 rfl rfl
theorem d_code_899 : decode code 899 = .ok (.iload_n 3, 1) := D_29 W_code_896 3 rfl rfl
theorem d_code_900 : decode code 900 = .ok (.iconst 2, 1) := D_5 W_code_896 4 rfl rfl
theorem d_code_901 : decode code 901 = .ok (.iadd, 1) := D_96 W_code_896 5 rfl rfl
theorem d_code_902 : decode code 902 = .ok (.iaload, 1) := D_46 W_code_896 6 rfl rfl
theorem d_code_903 : decode code 903 = .ok (.invokevirtual 109, 3) := D_182 W_code_896 7 rfl rfl rfl
theorem d_code_906 : decode code 906 = .ok (.pop, 1) := D_87 W_code_896 10 rfl rfl
theorem d_code_907 : decode code 907 = .ok (.goto 284, 3) := D_167 W_code_896 11 rfl rfl rfl
theorem d_code_910 : decode code 910 = .ok (.aload_n 1, 1) := D_43 W_code_896 14 rfl rfl
theorem d_code_911 : decode code 911 = .ok (.aload_n 0, 1) := D_42 W_code_896 15 rfl rfl
theorem d_code_912 : decode code 912 = .ok (.iload_n 3, 1) := D_29 W_code_896 16 rfl rfl
theorem d_code_913 : decode code 913 = .ok (.iconst 1, 1) := D_4 W_code_896 17 rfl rfl
theorem d_code_914 : decode code 914 = .ok (.iadd, 1) := D_96 W_code_896 18 rfl rfl
theorem d_code_915 : decode code 915 = .ok (.iaload, 1) := D_46 W_code_896 19 rfl rfl
theorem d_code_916 : decode code 916 = .ok (.aload_n 0, 1) := D_42 W_code_896 20 rfl rfl
theorem d_code_917 : decode code 917 = .ok (.iload_n 3, 1) := D_29 W_code_896 21 rfl rfl
theorem d_code_918 : decode code 918 = .ok (.iconst 2, 1) := D_5 W_code_896 22 rfl rfl
theorem d_code_919 : decode code 919 = .ok (.iadd, 1) := D_96 W_code_896 23 rfl rfl
theorem d_code_920 : decode code 920 = .ok (.iaload, 1) := D_46 W_code_896 24 rfl rfl
theorem d_code_921 : decode code 921 = .ok (.aload_n 0, 1) := D_42 W_code_896 25 rfl rfl
theorem d_code_922 : decode code 922 = .ok (.iload_n 3, 1) := D_29 W_code_896 26 rfl rfl
theorem d_code_923 : decode code 923 = .ok (.iconst 3, 1) := D_6 W_code_896 27 rfl rfl
theorem d_code_924 : decode code 924 = .ok (.iadd, 1) := D_96 W_code_896 28 rfl rfl
theorem d_code_925 : decode code 925 = .ok (.iaload, 1) := D_46 W_code_896 29 rfl rfl
theorem d_code_926 : decode code 926 = .ok (.invokevirtual 110, 3) := D_182 W_code_896 30 rfl rfl rfl
theorem W_code_928 : chW code 928 [110, 87, 44, 42, 29, 4, 96, 46, 42, 29, 5, 96, 46, 42, 29, 6, 96, 46, 182, 0, 113, 87, 167, 0, 241, 43, 42, 29, 4, 96, 46, 42, 29, 5, 96, 46] := chW_of (by decide +kernel)
theorem d_code_929 : decode code 929 = .ok (.pop, 1) := D_87 W_code_928 1 rfl rfl
theorem d_code_930 : decode code 930 = .ok (.aload_n 2, 1) := D_44 W_code_928 2 rfl rfl
theorem d_code_931 : decode code 931 = .ok (.aload_n 0, 1) := D_42 W_code_928 3 rfl rfl
theorem d_code_932 : decode code 932 = .ok (.iload_n 3, 1) := D_29 W_code_928 4 rfl rfl
theorem d_code_933 : decode code 933 = .ok (.iconst 1, 1) := D_4 W_code_928 5 rfl rfl
theorem d_code_934 : decode code 934 = .ok (.iadd, 1) := D_96 W_code_928 6 rfl rfl
theorem d_code_935 : decode code 935 = .ok (.iaload, 1) := D_46 W_code_928 7 rfl rfl
theorem d_code_936 : decode code 936 = .ok (.aload_n 0, 1) := D_42 W_code_928 8 rfl rfl
theorem d_code_937 : decode code 937 = .ok (.iload_n 3, 1) := D_29 W_code_928 9 rfl rfl
theorem d_code_938 : decode code 938 = .ok (.iconst 2, 1) := D_5 W_code_928 10 rfl rfl
theorem d_code_939 : decode code 939 = .ok (.iadd, 1) := D_96 W_code_928 11 rfl rfl
theorem d_code_940 : decode code 940 = .ok (.iaload, 1) := D_46 W_code_928 12 rfl rfl
theorem d_code_941 : decode code 941 = .ok (.aload_n 0, 1) := D_42 W_code_928 13 rfl rfl
theorem d_code_942 : decode code 942 = .ok (.iload_n 3, 1) := D_29 W_code_928 14 rfl rfl
theorem d_code_943 : decode code 943 = .ok (.iconst 3, 1) := D_6 W_code_928 15 rfl rfl
theorem d_code_944 : decode code 944 = .ok (.iadd, 1) := D_96 W_code_928 16 rfl rfl
theorem d_code_945 : decode code 945 = .ok (.iaload, 1) := D_46 W_code_928 17 rfl rfl
theorem d_code_946 : decode code 946 = .ok (.invokevirtual 113, 3) := D_182 W_code_928 18 rfl rfl rfl
theorem d_code_949 : decode code 949 = .ok (.pop, 1) := D_87 W_code_928 21 rfl rfl
theorem d_code_950 : decode code 950 = .ok (.goto 241, 3) := D_167 W_code_928 22 rfl rfl rfl
theorem d_code_953 : decode code 953 = .ok (.aload_n 1, 1) := D_43 W_code_928 25 rfl rfl
theorem d_code_954 : decode code 954 = .ok (.aload_n 0, 1) := D_42 W_code_928 26 rfl rfl
theorem d_code_955 : decode code 955 = .ok (.iload_n 3, 1) := D_29 W_code_928 27 rfl rfl
theorem d_code_956 : decode code 956 = .ok (.iconst 1, 1) := D_4 W_code_928 28 rfl rfl
theorem d_code_957 : decode code 957 = .ok (.iadd, 1) := D_96 W_code_928 29 rfl rfl
theorem d_code_958 : decode code 958 = .ok (.iaload, 1) := D_46 W_code_928 30 rfl rfl
theorem d_code_959 : decode code 959 = .ok (.aload_n 0, 1) := D_42 W_code_928 31 rfl rfl
theorem W_code_960 : chW code 960 [29, 5, 96, 46, 42, 29, 6, 96, 46, 182, 0, 114, 88, 44, 42, 29, 4, 96, 46, 42, 29, 5, 96, 46, 42, 29, 6, 96, 46, 182, 0, 117, 88, 167, 0, 198] := chW_of (by decide +kernel)
theorem d_code_960 : decode code 960 = .ok (.iload_n 3, 1) := D_29 W_code_960 0 rfl rfl
theorem d_code_961 : decode code 961 = .ok (.iconst 2, 1) := D_5 W_code_960 1 rfl rfl
theorem d_code_962 : decode code 962 = .ok (.iadd, 1) := D_96 W_code_960 2 rfl rfl
theorem d_code_963 : decode code 963 = .ok (.iaload, 1) := D_46 W_code_960 3 rfl rfl
theorem d_code_964 : decode code 964 = .ok (.aload_n 0, 1) := D_42 W_code_960 4 rfl rfl
theorem d_code_965 : decode code 965 = .ok (.iload_n 3, 1) := D_29 W_code_960 5 rfl rfl
theorem d_code_966 : decode code 966 = .ok (.iconst 3, 1) := D_6 W_code_960 6 rfl rfl
theorem d_code_967 : decode code 967 = .ok (.iadd, 1) := D_96 W_code_960 7 rfl rfl
theorem d_code_968 : decode code 968 = .ok (.iaload, 1) := D_46 W_code_960 8 rfl rfl
theorem d_code_969 : decode code 969 = .ok (.invokevirtual 114, 3) := D_182 W_code_960 9 rfl rfl rfl
theorem d_code_972 : decode code 972 = .ok (.pop2, 1) := D_88 W_code_960 12 rfl rfl
theorem d_code_973 : decode code 973 = .ok (.aload_n 2, 1) := D_44 W_code_960 13 rfl rfl
theorem d_code_974 : decode code 974 = .ok (.aload_n 0, 1) := D_42 W_code_960 14 rfl rfl
theorem d_code_975 : decode code 975 = .ok (.iload_n 3, 1) := D_29 W_code_960 15 rfl rfl
theorem d_code_976 : decode code 976 = .ok (.iconst 1, 1) := D_4 W_code_960 16 rfl rfl
theorem d_code_977 : decode code 977 = .ok (.iadd, 1) := D_96 W_code_960 17 rfl rfl
theorem d_code_978 : decode code 978 = .ok (.iaload, 1) := D_46 W_code_960 18 rfl rfl
theorem d_code_979 : decode code 979 = .ok (.aload_n 0, 1) := D_42 W_code_960 19 rfl rfl
theorem d_code_980 : decode code 980 = .ok (.iload_n 3, 1) := D_29 W_code_960 20 rfl rfl
theorem d_code_981 : decode code 981 = .ok (.iconst 2, 1) := D_5 W_code_960 21 rfl rfl
theorem d_code_982 : decode code 982 = .ok (.iadd, 1) := D_96 W_code_960 22 rfl rfl
theorem d_code_983 : decode code 983 = .ok (.iaload, 1) := D_46 W_code_960 23 rfl rfl
theorem d_code_984 : decode code 984 = .ok (.aload_n 0, 1) := D_42 W_code_960 24 rfl rfl
theorem d_code_985 : decode code 985 = .ok (.iload_n 3, 1) := D_29 W_code_960 25 rfl rfl
theorem d_code_986 : decode code 986 = .ok (.iconst 3, 1) := D_6 W_code_960 26 rfl rfl
theorem d_code_987 : decode code 987 = .ok (.iadd, 1) := D_96 W_code_960 27 rfl rfl
theorem d_code_988 : decode code 988 = .ok (.iaload, 1) := D_46 W_code_960 28 rfl rfl
theorem d_code_989 : decode code 989 = .ok (.invokevirtual 117, 3) := D_182 W_code_960 29 rfl rfl rfl
theorem W_code_992 : chW code 992 [88, 167, 0, 198, 43, 42, 29, 4, 96, 46, 42, 29, 5, 96, 46, 42, 29, 6, 96, 46, 182, 0, 118, 87, 44, 42, 29, 4, 96, 46, 42, 29, 5, 96, 46, 42] := chW_of (by decide +kernel)
theorem d_code_992 : decode code 992 = .ok (.pop2, 1) := D_88 W_code_992 0 rfl rfl
theorem d_code_993 : decode code 993 = .ok (.goto 198, 3) := D_167 W_code_992 1 rfl rfl rfl
theorem d_code_996 : decode code 996 = .ok (.aload_n 1, 1) := D_43 W_code_992 4 rfl rfl
theorem d_code_997 : decode code 997 = .ok (.aload_n 0, 1) := D_42 W_code_992 5 rfl rfl
theorem d_code_998 : decode code 998 = .ok (.iload_n 3, 1) := D_29 W_code_992 6 rfl rfl
theorem d_code_999 : decode code 999 = .ok (.iconst 1, 1) := D_4 W_code_992 7 rfl rfl
theorem d_code_1000 : decode code 1000 = .ok (.iadd, 1) := D_96 W_code_992 8 rfl rfl
theorem d_code_1001 : decode code 1001 = .ok (.iaload, 1) := D_46 W_code_992 9 rfl rfl
theorem d_code_1002 : decode code 1002 = .ok (.aload_n 0, 1) := D_42 W_code_992 10 rfl rfl
theorem d_code_1003 : decode code 1003 = .ok (.iload_n 3, 1) := D_29 W_code_992 11 rfl rfl
theorem d_code_1004 : decode code 1004 = .ok (.iconst 2, 1) := D_5 W_code_992 12 rfl rfl
theorem d_code_1005 : decode code 1005 = .ok (.iadd, 1) := D_96 W_code_992 13 rfl rfl
theorem d_code_1006 : decode code 1006 = .ok (.iaload, 1) := D_46 W_code_992 14 rfl rfl
theorem d_code_1007 : decode code 1007 = .ok (.aload_n 0, 1) := D_42 W_code_992 15 rfl rfl
theorem d_code_1008 : decode code 1008 = .ok (.iload_n 3, 1) := D_29 W_code_992 16 rfl rfl
theorem d_code_1009 : decode code 1009 = .ok (.iconst 3, 1) := D_6 W_code_992 17 rfl rfl
theorem d_code_1010 : decode code 1010 = .ok (.iadd, 1) := D_96 W_code_992 18 rfl rfl
theorem d_code_1011 : decode code 1011 = .ok (.iaload, 1) := D_46 W_code_992 19 rfl rfl
theorem d_code_1012 : decode code 1012 = .ok (.invokevirtual 118, 3) := D_182 W_code_992 20 rfl rfl rfl
theorem d_code_1015 : decode code 1015 = .ok (.pop, 1) := D_87 W_code_992 23 rfl rfl
theorem d_code_1016 : decode code 1016 = .ok (.aload_n 2, 1) := D_44 W_code_992 24 rfl rfl
theorem d_code_1017 : decode code 1017 = .ok (.aload_n 0, 1) := D_42 W_code_992 25 rfl rfl
theorem d_code_1018 : decode code 1018 = .ok (.iload_n 3, 1) := D_29 W_code_992 26 rfl rfl
theorem d_code_1019 : decode code 1019 = .ok (.iconst 1, 1) := D_4 W_code_992 27 rfl rfl
theorem d_code_1020 : decode code 1020 = .ok (.iadd, 1) := D_96 W_code_992 28 rfl rfl
theorem d_code_1021 : decode code 1021 = .ok (.iaload, 1) := D_46 W_code_992 29 rfl rfl
theorem d_code_1022 : decode code 1022 = .ok (.aload_n 0, 1) := D_42 W_code_992 30 rfl rfl
theorem d_code_1023 : decode code 1023 = .ok (.iload_n 3, 1) := D_29 W_code_992 31 rfl rfl
theorem W_code_1024 : chW code 1024 [5, 96, 46, 42, 29, 6, 96, 46, 182, 0, 121, 87, 167, 0, 155, 43, 42, 29, 4, 96, 46, 42, 29, 5, 96, 46, 42, 29, 6, 96, 46, 42, 29, 7, 96, 46] := chW_of (by decide +kernel)
theorem d_code_1024 : decode code 1024 = .ok (.iconst 2, 1) := D_5 W_code_1024 0 rfl rfl
theorem d_code_1025 : decode code 1025 = .ok (.iadd, 1) := D_96 W_code_1024 1 rfl rfl
theorem d_code_1026 : decode code 1026 = .ok (.iaload, 1) := D_46 W_code_1024 2 rfl rfl
theorem d_code_1027 : decode code 1027 = .ok (.aload_n 0, 1) := D_42 W_code_1024 3 rfl rfl
theorem d_code_1028 : decode code 1028 = .ok (.iload_n 3, 1) := D_29 W_code_1024 4 rfl rfl
theorem d_code_1029 : decode code 1029 = .ok (.iconst 3, 1) := D_6 W_code_1024 5 rfl rfl
theorem d_code_1030 : decode code 1030 = .ok (.iadd, 1) := D_96 W_code_1024 6 rfl rfl
theorem d_code_1031 : decode code 1031 = .ok (.iaload, 1) := D_46 W_code_1024 7 rfl rfl
theorem d_code_1032 : decode code 1032 = .ok (.invokevirtual 121, 3) := D_182 W_code_1024 8 rfl rfl rfl
theorem d_code_1035 : decode code 1035 = .ok (.pop, 1) := D_87 W_code_1024 11 rfl rfl
theorem d_code_1036 : decode code 1036 = .ok (.goto 155, 3) := D_167 W_code_1024 12 rfl rfl rfl
theorem d_code_1039 : decode code 1039 = .ok (.aload_n 1, 1) := D_43 W_code_1024 15 rfl rfl
theorem d_code_1040 : decode code 1040 = .ok (.aload_n 0, 1) := D_42 W_code_1024 16 rfl rfl
theorem d_code_1041 : decode code 1041 = .ok (.iload_n 3, 1) := D_29 W_code_1024 17 rfl rfl
theorem d_code_1042 : decode code 1042 = .ok (.iconst 1, 1) := D_4 W_code_1024 18 rfl rfl
theorem d_code_1043 : decode code 1043 = .ok (.iadd, 1) := D_96 W_code_1024 19 rfl rfl
theorem d_code_1044 : decode code 1044 = .ok (.iaload, 1) := D_46 W_code_1024 20 rfl rfl
theorem d_code_1045 : decode code 1045 = .ok (.aload_n 0, 1) := D_42 W_code_1024 21 rfl rfl
theorem d_code_1046 : decode code 1046 = .ok (.iload_n 3, 1) := D_29 W_code_1024 22 rfl rfl
theorem d_code_1047 : decode code 1047 = .ok (.iconst 2, 1) := D_5 W_code_1024 23 rfl rfl
theorem d_code_1048 : decode code 1048 = .ok (.iadd, 1) := D_96 W_code_1024 24 rfl rfl
theorem d_code_1049 : decode code 1049 = .ok (.iaload, 1) := D_46 W_code_1024 25 rfl rfl
theorem d_code_1050 : decode code 1050 = .ok (.aload_n 0, 1) := D_42 W_code_1024 26 rfl rfl
theorem d_code_1051 : decode code 1051 = .ok (.iload_n 3, 1) := D_29 W_code_1024 27 rfl rfl
theorem d_code_1052 : decode code 1052 = .ok (.iconst 3, 1) := D_6 W_code_1024 28 rfl rfl
theorem d_code_1053 : decode code 1053 = .ok (.iadd, 1) := D_96 W_code_1024 29 rfl rfl
theorem d_code_1054 : decode code 1054 = .ok (.iaload, 1) := D_46 W_code_1024 30 rfl rfl
theorem d_code_1055 : decode code 1055 = .ok (.aload_n 0, 1) := D_42 W_code_1024 31 rfl rfl
theorem W_code_1056 : chW code 1056 [29, 7, 96, 46, 182, 0, 122, 88, 44, 42, 29, 4, 96, 46, 42, 29, 5, 96, 46, 42, 29, 6, 96, 46, 42, 29, 7, 96, 46, 182, 0, 125, 88, 167, 0, 102] := chW_of (by decide +kernel)
theorem d_code_1056 : decode code 1056 = .ok (.iload_n 3, 1) := D_29 W_code_1056 0 rfl rfl
theorem d_code_1057 : decode code 1057 = .ok (.iconst 4, 1) := D_7 W_code_1056 1 rfl rfl
theorem d_code_1058 : decode code 1058 = .ok (.iadd, 1) := D_96 W_code_1056 2 rfl rfl
theorem d_code_1059 : decode code 1059 = .ok (.iaload, 1) := D_46 W_code_1056 3 rfl rfl
theorem d_code_1060 : decode code 1060 = .ok (.invokevirtual 122, 3) := D_182 W_code_1056 4 rfl rfl rfl
theorem d_code_1063 : decode code 1063 = .ok (.pop2, 1) := D_88 W_code_1056 7 rfl rfl
theorem d_code_1064 : decode code 1064 = .ok (.aload_n 2, 1) := D_44 W_code_1056 8 rfl rfl
theorem d_code_1065 : decode code 1065 = .ok (.aload_n 0, 1) := D_42 W_code_1056 9 rfl rfl
theorem d_code_1066 : decode code 1066 = .ok (.iload_n 3, 1) := D_29 W_code_1056 10 rfl rfl
theorem d_code_1067 : decode code 1067 = .ok (.iconst 1, 1) := D_4 W_code_1056 11 rfl rfl
theorem d_code_1068 : decode code 1068 = .ok (.iadd, 1) := D_96 W_code_1056 12 rfl rfl
theorem d_code_1069 : decode code 1069 = .ok (.iaload, 1) := D_46 W_code_1056 13 rfl rfl
theorem d_code_1070 : decode code 1070 = .ok (.aload_n 0, 1) := D_42 W_code_1056 14 rfl rfl
theorem d_code_1071 : decode code 1071 = .ok (.iload_n 3, 1) := D_29 W_code_1056 15 rfl rfl
theorem d_code_1072 : decode code 1072 = .ok (.iconst 2, 1) := D_5 W_code_1056 16 rfl rfl
theorem d_code_1073 : decode code 1073 = .ok (.iadd, 1) := D_96 W_code_1056 17 rfl rfl
theorem d_code_1074 : decode code 1074 = .ok (.iaload, 1) := D_46 W_code_1056 18 rfl rfl
theorem d_code_1075 : decode code 1075 = .ok (.aload_n 0, 1) := D_42 W_code_1056 19 rfl rfl
theorem d_code_1076 : decode code 1076 = .ok (.iload_n 3, 1) := D_29 W_code_1056 20 rfl rfl
theorem d_code_1077 : decode code 1077 = .ok (.iconst 3, 1) := D_6 W_code_1056 21 rfl rfl
theorem d_code_1078 : decode code 1078 = .ok (.iadd, 1) := D_96 W_code_1056 22 rfl rfl
theorem d_code_1079 : decode code 1079 = .ok (.iaload, 1) := D_46 W_code_1056 23 rfl rfl
theorem d_code_1080 : decode code 1080 = .ok (.aload_n 0, 1) := D_42 W_code_1056 24 rfl rfl
theorem d_code_1081 : decode code 1081 = .ok (.iload_n 3, 1) := D_29 W_code_1056 25 rfl rfl
theorem d_code_1082 : decode code 1082 = .ok (.iconst 4, 1) := D_7 W_code_1056 26 rfl rfl
theorem d_code_1083 : decode code 1083 = .ok (.iadd, 1) := D_96 W_code_1056 27 rfl rfl
theorem d_code_1084 : decode code 1084 = .ok (.iaload, 1) := D_46 W_code_1056 28 rfl rfl
theorem d_code_1085 : decode code 1085 = .ok (.invokevirtual 125, 3) := D_182 W_code_1056 29 rfl rfl rfl
theorem W_code_1088 : chW code 1088 [88, 167, 0, 102, 43, 42, 29, 4, 96, 46, 42, 29, 5, 96, 46, 42, 29, 6, 96, 46, 42, 29, 7, 96, 46, 42, 29, 8, 96, 46, 42, 29, 16, 6, 96, 46] := chW_of (by decide +kernel)
theorem d_code_1088 : decode code 1088 = .ok (.pop2, 1) := D_88 W_code_1088 0 rfl rfl
theorem d_code_1089 : decode code 1089 = .ok (.goto 102, 3) := D_167 W_code_1088 1 rfl rfl rfl
theorem d_code_1092 : decode code 1092 = .ok (.aload_n 1, 1) := D_43 W_code_1088 4 rfl rfl
theorem d_code_1093 : decode code 1093 = .ok (.aload_n 0, 1) := D_42 W_code_1088 5 rfl rfl
theorem d_code_1094 : decode code 1094 = .ok (.iload_n 3, 1) := D_29 W_code_1088 6 rfl rfl
theorem d_code_1095 : decode code 1095 = .ok (.iconst 1, 1) := D_4 W_code_1088 7 rfl rfl
theorem d_code_1096 : decode code 1096 = .ok (.iadd, 1) := D_96 W_code_1088 8 rfl rfl
theorem d_code_1097 : decode code 1097 = .ok (.iaload, 1) := D_46 W_code_1088 9 rfl rfl
theorem d_code_1098 : decode code 1098 = .ok (.aload_n 0, 1) := D_42 W_code_1088 10 rfl rfl
theorem d_code_1099 : decode code 1099 = .ok (.iload_n 3, 1) := D_29 W_code_1088 11 rfl rfl
theorem d_code_1100 : decode code 1100 = .ok (.iconst 2, 1) := D_5 W_code_1088 12 rfl rfl
theorem d_code_1101 : decode code 1101 = .ok (.iadd, 1) := D_96 W_code_1088 13 rfl rfl
theorem d_code_1102 : decode code 1102 = .ok (.iaload, 1) := D_46 W_code_1088 14 rfl rfl
theorem d_code_1103 : decode code 1103 = .ok (.aload_n 0, 1) := D_42 W_code_1088 15 rfl rfl
theorem d_code_1104 : decode code 1104 = .ok (.iload_n 3, 1) := D_29 W_code_1088 16 rfl rfl
theorem d_code_1105 : decode code 1105 = .ok (.iconst 3, 1) := D_6 W_code_1088 17 rfl rfl
theorem d_code_1106 : decode code 1106 = .ok (.iadd, 1) := D_96 W_code_1088 18 rfl rfl
theorem d_code_1107 : decode code 1107 = .ok (.iaload, 1) := D_46 W_code_1088 19 rfl rfl
theorem d_code_1108 : decode code 1108 = .ok (.aload_n 0, 1) := D_42 W_code_1088 20 rfl rfl
theorem d_code_1109 : decode code 1109 = .ok (.iload_n 3, 1) := D_29 W_code_1088 21 rfl rfl
theorem d_code_1110 : decode code 1110 = .ok (.iconst 4, 1) := D_7 W_code_1088 22 rfl rfl
theorem d_code_1111 : decode code 1111 = .ok (.iadd, 1) := D_96 W_code_1088 23 rfl rfl
theorem d_code_1112 : decode code 1112 = .ok (.iaload, 1) := D_46 W_code_1088 24 rfl rfl
theorem d_code_1113 : decode code 1113 = .ok (.aload_n 0, 1) := D_42 W_code_1088 25 rfl rfl
theorem d_code_1114 : decode code 1114 = .ok (.iload_n 3, 1) := D_29 W_code_1088 26 rfl rfl
theorem d_code_1115 : decode code 1115 = .ok (.iconst 5, 1) := D_8 W_code_1088 27 rfl rfl
theorem d_code_1116 : decode code 1116 = .ok (.iadd, 1) := D_96 W_code_1088 28 rfl rfl
theorem d_code_1117 : decode code 1117 = .ok (.iaload, 1) := D_46 W_code_1088 29 rfl rfl
theorem d_code_1118 : decode code 1118 = .ok (.aload_n 0, 1) := D_42 W_code_1088 30 rfl rfl
theorem d_code_1119 : decode code 1119 = .ok (.iload_n 3, 1) := D_29 W_code_1088 31 rfl rfl
theorem W_code_1120 : chW code 1120 [16, 6, 96, 46, 42, 29, 16, 7, 96, 46, 42, 29, 16, 8, 96, 46, 182, 0, 126, 87, 44, 42, 29, 4, 96, 46, 42, 29, 5, 96, 46, 42, 29, 6, 96, 46] := chW_of (by decide +kernel)
theorem d_code_1120 : decode code 1120 = .ok (.bipush 6, 2) := D_16 W_code_1120 0 rfl rfl rfl
theorem d_code_1122 : decode code 1122 = .ok (.iadd, 1) := D_96 W_code_1120 2 rfl rfl
theorem d_code_1123 : decode code 1123 = .ok (.iaload, 1) := D_46 W_code_1120 3 rfl rfl
theorem d_code_1124 : decode code 1124 = .ok (.aload_n 0, 1) := D_42 W_code_1120 4 rfl rfl
theorem d_code_1125 : decode code 1125 = .ok (.iload_n 3, 1) := D_29 W_code_1120 5 rfl rfl
theorem d_code_1126 : decode code 1126 = .ok (.bipush 7, 2) := D_16 W_code_1120 6 rfl rfl rfl
theorem d_code_1128 : decode code 1128 = .ok (.iadd, 1) := D_96 W_code_1120 8 rfl rfl
theorem d_code_1129 : decode code 1129 = .ok (.iaload, 1) := D_46 W_code_1120 9 rfl rfl
theorem d_code_1130 : decode code 1130 = .ok (.aload_n 0, 1) := D_42 W_code_1120 10 rfl rfl
theorem d_code_1131 : decode code 1131 = .ok (.iload_n 3, 1) := D_29 W_code_1120 11 rfl rfl
theorem d_code_1132 : decode code 1132 = .ok (.bipush 8, 2) := D_16 W_code_1120 12 rfl rfl rfl
theorem d_code_1134 : decode code 1134 = .ok (.iadd, 1) := D_96 W_code_1120 14 rfl rfl
theorem d_code_1135 : decode code 1135 = .ok (.iaload, 1) := D_46 W_code_1120 15 rfl rfl
theorem d_code_1136 : decode code 1136 = .ok (.invokevirtual 126, 3) := D_182 W_code_1120 16 rfl rfl rfl
theorem d_code_1139 : decode code 1139 = .ok (.pop, 1) := D_87 W_code_1120 19 rfl rfl
theorem d_code_1140 : decode code 1140 = .ok (.aload_n 2, 1) := D_44 W_code_1120 20 rfl rfl
theorem d_code_1141 : decode code 1141 = .ok (.aload_n 0, 1) := D_42 W_code_1120 21 rfl rfl
theorem d_code_1142 : decode code 1142 = .ok (.iload_n 3, 1) := D_29 W_code_1120 22 rfl rfl
theorem d_code_1143 : decode code 1143 = .ok (.iconst 1, 1) := D_4 W_code_1120 23 rfl rfl
theorem d_code_1144 : decode code 1144 = .ok (.iadd, 1) := D_96 W_code_1120 24 rfl rfl
theorem d_code_1145 : decode code 1145 = .ok (.iaload, 1) := D_46 W_code_1120 25 rfl rfl
theorem d_code_1146 : decode code 1146 = .ok (.aload_n 0, 1) := D_42 W_code_1120 26 rfl rfl
theorem d_code_1147 : decode code 1147 = .ok (.iload_n 3, 1) := D_29 W_code_1120 27 rfl rfl
theorem d_code_1148 : decode code 1148 = .ok (.iconst 2, 1) := D_5 W_code_1120 28 rfl rfl
theorem d_code_1149 : decode code 1149 = .ok (.iadd, 1) := D_96 W_code_1120 29 rfl rfl
theorem d_code_1150 : decode code 1150 = .ok (.iaload, 1) := D_46 W_code_1120 30 rfl rfl
theorem d_code_1151 : decode code 1151 = .ok (.aload_n 0, 1) := D_42 W_code_1120 31 rfl rfl
theorem W_code_1152 : chW code 1152 [29, 6, 96, 46, 42, 29, 7, 96, 46, 42, 29, 8, 96, 46, 42, 29, 16, 6, 96, 46, 42, 29, 16, 7, 96, 46, 42, 29, 16, 8, 96, 46, 182, 0, 130, 87] := chW_of (by decide +kernel)
theorem d_code_1152 : decode code 1152 = .ok (.iload_n 3, 1) := D_29 W_code_1152 0 rfl rfl
theorem d_code_1153 : decode code 1153 = .ok (.iconst 3, 1) := D_6 W_code_1152 1 rfl rfl
theorem d_code_1154 : decode code 1154 = .ok (.iadd, 1) := D_96 W_code_1152 2 rfl rfl
theorem d_code_1155 : decode code 1155 = .ok (.iaload, 1) := D_46 W_code_1152 3 rfl rfl
theorem d_code_1156 : decode code 1156 = .ok (.aload_n 0, 1) := D_42 W_code_1152 4 rfl rfl
theorem d_code_1157 : decode code 1157 = .ok (.iload_n 3, 1) := D_29 W_code_1152 5 rfl rfl
theorem d_code_1158 : decode code 1158 = .ok (.iconst 4, 1) := D_7 W_code_1152 6 rfl rfl
theorem d_code_1159 : decode code 1159 = .ok (.iadd, 1) := D_96 W_code_1152 7 rfl rfl
theorem d_code_1160 : decode code 1160 = .ok (.iaload, 1) := D_46 W_code_1152 8 rfl rfl
theorem d_code_1161 : decode code 1161 = .ok (.aload_n 0, 1) := D_42 W_code_1152 9 rfl rfl
theorem d_code_1162 : decode code 1162 = .ok (.iload_n 3, 1) := D_29 W_code_1152 10 rfl rfl
theorem d_code_1163 : decode code 1163 = .ok (.iconst 5, 1) := D_8 W_code_1152 11 rfl rfl
theorem d_code_1164 : decode code 1164 = .ok (.iadd, 1) := D_96 W_code_1152 12 rfl rfl
theorem d_code_1165 : decode code 1165 = .ok (.iaload, 1) := D_46 W_code_1152 13 rfl rfl
theorem d_code_1166 : decode code 1166 = .ok (.aload_n 0, 1) := D_42 W_code_1152 14 rfl rfl
theorem d_code_1167 : decode code 1167 = .ok (.iload_n 3, 1) := D_29 W_code_1152 15 rfl rfl
theorem d_code_1168 : decode code 1168 = .ok (.bipush 6, 2) := D_16 W_code_1152 16 rfl rfl rfl
theorem d_code_1170 : decode code 1170 = .ok (.iadd, 1) := D_96 W_code_1152 18 rfl rfl
theorem d_code_1171 : decode code 1171 = .ok (.iaload, 1) := D_46 W_code_1152 19 rfl rfl
theorem d_code_1172 : decode code 1172 = .ok (.aload_n 0, 1) := D_42 W_code_1152 20 rfl rfl
theorem d_code_1173 : decode code 1173 = .ok (.iload_n 3, 1) := D_29 W_code_1152 21 rfl rfl
theorem d_code_1174 : decode code 1174 = .ok (.bipush 7, 2) := D_16 W_code_1152 22 rfl rfl rfl
theorem d_code_1176 : decode code 1176 = .ok (.iadd, 1) := D_96 W_code_1152 24 rfl rfl
theorem d_code_1177 : decode code 1177 = .ok (.iaload, 1) := D_46 W_code_1152 25 rfl rfl
theorem d_code_1178 : decode code 1178 = .ok (.aload_n 0, 1) := D_42 W_code_1152 26 rfl rfl
theorem d_code_1179 : decode code 1179 = .ok (.iload_n 3, 1) := D_29 W_code_1152 27 rfl rfl
theorem d_code_1180 : decode code 1180 = .ok (.bipush 8, 2) := D_16 W_code_1152 28 rfl rfl rfl
theorem d_code_1182 : decode code 1182 = .ok (.iadd, 1) := D_96 W_code_1152 30 rfl rfl
theorem d_code_1183 : decode code 1183 = .ok (.iaload, 1) := D_46 W_code_1152 31 rfl rfl
theorem W_code_1184 : chW code 1184 [182, 0, 130, 87, 167, 0, 3, 132, 3, 9, 167, 251, 104, 4, 172] := chW_of (by decide +kernel)
theorem d_code_1184 : decode code 1184 = .ok (.invokevirtual 130, 3) := D_182 W_code_1184 0 rfl rfl rfl
theorem d_code_1187 : decode code 1187 = .ok (.pop, 1) := D_87 W_code_1184 3 rfl rfl
theorem d_code_1188 : decode code 1188 = .ok (.goto 3, 3) := D_167 W_code_1184 4 rfl rfl rfl
def ls_14 (Kr : Nat) (x : Int) (sc : Int → Int) (n i : Int) (K : zK) (F : zF) (B : zB) (Fm : zF) (Bm : zB) : zL := if 0 ≤ (i + 1) ∧ (i + 1) < n then if 0 ≤ x ∧ x < K.2 12 then zbL (f_S_file K x (sc (i + 1)) F B) (fun r11 F11 B11 => if 0 ≤ (i + 1) ∧ (i + 1) < n then zbL (f_M_file Kr (sc (i + 1)) Fm Bm) (fun r14 F14 B14 => some (K, F11, B11, F14, B14)) else none) else none else none
set_option maxHeartbeats 4000000 in
set_option maxRecDepth 100000 in
theorem lc_14 {D : va_G} {ca : Nat → ClassId} {ad ad2 : Nat → Int → Nat → Nat} {L L2 : List Nat} {aS vS : Nat → Nat} {A : Nat → Prop} {p : Program} {l : Launch} {e : Env} {s : State} {m : MethodId} {below : List Frame} {meth : Method} {c : Code} {b n : Nat} {xs : Nat → Int32} {xx mm : Nat} {x i : Int} {Kr : Nat} {K K9 : zK} {F Fm F9 Fm9 : zF} {B Bm B9 Bm9 : zB} {H : Heap} {locs : List Loc} {cells slots : Nat} {Q : State → Prop} {ls : Array Slot}
    (X1 : zX D ca L aS vS A p s m #[Value.ref b] meth c code 4 ret "StaveHouseLaw") (X2 : zX D ca L2 aS vS A p s m #[Value.ref b] meth c code 4 ret "StaveHouseLaw") (hXs : va_X b n xs s s.heap) (hbl : b < s.heap.size) (hbA : ¬ A b) (hL4 : n ≤ 2147483647) (hf : ls_14 Kr x (scz xs) n i K F B Fm Bm = some (K9, F9, B9, Fm9, Bm9)) (hZ1 : zH D ca ad lnC K.2 L F B A H) (hZ2 : zH D ca ad2 lnM nM L2 Fm Bm A H) (hd : ∀ q ∈ L2, q ∉ L) (hS : va_S A s.heap H locs) (hxx : ad 12 x 0 = xx) (hmm : ad2 14 0 0 = mm) (hl : lv_has ls 4 [(3, .int (iI i)), (2, .ref mm), (1, .ref xx), (0, .ref b)]) (hrm : cells + cwC K K9 ≤ 600000 ∧ slots + swC K K9 ≤ 7302250)
    (kk : ∀ {ad' : Nat → Int → Nat → Nat} {L' : List Nat} {H' : Heap} {locs' : List Loc}, zG ad K.2 ad' K9.2 → zH D ca ad' lnC K9.2 L' F9 B9 A H' → zH D ca ad2 lnM nM L2 Fm9 Bm9 A H' → (∀ q ∈ L2, q ∉ L') → va_S A s.heap H' locs' → ad' 12 x 0 = xx → lv_has ls 4 [(3, .int (iI i)), (2, .ref mm), (1, .ref xx), (0, .ref b)] → W p l e room_1 s m #[Value.ref b] below meth c H' locs' (cells + cwC K K9) (slots + swC K K9) Q (F0 m 1191 ls [])) : W p l e room_1 s m #[Value.ref b] below meth c H locs cells slots Q (F0 m 726 ls []) := by
  obtain ⟨hx, hb, hr, hml, hown, hts, hlk, hK, hA, hL, hX⟩ := id X1
  have hG : zG ad K.2 ad K.2 := zG.rf
  replace hf : (if 0 ≤ (i + 1) ∧ (i + 1) < n then if 0 ≤ x ∧ x < K.2 12 then zbL (f_S_file K x ((scz xs) (i + 1)) F B) (fun r11 F11 B11 => if 0 ≤ (i + 1) ∧ (i + 1) < n then zbL (f_M_file Kr ((scz xs) (i + 1)) Fm Bm) (fun r14 F14 B14 => some (K, F11, B11, F14, B14)) else none) else none else none) = some (K9, F9, B9, Fm9, Bm9) := hf
  refine lv_aload_n hx hb d_code_726 rfl (lv_at hl 2 rfl) ?_
  refine lv_aload_n hx hb d_code_727 rfl (lv_at hl 3 rfl) ?_
  refine lv_iload_n hx hb d_code_728 rfl (lv_at hl 0 rfl) ?_
  refine lv_iconst (v := iI 1) hx hb d_code_729 rfl ?_
  refine zadd hx hb d_code_730 ?_
  obtain ⟨g10, hf⟩ := gif hf
  refine zsld hx hb hXs hbl hbA hS g10.1 g10.2 hL4 d_code_731 ?_
  obtain ⟨g12, hf⟩ := gif hf
  obtain ⟨r11, F11, B11, hc11, hf⟩ := gbL hf
  rw [← hxx]
  refine va_calli (va_runV (As := [.int (iI ((scz xs) (i + 1)))]) (rest := []) ⟨hx, hb, hml, hown, hts⟩ (c_S_file (l := l) hc11) (cwV 1 hts (gdV k_7_119 k_7_120 k_7_121 k_1_1 k_7_122) rfl rfl rfl (by decide +kernel) ⟨Nat.le_of_ble_eq_true rfl, Nat.le_of_ble_eq_true rfl⟩) (zPV X1 hZ1 hS (ci := 12) g12.1 g12.2 (r := (RX12, TX12, 10)) rfl [.int (iI ((scz xs) (i + 1)))]) rfl rfl hl.1 rfl (lv_room (Nat.le_of_ble_eq_true rfl)) d_code_732 ⟨by have h := hrm.1; show _ ≤ 600000; omega, by have h := hrm.2; show _ ≤ 7302250; omega⟩) hS (fun z _ h => zAin X1 hS z h) (zAin X1 hS) (fun p11 u11 t11 H11 locs11 ht11 hv11 hw11 hB11 hz11 hk11 hS11 => ?_)
  subst hw11
  have hZa11 := zBack X1 ht11 hB11
  have hZb11 := zH.beside hZ2 hd hk11
  refine lv_pop hx hb d_code_735 rfl ?_
  refine lv_aload_n hx hb d_code_736 rfl (lv_at hl 1 rfl) ?_
  refine lv_aload_n hx hb d_code_737 rfl (lv_at hl 3 rfl) ?_
  refine lv_iload_n hx hb d_code_738 rfl (lv_at hl 0 rfl) ?_
  refine lv_iconst (v := iI 1) hx hb d_code_739 rfl ?_
  refine zadd hx hb d_code_740 ?_
  obtain ⟨g13, hf⟩ := gif hf
  refine zsld hx hb hXs hbl hbA hS11 g13.1 g13.2 hL4 d_code_741 ?_
  obtain ⟨r14, F14, B14, hc14, hf⟩ := gbL hf
  rw [← hmm]
  refine va_calli (va_runV (As := [.int (iI ((scz xs) (i + 1)))]) (rest := []) ⟨hx, hb, hml, hown, hts⟩ (c_M_file (l := l) hc14) (cwV 1 hts (gdV k_12_190 k_12_191 k_12_192 k_1_9 k_12_193) rfl rfl rfl (by decide +kernel) ⟨Nat.le_of_ble_eq_true rfl, Nat.le_of_ble_eq_true rfl⟩) (zPV X2 hZb11 hS11 (ci := 14) (by decide) (by decide) (r := (RX14, TX14, 107)) rfl [.int (iI ((scz xs) (i + 1)))]) rfl rfl hl.1 rfl (lv_room (Nat.le_of_ble_eq_true rfl)) d_code_742 ⟨by have h := hrm.1; show _ ≤ 600000; omega, by have h := hrm.2; show _ ≤ 7302250; omega⟩) hS11 (fun z _ h => zAin X2 hS11 z h) (zAin X2 hS11) (fun p14 u14 t14 H14 locs14 ht14 hv14 hw14 hB14 hz14 hk14 hS14 => ?_)
  subst hw14
  have hZb14 := zBack X2 ht14 hB14
  have hZa14 := zH.beside hZa11 (fun z h1 h2 => hd z h2 h1) hk14
  refine lv_pop hx hb d_code_745 rfl ?_
  refine lv_goto (tgt := 1191) hx hb d_code_746 (by decide) ?_
  cases hf
  refine W.widen (k := cells + cwC K K) (n := slots + swC K K) (by omega) (by omega) ?_
  exact kk hG hZa14 hZb14 hd hS14 hxx hl
def ls_15 (Kr : Nat) (x : Int) (sc : Int → Int) (n i : Int) (K : zK) (F : zF) (B : zB) (Fm : zF) (Bm : zB) : zL := if 0 ≤ (i + 1) ∧ (i + 1) < n then if 0 ≤ x ∧ x < K.2 12 then zbL (f_S_out K x (sc (i + 1)) F B) (fun r11 F11 B11 => if 0 ≤ (i + 1) ∧ (i + 1) < n then zbL (f_M_out Kr (sc (i + 1)) Fm Bm) (fun r14 F14 B14 => some (K, F11, B11, F14, B14)) else none) else none else none
set_option maxHeartbeats 4000000 in
set_option maxRecDepth 100000 in
theorem lc_15 {D : va_G} {ca : Nat → ClassId} {ad ad2 : Nat → Int → Nat → Nat} {L L2 : List Nat} {aS vS : Nat → Nat} {A : Nat → Prop} {p : Program} {l : Launch} {e : Env} {s : State} {m : MethodId} {below : List Frame} {meth : Method} {c : Code} {b n : Nat} {xs : Nat → Int32} {xx mm : Nat} {x i : Int} {Kr : Nat} {K K9 : zK} {F Fm F9 Fm9 : zF} {B Bm B9 Bm9 : zB} {H : Heap} {locs : List Loc} {cells slots : Nat} {Q : State → Prop} {ls : Array Slot}
    (X1 : zX D ca L aS vS A p s m #[Value.ref b] meth c code 4 ret "StaveHouseLaw") (X2 : zX D ca L2 aS vS A p s m #[Value.ref b] meth c code 4 ret "StaveHouseLaw") (hXs : va_X b n xs s s.heap) (hbl : b < s.heap.size) (hbA : ¬ A b) (hL4 : n ≤ 2147483647) (hf : ls_15 Kr x (scz xs) n i K F B Fm Bm = some (K9, F9, B9, Fm9, Bm9)) (hZ1 : zH D ca ad lnC K.2 L F B A H) (hZ2 : zH D ca ad2 lnM nM L2 Fm Bm A H) (hd : ∀ q ∈ L2, q ∉ L) (hS : va_S A s.heap H locs) (hxx : ad 12 x 0 = xx) (hmm : ad2 14 0 0 = mm) (hl : lv_has ls 4 [(3, .int (iI i)), (2, .ref mm), (1, .ref xx), (0, .ref b)]) (hrm : cells + cwC K K9 ≤ 600000 ∧ slots + swC K K9 ≤ 7302250)
    (kk : ∀ {ad' : Nat → Int → Nat → Nat} {L' : List Nat} {H' : Heap} {locs' : List Loc}, zG ad K.2 ad' K9.2 → zH D ca ad' lnC K9.2 L' F9 B9 A H' → zH D ca ad2 lnM nM L2 Fm9 Bm9 A H' → (∀ q ∈ L2, q ∉ L') → va_S A s.heap H' locs' → ad' 12 x 0 = xx → lv_has ls 4 [(3, .int (iI i)), (2, .ref mm), (1, .ref xx), (0, .ref b)] → W p l e room_1 s m #[Value.ref b] below meth c H' locs' (cells + cwC K K9) (slots + swC K K9) Q (F0 m 1191 ls [])) : W p l e room_1 s m #[Value.ref b] below meth c H locs cells slots Q (F0 m 749 ls []) := by
  obtain ⟨hx, hb, hr, hml, hown, hts, hlk, hK, hA, hL, hX⟩ := id X1
  have hG : zG ad K.2 ad K.2 := zG.rf
  replace hf : (if 0 ≤ (i + 1) ∧ (i + 1) < n then if 0 ≤ x ∧ x < K.2 12 then zbL (f_S_out K x ((scz xs) (i + 1)) F B) (fun r11 F11 B11 => if 0 ≤ (i + 1) ∧ (i + 1) < n then zbL (f_M_out Kr ((scz xs) (i + 1)) Fm Bm) (fun r14 F14 B14 => some (K, F11, B11, F14, B14)) else none) else none else none) = some (K9, F9, B9, Fm9, Bm9) := hf
  refine lv_aload_n hx hb d_code_749 rfl (lv_at hl 2 rfl) ?_
  refine lv_aload_n hx hb d_code_750 rfl (lv_at hl 3 rfl) ?_
  refine lv_iload_n hx hb d_code_751 rfl (lv_at hl 0 rfl) ?_
  refine lv_iconst (v := iI 1) hx hb d_code_752 rfl ?_
  refine zadd hx hb d_code_753 ?_
  obtain ⟨g10, hf⟩ := gif hf
  refine zsld hx hb hXs hbl hbA hS g10.1 g10.2 hL4 d_code_754 ?_
  obtain ⟨g12, hf⟩ := gif hf
  obtain ⟨r11, F11, B11, hc11, hf⟩ := gbL hf
  rw [← hxx]
  refine va_calli (va_runV (As := [.int (iI ((scz xs) (i + 1)))]) (rest := []) ⟨hx, hb, hml, hown, hts⟩ (c_S_out (l := l) hc11) (cwV 1 hts (gdV k_7_196 k_7_197 k_7_198 k_1_1 k_7_199) rfl rfl rfl (by decide +kernel) ⟨Nat.le_of_ble_eq_true rfl, Nat.le_of_ble_eq_true rfl⟩) (zPV X1 hZ1 hS (ci := 12) g12.1 g12.2 (r := (RX12, TX12, 10)) rfl [.int (iI ((scz xs) (i + 1)))]) rfl rfl hl.1 rfl (lv_room (Nat.le_of_ble_eq_true rfl)) d_code_755 ⟨by have h := hrm.1; show _ ≤ 600000; omega, by have h := hrm.2; show _ ≤ 7302250; omega⟩) hS (fun z _ h => zAin X1 hS z h) (zAin X1 hS) (fun p11 u11 t11 H11 locs11 ht11 hv11 hw11 hB11 hz11 hk11 hS11 => ?_)
  subst hw11
  have hZa11 := zBack X1 ht11 hB11
  have hZb11 := zH.beside hZ2 hd hk11
  refine lv_pop hx hb d_code_758 rfl ?_
  refine lv_aload_n hx hb d_code_759 rfl (lv_at hl 1 rfl) ?_
  refine lv_aload_n hx hb d_code_760 rfl (lv_at hl 3 rfl) ?_
  refine lv_iload_n hx hb d_code_761 rfl (lv_at hl 0 rfl) ?_
  refine lv_iconst (v := iI 1) hx hb d_code_762 rfl ?_
  refine zadd hx hb d_code_763 ?_
  obtain ⟨g13, hf⟩ := gif hf
  refine zsld hx hb hXs hbl hbA hS11 g13.1 g13.2 hL4 d_code_764 ?_
  obtain ⟨r14, F14, B14, hc14, hf⟩ := gbL hf
  rw [← hmm]
  refine va_calli (va_runV (As := [.int (iI ((scz xs) (i + 1)))]) (rest := []) ⟨hx, hb, hml, hown, hts⟩ (c_M_out (l := l) hc14) (cwV 1 hts (gdV k_12_230 k_12_231 k_12_232 k_1_9 k_12_233) rfl rfl rfl (by decide +kernel) ⟨Nat.le_of_ble_eq_true rfl, Nat.le_of_ble_eq_true rfl⟩) (zPV X2 hZb11 hS11 (ci := 14) (by decide) (by decide) (r := (RX14, TX14, 107)) rfl [.int (iI ((scz xs) (i + 1)))]) rfl rfl hl.1 rfl (lv_room (Nat.le_of_ble_eq_true rfl)) d_code_765 ⟨by have h := hrm.1; show _ ≤ 600000; omega, by have h := hrm.2; show _ ≤ 7302250; omega⟩) hS11 (fun z _ h => zAin X2 hS11 z h) (zAin X2 hS11) (fun p14 u14 t14 H14 locs14 ht14 hv14 hw14 hB14 hz14 hk14 hS14 => ?_)
  subst hw14
  have hZb14 := zBack X2 ht14 hB14
  have hZa14 := zH.beside hZa11 (fun z h1 h2 => hd z h2 h1) hk14
  refine lv_pop hx hb d_code_768 rfl ?_
  refine lv_goto (tgt := 1191) hx hb d_code_769 (by decide) ?_
  cases hf
  refine W.widen (k := cells + cwC K K) (n := slots + swC K K) (by omega) (by omega) ?_
  exact kk hG hZa14 hZb14 hd hS14 hxx hl
def ls_16 (Kr : Nat) (x : Int) (sc : Int → Int) (n i : Int) (K : zK) (F : zF) (B : zB) (Fm : zF) (Bm : zB) : zL := if 0 ≤ x ∧ x < K.2 12 then zbL (f_S_again K x F B) (fun r10 F10 B10 => zbL (f_M_again Kr Fm Bm) (fun r12 F12 B12 => some (K, F10, B10, F12, B12))) else none
set_option maxHeartbeats 4000000 in
set_option maxRecDepth 100000 in
theorem lc_16 {D : va_G} {ca : Nat → ClassId} {ad ad2 : Nat → Int → Nat → Nat} {L L2 : List Nat} {aS vS : Nat → Nat} {A : Nat → Prop} {p : Program} {l : Launch} {e : Env} {s : State} {m : MethodId} {below : List Frame} {meth : Method} {c : Code} {b n : Nat} {xs : Nat → Int32} {xx mm : Nat} {x i : Int} {Kr : Nat} {K K9 : zK} {F Fm F9 Fm9 : zF} {B Bm B9 Bm9 : zB} {H : Heap} {locs : List Loc} {cells slots : Nat} {Q : State → Prop} {ls : Array Slot}
    (X1 : zX D ca L aS vS A p s m #[Value.ref b] meth c code 4 ret "StaveHouseLaw") (X2 : zX D ca L2 aS vS A p s m #[Value.ref b] meth c code 4 ret "StaveHouseLaw") (hXs : va_X b n xs s s.heap) (hbl : b < s.heap.size) (hbA : ¬ A b) (hL4 : n ≤ 2147483647) (hf : ls_16 Kr x (scz xs) n i K F B Fm Bm = some (K9, F9, B9, Fm9, Bm9)) (hZ1 : zH D ca ad lnC K.2 L F B A H) (hZ2 : zH D ca ad2 lnM nM L2 Fm Bm A H) (hd : ∀ q ∈ L2, q ∉ L) (hS : va_S A s.heap H locs) (hxx : ad 12 x 0 = xx) (hmm : ad2 14 0 0 = mm) (hl : lv_has ls 4 [(3, .int (iI i)), (2, .ref mm), (1, .ref xx), (0, .ref b)]) (hrm : cells + cwC K K9 ≤ 600000 ∧ slots + swC K K9 ≤ 7302250)
    (kk : ∀ {ad' : Nat → Int → Nat → Nat} {L' : List Nat} {H' : Heap} {locs' : List Loc}, zG ad K.2 ad' K9.2 → zH D ca ad' lnC K9.2 L' F9 B9 A H' → zH D ca ad2 lnM nM L2 Fm9 Bm9 A H' → (∀ q ∈ L2, q ∉ L') → va_S A s.heap H' locs' → ad' 12 x 0 = xx → lv_has ls 4 [(3, .int (iI i)), (2, .ref mm), (1, .ref xx), (0, .ref b)] → W p l e room_1 s m #[Value.ref b] below meth c H' locs' (cells + cwC K K9) (slots + swC K K9) Q (F0 m 1191 ls [])) : W p l e room_1 s m #[Value.ref b] below meth c H locs cells slots Q (F0 m 772 ls []) := by
  obtain ⟨hx, hb, hr, hml, hown, hts, hlk, hK, hA, hL, hX⟩ := id X1
  have hG : zG ad K.2 ad K.2 := zG.rf
  replace hf : (if 0 ≤ x ∧ x < K.2 12 then zbL (f_S_again K x F B) (fun r10 F10 B10 => zbL (f_M_again Kr Fm Bm) (fun r12 F12 B12 => some (K, F10, B10, F12, B12))) else none) = some (K9, F9, B9, Fm9, Bm9) := hf
  refine lv_aload_n hx hb d_code_772 rfl (lv_at hl 2 rfl) ?_
  obtain ⟨g11, hf⟩ := gif hf
  obtain ⟨r10, F10, B10, hc10, hf⟩ := gbL hf
  rw [← hxx]
  refine va_calli (va_runV (As := []) (rest := []) ⟨hx, hb, hml, hown, hts⟩ (c_S_again (l := l) hc10) (cwV 0 hts (gdV k_7_201 k_7_202 k_7_203 k_1_1 k_7_204) rfl rfl rfl (by decide +kernel) ⟨Nat.le_of_ble_eq_true rfl, Nat.le_of_ble_eq_true rfl⟩) (zPV X1 hZ1 hS (ci := 12) g11.1 g11.2 (r := (RX12, TX12, 10)) rfl []) rfl rfl hl.1 rfl (lv_room (Nat.le_of_ble_eq_true rfl)) d_code_773 ⟨by have h := hrm.1; show _ ≤ 600000; omega, by have h := hrm.2; show _ ≤ 7302250; omega⟩) hS (fun z _ h => zAin X1 hS z h) (zAin X1 hS) (fun p10 u10 t10 H10 locs10 ht10 hv10 hw10 hB10 hz10 hk10 hS10 => ?_)
  subst hw10
  have hZa10 := zBack X1 ht10 hB10
  have hZb10 := zH.beside hZ2 hd hk10
  refine lv_pop hx hb d_code_776 rfl ?_
  refine lv_aload_n hx hb d_code_777 rfl (lv_at hl 1 rfl) ?_
  obtain ⟨r12, F12, B12, hc12, hf⟩ := gbL hf
  rw [← hmm]
  refine va_calli (va_runV (As := []) (rest := []) ⟨hx, hb, hml, hown, hts⟩ (c_M_again (l := l) hc12) (cwV 0 hts (gdV k_12_234 k_12_235 k_12_236 k_1_9 k_12_237) rfl rfl rfl (by decide +kernel) ⟨Nat.le_of_ble_eq_true rfl, Nat.le_of_ble_eq_true rfl⟩) (zPV X2 hZb10 hS10 (ci := 14) (by decide) (by decide) (r := (RX14, TX14, 107)) rfl []) rfl rfl hl.1 rfl (lv_room (Nat.le_of_ble_eq_true rfl)) d_code_778 ⟨by have h := hrm.1; show _ ≤ 600000; omega, by have h := hrm.2; show _ ≤ 7302250; omega⟩) hS10 (fun z _ h => zAin X2 hS10 z h) (zAin X2 hS10) (fun p12 u12 t12 H12 locs12 ht12 hv12 hw12 hB12 hz12 hk12 hS12 => ?_)
  subst hw12
  have hZb12 := zBack X2 ht12 hB12
  have hZa12 := zH.beside hZa10 (fun z h1 h2 => hd z h2 h1) hk12
  refine lv_pop hx hb d_code_781 rfl ?_
  refine lv_goto (tgt := 1191) hx hb d_code_782 (by decide) ?_
  cases hf
  refine W.widen (k := cells + cwC K K) (n := slots + swC K K) (by omega) (by omega) ?_
  exact kk hG hZa12 hZb12 hd hS12 hxx hl
def ls_17 (Kr : Nat) (x : Int) (sc : Int → Int) (n i : Int) (K : zK) (F : zF) (B : zB) (Fm : zF) (Bm : zB) : zL := if 0 ≤ x ∧ x < K.2 12 then zbM (f_S_open K x F B) (fun r10 F10 B10 K10 => zbL (f_M_open Kr Fm Bm) (fun r12 F12 B12 => some (K10, F10, B10, F12, B12))) else none
set_option maxHeartbeats 4000000 in
set_option maxRecDepth 100000 in
theorem lc_17 {D : va_G} {ca : Nat → ClassId} {ad ad2 : Nat → Int → Nat → Nat} {L L2 : List Nat} {aS vS : Nat → Nat} {A : Nat → Prop} {p : Program} {l : Launch} {e : Env} {s : State} {m : MethodId} {below : List Frame} {meth : Method} {c : Code} {b n : Nat} {xs : Nat → Int32} {xx mm : Nat} {x i : Int} {Kr : Nat} {K K9 : zK} {F Fm F9 Fm9 : zF} {B Bm B9 Bm9 : zB} {H : Heap} {locs : List Loc} {cells slots : Nat} {Q : State → Prop} {ls : Array Slot}
    (X1 : zX D ca L aS vS A p s m #[Value.ref b] meth c code 4 ret "StaveHouseLaw") (X2 : zX D ca L2 aS vS A p s m #[Value.ref b] meth c code 4 ret "StaveHouseLaw") (hXs : va_X b n xs s s.heap) (hbl : b < s.heap.size) (hbA : ¬ A b) (hL4 : n ≤ 2147483647) (hf : ls_17 Kr x (scz xs) n i K F B Fm Bm = some (K9, F9, B9, Fm9, Bm9)) (hZ1 : zH D ca ad lnC K.2 L F B A H) (hZ2 : zH D ca ad2 lnM nM L2 Fm Bm A H) (hd : ∀ q ∈ L2, q ∉ L) (hS : va_S A s.heap H locs) (hxx : ad 12 x 0 = xx) (hmm : ad2 14 0 0 = mm) (hl : lv_has ls 4 [(3, .int (iI i)), (2, .ref mm), (1, .ref xx), (0, .ref b)]) (hrm : cells + cwC K K9 ≤ 600000 ∧ slots + swC K K9 ≤ 7302250)
    (kk : ∀ {ad' : Nat → Int → Nat → Nat} {L' : List Nat} {H' : Heap} {locs' : List Loc}, zG ad K.2 ad' K9.2 → zH D ca ad' lnC K9.2 L' F9 B9 A H' → zH D ca ad2 lnM nM L2 Fm9 Bm9 A H' → (∀ q ∈ L2, q ∉ L') → va_S A s.heap H' locs' → ad' 12 x 0 = xx → lv_has ls 4 [(3, .int (iI i)), (2, .ref mm), (1, .ref xx), (0, .ref b)] → W p l e room_1 s m #[Value.ref b] below meth c H' locs' (cells + cwC K K9) (slots + swC K K9) Q (F0 m 1191 ls [])) : W p l e room_1 s m #[Value.ref b] below meth c H locs cells slots Q (F0 m 785 ls []) := by
  obtain ⟨hx, hb, hr, hml, hown, hts, hlk, hK, hA, hL, hX⟩ := id X1
  have hG : zG ad K.2 ad K.2 := zG.rf
  replace hf : (if 0 ≤ x ∧ x < K.2 12 then zbM (f_S_open K x F B) (fun r10 F10 B10 K10 => zbL (f_M_open Kr Fm Bm) (fun r12 F12 B12 => some (K10, F10, B10, F12, B12))) else none) = some (K9, F9, B9, Fm9, Bm9) := hf
  refine lv_aload_n hx hb d_code_785 rfl (lv_at hl 2 rfl) ?_
  obtain ⟨g11, hf⟩ := gif hf
  obtain ⟨r10, F10, B10, K10, hc10, hf⟩ := gbM hf
  rw [← hxx]
  have hK10 : K9 = K10 := by
    have h := hf
    obtain ⟨_, _, _, _, h⟩ := gbL h
    cases h
    rfl
  have hrm10 : cells + cwC K K10 ≤ 600000 ∧ slots + swC K K10 ≤ 7302250 := by rw [← hK10]; exact hrm
  refine va_calli (va_runV (As := []) (rest := []) ⟨hx, hb, hml, hown, hts⟩ (c_S_open (l := l) hc10) (cwV 0 hts (gdV k_7_205 k_7_206 k_7_207 k_1_1 k_7_208) rfl rfl rfl (by decide +kernel) ⟨Nat.le_of_ble_eq_true rfl, Nat.le_of_ble_eq_true rfl⟩) (zPV X1 hZ1 hS (ci := 12) g11.1 g11.2 (r := (RX12, TX12, 10)) rfl []) rfl rfl hl.1 rfl (lv_room (Nat.le_of_ble_eq_true rfl)) d_code_786 ⟨by have h := hrm10.1; show _ ≤ 600000; omega, by have h := hrm10.2; show _ ≤ 7302250; omega⟩) hS (fun z _ h => zAin X1 hS z h) (zAin X1 hS) (fun p10 u10 t10 H10 locs10 ht10 hv10 hw10 hB10 hz10 hk10 hS10 => ?_)
  obtain ⟨ad10, L10⟩ := u10
  obtain ⟨hw10, hg10⟩ := hw10
  subst hw10
  have hZa10 := zBackM X1 hS ht10 hB10
  have hd10 := zd_grow hZ2 hd hB10
  have X10 := X1.grow hZa10.inA
  have hxx10 : ad10 12 x 0 = xx := (hg10.2 12 x 0 g11.1 g11.2).trans hxx
  have hG10 := hG.tr hg10
  have hZb10 := zH.beside hZ2 hd hk10
  refine lv_pop hx hb d_code_789 rfl ?_
  refine lv_aload_n hx hb d_code_790 rfl (lv_at hl 1 rfl) ?_
  obtain ⟨r12, F12, B12, hc12, hf⟩ := gbL hf
  rw [← hmm]
  refine va_calli (va_runV (As := []) (rest := []) ⟨hx, hb, hml, hown, hts⟩ (c_M_open (l := l) hc12) (cwV 0 hts (gdV k_12_238 k_12_239 k_13_0 k_1_9 k_13_1) rfl rfl rfl (by decide +kernel) ⟨Nat.le_of_ble_eq_true rfl, Nat.le_of_ble_eq_true rfl⟩) (zPV X2 hZb10 hS10 (ci := 14) (by decide) (by decide) (r := (RX14, TX14, 107)) rfl []) rfl rfl hl.1 rfl (lv_room (Nat.le_of_ble_eq_true rfl)) d_code_791 ⟨by have h := hrm10.1; show _ ≤ 600000; omega, by have h := hrm10.2; show _ ≤ 7302250; omega⟩) hS10 (fun z _ h => zAin X2 hS10 z h) (zAin X2 hS10) (fun p12 u12 t12 H12 locs12 ht12 hv12 hw12 hB12 hz12 hk12 hS12 => ?_)
  subst hw12
  have hZb12 := zBack X2 ht12 hB12
  have hZa12 := zH.beside hZa10 (fun z h1 h2 => hd10 z h2 h1) hk12
  refine lv_pop hx hb d_code_794 rfl ?_
  refine lv_goto (tgt := 1191) hx hb d_code_795 (by decide) ?_
  cases hf
  refine W.widen (k := cells + cwC K K9) (n := slots + swC K K9) (by omega) (by omega) ?_
  exact kk hG10 hZa12 hZb12 hd10 hS12 hxx10 hl
def ls_18 (Kr : Nat) (x : Int) (sc : Int → Int) (n i : Int) (K : zK) (F : zF) (B : zB) (Fm : zF) (Bm : zB) : zL := if 0 ≤ (i + 1) ∧ (i + 1) < n then if 0 ≤ x ∧ x < K.2 12 then zbL (f_S_track K x (sc (i + 1)) F B) (fun r11 F11 B11 => if 0 ≤ (i + 1) ∧ (i + 1) < n then zbL (f_M_track Kr (sc (i + 1)) Fm Bm) (fun r14 F14 B14 => some (K, F11, B11, F14, B14)) else none) else none else none
set_option maxHeartbeats 4000000 in
set_option maxRecDepth 100000 in
theorem lc_18 {D : va_G} {ca : Nat → ClassId} {ad ad2 : Nat → Int → Nat → Nat} {L L2 : List Nat} {aS vS : Nat → Nat} {A : Nat → Prop} {p : Program} {l : Launch} {e : Env} {s : State} {m : MethodId} {below : List Frame} {meth : Method} {c : Code} {b n : Nat} {xs : Nat → Int32} {xx mm : Nat} {x i : Int} {Kr : Nat} {K K9 : zK} {F Fm F9 Fm9 : zF} {B Bm B9 Bm9 : zB} {H : Heap} {locs : List Loc} {cells slots : Nat} {Q : State → Prop} {ls : Array Slot}
    (X1 : zX D ca L aS vS A p s m #[Value.ref b] meth c code 4 ret "StaveHouseLaw") (X2 : zX D ca L2 aS vS A p s m #[Value.ref b] meth c code 4 ret "StaveHouseLaw") (hXs : va_X b n xs s s.heap) (hbl : b < s.heap.size) (hbA : ¬ A b) (hL4 : n ≤ 2147483647) (hf : ls_18 Kr x (scz xs) n i K F B Fm Bm = some (K9, F9, B9, Fm9, Bm9)) (hZ1 : zH D ca ad lnC K.2 L F B A H) (hZ2 : zH D ca ad2 lnM nM L2 Fm Bm A H) (hd : ∀ q ∈ L2, q ∉ L) (hS : va_S A s.heap H locs) (hxx : ad 12 x 0 = xx) (hmm : ad2 14 0 0 = mm) (hl : lv_has ls 4 [(3, .int (iI i)), (2, .ref mm), (1, .ref xx), (0, .ref b)]) (hrm : cells + cwC K K9 ≤ 600000 ∧ slots + swC K K9 ≤ 7302250)
    (kk : ∀ {ad' : Nat → Int → Nat → Nat} {L' : List Nat} {H' : Heap} {locs' : List Loc}, zG ad K.2 ad' K9.2 → zH D ca ad' lnC K9.2 L' F9 B9 A H' → zH D ca ad2 lnM nM L2 Fm9 Bm9 A H' → (∀ q ∈ L2, q ∉ L') → va_S A s.heap H' locs' → ad' 12 x 0 = xx → lv_has ls 4 [(3, .int (iI i)), (2, .ref mm), (1, .ref xx), (0, .ref b)] → W p l e room_1 s m #[Value.ref b] below meth c H' locs' (cells + cwC K K9) (slots + swC K K9) Q (F0 m 1191 ls [])) : W p l e room_1 s m #[Value.ref b] below meth c H locs cells slots Q (F0 m 798 ls []) := by
  obtain ⟨hx, hb, hr, hml, hown, hts, hlk, hK, hA, hL, hX⟩ := id X1
  have hG : zG ad K.2 ad K.2 := zG.rf
  replace hf : (if 0 ≤ (i + 1) ∧ (i + 1) < n then if 0 ≤ x ∧ x < K.2 12 then zbL (f_S_track K x ((scz xs) (i + 1)) F B) (fun r11 F11 B11 => if 0 ≤ (i + 1) ∧ (i + 1) < n then zbL (f_M_track Kr ((scz xs) (i + 1)) Fm Bm) (fun r14 F14 B14 => some (K, F11, B11, F14, B14)) else none) else none else none) = some (K9, F9, B9, Fm9, Bm9) := hf
  refine lv_aload_n hx hb d_code_798 rfl (lv_at hl 2 rfl) ?_
  refine lv_aload_n hx hb d_code_799 rfl (lv_at hl 3 rfl) ?_
  refine lv_iload_n hx hb d_code_800 rfl (lv_at hl 0 rfl) ?_
  refine lv_iconst (v := iI 1) hx hb d_code_801 rfl ?_
  refine zadd hx hb d_code_802 ?_
  obtain ⟨g10, hf⟩ := gif hf
  refine zsld hx hb hXs hbl hbA hS g10.1 g10.2 hL4 d_code_803 ?_
  obtain ⟨g12, hf⟩ := gif hf
  obtain ⟨r11, F11, B11, hc11, hf⟩ := gbL hf
  rw [← hxx]
  refine va_calli (va_runV (As := [.int (iI ((scz xs) (i + 1)))]) (rest := []) ⟨hx, hb, hml, hown, hts⟩ (c_S_track (l := l) hc11) (cwV 1 hts (gdV k_8_126 k_8_127 k_8_128 k_1_1 k_8_129) rfl rfl rfl (by decide +kernel) ⟨Nat.le_of_ble_eq_true rfl, Nat.le_of_ble_eq_true rfl⟩) (zPV X1 hZ1 hS (ci := 12) g12.1 g12.2 (r := (RX12, TX12, 10)) rfl [.int (iI ((scz xs) (i + 1)))]) rfl rfl hl.1 rfl (lv_room (Nat.le_of_ble_eq_true rfl)) d_code_804 ⟨by have h := hrm.1; show _ ≤ 600000; omega, by have h := hrm.2; show _ ≤ 7302250; omega⟩) hS (fun z _ h => zAin X1 hS z h) (zAin X1 hS) (fun p11 u11 t11 H11 locs11 ht11 hv11 hw11 hB11 hz11 hk11 hS11 => ?_)
  subst hw11
  have hZa11 := zBack X1 ht11 hB11
  have hZb11 := zH.beside hZ2 hd hk11
  refine lv_pop hx hb d_code_807 rfl ?_
  refine lv_aload_n hx hb d_code_808 rfl (lv_at hl 1 rfl) ?_
  refine lv_aload_n hx hb d_code_809 rfl (lv_at hl 3 rfl) ?_
  refine lv_iload_n hx hb d_code_810 rfl (lv_at hl 0 rfl) ?_
  refine lv_iconst (v := iI 1) hx hb d_code_811 rfl ?_
  refine zadd hx hb d_code_812 ?_
  obtain ⟨g13, hf⟩ := gif hf
  refine zsld hx hb hXs hbl hbA hS11 g13.1 g13.2 hL4 d_code_813 ?_
  obtain ⟨r14, F14, B14, hc14, hf⟩ := gbL hf
  rw [← hmm]
  refine va_calli (va_runV (As := [.int (iI ((scz xs) (i + 1)))]) (rest := []) ⟨hx, hb, hml, hown, hts⟩ (c_M_track (l := l) hc14) (cwV 1 hts (gdV k_13_64 k_13_65 k_13_66 k_1_9 k_13_67) rfl rfl rfl (by decide +kernel) ⟨Nat.le_of_ble_eq_true rfl, Nat.le_of_ble_eq_true rfl⟩) (zPV X2 hZb11 hS11 (ci := 14) (by decide) (by decide) (r := (RX14, TX14, 107)) rfl [.int (iI ((scz xs) (i + 1)))]) rfl rfl hl.1 rfl (lv_room (Nat.le_of_ble_eq_true rfl)) d_code_814 ⟨by have h := hrm.1; show _ ≤ 600000; omega, by have h := hrm.2; show _ ≤ 7302250; omega⟩) hS11 (fun z _ h => zAin X2 hS11 z h) (zAin X2 hS11) (fun p14 u14 t14 H14 locs14 ht14 hv14 hw14 hB14 hz14 hk14 hS14 => ?_)
  subst hw14
  have hZb14 := zBack X2 ht14 hB14
  have hZa14 := zH.beside hZa11 (fun z h1 h2 => hd z h2 h1) hk14
  refine lv_pop hx hb d_code_817 rfl ?_
  refine lv_goto (tgt := 1191) hx hb d_code_818 (by decide) ?_
  cases hf
  refine W.widen (k := cells + cwC K K) (n := slots + swC K K) (by omega) (by omega) ?_
  exact kk hG hZa14 hZb14 hd hS14 hxx hl
def ls_19 (Kr : Nat) (x : Int) (sc : Int → Int) (n i : Int) (K : zK) (F : zF) (B : zB) (Fm : zF) (Bm : zB) : zL := if 0 ≤ (i + 1) ∧ (i + 1) < n then if 0 ≤ (i + 2) ∧ (i + 2) < n then if 0 ≤ x ∧ x < K.2 12 then zbL (f_S_sound K x (sc (i + 1)) (sc (i + 2)) F B) (fun r12 F12 B12 => if 0 ≤ (i + 1) ∧ (i + 1) < n then if 0 ≤ (i + 2) ∧ (i + 2) < n then zbL (f_M_sound_0 Kr (sc (i + 1)) (sc (i + 2)) Fm Bm) (fun r16 F16 B16 => some (K, F12, B12, F16, B16)) else none else none) else none else none else none
set_option maxHeartbeats 4000000 in
set_option maxRecDepth 100000 in
theorem lc_19 {D : va_G} {ca : Nat → ClassId} {ad ad2 : Nat → Int → Nat → Nat} {L L2 : List Nat} {aS vS : Nat → Nat} {A : Nat → Prop} {p : Program} {l : Launch} {e : Env} {s : State} {m : MethodId} {below : List Frame} {meth : Method} {c : Code} {b n : Nat} {xs : Nat → Int32} {xx mm : Nat} {x i : Int} {Kr : Nat} {K K9 : zK} {F Fm F9 Fm9 : zF} {B Bm B9 Bm9 : zB} {H : Heap} {locs : List Loc} {cells slots : Nat} {Q : State → Prop} {ls : Array Slot}
    (X1 : zX D ca L aS vS A p s m #[Value.ref b] meth c code 4 ret "StaveHouseLaw") (X2 : zX D ca L2 aS vS A p s m #[Value.ref b] meth c code 4 ret "StaveHouseLaw") (hXs : va_X b n xs s s.heap) (hbl : b < s.heap.size) (hbA : ¬ A b) (hL4 : n ≤ 2147483647) (hf : ls_19 Kr x (scz xs) n i K F B Fm Bm = some (K9, F9, B9, Fm9, Bm9)) (hZ1 : zH D ca ad lnC K.2 L F B A H) (hZ2 : zH D ca ad2 lnM nM L2 Fm Bm A H) (hd : ∀ q ∈ L2, q ∉ L) (hS : va_S A s.heap H locs) (hxx : ad 12 x 0 = xx) (hmm : ad2 14 0 0 = mm) (hl : lv_has ls 4 [(3, .int (iI i)), (2, .ref mm), (1, .ref xx), (0, .ref b)]) (hrm : cells + cwC K K9 ≤ 600000 ∧ slots + swC K K9 ≤ 7302250)
    (kk : ∀ {ad' : Nat → Int → Nat → Nat} {L' : List Nat} {H' : Heap} {locs' : List Loc}, zG ad K.2 ad' K9.2 → zH D ca ad' lnC K9.2 L' F9 B9 A H' → zH D ca ad2 lnM nM L2 Fm9 Bm9 A H' → (∀ q ∈ L2, q ∉ L') → va_S A s.heap H' locs' → ad' 12 x 0 = xx → lv_has ls 4 [(3, .int (iI i)), (2, .ref mm), (1, .ref xx), (0, .ref b)] → W p l e room_1 s m #[Value.ref b] below meth c H' locs' (cells + cwC K K9) (slots + swC K K9) Q (F0 m 1191 ls [])) : W p l e room_1 s m #[Value.ref b] below meth c H locs cells slots Q (F0 m 821 ls []) := by
  obtain ⟨hx, hb, hr, hml, hown, hts, hlk, hK, hA, hL, hX⟩ := id X1
  have hG : zG ad K.2 ad K.2 := zG.rf
  replace hf : (if 0 ≤ (i + 1) ∧ (i + 1) < n then if 0 ≤ (i + 2) ∧ (i + 2) < n then if 0 ≤ x ∧ x < K.2 12 then zbL (f_S_sound K x ((scz xs) (i + 1)) ((scz xs) (i + 2)) F B) (fun r12 F12 B12 => if 0 ≤ (i + 1) ∧ (i + 1) < n then if 0 ≤ (i + 2) ∧ (i + 2) < n then zbL (f_M_sound_0 Kr ((scz xs) (i + 1)) ((scz xs) (i + 2)) Fm Bm) (fun r16 F16 B16 => some (K, F12, B12, F16, B16)) else none else none) else none else none else none) = some (K9, F9, B9, Fm9, Bm9) := hf
  refine lv_aload_n hx hb d_code_821 rfl (lv_at hl 2 rfl) ?_
  refine lv_aload_n hx hb d_code_822 rfl (lv_at hl 3 rfl) ?_
  refine lv_iload_n hx hb d_code_823 rfl (lv_at hl 0 rfl) ?_
  refine lv_iconst (v := iI 1) hx hb d_code_824 rfl ?_
  refine zadd hx hb d_code_825 ?_
  obtain ⟨g10, hf⟩ := gif hf
  refine zsld hx hb hXs hbl hbA hS g10.1 g10.2 hL4 d_code_826 ?_
  refine lv_aload_n hx hb d_code_827 rfl (lv_at hl 3 rfl) ?_
  refine lv_iload_n hx hb d_code_828 rfl (lv_at hl 0 rfl) ?_
  refine lv_iconst (v := iI 2) hx hb d_code_829 rfl ?_
  refine zadd hx hb d_code_830 ?_
  obtain ⟨g11, hf⟩ := gif hf
  refine zsld hx hb hXs hbl hbA hS g11.1 g11.2 hL4 d_code_831 ?_
  obtain ⟨g13, hf⟩ := gif hf
  obtain ⟨r12, F12, B12, hc12, hf⟩ := gbL hf
  rw [← hxx]
  refine va_calll (va_runV (As := [.int (iI ((scz xs) (i + 1))), .int (iI ((scz xs) (i + 2)))]) (rest := []) ⟨hx, hb, hml, hown, hts⟩ (c_S_sound (l := l) hc12) (cwV 2 hts (gdV k_8_130 k_8_131 k_8_132 k_1_1 k_8_133) rfl rfl rfl (by decide +kernel) ⟨Nat.le_of_ble_eq_true rfl, Nat.le_of_ble_eq_true rfl⟩) (zPV X1 hZ1 hS (ci := 12) g13.1 g13.2 (r := (RX12, TX12, 10)) rfl [.int (iI ((scz xs) (i + 1))), .int (iI ((scz xs) (i + 2)))]) rfl rfl hl.1 rfl (lv_room (Nat.le_of_ble_eq_true rfl)) d_code_832 ⟨by have h := hrm.1; show _ ≤ 600000; omega, by have h := hrm.2; show _ ≤ 7302250; omega⟩) hS (fun z _ h => zAin X1 hS z h) (zAin X1 hS) (fun p12 u12 t12 H12 locs12 ht12 hv12 hw12 hB12 hz12 hk12 hS12 => ?_)
  subst hw12
  have hZa12 := zBack X1 ht12 hB12
  have hZb12 := zH.beside hZ2 hd hk12
  refine lv_pop2_2 hx hb d_code_835 rfl ?_
  refine lv_aload_n hx hb d_code_836 rfl (lv_at hl 1 rfl) ?_
  refine lv_aload_n hx hb d_code_837 rfl (lv_at hl 3 rfl) ?_
  refine lv_iload_n hx hb d_code_838 rfl (lv_at hl 0 rfl) ?_
  refine lv_iconst (v := iI 1) hx hb d_code_839 rfl ?_
  refine zadd hx hb d_code_840 ?_
  obtain ⟨g14, hf⟩ := gif hf
  refine zsld hx hb hXs hbl hbA hS12 g14.1 g14.2 hL4 d_code_841 ?_
  refine lv_aload_n hx hb d_code_842 rfl (lv_at hl 3 rfl) ?_
  refine lv_iload_n hx hb d_code_843 rfl (lv_at hl 0 rfl) ?_
  refine lv_iconst (v := iI 2) hx hb d_code_844 rfl ?_
  refine zadd hx hb d_code_845 ?_
  obtain ⟨g15, hf⟩ := gif hf
  refine zsld hx hb hXs hbl hbA hS12 g15.1 g15.2 hL4 d_code_846 ?_
  obtain ⟨r16, F16, B16, hc16, hf⟩ := gbL hf
  rw [← hmm]
  refine va_calll (va_runV (As := [.int (iI ((scz xs) (i + 1))), .int (iI ((scz xs) (i + 2)))]) (rest := []) ⟨hx, hb, hml, hown, hts⟩ (c_M_sound_0 (l := l) hc16) (cwV 2 hts (gdV k_13_69 k_13_70 k_13_71 k_1_9 k_13_72) rfl rfl rfl (by decide +kernel) ⟨Nat.le_of_ble_eq_true rfl, Nat.le_of_ble_eq_true rfl⟩) (zPV X2 hZb12 hS12 (ci := 14) (by decide) (by decide) (r := (RX14, TX14, 107)) rfl [.int (iI ((scz xs) (i + 1))), .int (iI ((scz xs) (i + 2)))]) rfl rfl hl.1 rfl (lv_room (Nat.le_of_ble_eq_true rfl)) d_code_847 ⟨by have h := hrm.1; show _ ≤ 600000; omega, by have h := hrm.2; show _ ≤ 7302250; omega⟩) hS12 (fun z _ h => zAin X2 hS12 z h) (zAin X2 hS12) (fun p16 u16 t16 H16 locs16 ht16 hv16 hw16 hB16 hz16 hk16 hS16 => ?_)
  subst hw16
  have hZb16 := zBack X2 ht16 hB16
  have hZa16 := zH.beside hZa12 (fun z h1 h2 => hd z h2 h1) hk16
  refine lv_pop2_2 hx hb d_code_850 rfl ?_
  refine lv_goto (tgt := 1191) hx hb d_code_851 (by decide) ?_
  cases hf
  refine W.widen (k := cells + cwC K K) (n := slots + swC K K) (by omega) (by omega) ?_
  exact kk hG hZa16 hZb16 hd hS16 hxx hl
def ls_20 (Kr : Nat) (x : Int) (sc : Int → Int) (n i : Int) (K : zK) (F : zF) (B : zB) (Fm : zF) (Bm : zB) : zL := if 0 ≤ (i + 1) ∧ (i + 1) < n then if 0 ≤ x ∧ x < K.2 12 then zbL (f_S_down K x (sc (i + 1)) F B) (fun r11 F11 B11 => if 0 ≤ (i + 1) ∧ (i + 1) < n then zbL (f_M_down Kr (sc (i + 1)) Fm Bm) (fun r14 F14 B14 => some (K, F11, B11, F14, B14)) else none) else none else none
set_option maxHeartbeats 4000000 in
set_option maxRecDepth 100000 in
theorem lc_20 {D : va_G} {ca : Nat → ClassId} {ad ad2 : Nat → Int → Nat → Nat} {L L2 : List Nat} {aS vS : Nat → Nat} {A : Nat → Prop} {p : Program} {l : Launch} {e : Env} {s : State} {m : MethodId} {below : List Frame} {meth : Method} {c : Code} {b n : Nat} {xs : Nat → Int32} {xx mm : Nat} {x i : Int} {Kr : Nat} {K K9 : zK} {F Fm F9 Fm9 : zF} {B Bm B9 Bm9 : zB} {H : Heap} {locs : List Loc} {cells slots : Nat} {Q : State → Prop} {ls : Array Slot}
    (X1 : zX D ca L aS vS A p s m #[Value.ref b] meth c code 4 ret "StaveHouseLaw") (X2 : zX D ca L2 aS vS A p s m #[Value.ref b] meth c code 4 ret "StaveHouseLaw") (hXs : va_X b n xs s s.heap) (hbl : b < s.heap.size) (hbA : ¬ A b) (hL4 : n ≤ 2147483647) (hf : ls_20 Kr x (scz xs) n i K F B Fm Bm = some (K9, F9, B9, Fm9, Bm9)) (hZ1 : zH D ca ad lnC K.2 L F B A H) (hZ2 : zH D ca ad2 lnM nM L2 Fm Bm A H) (hd : ∀ q ∈ L2, q ∉ L) (hS : va_S A s.heap H locs) (hxx : ad 12 x 0 = xx) (hmm : ad2 14 0 0 = mm) (hl : lv_has ls 4 [(3, .int (iI i)), (2, .ref mm), (1, .ref xx), (0, .ref b)]) (hrm : cells + cwC K K9 ≤ 600000 ∧ slots + swC K K9 ≤ 7302250)
    (kk : ∀ {ad' : Nat → Int → Nat → Nat} {L' : List Nat} {H' : Heap} {locs' : List Loc}, zG ad K.2 ad' K9.2 → zH D ca ad' lnC K9.2 L' F9 B9 A H' → zH D ca ad2 lnM nM L2 Fm9 Bm9 A H' → (∀ q ∈ L2, q ∉ L') → va_S A s.heap H' locs' → ad' 12 x 0 = xx → lv_has ls 4 [(3, .int (iI i)), (2, .ref mm), (1, .ref xx), (0, .ref b)] → W p l e room_1 s m #[Value.ref b] below meth c H' locs' (cells + cwC K K9) (slots + swC K K9) Q (F0 m 1191 ls [])) : W p l e room_1 s m #[Value.ref b] below meth c H locs cells slots Q (F0 m 854 ls []) := by
  obtain ⟨hx, hb, hr, hml, hown, hts, hlk, hK, hA, hL, hX⟩ := id X1
  have hG : zG ad K.2 ad K.2 := zG.rf
  replace hf : (if 0 ≤ (i + 1) ∧ (i + 1) < n then if 0 ≤ x ∧ x < K.2 12 then zbL (f_S_down K x ((scz xs) (i + 1)) F B) (fun r11 F11 B11 => if 0 ≤ (i + 1) ∧ (i + 1) < n then zbL (f_M_down Kr ((scz xs) (i + 1)) Fm Bm) (fun r14 F14 B14 => some (K, F11, B11, F14, B14)) else none) else none else none) = some (K9, F9, B9, Fm9, Bm9) := hf
  refine lv_aload_n hx hb d_code_854 rfl (lv_at hl 2 rfl) ?_
  refine lv_aload_n hx hb d_code_855 rfl (lv_at hl 3 rfl) ?_
  refine lv_iload_n hx hb d_code_856 rfl (lv_at hl 0 rfl) ?_
  refine lv_iconst (v := iI 1) hx hb d_code_857 rfl ?_
  refine zadd hx hb d_code_858 ?_
  obtain ⟨g10, hf⟩ := gif hf
  refine zsld hx hb hXs hbl hbA hS g10.1 g10.2 hL4 d_code_859 ?_
  obtain ⟨g12, hf⟩ := gif hf
  obtain ⟨r11, F11, B11, hc11, hf⟩ := gbL hf
  rw [← hxx]
  refine va_calli (va_runV (As := [.int (iI ((scz xs) (i + 1)))]) (rest := []) ⟨hx, hb, hml, hown, hts⟩ (c_S_down (l := l) hc11) (cwV 1 hts (gdV k_8_134 k_8_135 k_8_136 k_1_1 k_8_137) rfl rfl rfl (by decide +kernel) ⟨Nat.le_of_ble_eq_true rfl, Nat.le_of_ble_eq_true rfl⟩) (zPV X1 hZ1 hS (ci := 12) g12.1 g12.2 (r := (RX12, TX12, 10)) rfl [.int (iI ((scz xs) (i + 1)))]) rfl rfl hl.1 rfl (lv_room (Nat.le_of_ble_eq_true rfl)) d_code_860 ⟨by have h := hrm.1; show _ ≤ 600000; omega, by have h := hrm.2; show _ ≤ 7302250; omega⟩) hS (fun z _ h => zAin X1 hS z h) (zAin X1 hS) (fun p11 u11 t11 H11 locs11 ht11 hv11 hw11 hB11 hz11 hk11 hS11 => ?_)
  subst hw11
  have hZa11 := zBack X1 ht11 hB11
  have hZb11 := zH.beside hZ2 hd hk11
  refine lv_pop hx hb d_code_863 rfl ?_
  refine lv_aload_n hx hb d_code_864 rfl (lv_at hl 1 rfl) ?_
  refine lv_aload_n hx hb d_code_865 rfl (lv_at hl 3 rfl) ?_
  refine lv_iload_n hx hb d_code_866 rfl (lv_at hl 0 rfl) ?_
  refine lv_iconst (v := iI 1) hx hb d_code_867 rfl ?_
  refine zadd hx hb d_code_868 ?_
  obtain ⟨g13, hf⟩ := gif hf
  refine zsld hx hb hXs hbl hbA hS11 g13.1 g13.2 hL4 d_code_869 ?_
  obtain ⟨r14, F14, B14, hc14, hf⟩ := gbL hf
  rw [← hmm]
  refine va_calli (va_runV (As := [.int (iI ((scz xs) (i + 1)))]) (rest := []) ⟨hx, hb, hml, hown, hts⟩ (c_M_down (l := l) hc14) (cwV 1 hts (gdV k_13_73 k_13_74 k_13_75 k_1_9 k_13_76) rfl rfl rfl (by decide +kernel) ⟨Nat.le_of_ble_eq_true rfl, Nat.le_of_ble_eq_true rfl⟩) (zPV X2 hZb11 hS11 (ci := 14) (by decide) (by decide) (r := (RX14, TX14, 107)) rfl [.int (iI ((scz xs) (i + 1)))]) rfl rfl hl.1 rfl (lv_room (Nat.le_of_ble_eq_true rfl)) d_code_870 ⟨by have h := hrm.1; show _ ≤ 600000; omega, by have h := hrm.2; show _ ≤ 7302250; omega⟩) hS11 (fun z _ h => zAin X2 hS11 z h) (zAin X2 hS11) (fun p14 u14 t14 H14 locs14 ht14 hv14 hw14 hB14 hz14 hk14 hS14 => ?_)
  subst hw14
  have hZb14 := zBack X2 ht14 hB14
  have hZa14 := zH.beside hZa11 (fun z h1 h2 => hd z h2 h1) hk14
  refine lv_pop hx hb d_code_873 rfl ?_
  refine lv_goto (tgt := 1191) hx hb d_code_874 (by decide) ?_
  cases hf
  refine W.widen (k := cells + cwC K K) (n := slots + swC K K) (by omega) (by omega) ?_
  exact kk hG hZa14 hZb14 hd hS14 hxx hl
def ls_21 (Kr : Nat) (x : Int) (sc : Int → Int) (n i : Int) (K : zK) (F : zF) (B : zB) (Fm : zF) (Bm : zB) : zL := if 0 ≤ (i + 1) ∧ (i + 1) < n then if 0 ≤ (i + 2) ∧ (i + 2) < n then if 0 ≤ x ∧ x < K.2 12 then zbL (f_S_play K x (sc (i + 1)) (sc (i + 2)) F B) (fun r12 F12 B12 => if 0 ≤ (i + 1) ∧ (i + 1) < n then if 0 ≤ (i + 2) ∧ (i + 2) < n then zbL (f_M_play Kr (sc (i + 1)) (sc (i + 2)) Fm Bm) (fun r16 F16 B16 => some (K, F12, B12, F16, B16)) else none else none) else none else none else none
set_option maxHeartbeats 4000000 in
set_option maxRecDepth 100000 in
theorem lc_21 {D : va_G} {ca : Nat → ClassId} {ad ad2 : Nat → Int → Nat → Nat} {L L2 : List Nat} {aS vS : Nat → Nat} {A : Nat → Prop} {p : Program} {l : Launch} {e : Env} {s : State} {m : MethodId} {below : List Frame} {meth : Method} {c : Code} {b n : Nat} {xs : Nat → Int32} {xx mm : Nat} {x i : Int} {Kr : Nat} {K K9 : zK} {F Fm F9 Fm9 : zF} {B Bm B9 Bm9 : zB} {H : Heap} {locs : List Loc} {cells slots : Nat} {Q : State → Prop} {ls : Array Slot}
    (X1 : zX D ca L aS vS A p s m #[Value.ref b] meth c code 4 ret "StaveHouseLaw") (X2 : zX D ca L2 aS vS A p s m #[Value.ref b] meth c code 4 ret "StaveHouseLaw") (hXs : va_X b n xs s s.heap) (hbl : b < s.heap.size) (hbA : ¬ A b) (hL4 : n ≤ 2147483647) (hf : ls_21 Kr x (scz xs) n i K F B Fm Bm = some (K9, F9, B9, Fm9, Bm9)) (hZ1 : zH D ca ad lnC K.2 L F B A H) (hZ2 : zH D ca ad2 lnM nM L2 Fm Bm A H) (hd : ∀ q ∈ L2, q ∉ L) (hS : va_S A s.heap H locs) (hxx : ad 12 x 0 = xx) (hmm : ad2 14 0 0 = mm) (hl : lv_has ls 4 [(3, .int (iI i)), (2, .ref mm), (1, .ref xx), (0, .ref b)]) (hrm : cells + cwC K K9 ≤ 600000 ∧ slots + swC K K9 ≤ 7302250)
    (kk : ∀ {ad' : Nat → Int → Nat → Nat} {L' : List Nat} {H' : Heap} {locs' : List Loc}, zG ad K.2 ad' K9.2 → zH D ca ad' lnC K9.2 L' F9 B9 A H' → zH D ca ad2 lnM nM L2 Fm9 Bm9 A H' → (∀ q ∈ L2, q ∉ L') → va_S A s.heap H' locs' → ad' 12 x 0 = xx → lv_has ls 4 [(3, .int (iI i)), (2, .ref mm), (1, .ref xx), (0, .ref b)] → W p l e room_1 s m #[Value.ref b] below meth c H' locs' (cells + cwC K K9) (slots + swC K K9) Q (F0 m 1191 ls [])) : W p l e room_1 s m #[Value.ref b] below meth c H locs cells slots Q (F0 m 877 ls []) := by
  obtain ⟨hx, hb, hr, hml, hown, hts, hlk, hK, hA, hL, hX⟩ := id X1
  have hG : zG ad K.2 ad K.2 := zG.rf
  replace hf : (if 0 ≤ (i + 1) ∧ (i + 1) < n then if 0 ≤ (i + 2) ∧ (i + 2) < n then if 0 ≤ x ∧ x < K.2 12 then zbL (f_S_play K x ((scz xs) (i + 1)) ((scz xs) (i + 2)) F B) (fun r12 F12 B12 => if 0 ≤ (i + 1) ∧ (i + 1) < n then if 0 ≤ (i + 2) ∧ (i + 2) < n then zbL (f_M_play Kr ((scz xs) (i + 1)) ((scz xs) (i + 2)) Fm Bm) (fun r16 F16 B16 => some (K, F12, B12, F16, B16)) else none else none) else none else none else none) = some (K9, F9, B9, Fm9, Bm9) := hf
  refine lv_aload_n hx hb d_code_877 rfl (lv_at hl 2 rfl) ?_
  refine lv_aload_n hx hb d_code_878 rfl (lv_at hl 3 rfl) ?_
  refine lv_iload_n hx hb d_code_879 rfl (lv_at hl 0 rfl) ?_
  refine lv_iconst (v := iI 1) hx hb d_code_880 rfl ?_
  refine zadd hx hb d_code_881 ?_
  obtain ⟨g10, hf⟩ := gif hf
  refine zsld hx hb hXs hbl hbA hS g10.1 g10.2 hL4 d_code_882 ?_
  refine lv_aload_n hx hb d_code_883 rfl (lv_at hl 3 rfl) ?_
  refine lv_iload_n hx hb d_code_884 rfl (lv_at hl 0 rfl) ?_
  refine lv_iconst (v := iI 2) hx hb d_code_885 rfl ?_
  refine zadd hx hb d_code_886 ?_
  obtain ⟨g11, hf⟩ := gif hf
  refine zsld hx hb hXs hbl hbA hS g11.1 g11.2 hL4 d_code_887 ?_
  obtain ⟨g13, hf⟩ := gif hf
  obtain ⟨r12, F12, B12, hc12, hf⟩ := gbL hf
  rw [← hxx]
  refine va_calli (va_runV (As := [.int (iI ((scz xs) (i + 1))), .int (iI ((scz xs) (i + 2)))]) (rest := []) ⟨hx, hb, hml, hown, hts⟩ (c_S_play (l := l) hc12) (cwV 2 hts (gdV k_8_234 k_8_235 k_8_236 k_1_1 k_8_237) rfl rfl rfl (by decide +kernel) ⟨Nat.le_of_ble_eq_true rfl, Nat.le_of_ble_eq_true rfl⟩) (zPV X1 hZ1 hS (ci := 12) g13.1 g13.2 (r := (RX12, TX12, 10)) rfl [.int (iI ((scz xs) (i + 1))), .int (iI ((scz xs) (i + 2)))]) rfl rfl hl.1 rfl (lv_room (Nat.le_of_ble_eq_true rfl)) d_code_888 ⟨by have h := hrm.1; show _ ≤ 600000; omega, by have h := hrm.2; show _ ≤ 7302250; omega⟩) hS (fun z _ h => zAin X1 hS z h) (zAin X1 hS) (fun p12 u12 t12 H12 locs12 ht12 hv12 hw12 hB12 hz12 hk12 hS12 => ?_)
  subst hw12
  have hZa12 := zBack X1 ht12 hB12
  have hZb12 := zH.beside hZ2 hd hk12
  refine lv_pop hx hb d_code_891 rfl ?_
  refine lv_aload_n hx hb d_code_892 rfl (lv_at hl 1 rfl) ?_
  refine lv_aload_n hx hb d_code_893 rfl (lv_at hl 3 rfl) ?_
  refine lv_iload_n hx hb d_code_894 rfl (lv_at hl 0 rfl) ?_
  refine lv_iconst (v := iI 1) hx hb d_code_895 rfl ?_
  refine zadd hx hb d_code_896 ?_
  obtain ⟨g14, hf⟩ := gif hf
  refine zsld hx hb hXs hbl hbA hS12 g14.1 g14.2 hL4 d_code_897 ?_
  refine lv_aload_n hx hb d_code_898 rfl (lv_at hl 3 rfl) ?_
  refine lv_iload_n hx hb d_code_899 rfl (lv_at hl 0 rfl) ?_
  refine lv_iconst (v := iI 2) hx hb d_code_900 rfl ?_
  refine zadd hx hb d_code_901 ?_
  obtain ⟨g15, hf⟩ := gif hf
  refine zsld hx hb hXs hbl hbA hS12 g15.1 g15.2 hL4 d_code_902 ?_
  obtain ⟨r16, F16, B16, hc16, hf⟩ := gbL hf
  rw [← hmm]
  refine va_calli (va_runV (As := [.int (iI ((scz xs) (i + 1))), .int (iI ((scz xs) (i + 2)))]) (rest := []) ⟨hx, hb, hml, hown, hts⟩ (c_M_play (l := l) hc16) (cwV 2 hts (gdV k_13_203 k_13_204 k_13_205 k_1_9 k_13_206) rfl rfl rfl (by decide +kernel) ⟨Nat.le_of_ble_eq_true rfl, Nat.le_of_ble_eq_true rfl⟩) (zPV X2 hZb12 hS12 (ci := 14) (by decide) (by decide) (r := (RX14, TX14, 107)) rfl [.int (iI ((scz xs) (i + 1))), .int (iI ((scz xs) (i + 2)))]) rfl rfl hl.1 rfl (lv_room (Nat.le_of_ble_eq_true rfl)) d_code_903 ⟨by have h := hrm.1; show _ ≤ 600000; omega, by have h := hrm.2; show _ ≤ 7302250; omega⟩) hS12 (fun z _ h => zAin X2 hS12 z h) (zAin X2 hS12) (fun p16 u16 t16 H16 locs16 ht16 hv16 hw16 hB16 hz16 hk16 hS16 => ?_)
  subst hw16
  have hZb16 := zBack X2 ht16 hB16
  have hZa16 := zH.beside hZa12 (fun z h1 h2 => hd z h2 h1) hk16
  refine lv_pop hx hb d_code_906 rfl ?_
  refine lv_goto (tgt := 1191) hx hb d_code_907 (by decide) ?_
  cases hf
  refine W.widen (k := cells + cwC K K) (n := slots + swC K K) (by omega) (by omega) ?_
  exact kk hG hZa16 hZb16 hd hS16 hxx hl
def ls_22 (Kr : Nat) (x : Int) (sc : Int → Int) (n i : Int) (K : zK) (F : zF) (B : zB) (Fm : zF) (Bm : zB) : zL := if 0 ≤ (i + 1) ∧ (i + 1) < n then if 0 ≤ (i + 2) ∧ (i + 2) < n then if 0 ≤ (i + 3) ∧ (i + 3) < n then if 0 ≤ x ∧ x < K.2 12 then zbL (f_S_sample K x (sc (i + 1)) (sc (i + 2)) (sc (i + 3)) F B) (fun r13 F13 B13 => if 0 ≤ (i + 1) ∧ (i + 1) < n then if 0 ≤ (i + 2) ∧ (i + 2) < n then if 0 ≤ (i + 3) ∧ (i + 3) < n then zbL (f_M_sample Kr (sc (i + 1)) (sc (i + 2)) (sc (i + 3)) Fm Bm) (fun r18 F18 B18 => some (K, F13, B13, F18, B18)) else none else none else none) else none else none else none else none
set_option maxHeartbeats 4000000 in
set_option maxRecDepth 100000 in
theorem lc_22 {D : va_G} {ca : Nat → ClassId} {ad ad2 : Nat → Int → Nat → Nat} {L L2 : List Nat} {aS vS : Nat → Nat} {A : Nat → Prop} {p : Program} {l : Launch} {e : Env} {s : State} {m : MethodId} {below : List Frame} {meth : Method} {c : Code} {b n : Nat} {xs : Nat → Int32} {xx mm : Nat} {x i : Int} {Kr : Nat} {K K9 : zK} {F Fm F9 Fm9 : zF} {B Bm B9 Bm9 : zB} {H : Heap} {locs : List Loc} {cells slots : Nat} {Q : State → Prop} {ls : Array Slot}
    (X1 : zX D ca L aS vS A p s m #[Value.ref b] meth c code 4 ret "StaveHouseLaw") (X2 : zX D ca L2 aS vS A p s m #[Value.ref b] meth c code 4 ret "StaveHouseLaw") (hXs : va_X b n xs s s.heap) (hbl : b < s.heap.size) (hbA : ¬ A b) (hL4 : n ≤ 2147483647) (hf : ls_22 Kr x (scz xs) n i K F B Fm Bm = some (K9, F9, B9, Fm9, Bm9)) (hZ1 : zH D ca ad lnC K.2 L F B A H) (hZ2 : zH D ca ad2 lnM nM L2 Fm Bm A H) (hd : ∀ q ∈ L2, q ∉ L) (hS : va_S A s.heap H locs) (hxx : ad 12 x 0 = xx) (hmm : ad2 14 0 0 = mm) (hl : lv_has ls 4 [(3, .int (iI i)), (2, .ref mm), (1, .ref xx), (0, .ref b)]) (hrm : cells + cwC K K9 ≤ 600000 ∧ slots + swC K K9 ≤ 7302250)
    (kk : ∀ {ad' : Nat → Int → Nat → Nat} {L' : List Nat} {H' : Heap} {locs' : List Loc}, zG ad K.2 ad' K9.2 → zH D ca ad' lnC K9.2 L' F9 B9 A H' → zH D ca ad2 lnM nM L2 Fm9 Bm9 A H' → (∀ q ∈ L2, q ∉ L') → va_S A s.heap H' locs' → ad' 12 x 0 = xx → lv_has ls 4 [(3, .int (iI i)), (2, .ref mm), (1, .ref xx), (0, .ref b)] → W p l e room_1 s m #[Value.ref b] below meth c H' locs' (cells + cwC K K9) (slots + swC K K9) Q (F0 m 1191 ls [])) : W p l e room_1 s m #[Value.ref b] below meth c H locs cells slots Q (F0 m 910 ls []) := by
  obtain ⟨hx, hb, hr, hml, hown, hts, hlk, hK, hA, hL, hX⟩ := id X1
  have hG : zG ad K.2 ad K.2 := zG.rf
  replace hf : (if 0 ≤ (i + 1) ∧ (i + 1) < n then if 0 ≤ (i + 2) ∧ (i + 2) < n then if 0 ≤ (i + 3) ∧ (i + 3) < n then if 0 ≤ x ∧ x < K.2 12 then zbL (f_S_sample K x ((scz xs) (i + 1)) ((scz xs) (i + 2)) ((scz xs) (i + 3)) F B) (fun r13 F13 B13 => if 0 ≤ (i + 1) ∧ (i + 1) < n then if 0 ≤ (i + 2) ∧ (i + 2) < n then if 0 ≤ (i + 3) ∧ (i + 3) < n then zbL (f_M_sample Kr ((scz xs) (i + 1)) ((scz xs) (i + 2)) ((scz xs) (i + 3)) Fm Bm) (fun r18 F18 B18 => some (K, F13, B13, F18, B18)) else none else none else none) else none else none else none else none) = some (K9, F9, B9, Fm9, Bm9) := hf
  refine lv_aload_n hx hb d_code_910 rfl (lv_at hl 2 rfl) ?_
  refine lv_aload_n hx hb d_code_911 rfl (lv_at hl 3 rfl) ?_
  refine lv_iload_n hx hb d_code_912 rfl (lv_at hl 0 rfl) ?_
  refine lv_iconst (v := iI 1) hx hb d_code_913 rfl ?_
  refine zadd hx hb d_code_914 ?_
  obtain ⟨g10, hf⟩ := gif hf
  refine zsld hx hb hXs hbl hbA hS g10.1 g10.2 hL4 d_code_915 ?_
  refine lv_aload_n hx hb d_code_916 rfl (lv_at hl 3 rfl) ?_
  refine lv_iload_n hx hb d_code_917 rfl (lv_at hl 0 rfl) ?_
  refine lv_iconst (v := iI 2) hx hb d_code_918 rfl ?_
  refine zadd hx hb d_code_919 ?_
  obtain ⟨g11, hf⟩ := gif hf
  refine zsld hx hb hXs hbl hbA hS g11.1 g11.2 hL4 d_code_920 ?_
  refine lv_aload_n hx hb d_code_921 rfl (lv_at hl 3 rfl) ?_
  refine lv_iload_n hx hb d_code_922 rfl (lv_at hl 0 rfl) ?_
  refine lv_iconst (v := iI 3) hx hb d_code_923 rfl ?_
  refine zadd hx hb d_code_924 ?_
  obtain ⟨g12, hf⟩ := gif hf
  refine zsld hx hb hXs hbl hbA hS g12.1 g12.2 hL4 d_code_925 ?_
  obtain ⟨g14, hf⟩ := gif hf
  obtain ⟨r13, F13, B13, hc13, hf⟩ := gbL hf
  rw [← hxx]
  refine va_calli (va_runV (As := [.int (iI ((scz xs) (i + 1))), .int (iI ((scz xs) (i + 2))), .int (iI ((scz xs) (i + 3)))]) (rest := []) ⟨hx, hb, hml, hown, hts⟩ (c_S_sample (l := l) hc13) (cwV 3 hts (gdV k_9_30 k_9_31 k_9_32 k_1_1 k_9_33) rfl rfl rfl (by decide +kernel) ⟨Nat.le_of_ble_eq_true rfl, Nat.le_of_ble_eq_true rfl⟩) (zPV X1 hZ1 hS (ci := 12) g14.1 g14.2 (r := (RX12, TX12, 10)) rfl [.int (iI ((scz xs) (i + 1))), .int (iI ((scz xs) (i + 2))), .int (iI ((scz xs) (i + 3)))]) rfl rfl hl.1 rfl (lv_room (Nat.le_of_ble_eq_true rfl)) d_code_926 ⟨by have h := hrm.1; show _ ≤ 600000; omega, by have h := hrm.2; show _ ≤ 7302250; omega⟩) hS (fun z _ h => zAin X1 hS z h) (zAin X1 hS) (fun p13 u13 t13 H13 locs13 ht13 hv13 hw13 hB13 hz13 hk13 hS13 => ?_)
  subst hw13
  have hZa13 := zBack X1 ht13 hB13
  have hZb13 := zH.beside hZ2 hd hk13
  refine lv_pop hx hb d_code_929 rfl ?_
  refine lv_aload_n hx hb d_code_930 rfl (lv_at hl 1 rfl) ?_
  refine lv_aload_n hx hb d_code_931 rfl (lv_at hl 3 rfl) ?_
  refine lv_iload_n hx hb d_code_932 rfl (lv_at hl 0 rfl) ?_
  refine lv_iconst (v := iI 1) hx hb d_code_933 rfl ?_
  refine zadd hx hb d_code_934 ?_
  obtain ⟨g15, hf⟩ := gif hf
  refine zsld hx hb hXs hbl hbA hS13 g15.1 g15.2 hL4 d_code_935 ?_
  refine lv_aload_n hx hb d_code_936 rfl (lv_at hl 3 rfl) ?_
  refine lv_iload_n hx hb d_code_937 rfl (lv_at hl 0 rfl) ?_
  refine lv_iconst (v := iI 2) hx hb d_code_938 rfl ?_
  refine zadd hx hb d_code_939 ?_
  obtain ⟨g16, hf⟩ := gif hf
  refine zsld hx hb hXs hbl hbA hS13 g16.1 g16.2 hL4 d_code_940 ?_
  refine lv_aload_n hx hb d_code_941 rfl (lv_at hl 3 rfl) ?_
  refine lv_iload_n hx hb d_code_942 rfl (lv_at hl 0 rfl) ?_
  refine lv_iconst (v := iI 3) hx hb d_code_943 rfl ?_
  refine zadd hx hb d_code_944 ?_
  obtain ⟨g17, hf⟩ := gif hf
  refine zsld hx hb hXs hbl hbA hS13 g17.1 g17.2 hL4 d_code_945 ?_
  obtain ⟨r18, F18, B18, hc18, hf⟩ := gbL hf
  rw [← hmm]
  refine va_calli (va_runV (As := [.int (iI ((scz xs) (i + 1))), .int (iI ((scz xs) (i + 2))), .int (iI ((scz xs) (i + 3)))]) (rest := []) ⟨hx, hb, hml, hown, hts⟩ (c_M_sample (l := l) hc18) (cwV 3 hts (gdV k_14_8 k_14_9 k_14_10 k_1_9 k_14_11) rfl rfl rfl (by decide +kernel) ⟨Nat.le_of_ble_eq_true rfl, Nat.le_of_ble_eq_true rfl⟩) (zPV X2 hZb13 hS13 (ci := 14) (by decide) (by decide) (r := (RX14, TX14, 107)) rfl [.int (iI ((scz xs) (i + 1))), .int (iI ((scz xs) (i + 2))), .int (iI ((scz xs) (i + 3)))]) rfl rfl hl.1 rfl (lv_room (Nat.le_of_ble_eq_true rfl)) d_code_946 ⟨by have h := hrm.1; show _ ≤ 600000; omega, by have h := hrm.2; show _ ≤ 7302250; omega⟩) hS13 (fun z _ h => zAin X2 hS13 z h) (zAin X2 hS13) (fun p18 u18 t18 H18 locs18 ht18 hv18 hw18 hB18 hz18 hk18 hS18 => ?_)
  subst hw18
  have hZb18 := zBack X2 ht18 hB18
  have hZa18 := zH.beside hZa13 (fun z h1 h2 => hd z h2 h1) hk18
  refine lv_pop hx hb d_code_949 rfl ?_
  refine lv_goto (tgt := 1191) hx hb d_code_950 (by decide) ?_
  cases hf
  refine W.widen (k := cells + cwC K K) (n := slots + swC K K) (by omega) (by omega) ?_
  exact kk hG hZa18 hZb18 hd hS18 hxx hl
def ls_23 (Kr : Nat) (x : Int) (sc : Int → Int) (n i : Int) (K : zK) (F : zF) (B : zB) (Fm : zF) (Bm : zB) : zL := if 0 ≤ (i + 1) ∧ (i + 1) < n then if 0 ≤ (i + 2) ∧ (i + 2) < n then if 0 ≤ (i + 3) ∧ (i + 3) < n then if 0 ≤ x ∧ x < K.2 12 then zbM (f_S_moment K x (sc (i + 1)) (sc (i + 2)) (sc (i + 3)) F B) (fun r13 F13 B13 K13 => if 0 ≤ (i + 1) ∧ (i + 1) < n then if 0 ≤ (i + 2) ∧ (i + 2) < n then if 0 ≤ (i + 3) ∧ (i + 3) < n then zbL (f_M_moment_0 Kr (sc (i + 1)) (sc (i + 2)) (sc (i + 3)) Fm Bm) (fun r18 F18 B18 => some (K13, F13, B13, F18, B18)) else none else none else none) else none else none else none else none
set_option maxHeartbeats 4000000 in
set_option maxRecDepth 100000 in
theorem lc_23 {D : va_G} {ca : Nat → ClassId} {ad ad2 : Nat → Int → Nat → Nat} {L L2 : List Nat} {aS vS : Nat → Nat} {A : Nat → Prop} {p : Program} {l : Launch} {e : Env} {s : State} {m : MethodId} {below : List Frame} {meth : Method} {c : Code} {b n : Nat} {xs : Nat → Int32} {xx mm : Nat} {x i : Int} {Kr : Nat} {K K9 : zK} {F Fm F9 Fm9 : zF} {B Bm B9 Bm9 : zB} {H : Heap} {locs : List Loc} {cells slots : Nat} {Q : State → Prop} {ls : Array Slot}
    (X1 : zX D ca L aS vS A p s m #[Value.ref b] meth c code 4 ret "StaveHouseLaw") (X2 : zX D ca L2 aS vS A p s m #[Value.ref b] meth c code 4 ret "StaveHouseLaw") (hXs : va_X b n xs s s.heap) (hbl : b < s.heap.size) (hbA : ¬ A b) (hL4 : n ≤ 2147483647) (hf : ls_23 Kr x (scz xs) n i K F B Fm Bm = some (K9, F9, B9, Fm9, Bm9)) (hZ1 : zH D ca ad lnC K.2 L F B A H) (hZ2 : zH D ca ad2 lnM nM L2 Fm Bm A H) (hd : ∀ q ∈ L2, q ∉ L) (hS : va_S A s.heap H locs) (hxx : ad 12 x 0 = xx) (hmm : ad2 14 0 0 = mm) (hl : lv_has ls 4 [(3, .int (iI i)), (2, .ref mm), (1, .ref xx), (0, .ref b)]) (hrm : cells + cwC K K9 ≤ 600000 ∧ slots + swC K K9 ≤ 7302250)
    (kk : ∀ {ad' : Nat → Int → Nat → Nat} {L' : List Nat} {H' : Heap} {locs' : List Loc}, zG ad K.2 ad' K9.2 → zH D ca ad' lnC K9.2 L' F9 B9 A H' → zH D ca ad2 lnM nM L2 Fm9 Bm9 A H' → (∀ q ∈ L2, q ∉ L') → va_S A s.heap H' locs' → ad' 12 x 0 = xx → lv_has ls 4 [(3, .int (iI i)), (2, .ref mm), (1, .ref xx), (0, .ref b)] → W p l e room_1 s m #[Value.ref b] below meth c H' locs' (cells + cwC K K9) (slots + swC K K9) Q (F0 m 1191 ls [])) : W p l e room_1 s m #[Value.ref b] below meth c H locs cells slots Q (F0 m 953 ls []) := by
  obtain ⟨hx, hb, hr, hml, hown, hts, hlk, hK, hA, hL, hX⟩ := id X1
  have hG : zG ad K.2 ad K.2 := zG.rf
  replace hf : (if 0 ≤ (i + 1) ∧ (i + 1) < n then if 0 ≤ (i + 2) ∧ (i + 2) < n then if 0 ≤ (i + 3) ∧ (i + 3) < n then if 0 ≤ x ∧ x < K.2 12 then zbM (f_S_moment K x ((scz xs) (i + 1)) ((scz xs) (i + 2)) ((scz xs) (i + 3)) F B) (fun r13 F13 B13 K13 => if 0 ≤ (i + 1) ∧ (i + 1) < n then if 0 ≤ (i + 2) ∧ (i + 2) < n then if 0 ≤ (i + 3) ∧ (i + 3) < n then zbL (f_M_moment_0 Kr ((scz xs) (i + 1)) ((scz xs) (i + 2)) ((scz xs) (i + 3)) Fm Bm) (fun r18 F18 B18 => some (K13, F13, B13, F18, B18)) else none else none else none) else none else none else none else none) = some (K9, F9, B9, Fm9, Bm9) := hf
  refine lv_aload_n hx hb d_code_953 rfl (lv_at hl 2 rfl) ?_
  refine lv_aload_n hx hb d_code_954 rfl (lv_at hl 3 rfl) ?_
  refine lv_iload_n hx hb d_code_955 rfl (lv_at hl 0 rfl) ?_
  refine lv_iconst (v := iI 1) hx hb d_code_956 rfl ?_
  refine zadd hx hb d_code_957 ?_
  obtain ⟨g10, hf⟩ := gif hf
  refine zsld hx hb hXs hbl hbA hS g10.1 g10.2 hL4 d_code_958 ?_
  refine lv_aload_n hx hb d_code_959 rfl (lv_at hl 3 rfl) ?_
  refine lv_iload_n hx hb d_code_960 rfl (lv_at hl 0 rfl) ?_
  refine lv_iconst (v := iI 2) hx hb d_code_961 rfl ?_
  refine zadd hx hb d_code_962 ?_
  obtain ⟨g11, hf⟩ := gif hf
  refine zsld hx hb hXs hbl hbA hS g11.1 g11.2 hL4 d_code_963 ?_
  refine lv_aload_n hx hb d_code_964 rfl (lv_at hl 3 rfl) ?_
  refine lv_iload_n hx hb d_code_965 rfl (lv_at hl 0 rfl) ?_
  refine lv_iconst (v := iI 3) hx hb d_code_966 rfl ?_
  refine zadd hx hb d_code_967 ?_
  obtain ⟨g12, hf⟩ := gif hf
  refine zsld hx hb hXs hbl hbA hS g12.1 g12.2 hL4 d_code_968 ?_
  obtain ⟨g14, hf⟩ := gif hf
  obtain ⟨r13, F13, B13, K13, hc13, hf⟩ := gbM hf
  rw [← hxx]
  have hK13 : K9 = K13 := by
    have h := hf
    obtain ⟨-, h⟩ := gif h
    obtain ⟨-, h⟩ := gif h
    obtain ⟨-, h⟩ := gif h
    obtain ⟨_, _, _, _, h⟩ := gbL h
    cases h
    rfl
  have hrm13 : cells + cwC K K13 ≤ 600000 ∧ slots + swC K K13 ≤ 7302250 := by rw [← hK13]; exact hrm
  refine va_calll (va_runV (As := [.int (iI ((scz xs) (i + 1))), .int (iI ((scz xs) (i + 2))), .int (iI ((scz xs) (i + 3)))]) (rest := []) ⟨hx, hb, hml, hown, hts⟩ (c_S_moment (l := l) hc13) (cwV 3 hts (gdV k_9_34 k_9_35 k_9_36 k_1_1 k_9_37) rfl rfl rfl (by decide +kernel) ⟨Nat.le_of_ble_eq_true rfl, Nat.le_of_ble_eq_true rfl⟩) (zPV X1 hZ1 hS (ci := 12) g14.1 g14.2 (r := (RX12, TX12, 10)) rfl [.int (iI ((scz xs) (i + 1))), .int (iI ((scz xs) (i + 2))), .int (iI ((scz xs) (i + 3)))]) rfl rfl hl.1 rfl (lv_room (Nat.le_of_ble_eq_true rfl)) d_code_969 ⟨by have h := hrm13.1; show _ ≤ 600000; omega, by have h := hrm13.2; show _ ≤ 7302250; omega⟩) hS (fun z _ h => zAin X1 hS z h) (zAin X1 hS) (fun p13 u13 t13 H13 locs13 ht13 hv13 hw13 hB13 hz13 hk13 hS13 => ?_)
  obtain ⟨ad13, L13⟩ := u13
  obtain ⟨hw13, hg13⟩ := hw13
  subst hw13
  have hZa13 := zBackM X1 hS ht13 hB13
  have hd13 := zd_grow hZ2 hd hB13
  have X13 := X1.grow hZa13.inA
  have hxx13 : ad13 12 x 0 = xx := (hg13.2 12 x 0 g14.1 g14.2).trans hxx
  have hG13 := hG.tr hg13
  have hZb13 := zH.beside hZ2 hd hk13
  refine lv_pop2_2 hx hb d_code_972 rfl ?_
  refine lv_aload_n hx hb d_code_973 rfl (lv_at hl 1 rfl) ?_
  refine lv_aload_n hx hb d_code_974 rfl (lv_at hl 3 rfl) ?_
  refine lv_iload_n hx hb d_code_975 rfl (lv_at hl 0 rfl) ?_
  refine lv_iconst (v := iI 1) hx hb d_code_976 rfl ?_
  refine zadd hx hb d_code_977 ?_
  obtain ⟨g15, hf⟩ := gif hf
  refine zsld hx hb hXs hbl hbA hS13 g15.1 g15.2 hL4 d_code_978 ?_
  refine lv_aload_n hx hb d_code_979 rfl (lv_at hl 3 rfl) ?_
  refine lv_iload_n hx hb d_code_980 rfl (lv_at hl 0 rfl) ?_
  refine lv_iconst (v := iI 2) hx hb d_code_981 rfl ?_
  refine zadd hx hb d_code_982 ?_
  obtain ⟨g16, hf⟩ := gif hf
  refine zsld hx hb hXs hbl hbA hS13 g16.1 g16.2 hL4 d_code_983 ?_
  refine lv_aload_n hx hb d_code_984 rfl (lv_at hl 3 rfl) ?_
  refine lv_iload_n hx hb d_code_985 rfl (lv_at hl 0 rfl) ?_
  refine lv_iconst (v := iI 3) hx hb d_code_986 rfl ?_
  refine zadd hx hb d_code_987 ?_
  obtain ⟨g17, hf⟩ := gif hf
  refine zsld hx hb hXs hbl hbA hS13 g17.1 g17.2 hL4 d_code_988 ?_
  obtain ⟨r18, F18, B18, hc18, hf⟩ := gbL hf
  rw [← hmm]
  refine va_calll (va_runV (As := [.int (iI ((scz xs) (i + 1))), .int (iI ((scz xs) (i + 2))), .int (iI ((scz xs) (i + 3)))]) (rest := []) ⟨hx, hb, hml, hown, hts⟩ (c_M_moment_0 (l := l) hc18) (cwV 3 hts (gdV k_14_12 k_14_13 k_14_14 k_1_9 k_14_15) rfl rfl rfl (by decide +kernel) ⟨Nat.le_of_ble_eq_true rfl, Nat.le_of_ble_eq_true rfl⟩) (zPV X2 hZb13 hS13 (ci := 14) (by decide) (by decide) (r := (RX14, TX14, 107)) rfl [.int (iI ((scz xs) (i + 1))), .int (iI ((scz xs) (i + 2))), .int (iI ((scz xs) (i + 3)))]) rfl rfl hl.1 rfl (lv_room (Nat.le_of_ble_eq_true rfl)) d_code_989 ⟨by have h := hrm13.1; show _ ≤ 600000; omega, by have h := hrm13.2; show _ ≤ 7302250; omega⟩) hS13 (fun z _ h => zAin X2 hS13 z h) (zAin X2 hS13) (fun p18 u18 t18 H18 locs18 ht18 hv18 hw18 hB18 hz18 hk18 hS18 => ?_)
  subst hw18
  have hZb18 := zBack X2 ht18 hB18
  have hZa18 := zH.beside hZa13 (fun z h1 h2 => hd13 z h2 h1) hk18
  refine lv_pop2_2 hx hb d_code_992 rfl ?_
  refine lv_goto (tgt := 1191) hx hb d_code_993 (by decide) ?_
  cases hf
  refine W.widen (k := cells + cwC K K9) (n := slots + swC K K9) (by omega) (by omega) ?_
  exact kk hG13 hZa18 hZb18 hd13 hS18 hxx13 hl
def ls_24 (Kr : Nat) (x : Int) (sc : Int → Int) (n i : Int) (K : zK) (F : zF) (B : zB) (Fm : zF) (Bm : zB) : zL := if 0 ≤ (i + 1) ∧ (i + 1) < n then if 0 ≤ (i + 2) ∧ (i + 2) < n then if 0 ≤ (i + 3) ∧ (i + 3) < n then if 0 ≤ x ∧ x < K.2 12 then zbM (f_S_fault K x (sc (i + 1)) (sc (i + 2)) (sc (i + 3)) F B) (fun r13 F13 B13 K13 => if 0 ≤ (i + 1) ∧ (i + 1) < n then if 0 ≤ (i + 2) ∧ (i + 2) < n then if 0 ≤ (i + 3) ∧ (i + 3) < n then zbL (f_M_fault_0 Kr (sc (i + 1)) (sc (i + 2)) (sc (i + 3)) Fm Bm) (fun r18 F18 B18 => some (K13, F13, B13, F18, B18)) else none else none else none) else none else none else none else none
set_option maxHeartbeats 4000000 in
set_option maxRecDepth 100000 in
theorem lc_24 {D : va_G} {ca : Nat → ClassId} {ad ad2 : Nat → Int → Nat → Nat} {L L2 : List Nat} {aS vS : Nat → Nat} {A : Nat → Prop} {p : Program} {l : Launch} {e : Env} {s : State} {m : MethodId} {below : List Frame} {meth : Method} {c : Code} {b n : Nat} {xs : Nat → Int32} {xx mm : Nat} {x i : Int} {Kr : Nat} {K K9 : zK} {F Fm F9 Fm9 : zF} {B Bm B9 Bm9 : zB} {H : Heap} {locs : List Loc} {cells slots : Nat} {Q : State → Prop} {ls : Array Slot}
    (X1 : zX D ca L aS vS A p s m #[Value.ref b] meth c code 4 ret "StaveHouseLaw") (X2 : zX D ca L2 aS vS A p s m #[Value.ref b] meth c code 4 ret "StaveHouseLaw") (hXs : va_X b n xs s s.heap) (hbl : b < s.heap.size) (hbA : ¬ A b) (hL4 : n ≤ 2147483647) (hf : ls_24 Kr x (scz xs) n i K F B Fm Bm = some (K9, F9, B9, Fm9, Bm9)) (hZ1 : zH D ca ad lnC K.2 L F B A H) (hZ2 : zH D ca ad2 lnM nM L2 Fm Bm A H) (hd : ∀ q ∈ L2, q ∉ L) (hS : va_S A s.heap H locs) (hxx : ad 12 x 0 = xx) (hmm : ad2 14 0 0 = mm) (hl : lv_has ls 4 [(3, .int (iI i)), (2, .ref mm), (1, .ref xx), (0, .ref b)]) (hrm : cells + cwC K K9 ≤ 600000 ∧ slots + swC K K9 ≤ 7302250)
    (kk : ∀ {ad' : Nat → Int → Nat → Nat} {L' : List Nat} {H' : Heap} {locs' : List Loc}, zG ad K.2 ad' K9.2 → zH D ca ad' lnC K9.2 L' F9 B9 A H' → zH D ca ad2 lnM nM L2 Fm9 Bm9 A H' → (∀ q ∈ L2, q ∉ L') → va_S A s.heap H' locs' → ad' 12 x 0 = xx → lv_has ls 4 [(3, .int (iI i)), (2, .ref mm), (1, .ref xx), (0, .ref b)] → W p l e room_1 s m #[Value.ref b] below meth c H' locs' (cells + cwC K K9) (slots + swC K K9) Q (F0 m 1191 ls [])) : W p l e room_1 s m #[Value.ref b] below meth c H locs cells slots Q (F0 m 996 ls []) := by
  obtain ⟨hx, hb, hr, hml, hown, hts, hlk, hK, hA, hL, hX⟩ := id X1
  have hG : zG ad K.2 ad K.2 := zG.rf
  replace hf : (if 0 ≤ (i + 1) ∧ (i + 1) < n then if 0 ≤ (i + 2) ∧ (i + 2) < n then if 0 ≤ (i + 3) ∧ (i + 3) < n then if 0 ≤ x ∧ x < K.2 12 then zbM (f_S_fault K x ((scz xs) (i + 1)) ((scz xs) (i + 2)) ((scz xs) (i + 3)) F B) (fun r13 F13 B13 K13 => if 0 ≤ (i + 1) ∧ (i + 1) < n then if 0 ≤ (i + 2) ∧ (i + 2) < n then if 0 ≤ (i + 3) ∧ (i + 3) < n then zbL (f_M_fault_0 Kr ((scz xs) (i + 1)) ((scz xs) (i + 2)) ((scz xs) (i + 3)) Fm Bm) (fun r18 F18 B18 => some (K13, F13, B13, F18, B18)) else none else none else none) else none else none else none else none) = some (K9, F9, B9, Fm9, Bm9) := hf
  refine lv_aload_n hx hb d_code_996 rfl (lv_at hl 2 rfl) ?_
  refine lv_aload_n hx hb d_code_997 rfl (lv_at hl 3 rfl) ?_
  refine lv_iload_n hx hb d_code_998 rfl (lv_at hl 0 rfl) ?_
  refine lv_iconst (v := iI 1) hx hb d_code_999 rfl ?_
  refine zadd hx hb d_code_1000 ?_
  obtain ⟨g10, hf⟩ := gif hf
  refine zsld hx hb hXs hbl hbA hS g10.1 g10.2 hL4 d_code_1001 ?_
  refine lv_aload_n hx hb d_code_1002 rfl (lv_at hl 3 rfl) ?_
  refine lv_iload_n hx hb d_code_1003 rfl (lv_at hl 0 rfl) ?_
  refine lv_iconst (v := iI 2) hx hb d_code_1004 rfl ?_
  refine zadd hx hb d_code_1005 ?_
  obtain ⟨g11, hf⟩ := gif hf
  refine zsld hx hb hXs hbl hbA hS g11.1 g11.2 hL4 d_code_1006 ?_
  refine lv_aload_n hx hb d_code_1007 rfl (lv_at hl 3 rfl) ?_
  refine lv_iload_n hx hb d_code_1008 rfl (lv_at hl 0 rfl) ?_
  refine lv_iconst (v := iI 3) hx hb d_code_1009 rfl ?_
  refine zadd hx hb d_code_1010 ?_
  obtain ⟨g12, hf⟩ := gif hf
  refine zsld hx hb hXs hbl hbA hS g12.1 g12.2 hL4 d_code_1011 ?_
  obtain ⟨g14, hf⟩ := gif hf
  obtain ⟨r13, F13, B13, K13, hc13, hf⟩ := gbM hf
  rw [← hxx]
  have hK13 : K9 = K13 := by
    have h := hf
    obtain ⟨-, h⟩ := gif h
    obtain ⟨-, h⟩ := gif h
    obtain ⟨-, h⟩ := gif h
    obtain ⟨_, _, _, _, h⟩ := gbL h
    cases h
    rfl
  have hrm13 : cells + cwC K K13 ≤ 600000 ∧ slots + swC K K13 ≤ 7302250 := by rw [← hK13]; exact hrm
  refine va_calli (va_runV (As := [.int (iI ((scz xs) (i + 1))), .int (iI ((scz xs) (i + 2))), .int (iI ((scz xs) (i + 3)))]) (rest := []) ⟨hx, hb, hml, hown, hts⟩ (c_S_fault (l := l) hc13) (cwV 3 hts (gdV k_9_77 k_9_78 k_9_79 k_1_1 k_9_80) rfl rfl rfl (by decide +kernel) ⟨Nat.le_of_ble_eq_true rfl, Nat.le_of_ble_eq_true rfl⟩) (zPV X1 hZ1 hS (ci := 12) g14.1 g14.2 (r := (RX12, TX12, 10)) rfl [.int (iI ((scz xs) (i + 1))), .int (iI ((scz xs) (i + 2))), .int (iI ((scz xs) (i + 3)))]) rfl rfl hl.1 rfl (lv_room (Nat.le_of_ble_eq_true rfl)) d_code_1012 ⟨by have h := hrm13.1; show _ ≤ 600000; omega, by have h := hrm13.2; show _ ≤ 7302250; omega⟩) hS (fun z _ h => zAin X1 hS z h) (zAin X1 hS) (fun p13 u13 t13 H13 locs13 ht13 hv13 hw13 hB13 hz13 hk13 hS13 => ?_)
  obtain ⟨ad13, L13⟩ := u13
  obtain ⟨hw13, hg13⟩ := hw13
  subst hw13
  have hZa13 := zBackM X1 hS ht13 hB13
  have hd13 := zd_grow hZ2 hd hB13
  have X13 := X1.grow hZa13.inA
  have hxx13 : ad13 12 x 0 = xx := (hg13.2 12 x 0 g14.1 g14.2).trans hxx
  have hG13 := hG.tr hg13
  have hZb13 := zH.beside hZ2 hd hk13
  refine lv_pop hx hb d_code_1015 rfl ?_
  refine lv_aload_n hx hb d_code_1016 rfl (lv_at hl 1 rfl) ?_
  refine lv_aload_n hx hb d_code_1017 rfl (lv_at hl 3 rfl) ?_
  refine lv_iload_n hx hb d_code_1018 rfl (lv_at hl 0 rfl) ?_
  refine lv_iconst (v := iI 1) hx hb d_code_1019 rfl ?_
  refine zadd hx hb d_code_1020 ?_
  obtain ⟨g15, hf⟩ := gif hf
  refine zsld hx hb hXs hbl hbA hS13 g15.1 g15.2 hL4 d_code_1021 ?_
  refine lv_aload_n hx hb d_code_1022 rfl (lv_at hl 3 rfl) ?_
  refine lv_iload_n hx hb d_code_1023 rfl (lv_at hl 0 rfl) ?_
  refine lv_iconst (v := iI 2) hx hb d_code_1024 rfl ?_
  refine zadd hx hb d_code_1025 ?_
  obtain ⟨g16, hf⟩ := gif hf
  refine zsld hx hb hXs hbl hbA hS13 g16.1 g16.2 hL4 d_code_1026 ?_
  refine lv_aload_n hx hb d_code_1027 rfl (lv_at hl 3 rfl) ?_
  refine lv_iload_n hx hb d_code_1028 rfl (lv_at hl 0 rfl) ?_
  refine lv_iconst (v := iI 3) hx hb d_code_1029 rfl ?_
  refine zadd hx hb d_code_1030 ?_
  obtain ⟨g17, hf⟩ := gif hf
  refine zsld hx hb hXs hbl hbA hS13 g17.1 g17.2 hL4 d_code_1031 ?_
  obtain ⟨r18, F18, B18, hc18, hf⟩ := gbL hf
  rw [← hmm]
  refine va_calli (va_runV (As := [.int (iI ((scz xs) (i + 1))), .int (iI ((scz xs) (i + 2))), .int (iI ((scz xs) (i + 3)))]) (rest := []) ⟨hx, hb, hml, hown, hts⟩ (c_M_fault_0 (l := l) hc18) (cwV 3 hts (gdV k_14_50 k_14_51 k_14_52 k_1_9 k_14_53) rfl rfl rfl (by decide +kernel) ⟨Nat.le_of_ble_eq_true rfl, Nat.le_of_ble_eq_true rfl⟩) (zPV X2 hZb13 hS13 (ci := 14) (by decide) (by decide) (r := (RX14, TX14, 107)) rfl [.int (iI ((scz xs) (i + 1))), .int (iI ((scz xs) (i + 2))), .int (iI ((scz xs) (i + 3)))]) rfl rfl hl.1 rfl (lv_room (Nat.le_of_ble_eq_true rfl)) d_code_1032 ⟨by have h := hrm13.1; show _ ≤ 600000; omega, by have h := hrm13.2; show _ ≤ 7302250; omega⟩) hS13 (fun z _ h => zAin X2 hS13 z h) (zAin X2 hS13) (fun p18 u18 t18 H18 locs18 ht18 hv18 hw18 hB18 hz18 hk18 hS18 => ?_)
  subst hw18
  have hZb18 := zBack X2 ht18 hB18
  have hZa18 := zH.beside hZa13 (fun z h1 h2 => hd13 z h2 h1) hk18
  refine lv_pop hx hb d_code_1035 rfl ?_
  refine lv_goto (tgt := 1191) hx hb d_code_1036 (by decide) ?_
  cases hf
  refine W.widen (k := cells + cwC K K9) (n := slots + swC K K9) (by omega) (by omega) ?_
  exact kk hG13 hZa18 hZb18 hd13 hS18 hxx13 hl
def ls_25 (Kr : Nat) (x : Int) (sc : Int → Int) (n i : Int) (K : zK) (F : zF) (B : zB) (Fm : zF) (Bm : zB) : zL := if 0 ≤ (i + 1) ∧ (i + 1) < n then if 0 ≤ (i + 2) ∧ (i + 2) < n then if 0 ≤ (i + 3) ∧ (i + 3) < n then if 0 ≤ (i + 4) ∧ (i + 4) < n then if 0 ≤ x ∧ x < K.2 12 then zbL (f_S_follows K x (sc (i + 1)) (sc (i + 2)) (sc (i + 3)) (sc (i + 4)) F B) (fun r14 F14 B14 => if 0 ≤ (i + 1) ∧ (i + 1) < n then if 0 ≤ (i + 2) ∧ (i + 2) < n then if 0 ≤ (i + 3) ∧ (i + 3) < n then if 0 ≤ (i + 4) ∧ (i + 4) < n then zbL (f_M_follows Kr (sc (i + 1)) (sc (i + 2)) (sc (i + 3)) (sc (i + 4)) Fm Bm) (fun r20 F20 B20 => some (K, F14, B14, F20, B20)) else none else none else none else none) else none else none else none else none else none
set_option maxHeartbeats 4000000 in
set_option maxRecDepth 100000 in
theorem lc_25 {D : va_G} {ca : Nat → ClassId} {ad ad2 : Nat → Int → Nat → Nat} {L L2 : List Nat} {aS vS : Nat → Nat} {A : Nat → Prop} {p : Program} {l : Launch} {e : Env} {s : State} {m : MethodId} {below : List Frame} {meth : Method} {c : Code} {b n : Nat} {xs : Nat → Int32} {xx mm : Nat} {x i : Int} {Kr : Nat} {K K9 : zK} {F Fm F9 Fm9 : zF} {B Bm B9 Bm9 : zB} {H : Heap} {locs : List Loc} {cells slots : Nat} {Q : State → Prop} {ls : Array Slot}
    (X1 : zX D ca L aS vS A p s m #[Value.ref b] meth c code 4 ret "StaveHouseLaw") (X2 : zX D ca L2 aS vS A p s m #[Value.ref b] meth c code 4 ret "StaveHouseLaw") (hXs : va_X b n xs s s.heap) (hbl : b < s.heap.size) (hbA : ¬ A b) (hL4 : n ≤ 2147483647) (hf : ls_25 Kr x (scz xs) n i K F B Fm Bm = some (K9, F9, B9, Fm9, Bm9)) (hZ1 : zH D ca ad lnC K.2 L F B A H) (hZ2 : zH D ca ad2 lnM nM L2 Fm Bm A H) (hd : ∀ q ∈ L2, q ∉ L) (hS : va_S A s.heap H locs) (hxx : ad 12 x 0 = xx) (hmm : ad2 14 0 0 = mm) (hl : lv_has ls 4 [(3, .int (iI i)), (2, .ref mm), (1, .ref xx), (0, .ref b)]) (hrm : cells + cwC K K9 ≤ 600000 ∧ slots + swC K K9 ≤ 7302250)
    (kk : ∀ {ad' : Nat → Int → Nat → Nat} {L' : List Nat} {H' : Heap} {locs' : List Loc}, zG ad K.2 ad' K9.2 → zH D ca ad' lnC K9.2 L' F9 B9 A H' → zH D ca ad2 lnM nM L2 Fm9 Bm9 A H' → (∀ q ∈ L2, q ∉ L') → va_S A s.heap H' locs' → ad' 12 x 0 = xx → lv_has ls 4 [(3, .int (iI i)), (2, .ref mm), (1, .ref xx), (0, .ref b)] → W p l e room_1 s m #[Value.ref b] below meth c H' locs' (cells + cwC K K9) (slots + swC K K9) Q (F0 m 1191 ls [])) : W p l e room_1 s m #[Value.ref b] below meth c H locs cells slots Q (F0 m 1039 ls []) := by
  obtain ⟨hx, hb, hr, hml, hown, hts, hlk, hK, hA, hL, hX⟩ := id X1
  have hG : zG ad K.2 ad K.2 := zG.rf
  replace hf : (if 0 ≤ (i + 1) ∧ (i + 1) < n then if 0 ≤ (i + 2) ∧ (i + 2) < n then if 0 ≤ (i + 3) ∧ (i + 3) < n then if 0 ≤ (i + 4) ∧ (i + 4) < n then if 0 ≤ x ∧ x < K.2 12 then zbL (f_S_follows K x ((scz xs) (i + 1)) ((scz xs) (i + 2)) ((scz xs) (i + 3)) ((scz xs) (i + 4)) F B) (fun r14 F14 B14 => if 0 ≤ (i + 1) ∧ (i + 1) < n then if 0 ≤ (i + 2) ∧ (i + 2) < n then if 0 ≤ (i + 3) ∧ (i + 3) < n then if 0 ≤ (i + 4) ∧ (i + 4) < n then zbL (f_M_follows Kr ((scz xs) (i + 1)) ((scz xs) (i + 2)) ((scz xs) (i + 3)) ((scz xs) (i + 4)) Fm Bm) (fun r20 F20 B20 => some (K, F14, B14, F20, B20)) else none else none else none else none) else none else none else none else none else none) = some (K9, F9, B9, Fm9, Bm9) := hf
  refine lv_aload_n hx hb d_code_1039 rfl (lv_at hl 2 rfl) ?_
  refine lv_aload_n hx hb d_code_1040 rfl (lv_at hl 3 rfl) ?_
  refine lv_iload_n hx hb d_code_1041 rfl (lv_at hl 0 rfl) ?_
  refine lv_iconst (v := iI 1) hx hb d_code_1042 rfl ?_
  refine zadd hx hb d_code_1043 ?_
  obtain ⟨g10, hf⟩ := gif hf
  refine zsld hx hb hXs hbl hbA hS g10.1 g10.2 hL4 d_code_1044 ?_
  refine lv_aload_n hx hb d_code_1045 rfl (lv_at hl 3 rfl) ?_
  refine lv_iload_n hx hb d_code_1046 rfl (lv_at hl 0 rfl) ?_
  refine lv_iconst (v := iI 2) hx hb d_code_1047 rfl ?_
  refine zadd hx hb d_code_1048 ?_
  obtain ⟨g11, hf⟩ := gif hf
  refine zsld hx hb hXs hbl hbA hS g11.1 g11.2 hL4 d_code_1049 ?_
  refine lv_aload_n hx hb d_code_1050 rfl (lv_at hl 3 rfl) ?_
  refine lv_iload_n hx hb d_code_1051 rfl (lv_at hl 0 rfl) ?_
  refine lv_iconst (v := iI 3) hx hb d_code_1052 rfl ?_
  refine zadd hx hb d_code_1053 ?_
  obtain ⟨g12, hf⟩ := gif hf
  refine zsld hx hb hXs hbl hbA hS g12.1 g12.2 hL4 d_code_1054 ?_
  refine lv_aload_n hx hb d_code_1055 rfl (lv_at hl 3 rfl) ?_
  refine lv_iload_n hx hb d_code_1056 rfl (lv_at hl 0 rfl) ?_
  refine lv_iconst (v := iI 4) hx hb d_code_1057 rfl ?_
  refine zadd hx hb d_code_1058 ?_
  obtain ⟨g13, hf⟩ := gif hf
  refine zsld hx hb hXs hbl hbA hS g13.1 g13.2 hL4 d_code_1059 ?_
  obtain ⟨g15, hf⟩ := gif hf
  obtain ⟨r14, F14, B14, hc14, hf⟩ := gbL hf
  rw [← hxx]
  refine va_calll (va_runV (As := [.int (iI ((scz xs) (i + 1))), .int (iI ((scz xs) (i + 2))), .int (iI ((scz xs) (i + 3))), .int (iI ((scz xs) (i + 4)))]) (rest := []) ⟨hx, hb, hml, hown, hts⟩ (c_S_follows (l := l) hc14) (cwV 4 hts (gdV k_9_81 k_9_82 k_9_83 k_1_1 k_9_84) rfl rfl rfl (by decide +kernel) ⟨Nat.le_of_ble_eq_true rfl, Nat.le_of_ble_eq_true rfl⟩) (zPV X1 hZ1 hS (ci := 12) g15.1 g15.2 (r := (RX12, TX12, 10)) rfl [.int (iI ((scz xs) (i + 1))), .int (iI ((scz xs) (i + 2))), .int (iI ((scz xs) (i + 3))), .int (iI ((scz xs) (i + 4)))]) rfl rfl hl.1 rfl (lv_room (Nat.le_of_ble_eq_true rfl)) d_code_1060 ⟨by have h := hrm.1; show _ ≤ 600000; omega, by have h := hrm.2; show _ ≤ 7302250; omega⟩) hS (fun z _ h => zAin X1 hS z h) (zAin X1 hS) (fun p14 u14 t14 H14 locs14 ht14 hv14 hw14 hB14 hz14 hk14 hS14 => ?_)
  subst hw14
  have hZa14 := zBack X1 ht14 hB14
  have hZb14 := zH.beside hZ2 hd hk14
  refine lv_pop2_2 hx hb d_code_1063 rfl ?_
  refine lv_aload_n hx hb d_code_1064 rfl (lv_at hl 1 rfl) ?_
  refine lv_aload_n hx hb d_code_1065 rfl (lv_at hl 3 rfl) ?_
  refine lv_iload_n hx hb d_code_1066 rfl (lv_at hl 0 rfl) ?_
  refine lv_iconst (v := iI 1) hx hb d_code_1067 rfl ?_
  refine zadd hx hb d_code_1068 ?_
  obtain ⟨g16, hf⟩ := gif hf
  refine zsld hx hb hXs hbl hbA hS14 g16.1 g16.2 hL4 d_code_1069 ?_
  refine lv_aload_n hx hb d_code_1070 rfl (lv_at hl 3 rfl) ?_
  refine lv_iload_n hx hb d_code_1071 rfl (lv_at hl 0 rfl) ?_
  refine lv_iconst (v := iI 2) hx hb d_code_1072 rfl ?_
  refine zadd hx hb d_code_1073 ?_
  obtain ⟨g17, hf⟩ := gif hf
  refine zsld hx hb hXs hbl hbA hS14 g17.1 g17.2 hL4 d_code_1074 ?_
  refine lv_aload_n hx hb d_code_1075 rfl (lv_at hl 3 rfl) ?_
  refine lv_iload_n hx hb d_code_1076 rfl (lv_at hl 0 rfl) ?_
  refine lv_iconst (v := iI 3) hx hb d_code_1077 rfl ?_
  refine zadd hx hb d_code_1078 ?_
  obtain ⟨g18, hf⟩ := gif hf
  refine zsld hx hb hXs hbl hbA hS14 g18.1 g18.2 hL4 d_code_1079 ?_
  refine lv_aload_n hx hb d_code_1080 rfl (lv_at hl 3 rfl) ?_
  refine lv_iload_n hx hb d_code_1081 rfl (lv_at hl 0 rfl) ?_
  refine lv_iconst (v := iI 4) hx hb d_code_1082 rfl ?_
  refine zadd hx hb d_code_1083 ?_
  obtain ⟨g19, hf⟩ := gif hf
  refine zsld hx hb hXs hbl hbA hS14 g19.1 g19.2 hL4 d_code_1084 ?_
  obtain ⟨r20, F20, B20, hc20, hf⟩ := gbL hf
  rw [← hmm]
  refine va_calll (va_runV (As := [.int (iI ((scz xs) (i + 1))), .int (iI ((scz xs) (i + 2))), .int (iI ((scz xs) (i + 3))), .int (iI ((scz xs) (i + 4)))]) (rest := []) ⟨hx, hb, hml, hown, hts⟩ (c_M_follows (l := l) hc20) (cwV 4 hts (gdV k_14_54 k_14_55 k_14_56 k_1_9 k_14_57) rfl rfl rfl (by decide +kernel) ⟨Nat.le_of_ble_eq_true rfl, Nat.le_of_ble_eq_true rfl⟩) (zPV X2 hZb14 hS14 (ci := 14) (by decide) (by decide) (r := (RX14, TX14, 107)) rfl [.int (iI ((scz xs) (i + 1))), .int (iI ((scz xs) (i + 2))), .int (iI ((scz xs) (i + 3))), .int (iI ((scz xs) (i + 4)))]) rfl rfl hl.1 rfl (lv_room (Nat.le_of_ble_eq_true rfl)) d_code_1085 ⟨by have h := hrm.1; show _ ≤ 600000; omega, by have h := hrm.2; show _ ≤ 7302250; omega⟩) hS14 (fun z _ h => zAin X2 hS14 z h) (zAin X2 hS14) (fun p20 u20 t20 H20 locs20 ht20 hv20 hw20 hB20 hz20 hk20 hS20 => ?_)
  subst hw20
  have hZb20 := zBack X2 ht20 hB20
  have hZa20 := zH.beside hZa14 (fun z h1 h2 => hd z h2 h1) hk20
  refine lv_pop2_2 hx hb d_code_1088 rfl ?_
  refine lv_goto (tgt := 1191) hx hb d_code_1089 (by decide) ?_
  cases hf
  refine W.widen (k := cells + cwC K K) (n := slots + swC K K) (by omega) (by omega) ?_
  exact kk hG hZa20 hZb20 hd hS20 hxx hl
def ls_26 (Kr : Nat) (x : Int) (sc : Int → Int) (n i : Int) (K : zK) (F : zF) (B : zB) (Fm : zF) (Bm : zB) : zL := if 0 ≤ (i + 1) ∧ (i + 1) < n then if 0 ≤ (i + 2) ∧ (i + 2) < n then if 0 ≤ (i + 3) ∧ (i + 3) < n then if 0 ≤ (i + 4) ∧ (i + 4) < n then if 0 ≤ (i + 5) ∧ (i + 5) < n then if 0 ≤ (i + 6) ∧ (i + 6) < n then if 0 ≤ (i + 7) ∧ (i + 7) < n then if 0 ≤ (i + 8) ∧ (i + 8) < n then if 0 ≤ x ∧ x < K.2 12 then zbL (f_S_shape K x (sc (i + 1)) (sc (i + 2)) (sc (i + 3)) (sc (i + 4)) (sc (i + 5)) (sc (i + 6)) (sc (i + 7)) (sc (i + 8)) F B) (fun r18 F18 B18 => if 0 ≤ (i + 1) ∧ (i + 1) < n then if 0 ≤ (i + 2) ∧ (i + 2) < n then if 0 ≤ (i + 3) ∧ (i + 3) < n then if 0 ≤ (i + 4) ∧ (i + 4) < n then if 0 ≤ (i + 5) ∧ (i + 5) < n then if 0 ≤ (i + 6) ∧ (i + 6) < n then if 0 ≤ (i + 7) ∧ (i + 7) < n then if 0 ≤ (i + 8) ∧ (i + 8) < n then zbL (f_M_shape Kr (sc (i + 1)) (sc (i + 2)) (sc (i + 3)) (sc (i + 4)) (sc (i + 5)) (sc (i + 6)) (sc (i + 7)) (sc (i + 8)) Fm Bm) (fun r28 F28 B28 => some (K, F18, B18, F28, B28)) else none else none else none else none else none else none else none else none) else none else none else none else none else none else none else none else none else none
set_option maxHeartbeats 4000000 in
set_option maxRecDepth 100000 in
theorem lc_26 {D : va_G} {ca : Nat → ClassId} {ad ad2 : Nat → Int → Nat → Nat} {L L2 : List Nat} {aS vS : Nat → Nat} {A : Nat → Prop} {p : Program} {l : Launch} {e : Env} {s : State} {m : MethodId} {below : List Frame} {meth : Method} {c : Code} {b n : Nat} {xs : Nat → Int32} {xx mm : Nat} {x i : Int} {Kr : Nat} {K K9 : zK} {F Fm F9 Fm9 : zF} {B Bm B9 Bm9 : zB} {H : Heap} {locs : List Loc} {cells slots : Nat} {Q : State → Prop} {ls : Array Slot}
    (X1 : zX D ca L aS vS A p s m #[Value.ref b] meth c code 4 ret "StaveHouseLaw") (X2 : zX D ca L2 aS vS A p s m #[Value.ref b] meth c code 4 ret "StaveHouseLaw") (hXs : va_X b n xs s s.heap) (hbl : b < s.heap.size) (hbA : ¬ A b) (hL4 : n ≤ 2147483647) (hf : ls_26 Kr x (scz xs) n i K F B Fm Bm = some (K9, F9, B9, Fm9, Bm9)) (hZ1 : zH D ca ad lnC K.2 L F B A H) (hZ2 : zH D ca ad2 lnM nM L2 Fm Bm A H) (hd : ∀ q ∈ L2, q ∉ L) (hS : va_S A s.heap H locs) (hxx : ad 12 x 0 = xx) (hmm : ad2 14 0 0 = mm) (hl : lv_has ls 4 [(3, .int (iI i)), (2, .ref mm), (1, .ref xx), (0, .ref b)]) (hrm : cells + cwC K K9 ≤ 600000 ∧ slots + swC K K9 ≤ 7302250)
    (kk : ∀ {ad' : Nat → Int → Nat → Nat} {L' : List Nat} {H' : Heap} {locs' : List Loc}, zG ad K.2 ad' K9.2 → zH D ca ad' lnC K9.2 L' F9 B9 A H' → zH D ca ad2 lnM nM L2 Fm9 Bm9 A H' → (∀ q ∈ L2, q ∉ L') → va_S A s.heap H' locs' → ad' 12 x 0 = xx → lv_has ls 4 [(3, .int (iI i)), (2, .ref mm), (1, .ref xx), (0, .ref b)] → W p l e room_1 s m #[Value.ref b] below meth c H' locs' (cells + cwC K K9) (slots + swC K K9) Q (F0 m 1191 ls [])) : W p l e room_1 s m #[Value.ref b] below meth c H locs cells slots Q (F0 m 1092 ls []) := by
  obtain ⟨hx, hb, hr, hml, hown, hts, hlk, hK, hA, hL, hX⟩ := id X1
  have hG : zG ad K.2 ad K.2 := zG.rf
  replace hf : (if 0 ≤ (i + 1) ∧ (i + 1) < n then if 0 ≤ (i + 2) ∧ (i + 2) < n then if 0 ≤ (i + 3) ∧ (i + 3) < n then if 0 ≤ (i + 4) ∧ (i + 4) < n then if 0 ≤ (i + 5) ∧ (i + 5) < n then if 0 ≤ (i + 6) ∧ (i + 6) < n then if 0 ≤ (i + 7) ∧ (i + 7) < n then if 0 ≤ (i + 8) ∧ (i + 8) < n then if 0 ≤ x ∧ x < K.2 12 then zbL (f_S_shape K x ((scz xs) (i + 1)) ((scz xs) (i + 2)) ((scz xs) (i + 3)) ((scz xs) (i + 4)) ((scz xs) (i + 5)) ((scz xs) (i + 6)) ((scz xs) (i + 7)) ((scz xs) (i + 8)) F B) (fun r18 F18 B18 => if 0 ≤ (i + 1) ∧ (i + 1) < n then if 0 ≤ (i + 2) ∧ (i + 2) < n then if 0 ≤ (i + 3) ∧ (i + 3) < n then if 0 ≤ (i + 4) ∧ (i + 4) < n then if 0 ≤ (i + 5) ∧ (i + 5) < n then if 0 ≤ (i + 6) ∧ (i + 6) < n then if 0 ≤ (i + 7) ∧ (i + 7) < n then if 0 ≤ (i + 8) ∧ (i + 8) < n then zbL (f_M_shape Kr ((scz xs) (i + 1)) ((scz xs) (i + 2)) ((scz xs) (i + 3)) ((scz xs) (i + 4)) ((scz xs) (i + 5)) ((scz xs) (i + 6)) ((scz xs) (i + 7)) ((scz xs) (i + 8)) Fm Bm) (fun r28 F28 B28 => some (K, F18, B18, F28, B28)) else none else none else none else none else none else none else none else none) else none else none else none else none else none else none else none else none else none) = some (K9, F9, B9, Fm9, Bm9) := hf
  refine lv_aload_n hx hb d_code_1092 rfl (lv_at hl 2 rfl) ?_
  refine lv_aload_n hx hb d_code_1093 rfl (lv_at hl 3 rfl) ?_
  refine lv_iload_n hx hb d_code_1094 rfl (lv_at hl 0 rfl) ?_
  refine lv_iconst (v := iI 1) hx hb d_code_1095 rfl ?_
  refine zadd hx hb d_code_1096 ?_
  obtain ⟨g10, hf⟩ := gif hf
  refine zsld hx hb hXs hbl hbA hS g10.1 g10.2 hL4 d_code_1097 ?_
  refine lv_aload_n hx hb d_code_1098 rfl (lv_at hl 3 rfl) ?_
  refine lv_iload_n hx hb d_code_1099 rfl (lv_at hl 0 rfl) ?_
  refine lv_iconst (v := iI 2) hx hb d_code_1100 rfl ?_
  refine zadd hx hb d_code_1101 ?_
  obtain ⟨g11, hf⟩ := gif hf
  refine zsld hx hb hXs hbl hbA hS g11.1 g11.2 hL4 d_code_1102 ?_
  refine lv_aload_n hx hb d_code_1103 rfl (lv_at hl 3 rfl) ?_
  refine lv_iload_n hx hb d_code_1104 rfl (lv_at hl 0 rfl) ?_
  refine lv_iconst (v := iI 3) hx hb d_code_1105 rfl ?_
  refine zadd hx hb d_code_1106 ?_
  obtain ⟨g12, hf⟩ := gif hf
  refine zsld hx hb hXs hbl hbA hS g12.1 g12.2 hL4 d_code_1107 ?_
  refine lv_aload_n hx hb d_code_1108 rfl (lv_at hl 3 rfl) ?_
  refine lv_iload_n hx hb d_code_1109 rfl (lv_at hl 0 rfl) ?_
  refine lv_iconst (v := iI 4) hx hb d_code_1110 rfl ?_
  refine zadd hx hb d_code_1111 ?_
  obtain ⟨g13, hf⟩ := gif hf
  refine zsld hx hb hXs hbl hbA hS g13.1 g13.2 hL4 d_code_1112 ?_
  refine lv_aload_n hx hb d_code_1113 rfl (lv_at hl 3 rfl) ?_
  refine lv_iload_n hx hb d_code_1114 rfl (lv_at hl 0 rfl) ?_
  refine lv_iconst (v := iI 5) hx hb d_code_1115 rfl ?_
  refine zadd hx hb d_code_1116 ?_
  obtain ⟨g14, hf⟩ := gif hf
  refine zsld hx hb hXs hbl hbA hS g14.1 g14.2 hL4 d_code_1117 ?_
  refine lv_aload_n hx hb d_code_1118 rfl (lv_at hl 3 rfl) ?_
  refine lv_iload_n hx hb d_code_1119 rfl (lv_at hl 0 rfl) ?_
  refine lv_bipush (v := iI 6) hx hb d_code_1120 (by decide) ?_
  refine zadd hx hb d_code_1122 ?_
  obtain ⟨g15, hf⟩ := gif hf
  refine zsld hx hb hXs hbl hbA hS g15.1 g15.2 hL4 d_code_1123 ?_
  refine lv_aload_n hx hb d_code_1124 rfl (lv_at hl 3 rfl) ?_
  refine lv_iload_n hx hb d_code_1125 rfl (lv_at hl 0 rfl) ?_
  refine lv_bipush (v := iI 7) hx hb d_code_1126 (by decide) ?_
  refine zadd hx hb d_code_1128 ?_
  obtain ⟨g16, hf⟩ := gif hf
  refine zsld hx hb hXs hbl hbA hS g16.1 g16.2 hL4 d_code_1129 ?_
  refine lv_aload_n hx hb d_code_1130 rfl (lv_at hl 3 rfl) ?_
  refine lv_iload_n hx hb d_code_1131 rfl (lv_at hl 0 rfl) ?_
  refine lv_bipush (v := iI 8) hx hb d_code_1132 (by decide) ?_
  refine zadd hx hb d_code_1134 ?_
  obtain ⟨g17, hf⟩ := gif hf
  refine zsld hx hb hXs hbl hbA hS g17.1 g17.2 hL4 d_code_1135 ?_
  obtain ⟨g19, hf⟩ := gif hf
  obtain ⟨r18, F18, B18, hc18, hf⟩ := gbL hf
  rw [← hxx]
  refine va_calli (va_runV (As := [.int (iI ((scz xs) (i + 1))), .int (iI ((scz xs) (i + 2))), .int (iI ((scz xs) (i + 3))), .int (iI ((scz xs) (i + 4))), .int (iI ((scz xs) (i + 5))), .int (iI ((scz xs) (i + 6))), .int (iI ((scz xs) (i + 7))), .int (iI ((scz xs) (i + 8)))]) (rest := []) ⟨hx, hb, hml, hown, hts⟩ (c_S_shape (l := l) hc18) (cwV 8 hts (gdV k_9_99 k_9_100 k_9_101 k_1_1 k_9_102) rfl rfl rfl (by decide +kernel) ⟨Nat.le_of_ble_eq_true rfl, Nat.le_of_ble_eq_true rfl⟩) (zPV X1 hZ1 hS (ci := 12) g19.1 g19.2 (r := (RX12, TX12, 10)) rfl [.int (iI ((scz xs) (i + 1))), .int (iI ((scz xs) (i + 2))), .int (iI ((scz xs) (i + 3))), .int (iI ((scz xs) (i + 4))), .int (iI ((scz xs) (i + 5))), .int (iI ((scz xs) (i + 6))), .int (iI ((scz xs) (i + 7))), .int (iI ((scz xs) (i + 8)))]) rfl rfl hl.1 rfl (lv_room (Nat.le_of_ble_eq_true rfl)) d_code_1136 ⟨by have h := hrm.1; show _ ≤ 600000; omega, by have h := hrm.2; show _ ≤ 7302250; omega⟩) hS (fun z _ h => zAin X1 hS z h) (zAin X1 hS) (fun p18 u18 t18 H18 locs18 ht18 hv18 hw18 hB18 hz18 hk18 hS18 => ?_)
  subst hw18
  have hZa18 := zBack X1 ht18 hB18
  have hZb18 := zH.beside hZ2 hd hk18
  refine lv_pop hx hb d_code_1139 rfl ?_
  refine lv_aload_n hx hb d_code_1140 rfl (lv_at hl 1 rfl) ?_
  refine lv_aload_n hx hb d_code_1141 rfl (lv_at hl 3 rfl) ?_
  refine lv_iload_n hx hb d_code_1142 rfl (lv_at hl 0 rfl) ?_
  refine lv_iconst (v := iI 1) hx hb d_code_1143 rfl ?_
  refine zadd hx hb d_code_1144 ?_
  obtain ⟨g20, hf⟩ := gif hf
  refine zsld hx hb hXs hbl hbA hS18 g20.1 g20.2 hL4 d_code_1145 ?_
  refine lv_aload_n hx hb d_code_1146 rfl (lv_at hl 3 rfl) ?_
  refine lv_iload_n hx hb d_code_1147 rfl (lv_at hl 0 rfl) ?_
  refine lv_iconst (v := iI 2) hx hb d_code_1148 rfl ?_
  refine zadd hx hb d_code_1149 ?_
  obtain ⟨g21, hf⟩ := gif hf
  refine zsld hx hb hXs hbl hbA hS18 g21.1 g21.2 hL4 d_code_1150 ?_
  refine lv_aload_n hx hb d_code_1151 rfl (lv_at hl 3 rfl) ?_
  refine lv_iload_n hx hb d_code_1152 rfl (lv_at hl 0 rfl) ?_
  refine lv_iconst (v := iI 3) hx hb d_code_1153 rfl ?_
  refine zadd hx hb d_code_1154 ?_
  obtain ⟨g22, hf⟩ := gif hf
  refine zsld hx hb hXs hbl hbA hS18 g22.1 g22.2 hL4 d_code_1155 ?_
  refine lv_aload_n hx hb d_code_1156 rfl (lv_at hl 3 rfl) ?_
  refine lv_iload_n hx hb d_code_1157 rfl (lv_at hl 0 rfl) ?_
  refine lv_iconst (v := iI 4) hx hb d_code_1158 rfl ?_
  refine zadd hx hb d_code_1159 ?_
  obtain ⟨g23, hf⟩ := gif hf
  refine zsld hx hb hXs hbl hbA hS18 g23.1 g23.2 hL4 d_code_1160 ?_
  refine lv_aload_n hx hb d_code_1161 rfl (lv_at hl 3 rfl) ?_
  refine lv_iload_n hx hb d_code_1162 rfl (lv_at hl 0 rfl) ?_
  refine lv_iconst (v := iI 5) hx hb d_code_1163 rfl ?_
  refine zadd hx hb d_code_1164 ?_
  obtain ⟨g24, hf⟩ := gif hf
  refine zsld hx hb hXs hbl hbA hS18 g24.1 g24.2 hL4 d_code_1165 ?_
  refine lv_aload_n hx hb d_code_1166 rfl (lv_at hl 3 rfl) ?_
  refine lv_iload_n hx hb d_code_1167 rfl (lv_at hl 0 rfl) ?_
  refine lv_bipush (v := iI 6) hx hb d_code_1168 (by decide) ?_
  refine zadd hx hb d_code_1170 ?_
  obtain ⟨g25, hf⟩ := gif hf
  refine zsld hx hb hXs hbl hbA hS18 g25.1 g25.2 hL4 d_code_1171 ?_
  refine lv_aload_n hx hb d_code_1172 rfl (lv_at hl 3 rfl) ?_
  refine lv_iload_n hx hb d_code_1173 rfl (lv_at hl 0 rfl) ?_
  refine lv_bipush (v := iI 7) hx hb d_code_1174 (by decide) ?_
  refine zadd hx hb d_code_1176 ?_
  obtain ⟨g26, hf⟩ := gif hf
  refine zsld hx hb hXs hbl hbA hS18 g26.1 g26.2 hL4 d_code_1177 ?_
  refine lv_aload_n hx hb d_code_1178 rfl (lv_at hl 3 rfl) ?_
  refine lv_iload_n hx hb d_code_1179 rfl (lv_at hl 0 rfl) ?_
  refine lv_bipush (v := iI 8) hx hb d_code_1180 (by decide) ?_
  refine zadd hx hb d_code_1182 ?_
  obtain ⟨g27, hf⟩ := gif hf
  refine zsld hx hb hXs hbl hbA hS18 g27.1 g27.2 hL4 d_code_1183 ?_
  obtain ⟨r28, F28, B28, hc28, hf⟩ := gbL hf
  rw [← hmm]
  refine va_calli (va_runV (As := [.int (iI ((scz xs) (i + 1))), .int (iI ((scz xs) (i + 2))), .int (iI ((scz xs) (i + 3))), .int (iI ((scz xs) (i + 4))), .int (iI ((scz xs) (i + 5))), .int (iI ((scz xs) (i + 6))), .int (iI ((scz xs) (i + 7))), .int (iI ((scz xs) (i + 8)))]) (rest := []) ⟨hx, hb, hml, hown, hts⟩ (c_M_shape (l := l) hc28) (cwV 8 hts (gdV k_14_67 k_14_68 k_14_69 k_1_9 k_14_70) rfl rfl rfl (by decide +kernel) ⟨Nat.le_of_ble_eq_true rfl, Nat.le_of_ble_eq_true rfl⟩) (zPV X2 hZb18 hS18 (ci := 14) (by decide) (by decide) (r := (RX14, TX14, 107)) rfl [.int (iI ((scz xs) (i + 1))), .int (iI ((scz xs) (i + 2))), .int (iI ((scz xs) (i + 3))), .int (iI ((scz xs) (i + 4))), .int (iI ((scz xs) (i + 5))), .int (iI ((scz xs) (i + 6))), .int (iI ((scz xs) (i + 7))), .int (iI ((scz xs) (i + 8)))]) rfl rfl hl.1 rfl (lv_room (Nat.le_of_ble_eq_true rfl)) d_code_1184 ⟨by have h := hrm.1; show _ ≤ 600000; omega, by have h := hrm.2; show _ ≤ 7302250; omega⟩) hS18 (fun z _ h => zAin X2 hS18 z h) (zAin X2 hS18) (fun p28 u28 t28 H28 locs28 ht28 hv28 hw28 hB28 hz28 hk28 hS28 => ?_)
  subst hw28
  have hZb28 := zBack X2 ht28 hB28
  have hZa28 := zH.beside hZa18 (fun z h1 h2 => hd z h2 h1) hk28
  refine lv_pop hx hb d_code_1187 rfl ?_
  refine lv_goto (tgt := 1191) hx hb d_code_1188 (by decide) ?_
  cases hf
  refine W.widen (k := cells + cwC K K) (n := slots + swC K K) (by omega) (by omega) ?_
  exact kk hG hZa28 hZb28 hd hS28 hxx hl

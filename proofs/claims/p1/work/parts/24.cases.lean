theorem k_2_161 : (Jvm.Cond.code ({ cls := "StaveHouse", name := "feed", desc := "(IIIII)V" } : Jvm.MethodName) prog_1_method_2_code (6 : Nat) (Option.none : Option Jvm.ClassFile.FieldType)) ∈ wAll := wA_2 (j := 161) rfl rfl
theorem k_2_158 : (Jvm.Cond.methodLink "StaveHouseLaw" (13 : Nat) ({ cls := "StaveHouse", name := "feed", desc := "(IIIII)V" } : Jvm.MethodName)) ∈ wAll := wA_2 (j := 158) rfl rfl
theorem k_2_159 : (Jvm.Cond.instanceMethod ({ cls := "StaveHouse", name := "feed", desc := "(IIIII)V" } : Jvm.MethodName)) ∈ wAll := wA_2 (j := 159) rfl rfl
theorem k_2_160 : (Jvm.Cond.selects "StaveHouse" ({ cls := "StaveHouse", name := "feed", desc := "(IIIII)V" } : Jvm.MethodName) ({ cls := "StaveHouse", name := "feed", desc := "(IIIII)V" } : Jvm.MethodName)) ∈ wAll := wA_2 (j := 160) rfl rfl
theorem k_12_83 : (Jvm.Cond.code ({ cls := "StaveHouseModel", name := "feed", desc := "(IIIII)V" } : Jvm.MethodName) prog_15_method_12_code (8 : Nat) (Option.none : Option Jvm.ClassFile.FieldType)) ∈ wAll := wA_12 (j := 83) rfl rfl
theorem k_12_80 : (Jvm.Cond.methodLink "StaveHouseLaw" (17 : Nat) ({ cls := "StaveHouseModel", name := "feed", desc := "(IIIII)V" } : Jvm.MethodName)) ∈ wAll := wA_12 (j := 80) rfl rfl
theorem k_12_81 : (Jvm.Cond.instanceMethod ({ cls := "StaveHouseModel", name := "feed", desc := "(IIIII)V" } : Jvm.MethodName)) ∈ wAll := wA_12 (j := 81) rfl rfl
theorem k_12_82 : (Jvm.Cond.selects "StaveHouseModel" ({ cls := "StaveHouseModel", name := "feed", desc := "(IIIII)V" } : Jvm.MethodName) ({ cls := "StaveHouseModel", name := "feed", desc := "(IIIII)V" } : Jvm.MethodName)) ∈ wAll := wA_12 (j := 82) rfl rfl
theorem k_2_169 : (Jvm.Cond.code ({ cls := "StaveHouse", name := "end", desc := "(I)I" } : Jvm.MethodName) prog_1_method_4_code (3 : Nat) (Option.some Jvm.ClassFile.FieldType.int)) ∈ wAll := wA_2 (j := 169) rfl rfl
theorem k_2_166 : (Jvm.Cond.methodLink "StaveHouseLaw" (18 : Nat) ({ cls := "StaveHouse", name := "end", desc := "(I)I" } : Jvm.MethodName)) ∈ wAll := wA_2 (j := 166) rfl rfl
theorem k_2_167 : (Jvm.Cond.instanceMethod ({ cls := "StaveHouse", name := "end", desc := "(I)I" } : Jvm.MethodName)) ∈ wAll := wA_2 (j := 167) rfl rfl
theorem k_2_168 : (Jvm.Cond.selects "StaveHouse" ({ cls := "StaveHouse", name := "end", desc := "(I)I" } : Jvm.MethodName) ({ cls := "StaveHouse", name := "end", desc := "(I)I" } : Jvm.MethodName)) ∈ wAll := wA_2 (j := 168) rfl rfl
theorem k_12_87 : (Jvm.Cond.code ({ cls := "StaveHouseModel", name := "end", desc := "(I)I" } : Jvm.MethodName) prog_15_method_13_code (3 : Nat) (Option.some Jvm.ClassFile.FieldType.int)) ∈ wAll := wA_12 (j := 87) rfl rfl
theorem k_12_84 : (Jvm.Cond.methodLink "StaveHouseLaw" (22 : Nat) ({ cls := "StaveHouseModel", name := "end", desc := "(I)I" } : Jvm.MethodName)) ∈ wAll := wA_12 (j := 84) rfl rfl
theorem k_12_85 : (Jvm.Cond.instanceMethod ({ cls := "StaveHouseModel", name := "end", desc := "(I)I" } : Jvm.MethodName)) ∈ wAll := wA_12 (j := 85) rfl rfl
theorem k_12_86 : (Jvm.Cond.selects "StaveHouseModel" ({ cls := "StaveHouseModel", name := "end", desc := "(I)I" } : Jvm.MethodName) ({ cls := "StaveHouseModel", name := "end", desc := "(I)I" } : Jvm.MethodName)) ∈ wAll := wA_12 (j := 86) rfl rfl
theorem k_2_177 : (Jvm.Cond.code ({ cls := "StaveHouse", name := "read", desc := "(I)I" } : Jvm.MethodName) prog_1_method_5_code (4 : Nat) (Option.some Jvm.ClassFile.FieldType.int)) ∈ wAll := wA_2 (j := 177) rfl rfl
theorem k_2_174 : (Jvm.Cond.methodLink "StaveHouseLaw" (23 : Nat) ({ cls := "StaveHouse", name := "read", desc := "(I)I" } : Jvm.MethodName)) ∈ wAll := wA_2 (j := 174) rfl rfl
theorem k_2_175 : (Jvm.Cond.instanceMethod ({ cls := "StaveHouse", name := "read", desc := "(I)I" } : Jvm.MethodName)) ∈ wAll := wA_2 (j := 175) rfl rfl
theorem k_2_176 : (Jvm.Cond.selects "StaveHouse" ({ cls := "StaveHouse", name := "read", desc := "(I)I" } : Jvm.MethodName) ({ cls := "StaveHouse", name := "read", desc := "(I)I" } : Jvm.MethodName)) ∈ wAll := wA_2 (j := 176) rfl rfl
theorem k_14_82 : (Jvm.Cond.code ({ cls := "StaveHouseModel", name := "read", desc := "(I)I" } : Jvm.MethodName) prog_15_method_202_code (4 : Nat) (Option.some Jvm.ClassFile.FieldType.int)) ∈ wAll := wA_14 (j := 82) rfl rfl
theorem k_14_79 : (Jvm.Cond.methodLink "StaveHouseLaw" (26 : Nat) ({ cls := "StaveHouseModel", name := "read", desc := "(I)I" } : Jvm.MethodName)) ∈ wAll := wA_14 (j := 79) rfl rfl
theorem k_14_80 : (Jvm.Cond.instanceMethod ({ cls := "StaveHouseModel", name := "read", desc := "(I)I" } : Jvm.MethodName)) ∈ wAll := wA_14 (j := 80) rfl rfl
theorem k_14_81 : (Jvm.Cond.selects "StaveHouseModel" ({ cls := "StaveHouseModel", name := "read", desc := "(I)I" } : Jvm.MethodName) ({ cls := "StaveHouseModel", name := "read", desc := "(I)I" } : Jvm.MethodName)) ∈ wAll := wA_14 (j := 81) rfl rfl
theorem k_5_181 : (Jvm.Cond.code ({ cls := "StaveHouse", name := "look", desc := "(II)I" } : Jvm.MethodName) prog_1_method_10_code (4 : Nat) (Option.some Jvm.ClassFile.FieldType.int)) ∈ wAll := wA_5 (j := 181) rfl rfl
theorem k_5_178 : (Jvm.Cond.methodLink "StaveHouseLaw" (27 : Nat) ({ cls := "StaveHouse", name := "look", desc := "(II)I" } : Jvm.MethodName)) ∈ wAll := wA_5 (j := 178) rfl rfl
theorem k_5_179 : (Jvm.Cond.instanceMethod ({ cls := "StaveHouse", name := "look", desc := "(II)I" } : Jvm.MethodName)) ∈ wAll := wA_5 (j := 179) rfl rfl
theorem k_5_180 : (Jvm.Cond.selects "StaveHouse" ({ cls := "StaveHouse", name := "look", desc := "(II)I" } : Jvm.MethodName) ({ cls := "StaveHouse", name := "look", desc := "(II)I" } : Jvm.MethodName)) ∈ wAll := wA_5 (j := 180) rfl rfl
theorem k_15_145 : (Jvm.Cond.code ({ cls := "StaveHouseModel", name := "look", desc := "(II)I" } : Jvm.MethodName) prog_15_method_203_code (4 : Nat) (Option.some Jvm.ClassFile.FieldType.int)) ∈ wAll := wA_15 (j := 145) rfl rfl
theorem k_15_142 : (Jvm.Cond.methodLink "StaveHouseLaw" (31 : Nat) ({ cls := "StaveHouseModel", name := "look", desc := "(II)I" } : Jvm.MethodName)) ∈ wAll := wA_15 (j := 142) rfl rfl
theorem k_15_143 : (Jvm.Cond.instanceMethod ({ cls := "StaveHouseModel", name := "look", desc := "(II)I" } : Jvm.MethodName)) ∈ wAll := wA_15 (j := 143) rfl rfl
theorem k_15_144 : (Jvm.Cond.selects "StaveHouseModel" ({ cls := "StaveHouseModel", name := "look", desc := "(II)I" } : Jvm.MethodName) ({ cls := "StaveHouseModel", name := "look", desc := "(II)I" } : Jvm.MethodName)) ∈ wAll := wA_15 (j := 144) rfl rfl
theorem k_6_167 : (Jvm.Cond.code ({ cls := "StaveHouse", name := "voice", desc := "(III)I" } : Jvm.MethodName) prog_1_method_11_code (5 : Nat) (Option.some Jvm.ClassFile.FieldType.int)) ∈ wAll := wA_6 (j := 167) rfl rfl
theorem k_6_164 : (Jvm.Cond.methodLink "StaveHouseLaw" (32 : Nat) ({ cls := "StaveHouse", name := "voice", desc := "(III)I" } : Jvm.MethodName)) ∈ wAll := wA_6 (j := 164) rfl rfl
theorem k_6_165 : (Jvm.Cond.instanceMethod ({ cls := "StaveHouse", name := "voice", desc := "(III)I" } : Jvm.MethodName)) ∈ wAll := wA_6 (j := 165) rfl rfl
theorem k_6_166 : (Jvm.Cond.selects "StaveHouse" ({ cls := "StaveHouse", name := "voice", desc := "(III)I" } : Jvm.MethodName) ({ cls := "StaveHouse", name := "voice", desc := "(III)I" } : Jvm.MethodName)) ∈ wAll := wA_6 (j := 166) rfl rfl
theorem k_15_153 : (Jvm.Cond.code ({ cls := "StaveHouseModel", name := "voice", desc := "(III)I" } : Jvm.MethodName) prog_15_method_204_code (5 : Nat) (Option.some Jvm.ClassFile.FieldType.int)) ∈ wAll := wA_15 (j := 153) rfl rfl
theorem k_15_150 : (Jvm.Cond.methodLink "StaveHouseLaw" (36 : Nat) ({ cls := "StaveHouseModel", name := "voice", desc := "(III)I" } : Jvm.MethodName)) ∈ wAll := wA_15 (j := 150) rfl rfl
theorem k_15_151 : (Jvm.Cond.instanceMethod ({ cls := "StaveHouseModel", name := "voice", desc := "(III)I" } : Jvm.MethodName)) ∈ wAll := wA_15 (j := 151) rfl rfl
theorem k_15_152 : (Jvm.Cond.selects "StaveHouseModel" ({ cls := "StaveHouseModel", name := "voice", desc := "(III)I" } : Jvm.MethodName) ({ cls := "StaveHouseModel", name := "voice", desc := "(III)I" } : Jvm.MethodName)) ∈ wAll := wA_15 (j := 152) rfl rfl
theorem k_6_175 : (Jvm.Cond.code ({ cls := "StaveHouse", name := "name", desc := "(II)J" } : Jvm.MethodName) prog_1_method_12_code (4 : Nat) (Option.some Jvm.ClassFile.FieldType.long)) ∈ wAll := wA_6 (j := 175) rfl rfl
theorem k_6_172 : (Jvm.Cond.methodLink "StaveHouseLaw" (37 : Nat) ({ cls := "StaveHouse", name := "name", desc := "(II)J" } : Jvm.MethodName)) ∈ wAll := wA_6 (j := 172) rfl rfl
theorem k_6_173 : (Jvm.Cond.instanceMethod ({ cls := "StaveHouse", name := "name", desc := "(II)J" } : Jvm.MethodName)) ∈ wAll := wA_6 (j := 173) rfl rfl
theorem k_6_174 : (Jvm.Cond.selects "StaveHouse" ({ cls := "StaveHouse", name := "name", desc := "(II)J" } : Jvm.MethodName) ({ cls := "StaveHouse", name := "name", desc := "(II)J" } : Jvm.MethodName)) ∈ wAll := wA_6 (j := 174) rfl rfl
theorem k_15_157 : (Jvm.Cond.code ({ cls := "StaveHouseModel", name := "name", desc := "(II)J" } : Jvm.MethodName) prog_15_method_205_code (4 : Nat) (Option.some Jvm.ClassFile.FieldType.long)) ∈ wAll := wA_15 (j := 157) rfl rfl
theorem k_15_154 : (Jvm.Cond.methodLink "StaveHouseLaw" (41 : Nat) ({ cls := "StaveHouseModel", name := "name", desc := "(II)J" } : Jvm.MethodName)) ∈ wAll := wA_15 (j := 154) rfl rfl
theorem k_15_155 : (Jvm.Cond.instanceMethod ({ cls := "StaveHouseModel", name := "name", desc := "(II)J" } : Jvm.MethodName)) ∈ wAll := wA_15 (j := 155) rfl rfl
theorem k_15_156 : (Jvm.Cond.selects "StaveHouseModel" ({ cls := "StaveHouseModel", name := "name", desc := "(II)J" } : Jvm.MethodName) ({ cls := "StaveHouseModel", name := "name", desc := "(II)J" } : Jvm.MethodName)) ∈ wAll := wA_15 (j := 156) rfl rfl
theorem k_6_179 : (Jvm.Cond.code ({ cls := "StaveHouse", name := "event", desc := "(IIII)J" } : Jvm.MethodName) prog_1_method_13_code (6 : Nat) (Option.some Jvm.ClassFile.FieldType.long)) ∈ wAll := wA_6 (j := 179) rfl rfl
theorem k_6_176 : (Jvm.Cond.methodLink "StaveHouseLaw" (42 : Nat) ({ cls := "StaveHouse", name := "event", desc := "(IIII)J" } : Jvm.MethodName)) ∈ wAll := wA_6 (j := 176) rfl rfl
theorem k_6_177 : (Jvm.Cond.instanceMethod ({ cls := "StaveHouse", name := "event", desc := "(IIII)J" } : Jvm.MethodName)) ∈ wAll := wA_6 (j := 177) rfl rfl
theorem k_6_178 : (Jvm.Cond.selects "StaveHouse" ({ cls := "StaveHouse", name := "event", desc := "(IIII)J" } : Jvm.MethodName) ({ cls := "StaveHouse", name := "event", desc := "(IIII)J" } : Jvm.MethodName)) ∈ wAll := wA_6 (j := 178) rfl rfl
theorem k_15_161 : (Jvm.Cond.code ({ cls := "StaveHouseModel", name := "event", desc := "(IIII)J" } : Jvm.MethodName) prog_15_method_206_code (7 : Nat) (Option.some Jvm.ClassFile.FieldType.long)) ∈ wAll := wA_15 (j := 161) rfl rfl
theorem k_15_158 : (Jvm.Cond.methodLink "StaveHouseLaw" (46 : Nat) ({ cls := "StaveHouseModel", name := "event", desc := "(IIII)J" } : Jvm.MethodName)) ∈ wAll := wA_15 (j := 158) rfl rfl
theorem k_15_159 : (Jvm.Cond.instanceMethod ({ cls := "StaveHouseModel", name := "event", desc := "(IIII)J" } : Jvm.MethodName)) ∈ wAll := wA_15 (j := 159) rfl rfl
theorem k_15_160 : (Jvm.Cond.selects "StaveHouseModel" ({ cls := "StaveHouseModel", name := "event", desc := "(IIII)J" } : Jvm.MethodName) ({ cls := "StaveHouseModel", name := "event", desc := "(IIII)J" } : Jvm.MethodName)) ∈ wAll := wA_15 (j := 160) rfl rfl
theorem k_6_198 : (Jvm.Cond.code ({ cls := "StaveHouse", name := "pitch", desc := "(IIIII)I" } : Jvm.MethodName) prog_1_method_14_code (7 : Nat) (Option.some Jvm.ClassFile.FieldType.int)) ∈ wAll := wA_6 (j := 198) rfl rfl
theorem k_6_195 : (Jvm.Cond.methodLink "StaveHouseLaw" (47 : Nat) ({ cls := "StaveHouse", name := "pitch", desc := "(IIIII)I" } : Jvm.MethodName)) ∈ wAll := wA_6 (j := 195) rfl rfl
theorem k_6_196 : (Jvm.Cond.instanceMethod ({ cls := "StaveHouse", name := "pitch", desc := "(IIIII)I" } : Jvm.MethodName)) ∈ wAll := wA_6 (j := 196) rfl rfl
theorem k_6_197 : (Jvm.Cond.selects "StaveHouse" ({ cls := "StaveHouse", name := "pitch", desc := "(IIIII)I" } : Jvm.MethodName) ({ cls := "StaveHouse", name := "pitch", desc := "(IIIII)I" } : Jvm.MethodName)) ∈ wAll := wA_6 (j := 197) rfl rfl
theorem k_15_165 : (Jvm.Cond.code ({ cls := "StaveHouseModel", name := "pitch", desc := "(IIIII)I" } : Jvm.MethodName) prog_15_method_207_code (8 : Nat) (Option.some Jvm.ClassFile.FieldType.int)) ∈ wAll := wA_15 (j := 165) rfl rfl
theorem k_15_162 : (Jvm.Cond.methodLink "StaveHouseLaw" (51 : Nat) ({ cls := "StaveHouseModel", name := "pitch", desc := "(IIIII)I" } : Jvm.MethodName)) ∈ wAll := wA_15 (j := 162) rfl rfl
theorem k_15_163 : (Jvm.Cond.instanceMethod ({ cls := "StaveHouseModel", name := "pitch", desc := "(IIIII)I" } : Jvm.MethodName)) ∈ wAll := wA_15 (j := 163) rfl rfl
theorem k_15_164 : (Jvm.Cond.selects "StaveHouseModel" ({ cls := "StaveHouseModel", name := "pitch", desc := "(IIIII)I" } : Jvm.MethodName) ({ cls := "StaveHouseModel", name := "pitch", desc := "(IIIII)I" } : Jvm.MethodName)) ∈ wAll := wA_15 (j := 164) rfl rfl
theorem k_6_204 : (Jvm.Cond.code ({ cls := "StaveHouse", name := "note", desc := "(IIII)J" } : Jvm.MethodName) prog_1_method_15_code (6 : Nat) (Option.some Jvm.ClassFile.FieldType.long)) ∈ wAll := wA_6 (j := 204) rfl rfl
theorem k_6_201 : (Jvm.Cond.methodLink "StaveHouseLaw" (52 : Nat) ({ cls := "StaveHouse", name := "note", desc := "(IIII)J" } : Jvm.MethodName)) ∈ wAll := wA_6 (j := 201) rfl rfl
theorem k_6_202 : (Jvm.Cond.instanceMethod ({ cls := "StaveHouse", name := "note", desc := "(IIII)J" } : Jvm.MethodName)) ∈ wAll := wA_6 (j := 202) rfl rfl
theorem k_6_203 : (Jvm.Cond.selects "StaveHouse" ({ cls := "StaveHouse", name := "note", desc := "(IIII)J" } : Jvm.MethodName) ({ cls := "StaveHouse", name := "note", desc := "(IIII)J" } : Jvm.MethodName)) ∈ wAll := wA_6 (j := 203) rfl rfl
theorem k_15_169 : (Jvm.Cond.code ({ cls := "StaveHouseModel", name := "note", desc := "(IIII)J" } : Jvm.MethodName) prog_15_method_208_code (7 : Nat) (Option.some Jvm.ClassFile.FieldType.long)) ∈ wAll := wA_15 (j := 169) rfl rfl
theorem k_15_166 : (Jvm.Cond.methodLink "StaveHouseLaw" (55 : Nat) ({ cls := "StaveHouseModel", name := "note", desc := "(IIII)J" } : Jvm.MethodName)) ∈ wAll := wA_15 (j := 166) rfl rfl
theorem k_15_167 : (Jvm.Cond.instanceMethod ({ cls := "StaveHouseModel", name := "note", desc := "(IIII)J" } : Jvm.MethodName)) ∈ wAll := wA_15 (j := 167) rfl rfl
theorem k_15_168 : (Jvm.Cond.selects "StaveHouseModel" ({ cls := "StaveHouseModel", name := "note", desc := "(IIII)J" } : Jvm.MethodName) ({ cls := "StaveHouseModel", name := "note", desc := "(IIII)J" } : Jvm.MethodName)) ∈ wAll := wA_15 (j := 168) rfl rfl
theorem k_6_208 : (Jvm.Cond.code ({ cls := "StaveHouse", name := "lines", desc := "(II)I" } : Jvm.MethodName) prog_1_method_16_code (4 : Nat) (Option.some Jvm.ClassFile.FieldType.int)) ∈ wAll := wA_6 (j := 208) rfl rfl
theorem k_6_205 : (Jvm.Cond.methodLink "StaveHouseLaw" (56 : Nat) ({ cls := "StaveHouse", name := "lines", desc := "(II)I" } : Jvm.MethodName)) ∈ wAll := wA_6 (j := 205) rfl rfl
theorem k_6_206 : (Jvm.Cond.instanceMethod ({ cls := "StaveHouse", name := "lines", desc := "(II)I" } : Jvm.MethodName)) ∈ wAll := wA_6 (j := 206) rfl rfl
theorem k_6_207 : (Jvm.Cond.selects "StaveHouse" ({ cls := "StaveHouse", name := "lines", desc := "(II)I" } : Jvm.MethodName) ({ cls := "StaveHouse", name := "lines", desc := "(II)I" } : Jvm.MethodName)) ∈ wAll := wA_6 (j := 207) rfl rfl
theorem k_12_91 : (Jvm.Cond.code ({ cls := "StaveHouseModel", name := "lines", desc := "(II)I" } : Jvm.MethodName) prog_15_method_108_code (10 : Nat) (Option.some Jvm.ClassFile.FieldType.int)) ∈ wAll := wA_12 (j := 91) rfl rfl
theorem k_12_88 : (Jvm.Cond.methodLink "StaveHouseLaw" (59 : Nat) ({ cls := "StaveHouseModel", name := "lines", desc := "(II)I" } : Jvm.MethodName)) ∈ wAll := wA_12 (j := 88) rfl rfl
theorem k_12_89 : (Jvm.Cond.instanceMethod ({ cls := "StaveHouseModel", name := "lines", desc := "(II)I" } : Jvm.MethodName)) ∈ wAll := wA_12 (j := 89) rfl rfl
theorem k_12_90 : (Jvm.Cond.selects "StaveHouseModel" ({ cls := "StaveHouseModel", name := "lines", desc := "(II)I" } : Jvm.MethodName) ({ cls := "StaveHouseModel", name := "lines", desc := "(II)I" } : Jvm.MethodName)) ∈ wAll := wA_12 (j := 90) rfl rfl
theorem k_7_70 : (Jvm.Cond.code ({ cls := "StaveHouse", name := "line", desc := "(III)J" } : Jvm.MethodName) prog_1_method_17_code (5 : Nat) (Option.some Jvm.ClassFile.FieldType.long)) ∈ wAll := wA_7 (j := 70) rfl rfl
theorem k_7_67 : (Jvm.Cond.methodLink "StaveHouseLaw" (60 : Nat) ({ cls := "StaveHouse", name := "line", desc := "(III)J" } : Jvm.MethodName)) ∈ wAll := wA_7 (j := 67) rfl rfl
theorem k_7_68 : (Jvm.Cond.instanceMethod ({ cls := "StaveHouse", name := "line", desc := "(III)J" } : Jvm.MethodName)) ∈ wAll := wA_7 (j := 68) rfl rfl
theorem k_7_69 : (Jvm.Cond.selects "StaveHouse" ({ cls := "StaveHouse", name := "line", desc := "(III)J" } : Jvm.MethodName) ({ cls := "StaveHouse", name := "line", desc := "(III)J" } : Jvm.MethodName)) ∈ wAll := wA_7 (j := 69) rfl rfl
theorem k_12_110 : (Jvm.Cond.code ({ cls := "StaveHouseModel", name := "line", desc := "(III)J" } : Jvm.MethodName) prog_15_method_110_code (5 : Nat) (Option.some Jvm.ClassFile.FieldType.long)) ∈ wAll := wA_12 (j := 110) rfl rfl
theorem k_12_107 : (Jvm.Cond.methodLink "StaveHouseLaw" (64 : Nat) ({ cls := "StaveHouseModel", name := "line", desc := "(III)J" } : Jvm.MethodName)) ∈ wAll := wA_12 (j := 107) rfl rfl
theorem k_12_108 : (Jvm.Cond.instanceMethod ({ cls := "StaveHouseModel", name := "line", desc := "(III)J" } : Jvm.MethodName)) ∈ wAll := wA_12 (j := 108) rfl rfl
theorem k_12_109 : (Jvm.Cond.selects "StaveHouseModel" ({ cls := "StaveHouseModel", name := "line", desc := "(III)J" } : Jvm.MethodName) ({ cls := "StaveHouseModel", name := "line", desc := "(III)J" } : Jvm.MethodName)) ∈ wAll := wA_12 (j := 109) rfl rfl
theorem k_7_78 : (Jvm.Cond.code ({ cls := "StaveHouse", name := "x", desc := "(III)I" } : Jvm.MethodName) prog_1_method_18_code (6 : Nat) (Option.some Jvm.ClassFile.FieldType.int)) ∈ wAll := wA_7 (j := 78) rfl rfl
theorem k_7_75 : (Jvm.Cond.methodLink "StaveHouseLaw" (65 : Nat) ({ cls := "StaveHouse", name := "x", desc := "(III)I" } : Jvm.MethodName)) ∈ wAll := wA_7 (j := 75) rfl rfl
theorem k_7_76 : (Jvm.Cond.instanceMethod ({ cls := "StaveHouse", name := "x", desc := "(III)I" } : Jvm.MethodName)) ∈ wAll := wA_7 (j := 76) rfl rfl
theorem k_7_77 : (Jvm.Cond.selects "StaveHouse" ({ cls := "StaveHouse", name := "x", desc := "(III)I" } : Jvm.MethodName) ({ cls := "StaveHouse", name := "x", desc := "(III)I" } : Jvm.MethodName)) ∈ wAll := wA_7 (j := 77) rfl rfl
theorem k_12_117 : (Jvm.Cond.code ({ cls := "StaveHouseModel", name := "x", desc := "(III)I" } : Jvm.MethodName) prog_15_method_111_code (12 : Nat) (Option.some Jvm.ClassFile.FieldType.int)) ∈ wAll := wA_12 (j := 117) rfl rfl
theorem k_12_114 : (Jvm.Cond.methodLink "StaveHouseLaw" (68 : Nat) ({ cls := "StaveHouseModel", name := "x", desc := "(III)I" } : Jvm.MethodName)) ∈ wAll := wA_12 (j := 114) rfl rfl
theorem k_12_115 : (Jvm.Cond.instanceMethod ({ cls := "StaveHouseModel", name := "x", desc := "(III)I" } : Jvm.MethodName)) ∈ wAll := wA_12 (j := 115) rfl rfl
theorem k_12_116 : (Jvm.Cond.selects "StaveHouseModel" ({ cls := "StaveHouseModel", name := "x", desc := "(III)I" } : Jvm.MethodName) ({ cls := "StaveHouseModel", name := "x", desc := "(III)I" } : Jvm.MethodName)) ∈ wAll := wA_12 (j := 116) rfl rfl
theorem k_7_86 : (Jvm.Cond.code ({ cls := "StaveHouse", name := "perform", desc := "(I)I" } : Jvm.MethodName) prog_1_method_19_code (4 : Nat) (Option.some Jvm.ClassFile.FieldType.int)) ∈ wAll := wA_7 (j := 86) rfl rfl
theorem k_7_83 : (Jvm.Cond.methodLink "StaveHouseLaw" (69 : Nat) ({ cls := "StaveHouse", name := "perform", desc := "(I)I" } : Jvm.MethodName)) ∈ wAll := wA_7 (j := 83) rfl rfl
theorem k_7_84 : (Jvm.Cond.instanceMethod ({ cls := "StaveHouse", name := "perform", desc := "(I)I" } : Jvm.MethodName)) ∈ wAll := wA_7 (j := 84) rfl rfl
theorem k_7_85 : (Jvm.Cond.selects "StaveHouse" ({ cls := "StaveHouse", name := "perform", desc := "(I)I" } : Jvm.MethodName) ({ cls := "StaveHouse", name := "perform", desc := "(I)I" } : Jvm.MethodName)) ∈ wAll := wA_7 (j := 85) rfl rfl
theorem k_12_124 : (Jvm.Cond.code ({ cls := "StaveHouseModel", name := "perform", desc := "(I)I" } : Jvm.MethodName) prog_15_method_121_code (6 : Nat) (Option.some Jvm.ClassFile.FieldType.int)) ∈ wAll := wA_12 (j := 124) rfl rfl
theorem k_12_121 : (Jvm.Cond.methodLink "StaveHouseLaw" (72 : Nat) ({ cls := "StaveHouseModel", name := "perform", desc := "(I)I" } : Jvm.MethodName)) ∈ wAll := wA_12 (j := 121) rfl rfl
theorem k_12_122 : (Jvm.Cond.instanceMethod ({ cls := "StaveHouseModel", name := "perform", desc := "(I)I" } : Jvm.MethodName)) ∈ wAll := wA_12 (j := 122) rfl rfl
theorem k_12_123 : (Jvm.Cond.selects "StaveHouseModel" ({ cls := "StaveHouseModel", name := "perform", desc := "(I)I" } : Jvm.MethodName) ({ cls := "StaveHouseModel", name := "perform", desc := "(I)I" } : Jvm.MethodName)) ∈ wAll := wA_12 (j := 123) rfl rfl
theorem k_7_107 : (Jvm.Cond.code ({ cls := "StaveHouse", name := "stroke", desc := "(III)I" } : Jvm.MethodName) prog_1_method_20_code (5 : Nat) (Option.some Jvm.ClassFile.FieldType.int)) ∈ wAll := wA_7 (j := 107) rfl rfl
theorem k_7_104 : (Jvm.Cond.methodLink "StaveHouseLaw" (73 : Nat) ({ cls := "StaveHouse", name := "stroke", desc := "(III)I" } : Jvm.MethodName)) ∈ wAll := wA_7 (j := 104) rfl rfl
theorem k_7_105 : (Jvm.Cond.instanceMethod ({ cls := "StaveHouse", name := "stroke", desc := "(III)I" } : Jvm.MethodName)) ∈ wAll := wA_7 (j := 105) rfl rfl
theorem k_7_106 : (Jvm.Cond.selects "StaveHouse" ({ cls := "StaveHouse", name := "stroke", desc := "(III)I" } : Jvm.MethodName) ({ cls := "StaveHouse", name := "stroke", desc := "(III)I" } : Jvm.MethodName)) ∈ wAll := wA_7 (j := 106) rfl rfl
theorem k_12_189 : (Jvm.Cond.code ({ cls := "StaveHouseModel", name := "stroke", desc := "(III)I" } : Jvm.MethodName) prog_15_method_122_code (5 : Nat) (Option.some Jvm.ClassFile.FieldType.int)) ∈ wAll := wA_12 (j := 189) rfl rfl
theorem k_12_186 : (Jvm.Cond.methodLink "StaveHouseLaw" (76 : Nat) ({ cls := "StaveHouseModel", name := "stroke", desc := "(III)I" } : Jvm.MethodName)) ∈ wAll := wA_12 (j := 186) rfl rfl
theorem k_12_187 : (Jvm.Cond.instanceMethod ({ cls := "StaveHouseModel", name := "stroke", desc := "(III)I" } : Jvm.MethodName)) ∈ wAll := wA_12 (j := 187) rfl rfl
theorem k_12_188 : (Jvm.Cond.selects "StaveHouseModel" ({ cls := "StaveHouseModel", name := "stroke", desc := "(III)I" } : Jvm.MethodName) ({ cls := "StaveHouseModel", name := "stroke", desc := "(III)I" } : Jvm.MethodName)) ∈ wAll := wA_12 (j := 188) rfl rfl
theorem k_7_122 : (Jvm.Cond.code ({ cls := "StaveHouse", name := "file", desc := "(I)I" } : Jvm.MethodName) prog_1_method_21_code (4 : Nat) (Option.some Jvm.ClassFile.FieldType.int)) ∈ wAll := wA_7 (j := 122) rfl rfl
theorem k_7_119 : (Jvm.Cond.methodLink "StaveHouseLaw" (77 : Nat) ({ cls := "StaveHouse", name := "file", desc := "(I)I" } : Jvm.MethodName)) ∈ wAll := wA_7 (j := 119) rfl rfl
theorem k_7_120 : (Jvm.Cond.instanceMethod ({ cls := "StaveHouse", name := "file", desc := "(I)I" } : Jvm.MethodName)) ∈ wAll := wA_7 (j := 120) rfl rfl
theorem k_7_121 : (Jvm.Cond.selects "StaveHouse" ({ cls := "StaveHouse", name := "file", desc := "(I)I" } : Jvm.MethodName) ({ cls := "StaveHouse", name := "file", desc := "(I)I" } : Jvm.MethodName)) ∈ wAll := wA_7 (j := 121) rfl rfl
theorem k_12_193 : (Jvm.Cond.code ({ cls := "StaveHouseModel", name := "file", desc := "(I)I" } : Jvm.MethodName) prog_15_method_129_code (6 : Nat) (Option.some Jvm.ClassFile.FieldType.int)) ∈ wAll := wA_12 (j := 193) rfl rfl
theorem k_12_190 : (Jvm.Cond.methodLink "StaveHouseLaw" (80 : Nat) ({ cls := "StaveHouseModel", name := "file", desc := "(I)I" } : Jvm.MethodName)) ∈ wAll := wA_12 (j := 190) rfl rfl
theorem k_12_191 : (Jvm.Cond.instanceMethod ({ cls := "StaveHouseModel", name := "file", desc := "(I)I" } : Jvm.MethodName)) ∈ wAll := wA_12 (j := 191) rfl rfl
theorem k_12_192 : (Jvm.Cond.selects "StaveHouseModel" ({ cls := "StaveHouseModel", name := "file", desc := "(I)I" } : Jvm.MethodName) ({ cls := "StaveHouseModel", name := "file", desc := "(I)I" } : Jvm.MethodName)) ∈ wAll := wA_12 (j := 192) rfl rfl
theorem k_7_199 : (Jvm.Cond.code ({ cls := "StaveHouse", name := "out", desc := "(I)I" } : Jvm.MethodName) prog_1_method_22_code (2 : Nat) (Option.some Jvm.ClassFile.FieldType.int)) ∈ wAll := wA_7 (j := 199) rfl rfl
theorem k_7_196 : (Jvm.Cond.methodLink "StaveHouseLaw" (81 : Nat) ({ cls := "StaveHouse", name := "out", desc := "(I)I" } : Jvm.MethodName)) ∈ wAll := wA_7 (j := 196) rfl rfl
theorem k_7_197 : (Jvm.Cond.instanceMethod ({ cls := "StaveHouse", name := "out", desc := "(I)I" } : Jvm.MethodName)) ∈ wAll := wA_7 (j := 197) rfl rfl
theorem k_7_198 : (Jvm.Cond.selects "StaveHouse" ({ cls := "StaveHouse", name := "out", desc := "(I)I" } : Jvm.MethodName) ({ cls := "StaveHouse", name := "out", desc := "(I)I" } : Jvm.MethodName)) ∈ wAll := wA_7 (j := 198) rfl rfl
theorem k_12_233 : (Jvm.Cond.code ({ cls := "StaveHouseModel", name := "out", desc := "(I)I" } : Jvm.MethodName) prog_15_method_133_code (2 : Nat) (Option.some Jvm.ClassFile.FieldType.int)) ∈ wAll := wA_12 (j := 233) rfl rfl
theorem k_12_230 : (Jvm.Cond.methodLink "StaveHouseLaw" (84 : Nat) ({ cls := "StaveHouseModel", name := "out", desc := "(I)I" } : Jvm.MethodName)) ∈ wAll := wA_12 (j := 230) rfl rfl
theorem k_12_231 : (Jvm.Cond.instanceMethod ({ cls := "StaveHouseModel", name := "out", desc := "(I)I" } : Jvm.MethodName)) ∈ wAll := wA_12 (j := 231) rfl rfl
theorem k_12_232 : (Jvm.Cond.selects "StaveHouseModel" ({ cls := "StaveHouseModel", name := "out", desc := "(I)I" } : Jvm.MethodName) ({ cls := "StaveHouseModel", name := "out", desc := "(I)I" } : Jvm.MethodName)) ∈ wAll := wA_12 (j := 232) rfl rfl
theorem k_7_204 : (Jvm.Cond.code ({ cls := "StaveHouse", name := "again", desc := "()I" } : Jvm.MethodName) prog_1_method_23_code (2 : Nat) (Option.some Jvm.ClassFile.FieldType.int)) ∈ wAll := wA_7 (j := 204) rfl rfl
theorem k_7_201 : (Jvm.Cond.methodLink "StaveHouseLaw" (85 : Nat) ({ cls := "StaveHouse", name := "again", desc := "()I" } : Jvm.MethodName)) ∈ wAll := wA_7 (j := 201) rfl rfl
theorem k_7_202 : (Jvm.Cond.instanceMethod ({ cls := "StaveHouse", name := "again", desc := "()I" } : Jvm.MethodName)) ∈ wAll := wA_7 (j := 202) rfl rfl
theorem k_7_203 : (Jvm.Cond.selects "StaveHouse" ({ cls := "StaveHouse", name := "again", desc := "()I" } : Jvm.MethodName) ({ cls := "StaveHouse", name := "again", desc := "()I" } : Jvm.MethodName)) ∈ wAll := wA_7 (j := 203) rfl rfl
theorem k_12_237 : (Jvm.Cond.code ({ cls := "StaveHouseModel", name := "again", desc := "()I" } : Jvm.MethodName) prog_15_method_134_code (2 : Nat) (Option.some Jvm.ClassFile.FieldType.int)) ∈ wAll := wA_12 (j := 237) rfl rfl
theorem k_12_234 : (Jvm.Cond.methodLink "StaveHouseLaw" (89 : Nat) ({ cls := "StaveHouseModel", name := "again", desc := "()I" } : Jvm.MethodName)) ∈ wAll := wA_12 (j := 234) rfl rfl
theorem k_12_235 : (Jvm.Cond.instanceMethod ({ cls := "StaveHouseModel", name := "again", desc := "()I" } : Jvm.MethodName)) ∈ wAll := wA_12 (j := 235) rfl rfl
theorem k_12_236 : (Jvm.Cond.selects "StaveHouseModel" ({ cls := "StaveHouseModel", name := "again", desc := "()I" } : Jvm.MethodName) ({ cls := "StaveHouseModel", name := "again", desc := "()I" } : Jvm.MethodName)) ∈ wAll := wA_12 (j := 236) rfl rfl
theorem k_7_208 : (Jvm.Cond.code ({ cls := "StaveHouse", name := "open", desc := "()I" } : Jvm.MethodName) prog_1_method_24_code (3 : Nat) (Option.some Jvm.ClassFile.FieldType.int)) ∈ wAll := wA_7 (j := 208) rfl rfl
theorem k_7_205 : (Jvm.Cond.methodLink "StaveHouseLaw" (90 : Nat) ({ cls := "StaveHouse", name := "open", desc := "()I" } : Jvm.MethodName)) ∈ wAll := wA_7 (j := 205) rfl rfl
theorem k_7_206 : (Jvm.Cond.instanceMethod ({ cls := "StaveHouse", name := "open", desc := "()I" } : Jvm.MethodName)) ∈ wAll := wA_7 (j := 206) rfl rfl
theorem k_7_207 : (Jvm.Cond.selects "StaveHouse" ({ cls := "StaveHouse", name := "open", desc := "()I" } : Jvm.MethodName) ({ cls := "StaveHouse", name := "open", desc := "()I" } : Jvm.MethodName)) ∈ wAll := wA_7 (j := 207) rfl rfl
theorem k_13_1 : (Jvm.Cond.code ({ cls := "StaveHouseModel", name := "open", desc := "()I" } : Jvm.MethodName) prog_15_method_140_code (7 : Nat) (Option.some Jvm.ClassFile.FieldType.int)) ∈ wAll := wA_13 (j := 1) rfl rfl
theorem k_12_238 : (Jvm.Cond.methodLink "StaveHouseLaw" (93 : Nat) ({ cls := "StaveHouseModel", name := "open", desc := "()I" } : Jvm.MethodName)) ∈ wAll := wA_12 (j := 238) rfl rfl
theorem k_12_239 : (Jvm.Cond.instanceMethod ({ cls := "StaveHouseModel", name := "open", desc := "()I" } : Jvm.MethodName)) ∈ wAll := wA_12 (j := 239) rfl rfl
theorem k_13_0 : (Jvm.Cond.selects "StaveHouseModel" ({ cls := "StaveHouseModel", name := "open", desc := "()I" } : Jvm.MethodName) ({ cls := "StaveHouseModel", name := "open", desc := "()I" } : Jvm.MethodName)) ∈ wAll := wA_13 (j := 0) rfl rfl
theorem k_8_129 : (Jvm.Cond.code ({ cls := "StaveHouse", name := "track", desc := "(I)I" } : Jvm.MethodName) prog_1_method_25_code (2 : Nat) (Option.some Jvm.ClassFile.FieldType.int)) ∈ wAll := wA_8 (j := 129) rfl rfl
theorem k_8_126 : (Jvm.Cond.methodLink "StaveHouseLaw" (94 : Nat) ({ cls := "StaveHouse", name := "track", desc := "(I)I" } : Jvm.MethodName)) ∈ wAll := wA_8 (j := 126) rfl rfl
theorem k_8_127 : (Jvm.Cond.instanceMethod ({ cls := "StaveHouse", name := "track", desc := "(I)I" } : Jvm.MethodName)) ∈ wAll := wA_8 (j := 127) rfl rfl
theorem k_8_128 : (Jvm.Cond.selects "StaveHouse" ({ cls := "StaveHouse", name := "track", desc := "(I)I" } : Jvm.MethodName) ({ cls := "StaveHouse", name := "track", desc := "(I)I" } : Jvm.MethodName)) ∈ wAll := wA_8 (j := 128) rfl rfl
theorem k_13_67 : (Jvm.Cond.code ({ cls := "StaveHouseModel", name := "track", desc := "(I)I" } : Jvm.MethodName) prog_15_method_149_code (2 : Nat) (Option.some Jvm.ClassFile.FieldType.int)) ∈ wAll := wA_13 (j := 67) rfl rfl
theorem k_13_64 : (Jvm.Cond.methodLink "StaveHouseLaw" (97 : Nat) ({ cls := "StaveHouseModel", name := "track", desc := "(I)I" } : Jvm.MethodName)) ∈ wAll := wA_13 (j := 64) rfl rfl
theorem k_13_65 : (Jvm.Cond.instanceMethod ({ cls := "StaveHouseModel", name := "track", desc := "(I)I" } : Jvm.MethodName)) ∈ wAll := wA_13 (j := 65) rfl rfl
theorem k_13_66 : (Jvm.Cond.selects "StaveHouseModel" ({ cls := "StaveHouseModel", name := "track", desc := "(I)I" } : Jvm.MethodName) ({ cls := "StaveHouseModel", name := "track", desc := "(I)I" } : Jvm.MethodName)) ∈ wAll := wA_13 (j := 66) rfl rfl
theorem k_8_133 : (Jvm.Cond.code ({ cls := "StaveHouse", name := "sound", desc := "(II)J" } : Jvm.MethodName) prog_1_method_26_code (3 : Nat) (Option.some Jvm.ClassFile.FieldType.long)) ∈ wAll := wA_8 (j := 133) rfl rfl
theorem k_8_130 : (Jvm.Cond.methodLink "StaveHouseLaw" (98 : Nat) ({ cls := "StaveHouse", name := "sound", desc := "(II)J" } : Jvm.MethodName)) ∈ wAll := wA_8 (j := 130) rfl rfl
theorem k_8_131 : (Jvm.Cond.instanceMethod ({ cls := "StaveHouse", name := "sound", desc := "(II)J" } : Jvm.MethodName)) ∈ wAll := wA_8 (j := 131) rfl rfl
theorem k_8_132 : (Jvm.Cond.selects "StaveHouse" ({ cls := "StaveHouse", name := "sound", desc := "(II)J" } : Jvm.MethodName) ({ cls := "StaveHouse", name := "sound", desc := "(II)J" } : Jvm.MethodName)) ∈ wAll := wA_8 (j := 132) rfl rfl
theorem k_13_72 : (Jvm.Cond.code ({ cls := "StaveHouseModel", name := "sound", desc := "(II)J" } : Jvm.MethodName) prog_15_method_150_code (3 : Nat) (Option.some Jvm.ClassFile.FieldType.long)) ∈ wAll := wA_13 (j := 72) rfl rfl
theorem k_13_69 : (Jvm.Cond.methodLink "StaveHouseLaw" (101 : Nat) ({ cls := "StaveHouseModel", name := "sound", desc := "(II)J" } : Jvm.MethodName)) ∈ wAll := wA_13 (j := 69) rfl rfl
theorem k_13_70 : (Jvm.Cond.instanceMethod ({ cls := "StaveHouseModel", name := "sound", desc := "(II)J" } : Jvm.MethodName)) ∈ wAll := wA_13 (j := 70) rfl rfl
theorem k_13_71 : (Jvm.Cond.selects "StaveHouseModel" ({ cls := "StaveHouseModel", name := "sound", desc := "(II)J" } : Jvm.MethodName) ({ cls := "StaveHouseModel", name := "sound", desc := "(II)J" } : Jvm.MethodName)) ∈ wAll := wA_13 (j := 71) rfl rfl
theorem k_8_137 : (Jvm.Cond.code ({ cls := "StaveHouse", name := "down", desc := "(I)I" } : Jvm.MethodName) prog_1_method_27_code (3 : Nat) (Option.some Jvm.ClassFile.FieldType.int)) ∈ wAll := wA_8 (j := 137) rfl rfl
theorem k_8_134 : (Jvm.Cond.methodLink "StaveHouseLaw" (102 : Nat) ({ cls := "StaveHouse", name := "down", desc := "(I)I" } : Jvm.MethodName)) ∈ wAll := wA_8 (j := 134) rfl rfl
theorem k_8_135 : (Jvm.Cond.instanceMethod ({ cls := "StaveHouse", name := "down", desc := "(I)I" } : Jvm.MethodName)) ∈ wAll := wA_8 (j := 135) rfl rfl
theorem k_8_136 : (Jvm.Cond.selects "StaveHouse" ({ cls := "StaveHouse", name := "down", desc := "(I)I" } : Jvm.MethodName) ({ cls := "StaveHouse", name := "down", desc := "(I)I" } : Jvm.MethodName)) ∈ wAll := wA_8 (j := 136) rfl rfl
theorem k_13_76 : (Jvm.Cond.code ({ cls := "StaveHouseModel", name := "down", desc := "(I)I" } : Jvm.MethodName) prog_15_method_153_code (7 : Nat) (Option.some Jvm.ClassFile.FieldType.int)) ∈ wAll := wA_13 (j := 76) rfl rfl
theorem k_13_73 : (Jvm.Cond.methodLink "StaveHouseLaw" (105 : Nat) ({ cls := "StaveHouseModel", name := "down", desc := "(I)I" } : Jvm.MethodName)) ∈ wAll := wA_13 (j := 73) rfl rfl
theorem k_13_74 : (Jvm.Cond.instanceMethod ({ cls := "StaveHouseModel", name := "down", desc := "(I)I" } : Jvm.MethodName)) ∈ wAll := wA_13 (j := 74) rfl rfl
theorem k_13_75 : (Jvm.Cond.selects "StaveHouseModel" ({ cls := "StaveHouseModel", name := "down", desc := "(I)I" } : Jvm.MethodName) ({ cls := "StaveHouseModel", name := "down", desc := "(I)I" } : Jvm.MethodName)) ∈ wAll := wA_13 (j := 75) rfl rfl
theorem k_8_237 : (Jvm.Cond.code ({ cls := "StaveHouse", name := "play", desc := "(II)I" } : Jvm.MethodName) prog_1_method_28_code (5 : Nat) (Option.some Jvm.ClassFile.FieldType.int)) ∈ wAll := wA_8 (j := 237) rfl rfl
theorem k_8_234 : (Jvm.Cond.methodLink "StaveHouseLaw" (106 : Nat) ({ cls := "StaveHouse", name := "play", desc := "(II)I" } : Jvm.MethodName)) ∈ wAll := wA_8 (j := 234) rfl rfl
theorem k_8_235 : (Jvm.Cond.instanceMethod ({ cls := "StaveHouse", name := "play", desc := "(II)I" } : Jvm.MethodName)) ∈ wAll := wA_8 (j := 235) rfl rfl
theorem k_8_236 : (Jvm.Cond.selects "StaveHouse" ({ cls := "StaveHouse", name := "play", desc := "(II)I" } : Jvm.MethodName) ({ cls := "StaveHouse", name := "play", desc := "(II)I" } : Jvm.MethodName)) ∈ wAll := wA_8 (j := 236) rfl rfl
theorem k_13_206 : (Jvm.Cond.code ({ cls := "StaveHouseModel", name := "play", desc := "(II)I" } : Jvm.MethodName) prog_15_method_168_code (5 : Nat) (Option.some Jvm.ClassFile.FieldType.int)) ∈ wAll := wA_13 (j := 206) rfl rfl
theorem k_13_203 : (Jvm.Cond.methodLink "StaveHouseLaw" (109 : Nat) ({ cls := "StaveHouseModel", name := "play", desc := "(II)I" } : Jvm.MethodName)) ∈ wAll := wA_13 (j := 203) rfl rfl
theorem k_13_204 : (Jvm.Cond.instanceMethod ({ cls := "StaveHouseModel", name := "play", desc := "(II)I" } : Jvm.MethodName)) ∈ wAll := wA_13 (j := 204) rfl rfl
theorem k_13_205 : (Jvm.Cond.selects "StaveHouseModel" ({ cls := "StaveHouseModel", name := "play", desc := "(II)I" } : Jvm.MethodName) ({ cls := "StaveHouseModel", name := "play", desc := "(II)I" } : Jvm.MethodName)) ∈ wAll := wA_13 (j := 205) rfl rfl
theorem k_9_33 : (Jvm.Cond.code ({ cls := "StaveHouse", name := "sample", desc := "(III)I" } : Jvm.MethodName) prog_1_method_29_code (5 : Nat) (Option.some Jvm.ClassFile.FieldType.int)) ∈ wAll := wA_9 (j := 33) rfl rfl
theorem k_9_30 : (Jvm.Cond.methodLink "StaveHouseLaw" (110 : Nat) ({ cls := "StaveHouse", name := "sample", desc := "(III)I" } : Jvm.MethodName)) ∈ wAll := wA_9 (j := 30) rfl rfl
theorem k_9_31 : (Jvm.Cond.instanceMethod ({ cls := "StaveHouse", name := "sample", desc := "(III)I" } : Jvm.MethodName)) ∈ wAll := wA_9 (j := 31) rfl rfl
theorem k_9_32 : (Jvm.Cond.selects "StaveHouse" ({ cls := "StaveHouse", name := "sample", desc := "(III)I" } : Jvm.MethodName) ({ cls := "StaveHouse", name := "sample", desc := "(III)I" } : Jvm.MethodName)) ∈ wAll := wA_9 (j := 32) rfl rfl
theorem k_14_11 : (Jvm.Cond.code ({ cls := "StaveHouseModel", name := "sample", desc := "(III)I" } : Jvm.MethodName) prog_15_method_170_code (5 : Nat) (Option.some Jvm.ClassFile.FieldType.int)) ∈ wAll := wA_14 (j := 11) rfl rfl
theorem k_14_8 : (Jvm.Cond.methodLink "StaveHouseLaw" (113 : Nat) ({ cls := "StaveHouseModel", name := "sample", desc := "(III)I" } : Jvm.MethodName)) ∈ wAll := wA_14 (j := 8) rfl rfl
theorem k_14_9 : (Jvm.Cond.instanceMethod ({ cls := "StaveHouseModel", name := "sample", desc := "(III)I" } : Jvm.MethodName)) ∈ wAll := wA_14 (j := 9) rfl rfl
theorem k_14_10 : (Jvm.Cond.selects "StaveHouseModel" ({ cls := "StaveHouseModel", name := "sample", desc := "(III)I" } : Jvm.MethodName) ({ cls := "StaveHouseModel", name := "sample", desc := "(III)I" } : Jvm.MethodName)) ∈ wAll := wA_14 (j := 10) rfl rfl
theorem k_9_37 : (Jvm.Cond.code ({ cls := "StaveHouse", name := "moment", desc := "(III)J" } : Jvm.MethodName) prog_1_method_30_code (6 : Nat) (Option.some Jvm.ClassFile.FieldType.long)) ∈ wAll := wA_9 (j := 37) rfl rfl
theorem k_9_34 : (Jvm.Cond.methodLink "StaveHouseLaw" (114 : Nat) ({ cls := "StaveHouse", name := "moment", desc := "(III)J" } : Jvm.MethodName)) ∈ wAll := wA_9 (j := 34) rfl rfl
theorem k_9_35 : (Jvm.Cond.instanceMethod ({ cls := "StaveHouse", name := "moment", desc := "(III)J" } : Jvm.MethodName)) ∈ wAll := wA_9 (j := 35) rfl rfl
theorem k_9_36 : (Jvm.Cond.selects "StaveHouse" ({ cls := "StaveHouse", name := "moment", desc := "(III)J" } : Jvm.MethodName) ({ cls := "StaveHouse", name := "moment", desc := "(III)J" } : Jvm.MethodName)) ∈ wAll := wA_9 (j := 36) rfl rfl
theorem k_14_15 : (Jvm.Cond.code ({ cls := "StaveHouseModel", name := "moment", desc := "(III)J" } : Jvm.MethodName) prog_15_method_181_code (5 : Nat) (Option.some Jvm.ClassFile.FieldType.long)) ∈ wAll := wA_14 (j := 15) rfl rfl
theorem k_14_12 : (Jvm.Cond.methodLink "StaveHouseLaw" (117 : Nat) ({ cls := "StaveHouseModel", name := "moment", desc := "(III)J" } : Jvm.MethodName)) ∈ wAll := wA_14 (j := 12) rfl rfl
theorem k_14_13 : (Jvm.Cond.instanceMethod ({ cls := "StaveHouseModel", name := "moment", desc := "(III)J" } : Jvm.MethodName)) ∈ wAll := wA_14 (j := 13) rfl rfl
theorem k_14_14 : (Jvm.Cond.selects "StaveHouseModel" ({ cls := "StaveHouseModel", name := "moment", desc := "(III)J" } : Jvm.MethodName) ({ cls := "StaveHouseModel", name := "moment", desc := "(III)J" } : Jvm.MethodName)) ∈ wAll := wA_14 (j := 14) rfl rfl
theorem k_9_80 : (Jvm.Cond.code ({ cls := "StaveHouse", name := "fault", desc := "(III)I" } : Jvm.MethodName) prog_1_method_31_code (5 : Nat) (Option.some Jvm.ClassFile.FieldType.int)) ∈ wAll := wA_9 (j := 80) rfl rfl
theorem k_9_77 : (Jvm.Cond.methodLink "StaveHouseLaw" (118 : Nat) ({ cls := "StaveHouse", name := "fault", desc := "(III)I" } : Jvm.MethodName)) ∈ wAll := wA_9 (j := 77) rfl rfl
theorem k_9_78 : (Jvm.Cond.instanceMethod ({ cls := "StaveHouse", name := "fault", desc := "(III)I" } : Jvm.MethodName)) ∈ wAll := wA_9 (j := 78) rfl rfl
theorem k_9_79 : (Jvm.Cond.selects "StaveHouse" ({ cls := "StaveHouse", name := "fault", desc := "(III)I" } : Jvm.MethodName) ({ cls := "StaveHouse", name := "fault", desc := "(III)I" } : Jvm.MethodName)) ∈ wAll := wA_9 (j := 79) rfl rfl
theorem k_14_53 : (Jvm.Cond.code ({ cls := "StaveHouseModel", name := "fault", desc := "(III)I" } : Jvm.MethodName) prog_15_method_194_code (5 : Nat) (Option.some Jvm.ClassFile.FieldType.int)) ∈ wAll := wA_14 (j := 53) rfl rfl
theorem k_14_50 : (Jvm.Cond.methodLink "StaveHouseLaw" (121 : Nat) ({ cls := "StaveHouseModel", name := "fault", desc := "(III)I" } : Jvm.MethodName)) ∈ wAll := wA_14 (j := 50) rfl rfl
theorem k_14_51 : (Jvm.Cond.instanceMethod ({ cls := "StaveHouseModel", name := "fault", desc := "(III)I" } : Jvm.MethodName)) ∈ wAll := wA_14 (j := 51) rfl rfl
theorem k_14_52 : (Jvm.Cond.selects "StaveHouseModel" ({ cls := "StaveHouseModel", name := "fault", desc := "(III)I" } : Jvm.MethodName) ({ cls := "StaveHouseModel", name := "fault", desc := "(III)I" } : Jvm.MethodName)) ∈ wAll := wA_14 (j := 52) rfl rfl
theorem k_9_84 : (Jvm.Cond.code ({ cls := "StaveHouse", name := "follows", desc := "(IIII)J" } : Jvm.MethodName) prog_1_method_32_code (12 : Nat) (Option.some Jvm.ClassFile.FieldType.long)) ∈ wAll := wA_9 (j := 84) rfl rfl
theorem k_9_81 : (Jvm.Cond.methodLink "StaveHouseLaw" (122 : Nat) ({ cls := "StaveHouse", name := "follows", desc := "(IIII)J" } : Jvm.MethodName)) ∈ wAll := wA_9 (j := 81) rfl rfl
theorem k_9_82 : (Jvm.Cond.instanceMethod ({ cls := "StaveHouse", name := "follows", desc := "(IIII)J" } : Jvm.MethodName)) ∈ wAll := wA_9 (j := 82) rfl rfl
theorem k_9_83 : (Jvm.Cond.selects "StaveHouse" ({ cls := "StaveHouse", name := "follows", desc := "(IIII)J" } : Jvm.MethodName) ({ cls := "StaveHouse", name := "follows", desc := "(IIII)J" } : Jvm.MethodName)) ∈ wAll := wA_9 (j := 83) rfl rfl
theorem k_14_57 : (Jvm.Cond.code ({ cls := "StaveHouseModel", name := "follows", desc := "(IIII)J" } : Jvm.MethodName) prog_15_method_198_code (13 : Nat) (Option.some Jvm.ClassFile.FieldType.long)) ∈ wAll := wA_14 (j := 57) rfl rfl
theorem k_14_54 : (Jvm.Cond.methodLink "StaveHouseLaw" (125 : Nat) ({ cls := "StaveHouseModel", name := "follows", desc := "(IIII)J" } : Jvm.MethodName)) ∈ wAll := wA_14 (j := 54) rfl rfl
theorem k_14_55 : (Jvm.Cond.instanceMethod ({ cls := "StaveHouseModel", name := "follows", desc := "(IIII)J" } : Jvm.MethodName)) ∈ wAll := wA_14 (j := 55) rfl rfl
theorem k_14_56 : (Jvm.Cond.selects "StaveHouseModel" ({ cls := "StaveHouseModel", name := "follows", desc := "(IIII)J" } : Jvm.MethodName) ({ cls := "StaveHouseModel", name := "follows", desc := "(IIII)J" } : Jvm.MethodName)) ∈ wAll := wA_14 (j := 56) rfl rfl
theorem k_9_102 : (Jvm.Cond.code ({ cls := "StaveHouse", name := "shape", desc := "(IIIIIIII)I" } : Jvm.MethodName) prog_1_method_33_code (14 : Nat) (Option.some Jvm.ClassFile.FieldType.int)) ∈ wAll := wA_9 (j := 102) rfl rfl
theorem k_9_99 : (Jvm.Cond.methodLink "StaveHouseLaw" (126 : Nat) ({ cls := "StaveHouse", name := "shape", desc := "(IIIIIIII)I" } : Jvm.MethodName)) ∈ wAll := wA_9 (j := 99) rfl rfl
theorem k_9_100 : (Jvm.Cond.instanceMethod ({ cls := "StaveHouse", name := "shape", desc := "(IIIIIIII)I" } : Jvm.MethodName)) ∈ wAll := wA_9 (j := 100) rfl rfl
theorem k_9_101 : (Jvm.Cond.selects "StaveHouse" ({ cls := "StaveHouse", name := "shape", desc := "(IIIIIIII)I" } : Jvm.MethodName) ({ cls := "StaveHouse", name := "shape", desc := "(IIIIIIII)I" } : Jvm.MethodName)) ∈ wAll := wA_9 (j := 101) rfl rfl
theorem k_14_70 : (Jvm.Cond.code ({ cls := "StaveHouseModel", name := "shape", desc := "(IIIIIIII)I" } : Jvm.MethodName) prog_15_method_199_code (13 : Nat) (Option.some Jvm.ClassFile.FieldType.int)) ∈ wAll := wA_14 (j := 70) rfl rfl
theorem k_14_67 : (Jvm.Cond.methodLink "StaveHouseLaw" (130 : Nat) ({ cls := "StaveHouseModel", name := "shape", desc := "(IIIIIIII)I" } : Jvm.MethodName)) ∈ wAll := wA_14 (j := 67) rfl rfl
theorem k_14_68 : (Jvm.Cond.instanceMethod ({ cls := "StaveHouseModel", name := "shape", desc := "(IIIIIIII)I" } : Jvm.MethodName)) ∈ wAll := wA_14 (j := 68) rfl rfl
theorem k_14_69 : (Jvm.Cond.selects "StaveHouseModel" ({ cls := "StaveHouseModel", name := "shape", desc := "(IIIIIIII)I" } : Jvm.MethodName) ({ cls := "StaveHouseModel", name := "shape", desc := "(IIIIIIII)I" } : Jvm.MethodName)) ∈ wAll := wA_14 (j := 69) rfl rfl
theorem d_code_1198 : decode code 1198 = .ok (.iinc 3 9, 3) := by decide +kernel
theorem d_code_1201 : decode code 1201 = .ok (.goto (-1183), 3) := by decide +kernel
theorem d_code_18 : decode code 18 = .ok (.iload_n 3, 1) := by decide +kernel
theorem d_code_19 : decode code 19 = .ok (.aload_n 0, 1) := by decide +kernel
theorem d_code_20 : decode code 20 = .ok (.arraylength, 1) := by decide +kernel
theorem d_code_21 : decode code 21 = .ok (.bipush 9, 2) := by decide +kernel
theorem d_code_23 : decode code 23 = .ok (.isub, 1) := by decide +kernel
theorem d_code_24 : decode code 24 = .ok (.if_icmp .gt 1180, 3) := by decide +kernel
theorem d_code_1204 : decode code 1204 = .ok (.iconst 1, 1) := by decide +kernel
theorem d_code_1205 : decode code 1205 = .ok (.ireturn, 1) := by decide +kernel
theorem d_code_156 : decode code 156 = .ok (.aload_n 1, 1) := by decide +kernel
theorem d_code_157 : decode code 157 = .ok (.aload_n 0, 1) := by decide +kernel
theorem d_code_158 : decode code 158 = .ok (.iload_n 3, 1) := by decide +kernel
theorem d_code_159 : decode code 159 = .ok (.iconst 1, 1) := by decide +kernel
theorem d_code_160 : decode code 160 = .ok (.iadd, 1) := by decide +kernel
theorem d_code_161 : decode code 161 = .ok (.iaload, 1) := by decide +kernel
theorem d_code_162 : decode code 162 = .ok (.aload_n 0, 1) := by decide +kernel
theorem d_code_163 : decode code 163 = .ok (.iload_n 3, 1) := by decide +kernel
theorem d_code_164 : decode code 164 = .ok (.iconst 2, 1) := by decide +kernel
theorem d_code_165 : decode code 165 = .ok (.iadd, 1) := by decide +kernel
theorem d_code_166 : decode code 166 = .ok (.iaload, 1) := by decide +kernel
theorem d_code_167 : decode code 167 = .ok (.aload_n 0, 1) := by decide +kernel
theorem d_code_168 : decode code 168 = .ok (.iload_n 3, 1) := by decide +kernel
theorem d_code_169 : decode code 169 = .ok (.iconst 3, 1) := by decide +kernel
theorem d_code_170 : decode code 170 = .ok (.iadd, 1) := by decide +kernel
theorem d_code_171 : decode code 171 = .ok (.iaload, 1) := by decide +kernel
theorem d_code_172 : decode code 172 = .ok (.aload_n 0, 1) := by decide +kernel
theorem d_code_173 : decode code 173 = .ok (.iload_n 3, 1) := by decide +kernel
theorem d_code_174 : decode code 174 = .ok (.iconst 4, 1) := by decide +kernel
theorem d_code_175 : decode code 175 = .ok (.iadd, 1) := by decide +kernel
theorem d_code_176 : decode code 176 = .ok (.iaload, 1) := by decide +kernel
theorem d_code_177 : decode code 177 = .ok (.aload_n 0, 1) := by decide +kernel
theorem d_code_178 : decode code 178 = .ok (.iload_n 3, 1) := by decide +kernel
theorem d_code_179 : decode code 179 = .ok (.iconst 5, 1) := by decide +kernel
theorem d_code_180 : decode code 180 = .ok (.iadd, 1) := by decide +kernel
theorem d_code_181 : decode code 181 = .ok (.iaload, 1) := by decide +kernel
theorem d_code_182 : decode code 182 = .ok (.invokevirtual 13, 3) := by decide +kernel
theorem d_code_185 : decode code 185 = .ok (.aload_n 2, 1) := by decide +kernel
theorem d_code_186 : decode code 186 = .ok (.aload_n 0, 1) := by decide +kernel
theorem d_code_187 : decode code 187 = .ok (.iload_n 3, 1) := by decide +kernel
theorem d_code_188 : decode code 188 = .ok (.iconst 1, 1) := by decide +kernel
theorem d_code_189 : decode code 189 = .ok (.iadd, 1) := by decide +kernel
theorem d_code_190 : decode code 190 = .ok (.iaload, 1) := by decide +kernel
theorem d_code_191 : decode code 191 = .ok (.aload_n 0, 1) := by decide +kernel
theorem d_code_192 : decode code 192 = .ok (.iload_n 3, 1) := by decide +kernel
theorem d_code_193 : decode code 193 = .ok (.iconst 2, 1) := by decide +kernel
theorem d_code_194 : decode code 194 = .ok (.iadd, 1) := by decide +kernel
theorem d_code_195 : decode code 195 = .ok (.iaload, 1) := by decide +kernel
theorem d_code_196 : decode code 196 = .ok (.aload_n 0, 1) := by decide +kernel
theorem d_code_197 : decode code 197 = .ok (.iload_n 3, 1) := by decide +kernel
theorem d_code_198 : decode code 198 = .ok (.iconst 3, 1) := by decide +kernel
theorem d_code_199 : decode code 199 = .ok (.iadd, 1) := by decide +kernel
theorem d_code_200 : decode code 200 = .ok (.iaload, 1) := by decide +kernel
theorem d_code_201 : decode code 201 = .ok (.aload_n 0, 1) := by decide +kernel
theorem d_code_202 : decode code 202 = .ok (.iload_n 3, 1) := by decide +kernel
theorem d_code_203 : decode code 203 = .ok (.iconst 4, 1) := by decide +kernel
theorem d_code_204 : decode code 204 = .ok (.iadd, 1) := by decide +kernel
theorem d_code_205 : decode code 205 = .ok (.iaload, 1) := by decide +kernel
theorem d_code_206 : decode code 206 = .ok (.aload_n 0, 1) := by decide +kernel
theorem d_code_207 : decode code 207 = .ok (.iload_n 3, 1) := by decide +kernel
theorem d_code_208 : decode code 208 = .ok (.iconst 5, 1) := by decide +kernel
theorem d_code_209 : decode code 209 = .ok (.iadd, 1) := by decide +kernel
theorem d_code_210 : decode code 210 = .ok (.iaload, 1) := by decide +kernel
theorem d_code_211 : decode code 211 = .ok (.invokevirtual 17, 3) := by decide +kernel
theorem d_code_214 : decode code 214 = .ok (.goto 984, 3) := by decide +kernel
theorem d_code_217 : decode code 217 = .ok (.aload_n 1, 1) := by decide +kernel
theorem d_code_218 : decode code 218 = .ok (.aload_n 0, 1) := by decide +kernel
theorem d_code_219 : decode code 219 = .ok (.iload_n 3, 1) := by decide +kernel
theorem d_code_220 : decode code 220 = .ok (.iconst 1, 1) := by decide +kernel
theorem d_code_221 : decode code 221 = .ok (.iadd, 1) := by decide +kernel
theorem d_code_222 : decode code 222 = .ok (.iaload, 1) := by decide +kernel
theorem d_code_223 : decode code 223 = .ok (.invokevirtual 18, 3) := by decide +kernel
theorem d_code_226 : decode code 226 = .ok (.aload_n 2, 1) := by decide +kernel
theorem d_code_227 : decode code 227 = .ok (.aload_n 0, 1) := by decide +kernel
theorem d_code_228 : decode code 228 = .ok (.iload_n 3, 1) := by decide +kernel
theorem d_code_229 : decode code 229 = .ok (.iconst 1, 1) := by decide +kernel
theorem d_code_230 : decode code 230 = .ok (.iadd, 1) := by decide +kernel
theorem d_code_231 : decode code 231 = .ok (.iaload, 1) := by decide +kernel
theorem d_code_232 : decode code 232 = .ok (.invokevirtual 22, 3) := by decide +kernel
theorem d_code_235 : decode code 235 = .ok (.if_icmp .eq 963, 3) := by decide +kernel
theorem d_code_240 : decode code 240 = .ok (.aload_n 1, 1) := by decide +kernel
theorem d_code_241 : decode code 241 = .ok (.aload_n 0, 1) := by decide +kernel
theorem d_code_242 : decode code 242 = .ok (.iload_n 3, 1) := by decide +kernel
theorem d_code_243 : decode code 243 = .ok (.iconst 1, 1) := by decide +kernel
theorem d_code_244 : decode code 244 = .ok (.iadd, 1) := by decide +kernel
theorem d_code_245 : decode code 245 = .ok (.iaload, 1) := by decide +kernel
theorem d_code_246 : decode code 246 = .ok (.invokevirtual 23, 3) := by decide +kernel
theorem d_code_249 : decode code 249 = .ok (.aload_n 2, 1) := by decide +kernel
theorem d_code_250 : decode code 250 = .ok (.aload_n 0, 1) := by decide +kernel
theorem d_code_251 : decode code 251 = .ok (.iload_n 3, 1) := by decide +kernel
theorem d_code_252 : decode code 252 = .ok (.iconst 1, 1) := by decide +kernel
theorem d_code_253 : decode code 253 = .ok (.iadd, 1) := by decide +kernel
theorem d_code_254 : decode code 254 = .ok (.iaload, 1) := by decide +kernel
theorem d_code_255 : decode code 255 = .ok (.invokevirtual 26, 3) := by decide +kernel
theorem d_code_258 : decode code 258 = .ok (.if_icmp .eq 940, 3) := by decide +kernel
theorem d_code_263 : decode code 263 = .ok (.aload_n 1, 1) := by decide +kernel
theorem d_code_264 : decode code 264 = .ok (.aload_n 0, 1) := by decide +kernel
theorem d_code_265 : decode code 265 = .ok (.iload_n 3, 1) := by decide +kernel
theorem d_code_266 : decode code 266 = .ok (.iconst 1, 1) := by decide +kernel
theorem d_code_267 : decode code 267 = .ok (.iadd, 1) := by decide +kernel
theorem d_code_268 : decode code 268 = .ok (.iaload, 1) := by decide +kernel
theorem d_code_269 : decode code 269 = .ok (.aload_n 0, 1) := by decide +kernel
theorem d_code_270 : decode code 270 = .ok (.iload_n 3, 1) := by decide +kernel
theorem d_code_271 : decode code 271 = .ok (.iconst 2, 1) := by decide +kernel
theorem d_code_272 : decode code 272 = .ok (.iadd, 1) := by decide +kernel
theorem d_code_273 : decode code 273 = .ok (.iaload, 1) := by decide +kernel
theorem d_code_274 : decode code 274 = .ok (.invokevirtual 27, 3) := by decide +kernel
theorem d_code_277 : decode code 277 = .ok (.aload_n 2, 1) := by decide +kernel
theorem d_code_278 : decode code 278 = .ok (.aload_n 0, 1) := by decide +kernel
theorem d_code_279 : decode code 279 = .ok (.iload_n 3, 1) := by decide +kernel
theorem d_code_280 : decode code 280 = .ok (.iconst 1, 1) := by decide +kernel
theorem d_code_281 : decode code 281 = .ok (.iadd, 1) := by decide +kernel
theorem d_code_282 : decode code 282 = .ok (.iaload, 1) := by decide +kernel
theorem d_code_283 : decode code 283 = .ok (.aload_n 0, 1) := by decide +kernel
theorem d_code_284 : decode code 284 = .ok (.iload_n 3, 1) := by decide +kernel
theorem d_code_285 : decode code 285 = .ok (.iconst 2, 1) := by decide +kernel
theorem d_code_286 : decode code 286 = .ok (.iadd, 1) := by decide +kernel
theorem d_code_287 : decode code 287 = .ok (.iaload, 1) := by decide +kernel
theorem d_code_288 : decode code 288 = .ok (.invokevirtual 31, 3) := by decide +kernel
theorem d_code_291 : decode code 291 = .ok (.if_icmp .eq 907, 3) := by decide +kernel
theorem d_code_296 : decode code 296 = .ok (.aload_n 1, 1) := by decide +kernel
theorem d_code_297 : decode code 297 = .ok (.aload_n 0, 1) := by decide +kernel
theorem d_code_298 : decode code 298 = .ok (.iload_n 3, 1) := by decide +kernel
theorem d_code_299 : decode code 299 = .ok (.iconst 1, 1) := by decide +kernel
theorem d_code_300 : decode code 300 = .ok (.iadd, 1) := by decide +kernel
theorem d_code_301 : decode code 301 = .ok (.iaload, 1) := by decide +kernel
theorem d_code_302 : decode code 302 = .ok (.aload_n 0, 1) := by decide +kernel
theorem d_code_303 : decode code 303 = .ok (.iload_n 3, 1) := by decide +kernel
theorem d_code_304 : decode code 304 = .ok (.iconst 2, 1) := by decide +kernel
theorem d_code_305 : decode code 305 = .ok (.iadd, 1) := by decide +kernel
theorem d_code_306 : decode code 306 = .ok (.iaload, 1) := by decide +kernel
theorem d_code_307 : decode code 307 = .ok (.aload_n 0, 1) := by decide +kernel
theorem d_code_308 : decode code 308 = .ok (.iload_n 3, 1) := by decide +kernel
theorem d_code_309 : decode code 309 = .ok (.iconst 3, 1) := by decide +kernel
theorem d_code_310 : decode code 310 = .ok (.iadd, 1) := by decide +kernel
theorem d_code_311 : decode code 311 = .ok (.iaload, 1) := by decide +kernel
theorem d_code_312 : decode code 312 = .ok (.invokevirtual 32, 3) := by decide +kernel
theorem d_code_315 : decode code 315 = .ok (.aload_n 2, 1) := by decide +kernel
theorem d_code_316 : decode code 316 = .ok (.aload_n 0, 1) := by decide +kernel
theorem d_code_317 : decode code 317 = .ok (.iload_n 3, 1) := by decide +kernel
theorem d_code_318 : decode code 318 = .ok (.iconst 1, 1) := by decide +kernel
theorem d_code_319 : decode code 319 = .ok (.iadd, 1) := by decide +kernel
theorem d_code_320 : decode code 320 = .ok (.iaload, 1) := by decide +kernel
theorem d_code_321 : decode code 321 = .ok (.aload_n 0, 1) := by decide +kernel
theorem d_code_322 : decode code 322 = .ok (.iload_n 3, 1) := by decide +kernel
theorem d_code_323 : decode code 323 = .ok (.iconst 2, 1) := by decide +kernel
theorem d_code_324 : decode code 324 = .ok (.iadd, 1) := by decide +kernel
theorem d_code_325 : decode code 325 = .ok (.iaload, 1) := by decide +kernel
theorem d_code_326 : decode code 326 = .ok (.aload_n 0, 1) := by decide +kernel
theorem d_code_327 : decode code 327 = .ok (.iload_n 3, 1) := by decide +kernel
theorem d_code_328 : decode code 328 = .ok (.iconst 3, 1) := by decide +kernel
theorem d_code_329 : decode code 329 = .ok (.iadd, 1) := by decide +kernel
theorem d_code_330 : decode code 330 = .ok (.iaload, 1) := by decide +kernel
theorem d_code_331 : decode code 331 = .ok (.invokevirtual 36, 3) := by decide +kernel
theorem d_code_334 : decode code 334 = .ok (.if_icmp .eq 864, 3) := by decide +kernel
theorem d_code_339 : decode code 339 = .ok (.aload_n 1, 1) := by decide +kernel
theorem d_code_340 : decode code 340 = .ok (.aload_n 0, 1) := by decide +kernel
theorem d_code_341 : decode code 341 = .ok (.iload_n 3, 1) := by decide +kernel
theorem d_code_342 : decode code 342 = .ok (.iconst 1, 1) := by decide +kernel
theorem d_code_343 : decode code 343 = .ok (.iadd, 1) := by decide +kernel
theorem d_code_344 : decode code 344 = .ok (.iaload, 1) := by decide +kernel
theorem d_code_345 : decode code 345 = .ok (.aload_n 0, 1) := by decide +kernel
theorem d_code_346 : decode code 346 = .ok (.iload_n 3, 1) := by decide +kernel
theorem d_code_347 : decode code 347 = .ok (.iconst 2, 1) := by decide +kernel
theorem d_code_348 : decode code 348 = .ok (.iadd, 1) := by decide +kernel
theorem d_code_349 : decode code 349 = .ok (.iaload, 1) := by decide +kernel
theorem d_code_350 : decode code 350 = .ok (.invokevirtual 37, 3) := by decide +kernel
theorem d_code_353 : decode code 353 = .ok (.aload_n 2, 1) := by decide +kernel
theorem d_code_354 : decode code 354 = .ok (.aload_n 0, 1) := by decide +kernel
theorem d_code_355 : decode code 355 = .ok (.iload_n 3, 1) := by decide +kernel
theorem d_code_356 : decode code 356 = .ok (.iconst 1, 1) := by decide +kernel
theorem d_code_357 : decode code 357 = .ok (.iadd, 1) := by decide +kernel
theorem d_code_358 : decode code 358 = .ok (.iaload, 1) := by decide +kernel
theorem d_code_359 : decode code 359 = .ok (.aload_n 0, 1) := by decide +kernel
theorem d_code_360 : decode code 360 = .ok (.iload_n 3, 1) := by decide +kernel
theorem d_code_361 : decode code 361 = .ok (.iconst 2, 1) := by decide +kernel
theorem d_code_362 : decode code 362 = .ok (.iadd, 1) := by decide +kernel
theorem d_code_363 : decode code 363 = .ok (.iaload, 1) := by decide +kernel
theorem d_code_364 : decode code 364 = .ok (.invokevirtual 41, 3) := by decide +kernel
theorem d_code_367 : decode code 367 = .ok (.lcmp, 1) := by decide +kernel
theorem d_code_368 : decode code 368 = .ok (.ifCond .eq 830, 3) := by decide +kernel
theorem d_code_373 : decode code 373 = .ok (.aload_n 1, 1) := by decide +kernel
theorem d_code_374 : decode code 374 = .ok (.aload_n 0, 1) := by decide +kernel
theorem d_code_375 : decode code 375 = .ok (.iload_n 3, 1) := by decide +kernel
theorem d_code_376 : decode code 376 = .ok (.iconst 1, 1) := by decide +kernel
theorem d_code_377 : decode code 377 = .ok (.iadd, 1) := by decide +kernel
theorem d_code_378 : decode code 378 = .ok (.iaload, 1) := by decide +kernel
theorem d_code_379 : decode code 379 = .ok (.aload_n 0, 1) := by decide +kernel
theorem d_code_380 : decode code 380 = .ok (.iload_n 3, 1) := by decide +kernel
theorem d_code_381 : decode code 381 = .ok (.iconst 2, 1) := by decide +kernel
theorem d_code_382 : decode code 382 = .ok (.iadd, 1) := by decide +kernel
theorem d_code_383 : decode code 383 = .ok (.iaload, 1) := by decide +kernel
theorem d_code_384 : decode code 384 = .ok (.aload_n 0, 1) := by decide +kernel
theorem d_code_385 : decode code 385 = .ok (.iload_n 3, 1) := by decide +kernel
theorem d_code_386 : decode code 386 = .ok (.iconst 3, 1) := by decide +kernel
theorem d_code_387 : decode code 387 = .ok (.iadd, 1) := by decide +kernel
theorem d_code_388 : decode code 388 = .ok (.iaload, 1) := by decide +kernel
theorem d_code_389 : decode code 389 = .ok (.aload_n 0, 1) := by decide +kernel
theorem d_code_390 : decode code 390 = .ok (.iload_n 3, 1) := by decide +kernel
theorem d_code_391 : decode code 391 = .ok (.iconst 4, 1) := by decide +kernel
theorem d_code_392 : decode code 392 = .ok (.iadd, 1) := by decide +kernel
theorem d_code_393 : decode code 393 = .ok (.iaload, 1) := by decide +kernel
theorem d_code_394 : decode code 394 = .ok (.invokevirtual 42, 3) := by decide +kernel
theorem d_code_397 : decode code 397 = .ok (.aload_n 2, 1) := by decide +kernel
theorem d_code_398 : decode code 398 = .ok (.aload_n 0, 1) := by decide +kernel
theorem d_code_399 : decode code 399 = .ok (.iload_n 3, 1) := by decide +kernel
theorem d_code_400 : decode code 400 = .ok (.iconst 1, 1) := by decide +kernel
theorem d_code_401 : decode code 401 = .ok (.iadd, 1) := by decide +kernel
theorem d_code_402 : decode code 402 = .ok (.iaload, 1) := by decide +kernel
theorem d_code_403 : decode code 403 = .ok (.aload_n 0, 1) := by decide +kernel
theorem d_code_404 : decode code 404 = .ok (.iload_n 3, 1) := by decide +kernel
theorem d_code_405 : decode code 405 = .ok (.iconst 2, 1) := by decide +kernel
theorem d_code_406 : decode code 406 = .ok (.iadd, 1) := by decide +kernel
theorem d_code_407 : decode code 407 = .ok (.iaload, 1) := by decide +kernel
theorem d_code_408 : decode code 408 = .ok (.aload_n 0, 1) := by decide +kernel
theorem d_code_409 : decode code 409 = .ok (.iload_n 3, 1) := by decide +kernel
theorem d_code_410 : decode code 410 = .ok (.iconst 3, 1) := by decide +kernel
theorem d_code_411 : decode code 411 = .ok (.iadd, 1) := by decide +kernel
theorem d_code_412 : decode code 412 = .ok (.iaload, 1) := by decide +kernel
theorem d_code_413 : decode code 413 = .ok (.aload_n 0, 1) := by decide +kernel
theorem d_code_414 : decode code 414 = .ok (.iload_n 3, 1) := by decide +kernel
theorem d_code_415 : decode code 415 = .ok (.iconst 4, 1) := by decide +kernel
theorem d_code_416 : decode code 416 = .ok (.iadd, 1) := by decide +kernel
theorem d_code_417 : decode code 417 = .ok (.iaload, 1) := by decide +kernel
theorem d_code_418 : decode code 418 = .ok (.invokevirtual 46, 3) := by decide +kernel
theorem d_code_421 : decode code 421 = .ok (.lcmp, 1) := by decide +kernel
theorem d_code_422 : decode code 422 = .ok (.ifCond .eq 776, 3) := by decide +kernel
theorem d_code_427 : decode code 427 = .ok (.aload_n 1, 1) := by decide +kernel
theorem d_code_428 : decode code 428 = .ok (.aload_n 0, 1) := by decide +kernel
theorem d_code_429 : decode code 429 = .ok (.iload_n 3, 1) := by decide +kernel
theorem d_code_430 : decode code 430 = .ok (.iconst 1, 1) := by decide +kernel
theorem d_code_431 : decode code 431 = .ok (.iadd, 1) := by decide +kernel
theorem d_code_432 : decode code 432 = .ok (.iaload, 1) := by decide +kernel
theorem d_code_433 : decode code 433 = .ok (.aload_n 0, 1) := by decide +kernel
theorem d_code_434 : decode code 434 = .ok (.iload_n 3, 1) := by decide +kernel
theorem d_code_435 : decode code 435 = .ok (.iconst 2, 1) := by decide +kernel
theorem d_code_436 : decode code 436 = .ok (.iadd, 1) := by decide +kernel
theorem d_code_437 : decode code 437 = .ok (.iaload, 1) := by decide +kernel
theorem d_code_438 : decode code 438 = .ok (.aload_n 0, 1) := by decide +kernel
theorem d_code_439 : decode code 439 = .ok (.iload_n 3, 1) := by decide +kernel
theorem d_code_440 : decode code 440 = .ok (.iconst 3, 1) := by decide +kernel
theorem d_code_441 : decode code 441 = .ok (.iadd, 1) := by decide +kernel
theorem d_code_442 : decode code 442 = .ok (.iaload, 1) := by decide +kernel
theorem d_code_443 : decode code 443 = .ok (.aload_n 0, 1) := by decide +kernel
theorem d_code_444 : decode code 444 = .ok (.iload_n 3, 1) := by decide +kernel
theorem d_code_445 : decode code 445 = .ok (.iconst 4, 1) := by decide +kernel
theorem d_code_446 : decode code 446 = .ok (.iadd, 1) := by decide +kernel
theorem d_code_447 : decode code 447 = .ok (.iaload, 1) := by decide +kernel
theorem d_code_448 : decode code 448 = .ok (.aload_n 0, 1) := by decide +kernel
theorem d_code_449 : decode code 449 = .ok (.iload_n 3, 1) := by decide +kernel
theorem d_code_450 : decode code 450 = .ok (.iconst 5, 1) := by decide +kernel
theorem d_code_451 : decode code 451 = .ok (.iadd, 1) := by decide +kernel
theorem d_code_452 : decode code 452 = .ok (.iaload, 1) := by decide +kernel
theorem d_code_453 : decode code 453 = .ok (.invokevirtual 47, 3) := by decide +kernel
theorem d_code_456 : decode code 456 = .ok (.aload_n 2, 1) := by decide +kernel
theorem d_code_457 : decode code 457 = .ok (.aload_n 0, 1) := by decide +kernel
theorem d_code_458 : decode code 458 = .ok (.iload_n 3, 1) := by decide +kernel
theorem d_code_459 : decode code 459 = .ok (.iconst 1, 1) := by decide +kernel
theorem d_code_460 : decode code 460 = .ok (.iadd, 1) := by decide +kernel
theorem d_code_461 : decode code 461 = .ok (.iaload, 1) := by decide +kernel
theorem d_code_462 : decode code 462 = .ok (.aload_n 0, 1) := by decide +kernel
theorem d_code_463 : decode code 463 = .ok (.iload_n 3, 1) := by decide +kernel
theorem d_code_464 : decode code 464 = .ok (.iconst 2, 1) := by decide +kernel
theorem d_code_465 : decode code 465 = .ok (.iadd, 1) := by decide +kernel
theorem d_code_466 : decode code 466 = .ok (.iaload, 1) := by decide +kernel
theorem d_code_467 : decode code 467 = .ok (.aload_n 0, 1) := by decide +kernel
theorem d_code_468 : decode code 468 = .ok (.iload_n 3, 1) := by decide +kernel
theorem d_code_469 : decode code 469 = .ok (.iconst 3, 1) := by decide +kernel
theorem d_code_470 : decode code 470 = .ok (.iadd, 1) := by decide +kernel
theorem d_code_471 : decode code 471 = .ok (.iaload, 1) := by decide +kernel
theorem d_code_472 : decode code 472 = .ok (.aload_n 0, 1) := by decide +kernel
theorem d_code_473 : decode code 473 = .ok (.iload_n 3, 1) := by decide +kernel
theorem d_code_474 : decode code 474 = .ok (.iconst 4, 1) := by decide +kernel
theorem d_code_475 : decode code 475 = .ok (.iadd, 1) := by decide +kernel
theorem d_code_476 : decode code 476 = .ok (.iaload, 1) := by decide +kernel
theorem d_code_477 : decode code 477 = .ok (.aload_n 0, 1) := by decide +kernel
theorem d_code_478 : decode code 478 = .ok (.iload_n 3, 1) := by decide +kernel
theorem d_code_479 : decode code 479 = .ok (.iconst 5, 1) := by decide +kernel
theorem d_code_480 : decode code 480 = .ok (.iadd, 1) := by decide +kernel
theorem d_code_481 : decode code 481 = .ok (.iaload, 1) := by decide +kernel
theorem d_code_482 : decode code 482 = .ok (.invokevirtual 51, 3) := by decide +kernel
theorem d_code_485 : decode code 485 = .ok (.if_icmp .eq 713, 3) := by decide +kernel
theorem d_code_490 : decode code 490 = .ok (.aload_n 1, 1) := by decide +kernel
theorem d_code_491 : decode code 491 = .ok (.aload_n 0, 1) := by decide +kernel
theorem d_code_492 : decode code 492 = .ok (.iload_n 3, 1) := by decide +kernel
theorem d_code_493 : decode code 493 = .ok (.iconst 1, 1) := by decide +kernel
theorem d_code_494 : decode code 494 = .ok (.iadd, 1) := by decide +kernel
theorem d_code_495 : decode code 495 = .ok (.iaload, 1) := by decide +kernel
theorem d_code_496 : decode code 496 = .ok (.aload_n 0, 1) := by decide +kernel
theorem d_code_497 : decode code 497 = .ok (.iload_n 3, 1) := by decide +kernel
theorem d_code_498 : decode code 498 = .ok (.iconst 2, 1) := by decide +kernel
theorem d_code_499 : decode code 499 = .ok (.iadd, 1) := by decide +kernel
theorem d_code_500 : decode code 500 = .ok (.iaload, 1) := by decide +kernel
theorem d_code_501 : decode code 501 = .ok (.aload_n 0, 1) := by decide +kernel
theorem d_code_502 : decode code 502 = .ok (.iload_n 3, 1) := by decide +kernel
theorem d_code_503 : decode code 503 = .ok (.iconst 3, 1) := by decide +kernel
theorem d_code_504 : decode code 504 = .ok (.iadd, 1) := by decide +kernel
theorem d_code_505 : decode code 505 = .ok (.iaload, 1) := by decide +kernel
theorem d_code_506 : decode code 506 = .ok (.aload_n 0, 1) := by decide +kernel
theorem d_code_507 : decode code 507 = .ok (.iload_n 3, 1) := by decide +kernel
theorem d_code_508 : decode code 508 = .ok (.iconst 4, 1) := by decide +kernel
theorem d_code_509 : decode code 509 = .ok (.iadd, 1) := by decide +kernel
theorem d_code_510 : decode code 510 = .ok (.iaload, 1) := by decide +kernel
theorem d_code_511 : decode code 511 = .ok (.invokevirtual 52, 3) := by decide +kernel
theorem d_code_514 : decode code 514 = .ok (.aload_n 2, 1) := by decide +kernel
theorem d_code_515 : decode code 515 = .ok (.aload_n 0, 1) := by decide +kernel
theorem d_code_516 : decode code 516 = .ok (.iload_n 3, 1) := by decide +kernel
theorem d_code_517 : decode code 517 = .ok (.iconst 1, 1) := by decide +kernel
theorem d_code_518 : decode code 518 = .ok (.iadd, 1) := by decide +kernel
theorem d_code_519 : decode code 519 = .ok (.iaload, 1) := by decide +kernel
theorem d_code_520 : decode code 520 = .ok (.aload_n 0, 1) := by decide +kernel
theorem d_code_521 : decode code 521 = .ok (.iload_n 3, 1) := by decide +kernel
theorem d_code_522 : decode code 522 = .ok (.iconst 2, 1) := by decide +kernel
theorem d_code_523 : decode code 523 = .ok (.iadd, 1) := by decide +kernel
theorem d_code_524 : decode code 524 = .ok (.iaload, 1) := by decide +kernel
theorem d_code_525 : decode code 525 = .ok (.aload_n 0, 1) := by decide +kernel
theorem d_code_526 : decode code 526 = .ok (.iload_n 3, 1) := by decide +kernel
theorem d_code_527 : decode code 527 = .ok (.iconst 3, 1) := by decide +kernel
theorem d_code_528 : decode code 528 = .ok (.iadd, 1) := by decide +kernel
theorem d_code_529 : decode code 529 = .ok (.iaload, 1) := by decide +kernel
theorem d_code_530 : decode code 530 = .ok (.aload_n 0, 1) := by decide +kernel
theorem d_code_531 : decode code 531 = .ok (.iload_n 3, 1) := by decide +kernel
theorem d_code_532 : decode code 532 = .ok (.iconst 4, 1) := by decide +kernel
theorem d_code_533 : decode code 533 = .ok (.iadd, 1) := by decide +kernel
theorem d_code_534 : decode code 534 = .ok (.iaload, 1) := by decide +kernel
theorem d_code_535 : decode code 535 = .ok (.invokevirtual 55, 3) := by decide +kernel
theorem d_code_538 : decode code 538 = .ok (.lcmp, 1) := by decide +kernel
theorem d_code_539 : decode code 539 = .ok (.ifCond .eq 659, 3) := by decide +kernel
theorem d_code_544 : decode code 544 = .ok (.aload_n 1, 1) := by decide +kernel
theorem d_code_545 : decode code 545 = .ok (.aload_n 0, 1) := by decide +kernel
theorem d_code_546 : decode code 546 = .ok (.iload_n 3, 1) := by decide +kernel
theorem d_code_547 : decode code 547 = .ok (.iconst 1, 1) := by decide +kernel
theorem d_code_548 : decode code 548 = .ok (.iadd, 1) := by decide +kernel
theorem d_code_549 : decode code 549 = .ok (.iaload, 1) := by decide +kernel
theorem d_code_550 : decode code 550 = .ok (.aload_n 0, 1) := by decide +kernel
theorem d_code_551 : decode code 551 = .ok (.iload_n 3, 1) := by decide +kernel
theorem d_code_552 : decode code 552 = .ok (.iconst 2, 1) := by decide +kernel
theorem d_code_553 : decode code 553 = .ok (.iadd, 1) := by decide +kernel
theorem d_code_554 : decode code 554 = .ok (.iaload, 1) := by decide +kernel
theorem d_code_555 : decode code 555 = .ok (.invokevirtual 56, 3) := by decide +kernel
theorem d_code_558 : decode code 558 = .ok (.aload_n 2, 1) := by decide +kernel
theorem d_code_559 : decode code 559 = .ok (.aload_n 0, 1) := by decide +kernel
theorem d_code_560 : decode code 560 = .ok (.iload_n 3, 1) := by decide +kernel
theorem d_code_561 : decode code 561 = .ok (.iconst 1, 1) := by decide +kernel
theorem d_code_562 : decode code 562 = .ok (.iadd, 1) := by decide +kernel
theorem d_code_563 : decode code 563 = .ok (.iaload, 1) := by decide +kernel
theorem d_code_564 : decode code 564 = .ok (.aload_n 0, 1) := by decide +kernel
theorem d_code_565 : decode code 565 = .ok (.iload_n 3, 1) := by decide +kernel
theorem d_code_566 : decode code 566 = .ok (.iconst 2, 1) := by decide +kernel
theorem d_code_567 : decode code 567 = .ok (.iadd, 1) := by decide +kernel
theorem d_code_568 : decode code 568 = .ok (.iaload, 1) := by decide +kernel
theorem d_code_569 : decode code 569 = .ok (.invokevirtual 59, 3) := by decide +kernel
theorem d_code_572 : decode code 572 = .ok (.if_icmp .eq 626, 3) := by decide +kernel
theorem d_code_577 : decode code 577 = .ok (.aload_n 1, 1) := by decide +kernel
theorem d_code_578 : decode code 578 = .ok (.aload_n 0, 1) := by decide +kernel
theorem d_code_579 : decode code 579 = .ok (.iload_n 3, 1) := by decide +kernel
theorem d_code_580 : decode code 580 = .ok (.iconst 1, 1) := by decide +kernel
theorem d_code_581 : decode code 581 = .ok (.iadd, 1) := by decide +kernel
theorem d_code_582 : decode code 582 = .ok (.iaload, 1) := by decide +kernel
theorem d_code_583 : decode code 583 = .ok (.aload_n 0, 1) := by decide +kernel
theorem d_code_584 : decode code 584 = .ok (.iload_n 3, 1) := by decide +kernel
theorem d_code_585 : decode code 585 = .ok (.iconst 2, 1) := by decide +kernel
theorem d_code_586 : decode code 586 = .ok (.iadd, 1) := by decide +kernel
theorem d_code_587 : decode code 587 = .ok (.iaload, 1) := by decide +kernel
theorem d_code_588 : decode code 588 = .ok (.aload_n 0, 1) := by decide +kernel
theorem d_code_589 : decode code 589 = .ok (.iload_n 3, 1) := by decide +kernel
theorem d_code_590 : decode code 590 = .ok (.iconst 3, 1) := by decide +kernel
theorem d_code_591 : decode code 591 = .ok (.iadd, 1) := by decide +kernel
theorem d_code_592 : decode code 592 = .ok (.iaload, 1) := by decide +kernel
theorem d_code_593 : decode code 593 = .ok (.invokevirtual 60, 3) := by decide +kernel
theorem d_code_596 : decode code 596 = .ok (.aload_n 2, 1) := by decide +kernel
theorem d_code_597 : decode code 597 = .ok (.aload_n 0, 1) := by decide +kernel
theorem d_code_598 : decode code 598 = .ok (.iload_n 3, 1) := by decide +kernel
theorem d_code_599 : decode code 599 = .ok (.iconst 1, 1) := by decide +kernel
theorem d_code_600 : decode code 600 = .ok (.iadd, 1) := by decide +kernel
theorem d_code_601 : decode code 601 = .ok (.iaload, 1) := by decide +kernel
theorem d_code_602 : decode code 602 = .ok (.aload_n 0, 1) := by decide +kernel
theorem d_code_603 : decode code 603 = .ok (.iload_n 3, 1) := by decide +kernel
theorem d_code_604 : decode code 604 = .ok (.iconst 2, 1) := by decide +kernel
theorem d_code_605 : decode code 605 = .ok (.iadd, 1) := by decide +kernel
theorem d_code_606 : decode code 606 = .ok (.iaload, 1) := by decide +kernel
theorem d_code_607 : decode code 607 = .ok (.aload_n 0, 1) := by decide +kernel
theorem d_code_608 : decode code 608 = .ok (.iload_n 3, 1) := by decide +kernel
theorem d_code_609 : decode code 609 = .ok (.iconst 3, 1) := by decide +kernel
theorem d_code_610 : decode code 610 = .ok (.iadd, 1) := by decide +kernel
theorem d_code_611 : decode code 611 = .ok (.iaload, 1) := by decide +kernel
theorem d_code_612 : decode code 612 = .ok (.invokevirtual 64, 3) := by decide +kernel
theorem d_code_615 : decode code 615 = .ok (.lcmp, 1) := by decide +kernel
theorem d_code_616 : decode code 616 = .ok (.ifCond .eq 582, 3) := by decide +kernel
theorem d_code_621 : decode code 621 = .ok (.aload_n 1, 1) := by decide +kernel
theorem d_code_622 : decode code 622 = .ok (.aload_n 0, 1) := by decide +kernel
theorem d_code_623 : decode code 623 = .ok (.iload_n 3, 1) := by decide +kernel
theorem d_code_624 : decode code 624 = .ok (.iconst 1, 1) := by decide +kernel
theorem d_code_625 : decode code 625 = .ok (.iadd, 1) := by decide +kernel
theorem d_code_626 : decode code 626 = .ok (.iaload, 1) := by decide +kernel
theorem d_code_627 : decode code 627 = .ok (.aload_n 0, 1) := by decide +kernel
theorem d_code_628 : decode code 628 = .ok (.iload_n 3, 1) := by decide +kernel
theorem d_code_629 : decode code 629 = .ok (.iconst 2, 1) := by decide +kernel
theorem d_code_630 : decode code 630 = .ok (.iadd, 1) := by decide +kernel
theorem d_code_631 : decode code 631 = .ok (.iaload, 1) := by decide +kernel
theorem d_code_632 : decode code 632 = .ok (.aload_n 0, 1) := by decide +kernel
theorem d_code_633 : decode code 633 = .ok (.iload_n 3, 1) := by decide +kernel
theorem d_code_634 : decode code 634 = .ok (.iconst 3, 1) := by decide +kernel
theorem d_code_635 : decode code 635 = .ok (.iadd, 1) := by decide +kernel
theorem d_code_636 : decode code 636 = .ok (.iaload, 1) := by decide +kernel
theorem d_code_637 : decode code 637 = .ok (.invokevirtual 65, 3) := by decide +kernel
theorem d_code_640 : decode code 640 = .ok (.aload_n 2, 1) := by decide +kernel
theorem d_code_641 : decode code 641 = .ok (.aload_n 0, 1) := by decide +kernel
theorem d_code_642 : decode code 642 = .ok (.iload_n 3, 1) := by decide +kernel
theorem d_code_643 : decode code 643 = .ok (.iconst 1, 1) := by decide +kernel
theorem d_code_644 : decode code 644 = .ok (.iadd, 1) := by decide +kernel
theorem d_code_645 : decode code 645 = .ok (.iaload, 1) := by decide +kernel
theorem d_code_646 : decode code 646 = .ok (.aload_n 0, 1) := by decide +kernel
theorem d_code_647 : decode code 647 = .ok (.iload_n 3, 1) := by decide +kernel
theorem d_code_648 : decode code 648 = .ok (.iconst 2, 1) := by decide +kernel
theorem d_code_649 : decode code 649 = .ok (.iadd, 1) := by decide +kernel
theorem d_code_650 : decode code 650 = .ok (.iaload, 1) := by decide +kernel
theorem d_code_651 : decode code 651 = .ok (.aload_n 0, 1) := by decide +kernel
theorem d_code_652 : decode code 652 = .ok (.iload_n 3, 1) := by decide +kernel
theorem d_code_653 : decode code 653 = .ok (.iconst 3, 1) := by decide +kernel
theorem d_code_654 : decode code 654 = .ok (.iadd, 1) := by decide +kernel
theorem d_code_655 : decode code 655 = .ok (.iaload, 1) := by decide +kernel
theorem d_code_656 : decode code 656 = .ok (.invokevirtual 68, 3) := by decide +kernel
theorem d_code_659 : decode code 659 = .ok (.if_icmp .eq 539, 3) := by decide +kernel
theorem d_code_664 : decode code 664 = .ok (.aload_n 1, 1) := by decide +kernel
theorem d_code_665 : decode code 665 = .ok (.aload_n 0, 1) := by decide +kernel
theorem d_code_666 : decode code 666 = .ok (.iload_n 3, 1) := by decide +kernel
theorem d_code_667 : decode code 667 = .ok (.iconst 1, 1) := by decide +kernel
theorem d_code_668 : decode code 668 = .ok (.iadd, 1) := by decide +kernel
theorem d_code_669 : decode code 669 = .ok (.iaload, 1) := by decide +kernel
theorem d_code_670 : decode code 670 = .ok (.invokevirtual 69, 3) := by decide +kernel
theorem d_code_673 : decode code 673 = .ok (.aload_n 2, 1) := by decide +kernel
theorem d_code_674 : decode code 674 = .ok (.aload_n 0, 1) := by decide +kernel
theorem d_code_675 : decode code 675 = .ok (.iload_n 3, 1) := by decide +kernel
theorem d_code_676 : decode code 676 = .ok (.iconst 1, 1) := by decide +kernel
theorem d_code_677 : decode code 677 = .ok (.iadd, 1) := by decide +kernel
theorem d_code_678 : decode code 678 = .ok (.iaload, 1) := by decide +kernel
theorem d_code_679 : decode code 679 = .ok (.invokevirtual 72, 3) := by decide +kernel
theorem d_code_682 : decode code 682 = .ok (.if_icmp .eq 516, 3) := by decide +kernel
theorem d_code_687 : decode code 687 = .ok (.aload_n 1, 1) := by decide +kernel
theorem d_code_688 : decode code 688 = .ok (.aload_n 0, 1) := by decide +kernel
theorem d_code_689 : decode code 689 = .ok (.iload_n 3, 1) := by decide +kernel
theorem d_code_690 : decode code 690 = .ok (.iconst 1, 1) := by decide +kernel
theorem d_code_691 : decode code 691 = .ok (.iadd, 1) := by decide +kernel
theorem d_code_692 : decode code 692 = .ok (.iaload, 1) := by decide +kernel
theorem d_code_693 : decode code 693 = .ok (.aload_n 0, 1) := by decide +kernel
theorem d_code_694 : decode code 694 = .ok (.iload_n 3, 1) := by decide +kernel
theorem d_code_695 : decode code 695 = .ok (.iconst 2, 1) := by decide +kernel
theorem d_code_696 : decode code 696 = .ok (.iadd, 1) := by decide +kernel
theorem d_code_697 : decode code 697 = .ok (.iaload, 1) := by decide +kernel
theorem d_code_698 : decode code 698 = .ok (.aload_n 0, 1) := by decide +kernel
theorem d_code_699 : decode code 699 = .ok (.iload_n 3, 1) := by decide +kernel
theorem d_code_700 : decode code 700 = .ok (.iconst 3, 1) := by decide +kernel
theorem d_code_701 : decode code 701 = .ok (.iadd, 1) := by decide +kernel
theorem d_code_702 : decode code 702 = .ok (.iaload, 1) := by decide +kernel
theorem d_code_703 : decode code 703 = .ok (.invokevirtual 73, 3) := by decide +kernel
theorem d_code_706 : decode code 706 = .ok (.aload_n 2, 1) := by decide +kernel
theorem d_code_707 : decode code 707 = .ok (.aload_n 0, 1) := by decide +kernel
theorem d_code_708 : decode code 708 = .ok (.iload_n 3, 1) := by decide +kernel
theorem d_code_709 : decode code 709 = .ok (.iconst 1, 1) := by decide +kernel
theorem d_code_710 : decode code 710 = .ok (.iadd, 1) := by decide +kernel
theorem d_code_711 : decode code 711 = .ok (.iaload, 1) := by decide +kernel
theorem d_code_712 : decode code 712 = .ok (.aload_n 0, 1) := by decide +kernel
theorem d_code_713 : decode code 713 = .ok (.iload_n 3, 1) := by decide +kernel
theorem d_code_714 : decode code 714 = .ok (.iconst 2, 1) := by decide +kernel
theorem d_code_715 : decode code 715 = .ok (.iadd, 1) := by decide +kernel
theorem d_code_716 : decode code 716 = .ok (.iaload, 1) := by decide +kernel
theorem d_code_717 : decode code 717 = .ok (.aload_n 0, 1) := by decide +kernel
theorem d_code_718 : decode code 718 = .ok (.iload_n 3, 1) := by decide +kernel
theorem d_code_719 : decode code 719 = .ok (.iconst 3, 1) := by decide +kernel
theorem d_code_720 : decode code 720 = .ok (.iadd, 1) := by decide +kernel
theorem d_code_721 : decode code 721 = .ok (.iaload, 1) := by decide +kernel
theorem d_code_722 : decode code 722 = .ok (.invokevirtual 76, 3) := by decide +kernel
theorem d_code_725 : decode code 725 = .ok (.if_icmp .eq 473, 3) := by decide +kernel
theorem d_code_730 : decode code 730 = .ok (.aload_n 1, 1) := by decide +kernel
theorem d_code_731 : decode code 731 = .ok (.aload_n 0, 1) := by decide +kernel
theorem d_code_732 : decode code 732 = .ok (.iload_n 3, 1) := by decide +kernel
theorem d_code_733 : decode code 733 = .ok (.iconst 1, 1) := by decide +kernel
theorem d_code_734 : decode code 734 = .ok (.iadd, 1) := by decide +kernel
theorem d_code_735 : decode code 735 = .ok (.iaload, 1) := by decide +kernel
theorem d_code_736 : decode code 736 = .ok (.invokevirtual 77, 3) := by decide +kernel
theorem d_code_739 : decode code 739 = .ok (.aload_n 2, 1) := by decide +kernel
theorem d_code_740 : decode code 740 = .ok (.aload_n 0, 1) := by decide +kernel
theorem d_code_741 : decode code 741 = .ok (.iload_n 3, 1) := by decide +kernel
theorem d_code_742 : decode code 742 = .ok (.iconst 1, 1) := by decide +kernel
theorem d_code_743 : decode code 743 = .ok (.iadd, 1) := by decide +kernel
theorem d_code_744 : decode code 744 = .ok (.iaload, 1) := by decide +kernel
theorem d_code_745 : decode code 745 = .ok (.invokevirtual 80, 3) := by decide +kernel
theorem d_code_748 : decode code 748 = .ok (.if_icmp .eq 450, 3) := by decide +kernel
theorem d_code_753 : decode code 753 = .ok (.aload_n 1, 1) := by decide +kernel
theorem d_code_754 : decode code 754 = .ok (.aload_n 0, 1) := by decide +kernel
theorem d_code_755 : decode code 755 = .ok (.iload_n 3, 1) := by decide +kernel
theorem d_code_756 : decode code 756 = .ok (.iconst 1, 1) := by decide +kernel
theorem d_code_757 : decode code 757 = .ok (.iadd, 1) := by decide +kernel
theorem d_code_758 : decode code 758 = .ok (.iaload, 1) := by decide +kernel
theorem d_code_759 : decode code 759 = .ok (.invokevirtual 81, 3) := by decide +kernel
theorem d_code_762 : decode code 762 = .ok (.aload_n 2, 1) := by decide +kernel
theorem d_code_763 : decode code 763 = .ok (.aload_n 0, 1) := by decide +kernel
theorem d_code_764 : decode code 764 = .ok (.iload_n 3, 1) := by decide +kernel
theorem d_code_765 : decode code 765 = .ok (.iconst 1, 1) := by decide +kernel
theorem d_code_766 : decode code 766 = .ok (.iadd, 1) := by decide +kernel
theorem d_code_767 : decode code 767 = .ok (.iaload, 1) := by decide +kernel
theorem d_code_768 : decode code 768 = .ok (.invokevirtual 84, 3) := by decide +kernel
theorem d_code_771 : decode code 771 = .ok (.if_icmp .eq 427, 3) := by decide +kernel
theorem d_code_776 : decode code 776 = .ok (.aload_n 1, 1) := by decide +kernel
theorem d_code_777 : decode code 777 = .ok (.invokevirtual 85, 3) := by decide +kernel
theorem d_code_780 : decode code 780 = .ok (.aload_n 2, 1) := by decide +kernel
theorem d_code_781 : decode code 781 = .ok (.invokevirtual 89, 3) := by decide +kernel
theorem d_code_784 : decode code 784 = .ok (.if_icmp .eq 414, 3) := by decide +kernel
theorem d_code_789 : decode code 789 = .ok (.aload_n 1, 1) := by decide +kernel
theorem d_code_790 : decode code 790 = .ok (.invokevirtual 90, 3) := by decide +kernel
theorem d_code_793 : decode code 793 = .ok (.aload_n 2, 1) := by decide +kernel
theorem d_code_794 : decode code 794 = .ok (.invokevirtual 93, 3) := by decide +kernel
theorem d_code_797 : decode code 797 = .ok (.if_icmp .eq 401, 3) := by decide +kernel
theorem d_code_802 : decode code 802 = .ok (.aload_n 1, 1) := by decide +kernel
theorem d_code_803 : decode code 803 = .ok (.aload_n 0, 1) := by decide +kernel
theorem d_code_804 : decode code 804 = .ok (.iload_n 3, 1) := by decide +kernel
theorem d_code_805 : decode code 805 = .ok (.iconst 1, 1) := by decide +kernel
theorem d_code_806 : decode code 806 = .ok (.iadd, 1) := by decide +kernel
theorem d_code_807 : decode code 807 = .ok (.iaload, 1) := by decide +kernel
theorem d_code_808 : decode code 808 = .ok (.invokevirtual 94, 3) := by decide +kernel
theorem d_code_811 : decode code 811 = .ok (.aload_n 2, 1) := by decide +kernel
theorem d_code_812 : decode code 812 = .ok (.aload_n 0, 1) := by decide +kernel
theorem d_code_813 : decode code 813 = .ok (.iload_n 3, 1) := by decide +kernel
theorem d_code_814 : decode code 814 = .ok (.iconst 1, 1) := by decide +kernel
theorem d_code_815 : decode code 815 = .ok (.iadd, 1) := by decide +kernel
theorem d_code_816 : decode code 816 = .ok (.iaload, 1) := by decide +kernel
theorem d_code_817 : decode code 817 = .ok (.invokevirtual 97, 3) := by decide +kernel
theorem d_code_820 : decode code 820 = .ok (.if_icmp .eq 378, 3) := by decide +kernel
theorem d_code_825 : decode code 825 = .ok (.aload_n 1, 1) := by decide +kernel
theorem d_code_826 : decode code 826 = .ok (.aload_n 0, 1) := by decide +kernel
theorem d_code_827 : decode code 827 = .ok (.iload_n 3, 1) := by decide +kernel
theorem d_code_828 : decode code 828 = .ok (.iconst 1, 1) := by decide +kernel
theorem d_code_829 : decode code 829 = .ok (.iadd, 1) := by decide +kernel
theorem d_code_830 : decode code 830 = .ok (.iaload, 1) := by decide +kernel
theorem d_code_831 : decode code 831 = .ok (.aload_n 0, 1) := by decide +kernel
theorem d_code_832 : decode code 832 = .ok (.iload_n 3, 1) := by decide +kernel
theorem d_code_833 : decode code 833 = .ok (.iconst 2, 1) := by decide +kernel
theorem d_code_834 : decode code 834 = .ok (.iadd, 1) := by decide +kernel
theorem d_code_835 : decode code 835 = .ok (.iaload, 1) := by decide +kernel
theorem d_code_836 : decode code 836 = .ok (.invokevirtual 98, 3) := by decide +kernel
theorem d_code_839 : decode code 839 = .ok (.aload_n 2, 1) := by decide +kernel
theorem d_code_840 : decode code 840 = .ok (.aload_n 0, 1) := by decide +kernel
theorem d_code_841 : decode code 841 = .ok (.iload_n 3, 1) := by decide +kernel
theorem d_code_842 : decode code 842 = .ok (.iconst 1, 1) := by decide +kernel
theorem d_code_843 : decode code 843 = .ok (.iadd, 1) := by decide +kernel
theorem d_code_844 : decode code 844 = .ok (.iaload, 1) := by decide +kernel
theorem d_code_845 : decode code 845 = .ok (.aload_n 0, 1) := by decide +kernel
theorem d_code_846 : decode code 846 = .ok (.iload_n 3, 1) := by decide +kernel
theorem d_code_847 : decode code 847 = .ok (.iconst 2, 1) := by decide +kernel
theorem d_code_848 : decode code 848 = .ok (.iadd, 1) := by decide +kernel
theorem d_code_849 : decode code 849 = .ok (.iaload, 1) := by decide +kernel
theorem d_code_850 : decode code 850 = .ok (.invokevirtual 101, 3) := by decide +kernel
theorem d_code_853 : decode code 853 = .ok (.lcmp, 1) := by decide +kernel
theorem d_code_854 : decode code 854 = .ok (.ifCond .eq 344, 3) := by decide +kernel
theorem d_code_859 : decode code 859 = .ok (.aload_n 1, 1) := by decide +kernel
theorem d_code_860 : decode code 860 = .ok (.aload_n 0, 1) := by decide +kernel
theorem d_code_861 : decode code 861 = .ok (.iload_n 3, 1) := by decide +kernel
theorem d_code_862 : decode code 862 = .ok (.iconst 1, 1) := by decide +kernel
theorem d_code_863 : decode code 863 = .ok (.iadd, 1) := by decide +kernel
theorem d_code_864 : decode code 864 = .ok (.iaload, 1) := by decide +kernel
theorem d_code_865 : decode code 865 = .ok (.invokevirtual 102, 3) := by decide +kernel
theorem d_code_868 : decode code 868 = .ok (.aload_n 2, 1) := by decide +kernel
theorem d_code_869 : decode code 869 = .ok (.aload_n 0, 1) := by decide +kernel
theorem d_code_870 : decode code 870 = .ok (.iload_n 3, 1) := by decide +kernel
theorem d_code_871 : decode code 871 = .ok (.iconst 1, 1) := by decide +kernel
theorem d_code_872 : decode code 872 = .ok (.iadd, 1) := by decide +kernel
theorem d_code_873 : decode code 873 = .ok (.iaload, 1) := by decide +kernel
theorem d_code_874 : decode code 874 = .ok (.invokevirtual 105, 3) := by decide +kernel
theorem d_code_877 : decode code 877 = .ok (.if_icmp .eq 321, 3) := by decide +kernel
theorem d_code_882 : decode code 882 = .ok (.aload_n 1, 1) := by decide +kernel
theorem d_code_883 : decode code 883 = .ok (.aload_n 0, 1) := by decide +kernel
theorem d_code_884 : decode code 884 = .ok (.iload_n 3, 1) := by decide +kernel
theorem d_code_885 : decode code 885 = .ok (.iconst 1, 1) := by decide +kernel
theorem d_code_886 : decode code 886 = .ok (.iadd, 1) := by decide +kernel
theorem d_code_887 : decode code 887 = .ok (.iaload, 1) := by decide +kernel
theorem d_code_888 : decode code 888 = .ok (.aload_n 0, 1) := by decide +kernel
theorem d_code_889 : decode code 889 = .ok (.iload_n 3, 1) := by decide +kernel
theorem d_code_890 : decode code 890 = .ok (.iconst 2, 1) := by decide +kernel
theorem d_code_891 : decode code 891 = .ok (.iadd, 1) := by decide +kernel
theorem d_code_892 : decode code 892 = .ok (.iaload, 1) := by decide +kernel
theorem d_code_893 : decode code 893 = .ok (.invokevirtual 106, 3) := by decide +kernel
theorem d_code_896 : decode code 896 = .ok (.aload_n 2, 1) := by decide +kernel
theorem d_code_897 : decode code 897 = .ok (.aload_n 0, 1) := by decide +kernel
theorem d_code_898 : decode code 898 = .ok (.iload_n 3, 1) := by decide +kernel
theorem d_code_899 : decode code 899 = .ok (.iconst 1, 1) := by decide +kernel
theorem d_code_900 : decode code 900 = .ok (.iadd, 1) := by decide +kernel
theorem d_code_901 : decode code 901 = .ok (.iaload, 1) := by decide +kernel
theorem d_code_902 : decode code 902 = .ok (.aload_n 0, 1) := by decide +kernel
theorem d_code_903 : decode code 903 = .ok (.iload_n 3, 1) := by decide +kernel
theorem d_code_904 : decode code 904 = .ok (.iconst 2, 1) := by decide +kernel
theorem d_code_905 : decode code 905 = .ok (.iadd, 1) := by decide +kernel
theorem d_code_906 : decode code 906 = .ok (.iaload, 1) := by decide +kernel
theorem d_code_907 : decode code 907 = .ok (.invokevirtual 109, 3) := by decide +kernel
theorem d_code_910 : decode code 910 = .ok (.if_icmp .eq 288, 3) := by decide +kernel
theorem d_code_915 : decode code 915 = .ok (.aload_n 1, 1) := by decide +kernel
theorem d_code_916 : decode code 916 = .ok (.aload_n 0, 1) := by decide +kernel
theorem d_code_917 : decode code 917 = .ok (.iload_n 3, 1) := by decide +kernel
theorem d_code_918 : decode code 918 = .ok (.iconst 1, 1) := by decide +kernel
theorem d_code_919 : decode code 919 = .ok (.iadd, 1) := by decide +kernel
theorem d_code_920 : decode code 920 = .ok (.iaload, 1) := by decide +kernel
theorem d_code_921 : decode code 921 = .ok (.aload_n 0, 1) := by decide +kernel
theorem d_code_922 : decode code 922 = .ok (.iload_n 3, 1) := by decide +kernel
theorem d_code_923 : decode code 923 = .ok (.iconst 2, 1) := by decide +kernel
theorem d_code_924 : decode code 924 = .ok (.iadd, 1) := by decide +kernel
theorem d_code_925 : decode code 925 = .ok (.iaload, 1) := by decide +kernel
theorem d_code_926 : decode code 926 = .ok (.aload_n 0, 1) := by decide +kernel
theorem d_code_927 : decode code 927 = .ok (.iload_n 3, 1) := by decide +kernel
theorem d_code_928 : decode code 928 = .ok (.iconst 3, 1) := by decide +kernel
theorem d_code_929 : decode code 929 = .ok (.iadd, 1) := by decide +kernel
theorem d_code_930 : decode code 930 = .ok (.iaload, 1) := by decide +kernel
theorem d_code_931 : decode code 931 = .ok (.invokevirtual 110, 3) := by decide +kernel
theorem d_code_934 : decode code 934 = .ok (.aload_n 2, 1) := by decide +kernel
theorem d_code_935 : decode code 935 = .ok (.aload_n 0, 1) := by decide +kernel
theorem d_code_936 : decode code 936 = .ok (.iload_n 3, 1) := by decide +kernel
theorem d_code_937 : decode code 937 = .ok (.iconst 1, 1) := by decide +kernel
theorem d_code_938 : decode code 938 = .ok (.iadd, 1) := by decide +kernel
theorem d_code_939 : decode code 939 = .ok (.iaload, 1) := by decide +kernel
theorem d_code_940 : decode code 940 = .ok (.aload_n 0, 1) := by decide +kernel
theorem d_code_941 : decode code 941 = .ok (.iload_n 3, 1) := by decide +kernel
theorem d_code_942 : decode code 942 = .ok (.iconst 2, 1) := by decide +kernel
theorem d_code_943 : decode code 943 = .ok (.iadd, 1) := by decide +kernel
theorem d_code_944 : decode code 944 = .ok (.iaload, 1) := by decide +kernel
theorem d_code_945 : decode code 945 = .ok (.aload_n 0, 1) := by decide +kernel
theorem d_code_946 : decode code 946 = .ok (.iload_n 3, 1) := by decide +kernel
theorem d_code_947 : decode code 947 = .ok (.iconst 3, 1) := by decide +kernel
theorem d_code_948 : decode code 948 = .ok (.iadd, 1) := by decide +kernel
theorem d_code_949 : decode code 949 = .ok (.iaload, 1) := by decide +kernel
theorem d_code_950 : decode code 950 = .ok (.invokevirtual 113, 3) := by decide +kernel
theorem d_code_953 : decode code 953 = .ok (.if_icmp .eq 245, 3) := by decide +kernel
theorem d_code_958 : decode code 958 = .ok (.aload_n 1, 1) := by decide +kernel
theorem d_code_959 : decode code 959 = .ok (.aload_n 0, 1) := by decide +kernel
theorem d_code_960 : decode code 960 = .ok (.iload_n 3, 1) := by decide +kernel
theorem d_code_961 : decode code 961 = .ok (.iconst 1, 1) := by decide +kernel
theorem d_code_962 : decode code 962 = .ok (.iadd, 1) := by decide +kernel
theorem d_code_963 : decode code 963 = .ok (.iaload, 1) := by decide +kernel
theorem d_code_964 : decode code 964 = .ok (.aload_n 0, 1) := by decide +kernel
theorem d_code_965 : decode code 965 = .ok (.iload_n 3, 1) := by decide +kernel
theorem d_code_966 : decode code 966 = .ok (.iconst 2, 1) := by decide +kernel
theorem d_code_967 : decode code 967 = .ok (.iadd, 1) := by decide +kernel
theorem d_code_968 : decode code 968 = .ok (.iaload, 1) := by decide +kernel
theorem d_code_969 : decode code 969 = .ok (.aload_n 0, 1) := by decide +kernel
theorem d_code_970 : decode code 970 = .ok (.iload_n 3, 1) := by decide +kernel
theorem d_code_971 : decode code 971 = .ok (.iconst 3, 1) := by decide +kernel
theorem d_code_972 : decode code 972 = .ok (.iadd, 1) := by decide +kernel
theorem d_code_973 : decode code 973 = .ok (.iaload, 1) := by decide +kernel
theorem d_code_974 : decode code 974 = .ok (.invokevirtual 114, 3) := by decide +kernel
theorem d_code_977 : decode code 977 = .ok (.aload_n 2, 1) := by decide +kernel
theorem d_code_978 : decode code 978 = .ok (.aload_n 0, 1) := by decide +kernel
theorem d_code_979 : decode code 979 = .ok (.iload_n 3, 1) := by decide +kernel
theorem d_code_980 : decode code 980 = .ok (.iconst 1, 1) := by decide +kernel
theorem d_code_981 : decode code 981 = .ok (.iadd, 1) := by decide +kernel
theorem d_code_982 : decode code 982 = .ok (.iaload, 1) := by decide +kernel
theorem d_code_983 : decode code 983 = .ok (.aload_n 0, 1) := by decide +kernel
theorem d_code_984 : decode code 984 = .ok (.iload_n 3, 1) := by decide +kernel
theorem d_code_985 : decode code 985 = .ok (.iconst 2, 1) := by decide +kernel
theorem d_code_986 : decode code 986 = .ok (.iadd, 1) := by decide +kernel
theorem d_code_987 : decode code 987 = .ok (.iaload, 1) := by decide +kernel
theorem d_code_988 : decode code 988 = .ok (.aload_n 0, 1) := by decide +kernel
theorem d_code_989 : decode code 989 = .ok (.iload_n 3, 1) := by decide +kernel
theorem d_code_990 : decode code 990 = .ok (.iconst 3, 1) := by decide +kernel
theorem d_code_991 : decode code 991 = .ok (.iadd, 1) := by decide +kernel
theorem d_code_992 : decode code 992 = .ok (.iaload, 1) := by decide +kernel
theorem d_code_993 : decode code 993 = .ok (.invokevirtual 117, 3) := by decide +kernel
theorem d_code_996 : decode code 996 = .ok (.lcmp, 1) := by decide +kernel
theorem d_code_997 : decode code 997 = .ok (.ifCond .eq 201, 3) := by decide +kernel
theorem d_code_1002 : decode code 1002 = .ok (.aload_n 1, 1) := by decide +kernel
theorem d_code_1003 : decode code 1003 = .ok (.aload_n 0, 1) := by decide +kernel
theorem d_code_1004 : decode code 1004 = .ok (.iload_n 3, 1) := by decide +kernel
theorem d_code_1005 : decode code 1005 = .ok (.iconst 1, 1) := by decide +kernel
theorem d_code_1006 : decode code 1006 = .ok (.iadd, 1) := by decide +kernel
theorem d_code_1007 : decode code 1007 = .ok (.iaload, 1) := by decide +kernel
theorem d_code_1008 : decode code 1008 = .ok (.aload_n 0, 1) := by decide +kernel
theorem d_code_1009 : decode code 1009 = .ok (.iload_n 3, 1) := by decide +kernel
theorem d_code_1010 : decode code 1010 = .ok (.iconst 2, 1) := by decide +kernel
theorem d_code_1011 : decode code 1011 = .ok (.iadd, 1) := by decide +kernel
theorem d_code_1012 : decode code 1012 = .ok (.iaload, 1) := by decide +kernel
theorem d_code_1013 : decode code 1013 = .ok (.aload_n 0, 1) := by decide +kernel
theorem d_code_1014 : decode code 1014 = .ok (.iload_n 3, 1) := by decide +kernel
theorem d_code_1015 : decode code 1015 = .ok (.iconst 3, 1) := by decide +kernel
theorem d_code_1016 : decode code 1016 = .ok (.iadd, 1) := by decide +kernel
theorem d_code_1017 : decode code 1017 = .ok (.iaload, 1) := by decide +kernel
theorem d_code_1018 : decode code 1018 = .ok (.invokevirtual 118, 3) := by decide +kernel
theorem d_code_1021 : decode code 1021 = .ok (.aload_n 2, 1) := by decide +kernel
theorem d_code_1022 : decode code 1022 = .ok (.aload_n 0, 1) := by decide +kernel
theorem d_code_1023 : decode code 1023 = .ok (.iload_n 3, 1) := by decide +kernel
theorem d_code_1024 : decode code 1024 = .ok (.iconst 1, 1) := by decide +kernel
theorem d_code_1025 : decode code 1025 = .ok (.iadd, 1) := by decide +kernel
theorem d_code_1026 : decode code 1026 = .ok (.iaload, 1) := by decide +kernel
theorem d_code_1027 : decode code 1027 = .ok (.aload_n 0, 1) := by decide +kernel
theorem d_code_1028 : decode code 1028 = .ok (.iload_n 3, 1) := by decide +kernel
theorem d_code_1029 : decode code 1029 = .ok (.iconst 2, 1) := by decide +kernel
theorem d_code_1030 : decode code 1030 = .ok (.iadd, 1) := by decide +kernel
theorem d_code_1031 : decode code 1031 = .ok (.iaload, 1) := by decide +kernel
theorem d_code_1032 : decode code 1032 = .ok (.aload_n 0, 1) := by decide +kernel
theorem d_code_1033 : decode code 1033 = .ok (.iload_n 3, 1) := by decide +kernel
theorem d_code_1034 : decode code 1034 = .ok (.iconst 3, 1) := by decide +kernel
theorem d_code_1035 : decode code 1035 = .ok (.iadd, 1) := by decide +kernel
theorem d_code_1036 : decode code 1036 = .ok (.iaload, 1) := by decide +kernel
theorem d_code_1037 : decode code 1037 = .ok (.invokevirtual 121, 3) := by decide +kernel
theorem d_code_1040 : decode code 1040 = .ok (.if_icmp .eq 158, 3) := by decide +kernel
theorem d_code_1045 : decode code 1045 = .ok (.aload_n 1, 1) := by decide +kernel
theorem d_code_1046 : decode code 1046 = .ok (.aload_n 0, 1) := by decide +kernel
theorem d_code_1047 : decode code 1047 = .ok (.iload_n 3, 1) := by decide +kernel
theorem d_code_1048 : decode code 1048 = .ok (.iconst 1, 1) := by decide +kernel
theorem d_code_1049 : decode code 1049 = .ok (.iadd, 1) := by decide +kernel
theorem d_code_1050 : decode code 1050 = .ok (.iaload, 1) := by decide +kernel
theorem d_code_1051 : decode code 1051 = .ok (.aload_n 0, 1) := by decide +kernel
theorem d_code_1052 : decode code 1052 = .ok (.iload_n 3, 1) := by decide +kernel
theorem d_code_1053 : decode code 1053 = .ok (.iconst 2, 1) := by decide +kernel
theorem d_code_1054 : decode code 1054 = .ok (.iadd, 1) := by decide +kernel
theorem d_code_1055 : decode code 1055 = .ok (.iaload, 1) := by decide +kernel
theorem d_code_1056 : decode code 1056 = .ok (.aload_n 0, 1) := by decide +kernel
theorem d_code_1057 : decode code 1057 = .ok (.iload_n 3, 1) := by decide +kernel
theorem d_code_1058 : decode code 1058 = .ok (.iconst 3, 1) := by decide +kernel
theorem d_code_1059 : decode code 1059 = .ok (.iadd, 1) := by decide +kernel
theorem d_code_1060 : decode code 1060 = .ok (.iaload, 1) := by decide +kernel
theorem d_code_1061 : decode code 1061 = .ok (.aload_n 0, 1) := by decide +kernel
theorem d_code_1062 : decode code 1062 = .ok (.iload_n 3, 1) := by decide +kernel
theorem d_code_1063 : decode code 1063 = .ok (.iconst 4, 1) := by decide +kernel
theorem d_code_1064 : decode code 1064 = .ok (.iadd, 1) := by decide +kernel
theorem d_code_1065 : decode code 1065 = .ok (.iaload, 1) := by decide +kernel
theorem d_code_1066 : decode code 1066 = .ok (.invokevirtual 122, 3) := by decide +kernel
theorem d_code_1069 : decode code 1069 = .ok (.aload_n 2, 1) := by decide +kernel
theorem d_code_1070 : decode code 1070 = .ok (.aload_n 0, 1) := by decide +kernel
theorem d_code_1071 : decode code 1071 = .ok (.iload_n 3, 1) := by decide +kernel
theorem d_code_1072 : decode code 1072 = .ok (.iconst 1, 1) := by decide +kernel
theorem d_code_1073 : decode code 1073 = .ok (.iadd, 1) := by decide +kernel
theorem d_code_1074 : decode code 1074 = .ok (.iaload, 1) := by decide +kernel
theorem d_code_1075 : decode code 1075 = .ok (.aload_n 0, 1) := by decide +kernel
theorem d_code_1076 : decode code 1076 = .ok (.iload_n 3, 1) := by decide +kernel
theorem d_code_1077 : decode code 1077 = .ok (.iconst 2, 1) := by decide +kernel
theorem d_code_1078 : decode code 1078 = .ok (.iadd, 1) := by decide +kernel
theorem d_code_1079 : decode code 1079 = .ok (.iaload, 1) := by decide +kernel
theorem d_code_1080 : decode code 1080 = .ok (.aload_n 0, 1) := by decide +kernel
theorem d_code_1081 : decode code 1081 = .ok (.iload_n 3, 1) := by decide +kernel
theorem d_code_1082 : decode code 1082 = .ok (.iconst 3, 1) := by decide +kernel
theorem d_code_1083 : decode code 1083 = .ok (.iadd, 1) := by decide +kernel
theorem d_code_1084 : decode code 1084 = .ok (.iaload, 1) := by decide +kernel
theorem d_code_1085 : decode code 1085 = .ok (.aload_n 0, 1) := by decide +kernel
theorem d_code_1086 : decode code 1086 = .ok (.iload_n 3, 1) := by decide +kernel
theorem d_code_1087 : decode code 1087 = .ok (.iconst 4, 1) := by decide +kernel
theorem d_code_1088 : decode code 1088 = .ok (.iadd, 1) := by decide +kernel
theorem d_code_1089 : decode code 1089 = .ok (.iaload, 1) := by decide +kernel
theorem d_code_1090 : decode code 1090 = .ok (.invokevirtual 125, 3) := by decide +kernel
theorem d_code_1093 : decode code 1093 = .ok (.lcmp, 1) := by decide +kernel
theorem d_code_1094 : decode code 1094 = .ok (.ifCond .eq 104, 3) := by decide +kernel
theorem d_code_1099 : decode code 1099 = .ok (.aload_n 1, 1) := by decide +kernel
theorem d_code_1100 : decode code 1100 = .ok (.aload_n 0, 1) := by decide +kernel
theorem d_code_1101 : decode code 1101 = .ok (.iload_n 3, 1) := by decide +kernel
theorem d_code_1102 : decode code 1102 = .ok (.iconst 1, 1) := by decide +kernel
theorem d_code_1103 : decode code 1103 = .ok (.iadd, 1) := by decide +kernel
theorem d_code_1104 : decode code 1104 = .ok (.iaload, 1) := by decide +kernel
theorem d_code_1105 : decode code 1105 = .ok (.aload_n 0, 1) := by decide +kernel
theorem d_code_1106 : decode code 1106 = .ok (.iload_n 3, 1) := by decide +kernel
theorem d_code_1107 : decode code 1107 = .ok (.iconst 2, 1) := by decide +kernel
theorem d_code_1108 : decode code 1108 = .ok (.iadd, 1) := by decide +kernel
theorem d_code_1109 : decode code 1109 = .ok (.iaload, 1) := by decide +kernel
theorem d_code_1110 : decode code 1110 = .ok (.aload_n 0, 1) := by decide +kernel
theorem d_code_1111 : decode code 1111 = .ok (.iload_n 3, 1) := by decide +kernel
theorem d_code_1112 : decode code 1112 = .ok (.iconst 3, 1) := by decide +kernel
theorem d_code_1113 : decode code 1113 = .ok (.iadd, 1) := by decide +kernel
theorem d_code_1114 : decode code 1114 = .ok (.iaload, 1) := by decide +kernel
theorem d_code_1115 : decode code 1115 = .ok (.aload_n 0, 1) := by decide +kernel
theorem d_code_1116 : decode code 1116 = .ok (.iload_n 3, 1) := by decide +kernel
theorem d_code_1117 : decode code 1117 = .ok (.iconst 4, 1) := by decide +kernel
theorem d_code_1118 : decode code 1118 = .ok (.iadd, 1) := by decide +kernel
theorem d_code_1119 : decode code 1119 = .ok (.iaload, 1) := by decide +kernel
theorem d_code_1120 : decode code 1120 = .ok (.aload_n 0, 1) := by decide +kernel
theorem d_code_1121 : decode code 1121 = .ok (.iload_n 3, 1) := by decide +kernel
theorem d_code_1122 : decode code 1122 = .ok (.iconst 5, 1) := by decide +kernel
theorem d_code_1123 : decode code 1123 = .ok (.iadd, 1) := by decide +kernel
theorem d_code_1124 : decode code 1124 = .ok (.iaload, 1) := by decide +kernel
theorem d_code_1125 : decode code 1125 = .ok (.aload_n 0, 1) := by decide +kernel
theorem d_code_1126 : decode code 1126 = .ok (.iload_n 3, 1) := by decide +kernel
theorem d_code_1127 : decode code 1127 = .ok (.bipush 6, 2) := by decide +kernel
theorem d_code_1129 : decode code 1129 = .ok (.iadd, 1) := by decide +kernel
theorem d_code_1130 : decode code 1130 = .ok (.iaload, 1) := by decide +kernel
theorem d_code_1131 : decode code 1131 = .ok (.aload_n 0, 1) := by decide +kernel
theorem d_code_1132 : decode code 1132 = .ok (.iload_n 3, 1) := by decide +kernel
theorem d_code_1133 : decode code 1133 = .ok (.bipush 7, 2) := by decide +kernel
theorem d_code_1135 : decode code 1135 = .ok (.iadd, 1) := by decide +kernel
theorem d_code_1136 : decode code 1136 = .ok (.iaload, 1) := by decide +kernel
theorem d_code_1137 : decode code 1137 = .ok (.aload_n 0, 1) := by decide +kernel
theorem d_code_1138 : decode code 1138 = .ok (.iload_n 3, 1) := by decide +kernel
theorem d_code_1139 : decode code 1139 = .ok (.bipush 8, 2) := by decide +kernel
theorem d_code_1141 : decode code 1141 = .ok (.iadd, 1) := by decide +kernel
theorem d_code_1142 : decode code 1142 = .ok (.iaload, 1) := by decide +kernel
theorem d_code_1143 : decode code 1143 = .ok (.invokevirtual 126, 3) := by decide +kernel
theorem d_code_1146 : decode code 1146 = .ok (.aload_n 2, 1) := by decide +kernel
theorem d_code_1147 : decode code 1147 = .ok (.aload_n 0, 1) := by decide +kernel
theorem d_code_1148 : decode code 1148 = .ok (.iload_n 3, 1) := by decide +kernel
theorem d_code_1149 : decode code 1149 = .ok (.iconst 1, 1) := by decide +kernel
theorem d_code_1150 : decode code 1150 = .ok (.iadd, 1) := by decide +kernel
theorem d_code_1151 : decode code 1151 = .ok (.iaload, 1) := by decide +kernel
theorem d_code_1152 : decode code 1152 = .ok (.aload_n 0, 1) := by decide +kernel
theorem d_code_1153 : decode code 1153 = .ok (.iload_n 3, 1) := by decide +kernel
theorem d_code_1154 : decode code 1154 = .ok (.iconst 2, 1) := by decide +kernel
theorem d_code_1155 : decode code 1155 = .ok (.iadd, 1) := by decide +kernel
theorem d_code_1156 : decode code 1156 = .ok (.iaload, 1) := by decide +kernel
theorem d_code_1157 : decode code 1157 = .ok (.aload_n 0, 1) := by decide +kernel
theorem d_code_1158 : decode code 1158 = .ok (.iload_n 3, 1) := by decide +kernel
theorem d_code_1159 : decode code 1159 = .ok (.iconst 3, 1) := by decide +kernel
theorem d_code_1160 : decode code 1160 = .ok (.iadd, 1) := by decide +kernel
theorem d_code_1161 : decode code 1161 = .ok (.iaload, 1) := by decide +kernel
theorem d_code_1162 : decode code 1162 = .ok (.aload_n 0, 1) := by decide +kernel
theorem d_code_1163 : decode code 1163 = .ok (.iload_n 3, 1) := by decide +kernel
theorem d_code_1164 : decode code 1164 = .ok (.iconst 4, 1) := by decide +kernel
theorem d_code_1165 : decode code 1165 = .ok (.iadd, 1) := by decide +kernel
theorem d_code_1166 : decode code 1166 = .ok (.iaload, 1) := by decide +kernel
theorem d_code_1167 : decode code 1167 = .ok (.aload_n 0, 1) := by decide +kernel
theorem d_code_1168 : decode code 1168 = .ok (.iload_n 3, 1) := by decide +kernel
theorem d_code_1169 : decode code 1169 = .ok (.iconst 5, 1) := by decide +kernel
theorem d_code_1170 : decode code 1170 = .ok (.iadd, 1) := by decide +kernel
theorem d_code_1171 : decode code 1171 = .ok (.iaload, 1) := by decide +kernel
theorem d_code_1172 : decode code 1172 = .ok (.aload_n 0, 1) := by decide +kernel
theorem d_code_1173 : decode code 1173 = .ok (.iload_n 3, 1) := by decide +kernel
theorem d_code_1174 : decode code 1174 = .ok (.bipush 6, 2) := by decide +kernel
theorem d_code_1176 : decode code 1176 = .ok (.iadd, 1) := by decide +kernel
theorem d_code_1177 : decode code 1177 = .ok (.iaload, 1) := by decide +kernel
theorem d_code_1178 : decode code 1178 = .ok (.aload_n 0, 1) := by decide +kernel
theorem d_code_1179 : decode code 1179 = .ok (.iload_n 3, 1) := by decide +kernel
theorem d_code_1180 : decode code 1180 = .ok (.bipush 7, 2) := by decide +kernel
theorem d_code_1182 : decode code 1182 = .ok (.iadd, 1) := by decide +kernel
theorem d_code_1183 : decode code 1183 = .ok (.iaload, 1) := by decide +kernel
theorem d_code_1184 : decode code 1184 = .ok (.aload_n 0, 1) := by decide +kernel
theorem d_code_1185 : decode code 1185 = .ok (.iload_n 3, 1) := by decide +kernel
theorem d_code_1186 : decode code 1186 = .ok (.bipush 8, 2) := by decide +kernel
theorem d_code_1188 : decode code 1188 = .ok (.iadd, 1) := by decide +kernel
theorem d_code_1189 : decode code 1189 = .ok (.iaload, 1) := by decide +kernel
theorem d_code_1190 : decode code 1190 = .ok (.invokevirtual 130, 3) := by decide +kernel
theorem d_code_1193 : decode code 1193 = .ok (.if_icmp .eq 5, 3) := by decide +kernel
theorem endEq {v r r' : Int32} (h : (v < 0 → r = -1) ∧ (¬ v < 0 → 20 < v → r = -1) ∧ (¬ v < 0 → ¬ 20 < v → r = v)) (h' : (v < 0 → r' = -1) ∧ (¬ v < 0 → 20 < v → r' = -1) ∧ (¬ v < 0 → ¬ 20 < v → r' = v)) : r = r' := by
  by_cases a : v < 0
  · rw [h.1 a, h'.1 a]
  · by_cases b : 20 < v
    · rw [h.2.1 a b, h'.2.1 a b]
    · rw [h.2.2 a b, h'.2.2 a b]
theorem lt2 {v : Int32} : v < 2 ↔ v ≤ 1 := by
  rw [Int32.lt_iff_toInt_lt, Int32.le_iff_toInt_le]
  have h1 : (2 : Int32).toInt = 2 := by decide
  have h2 : (1 : Int32).toInt = 1 := by decide
  omega
theorem readEq {v r r' : Int32} (h : (v < 0 → r = (-1)) ∧ (¬ v < 0 → v < 2 → r = 2) ∧ (¬ v < 0 → ¬ v < 2 → r = (-1))) (h' : (v < 0 → r' = (-1)) ∧ (¬ v < 0 → v ≤ 1 → r' = 2) ∧ (¬ v < 0 → ¬ v ≤ 1 → r' = (-1))) : r = r' := by
  by_cases a : v < 0
  · rw [h.1 a, h'.1 a]
  · by_cases b : v < 2
    · rw [h.2.1 a b, h'.2.1 a (lt2.mp b)]
    · rw [h.2.2 a b, h'.2.2 a (fun z => b (lt2.mpr z))]
set_option maxHeartbeats 8000000 in
set_option maxRecDepth 100000 in
theorem law_tail {p : Program} {l : Launch} {e : Env} {s : State} {m : MethodId} {below : List Frame} {meth : Method} {c : Code} {b : Nat} {xs : Nat → Int32} (C0 : lw_At p s m meth c b 9 xs) {A : Nat → Prop} (hA2 : ∀ q, A q → s.heap.size ≤ q) {H : Heap} {locs : List Loc} (hS : va_S A s.heap H locs) {cells slots : Nat} (h1 : cells ≤ 600000) (h2 : slots ≤ 7302249) {ls : Array Slot} {xx mm : Nat} (hl : lv_has ls 4 [(3, .int 0), (2, .ref mm), (1, .ref xx), (0, .ref b)]) : W p l e room_1 s m #[Value.ref b] below meth c H locs cells slots (lw_Z below #[Value.ref b] s) (F0 m 1198 ls []) := by
  obtain ⟨hx, hb, hr, hml, hown, hts0, hXs, hbl, hlocks, hgv⟩ := id C0
  have hts := wA_hts hts0
  have hbA : ¬ A b := fun z => Nat.not_le.mpr hbl (hA2 b z)
  have hown : s.vm.findClass "StaveHouseLaw" = some m.cls := hown
  refine lv_iinc (v := 9) (lv' := [(3, .int 9), (2, .ref mm), (1, .ref xx), (0, .ref b)]) hx hb d_code_1198 hl (k := 0) rfl (by decide) (by decide) rfl (fun ls hl => ?_)
  refine lv_goto (tgt := 18) hx hb d_code_1201 (by decide) ?_
  refine lv_iload_n hx hb d_code_18 rfl (lv_at hl 0 rfl) ?_
  refine lv_aload_n hx hb d_code_19 rfl (lv_at hl 3 rfl) ?_
  refine va_slen hx hb hXs hbl hbA hS d_code_20 ?_
  refine lv_topi (fun y1 ey1 => ?_)
  obtain rfl : y1 = 9 := ey1.trans (by decide)
  refine lv_bipush (v := 9) hx hb d_code_21 (by decide) ?_
  refine lv_isub hx hb d_code_23 ?_
  refine lv_topi (fun y2 ey2 => ?_)
  obtain rfl : y2 = 0 := ey2.trans (by decide)
  refine lv_icmp_gt (tgt := 1204) hx hb d_code_24 (by decide) (fun _ => ?_) (fun c => absurd (by decide) c)
  refine lv_iconst (v := 1) hx hb d_code_1204 (by decide) ?_
  refine va_forget (fun q hq => hA2 _ (hS.2.2 q hq)) ?_
  refine W.widen (k := 600000) (n := 7302249) h1 h2 ?_
  exact lw_ret hx hb hr hlocks d_code_1205
set_option maxHeartbeats 8000000 in
set_option maxRecDepth 100000 in
theorem law_case_0 {p : Program} {l : Launch} {e : Env} {s : State} {m : MethodId} {below : List Frame} {meth : Method} {c : Code} {b : Nat} {xs : Nat → Int32} (C0 : lw_At p s m meth c b 9 xs) {D : va_G} {ca : Nat → ClassId} {ad av : Nat → Nat} {A : Nat → Prop} (hA : ∀ q, s.heap.size ≤ q → A q) (hA2 : ∀ q, A q → s.heap.size ≤ q) {xx : Nat} {cx1 : Nat} {cx3 : Nat} {cx5 : Nat} {cx7 : Nat} {cx9 : Nat} {cx11 : Nat} {cx13 : Nat} {cx15 : Nat} {cx17 : Nat} {cx19 : Nat} {cx21 : Nat} {mm : Nat} {cm1 : Nat} {cm3 : Nat} {cm5 : Nat} {cm7 : Nat} {cm9 : Nat} {cm11 : Nat} {cm13 : Nat} {cm15 : Nat} {cm17 : Nat} {cx0 : Nat → Value} {cx2 : Nat → Value} {cx4 : Nat → Option Nat} {cx6 : Nat → Value} {cx8 : Nat → Int32} {cx10 : Nat → Value} {cx12 : Nat → Value} {cx14 : Nat → Int32} {cx16 : Nat → Int32} {cx18 : Nat → Int64} {cx20 : Nat → Int32} {cx22 : Nat → Int32} {cm0 : Nat → Value} {cm2 : Nat → Int32} {cm4 : Nat → Int32} {cm6 : Nat → Int32} {cm8 : Nat → Value} {cm10 : Nat → Option Nat} {cm12 : Nat → Int32} {cm14 : Nat → Int32} {cm16 : Nat → Value} {cm18 : Nat → Value} (hcx0 : gF cx0 [(4, .ref cx1), (3, .ref cx3), (2, .ref cx5), (1, .ref cx7), (0, .ref cx9), (7, .null), (8, .null), (9, .null)]) (hcx1 : gF cx2 [(11, .ref cx11), (16, .int 0), (21, .int 0)]) (hcx2 : gF cx4 [(0, none), (1, none)]) (hcx3 : gF cx6 [(0, .ref cx13), (1, .int 0), (2, .int 0)]) (hcx4 : gF cx8 []) (hcx5 : gF cx10 [(0, .ref cx15), (1, .int 0), (2, .int 0)]) (hcx6 : gF cx12 [(7, .ref cx17), (6, .ref cx19), (5, .ref cx21), (0, .int 0), (1, .int 0), (2, .long 0), (8, .int 0)]) (hcx7 : gF cx14 []) (hcx8 : gF cx16 []) (hcx9 : gF cx18 []) (hcx10 : gF cx20 []) (hcx11 : gF cx22 []) (hcm0 : gF cm0 [(74, .ref cm1), (8, .ref cm3), (7, .ref cm5), (6, .ref cm7), (5, .ref cm9), (4, .ref cm11), (2, .ref cm13), (3, .int 0), (12, .int 0), (16, .int 0), (17, .int 0), (18, .int 0), (71, .int 0), (72, .int 0), (89, .int 0), (90, .long 0), (94, .int 0)]) (hcm1 : gF cm2 []) (hcm2 : gF cm4 []) (hcm3 : gF cm6 []) (hcm4 : gF cm8 [(0, .int 0), (1, .int 0)]) (hcm5 : gF cm10 [(1, some cm15), (0, some cm17)]) (hcm6 : gF cm12 []) (hcm7 : gF cm14 []) (hcm8 : gF cm16 [(0, .int 0), (1, .int 0)]) (hcm9 : gF cm18 [(0, .int 0), (1, .int 0)]) (hK : va_K D cls (tyL ca) s) (hX : gX ad av A s s.heap) {H : Heap} {locs : List Loc} (hP : va_P D cls [(xx, .inr (12, rg 10 cx0)), (cx1, .inr (3, rg 22 cx2)), (cx3, .inl (ca 4, 2, .inr (.inr (.inr (.inr cx4))))), (cx5, .inr (0, rg 3 cx6)), (cx7, .inl (ca 0, 20, .inl cx8)), (cx9, .inr (0, rg 3 cx10)), (cx11, .inr (10, rg 9 cx12)), (cx13, .inl (ca 0, 20480, .inl cx14)), (cx15, .inl (ca 0, 3000, .inl cx16)), (cx17, .inl (ca 1, 3001, .inr (.inl cx18))), (cx19, .inl (ca 0, 3001, .inl cx20)), (cx21, .inl (ca 0, 3001, .inl cx22)), (mm, .inr (14, rg 107 cm0)), (cm1, .inl (ca 0, 8, .inl cm2)), (cm3, .inl (ca 0, 3001, .inl cm4)), (cm5, .inl (ca 0, 3001, .inl cm6)), (cm7, .inr (13, rg 81 cm8)), (cm9, .inl (ca 5, 2, .inr (.inr (.inr (.inr cm10))))), (cm11, .inl (ca 2, 20, .inl cm12)), (cm13, .inl (ca 2, 3000, .inl cm14)), (cm15, .inr (13, rg 81 cm16)), (cm17, .inr (13, rg 81 cm18))] H) (hD : va_D A [(xx, .inr (12, rg 10 cx0)), (cx1, .inr (3, rg 22 cx2)), (cx3, .inl (ca 4, 2, .inr (.inr (.inr (.inr cx4))))), (cx5, .inr (0, rg 3 cx6)), (cx7, .inl (ca 0, 20, .inl cx8)), (cx9, .inr (0, rg 3 cx10)), (cx11, .inr (10, rg 9 cx12)), (cx13, .inl (ca 0, 20480, .inl cx14)), (cx15, .inl (ca 0, 3000, .inl cx16)), (cx17, .inl (ca 1, 3001, .inr (.inl cx18))), (cx19, .inl (ca 0, 3001, .inl cx20)), (cx21, .inl (ca 0, 3001, .inl cx22)), (mm, .inr (14, rg 107 cm0)), (cm1, .inl (ca 0, 8, .inl cm2)), (cm3, .inl (ca 0, 3001, .inl cm4)), (cm5, .inl (ca 0, 3001, .inl cm6)), (cm7, .inr (13, rg 81 cm8)), (cm9, .inl (ca 5, 2, .inr (.inr (.inr (.inr cm10))))), (cm11, .inl (ca 2, 20, .inl cm12)), (cm13, .inl (ca 2, 3000, .inl cm14)), (cm15, .inr (13, rg 81 cm16)), (cm17, .inr (13, rg 81 cm18))]) (hS : va_S A s.heap H locs) {ls : Array Slot} (hl : lv_has ls 4 [(3, .int 0), (2, .ref mm), (1, .ref xx), (0, .ref b)]) : W p l e room_1 s m #[Value.ref b] below meth c H locs 282 716534 (lw_Z below #[Value.ref b] s) (F0 m 156 ls []) := by
  obtain ⟨hx, hb, hr, hml, hown, hts0, hXs, hbl, hlocks, hgv⟩ := id C0
  have hts := wA_hts hts0
  have hbA : ¬ A b := fun z => Nat.not_le.mpr hbl (hA2 b z)
  have hown : s.vm.findClass "StaveHouseLaw" = some m.cls := hown
  refine lv_aload_n hx hb d_code_156 rfl (lv_at hl 2 rfl) ?_
  refine lv_aload_n hx hb d_code_157 rfl (lv_at hl 3 rfl) ?_
  refine lv_iload_n hx hb d_code_158 rfl (lv_at hl 0 rfl) ?_
  refine lv_iconst (v := 1) hx hb d_code_159 (by decide) ?_
  refine lv_iadd hx hb d_code_160 ?_
  refine lv_topi (fun y1 ey1 => ?_)
  obtain rfl : y1 = 1 := ey1.trans (by decide)
  refine va_sld hx hb hXs hbl hbA hS (vinC (by decide)) d_code_161 ?_
  refine W.eq (g2 := F0 m 162 ls [.int (xs 1), .ref xx]) rfl ?_
  refine lv_aload_n hx hb d_code_162 rfl (lv_at hl 3 rfl) ?_
  refine lv_iload_n hx hb d_code_163 rfl (lv_at hl 0 rfl) ?_
  refine lv_iconst (v := 2) hx hb d_code_164 (by decide) ?_
  refine lv_iadd hx hb d_code_165 ?_
  refine lv_topi (fun y2 ey2 => ?_)
  obtain rfl : y2 = 2 := ey2.trans (by decide)
  refine va_sld hx hb hXs hbl hbA hS (vinC (by decide)) d_code_166 ?_
  refine W.eq (g2 := F0 m 167 ls [.int (xs 2), .int (xs 1), .ref xx]) rfl ?_
  refine lv_aload_n hx hb d_code_167 rfl (lv_at hl 3 rfl) ?_
  refine lv_iload_n hx hb d_code_168 rfl (lv_at hl 0 rfl) ?_
  refine lv_iconst (v := 3) hx hb d_code_169 (by decide) ?_
  refine lv_iadd hx hb d_code_170 ?_
  refine lv_topi (fun y3 ey3 => ?_)
  obtain rfl : y3 = 3 := ey3.trans (by decide)
  refine va_sld hx hb hXs hbl hbA hS (vinC (by decide)) d_code_171 ?_
  refine W.eq (g2 := F0 m 172 ls [.int (xs 3), .int (xs 2), .int (xs 1), .ref xx]) rfl ?_
  refine lv_aload_n hx hb d_code_172 rfl (lv_at hl 3 rfl) ?_
  refine lv_iload_n hx hb d_code_173 rfl (lv_at hl 0 rfl) ?_
  refine lv_iconst (v := 4) hx hb d_code_174 (by decide) ?_
  refine lv_iadd hx hb d_code_175 ?_
  refine lv_topi (fun y4 ey4 => ?_)
  obtain rfl : y4 = 4 := ey4.trans (by decide)
  refine va_sld hx hb hXs hbl hbA hS (vinC (by decide)) d_code_176 ?_
  refine W.eq (g2 := F0 m 177 ls [.int (xs 4), .int (xs 3), .int (xs 2), .int (xs 1), .ref xx]) rfl ?_
  refine lv_aload_n hx hb d_code_177 rfl (lv_at hl 3 rfl) ?_
  refine lv_iload_n hx hb d_code_178 rfl (lv_at hl 0 rfl) ?_
  refine lv_iconst (v := 5) hx hb d_code_179 (by decide) ?_
  refine lv_iadd hx hb d_code_180 ?_
  refine lv_topi (fun y5 ey5 => ?_)
  obtain rfl : y5 = 5 := ey5.trans (by decide)
  refine va_sld hx hb hXs hbl hbA hS (vinC (by decide)) d_code_181 ?_
  refine W.eq (g2 := F0 m 182 ls [.int (xs 5), .int (xs 4), .int (xs 3), .int (xs 2), .int (xs 1), .ref xx]) rfl ?_
  have hFc6 := va_free (wc := [(xx, .inr (12, rg 10 cx0)), (cx7, .inl (ca 0, 20, .inl cx8))]) hD hS hA [0, 4] rfl
  refine va_callv (va_runV (As := [.int (xs 1), .int (xs 2), .int (xs 3), .int (xs 4), .int (xs 5)]) (rest := []) ⟨hx, hb, hml, hown, hts⟩ (c_S_feed_0 l D ca ad av H.size xx cx7 cx0 cx8 (xs 1) (xs 2) (xs 3) (xs 4) (xs 5) (hcx0.sub [3] rfl) (hcx4.sub [] rfl)) (cwV 5 hts (gdV k_2_158 k_2_159 k_2_160 k_1_1 k_2_161) rfl rfl rfl (by decide +kernel) ⟨Nat.le_of_ble_eq_true rfl, Nat.le_of_ble_eq_true rfl⟩) (gPV hP hD hK hS hA hX [0, 4] (by decide) rfl xx [.int (xs 1), .int (xs 2), .int (xs 3), .int (xs 4), .int (xs 5)] 0 (ci := 12) (r := (RX12, TX12, 10)) rfl rfl) rfl rfl hl.1 rfl (lv_room (Nat.le_of_ble_eq_true rfl)) d_code_182 ⟨Nat.le_of_ble_eq_true rfl, Nat.le_of_ble_eq_true rfl⟩) hS (fun q _ h => hFc6 q h) hFc6 (fun x6_0 t6 H6 locs6 ht6 hvm6 hw6 hB6 hz6 hk6 hS6 => ?_)
  have hw6_0 := hw6
  obtain ⟨hP6, hD6⟩ := gJoin (wr := [(cx1, .inr (3, rg 22 cx2)), (cx3, .inl (ca 4, 2, .inr (.inr (.inr (.inr cx4))))), (cx5, .inr (0, rg 3 cx6)), (cx9, .inr (0, rg 3 cx10)), (cx11, .inr (10, rg 9 cx12)), (cx13, .inl (ca 0, 20480, .inl cx14)), (cx15, .inl (ca 0, 3000, .inl cx16)), (cx17, .inl (ca 1, 3001, .inr (.inl cx18))), (cx19, .inl (ca 0, 3001, .inl cx20)), (cx21, .inl (ca 0, 3001, .inl cx22)), (mm, .inr (14, rg 107 cm0)), (cm1, .inl (ca 0, 8, .inl cm2)), (cm3, .inl (ca 0, 3001, .inl cm4)), (cm5, .inl (ca 0, 3001, .inl cm6)), (cm7, .inr (13, rg 81 cm8)), (cm9, .inl (ca 5, 2, .inr (.inr (.inr (.inr cm10))))), (cm11, .inl (ca 2, 20, .inl cm12)), (cm13, .inl (ca 2, 3000, .inl cm14)), (cm15, .inr (13, rg 81 cm16)), (cm17, .inr (13, rg 81 cm18))]) (w1 := [(xx, .inr (12, rg 10 cx0)), (cx7, .inl (ca 0, 20, .inl x6_0))]) hP hD [0, 4] [1, 2, 3, 5, 6, 7, 8, 9, 10, 11, 12, 13, 14, 15, 16, 17, 18, 19, 20, 21] rfl rfl (by decide) (by decide) hk6 hFc6 ht6 hB6
  have hP6 : va_P D cls [(cx1, .inr (3, rg 22 cx2)), (cx3, .inl (ca 4, 2, .inr (.inr (.inr (.inr cx4))))), (cx5, .inr (0, rg 3 cx6)), (cx9, .inr (0, rg 3 cx10)), (cx11, .inr (10, rg 9 cx12)), (cx13, .inl (ca 0, 20480, .inl cx14)), (cx15, .inl (ca 0, 3000, .inl cx16)), (cx17, .inl (ca 1, 3001, .inr (.inl cx18))), (cx19, .inl (ca 0, 3001, .inl cx20)), (cx21, .inl (ca 0, 3001, .inl cx22)), (mm, .inr (14, rg 107 cm0)), (cm1, .inl (ca 0, 8, .inl cm2)), (cm3, .inl (ca 0, 3001, .inl cm4)), (cm5, .inl (ca 0, 3001, .inl cm6)), (cm7, .inr (13, rg 81 cm8)), (cm9, .inl (ca 5, 2, .inr (.inr (.inr (.inr cm10))))), (cm11, .inl (ca 2, 20, .inl cm12)), (cm13, .inl (ca 2, 3000, .inl cm14)), (cm15, .inr (13, rg 81 cm16)), (cm17, .inr (13, rg 81 cm18)), (xx, .inr (12, rg 10 cx0)), (cx7, .inl (ca 0, 20, .inl x6_0))] H6 := hP6
  have hD6 : va_D A [(cx1, .inr (3, rg 22 cx2)), (cx3, .inl (ca 4, 2, .inr (.inr (.inr (.inr cx4))))), (cx5, .inr (0, rg 3 cx6)), (cx9, .inr (0, rg 3 cx10)), (cx11, .inr (10, rg 9 cx12)), (cx13, .inl (ca 0, 20480, .inl cx14)), (cx15, .inl (ca 0, 3000, .inl cx16)), (cx17, .inl (ca 1, 3001, .inr (.inl cx18))), (cx19, .inl (ca 0, 3001, .inl cx20)), (cx21, .inl (ca 0, 3001, .inl cx22)), (mm, .inr (14, rg 107 cm0)), (cm1, .inl (ca 0, 8, .inl cm2)), (cm3, .inl (ca 0, 3001, .inl cm4)), (cm5, .inl (ca 0, 3001, .inl cm6)), (cm7, .inr (13, rg 81 cm8)), (cm9, .inl (ca 5, 2, .inr (.inr (.inr (.inr cm10))))), (cm11, .inl (ca 2, 20, .inl cm12)), (cm13, .inl (ca 2, 3000, .inl cm14)), (cm15, .inr (13, rg 81 cm16)), (cm17, .inr (13, rg 81 cm18)), (xx, .inr (12, rg 10 cx0)), (cx7, .inl (ca 0, 20, .inl x6_0))] := hD6
  refine W.widen (k := 282) (n := 716534) (Nat.le_of_ble_eq_true rfl) (Nat.le_of_ble_eq_true rfl) ?_
  refine lv_aload_n hx hb d_code_185 rfl (lv_at hl 1 rfl) ?_
  refine lv_aload_n hx hb d_code_186 rfl (lv_at hl 3 rfl) ?_
  refine lv_iload_n hx hb d_code_187 rfl (lv_at hl 0 rfl) ?_
  refine lv_iconst (v := 1) hx hb d_code_188 (by decide) ?_
  refine lv_iadd hx hb d_code_189 ?_
  refine lv_topi (fun y7 ey7 => ?_)
  obtain rfl : y7 = 1 := ey7.trans (by decide)
  refine va_sld hx hb hXs hbl hbA hS6 (vinC (by decide)) d_code_190 ?_
  refine W.eq (g2 := F0 m 191 ls [.int (xs 1), .ref mm]) rfl ?_
  refine lv_aload_n hx hb d_code_191 rfl (lv_at hl 3 rfl) ?_
  refine lv_iload_n hx hb d_code_192 rfl (lv_at hl 0 rfl) ?_
  refine lv_iconst (v := 2) hx hb d_code_193 (by decide) ?_
  refine lv_iadd hx hb d_code_194 ?_
  refine lv_topi (fun y8 ey8 => ?_)
  obtain rfl : y8 = 2 := ey8.trans (by decide)
  refine va_sld hx hb hXs hbl hbA hS6 (vinC (by decide)) d_code_195 ?_
  refine W.eq (g2 := F0 m 196 ls [.int (xs 2), .int (xs 1), .ref mm]) rfl ?_
  refine lv_aload_n hx hb d_code_196 rfl (lv_at hl 3 rfl) ?_
  refine lv_iload_n hx hb d_code_197 rfl (lv_at hl 0 rfl) ?_
  refine lv_iconst (v := 3) hx hb d_code_198 (by decide) ?_
  refine lv_iadd hx hb d_code_199 ?_
  refine lv_topi (fun y9 ey9 => ?_)
  obtain rfl : y9 = 3 := ey9.trans (by decide)
  refine va_sld hx hb hXs hbl hbA hS6 (vinC (by decide)) d_code_200 ?_
  refine W.eq (g2 := F0 m 201 ls [.int (xs 3), .int (xs 2), .int (xs 1), .ref mm]) rfl ?_
  refine lv_aload_n hx hb d_code_201 rfl (lv_at hl 3 rfl) ?_
  refine lv_iload_n hx hb d_code_202 rfl (lv_at hl 0 rfl) ?_
  refine lv_iconst (v := 4) hx hb d_code_203 (by decide) ?_
  refine lv_iadd hx hb d_code_204 ?_
  refine lv_topi (fun y10 ey10 => ?_)
  obtain rfl : y10 = 4 := ey10.trans (by decide)
  refine va_sld hx hb hXs hbl hbA hS6 (vinC (by decide)) d_code_205 ?_
  refine W.eq (g2 := F0 m 206 ls [.int (xs 4), .int (xs 3), .int (xs 2), .int (xs 1), .ref mm]) rfl ?_
  refine lv_aload_n hx hb d_code_206 rfl (lv_at hl 3 rfl) ?_
  refine lv_iload_n hx hb d_code_207 rfl (lv_at hl 0 rfl) ?_
  refine lv_iconst (v := 5) hx hb d_code_208 (by decide) ?_
  refine lv_iadd hx hb d_code_209 ?_
  refine lv_topi (fun y11 ey11 => ?_)
  obtain rfl : y11 = 5 := ey11.trans (by decide)
  refine va_sld hx hb hXs hbl hbA hS6 (vinC (by decide)) d_code_210 ?_
  refine W.eq (g2 := F0 m 211 ls [.int (xs 5), .int (xs 4), .int (xs 3), .int (xs 2), .int (xs 1), .ref mm]) rfl ?_
  have hFc12 := va_free (wc := [(mm, .inr (14, rg 107 cm0)), (cm11, .inl (ca 2, 20, .inl cm12))]) hD6 hS6 hA [10, 16] rfl
  refine va_callv (va_runV (As := [.int (xs 1), .int (xs 2), .int (xs 3), .int (xs 4), .int (xs 5)]) (rest := []) ⟨hx, hb, hml, hown, hts⟩ (c_M_feed_0 l D ca ad av H6.size mm cm11 cm0 cm12 (xs 1) (xs 2) (xs 3) (xs 4) (xs 5) (hcm0.sub [5] rfl) (hcm6.sub [] rfl)) (cwV 5 hts (gdV k_12_80 k_12_81 k_12_82 k_1_9 k_12_83) rfl rfl rfl (by decide +kernel) ⟨Nat.le_of_ble_eq_true rfl, Nat.le_of_ble_eq_true rfl⟩) (gPV hP6 hD6 hK hS6 hA hX [10, 16] (by decide) rfl mm [.int (xs 1), .int (xs 2), .int (xs 3), .int (xs 4), .int (xs 5)] 10 (ci := 14) (r := (RX14, TX14, 107)) rfl rfl) rfl rfl hl.1 rfl (lv_room (Nat.le_of_ble_eq_true rfl)) d_code_211 ⟨Nat.le_of_ble_eq_true rfl, Nat.le_of_ble_eq_true rfl⟩) hS6 (fun q _ h => hFc12 q h) hFc12 (fun x12_0 t12 H12 locs12 ht12 hvm12 hw12 hB12 hz12 hk12 hS12 => ?_)
  have hw12_0 := hw12
  obtain ⟨hP12, hD12⟩ := gJoin (wr := [(cx1, .inr (3, rg 22 cx2)), (cx3, .inl (ca 4, 2, .inr (.inr (.inr (.inr cx4))))), (cx5, .inr (0, rg 3 cx6)), (cx9, .inr (0, rg 3 cx10)), (cx11, .inr (10, rg 9 cx12)), (cx13, .inl (ca 0, 20480, .inl cx14)), (cx15, .inl (ca 0, 3000, .inl cx16)), (cx17, .inl (ca 1, 3001, .inr (.inl cx18))), (cx19, .inl (ca 0, 3001, .inl cx20)), (cx21, .inl (ca 0, 3001, .inl cx22)), (cm1, .inl (ca 0, 8, .inl cm2)), (cm3, .inl (ca 0, 3001, .inl cm4)), (cm5, .inl (ca 0, 3001, .inl cm6)), (cm7, .inr (13, rg 81 cm8)), (cm9, .inl (ca 5, 2, .inr (.inr (.inr (.inr cm10))))), (cm13, .inl (ca 2, 3000, .inl cm14)), (cm15, .inr (13, rg 81 cm16)), (cm17, .inr (13, rg 81 cm18)), (xx, .inr (12, rg 10 cx0)), (cx7, .inl (ca 0, 20, .inl x6_0))]) (w1 := [(mm, .inr (14, rg 107 cm0)), (cm11, .inl (ca 2, 20, .inl x12_0))]) hP6 hD6 [10, 16] [0, 1, 2, 3, 4, 5, 6, 7, 8, 9, 11, 12, 13, 14, 15, 17, 18, 19, 20, 21] rfl rfl (by decide) (by decide) hk12 hFc12 ht12 hB12
  have hP12 : va_P D cls [(cx1, .inr (3, rg 22 cx2)), (cx3, .inl (ca 4, 2, .inr (.inr (.inr (.inr cx4))))), (cx5, .inr (0, rg 3 cx6)), (cx9, .inr (0, rg 3 cx10)), (cx11, .inr (10, rg 9 cx12)), (cx13, .inl (ca 0, 20480, .inl cx14)), (cx15, .inl (ca 0, 3000, .inl cx16)), (cx17, .inl (ca 1, 3001, .inr (.inl cx18))), (cx19, .inl (ca 0, 3001, .inl cx20)), (cx21, .inl (ca 0, 3001, .inl cx22)), (cm1, .inl (ca 0, 8, .inl cm2)), (cm3, .inl (ca 0, 3001, .inl cm4)), (cm5, .inl (ca 0, 3001, .inl cm6)), (cm7, .inr (13, rg 81 cm8)), (cm9, .inl (ca 5, 2, .inr (.inr (.inr (.inr cm10))))), (cm13, .inl (ca 2, 3000, .inl cm14)), (cm15, .inr (13, rg 81 cm16)), (cm17, .inr (13, rg 81 cm18)), (xx, .inr (12, rg 10 cx0)), (cx7, .inl (ca 0, 20, .inl x6_0)), (mm, .inr (14, rg 107 cm0)), (cm11, .inl (ca 2, 20, .inl x12_0))] H12 := hP12
  have hD12 : va_D A [(cx1, .inr (3, rg 22 cx2)), (cx3, .inl (ca 4, 2, .inr (.inr (.inr (.inr cx4))))), (cx5, .inr (0, rg 3 cx6)), (cx9, .inr (0, rg 3 cx10)), (cx11, .inr (10, rg 9 cx12)), (cx13, .inl (ca 0, 20480, .inl cx14)), (cx15, .inl (ca 0, 3000, .inl cx16)), (cx17, .inl (ca 1, 3001, .inr (.inl cx18))), (cx19, .inl (ca 0, 3001, .inl cx20)), (cx21, .inl (ca 0, 3001, .inl cx22)), (cm1, .inl (ca 0, 8, .inl cm2)), (cm3, .inl (ca 0, 3001, .inl cm4)), (cm5, .inl (ca 0, 3001, .inl cm6)), (cm7, .inr (13, rg 81 cm8)), (cm9, .inl (ca 5, 2, .inr (.inr (.inr (.inr cm10))))), (cm13, .inl (ca 2, 3000, .inl cm14)), (cm15, .inr (13, rg 81 cm16)), (cm17, .inr (13, rg 81 cm18)), (xx, .inr (12, rg 10 cx0)), (cx7, .inl (ca 0, 20, .inl x6_0)), (mm, .inr (14, rg 107 cm0)), (cm11, .inl (ca 2, 20, .inl x12_0))] := hD12
  refine W.widen (k := 282) (n := 716534) (Nat.le_of_ble_eq_true rfl) (Nat.le_of_ble_eq_true rfl) ?_
  refine lv_goto (tgt := 1198) hx hb d_code_214 (by decide) ?_
  exact law_tail C0 hA2 hS12 (Nat.le_of_ble_eq_true rfl) (Nat.le_of_ble_eq_true rfl) hl
set_option maxHeartbeats 8000000 in
set_option maxRecDepth 100000 in
theorem law_case_1 {p : Program} {l : Launch} {e : Env} {s : State} {m : MethodId} {below : List Frame} {meth : Method} {c : Code} {b : Nat} {xs : Nat → Int32} (C0 : lw_At p s m meth c b 9 xs) {D : va_G} {ca : Nat → ClassId} {ad av : Nat → Nat} {A : Nat → Prop} (hA : ∀ q, s.heap.size ≤ q → A q) (hA2 : ∀ q, A q → s.heap.size ≤ q) {xx : Nat} {cx1 : Nat} {cx3 : Nat} {cx5 : Nat} {cx7 : Nat} {cx9 : Nat} {cx11 : Nat} {cx13 : Nat} {cx15 : Nat} {cx17 : Nat} {cx19 : Nat} {cx21 : Nat} {mm : Nat} {cm1 : Nat} {cm3 : Nat} {cm5 : Nat} {cm7 : Nat} {cm9 : Nat} {cm11 : Nat} {cm13 : Nat} {cm15 : Nat} {cm17 : Nat} {cx0 : Nat → Value} {cx2 : Nat → Value} {cx4 : Nat → Option Nat} {cx6 : Nat → Value} {cx8 : Nat → Int32} {cx10 : Nat → Value} {cx12 : Nat → Value} {cx14 : Nat → Int32} {cx16 : Nat → Int32} {cx18 : Nat → Int64} {cx20 : Nat → Int32} {cx22 : Nat → Int32} {cm0 : Nat → Value} {cm2 : Nat → Int32} {cm4 : Nat → Int32} {cm6 : Nat → Int32} {cm8 : Nat → Value} {cm10 : Nat → Option Nat} {cm12 : Nat → Int32} {cm14 : Nat → Int32} {cm16 : Nat → Value} {cm18 : Nat → Value} (hcx0 : gF cx0 [(4, .ref cx1), (3, .ref cx3), (2, .ref cx5), (1, .ref cx7), (0, .ref cx9), (7, .null), (8, .null), (9, .null)]) (hcx1 : gF cx2 [(11, .ref cx11), (16, .int 0), (21, .int 0)]) (hcx2 : gF cx4 [(0, none), (1, none)]) (hcx3 : gF cx6 [(0, .ref cx13), (1, .int 0), (2, .int 0)]) (hcx4 : gF cx8 []) (hcx5 : gF cx10 [(0, .ref cx15), (1, .int 0), (2, .int 0)]) (hcx6 : gF cx12 [(7, .ref cx17), (6, .ref cx19), (5, .ref cx21), (0, .int 0), (1, .int 0), (2, .long 0), (8, .int 0)]) (hcx7 : gF cx14 []) (hcx8 : gF cx16 []) (hcx9 : gF cx18 []) (hcx10 : gF cx20 []) (hcx11 : gF cx22 []) (hcm0 : gF cm0 [(74, .ref cm1), (8, .ref cm3), (7, .ref cm5), (6, .ref cm7), (5, .ref cm9), (4, .ref cm11), (2, .ref cm13), (3, .int 0), (12, .int 0), (16, .int 0), (17, .int 0), (18, .int 0), (71, .int 0), (72, .int 0), (89, .int 0), (90, .long 0), (94, .int 0)]) (hcm1 : gF cm2 []) (hcm2 : gF cm4 []) (hcm3 : gF cm6 []) (hcm4 : gF cm8 [(0, .int 0), (1, .int 0)]) (hcm5 : gF cm10 [(1, some cm15), (0, some cm17)]) (hcm6 : gF cm12 []) (hcm7 : gF cm14 []) (hcm8 : gF cm16 [(0, .int 0), (1, .int 0)]) (hcm9 : gF cm18 [(0, .int 0), (1, .int 0)]) (hK : va_K D cls (tyL ca) s) (hX : gX ad av A s s.heap) {H : Heap} {locs : List Loc} (hP : va_P D cls [(xx, .inr (12, rg 10 cx0)), (cx1, .inr (3, rg 22 cx2)), (cx3, .inl (ca 4, 2, .inr (.inr (.inr (.inr cx4))))), (cx5, .inr (0, rg 3 cx6)), (cx7, .inl (ca 0, 20, .inl cx8)), (cx9, .inr (0, rg 3 cx10)), (cx11, .inr (10, rg 9 cx12)), (cx13, .inl (ca 0, 20480, .inl cx14)), (cx15, .inl (ca 0, 3000, .inl cx16)), (cx17, .inl (ca 1, 3001, .inr (.inl cx18))), (cx19, .inl (ca 0, 3001, .inl cx20)), (cx21, .inl (ca 0, 3001, .inl cx22)), (mm, .inr (14, rg 107 cm0)), (cm1, .inl (ca 0, 8, .inl cm2)), (cm3, .inl (ca 0, 3001, .inl cm4)), (cm5, .inl (ca 0, 3001, .inl cm6)), (cm7, .inr (13, rg 81 cm8)), (cm9, .inl (ca 5, 2, .inr (.inr (.inr (.inr cm10))))), (cm11, .inl (ca 2, 20, .inl cm12)), (cm13, .inl (ca 2, 3000, .inl cm14)), (cm15, .inr (13, rg 81 cm16)), (cm17, .inr (13, rg 81 cm18))] H) (hD : va_D A [(xx, .inr (12, rg 10 cx0)), (cx1, .inr (3, rg 22 cx2)), (cx3, .inl (ca 4, 2, .inr (.inr (.inr (.inr cx4))))), (cx5, .inr (0, rg 3 cx6)), (cx7, .inl (ca 0, 20, .inl cx8)), (cx9, .inr (0, rg 3 cx10)), (cx11, .inr (10, rg 9 cx12)), (cx13, .inl (ca 0, 20480, .inl cx14)), (cx15, .inl (ca 0, 3000, .inl cx16)), (cx17, .inl (ca 1, 3001, .inr (.inl cx18))), (cx19, .inl (ca 0, 3001, .inl cx20)), (cx21, .inl (ca 0, 3001, .inl cx22)), (mm, .inr (14, rg 107 cm0)), (cm1, .inl (ca 0, 8, .inl cm2)), (cm3, .inl (ca 0, 3001, .inl cm4)), (cm5, .inl (ca 0, 3001, .inl cm6)), (cm7, .inr (13, rg 81 cm8)), (cm9, .inl (ca 5, 2, .inr (.inr (.inr (.inr cm10))))), (cm11, .inl (ca 2, 20, .inl cm12)), (cm13, .inl (ca 2, 3000, .inl cm14)), (cm15, .inr (13, rg 81 cm16)), (cm17, .inr (13, rg 81 cm18))]) (hS : va_S A s.heap H locs) {ls : Array Slot} (hl : lv_has ls 4 [(3, .int 0), (2, .ref mm), (1, .ref xx), (0, .ref b)]) : W p l e room_1 s m #[Value.ref b] below meth c H locs 282 716534 (lw_Z below #[Value.ref b] s) (F0 m 217 ls []) := by
  obtain ⟨hx, hb, hr, hml, hown, hts0, hXs, hbl, hlocks, hgv⟩ := id C0
  have hts := wA_hts hts0
  have hbA : ¬ A b := fun z => Nat.not_le.mpr hbl (hA2 b z)
  have hown : s.vm.findClass "StaveHouseLaw" = some m.cls := hown
  refine lv_aload_n hx hb d_code_217 rfl (lv_at hl 2 rfl) ?_
  refine lv_aload_n hx hb d_code_218 rfl (lv_at hl 3 rfl) ?_
  refine lv_iload_n hx hb d_code_219 rfl (lv_at hl 0 rfl) ?_
  refine lv_iconst (v := 1) hx hb d_code_220 (by decide) ?_
  refine lv_iadd hx hb d_code_221 ?_
  refine lv_topi (fun y1 ey1 => ?_)
  obtain rfl : y1 = 1 := ey1.trans (by decide)
  refine va_sld hx hb hXs hbl hbA hS (vinC (by decide)) d_code_222 ?_
  refine W.eq (g2 := F0 m 223 ls [.int (xs 1), .ref xx]) rfl ?_
  have hFc2 := va_free (wc := [(xx, .inr (12, rg 10 cx0)), (cx7, .inl (ca 0, 20, .inl cx8)), (cx9, .inr (0, rg 3 cx10)), (cx15, .inl (ca 0, 3000, .inl cx16))]) hD hS hA [0, 4, 5, 8] rfl
  refine va_calli (va_runV (As := [.int (xs 1)]) (rest := []) ⟨hx, hb, hml, hown, hts⟩ (c_S_end_0 l D ca ad av H.size xx cx7 cx9 cx15 cx0 cx8 cx10 cx16 (xs 1) (hcx0.sub [3, 4] rfl) (hcx4.sub [] rfl) (hcx5.sub [0, 1] rfl) (hcx8.sub [] rfl)) (cwV 1 hts (gdV k_2_166 k_2_167 k_2_168 k_1_1 k_2_169) rfl rfl rfl (by decide +kernel) ⟨Nat.le_of_ble_eq_true rfl, Nat.le_of_ble_eq_true rfl⟩) (gPV hP hD hK hS hA hX [0, 4, 5, 8] (by decide) rfl xx [.int (xs 1)] 0 (ci := 12) (r := (RX12, TX12, 10)) rfl rfl) rfl rfl hl.1 rfl (lv_room (Nat.le_of_ble_eq_true rfl)) d_code_223 ⟨Nat.le_of_ble_eq_true rfl, Nat.le_of_ble_eq_true rfl⟩) hS (fun q _ h => hFc2 q h) hFc2 (fun r2 u2 t2 H2 locs2 ht2 hvm2 hw2 hB2 hz2 hk2 hS2 => ?_)
  obtain ⟨x2_0, x2_1⟩ := u2
  try dsimp only at hw2 hB2
  obtain ⟨hc2, hw2_1, hw2_2, hw2_3⟩ := hw2
  obtain ⟨hP2, hD2⟩ := gJoin (wr := [(cx1, .inr (3, rg 22 cx2)), (cx3, .inl (ca 4, 2, .inr (.inr (.inr (.inr cx4))))), (cx5, .inr (0, rg 3 cx6)), (cx11, .inr (10, rg 9 cx12)), (cx13, .inl (ca 0, 20480, .inl cx14)), (cx17, .inl (ca 1, 3001, .inr (.inl cx18))), (cx19, .inl (ca 0, 3001, .inl cx20)), (cx21, .inl (ca 0, 3001, .inl cx22)), (mm, .inr (14, rg 107 cm0)), (cm1, .inl (ca 0, 8, .inl cm2)), (cm3, .inl (ca 0, 3001, .inl cm4)), (cm5, .inl (ca 0, 3001, .inl cm6)), (cm7, .inr (13, rg 81 cm8)), (cm9, .inl (ca 5, 2, .inr (.inr (.inr (.inr cm10))))), (cm11, .inl (ca 2, 20, .inl cm12)), (cm13, .inl (ca 2, 3000, .inl cm14)), (cm15, .inr (13, rg 81 cm16)), (cm17, .inr (13, rg 81 cm18))]) (w1 := [(xx, .inr (12, rg 10 cx0)), (cx7, .inl (ca 0, 20, .inl cx8)), (cx9, .inr (0, rg 3 x2_0)), (cx15, .inl (ca 0, 3000, .inl x2_1))]) hP hD [0, 4, 5, 8] [1, 2, 3, 6, 7, 9, 10, 11, 12, 13, 14, 15, 16, 17, 18, 19, 20, 21] rfl rfl (by decide) (by decide) hk2 hFc2 ht2 hB2
  have hF2_2 : gF x2_0 [(0, .ref cx15), (2, .int 0)] := gF.upd hcx5 hw2_1 hw2_2 rfl
  have hM2_2 := gM.tr (gM.rf (f := cx10)) hw2_1
  have hP2 : va_P D cls [(cx1, .inr (3, rg 22 cx2)), (cx3, .inl (ca 4, 2, .inr (.inr (.inr (.inr cx4))))), (cx5, .inr (0, rg 3 cx6)), (cx11, .inr (10, rg 9 cx12)), (cx13, .inl (ca 0, 20480, .inl cx14)), (cx17, .inl (ca 1, 3001, .inr (.inl cx18))), (cx19, .inl (ca 0, 3001, .inl cx20)), (cx21, .inl (ca 0, 3001, .inl cx22)), (mm, .inr (14, rg 107 cm0)), (cm1, .inl (ca 0, 8, .inl cm2)), (cm3, .inl (ca 0, 3001, .inl cm4)), (cm5, .inl (ca 0, 3001, .inl cm6)), (cm7, .inr (13, rg 81 cm8)), (cm9, .inl (ca 5, 2, .inr (.inr (.inr (.inr cm10))))), (cm11, .inl (ca 2, 20, .inl cm12)), (cm13, .inl (ca 2, 3000, .inl cm14)), (cm15, .inr (13, rg 81 cm16)), (cm17, .inr (13, rg 81 cm18)), (xx, .inr (12, rg 10 cx0)), (cx7, .inl (ca 0, 20, .inl cx8)), (cx9, .inr (0, rg 3 x2_0)), (cx15, .inl (ca 0, 3000, .inl x2_1))] H2 := hP2
  have hD2 : va_D A [(cx1, .inr (3, rg 22 cx2)), (cx3, .inl (ca 4, 2, .inr (.inr (.inr (.inr cx4))))), (cx5, .inr (0, rg 3 cx6)), (cx11, .inr (10, rg 9 cx12)), (cx13, .inl (ca 0, 20480, .inl cx14)), (cx17, .inl (ca 1, 3001, .inr (.inl cx18))), (cx19, .inl (ca 0, 3001, .inl cx20)), (cx21, .inl (ca 0, 3001, .inl cx22)), (mm, .inr (14, rg 107 cm0)), (cm1, .inl (ca 0, 8, .inl cm2)), (cm3, .inl (ca 0, 3001, .inl cm4)), (cm5, .inl (ca 0, 3001, .inl cm6)), (cm7, .inr (13, rg 81 cm8)), (cm9, .inl (ca 5, 2, .inr (.inr (.inr (.inr cm10))))), (cm11, .inl (ca 2, 20, .inl cm12)), (cm13, .inl (ca 2, 3000, .inl cm14)), (cm15, .inr (13, rg 81 cm16)), (cm17, .inr (13, rg 81 cm18)), (xx, .inr (12, rg 10 cx0)), (cx7, .inl (ca 0, 20, .inl cx8)), (cx9, .inr (0, rg 3 x2_0)), (cx15, .inl (ca 0, 3000, .inl x2_1))] := hD2
  refine W.widen (k := 282) (n := 716534) (Nat.le_of_ble_eq_true rfl) (Nat.le_of_ble_eq_true rfl) ?_
  refine lv_aload_n hx hb d_code_226 rfl (lv_at hl 1 rfl) ?_
  refine lv_aload_n hx hb d_code_227 rfl (lv_at hl 3 rfl) ?_
  refine lv_iload_n hx hb d_code_228 rfl (lv_at hl 0 rfl) ?_
  refine lv_iconst (v := 1) hx hb d_code_229 (by decide) ?_
  refine lv_iadd hx hb d_code_230 ?_
  refine lv_topi (fun y3 ey3 => ?_)
  obtain rfl : y3 = 1 := ey3.trans (by decide)
  refine va_sld hx hb hXs hbl hbA hS2 (vinC (by decide)) d_code_231 ?_
  refine W.eq (g2 := F0 m 232 ls [.int (xs 1), .ref mm, .int r2]) rfl ?_
  have hFc4 := va_free (wc := [(mm, .inr (14, rg 107 cm0)), (cm11, .inl (ca 2, 20, .inl cm12)), (cm13, .inl (ca 2, 3000, .inl cm14))]) hD2 hS2 hA [8, 14, 15] rfl
  refine va_calli (va_runV (As := [.int (xs 1)]) (rest := [.int r2]) ⟨hx, hb, hml, hown, hts⟩ (c_M_end_0 l D ca ad av H2.size mm cm11 cm13 cm0 cm12 cm14 (xs 1) (hcm0.sub [5, 6, 7] rfl) (hcm6.sub [] rfl) (hcm7.sub [] rfl)) (cwV 1 hts (gdV k_12_84 k_12_85 k_12_86 k_1_9 k_12_87) rfl rfl rfl (by decide +kernel) ⟨Nat.le_of_ble_eq_true rfl, Nat.le_of_ble_eq_true rfl⟩) (gPV hP2 hD2 hK hS2 hA hX [8, 14, 15] (by decide) rfl mm [.int (xs 1)] 8 (ci := 14) (r := (RX14, TX14, 107)) rfl rfl) rfl rfl hl.1 rfl (lv_room (Nat.le_of_ble_eq_true rfl)) d_code_232 ⟨Nat.le_of_ble_eq_true rfl, Nat.le_of_ble_eq_true rfl⟩) hS2 (fun q _ h => hFc4 q h) hFc4 (fun r4 u4 t4 H4 locs4 ht4 hvm4 hw4 hB4 hz4 hk4 hS4 => ?_)
  obtain ⟨x4_0, x4_1⟩ := u4
  try dsimp only at hw4 hB4
  obtain ⟨hc4, hw4_1, hw4_2, hw4_3⟩ := hw4
  obtain ⟨hP4, hD4⟩ := gJoin (wr := [(cx1, .inr (3, rg 22 cx2)), (cx3, .inl (ca 4, 2, .inr (.inr (.inr (.inr cx4))))), (cx5, .inr (0, rg 3 cx6)), (cx11, .inr (10, rg 9 cx12)), (cx13, .inl (ca 0, 20480, .inl cx14)), (cx17, .inl (ca 1, 3001, .inr (.inl cx18))), (cx19, .inl (ca 0, 3001, .inl cx20)), (cx21, .inl (ca 0, 3001, .inl cx22)), (cm1, .inl (ca 0, 8, .inl cm2)), (cm3, .inl (ca 0, 3001, .inl cm4)), (cm5, .inl (ca 0, 3001, .inl cm6)), (cm7, .inr (13, rg 81 cm8)), (cm9, .inl (ca 5, 2, .inr (.inr (.inr (.inr cm10))))), (cm15, .inr (13, rg 81 cm16)), (cm17, .inr (13, rg 81 cm18)), (xx, .inr (12, rg 10 cx0)), (cx7, .inl (ca 0, 20, .inl cx8)), (cx9, .inr (0, rg 3 x2_0)), (cx15, .inl (ca 0, 3000, .inl x2_1))]) (w1 := [(mm, .inr (14, rg 107 x4_0)), (cm11, .inl (ca 2, 20, .inl cm12)), (cm13, .inl (ca 2, 3000, .inl x4_1))]) hP2 hD2 [8, 14, 15] [0, 1, 2, 3, 4, 5, 6, 7, 9, 10, 11, 12, 13, 16, 17, 18, 19, 20, 21] rfl rfl (by decide) (by decide) hk4 hFc4 ht4 hB4
  have hF4_0 : gF x4_0 [(74, .ref cm1), (8, .ref cm3), (7, .ref cm5), (6, .ref cm7), (5, .ref cm9), (4, .ref cm11), (2, .ref cm13), (12, .int 0), (16, .int 0), (17, .int 0), (18, .int 0), (71, .int 0), (72, .int 0), (89, .int 0), (90, .long 0), (94, .int 0)] := gF.upd hcm0 hw4_1 hw4_2 rfl
  have hM4_0 := gM.tr (gM.rf (f := cm0)) hw4_1
  have hP4 : va_P D cls [(cx1, .inr (3, rg 22 cx2)), (cx3, .inl (ca 4, 2, .inr (.inr (.inr (.inr cx4))))), (cx5, .inr (0, rg 3 cx6)), (cx11, .inr (10, rg 9 cx12)), (cx13, .inl (ca 0, 20480, .inl cx14)), (cx17, .inl (ca 1, 3001, .inr (.inl cx18))), (cx19, .inl (ca 0, 3001, .inl cx20)), (cx21, .inl (ca 0, 3001, .inl cx22)), (cm1, .inl (ca 0, 8, .inl cm2)), (cm3, .inl (ca 0, 3001, .inl cm4)), (cm5, .inl (ca 0, 3001, .inl cm6)), (cm7, .inr (13, rg 81 cm8)), (cm9, .inl (ca 5, 2, .inr (.inr (.inr (.inr cm10))))), (cm15, .inr (13, rg 81 cm16)), (cm17, .inr (13, rg 81 cm18)), (xx, .inr (12, rg 10 cx0)), (cx7, .inl (ca 0, 20, .inl cx8)), (cx9, .inr (0, rg 3 x2_0)), (cx15, .inl (ca 0, 3000, .inl x2_1)), (mm, .inr (14, rg 107 x4_0)), (cm11, .inl (ca 2, 20, .inl cm12)), (cm13, .inl (ca 2, 3000, .inl x4_1))] H4 := hP4
  have hD4 : va_D A [(cx1, .inr (3, rg 22 cx2)), (cx3, .inl (ca 4, 2, .inr (.inr (.inr (.inr cx4))))), (cx5, .inr (0, rg 3 cx6)), (cx11, .inr (10, rg 9 cx12)), (cx13, .inl (ca 0, 20480, .inl cx14)), (cx17, .inl (ca 1, 3001, .inr (.inl cx18))), (cx19, .inl (ca 0, 3001, .inl cx20)), (cx21, .inl (ca 0, 3001, .inl cx22)), (cm1, .inl (ca 0, 8, .inl cm2)), (cm3, .inl (ca 0, 3001, .inl cm4)), (cm5, .inl (ca 0, 3001, .inl cm6)), (cm7, .inr (13, rg 81 cm8)), (cm9, .inl (ca 5, 2, .inr (.inr (.inr (.inr cm10))))), (cm15, .inr (13, rg 81 cm16)), (cm17, .inr (13, rg 81 cm18)), (xx, .inr (12, rg 10 cx0)), (cx7, .inl (ca 0, 20, .inl cx8)), (cx9, .inr (0, rg 3 x2_0)), (cx15, .inl (ca 0, 3000, .inl x2_1)), (mm, .inr (14, rg 107 x4_0)), (cm11, .inl (ca 2, 20, .inl cm12)), (cm13, .inl (ca 2, 3000, .inl x4_1))] := hD4
  refine W.widen (k := 282) (n := 716534) (Nat.le_of_ble_eq_true rfl) (Nat.le_of_ble_eq_true rfl) ?_
  refine lv_icmp_eq (tgt := 1198) hx hb d_code_235 (by decide) (fun _ => ?_) (fun c => absurd (endEq hc2 hc4) c)
  exact law_tail C0 hA2 hS4 (Nat.le_of_ble_eq_true rfl) (Nat.le_of_ble_eq_true rfl) hl
set_option maxHeartbeats 8000000 in
set_option maxRecDepth 100000 in
theorem law_case_2 {p : Program} {l : Launch} {e : Env} {s : State} {m : MethodId} {below : List Frame} {meth : Method} {c : Code} {b : Nat} {xs : Nat → Int32} (C0 : lw_At p s m meth c b 9 xs) {D : va_G} {ca : Nat → ClassId} {ad av : Nat → Nat} {A : Nat → Prop} (hA : ∀ q, s.heap.size ≤ q → A q) (hA2 : ∀ q, A q → s.heap.size ≤ q) {xx : Nat} {cx1 : Nat} {cx3 : Nat} {cx5 : Nat} {cx7 : Nat} {cx9 : Nat} {cx11 : Nat} {cx13 : Nat} {cx15 : Nat} {cx17 : Nat} {cx19 : Nat} {cx21 : Nat} {mm : Nat} {cm1 : Nat} {cm3 : Nat} {cm5 : Nat} {cm7 : Nat} {cm9 : Nat} {cm11 : Nat} {cm13 : Nat} {cm15 : Nat} {cm17 : Nat} {cx0 : Nat → Value} {cx2 : Nat → Value} {cx4 : Nat → Option Nat} {cx6 : Nat → Value} {cx8 : Nat → Int32} {cx10 : Nat → Value} {cx12 : Nat → Value} {cx14 : Nat → Int32} {cx16 : Nat → Int32} {cx18 : Nat → Int64} {cx20 : Nat → Int32} {cx22 : Nat → Int32} {cm0 : Nat → Value} {cm2 : Nat → Int32} {cm4 : Nat → Int32} {cm6 : Nat → Int32} {cm8 : Nat → Value} {cm10 : Nat → Option Nat} {cm12 : Nat → Int32} {cm14 : Nat → Int32} {cm16 : Nat → Value} {cm18 : Nat → Value} (hcx0 : gF cx0 [(4, .ref cx1), (3, .ref cx3), (2, .ref cx5), (1, .ref cx7), (0, .ref cx9), (7, .null), (8, .null), (9, .null)]) (hcx1 : gF cx2 [(11, .ref cx11), (16, .int 0), (21, .int 0)]) (hcx2 : gF cx4 [(0, none), (1, none)]) (hcx3 : gF cx6 [(0, .ref cx13), (1, .int 0), (2, .int 0)]) (hcx4 : gF cx8 []) (hcx5 : gF cx10 [(0, .ref cx15), (1, .int 0), (2, .int 0)]) (hcx6 : gF cx12 [(7, .ref cx17), (6, .ref cx19), (5, .ref cx21), (0, .int 0), (1, .int 0), (2, .long 0), (8, .int 0)]) (hcx7 : gF cx14 []) (hcx8 : gF cx16 []) (hcx9 : gF cx18 []) (hcx10 : gF cx20 []) (hcx11 : gF cx22 []) (hcm0 : gF cm0 [(74, .ref cm1), (8, .ref cm3), (7, .ref cm5), (6, .ref cm7), (5, .ref cm9), (4, .ref cm11), (2, .ref cm13), (3, .int 0), (12, .int 0), (16, .int 0), (17, .int 0), (18, .int 0), (71, .int 0), (72, .int 0), (89, .int 0), (90, .long 0), (94, .int 0)]) (hcm1 : gF cm2 []) (hcm2 : gF cm4 []) (hcm3 : gF cm6 []) (hcm4 : gF cm8 [(0, .int 0), (1, .int 0)]) (hcm5 : gF cm10 [(1, some cm15), (0, some cm17)]) (hcm6 : gF cm12 []) (hcm7 : gF cm14 []) (hcm8 : gF cm16 [(0, .int 0), (1, .int 0)]) (hcm9 : gF cm18 [(0, .int 0), (1, .int 0)]) (hK : va_K D cls (tyL ca) s) (hX : gX ad av A s s.heap) {H : Heap} {locs : List Loc} (hP : va_P D cls [(xx, .inr (12, rg 10 cx0)), (cx1, .inr (3, rg 22 cx2)), (cx3, .inl (ca 4, 2, .inr (.inr (.inr (.inr cx4))))), (cx5, .inr (0, rg 3 cx6)), (cx7, .inl (ca 0, 20, .inl cx8)), (cx9, .inr (0, rg 3 cx10)), (cx11, .inr (10, rg 9 cx12)), (cx13, .inl (ca 0, 20480, .inl cx14)), (cx15, .inl (ca 0, 3000, .inl cx16)), (cx17, .inl (ca 1, 3001, .inr (.inl cx18))), (cx19, .inl (ca 0, 3001, .inl cx20)), (cx21, .inl (ca 0, 3001, .inl cx22)), (mm, .inr (14, rg 107 cm0)), (cm1, .inl (ca 0, 8, .inl cm2)), (cm3, .inl (ca 0, 3001, .inl cm4)), (cm5, .inl (ca 0, 3001, .inl cm6)), (cm7, .inr (13, rg 81 cm8)), (cm9, .inl (ca 5, 2, .inr (.inr (.inr (.inr cm10))))), (cm11, .inl (ca 2, 20, .inl cm12)), (cm13, .inl (ca 2, 3000, .inl cm14)), (cm15, .inr (13, rg 81 cm16)), (cm17, .inr (13, rg 81 cm18))] H) (hD : va_D A [(xx, .inr (12, rg 10 cx0)), (cx1, .inr (3, rg 22 cx2)), (cx3, .inl (ca 4, 2, .inr (.inr (.inr (.inr cx4))))), (cx5, .inr (0, rg 3 cx6)), (cx7, .inl (ca 0, 20, .inl cx8)), (cx9, .inr (0, rg 3 cx10)), (cx11, .inr (10, rg 9 cx12)), (cx13, .inl (ca 0, 20480, .inl cx14)), (cx15, .inl (ca 0, 3000, .inl cx16)), (cx17, .inl (ca 1, 3001, .inr (.inl cx18))), (cx19, .inl (ca 0, 3001, .inl cx20)), (cx21, .inl (ca 0, 3001, .inl cx22)), (mm, .inr (14, rg 107 cm0)), (cm1, .inl (ca 0, 8, .inl cm2)), (cm3, .inl (ca 0, 3001, .inl cm4)), (cm5, .inl (ca 0, 3001, .inl cm6)), (cm7, .inr (13, rg 81 cm8)), (cm9, .inl (ca 5, 2, .inr (.inr (.inr (.inr cm10))))), (cm11, .inl (ca 2, 20, .inl cm12)), (cm13, .inl (ca 2, 3000, .inl cm14)), (cm15, .inr (13, rg 81 cm16)), (cm17, .inr (13, rg 81 cm18))]) (hS : va_S A s.heap H locs) {ls : Array Slot} (hl : lv_has ls 4 [(3, .int 0), (2, .ref mm), (1, .ref xx), (0, .ref b)]) : W p l e room_1 s m #[Value.ref b] below meth c H locs 282 716534 (lw_Z below #[Value.ref b] s) (F0 m 240 ls []) := by
  obtain ⟨hx, hb, hr, hml, hown, hts0, hXs, hbl, hlocks, hgv⟩ := id C0
  have hts := wA_hts hts0
  have hbA : ¬ A b := fun z => Nat.not_le.mpr hbl (hA2 b z)
  have hown : s.vm.findClass "StaveHouseLaw" = some m.cls := hown
  refine lv_aload_n hx hb d_code_240 rfl (lv_at hl 2 rfl) ?_
  refine lv_aload_n hx hb d_code_241 rfl (lv_at hl 3 rfl) ?_
  refine lv_iload_n hx hb d_code_242 rfl (lv_at hl 0 rfl) ?_
  refine lv_iconst (v := 1) hx hb d_code_243 (by decide) ?_
  refine lv_iadd hx hb d_code_244 ?_
  refine lv_topi (fun y1 ey1 => ?_)
  obtain rfl : y1 = 1 := ey1.trans (by decide)
  refine va_sld hx hb hXs hbl hbA hS (vinC (by decide)) d_code_245 ?_
  refine W.eq (g2 := F0 m 246 ls [.int (xs 1), .ref xx]) rfl ?_
  have hFc2 := va_free (wc := [(xx, .inr (12, rg 10 cx0)), (cx1, .inr (3, rg 22 cx2)), (cx9, .inr (0, rg 3 cx10)), (cx11, .inr (10, rg 9 cx12)), (cx17, .inl (ca 1, 3001, .inr (.inl cx18))), (cx19, .inl (ca 0, 3001, .inl cx20)), (cx21, .inl (ca 0, 3001, .inl cx22))]) hD hS hA [0, 1, 5, 6, 9, 10, 11] rfl
  refine va_calli (va_runV (As := [.int (xs 1)]) (rest := []) ⟨hx, hb, hml, hown, hts⟩ (c_S_read_0 l D ca ad av H.size xx cx1 cx9 cx11 cx17 cx19 cx21 cx0 cx2 cx10 cx12 cx18 cx20 cx22 (xs 1) (hcx0.sub [0, 4, 5] rfl) (hcx1.sub [0] rfl) (hcx5.sub [1] rfl) (hcx6.sub [0, 1, 2] rfl) (hcx9.sub [] rfl) (hcx10.sub [] rfl) (hcx11.sub [] rfl)) (cwV 1 hts (gdV k_2_174 k_2_175 k_2_176 k_1_1 k_2_177) rfl rfl rfl (by decide +kernel) ⟨Nat.le_of_ble_eq_true rfl, Nat.le_of_ble_eq_true rfl⟩) (gPV hP hD hK hS hA hX [0, 1, 5, 6, 9, 10, 11] (by decide) rfl xx [.int (xs 1)] 0 (ci := 12) (r := (RX12, TX12, 10)) rfl rfl) rfl rfl hl.1 rfl (lv_room (Nat.le_of_ble_eq_true rfl)) d_code_246 ⟨Nat.le_of_ble_eq_true rfl, Nat.le_of_ble_eq_true rfl⟩) hS (fun q _ h => hFc2 q h) hFc2 (fun r2 u2 t2 H2 locs2 ht2 hvm2 hw2 hB2 hz2 hk2 hS2 => ?_)
  obtain ⟨x2_0, x2_1, x2_2, x2_3, x2_4, x2_5, x2_6⟩ := u2
  try dsimp only at hw2 hB2
  obtain ⟨hc2, hw2_1, hw2_2, hw2_3, hw2_4, hw2_5, hw2_6, hw2_7, hw2_8, hw2_9, hw2_10, hw2_11⟩ := hw2
  obtain ⟨hP2, hD2⟩ := gJoin (wr := [(cx3, .inl (ca 4, 2, .inr (.inr (.inr (.inr cx4))))), (cx5, .inr (0, rg 3 cx6)), (cx7, .inl (ca 0, 20, .inl cx8)), (cx13, .inl (ca 0, 20480, .inl cx14)), (cx15, .inl (ca 0, 3000, .inl cx16)), (mm, .inr (14, rg 107 cm0)), (cm1, .inl (ca 0, 8, .inl cm2)), (cm3, .inl (ca 0, 3001, .inl cm4)), (cm5, .inl (ca 0, 3001, .inl cm6)), (cm7, .inr (13, rg 81 cm8)), (cm9, .inl (ca 5, 2, .inr (.inr (.inr (.inr cm10))))), (cm11, .inl (ca 2, 20, .inl cm12)), (cm13, .inl (ca 2, 3000, .inl cm14)), (cm15, .inr (13, rg 81 cm16)), (cm17, .inr (13, rg 81 cm18))]) (w1 := [(xx, .inr (12, rg 10 x2_0)), (cx1, .inr (3, rg 22 x2_1)), (cx9, .inr (0, rg 3 x2_2)), (cx11, .inr (10, rg 9 x2_3)), (cx17, .inl (ca 1, 3001, .inr (.inl x2_4))), (cx19, .inl (ca 0, 3001, .inl x2_5)), (cx21, .inl (ca 0, 3001, .inl x2_6))]) hP hD [0, 1, 5, 6, 9, 10, 11] [2, 3, 4, 7, 8, 12, 13, 14, 15, 16, 17, 18, 19, 20, 21] rfl rfl (by decide) (by decide) hk2 hFc2 ht2 hB2
  have hF2_0 : gF x2_0 [(4, .ref cx1), (3, .ref cx3), (2, .ref cx5), (1, .ref cx7), (0, .ref cx9), (8, .null), (9, .null)] := gF.upd hcx0 hw2_1 hw2_2 rfl
  have hM2_0 := gM.tr (gM.rf (f := cx0)) hw2_1
  have hF2_1 : gF x2_1 [(11, .ref cx11)] := gF.upd hcx1 hw2_3 hw2_4 rfl
  have hM2_1 := gM.tr (gM.rf (f := cx2)) hw2_3
  have hF2_2 : gF x2_2 [(1, .int 0), (0, .ref cx15)] := gF.upd hcx5 hw2_5 hw2_6 rfl
  have hM2_2 := gM.tr (gM.rf (f := cx10)) hw2_5
  have hF2_3 : gF x2_3 [(7, .ref cx17), (6, .ref cx19), (5, .ref cx21)] := gF.upd hcx6 hw2_7 hw2_8 rfl
  have hM2_3 := gM.tr (gM.rf (f := cx12)) hw2_7
  have hP2 : va_P D cls [(cx3, .inl (ca 4, 2, .inr (.inr (.inr (.inr cx4))))), (cx5, .inr (0, rg 3 cx6)), (cx7, .inl (ca 0, 20, .inl cx8)), (cx13, .inl (ca 0, 20480, .inl cx14)), (cx15, .inl (ca 0, 3000, .inl cx16)), (mm, .inr (14, rg 107 cm0)), (cm1, .inl (ca 0, 8, .inl cm2)), (cm3, .inl (ca 0, 3001, .inl cm4)), (cm5, .inl (ca 0, 3001, .inl cm6)), (cm7, .inr (13, rg 81 cm8)), (cm9, .inl (ca 5, 2, .inr (.inr (.inr (.inr cm10))))), (cm11, .inl (ca 2, 20, .inl cm12)), (cm13, .inl (ca 2, 3000, .inl cm14)), (cm15, .inr (13, rg 81 cm16)), (cm17, .inr (13, rg 81 cm18)), (xx, .inr (12, rg 10 x2_0)), (cx1, .inr (3, rg 22 x2_1)), (cx9, .inr (0, rg 3 x2_2)), (cx11, .inr (10, rg 9 x2_3)), (cx17, .inl (ca 1, 3001, .inr (.inl x2_4))), (cx19, .inl (ca 0, 3001, .inl x2_5)), (cx21, .inl (ca 0, 3001, .inl x2_6))] H2 := hP2
  have hD2 : va_D A [(cx3, .inl (ca 4, 2, .inr (.inr (.inr (.inr cx4))))), (cx5, .inr (0, rg 3 cx6)), (cx7, .inl (ca 0, 20, .inl cx8)), (cx13, .inl (ca 0, 20480, .inl cx14)), (cx15, .inl (ca 0, 3000, .inl cx16)), (mm, .inr (14, rg 107 cm0)), (cm1, .inl (ca 0, 8, .inl cm2)), (cm3, .inl (ca 0, 3001, .inl cm4)), (cm5, .inl (ca 0, 3001, .inl cm6)), (cm7, .inr (13, rg 81 cm8)), (cm9, .inl (ca 5, 2, .inr (.inr (.inr (.inr cm10))))), (cm11, .inl (ca 2, 20, .inl cm12)), (cm13, .inl (ca 2, 3000, .inl cm14)), (cm15, .inr (13, rg 81 cm16)), (cm17, .inr (13, rg 81 cm18)), (xx, .inr (12, rg 10 x2_0)), (cx1, .inr (3, rg 22 x2_1)), (cx9, .inr (0, rg 3 x2_2)), (cx11, .inr (10, rg 9 x2_3)), (cx17, .inl (ca 1, 3001, .inr (.inl x2_4))), (cx19, .inl (ca 0, 3001, .inl x2_5)), (cx21, .inl (ca 0, 3001, .inl x2_6))] := hD2
  refine W.widen (k := 284) (n := 716552) (Nat.le_of_ble_eq_true rfl) (Nat.le_of_ble_eq_true rfl) ?_
  refine lv_aload_n hx hb d_code_249 rfl (lv_at hl 1 rfl) ?_
  refine lv_aload_n hx hb d_code_250 rfl (lv_at hl 3 rfl) ?_
  refine lv_iload_n hx hb d_code_251 rfl (lv_at hl 0 rfl) ?_
  refine lv_iconst (v := 1) hx hb d_code_252 (by decide) ?_
  refine lv_iadd hx hb d_code_253 ?_
  refine lv_topi (fun y3 ey3 => ?_)
  obtain rfl : y3 = 1 := ey3.trans (by decide)
  refine va_sld hx hb hXs hbl hbA hS2 (vinC (by decide)) d_code_254 ?_
  refine W.eq (g2 := F0 m 255 ls [.int (xs 1), .ref mm, .int r2]) rfl ?_
  have hFc4 := va_free (wc := [(mm, .inr (14, rg 107 cm0)), (cm3, .inl (ca 0, 3001, .inl cm4)), (cm5, .inl (ca 0, 3001, .inl cm6)), (cm7, .inr (13, rg 81 cm8))]) hD2 hS2 hA [5, 7, 8, 9] rfl
  refine va_calli (va_runV (As := [.int (xs 1)]) (rest := [.int r2]) ⟨hx, hb, hml, hown, hts⟩ (c_M_read_0 l D ca ad av H2.size mm cm3 cm5 cm7 cm0 cm4 cm6 cm8 (xs 1) (hcm0.sub [1, 2, 3, 7] rfl) (hcm2.sub [] rfl) (hcm3.sub [] rfl) (hcm4.sub [] rfl)) (cwV 1 hts (gdV k_14_79 k_14_80 k_14_81 k_1_9 k_14_82) rfl rfl rfl (by decide +kernel) ⟨Nat.le_of_ble_eq_true rfl, Nat.le_of_ble_eq_true rfl⟩) (gPV hP2 hD2 hK hS2 hA hX [5, 7, 8, 9] (by decide) rfl mm [.int (xs 1)] 5 (ci := 14) (r := (RX14, TX14, 107)) rfl rfl) rfl rfl hl.1 rfl (lv_room (Nat.le_of_ble_eq_true rfl)) d_code_255 ⟨Nat.le_of_ble_eq_true rfl, Nat.le_of_ble_eq_true rfl⟩) hS2 (fun q _ h => hFc4 q h) hFc4 (fun r4 u4 t4 H4 locs4 ht4 hvm4 hw4 hB4 hz4 hk4 hS4 => ?_)
  obtain ⟨x4_0, x4_1, x4_2, x4_3⟩ := u4
  try dsimp only at hw4 hB4
  obtain ⟨hc4, hw4_1, hw4_2, hw4_3, hw4_4, hw4_5, hw4_6⟩ := hw4
  obtain ⟨hP4, hD4⟩ := gJoin (wr := [(cx3, .inl (ca 4, 2, .inr (.inr (.inr (.inr cx4))))), (cx5, .inr (0, rg 3 cx6)), (cx7, .inl (ca 0, 20, .inl cx8)), (cx13, .inl (ca 0, 20480, .inl cx14)), (cx15, .inl (ca 0, 3000, .inl cx16)), (cm1, .inl (ca 0, 8, .inl cm2)), (cm9, .inl (ca 5, 2, .inr (.inr (.inr (.inr cm10))))), (cm11, .inl (ca 2, 20, .inl cm12)), (cm13, .inl (ca 2, 3000, .inl cm14)), (cm15, .inr (13, rg 81 cm16)), (cm17, .inr (13, rg 81 cm18)), (xx, .inr (12, rg 10 x2_0)), (cx1, .inr (3, rg 22 x2_1)), (cx9, .inr (0, rg 3 x2_2)), (cx11, .inr (10, rg 9 x2_3)), (cx17, .inl (ca 1, 3001, .inr (.inl x2_4))), (cx19, .inl (ca 0, 3001, .inl x2_5)), (cx21, .inl (ca 0, 3001, .inl x2_6))]) (w1 := [(mm, .inr (14, rg 107 x4_0)), (cm3, .inl (ca 0, 3001, .inl x4_1)), (cm5, .inl (ca 0, 3001, .inl x4_2)), (cm7, .inr (13, rg 81 x4_3))]) hP2 hD2 [5, 7, 8, 9] [0, 1, 2, 3, 4, 6, 10, 11, 12, 13, 14, 15, 16, 17, 18, 19, 20, 21] rfl rfl (by decide) (by decide) hk4 hFc4 ht4 hB4
  have hF4_0 : gF x4_0 [(3, .int 0), (74, .ref cm1), (8, .ref cm3), (7, .ref cm5), (6, .ref cm7), (5, .ref cm9), (4, .ref cm11), (2, .ref cm13), (71, .int 0), (72, .int 0), (89, .int 0), (90, .long 0), (94, .int 0)] := gF.upd hcm0 hw4_1 hw4_2 rfl
  have hM4_0 := gM.tr (gM.rf (f := cm0)) hw4_1
  have hF4_3 : gF x4_3 [(0, .int 0)] := gF.upd hcm4 hw4_5 hw4_6 rfl
  have hM4_3 := gM.tr (gM.rf (f := cm8)) hw4_5
  have hP4 : va_P D cls [(cx3, .inl (ca 4, 2, .inr (.inr (.inr (.inr cx4))))), (cx5, .inr (0, rg 3 cx6)), (cx7, .inl (ca 0, 20, .inl cx8)), (cx13, .inl (ca 0, 20480, .inl cx14)), (cx15, .inl (ca 0, 3000, .inl cx16)), (cm1, .inl (ca 0, 8, .inl cm2)), (cm9, .inl (ca 5, 2, .inr (.inr (.inr (.inr cm10))))), (cm11, .inl (ca 2, 20, .inl cm12)), (cm13, .inl (ca 2, 3000, .inl cm14)), (cm15, .inr (13, rg 81 cm16)), (cm17, .inr (13, rg 81 cm18)), (xx, .inr (12, rg 10 x2_0)), (cx1, .inr (3, rg 22 x2_1)), (cx9, .inr (0, rg 3 x2_2)), (cx11, .inr (10, rg 9 x2_3)), (cx17, .inl (ca 1, 3001, .inr (.inl x2_4))), (cx19, .inl (ca 0, 3001, .inl x2_5)), (cx21, .inl (ca 0, 3001, .inl x2_6)), (mm, .inr (14, rg 107 x4_0)), (cm3, .inl (ca 0, 3001, .inl x4_1)), (cm5, .inl (ca 0, 3001, .inl x4_2)), (cm7, .inr (13, rg 81 x4_3))] H4 := hP4
  have hD4 : va_D A [(cx3, .inl (ca 4, 2, .inr (.inr (.inr (.inr cx4))))), (cx5, .inr (0, rg 3 cx6)), (cx7, .inl (ca 0, 20, .inl cx8)), (cx13, .inl (ca 0, 20480, .inl cx14)), (cx15, .inl (ca 0, 3000, .inl cx16)), (cm1, .inl (ca 0, 8, .inl cm2)), (cm9, .inl (ca 5, 2, .inr (.inr (.inr (.inr cm10))))), (cm11, .inl (ca 2, 20, .inl cm12)), (cm13, .inl (ca 2, 3000, .inl cm14)), (cm15, .inr (13, rg 81 cm16)), (cm17, .inr (13, rg 81 cm18)), (xx, .inr (12, rg 10 x2_0)), (cx1, .inr (3, rg 22 x2_1)), (cx9, .inr (0, rg 3 x2_2)), (cx11, .inr (10, rg 9 x2_3)), (cx17, .inl (ca 1, 3001, .inr (.inl x2_4))), (cx19, .inl (ca 0, 3001, .inl x2_5)), (cx21, .inl (ca 0, 3001, .inl x2_6)), (mm, .inr (14, rg 107 x4_0)), (cm3, .inl (ca 0, 3001, .inl x4_1)), (cm5, .inl (ca 0, 3001, .inl x4_2)), (cm7, .inr (13, rg 81 x4_3))] := hD4
  refine W.widen (k := 284) (n := 716552) (Nat.le_of_ble_eq_true rfl) (Nat.le_of_ble_eq_true rfl) ?_
  refine lv_icmp_eq (tgt := 1198) hx hb d_code_258 (by decide) (fun _ => ?_) (fun c => absurd (readEq hc2 hc4) c)
  exact law_tail C0 hA2 hS4 (Nat.le_of_ble_eq_true rfl) (Nat.le_of_ble_eq_true rfl) hl
set_option maxHeartbeats 8000000 in
set_option maxRecDepth 100000 in
theorem law_case_3 {p : Program} {l : Launch} {e : Env} {s : State} {m : MethodId} {below : List Frame} {meth : Method} {c : Code} {b : Nat} {xs : Nat → Int32} (C0 : lw_At p s m meth c b 9 xs) {D : va_G} {ca : Nat → ClassId} {ad av : Nat → Nat} {A : Nat → Prop} (hA : ∀ q, s.heap.size ≤ q → A q) (hA2 : ∀ q, A q → s.heap.size ≤ q) {xx : Nat} {cx1 : Nat} {cx3 : Nat} {cx5 : Nat} {cx7 : Nat} {cx9 : Nat} {cx11 : Nat} {cx13 : Nat} {cx15 : Nat} {cx17 : Nat} {cx19 : Nat} {cx21 : Nat} {mm : Nat} {cm1 : Nat} {cm3 : Nat} {cm5 : Nat} {cm7 : Nat} {cm9 : Nat} {cm11 : Nat} {cm13 : Nat} {cm15 : Nat} {cm17 : Nat} {cx0 : Nat → Value} {cx2 : Nat → Value} {cx4 : Nat → Option Nat} {cx6 : Nat → Value} {cx8 : Nat → Int32} {cx10 : Nat → Value} {cx12 : Nat → Value} {cx14 : Nat → Int32} {cx16 : Nat → Int32} {cx18 : Nat → Int64} {cx20 : Nat → Int32} {cx22 : Nat → Int32} {cm0 : Nat → Value} {cm2 : Nat → Int32} {cm4 : Nat → Int32} {cm6 : Nat → Int32} {cm8 : Nat → Value} {cm10 : Nat → Option Nat} {cm12 : Nat → Int32} {cm14 : Nat → Int32} {cm16 : Nat → Value} {cm18 : Nat → Value} (hcx0 : gF cx0 [(4, .ref cx1), (3, .ref cx3), (2, .ref cx5), (1, .ref cx7), (0, .ref cx9), (7, .null), (8, .null), (9, .null)]) (hcx1 : gF cx2 [(11, .ref cx11), (16, .int 0), (21, .int 0)]) (hcx2 : gF cx4 [(0, none), (1, none)]) (hcx3 : gF cx6 [(0, .ref cx13), (1, .int 0), (2, .int 0)]) (hcx4 : gF cx8 []) (hcx5 : gF cx10 [(0, .ref cx15), (1, .int 0), (2, .int 0)]) (hcx6 : gF cx12 [(7, .ref cx17), (6, .ref cx19), (5, .ref cx21), (0, .int 0), (1, .int 0), (2, .long 0), (8, .int 0)]) (hcx7 : gF cx14 []) (hcx8 : gF cx16 []) (hcx9 : gF cx18 []) (hcx10 : gF cx20 []) (hcx11 : gF cx22 []) (hcm0 : gF cm0 [(74, .ref cm1), (8, .ref cm3), (7, .ref cm5), (6, .ref cm7), (5, .ref cm9), (4, .ref cm11), (2, .ref cm13), (3, .int 0), (12, .int 0), (16, .int 0), (17, .int 0), (18, .int 0), (71, .int 0), (72, .int 0), (89, .int 0), (90, .long 0), (94, .int 0)]) (hcm1 : gF cm2 []) (hcm2 : gF cm4 []) (hcm3 : gF cm6 []) (hcm4 : gF cm8 [(0, .int 0), (1, .int 0)]) (hcm5 : gF cm10 [(1, some cm15), (0, some cm17)]) (hcm6 : gF cm12 []) (hcm7 : gF cm14 []) (hcm8 : gF cm16 [(0, .int 0), (1, .int 0)]) (hcm9 : gF cm18 [(0, .int 0), (1, .int 0)]) (hK : va_K D cls (tyL ca) s) (hX : gX ad av A s s.heap) {H : Heap} {locs : List Loc} (hP : va_P D cls [(xx, .inr (12, rg 10 cx0)), (cx1, .inr (3, rg 22 cx2)), (cx3, .inl (ca 4, 2, .inr (.inr (.inr (.inr cx4))))), (cx5, .inr (0, rg 3 cx6)), (cx7, .inl (ca 0, 20, .inl cx8)), (cx9, .inr (0, rg 3 cx10)), (cx11, .inr (10, rg 9 cx12)), (cx13, .inl (ca 0, 20480, .inl cx14)), (cx15, .inl (ca 0, 3000, .inl cx16)), (cx17, .inl (ca 1, 3001, .inr (.inl cx18))), (cx19, .inl (ca 0, 3001, .inl cx20)), (cx21, .inl (ca 0, 3001, .inl cx22)), (mm, .inr (14, rg 107 cm0)), (cm1, .inl (ca 0, 8, .inl cm2)), (cm3, .inl (ca 0, 3001, .inl cm4)), (cm5, .inl (ca 0, 3001, .inl cm6)), (cm7, .inr (13, rg 81 cm8)), (cm9, .inl (ca 5, 2, .inr (.inr (.inr (.inr cm10))))), (cm11, .inl (ca 2, 20, .inl cm12)), (cm13, .inl (ca 2, 3000, .inl cm14)), (cm15, .inr (13, rg 81 cm16)), (cm17, .inr (13, rg 81 cm18))] H) (hD : va_D A [(xx, .inr (12, rg 10 cx0)), (cx1, .inr (3, rg 22 cx2)), (cx3, .inl (ca 4, 2, .inr (.inr (.inr (.inr cx4))))), (cx5, .inr (0, rg 3 cx6)), (cx7, .inl (ca 0, 20, .inl cx8)), (cx9, .inr (0, rg 3 cx10)), (cx11, .inr (10, rg 9 cx12)), (cx13, .inl (ca 0, 20480, .inl cx14)), (cx15, .inl (ca 0, 3000, .inl cx16)), (cx17, .inl (ca 1, 3001, .inr (.inl cx18))), (cx19, .inl (ca 0, 3001, .inl cx20)), (cx21, .inl (ca 0, 3001, .inl cx22)), (mm, .inr (14, rg 107 cm0)), (cm1, .inl (ca 0, 8, .inl cm2)), (cm3, .inl (ca 0, 3001, .inl cm4)), (cm5, .inl (ca 0, 3001, .inl cm6)), (cm7, .inr (13, rg 81 cm8)), (cm9, .inl (ca 5, 2, .inr (.inr (.inr (.inr cm10))))), (cm11, .inl (ca 2, 20, .inl cm12)), (cm13, .inl (ca 2, 3000, .inl cm14)), (cm15, .inr (13, rg 81 cm16)), (cm17, .inr (13, rg 81 cm18))]) (hS : va_S A s.heap H locs) {ls : Array Slot} (hl : lv_has ls 4 [(3, .int 0), (2, .ref mm), (1, .ref xx), (0, .ref b)]) : W p l e room_1 s m #[Value.ref b] below meth c H locs 282 716534 (lw_Z below #[Value.ref b] s) (F0 m 263 ls []) := by
  obtain ⟨hx, hb, hr, hml, hown, hts0, hXs, hbl, hlocks, hgv⟩ := id C0
  have hts := wA_hts hts0
  have hbA : ¬ A b := fun z => Nat.not_le.mpr hbl (hA2 b z)
  have hown : s.vm.findClass "StaveHouseLaw" = some m.cls := hown
  refine lv_aload_n hx hb d_code_263 rfl (lv_at hl 2 rfl) ?_
  refine lv_aload_n hx hb d_code_264 rfl (lv_at hl 3 rfl) ?_
  refine lv_iload_n hx hb d_code_265 rfl (lv_at hl 0 rfl) ?_
  refine lv_iconst (v := 1) hx hb d_code_266 (by decide) ?_
  refine lv_iadd hx hb d_code_267 ?_
  refine lv_topi (fun y1 ey1 => ?_)
  obtain rfl : y1 = 1 := ey1.trans (by decide)
  refine va_sld hx hb hXs hbl hbA hS (vinC (by decide)) d_code_268 ?_
  refine W.eq (g2 := F0 m 269 ls [.int (xs 1), .ref xx]) rfl ?_
  refine lv_aload_n hx hb d_code_269 rfl (lv_at hl 3 rfl) ?_
  refine lv_iload_n hx hb d_code_270 rfl (lv_at hl 0 rfl) ?_
  refine lv_iconst (v := 2) hx hb d_code_271 (by decide) ?_
  refine lv_iadd hx hb d_code_272 ?_
  refine lv_topi (fun y2 ey2 => ?_)
  obtain rfl : y2 = 2 := ey2.trans (by decide)
  refine va_sld hx hb hXs hbl hbA hS (vinC (by decide)) d_code_273 ?_
  refine W.eq (g2 := F0 m 274 ls [.int (xs 2), .int (xs 1), .ref xx]) rfl ?_
  have hFc3 := va_free (wc := [(xx, .inr (12, rg 10 cx0)), (cx3, .inl (ca 4, 2, .inr (.inr (.inr (.inr cx4)))))]) hD hS hA [0, 2] rfl
  refine va_calli (va_runV (As := [.int (xs 1), .int (xs 2)]) (rest := []) ⟨hx, hb, hml, hown, hts⟩ (c_S_look_0 l D ca ad av H.size xx cx3 cx0 cx4 (xs 1) (xs 2) (hcx0.sub [1] rfl) (hcx2.sub [0, 1] rfl)) (cwV 2 hts (gdV k_5_178 k_5_179 k_5_180 k_1_1 k_5_181) rfl rfl rfl (by decide +kernel) ⟨Nat.le_of_ble_eq_true rfl, Nat.le_of_ble_eq_true rfl⟩) (gPV hP hD hK hS hA hX [0, 2] (by decide) rfl xx [.int (xs 1), .int (xs 2)] 0 (ci := 12) (r := (RX12, TX12, 10)) rfl rfl) rfl rfl hl.1 rfl (lv_room (Nat.le_of_ble_eq_true rfl)) d_code_274 ⟨Nat.le_of_ble_eq_true rfl, Nat.le_of_ble_eq_true rfl⟩) hS (fun q _ h => hFc3 q h) hFc3 (fun r3 u3 t3 H3 locs3 ht3 hvm3 hw3 hB3 hz3 hk3 hS3 => ?_)
  have hr3 := hw3
  obtain ⟨hP3, hD3⟩ := gJoin (wr := [(cx1, .inr (3, rg 22 cx2)), (cx5, .inr (0, rg 3 cx6)), (cx7, .inl (ca 0, 20, .inl cx8)), (cx9, .inr (0, rg 3 cx10)), (cx11, .inr (10, rg 9 cx12)), (cx13, .inl (ca 0, 20480, .inl cx14)), (cx15, .inl (ca 0, 3000, .inl cx16)), (cx17, .inl (ca 1, 3001, .inr (.inl cx18))), (cx19, .inl (ca 0, 3001, .inl cx20)), (cx21, .inl (ca 0, 3001, .inl cx22)), (mm, .inr (14, rg 107 cm0)), (cm1, .inl (ca 0, 8, .inl cm2)), (cm3, .inl (ca 0, 3001, .inl cm4)), (cm5, .inl (ca 0, 3001, .inl cm6)), (cm7, .inr (13, rg 81 cm8)), (cm9, .inl (ca 5, 2, .inr (.inr (.inr (.inr cm10))))), (cm11, .inl (ca 2, 20, .inl cm12)), (cm13, .inl (ca 2, 3000, .inl cm14)), (cm15, .inr (13, rg 81 cm16)), (cm17, .inr (13, rg 81 cm18))]) (w1 := [(xx, .inr (12, rg 10 cx0)), (cx3, .inl (ca 4, 2, .inr (.inr (.inr (.inr cx4)))))]) hP hD [0, 2] [1, 3, 4, 5, 6, 7, 8, 9, 10, 11, 12, 13, 14, 15, 16, 17, 18, 19, 20, 21] rfl rfl (by decide) (by decide) hk3 hFc3 ht3 hB3
  have hP3 : va_P D cls [(cx1, .inr (3, rg 22 cx2)), (cx5, .inr (0, rg 3 cx6)), (cx7, .inl (ca 0, 20, .inl cx8)), (cx9, .inr (0, rg 3 cx10)), (cx11, .inr (10, rg 9 cx12)), (cx13, .inl (ca 0, 20480, .inl cx14)), (cx15, .inl (ca 0, 3000, .inl cx16)), (cx17, .inl (ca 1, 3001, .inr (.inl cx18))), (cx19, .inl (ca 0, 3001, .inl cx20)), (cx21, .inl (ca 0, 3001, .inl cx22)), (mm, .inr (14, rg 107 cm0)), (cm1, .inl (ca 0, 8, .inl cm2)), (cm3, .inl (ca 0, 3001, .inl cm4)), (cm5, .inl (ca 0, 3001, .inl cm6)), (cm7, .inr (13, rg 81 cm8)), (cm9, .inl (ca 5, 2, .inr (.inr (.inr (.inr cm10))))), (cm11, .inl (ca 2, 20, .inl cm12)), (cm13, .inl (ca 2, 3000, .inl cm14)), (cm15, .inr (13, rg 81 cm16)), (cm17, .inr (13, rg 81 cm18)), (xx, .inr (12, rg 10 cx0)), (cx3, .inl (ca 4, 2, .inr (.inr (.inr (.inr cx4)))))] H3 := hP3
  have hD3 : va_D A [(cx1, .inr (3, rg 22 cx2)), (cx5, .inr (0, rg 3 cx6)), (cx7, .inl (ca 0, 20, .inl cx8)), (cx9, .inr (0, rg 3 cx10)), (cx11, .inr (10, rg 9 cx12)), (cx13, .inl (ca 0, 20480, .inl cx14)), (cx15, .inl (ca 0, 3000, .inl cx16)), (cx17, .inl (ca 1, 3001, .inr (.inl cx18))), (cx19, .inl (ca 0, 3001, .inl cx20)), (cx21, .inl (ca 0, 3001, .inl cx22)), (mm, .inr (14, rg 107 cm0)), (cm1, .inl (ca 0, 8, .inl cm2)), (cm3, .inl (ca 0, 3001, .inl cm4)), (cm5, .inl (ca 0, 3001, .inl cm6)), (cm7, .inr (13, rg 81 cm8)), (cm9, .inl (ca 5, 2, .inr (.inr (.inr (.inr cm10))))), (cm11, .inl (ca 2, 20, .inl cm12)), (cm13, .inl (ca 2, 3000, .inl cm14)), (cm15, .inr (13, rg 81 cm16)), (cm17, .inr (13, rg 81 cm18)), (xx, .inr (12, rg 10 cx0)), (cx3, .inl (ca 4, 2, .inr (.inr (.inr (.inr cx4)))))] := hD3
  refine W.widen (k := 282) (n := 716534) (Nat.le_of_ble_eq_true rfl) (Nat.le_of_ble_eq_true rfl) ?_
  subst hr3
  refine lv_aload_n hx hb d_code_277 rfl (lv_at hl 1 rfl) ?_
  refine lv_aload_n hx hb d_code_278 rfl (lv_at hl 3 rfl) ?_
  refine lv_iload_n hx hb d_code_279 rfl (lv_at hl 0 rfl) ?_
  refine lv_iconst (v := 1) hx hb d_code_280 (by decide) ?_
  refine lv_iadd hx hb d_code_281 ?_
  refine lv_topi (fun y4 ey4 => ?_)
  obtain rfl : y4 = 1 := ey4.trans (by decide)
  refine va_sld hx hb hXs hbl hbA hS3 (vinC (by decide)) d_code_282 ?_
  refine W.eq (g2 := F0 m 283 ls [.int (xs 1), .ref mm, .int (-1)]) rfl ?_
  refine lv_aload_n hx hb d_code_283 rfl (lv_at hl 3 rfl) ?_
  refine lv_iload_n hx hb d_code_284 rfl (lv_at hl 0 rfl) ?_
  refine lv_iconst (v := 2) hx hb d_code_285 (by decide) ?_
  refine lv_iadd hx hb d_code_286 ?_
  refine lv_topi (fun y5 ey5 => ?_)
  obtain rfl : y5 = 2 := ey5.trans (by decide)
  refine va_sld hx hb hXs hbl hbA hS3 (vinC (by decide)) d_code_287 ?_
  refine W.eq (g2 := F0 m 288 ls [.int (xs 2), .int (xs 1), .ref mm, .int (-1)]) rfl ?_
  have hFc6 := va_free (wc := [(mm, .inr (14, rg 107 cm0)), (cm9, .inl (ca 5, 2, .inr (.inr (.inr (.inr cm10))))), (cm15, .inr (13, rg 81 cm16)), (cm17, .inr (13, rg 81 cm18))]) hD3 hS3 hA [10, 15, 18, 19] rfl
  refine va_calli (va_runV (As := [.int (xs 1), .int (xs 2)]) (rest := [.int (-1)]) ⟨hx, hb, hml, hown, hts⟩ (c_M_look_0 l D ca ad av H3.size mm cm9 cm15 cm17 cm0 cm10 cm16 cm18 (xs 1) (xs 2) (hcm0.sub [4] rfl) (hcm5.sub [0, 1] rfl) (hcm8.sub [0] rfl) (hcm9.sub [0] rfl)) (cwV 2 hts (gdV k_15_142 k_15_143 k_15_144 k_1_9 k_15_145) rfl rfl rfl (by decide +kernel) ⟨Nat.le_of_ble_eq_true rfl, Nat.le_of_ble_eq_true rfl⟩) (gPV hP3 hD3 hK hS3 hA hX [10, 15, 18, 19] (by decide) rfl mm [.int (xs 1), .int (xs 2)] 10 (ci := 14) (r := (RX14, TX14, 107)) rfl rfl) rfl rfl hl.1 rfl (lv_room (Nat.le_of_ble_eq_true rfl)) d_code_288 ⟨Nat.le_of_ble_eq_true rfl, Nat.le_of_ble_eq_true rfl⟩) hS3 (fun q _ h => hFc6 q h) hFc6 (fun r6 u6 t6 H6 locs6 ht6 hvm6 hw6 hB6 hz6 hk6 hS6 => ?_)
  have hr6 := hw6
  obtain ⟨hP6, hD6⟩ := gJoin (wr := [(cx1, .inr (3, rg 22 cx2)), (cx5, .inr (0, rg 3 cx6)), (cx7, .inl (ca 0, 20, .inl cx8)), (cx9, .inr (0, rg 3 cx10)), (cx11, .inr (10, rg 9 cx12)), (cx13, .inl (ca 0, 20480, .inl cx14)), (cx15, .inl (ca 0, 3000, .inl cx16)), (cx17, .inl (ca 1, 3001, .inr (.inl cx18))), (cx19, .inl (ca 0, 3001, .inl cx20)), (cx21, .inl (ca 0, 3001, .inl cx22)), (cm1, .inl (ca 0, 8, .inl cm2)), (cm3, .inl (ca 0, 3001, .inl cm4)), (cm5, .inl (ca 0, 3001, .inl cm6)), (cm7, .inr (13, rg 81 cm8)), (cm11, .inl (ca 2, 20, .inl cm12)), (cm13, .inl (ca 2, 3000, .inl cm14)), (xx, .inr (12, rg 10 cx0)), (cx3, .inl (ca 4, 2, .inr (.inr (.inr (.inr cx4)))))]) (w1 := [(mm, .inr (14, rg 107 cm0)), (cm9, .inl (ca 5, 2, .inr (.inr (.inr (.inr cm10))))), (cm15, .inr (13, rg 81 cm16)), (cm17, .inr (13, rg 81 cm18))]) hP3 hD3 [10, 15, 18, 19] [0, 1, 2, 3, 4, 5, 6, 7, 8, 9, 11, 12, 13, 14, 16, 17, 20, 21] rfl rfl (by decide) (by decide) hk6 hFc6 ht6 hB6
  have hP6 : va_P D cls [(cx1, .inr (3, rg 22 cx2)), (cx5, .inr (0, rg 3 cx6)), (cx7, .inl (ca 0, 20, .inl cx8)), (cx9, .inr (0, rg 3 cx10)), (cx11, .inr (10, rg 9 cx12)), (cx13, .inl (ca 0, 20480, .inl cx14)), (cx15, .inl (ca 0, 3000, .inl cx16)), (cx17, .inl (ca 1, 3001, .inr (.inl cx18))), (cx19, .inl (ca 0, 3001, .inl cx20)), (cx21, .inl (ca 0, 3001, .inl cx22)), (cm1, .inl (ca 0, 8, .inl cm2)), (cm3, .inl (ca 0, 3001, .inl cm4)), (cm5, .inl (ca 0, 3001, .inl cm6)), (cm7, .inr (13, rg 81 cm8)), (cm11, .inl (ca 2, 20, .inl cm12)), (cm13, .inl (ca 2, 3000, .inl cm14)), (xx, .inr (12, rg 10 cx0)), (cx3, .inl (ca 4, 2, .inr (.inr (.inr (.inr cx4))))), (mm, .inr (14, rg 107 cm0)), (cm9, .inl (ca 5, 2, .inr (.inr (.inr (.inr cm10))))), (cm15, .inr (13, rg 81 cm16)), (cm17, .inr (13, rg 81 cm18))] H6 := hP6
  have hD6 : va_D A [(cx1, .inr (3, rg 22 cx2)), (cx5, .inr (0, rg 3 cx6)), (cx7, .inl (ca 0, 20, .inl cx8)), (cx9, .inr (0, rg 3 cx10)), (cx11, .inr (10, rg 9 cx12)), (cx13, .inl (ca 0, 20480, .inl cx14)), (cx15, .inl (ca 0, 3000, .inl cx16)), (cx17, .inl (ca 1, 3001, .inr (.inl cx18))), (cx19, .inl (ca 0, 3001, .inl cx20)), (cx21, .inl (ca 0, 3001, .inl cx22)), (cm1, .inl (ca 0, 8, .inl cm2)), (cm3, .inl (ca 0, 3001, .inl cm4)), (cm5, .inl (ca 0, 3001, .inl cm6)), (cm7, .inr (13, rg 81 cm8)), (cm11, .inl (ca 2, 20, .inl cm12)), (cm13, .inl (ca 2, 3000, .inl cm14)), (xx, .inr (12, rg 10 cx0)), (cx3, .inl (ca 4, 2, .inr (.inr (.inr (.inr cx4))))), (mm, .inr (14, rg 107 cm0)), (cm9, .inl (ca 5, 2, .inr (.inr (.inr (.inr cm10))))), (cm15, .inr (13, rg 81 cm16)), (cm17, .inr (13, rg 81 cm18))] := hD6
  refine W.widen (k := 282) (n := 716534) (Nat.le_of_ble_eq_true rfl) (Nat.le_of_ble_eq_true rfl) ?_
  subst hr6
  refine lv_icmp_eq (tgt := 1198) hx hb d_code_291 (by decide) (fun _ => ?_) (fun c => absurd (by decide) c)
  exact law_tail C0 hA2 hS6 (Nat.le_of_ble_eq_true rfl) (Nat.le_of_ble_eq_true rfl) hl
set_option maxHeartbeats 8000000 in
set_option maxRecDepth 100000 in
theorem law_case_4 {p : Program} {l : Launch} {e : Env} {s : State} {m : MethodId} {below : List Frame} {meth : Method} {c : Code} {b : Nat} {xs : Nat → Int32} (C0 : lw_At p s m meth c b 9 xs) {D : va_G} {ca : Nat → ClassId} {ad av : Nat → Nat} {A : Nat → Prop} (hA : ∀ q, s.heap.size ≤ q → A q) (hA2 : ∀ q, A q → s.heap.size ≤ q) {xx : Nat} {cx1 : Nat} {cx3 : Nat} {cx5 : Nat} {cx7 : Nat} {cx9 : Nat} {cx11 : Nat} {cx13 : Nat} {cx15 : Nat} {cx17 : Nat} {cx19 : Nat} {cx21 : Nat} {mm : Nat} {cm1 : Nat} {cm3 : Nat} {cm5 : Nat} {cm7 : Nat} {cm9 : Nat} {cm11 : Nat} {cm13 : Nat} {cm15 : Nat} {cm17 : Nat} {cx0 : Nat → Value} {cx2 : Nat → Value} {cx4 : Nat → Option Nat} {cx6 : Nat → Value} {cx8 : Nat → Int32} {cx10 : Nat → Value} {cx12 : Nat → Value} {cx14 : Nat → Int32} {cx16 : Nat → Int32} {cx18 : Nat → Int64} {cx20 : Nat → Int32} {cx22 : Nat → Int32} {cm0 : Nat → Value} {cm2 : Nat → Int32} {cm4 : Nat → Int32} {cm6 : Nat → Int32} {cm8 : Nat → Value} {cm10 : Nat → Option Nat} {cm12 : Nat → Int32} {cm14 : Nat → Int32} {cm16 : Nat → Value} {cm18 : Nat → Value} (hcx0 : gF cx0 [(4, .ref cx1), (3, .ref cx3), (2, .ref cx5), (1, .ref cx7), (0, .ref cx9), (7, .null), (8, .null), (9, .null)]) (hcx1 : gF cx2 [(11, .ref cx11), (16, .int 0), (21, .int 0)]) (hcx2 : gF cx4 [(0, none), (1, none)]) (hcx3 : gF cx6 [(0, .ref cx13), (1, .int 0), (2, .int 0)]) (hcx4 : gF cx8 []) (hcx5 : gF cx10 [(0, .ref cx15), (1, .int 0), (2, .int 0)]) (hcx6 : gF cx12 [(7, .ref cx17), (6, .ref cx19), (5, .ref cx21), (0, .int 0), (1, .int 0), (2, .long 0), (8, .int 0)]) (hcx7 : gF cx14 []) (hcx8 : gF cx16 []) (hcx9 : gF cx18 []) (hcx10 : gF cx20 []) (hcx11 : gF cx22 []) (hcm0 : gF cm0 [(74, .ref cm1), (8, .ref cm3), (7, .ref cm5), (6, .ref cm7), (5, .ref cm9), (4, .ref cm11), (2, .ref cm13), (3, .int 0), (12, .int 0), (16, .int 0), (17, .int 0), (18, .int 0), (71, .int 0), (72, .int 0), (89, .int 0), (90, .long 0), (94, .int 0)]) (hcm1 : gF cm2 []) (hcm2 : gF cm4 []) (hcm3 : gF cm6 []) (hcm4 : gF cm8 [(0, .int 0), (1, .int 0)]) (hcm5 : gF cm10 [(1, some cm15), (0, some cm17)]) (hcm6 : gF cm12 []) (hcm7 : gF cm14 []) (hcm8 : gF cm16 [(0, .int 0), (1, .int 0)]) (hcm9 : gF cm18 [(0, .int 0), (1, .int 0)]) (hK : va_K D cls (tyL ca) s) (hX : gX ad av A s s.heap) {H : Heap} {locs : List Loc} (hP : va_P D cls [(xx, .inr (12, rg 10 cx0)), (cx1, .inr (3, rg 22 cx2)), (cx3, .inl (ca 4, 2, .inr (.inr (.inr (.inr cx4))))), (cx5, .inr (0, rg 3 cx6)), (cx7, .inl (ca 0, 20, .inl cx8)), (cx9, .inr (0, rg 3 cx10)), (cx11, .inr (10, rg 9 cx12)), (cx13, .inl (ca 0, 20480, .inl cx14)), (cx15, .inl (ca 0, 3000, .inl cx16)), (cx17, .inl (ca 1, 3001, .inr (.inl cx18))), (cx19, .inl (ca 0, 3001, .inl cx20)), (cx21, .inl (ca 0, 3001, .inl cx22)), (mm, .inr (14, rg 107 cm0)), (cm1, .inl (ca 0, 8, .inl cm2)), (cm3, .inl (ca 0, 3001, .inl cm4)), (cm5, .inl (ca 0, 3001, .inl cm6)), (cm7, .inr (13, rg 81 cm8)), (cm9, .inl (ca 5, 2, .inr (.inr (.inr (.inr cm10))))), (cm11, .inl (ca 2, 20, .inl cm12)), (cm13, .inl (ca 2, 3000, .inl cm14)), (cm15, .inr (13, rg 81 cm16)), (cm17, .inr (13, rg 81 cm18))] H) (hD : va_D A [(xx, .inr (12, rg 10 cx0)), (cx1, .inr (3, rg 22 cx2)), (cx3, .inl (ca 4, 2, .inr (.inr (.inr (.inr cx4))))), (cx5, .inr (0, rg 3 cx6)), (cx7, .inl (ca 0, 20, .inl cx8)), (cx9, .inr (0, rg 3 cx10)), (cx11, .inr (10, rg 9 cx12)), (cx13, .inl (ca 0, 20480, .inl cx14)), (cx15, .inl (ca 0, 3000, .inl cx16)), (cx17, .inl (ca 1, 3001, .inr (.inl cx18))), (cx19, .inl (ca 0, 3001, .inl cx20)), (cx21, .inl (ca 0, 3001, .inl cx22)), (mm, .inr (14, rg 107 cm0)), (cm1, .inl (ca 0, 8, .inl cm2)), (cm3, .inl (ca 0, 3001, .inl cm4)), (cm5, .inl (ca 0, 3001, .inl cm6)), (cm7, .inr (13, rg 81 cm8)), (cm9, .inl (ca 5, 2, .inr (.inr (.inr (.inr cm10))))), (cm11, .inl (ca 2, 20, .inl cm12)), (cm13, .inl (ca 2, 3000, .inl cm14)), (cm15, .inr (13, rg 81 cm16)), (cm17, .inr (13, rg 81 cm18))]) (hS : va_S A s.heap H locs) {ls : Array Slot} (hl : lv_has ls 4 [(3, .int 0), (2, .ref mm), (1, .ref xx), (0, .ref b)]) : W p l e room_1 s m #[Value.ref b] below meth c H locs 282 716534 (lw_Z below #[Value.ref b] s) (F0 m 296 ls []) := by
  obtain ⟨hx, hb, hr, hml, hown, hts0, hXs, hbl, hlocks, hgv⟩ := id C0
  have hts := wA_hts hts0
  have hbA : ¬ A b := fun z => Nat.not_le.mpr hbl (hA2 b z)
  have hown : s.vm.findClass "StaveHouseLaw" = some m.cls := hown
  refine lv_aload_n hx hb d_code_296 rfl (lv_at hl 2 rfl) ?_
  refine lv_aload_n hx hb d_code_297 rfl (lv_at hl 3 rfl) ?_
  refine lv_iload_n hx hb d_code_298 rfl (lv_at hl 0 rfl) ?_
  refine lv_iconst (v := 1) hx hb d_code_299 (by decide) ?_
  refine lv_iadd hx hb d_code_300 ?_
  refine lv_topi (fun y1 ey1 => ?_)
  obtain rfl : y1 = 1 := ey1.trans (by decide)
  refine va_sld hx hb hXs hbl hbA hS (vinC (by decide)) d_code_301 ?_
  refine W.eq (g2 := F0 m 302 ls [.int (xs 1), .ref xx]) rfl ?_
  refine lv_aload_n hx hb d_code_302 rfl (lv_at hl 3 rfl) ?_
  refine lv_iload_n hx hb d_code_303 rfl (lv_at hl 0 rfl) ?_
  refine lv_iconst (v := 2) hx hb d_code_304 (by decide) ?_
  refine lv_iadd hx hb d_code_305 ?_
  refine lv_topi (fun y2 ey2 => ?_)
  obtain rfl : y2 = 2 := ey2.trans (by decide)
  refine va_sld hx hb hXs hbl hbA hS (vinC (by decide)) d_code_306 ?_
  refine W.eq (g2 := F0 m 307 ls [.int (xs 2), .int (xs 1), .ref xx]) rfl ?_
  refine lv_aload_n hx hb d_code_307 rfl (lv_at hl 3 rfl) ?_
  refine lv_iload_n hx hb d_code_308 rfl (lv_at hl 0 rfl) ?_
  refine lv_iconst (v := 3) hx hb d_code_309 (by decide) ?_
  refine lv_iadd hx hb d_code_310 ?_
  refine lv_topi (fun y3 ey3 => ?_)
  obtain rfl : y3 = 3 := ey3.trans (by decide)
  refine va_sld hx hb hXs hbl hbA hS (vinC (by decide)) d_code_311 ?_
  refine W.eq (g2 := F0 m 312 ls [.int (xs 3), .int (xs 2), .int (xs 1), .ref xx]) rfl ?_
  have hFc4 := va_free (wc := [(xx, .inr (12, rg 10 cx0)), (cx3, .inl (ca 4, 2, .inr (.inr (.inr (.inr cx4)))))]) hD hS hA [0, 2] rfl
  refine va_calli (va_runV (As := [.int (xs 1), .int (xs 2), .int (xs 3)]) (rest := []) ⟨hx, hb, hml, hown, hts⟩ (c_S_voice_0 l D ca ad av H.size xx cx3 cx0 cx4 (xs 1) (xs 2) (xs 3) (hcx0.sub [1] rfl) (hcx2.sub [0, 1] rfl)) (cwV 3 hts (gdV k_6_164 k_6_165 k_6_166 k_1_1 k_6_167) rfl rfl rfl (by decide +kernel) ⟨Nat.le_of_ble_eq_true rfl, Nat.le_of_ble_eq_true rfl⟩) (gPV hP hD hK hS hA hX [0, 2] (by decide) rfl xx [.int (xs 1), .int (xs 2), .int (xs 3)] 0 (ci := 12) (r := (RX12, TX12, 10)) rfl rfl) rfl rfl hl.1 rfl (lv_room (Nat.le_of_ble_eq_true rfl)) d_code_312 ⟨Nat.le_of_ble_eq_true rfl, Nat.le_of_ble_eq_true rfl⟩) hS (fun q _ h => hFc4 q h) hFc4 (fun r4 u4 t4 H4 locs4 ht4 hvm4 hw4 hB4 hz4 hk4 hS4 => ?_)
  have hr4 := hw4
  obtain ⟨hP4, hD4⟩ := gJoin (wr := [(cx1, .inr (3, rg 22 cx2)), (cx5, .inr (0, rg 3 cx6)), (cx7, .inl (ca 0, 20, .inl cx8)), (cx9, .inr (0, rg 3 cx10)), (cx11, .inr (10, rg 9 cx12)), (cx13, .inl (ca 0, 20480, .inl cx14)), (cx15, .inl (ca 0, 3000, .inl cx16)), (cx17, .inl (ca 1, 3001, .inr (.inl cx18))), (cx19, .inl (ca 0, 3001, .inl cx20)), (cx21, .inl (ca 0, 3001, .inl cx22)), (mm, .inr (14, rg 107 cm0)), (cm1, .inl (ca 0, 8, .inl cm2)), (cm3, .inl (ca 0, 3001, .inl cm4)), (cm5, .inl (ca 0, 3001, .inl cm6)), (cm7, .inr (13, rg 81 cm8)), (cm9, .inl (ca 5, 2, .inr (.inr (.inr (.inr cm10))))), (cm11, .inl (ca 2, 20, .inl cm12)), (cm13, .inl (ca 2, 3000, .inl cm14)), (cm15, .inr (13, rg 81 cm16)), (cm17, .inr (13, rg 81 cm18))]) (w1 := [(xx, .inr (12, rg 10 cx0)), (cx3, .inl (ca 4, 2, .inr (.inr (.inr (.inr cx4)))))]) hP hD [0, 2] [1, 3, 4, 5, 6, 7, 8, 9, 10, 11, 12, 13, 14, 15, 16, 17, 18, 19, 20, 21] rfl rfl (by decide) (by decide) hk4 hFc4 ht4 hB4
  have hP4 : va_P D cls [(cx1, .inr (3, rg 22 cx2)), (cx5, .inr (0, rg 3 cx6)), (cx7, .inl (ca 0, 20, .inl cx8)), (cx9, .inr (0, rg 3 cx10)), (cx11, .inr (10, rg 9 cx12)), (cx13, .inl (ca 0, 20480, .inl cx14)), (cx15, .inl (ca 0, 3000, .inl cx16)), (cx17, .inl (ca 1, 3001, .inr (.inl cx18))), (cx19, .inl (ca 0, 3001, .inl cx20)), (cx21, .inl (ca 0, 3001, .inl cx22)), (mm, .inr (14, rg 107 cm0)), (cm1, .inl (ca 0, 8, .inl cm2)), (cm3, .inl (ca 0, 3001, .inl cm4)), (cm5, .inl (ca 0, 3001, .inl cm6)), (cm7, .inr (13, rg 81 cm8)), (cm9, .inl (ca 5, 2, .inr (.inr (.inr (.inr cm10))))), (cm11, .inl (ca 2, 20, .inl cm12)), (cm13, .inl (ca 2, 3000, .inl cm14)), (cm15, .inr (13, rg 81 cm16)), (cm17, .inr (13, rg 81 cm18)), (xx, .inr (12, rg 10 cx0)), (cx3, .inl (ca 4, 2, .inr (.inr (.inr (.inr cx4)))))] H4 := hP4
  have hD4 : va_D A [(cx1, .inr (3, rg 22 cx2)), (cx5, .inr (0, rg 3 cx6)), (cx7, .inl (ca 0, 20, .inl cx8)), (cx9, .inr (0, rg 3 cx10)), (cx11, .inr (10, rg 9 cx12)), (cx13, .inl (ca 0, 20480, .inl cx14)), (cx15, .inl (ca 0, 3000, .inl cx16)), (cx17, .inl (ca 1, 3001, .inr (.inl cx18))), (cx19, .inl (ca 0, 3001, .inl cx20)), (cx21, .inl (ca 0, 3001, .inl cx22)), (mm, .inr (14, rg 107 cm0)), (cm1, .inl (ca 0, 8, .inl cm2)), (cm3, .inl (ca 0, 3001, .inl cm4)), (cm5, .inl (ca 0, 3001, .inl cm6)), (cm7, .inr (13, rg 81 cm8)), (cm9, .inl (ca 5, 2, .inr (.inr (.inr (.inr cm10))))), (cm11, .inl (ca 2, 20, .inl cm12)), (cm13, .inl (ca 2, 3000, .inl cm14)), (cm15, .inr (13, rg 81 cm16)), (cm17, .inr (13, rg 81 cm18)), (xx, .inr (12, rg 10 cx0)), (cx3, .inl (ca 4, 2, .inr (.inr (.inr (.inr cx4)))))] := hD4
  refine W.widen (k := 282) (n := 716534) (Nat.le_of_ble_eq_true rfl) (Nat.le_of_ble_eq_true rfl) ?_
  subst hr4
  refine lv_aload_n hx hb d_code_315 rfl (lv_at hl 1 rfl) ?_
  refine lv_aload_n hx hb d_code_316 rfl (lv_at hl 3 rfl) ?_
  refine lv_iload_n hx hb d_code_317 rfl (lv_at hl 0 rfl) ?_
  refine lv_iconst (v := 1) hx hb d_code_318 (by decide) ?_
  refine lv_iadd hx hb d_code_319 ?_
  refine lv_topi (fun y5 ey5 => ?_)
  obtain rfl : y5 = 1 := ey5.trans (by decide)
  refine va_sld hx hb hXs hbl hbA hS4 (vinC (by decide)) d_code_320 ?_
  refine W.eq (g2 := F0 m 321 ls [.int (xs 1), .ref mm, .int (-1)]) rfl ?_
  refine lv_aload_n hx hb d_code_321 rfl (lv_at hl 3 rfl) ?_
  refine lv_iload_n hx hb d_code_322 rfl (lv_at hl 0 rfl) ?_
  refine lv_iconst (v := 2) hx hb d_code_323 (by decide) ?_
  refine lv_iadd hx hb d_code_324 ?_
  refine lv_topi (fun y6 ey6 => ?_)
  obtain rfl : y6 = 2 := ey6.trans (by decide)
  refine va_sld hx hb hXs hbl hbA hS4 (vinC (by decide)) d_code_325 ?_
  refine W.eq (g2 := F0 m 326 ls [.int (xs 2), .int (xs 1), .ref mm, .int (-1)]) rfl ?_
  refine lv_aload_n hx hb d_code_326 rfl (lv_at hl 3 rfl) ?_
  refine lv_iload_n hx hb d_code_327 rfl (lv_at hl 0 rfl) ?_
  refine lv_iconst (v := 3) hx hb d_code_328 (by decide) ?_
  refine lv_iadd hx hb d_code_329 ?_
  refine lv_topi (fun y7 ey7 => ?_)
  obtain rfl : y7 = 3 := ey7.trans (by decide)
  refine va_sld hx hb hXs hbl hbA hS4 (vinC (by decide)) d_code_330 ?_
  refine W.eq (g2 := F0 m 331 ls [.int (xs 3), .int (xs 2), .int (xs 1), .ref mm, .int (-1)]) rfl ?_
  have hFc8 := va_free (wc := [(mm, .inr (14, rg 107 cm0)), (cm9, .inl (ca 5, 2, .inr (.inr (.inr (.inr cm10))))), (cm15, .inr (13, rg 81 cm16)), (cm17, .inr (13, rg 81 cm18))]) hD4 hS4 hA [10, 15, 18, 19] rfl
  refine va_calli (va_runV (As := [.int (xs 1), .int (xs 2), .int (xs 3)]) (rest := [.int (-1)]) ⟨hx, hb, hml, hown, hts⟩ (c_M_voice_0 l D ca ad av H4.size mm cm9 cm15 cm17 cm0 cm10 cm16 cm18 (xs 1) (xs 2) (xs 3) (hcm0.sub [4] rfl) (hcm5.sub [0, 1] rfl) (hcm8.sub [0] rfl) (hcm9.sub [0] rfl)) (cwV 3 hts (gdV k_15_150 k_15_151 k_15_152 k_1_9 k_15_153) rfl rfl rfl (by decide +kernel) ⟨Nat.le_of_ble_eq_true rfl, Nat.le_of_ble_eq_true rfl⟩) (gPV hP4 hD4 hK hS4 hA hX [10, 15, 18, 19] (by decide) rfl mm [.int (xs 1), .int (xs 2), .int (xs 3)] 10 (ci := 14) (r := (RX14, TX14, 107)) rfl rfl) rfl rfl hl.1 rfl (lv_room (Nat.le_of_ble_eq_true rfl)) d_code_331 ⟨Nat.le_of_ble_eq_true rfl, Nat.le_of_ble_eq_true rfl⟩) hS4 (fun q _ h => hFc8 q h) hFc8 (fun r8 u8 t8 H8 locs8 ht8 hvm8 hw8 hB8 hz8 hk8 hS8 => ?_)
  have hr8 := hw8
  obtain ⟨hP8, hD8⟩ := gJoin (wr := [(cx1, .inr (3, rg 22 cx2)), (cx5, .inr (0, rg 3 cx6)), (cx7, .inl (ca 0, 20, .inl cx8)), (cx9, .inr (0, rg 3 cx10)), (cx11, .inr (10, rg 9 cx12)), (cx13, .inl (ca 0, 20480, .inl cx14)), (cx15, .inl (ca 0, 3000, .inl cx16)), (cx17, .inl (ca 1, 3001, .inr (.inl cx18))), (cx19, .inl (ca 0, 3001, .inl cx20)), (cx21, .inl (ca 0, 3001, .inl cx22)), (cm1, .inl (ca 0, 8, .inl cm2)), (cm3, .inl (ca 0, 3001, .inl cm4)), (cm5, .inl (ca 0, 3001, .inl cm6)), (cm7, .inr (13, rg 81 cm8)), (cm11, .inl (ca 2, 20, .inl cm12)), (cm13, .inl (ca 2, 3000, .inl cm14)), (xx, .inr (12, rg 10 cx0)), (cx3, .inl (ca 4, 2, .inr (.inr (.inr (.inr cx4)))))]) (w1 := [(mm, .inr (14, rg 107 cm0)), (cm9, .inl (ca 5, 2, .inr (.inr (.inr (.inr cm10))))), (cm15, .inr (13, rg 81 cm16)), (cm17, .inr (13, rg 81 cm18))]) hP4 hD4 [10, 15, 18, 19] [0, 1, 2, 3, 4, 5, 6, 7, 8, 9, 11, 12, 13, 14, 16, 17, 20, 21] rfl rfl (by decide) (by decide) hk8 hFc8 ht8 hB8
  have hP8 : va_P D cls [(cx1, .inr (3, rg 22 cx2)), (cx5, .inr (0, rg 3 cx6)), (cx7, .inl (ca 0, 20, .inl cx8)), (cx9, .inr (0, rg 3 cx10)), (cx11, .inr (10, rg 9 cx12)), (cx13, .inl (ca 0, 20480, .inl cx14)), (cx15, .inl (ca 0, 3000, .inl cx16)), (cx17, .inl (ca 1, 3001, .inr (.inl cx18))), (cx19, .inl (ca 0, 3001, .inl cx20)), (cx21, .inl (ca 0, 3001, .inl cx22)), (cm1, .inl (ca 0, 8, .inl cm2)), (cm3, .inl (ca 0, 3001, .inl cm4)), (cm5, .inl (ca 0, 3001, .inl cm6)), (cm7, .inr (13, rg 81 cm8)), (cm11, .inl (ca 2, 20, .inl cm12)), (cm13, .inl (ca 2, 3000, .inl cm14)), (xx, .inr (12, rg 10 cx0)), (cx3, .inl (ca 4, 2, .inr (.inr (.inr (.inr cx4))))), (mm, .inr (14, rg 107 cm0)), (cm9, .inl (ca 5, 2, .inr (.inr (.inr (.inr cm10))))), (cm15, .inr (13, rg 81 cm16)), (cm17, .inr (13, rg 81 cm18))] H8 := hP8
  have hD8 : va_D A [(cx1, .inr (3, rg 22 cx2)), (cx5, .inr (0, rg 3 cx6)), (cx7, .inl (ca 0, 20, .inl cx8)), (cx9, .inr (0, rg 3 cx10)), (cx11, .inr (10, rg 9 cx12)), (cx13, .inl (ca 0, 20480, .inl cx14)), (cx15, .inl (ca 0, 3000, .inl cx16)), (cx17, .inl (ca 1, 3001, .inr (.inl cx18))), (cx19, .inl (ca 0, 3001, .inl cx20)), (cx21, .inl (ca 0, 3001, .inl cx22)), (cm1, .inl (ca 0, 8, .inl cm2)), (cm3, .inl (ca 0, 3001, .inl cm4)), (cm5, .inl (ca 0, 3001, .inl cm6)), (cm7, .inr (13, rg 81 cm8)), (cm11, .inl (ca 2, 20, .inl cm12)), (cm13, .inl (ca 2, 3000, .inl cm14)), (xx, .inr (12, rg 10 cx0)), (cx3, .inl (ca 4, 2, .inr (.inr (.inr (.inr cx4))))), (mm, .inr (14, rg 107 cm0)), (cm9, .inl (ca 5, 2, .inr (.inr (.inr (.inr cm10))))), (cm15, .inr (13, rg 81 cm16)), (cm17, .inr (13, rg 81 cm18))] := hD8
  refine W.widen (k := 282) (n := 716534) (Nat.le_of_ble_eq_true rfl) (Nat.le_of_ble_eq_true rfl) ?_
  subst hr8
  refine lv_icmp_eq (tgt := 1198) hx hb d_code_334 (by decide) (fun _ => ?_) (fun c => absurd (by decide) c)
  exact law_tail C0 hA2 hS8 (Nat.le_of_ble_eq_true rfl) (Nat.le_of_ble_eq_true rfl) hl
set_option maxHeartbeats 8000000 in
set_option maxRecDepth 100000 in
theorem law_case_5 {p : Program} {l : Launch} {e : Env} {s : State} {m : MethodId} {below : List Frame} {meth : Method} {c : Code} {b : Nat} {xs : Nat → Int32} (C0 : lw_At p s m meth c b 9 xs) {D : va_G} {ca : Nat → ClassId} {ad av : Nat → Nat} {A : Nat → Prop} (hA : ∀ q, s.heap.size ≤ q → A q) (hA2 : ∀ q, A q → s.heap.size ≤ q) {xx : Nat} {cx1 : Nat} {cx3 : Nat} {cx5 : Nat} {cx7 : Nat} {cx9 : Nat} {cx11 : Nat} {cx13 : Nat} {cx15 : Nat} {cx17 : Nat} {cx19 : Nat} {cx21 : Nat} {mm : Nat} {cm1 : Nat} {cm3 : Nat} {cm5 : Nat} {cm7 : Nat} {cm9 : Nat} {cm11 : Nat} {cm13 : Nat} {cm15 : Nat} {cm17 : Nat} {cx0 : Nat → Value} {cx2 : Nat → Value} {cx4 : Nat → Option Nat} {cx6 : Nat → Value} {cx8 : Nat → Int32} {cx10 : Nat → Value} {cx12 : Nat → Value} {cx14 : Nat → Int32} {cx16 : Nat → Int32} {cx18 : Nat → Int64} {cx20 : Nat → Int32} {cx22 : Nat → Int32} {cm0 : Nat → Value} {cm2 : Nat → Int32} {cm4 : Nat → Int32} {cm6 : Nat → Int32} {cm8 : Nat → Value} {cm10 : Nat → Option Nat} {cm12 : Nat → Int32} {cm14 : Nat → Int32} {cm16 : Nat → Value} {cm18 : Nat → Value} (hcx0 : gF cx0 [(4, .ref cx1), (3, .ref cx3), (2, .ref cx5), (1, .ref cx7), (0, .ref cx9), (7, .null), (8, .null), (9, .null)]) (hcx1 : gF cx2 [(11, .ref cx11), (16, .int 0), (21, .int 0)]) (hcx2 : gF cx4 [(0, none), (1, none)]) (hcx3 : gF cx6 [(0, .ref cx13), (1, .int 0), (2, .int 0)]) (hcx4 : gF cx8 []) (hcx5 : gF cx10 [(0, .ref cx15), (1, .int 0), (2, .int 0)]) (hcx6 : gF cx12 [(7, .ref cx17), (6, .ref cx19), (5, .ref cx21), (0, .int 0), (1, .int 0), (2, .long 0), (8, .int 0)]) (hcx7 : gF cx14 []) (hcx8 : gF cx16 []) (hcx9 : gF cx18 []) (hcx10 : gF cx20 []) (hcx11 : gF cx22 []) (hcm0 : gF cm0 [(74, .ref cm1), (8, .ref cm3), (7, .ref cm5), (6, .ref cm7), (5, .ref cm9), (4, .ref cm11), (2, .ref cm13), (3, .int 0), (12, .int 0), (16, .int 0), (17, .int 0), (18, .int 0), (71, .int 0), (72, .int 0), (89, .int 0), (90, .long 0), (94, .int 0)]) (hcm1 : gF cm2 []) (hcm2 : gF cm4 []) (hcm3 : gF cm6 []) (hcm4 : gF cm8 [(0, .int 0), (1, .int 0)]) (hcm5 : gF cm10 [(1, some cm15), (0, some cm17)]) (hcm6 : gF cm12 []) (hcm7 : gF cm14 []) (hcm8 : gF cm16 [(0, .int 0), (1, .int 0)]) (hcm9 : gF cm18 [(0, .int 0), (1, .int 0)]) (hK : va_K D cls (tyL ca) s) (hX : gX ad av A s s.heap) {H : Heap} {locs : List Loc} (hP : va_P D cls [(xx, .inr (12, rg 10 cx0)), (cx1, .inr (3, rg 22 cx2)), (cx3, .inl (ca 4, 2, .inr (.inr (.inr (.inr cx4))))), (cx5, .inr (0, rg 3 cx6)), (cx7, .inl (ca 0, 20, .inl cx8)), (cx9, .inr (0, rg 3 cx10)), (cx11, .inr (10, rg 9 cx12)), (cx13, .inl (ca 0, 20480, .inl cx14)), (cx15, .inl (ca 0, 3000, .inl cx16)), (cx17, .inl (ca 1, 3001, .inr (.inl cx18))), (cx19, .inl (ca 0, 3001, .inl cx20)), (cx21, .inl (ca 0, 3001, .inl cx22)), (mm, .inr (14, rg 107 cm0)), (cm1, .inl (ca 0, 8, .inl cm2)), (cm3, .inl (ca 0, 3001, .inl cm4)), (cm5, .inl (ca 0, 3001, .inl cm6)), (cm7, .inr (13, rg 81 cm8)), (cm9, .inl (ca 5, 2, .inr (.inr (.inr (.inr cm10))))), (cm11, .inl (ca 2, 20, .inl cm12)), (cm13, .inl (ca 2, 3000, .inl cm14)), (cm15, .inr (13, rg 81 cm16)), (cm17, .inr (13, rg 81 cm18))] H) (hD : va_D A [(xx, .inr (12, rg 10 cx0)), (cx1, .inr (3, rg 22 cx2)), (cx3, .inl (ca 4, 2, .inr (.inr (.inr (.inr cx4))))), (cx5, .inr (0, rg 3 cx6)), (cx7, .inl (ca 0, 20, .inl cx8)), (cx9, .inr (0, rg 3 cx10)), (cx11, .inr (10, rg 9 cx12)), (cx13, .inl (ca 0, 20480, .inl cx14)), (cx15, .inl (ca 0, 3000, .inl cx16)), (cx17, .inl (ca 1, 3001, .inr (.inl cx18))), (cx19, .inl (ca 0, 3001, .inl cx20)), (cx21, .inl (ca 0, 3001, .inl cx22)), (mm, .inr (14, rg 107 cm0)), (cm1, .inl (ca 0, 8, .inl cm2)), (cm3, .inl (ca 0, 3001, .inl cm4)), (cm5, .inl (ca 0, 3001, .inl cm6)), (cm7, .inr (13, rg 81 cm8)), (cm9, .inl (ca 5, 2, .inr (.inr (.inr (.inr cm10))))), (cm11, .inl (ca 2, 20, .inl cm12)), (cm13, .inl (ca 2, 3000, .inl cm14)), (cm15, .inr (13, rg 81 cm16)), (cm17, .inr (13, rg 81 cm18))]) (hS : va_S A s.heap H locs) {ls : Array Slot} (hl : lv_has ls 4 [(3, .int 0), (2, .ref mm), (1, .ref xx), (0, .ref b)]) : W p l e room_1 s m #[Value.ref b] below meth c H locs 282 716534 (lw_Z below #[Value.ref b] s) (F0 m 339 ls []) := by
  obtain ⟨hx, hb, hr, hml, hown, hts0, hXs, hbl, hlocks, hgv⟩ := id C0
  have hts := wA_hts hts0
  have hbA : ¬ A b := fun z => Nat.not_le.mpr hbl (hA2 b z)
  have hown : s.vm.findClass "StaveHouseLaw" = some m.cls := hown
  refine lv_aload_n hx hb d_code_339 rfl (lv_at hl 2 rfl) ?_
  refine lv_aload_n hx hb d_code_340 rfl (lv_at hl 3 rfl) ?_
  refine lv_iload_n hx hb d_code_341 rfl (lv_at hl 0 rfl) ?_
  refine lv_iconst (v := 1) hx hb d_code_342 (by decide) ?_
  refine lv_iadd hx hb d_code_343 ?_
  refine lv_topi (fun y1 ey1 => ?_)
  obtain rfl : y1 = 1 := ey1.trans (by decide)
  refine va_sld hx hb hXs hbl hbA hS (vinC (by decide)) d_code_344 ?_
  refine W.eq (g2 := F0 m 345 ls [.int (xs 1), .ref xx]) rfl ?_
  refine lv_aload_n hx hb d_code_345 rfl (lv_at hl 3 rfl) ?_
  refine lv_iload_n hx hb d_code_346 rfl (lv_at hl 0 rfl) ?_
  refine lv_iconst (v := 2) hx hb d_code_347 (by decide) ?_
  refine lv_iadd hx hb d_code_348 ?_
  refine lv_topi (fun y2 ey2 => ?_)
  obtain rfl : y2 = 2 := ey2.trans (by decide)
  refine va_sld hx hb hXs hbl hbA hS (vinC (by decide)) d_code_349 ?_
  refine W.eq (g2 := F0 m 350 ls [.int (xs 2), .int (xs 1), .ref xx]) rfl ?_
  have hFc3 := va_free (wc := [(xx, .inr (12, rg 10 cx0)), (cx3, .inl (ca 4, 2, .inr (.inr (.inr (.inr cx4)))))]) hD hS hA [0, 2] rfl
  refine va_calll (va_runV (As := [.int (xs 1), .int (xs 2)]) (rest := []) ⟨hx, hb, hml, hown, hts⟩ (c_S_name_0 l D ca ad av H.size xx cx3 cx0 cx4 (xs 1) (xs 2) (hcx0.sub [1] rfl) (hcx2.sub [0, 1] rfl)) (cwV 2 hts (gdV k_6_172 k_6_173 k_6_174 k_1_1 k_6_175) rfl rfl rfl (by decide +kernel) ⟨Nat.le_of_ble_eq_true rfl, Nat.le_of_ble_eq_true rfl⟩) (gPV hP hD hK hS hA hX [0, 2] (by decide) rfl xx [.int (xs 1), .int (xs 2)] 0 (ci := 12) (r := (RX12, TX12, 10)) rfl rfl) rfl rfl hl.1 rfl (lv_room (Nat.le_of_ble_eq_true rfl)) d_code_350 ⟨Nat.le_of_ble_eq_true rfl, Nat.le_of_ble_eq_true rfl⟩) hS (fun q _ h => hFc3 q h) hFc3 (fun r3 u3 t3 H3 locs3 ht3 hvm3 hw3 hB3 hz3 hk3 hS3 => ?_)
  have hr3 := hw3
  obtain ⟨hP3, hD3⟩ := gJoin (wr := [(cx1, .inr (3, rg 22 cx2)), (cx5, .inr (0, rg 3 cx6)), (cx7, .inl (ca 0, 20, .inl cx8)), (cx9, .inr (0, rg 3 cx10)), (cx11, .inr (10, rg 9 cx12)), (cx13, .inl (ca 0, 20480, .inl cx14)), (cx15, .inl (ca 0, 3000, .inl cx16)), (cx17, .inl (ca 1, 3001, .inr (.inl cx18))), (cx19, .inl (ca 0, 3001, .inl cx20)), (cx21, .inl (ca 0, 3001, .inl cx22)), (mm, .inr (14, rg 107 cm0)), (cm1, .inl (ca 0, 8, .inl cm2)), (cm3, .inl (ca 0, 3001, .inl cm4)), (cm5, .inl (ca 0, 3001, .inl cm6)), (cm7, .inr (13, rg 81 cm8)), (cm9, .inl (ca 5, 2, .inr (.inr (.inr (.inr cm10))))), (cm11, .inl (ca 2, 20, .inl cm12)), (cm13, .inl (ca 2, 3000, .inl cm14)), (cm15, .inr (13, rg 81 cm16)), (cm17, .inr (13, rg 81 cm18))]) (w1 := [(xx, .inr (12, rg 10 cx0)), (cx3, .inl (ca 4, 2, .inr (.inr (.inr (.inr cx4)))))]) hP hD [0, 2] [1, 3, 4, 5, 6, 7, 8, 9, 10, 11, 12, 13, 14, 15, 16, 17, 18, 19, 20, 21] rfl rfl (by decide) (by decide) hk3 hFc3 ht3 hB3
  have hP3 : va_P D cls [(cx1, .inr (3, rg 22 cx2)), (cx5, .inr (0, rg 3 cx6)), (cx7, .inl (ca 0, 20, .inl cx8)), (cx9, .inr (0, rg 3 cx10)), (cx11, .inr (10, rg 9 cx12)), (cx13, .inl (ca 0, 20480, .inl cx14)), (cx15, .inl (ca 0, 3000, .inl cx16)), (cx17, .inl (ca 1, 3001, .inr (.inl cx18))), (cx19, .inl (ca 0, 3001, .inl cx20)), (cx21, .inl (ca 0, 3001, .inl cx22)), (mm, .inr (14, rg 107 cm0)), (cm1, .inl (ca 0, 8, .inl cm2)), (cm3, .inl (ca 0, 3001, .inl cm4)), (cm5, .inl (ca 0, 3001, .inl cm6)), (cm7, .inr (13, rg 81 cm8)), (cm9, .inl (ca 5, 2, .inr (.inr (.inr (.inr cm10))))), (cm11, .inl (ca 2, 20, .inl cm12)), (cm13, .inl (ca 2, 3000, .inl cm14)), (cm15, .inr (13, rg 81 cm16)), (cm17, .inr (13, rg 81 cm18)), (xx, .inr (12, rg 10 cx0)), (cx3, .inl (ca 4, 2, .inr (.inr (.inr (.inr cx4)))))] H3 := hP3
  have hD3 : va_D A [(cx1, .inr (3, rg 22 cx2)), (cx5, .inr (0, rg 3 cx6)), (cx7, .inl (ca 0, 20, .inl cx8)), (cx9, .inr (0, rg 3 cx10)), (cx11, .inr (10, rg 9 cx12)), (cx13, .inl (ca 0, 20480, .inl cx14)), (cx15, .inl (ca 0, 3000, .inl cx16)), (cx17, .inl (ca 1, 3001, .inr (.inl cx18))), (cx19, .inl (ca 0, 3001, .inl cx20)), (cx21, .inl (ca 0, 3001, .inl cx22)), (mm, .inr (14, rg 107 cm0)), (cm1, .inl (ca 0, 8, .inl cm2)), (cm3, .inl (ca 0, 3001, .inl cm4)), (cm5, .inl (ca 0, 3001, .inl cm6)), (cm7, .inr (13, rg 81 cm8)), (cm9, .inl (ca 5, 2, .inr (.inr (.inr (.inr cm10))))), (cm11, .inl (ca 2, 20, .inl cm12)), (cm13, .inl (ca 2, 3000, .inl cm14)), (cm15, .inr (13, rg 81 cm16)), (cm17, .inr (13, rg 81 cm18)), (xx, .inr (12, rg 10 cx0)), (cx3, .inl (ca 4, 2, .inr (.inr (.inr (.inr cx4)))))] := hD3
  refine W.widen (k := 282) (n := 716534) (Nat.le_of_ble_eq_true rfl) (Nat.le_of_ble_eq_true rfl) ?_
  subst hr3
  refine lv_aload_n hx hb d_code_353 rfl (lv_at hl 1 rfl) ?_
  refine lv_aload_n hx hb d_code_354 rfl (lv_at hl 3 rfl) ?_
  refine lv_iload_n hx hb d_code_355 rfl (lv_at hl 0 rfl) ?_
  refine lv_iconst (v := 1) hx hb d_code_356 (by decide) ?_
  refine lv_iadd hx hb d_code_357 ?_
  refine lv_topi (fun y4 ey4 => ?_)
  obtain rfl : y4 = 1 := ey4.trans (by decide)
  refine va_sld hx hb hXs hbl hbA hS3 (vinC (by decide)) d_code_358 ?_
  refine W.eq (g2 := F0 m 359 ls [.int (xs 1), .ref mm, .long 0]) rfl ?_
  refine lv_aload_n hx hb d_code_359 rfl (lv_at hl 3 rfl) ?_
  refine lv_iload_n hx hb d_code_360 rfl (lv_at hl 0 rfl) ?_
  refine lv_iconst (v := 2) hx hb d_code_361 (by decide) ?_
  refine lv_iadd hx hb d_code_362 ?_
  refine lv_topi (fun y5 ey5 => ?_)
  obtain rfl : y5 = 2 := ey5.trans (by decide)
  refine va_sld hx hb hXs hbl hbA hS3 (vinC (by decide)) d_code_363 ?_
  refine W.eq (g2 := F0 m 364 ls [.int (xs 2), .int (xs 1), .ref mm, .long 0]) rfl ?_
  have hFc6 := va_free (wc := [(mm, .inr (14, rg 107 cm0)), (cm9, .inl (ca 5, 2, .inr (.inr (.inr (.inr cm10))))), (cm15, .inr (13, rg 81 cm16)), (cm17, .inr (13, rg 81 cm18))]) hD3 hS3 hA [10, 15, 18, 19] rfl
  refine va_calll (va_runV (As := [.int (xs 1), .int (xs 2)]) (rest := [.long 0]) ⟨hx, hb, hml, hown, hts⟩ (c_M_name_0 l D ca ad av H3.size mm cm9 cm15 cm17 cm0 cm10 cm16 cm18 (xs 1) (xs 2) (hcm0.sub [4] rfl) (hcm5.sub [0, 1] rfl) (hcm8.sub [0] rfl) (hcm9.sub [0] rfl)) (cwV 2 hts (gdV k_15_154 k_15_155 k_15_156 k_1_9 k_15_157) rfl rfl rfl (by decide +kernel) ⟨Nat.le_of_ble_eq_true rfl, Nat.le_of_ble_eq_true rfl⟩) (gPV hP3 hD3 hK hS3 hA hX [10, 15, 18, 19] (by decide) rfl mm [.int (xs 1), .int (xs 2)] 10 (ci := 14) (r := (RX14, TX14, 107)) rfl rfl) rfl rfl hl.1 rfl (lv_room (Nat.le_of_ble_eq_true rfl)) d_code_364 ⟨Nat.le_of_ble_eq_true rfl, Nat.le_of_ble_eq_true rfl⟩) hS3 (fun q _ h => hFc6 q h) hFc6 (fun r6 u6 t6 H6 locs6 ht6 hvm6 hw6 hB6 hz6 hk6 hS6 => ?_)
  have hr6 := hw6
  obtain ⟨hP6, hD6⟩ := gJoin (wr := [(cx1, .inr (3, rg 22 cx2)), (cx5, .inr (0, rg 3 cx6)), (cx7, .inl (ca 0, 20, .inl cx8)), (cx9, .inr (0, rg 3 cx10)), (cx11, .inr (10, rg 9 cx12)), (cx13, .inl (ca 0, 20480, .inl cx14)), (cx15, .inl (ca 0, 3000, .inl cx16)), (cx17, .inl (ca 1, 3001, .inr (.inl cx18))), (cx19, .inl (ca 0, 3001, .inl cx20)), (cx21, .inl (ca 0, 3001, .inl cx22)), (cm1, .inl (ca 0, 8, .inl cm2)), (cm3, .inl (ca 0, 3001, .inl cm4)), (cm5, .inl (ca 0, 3001, .inl cm6)), (cm7, .inr (13, rg 81 cm8)), (cm11, .inl (ca 2, 20, .inl cm12)), (cm13, .inl (ca 2, 3000, .inl cm14)), (xx, .inr (12, rg 10 cx0)), (cx3, .inl (ca 4, 2, .inr (.inr (.inr (.inr cx4)))))]) (w1 := [(mm, .inr (14, rg 107 cm0)), (cm9, .inl (ca 5, 2, .inr (.inr (.inr (.inr cm10))))), (cm15, .inr (13, rg 81 cm16)), (cm17, .inr (13, rg 81 cm18))]) hP3 hD3 [10, 15, 18, 19] [0, 1, 2, 3, 4, 5, 6, 7, 8, 9, 11, 12, 13, 14, 16, 17, 20, 21] rfl rfl (by decide) (by decide) hk6 hFc6 ht6 hB6
  have hP6 : va_P D cls [(cx1, .inr (3, rg 22 cx2)), (cx5, .inr (0, rg 3 cx6)), (cx7, .inl (ca 0, 20, .inl cx8)), (cx9, .inr (0, rg 3 cx10)), (cx11, .inr (10, rg 9 cx12)), (cx13, .inl (ca 0, 20480, .inl cx14)), (cx15, .inl (ca 0, 3000, .inl cx16)), (cx17, .inl (ca 1, 3001, .inr (.inl cx18))), (cx19, .inl (ca 0, 3001, .inl cx20)), (cx21, .inl (ca 0, 3001, .inl cx22)), (cm1, .inl (ca 0, 8, .inl cm2)), (cm3, .inl (ca 0, 3001, .inl cm4)), (cm5, .inl (ca 0, 3001, .inl cm6)), (cm7, .inr (13, rg 81 cm8)), (cm11, .inl (ca 2, 20, .inl cm12)), (cm13, .inl (ca 2, 3000, .inl cm14)), (xx, .inr (12, rg 10 cx0)), (cx3, .inl (ca 4, 2, .inr (.inr (.inr (.inr cx4))))), (mm, .inr (14, rg 107 cm0)), (cm9, .inl (ca 5, 2, .inr (.inr (.inr (.inr cm10))))), (cm15, .inr (13, rg 81 cm16)), (cm17, .inr (13, rg 81 cm18))] H6 := hP6
  have hD6 : va_D A [(cx1, .inr (3, rg 22 cx2)), (cx5, .inr (0, rg 3 cx6)), (cx7, .inl (ca 0, 20, .inl cx8)), (cx9, .inr (0, rg 3 cx10)), (cx11, .inr (10, rg 9 cx12)), (cx13, .inl (ca 0, 20480, .inl cx14)), (cx15, .inl (ca 0, 3000, .inl cx16)), (cx17, .inl (ca 1, 3001, .inr (.inl cx18))), (cx19, .inl (ca 0, 3001, .inl cx20)), (cx21, .inl (ca 0, 3001, .inl cx22)), (cm1, .inl (ca 0, 8, .inl cm2)), (cm3, .inl (ca 0, 3001, .inl cm4)), (cm5, .inl (ca 0, 3001, .inl cm6)), (cm7, .inr (13, rg 81 cm8)), (cm11, .inl (ca 2, 20, .inl cm12)), (cm13, .inl (ca 2, 3000, .inl cm14)), (xx, .inr (12, rg 10 cx0)), (cx3, .inl (ca 4, 2, .inr (.inr (.inr (.inr cx4))))), (mm, .inr (14, rg 107 cm0)), (cm9, .inl (ca 5, 2, .inr (.inr (.inr (.inr cm10))))), (cm15, .inr (13, rg 81 cm16)), (cm17, .inr (13, rg 81 cm18))] := hD6
  refine W.widen (k := 282) (n := 716534) (Nat.le_of_ble_eq_true rfl) (Nat.le_of_ble_eq_true rfl) ?_
  subst hr6
  refine W.lcmp hx hb d_code_367 ?_
  refine lv_topi (fun y7 ey7 => ?_)
  obtain rfl : y7 = 0 := ey7.trans (by decide)
  refine lv_if_eq (tgt := 1198) hx hb d_code_368 (by decide) (fun _ => ?_) (fun c => absurd (by decide) c)
  exact law_tail C0 hA2 hS6 (Nat.le_of_ble_eq_true rfl) (Nat.le_of_ble_eq_true rfl) hl
set_option maxHeartbeats 8000000 in
set_option maxRecDepth 100000 in
theorem law_case_6 {p : Program} {l : Launch} {e : Env} {s : State} {m : MethodId} {below : List Frame} {meth : Method} {c : Code} {b : Nat} {xs : Nat → Int32} (C0 : lw_At p s m meth c b 9 xs) {D : va_G} {ca : Nat → ClassId} {ad av : Nat → Nat} {A : Nat → Prop} (hA : ∀ q, s.heap.size ≤ q → A q) (hA2 : ∀ q, A q → s.heap.size ≤ q) {xx : Nat} {cx1 : Nat} {cx3 : Nat} {cx5 : Nat} {cx7 : Nat} {cx9 : Nat} {cx11 : Nat} {cx13 : Nat} {cx15 : Nat} {cx17 : Nat} {cx19 : Nat} {cx21 : Nat} {mm : Nat} {cm1 : Nat} {cm3 : Nat} {cm5 : Nat} {cm7 : Nat} {cm9 : Nat} {cm11 : Nat} {cm13 : Nat} {cm15 : Nat} {cm17 : Nat} {cx0 : Nat → Value} {cx2 : Nat → Value} {cx4 : Nat → Option Nat} {cx6 : Nat → Value} {cx8 : Nat → Int32} {cx10 : Nat → Value} {cx12 : Nat → Value} {cx14 : Nat → Int32} {cx16 : Nat → Int32} {cx18 : Nat → Int64} {cx20 : Nat → Int32} {cx22 : Nat → Int32} {cm0 : Nat → Value} {cm2 : Nat → Int32} {cm4 : Nat → Int32} {cm6 : Nat → Int32} {cm8 : Nat → Value} {cm10 : Nat → Option Nat} {cm12 : Nat → Int32} {cm14 : Nat → Int32} {cm16 : Nat → Value} {cm18 : Nat → Value} (hcx0 : gF cx0 [(4, .ref cx1), (3, .ref cx3), (2, .ref cx5), (1, .ref cx7), (0, .ref cx9), (7, .null), (8, .null), (9, .null)]) (hcx1 : gF cx2 [(11, .ref cx11), (16, .int 0), (21, .int 0)]) (hcx2 : gF cx4 [(0, none), (1, none)]) (hcx3 : gF cx6 [(0, .ref cx13), (1, .int 0), (2, .int 0)]) (hcx4 : gF cx8 []) (hcx5 : gF cx10 [(0, .ref cx15), (1, .int 0), (2, .int 0)]) (hcx6 : gF cx12 [(7, .ref cx17), (6, .ref cx19), (5, .ref cx21), (0, .int 0), (1, .int 0), (2, .long 0), (8, .int 0)]) (hcx7 : gF cx14 []) (hcx8 : gF cx16 []) (hcx9 : gF cx18 []) (hcx10 : gF cx20 []) (hcx11 : gF cx22 []) (hcm0 : gF cm0 [(74, .ref cm1), (8, .ref cm3), (7, .ref cm5), (6, .ref cm7), (5, .ref cm9), (4, .ref cm11), (2, .ref cm13), (3, .int 0), (12, .int 0), (16, .int 0), (17, .int 0), (18, .int 0), (71, .int 0), (72, .int 0), (89, .int 0), (90, .long 0), (94, .int 0)]) (hcm1 : gF cm2 []) (hcm2 : gF cm4 []) (hcm3 : gF cm6 []) (hcm4 : gF cm8 [(0, .int 0), (1, .int 0)]) (hcm5 : gF cm10 [(1, some cm15), (0, some cm17)]) (hcm6 : gF cm12 []) (hcm7 : gF cm14 []) (hcm8 : gF cm16 [(0, .int 0), (1, .int 0)]) (hcm9 : gF cm18 [(0, .int 0), (1, .int 0)]) (hK : va_K D cls (tyL ca) s) (hX : gX ad av A s s.heap) {H : Heap} {locs : List Loc} (hP : va_P D cls [(xx, .inr (12, rg 10 cx0)), (cx1, .inr (3, rg 22 cx2)), (cx3, .inl (ca 4, 2, .inr (.inr (.inr (.inr cx4))))), (cx5, .inr (0, rg 3 cx6)), (cx7, .inl (ca 0, 20, .inl cx8)), (cx9, .inr (0, rg 3 cx10)), (cx11, .inr (10, rg 9 cx12)), (cx13, .inl (ca 0, 20480, .inl cx14)), (cx15, .inl (ca 0, 3000, .inl cx16)), (cx17, .inl (ca 1, 3001, .inr (.inl cx18))), (cx19, .inl (ca 0, 3001, .inl cx20)), (cx21, .inl (ca 0, 3001, .inl cx22)), (mm, .inr (14, rg 107 cm0)), (cm1, .inl (ca 0, 8, .inl cm2)), (cm3, .inl (ca 0, 3001, .inl cm4)), (cm5, .inl (ca 0, 3001, .inl cm6)), (cm7, .inr (13, rg 81 cm8)), (cm9, .inl (ca 5, 2, .inr (.inr (.inr (.inr cm10))))), (cm11, .inl (ca 2, 20, .inl cm12)), (cm13, .inl (ca 2, 3000, .inl cm14)), (cm15, .inr (13, rg 81 cm16)), (cm17, .inr (13, rg 81 cm18))] H) (hD : va_D A [(xx, .inr (12, rg 10 cx0)), (cx1, .inr (3, rg 22 cx2)), (cx3, .inl (ca 4, 2, .inr (.inr (.inr (.inr cx4))))), (cx5, .inr (0, rg 3 cx6)), (cx7, .inl (ca 0, 20, .inl cx8)), (cx9, .inr (0, rg 3 cx10)), (cx11, .inr (10, rg 9 cx12)), (cx13, .inl (ca 0, 20480, .inl cx14)), (cx15, .inl (ca 0, 3000, .inl cx16)), (cx17, .inl (ca 1, 3001, .inr (.inl cx18))), (cx19, .inl (ca 0, 3001, .inl cx20)), (cx21, .inl (ca 0, 3001, .inl cx22)), (mm, .inr (14, rg 107 cm0)), (cm1, .inl (ca 0, 8, .inl cm2)), (cm3, .inl (ca 0, 3001, .inl cm4)), (cm5, .inl (ca 0, 3001, .inl cm6)), (cm7, .inr (13, rg 81 cm8)), (cm9, .inl (ca 5, 2, .inr (.inr (.inr (.inr cm10))))), (cm11, .inl (ca 2, 20, .inl cm12)), (cm13, .inl (ca 2, 3000, .inl cm14)), (cm15, .inr (13, rg 81 cm16)), (cm17, .inr (13, rg 81 cm18))]) (hS : va_S A s.heap H locs) {ls : Array Slot} (hl : lv_has ls 4 [(3, .int 0), (2, .ref mm), (1, .ref xx), (0, .ref b)]) : W p l e room_1 s m #[Value.ref b] below meth c H locs 282 716534 (lw_Z below #[Value.ref b] s) (F0 m 373 ls []) := by
  obtain ⟨hx, hb, hr, hml, hown, hts0, hXs, hbl, hlocks, hgv⟩ := id C0
  have hts := wA_hts hts0
  have hbA : ¬ A b := fun z => Nat.not_le.mpr hbl (hA2 b z)
  have hown : s.vm.findClass "StaveHouseLaw" = some m.cls := hown
  refine lv_aload_n hx hb d_code_373 rfl (lv_at hl 2 rfl) ?_
  refine lv_aload_n hx hb d_code_374 rfl (lv_at hl 3 rfl) ?_
  refine lv_iload_n hx hb d_code_375 rfl (lv_at hl 0 rfl) ?_
  refine lv_iconst (v := 1) hx hb d_code_376 (by decide) ?_
  refine lv_iadd hx hb d_code_377 ?_
  refine lv_topi (fun y1 ey1 => ?_)
  obtain rfl : y1 = 1 := ey1.trans (by decide)
  refine va_sld hx hb hXs hbl hbA hS (vinC (by decide)) d_code_378 ?_
  refine W.eq (g2 := F0 m 379 ls [.int (xs 1), .ref xx]) rfl ?_
  refine lv_aload_n hx hb d_code_379 rfl (lv_at hl 3 rfl) ?_
  refine lv_iload_n hx hb d_code_380 rfl (lv_at hl 0 rfl) ?_
  refine lv_iconst (v := 2) hx hb d_code_381 (by decide) ?_
  refine lv_iadd hx hb d_code_382 ?_
  refine lv_topi (fun y2 ey2 => ?_)
  obtain rfl : y2 = 2 := ey2.trans (by decide)
  refine va_sld hx hb hXs hbl hbA hS (vinC (by decide)) d_code_383 ?_
  refine W.eq (g2 := F0 m 384 ls [.int (xs 2), .int (xs 1), .ref xx]) rfl ?_
  refine lv_aload_n hx hb d_code_384 rfl (lv_at hl 3 rfl) ?_
  refine lv_iload_n hx hb d_code_385 rfl (lv_at hl 0 rfl) ?_
  refine lv_iconst (v := 3) hx hb d_code_386 (by decide) ?_
  refine lv_iadd hx hb d_code_387 ?_
  refine lv_topi (fun y3 ey3 => ?_)
  obtain rfl : y3 = 3 := ey3.trans (by decide)
  refine va_sld hx hb hXs hbl hbA hS (vinC (by decide)) d_code_388 ?_
  refine W.eq (g2 := F0 m 389 ls [.int (xs 3), .int (xs 2), .int (xs 1), .ref xx]) rfl ?_
  refine lv_aload_n hx hb d_code_389 rfl (lv_at hl 3 rfl) ?_
  refine lv_iload_n hx hb d_code_390 rfl (lv_at hl 0 rfl) ?_
  refine lv_iconst (v := 4) hx hb d_code_391 (by decide) ?_
  refine lv_iadd hx hb d_code_392 ?_
  refine lv_topi (fun y4 ey4 => ?_)
  obtain rfl : y4 = 4 := ey4.trans (by decide)
  refine va_sld hx hb hXs hbl hbA hS (vinC (by decide)) d_code_393 ?_
  refine W.eq (g2 := F0 m 394 ls [.int (xs 4), .int (xs 3), .int (xs 2), .int (xs 1), .ref xx]) rfl ?_
  have hFc5 := va_free (wc := [(xx, .inr (12, rg 10 cx0)), (cx3, .inl (ca 4, 2, .inr (.inr (.inr (.inr cx4)))))]) hD hS hA [0, 2] rfl
  refine va_calll (va_runV (As := [.int (xs 1), .int (xs 2), .int (xs 3), .int (xs 4)]) (rest := []) ⟨hx, hb, hml, hown, hts⟩ (c_S_event_0 l D ca ad av H.size xx cx3 cx0 cx4 (xs 1) (xs 2) (xs 3) (xs 4) (hcx0.sub [1] rfl) (hcx2.sub [0, 1] rfl)) (cwV 4 hts (gdV k_6_176 k_6_177 k_6_178 k_1_1 k_6_179) rfl rfl rfl (by decide +kernel) ⟨Nat.le_of_ble_eq_true rfl, Nat.le_of_ble_eq_true rfl⟩) (gPV hP hD hK hS hA hX [0, 2] (by decide) rfl xx [.int (xs 1), .int (xs 2), .int (xs 3), .int (xs 4)] 0 (ci := 12) (r := (RX12, TX12, 10)) rfl rfl) rfl rfl hl.1 rfl (lv_room (Nat.le_of_ble_eq_true rfl)) d_code_394 ⟨Nat.le_of_ble_eq_true rfl, Nat.le_of_ble_eq_true rfl⟩) hS (fun q _ h => hFc5 q h) hFc5 (fun r5 u5 t5 H5 locs5 ht5 hvm5 hw5 hB5 hz5 hk5 hS5 => ?_)
  have hr5 := hw5
  obtain ⟨hP5, hD5⟩ := gJoin (wr := [(cx1, .inr (3, rg 22 cx2)), (cx5, .inr (0, rg 3 cx6)), (cx7, .inl (ca 0, 20, .inl cx8)), (cx9, .inr (0, rg 3 cx10)), (cx11, .inr (10, rg 9 cx12)), (cx13, .inl (ca 0, 20480, .inl cx14)), (cx15, .inl (ca 0, 3000, .inl cx16)), (cx17, .inl (ca 1, 3001, .inr (.inl cx18))), (cx19, .inl (ca 0, 3001, .inl cx20)), (cx21, .inl (ca 0, 3001, .inl cx22)), (mm, .inr (14, rg 107 cm0)), (cm1, .inl (ca 0, 8, .inl cm2)), (cm3, .inl (ca 0, 3001, .inl cm4)), (cm5, .inl (ca 0, 3001, .inl cm6)), (cm7, .inr (13, rg 81 cm8)), (cm9, .inl (ca 5, 2, .inr (.inr (.inr (.inr cm10))))), (cm11, .inl (ca 2, 20, .inl cm12)), (cm13, .inl (ca 2, 3000, .inl cm14)), (cm15, .inr (13, rg 81 cm16)), (cm17, .inr (13, rg 81 cm18))]) (w1 := [(xx, .inr (12, rg 10 cx0)), (cx3, .inl (ca 4, 2, .inr (.inr (.inr (.inr cx4)))))]) hP hD [0, 2] [1, 3, 4, 5, 6, 7, 8, 9, 10, 11, 12, 13, 14, 15, 16, 17, 18, 19, 20, 21] rfl rfl (by decide) (by decide) hk5 hFc5 ht5 hB5
  have hP5 : va_P D cls [(cx1, .inr (3, rg 22 cx2)), (cx5, .inr (0, rg 3 cx6)), (cx7, .inl (ca 0, 20, .inl cx8)), (cx9, .inr (0, rg 3 cx10)), (cx11, .inr (10, rg 9 cx12)), (cx13, .inl (ca 0, 20480, .inl cx14)), (cx15, .inl (ca 0, 3000, .inl cx16)), (cx17, .inl (ca 1, 3001, .inr (.inl cx18))), (cx19, .inl (ca 0, 3001, .inl cx20)), (cx21, .inl (ca 0, 3001, .inl cx22)), (mm, .inr (14, rg 107 cm0)), (cm1, .inl (ca 0, 8, .inl cm2)), (cm3, .inl (ca 0, 3001, .inl cm4)), (cm5, .inl (ca 0, 3001, .inl cm6)), (cm7, .inr (13, rg 81 cm8)), (cm9, .inl (ca 5, 2, .inr (.inr (.inr (.inr cm10))))), (cm11, .inl (ca 2, 20, .inl cm12)), (cm13, .inl (ca 2, 3000, .inl cm14)), (cm15, .inr (13, rg 81 cm16)), (cm17, .inr (13, rg 81 cm18)), (xx, .inr (12, rg 10 cx0)), (cx3, .inl (ca 4, 2, .inr (.inr (.inr (.inr cx4)))))] H5 := hP5
  have hD5 : va_D A [(cx1, .inr (3, rg 22 cx2)), (cx5, .inr (0, rg 3 cx6)), (cx7, .inl (ca 0, 20, .inl cx8)), (cx9, .inr (0, rg 3 cx10)), (cx11, .inr (10, rg 9 cx12)), (cx13, .inl (ca 0, 20480, .inl cx14)), (cx15, .inl (ca 0, 3000, .inl cx16)), (cx17, .inl (ca 1, 3001, .inr (.inl cx18))), (cx19, .inl (ca 0, 3001, .inl cx20)), (cx21, .inl (ca 0, 3001, .inl cx22)), (mm, .inr (14, rg 107 cm0)), (cm1, .inl (ca 0, 8, .inl cm2)), (cm3, .inl (ca 0, 3001, .inl cm4)), (cm5, .inl (ca 0, 3001, .inl cm6)), (cm7, .inr (13, rg 81 cm8)), (cm9, .inl (ca 5, 2, .inr (.inr (.inr (.inr cm10))))), (cm11, .inl (ca 2, 20, .inl cm12)), (cm13, .inl (ca 2, 3000, .inl cm14)), (cm15, .inr (13, rg 81 cm16)), (cm17, .inr (13, rg 81 cm18)), (xx, .inr (12, rg 10 cx0)), (cx3, .inl (ca 4, 2, .inr (.inr (.inr (.inr cx4)))))] := hD5
  refine W.widen (k := 282) (n := 716534) (Nat.le_of_ble_eq_true rfl) (Nat.le_of_ble_eq_true rfl) ?_
  subst hr5
  refine lv_aload_n hx hb d_code_397 rfl (lv_at hl 1 rfl) ?_
  refine lv_aload_n hx hb d_code_398 rfl (lv_at hl 3 rfl) ?_
  refine lv_iload_n hx hb d_code_399 rfl (lv_at hl 0 rfl) ?_
  refine lv_iconst (v := 1) hx hb d_code_400 (by decide) ?_
  refine lv_iadd hx hb d_code_401 ?_
  refine lv_topi (fun y6 ey6 => ?_)
  obtain rfl : y6 = 1 := ey6.trans (by decide)
  refine va_sld hx hb hXs hbl hbA hS5 (vinC (by decide)) d_code_402 ?_
  refine W.eq (g2 := F0 m 403 ls [.int (xs 1), .ref mm, .long (-1)]) rfl ?_
  refine lv_aload_n hx hb d_code_403 rfl (lv_at hl 3 rfl) ?_
  refine lv_iload_n hx hb d_code_404 rfl (lv_at hl 0 rfl) ?_
  refine lv_iconst (v := 2) hx hb d_code_405 (by decide) ?_
  refine lv_iadd hx hb d_code_406 ?_
  refine lv_topi (fun y7 ey7 => ?_)
  obtain rfl : y7 = 2 := ey7.trans (by decide)
  refine va_sld hx hb hXs hbl hbA hS5 (vinC (by decide)) d_code_407 ?_
  refine W.eq (g2 := F0 m 408 ls [.int (xs 2), .int (xs 1), .ref mm, .long (-1)]) rfl ?_
  refine lv_aload_n hx hb d_code_408 rfl (lv_at hl 3 rfl) ?_
  refine lv_iload_n hx hb d_code_409 rfl (lv_at hl 0 rfl) ?_
  refine lv_iconst (v := 3) hx hb d_code_410 (by decide) ?_
  refine lv_iadd hx hb d_code_411 ?_
  refine lv_topi (fun y8 ey8 => ?_)
  obtain rfl : y8 = 3 := ey8.trans (by decide)
  refine va_sld hx hb hXs hbl hbA hS5 (vinC (by decide)) d_code_412 ?_
  refine W.eq (g2 := F0 m 413 ls [.int (xs 3), .int (xs 2), .int (xs 1), .ref mm, .long (-1)]) rfl ?_
  refine lv_aload_n hx hb d_code_413 rfl (lv_at hl 3 rfl) ?_
  refine lv_iload_n hx hb d_code_414 rfl (lv_at hl 0 rfl) ?_
  refine lv_iconst (v := 4) hx hb d_code_415 (by decide) ?_
  refine lv_iadd hx hb d_code_416 ?_
  refine lv_topi (fun y9 ey9 => ?_)
  obtain rfl : y9 = 4 := ey9.trans (by decide)
  refine va_sld hx hb hXs hbl hbA hS5 (vinC (by decide)) d_code_417 ?_
  refine W.eq (g2 := F0 m 418 ls [.int (xs 4), .int (xs 3), .int (xs 2), .int (xs 1), .ref mm, .long (-1)]) rfl ?_
  have hFc10 := va_free (wc := [(mm, .inr (14, rg 107 cm0)), (cm9, .inl (ca 5, 2, .inr (.inr (.inr (.inr cm10))))), (cm15, .inr (13, rg 81 cm16)), (cm17, .inr (13, rg 81 cm18))]) hD5 hS5 hA [10, 15, 18, 19] rfl
  refine va_calll (va_runV (As := [.int (xs 1), .int (xs 2), .int (xs 3), .int (xs 4)]) (rest := [.long (-1)]) ⟨hx, hb, hml, hown, hts⟩ (c_M_event_0 l D ca ad av H5.size mm cm9 cm15 cm17 cm0 cm10 cm16 cm18 (xs 1) (xs 2) (xs 3) (xs 4) (hcm0.sub [4] rfl) (hcm5.sub [0, 1] rfl) (hcm8.sub [0] rfl) (hcm9.sub [0] rfl)) (cwV 4 hts (gdV k_15_158 k_15_159 k_15_160 k_1_9 k_15_161) rfl rfl rfl (by decide +kernel) ⟨Nat.le_of_ble_eq_true rfl, Nat.le_of_ble_eq_true rfl⟩) (gPV hP5 hD5 hK hS5 hA hX [10, 15, 18, 19] (by decide) rfl mm [.int (xs 1), .int (xs 2), .int (xs 3), .int (xs 4)] 10 (ci := 14) (r := (RX14, TX14, 107)) rfl rfl) rfl rfl hl.1 rfl (lv_room (Nat.le_of_ble_eq_true rfl)) d_code_418 ⟨Nat.le_of_ble_eq_true rfl, Nat.le_of_ble_eq_true rfl⟩) hS5 (fun q _ h => hFc10 q h) hFc10 (fun r10 u10 t10 H10 locs10 ht10 hvm10 hw10 hB10 hz10 hk10 hS10 => ?_)
  have hr10 := hw10
  obtain ⟨hP10, hD10⟩ := gJoin (wr := [(cx1, .inr (3, rg 22 cx2)), (cx5, .inr (0, rg 3 cx6)), (cx7, .inl (ca 0, 20, .inl cx8)), (cx9, .inr (0, rg 3 cx10)), (cx11, .inr (10, rg 9 cx12)), (cx13, .inl (ca 0, 20480, .inl cx14)), (cx15, .inl (ca 0, 3000, .inl cx16)), (cx17, .inl (ca 1, 3001, .inr (.inl cx18))), (cx19, .inl (ca 0, 3001, .inl cx20)), (cx21, .inl (ca 0, 3001, .inl cx22)), (cm1, .inl (ca 0, 8, .inl cm2)), (cm3, .inl (ca 0, 3001, .inl cm4)), (cm5, .inl (ca 0, 3001, .inl cm6)), (cm7, .inr (13, rg 81 cm8)), (cm11, .inl (ca 2, 20, .inl cm12)), (cm13, .inl (ca 2, 3000, .inl cm14)), (xx, .inr (12, rg 10 cx0)), (cx3, .inl (ca 4, 2, .inr (.inr (.inr (.inr cx4)))))]) (w1 := [(mm, .inr (14, rg 107 cm0)), (cm9, .inl (ca 5, 2, .inr (.inr (.inr (.inr cm10))))), (cm15, .inr (13, rg 81 cm16)), (cm17, .inr (13, rg 81 cm18))]) hP5 hD5 [10, 15, 18, 19] [0, 1, 2, 3, 4, 5, 6, 7, 8, 9, 11, 12, 13, 14, 16, 17, 20, 21] rfl rfl (by decide) (by decide) hk10 hFc10 ht10 hB10
  have hP10 : va_P D cls [(cx1, .inr (3, rg 22 cx2)), (cx5, .inr (0, rg 3 cx6)), (cx7, .inl (ca 0, 20, .inl cx8)), (cx9, .inr (0, rg 3 cx10)), (cx11, .inr (10, rg 9 cx12)), (cx13, .inl (ca 0, 20480, .inl cx14)), (cx15, .inl (ca 0, 3000, .inl cx16)), (cx17, .inl (ca 1, 3001, .inr (.inl cx18))), (cx19, .inl (ca 0, 3001, .inl cx20)), (cx21, .inl (ca 0, 3001, .inl cx22)), (cm1, .inl (ca 0, 8, .inl cm2)), (cm3, .inl (ca 0, 3001, .inl cm4)), (cm5, .inl (ca 0, 3001, .inl cm6)), (cm7, .inr (13, rg 81 cm8)), (cm11, .inl (ca 2, 20, .inl cm12)), (cm13, .inl (ca 2, 3000, .inl cm14)), (xx, .inr (12, rg 10 cx0)), (cx3, .inl (ca 4, 2, .inr (.inr (.inr (.inr cx4))))), (mm, .inr (14, rg 107 cm0)), (cm9, .inl (ca 5, 2, .inr (.inr (.inr (.inr cm10))))), (cm15, .inr (13, rg 81 cm16)), (cm17, .inr (13, rg 81 cm18))] H10 := hP10
  have hD10 : va_D A [(cx1, .inr (3, rg 22 cx2)), (cx5, .inr (0, rg 3 cx6)), (cx7, .inl (ca 0, 20, .inl cx8)), (cx9, .inr (0, rg 3 cx10)), (cx11, .inr (10, rg 9 cx12)), (cx13, .inl (ca 0, 20480, .inl cx14)), (cx15, .inl (ca 0, 3000, .inl cx16)), (cx17, .inl (ca 1, 3001, .inr (.inl cx18))), (cx19, .inl (ca 0, 3001, .inl cx20)), (cx21, .inl (ca 0, 3001, .inl cx22)), (cm1, .inl (ca 0, 8, .inl cm2)), (cm3, .inl (ca 0, 3001, .inl cm4)), (cm5, .inl (ca 0, 3001, .inl cm6)), (cm7, .inr (13, rg 81 cm8)), (cm11, .inl (ca 2, 20, .inl cm12)), (cm13, .inl (ca 2, 3000, .inl cm14)), (xx, .inr (12, rg 10 cx0)), (cx3, .inl (ca 4, 2, .inr (.inr (.inr (.inr cx4))))), (mm, .inr (14, rg 107 cm0)), (cm9, .inl (ca 5, 2, .inr (.inr (.inr (.inr cm10))))), (cm15, .inr (13, rg 81 cm16)), (cm17, .inr (13, rg 81 cm18))] := hD10
  refine W.widen (k := 282) (n := 716534) (Nat.le_of_ble_eq_true rfl) (Nat.le_of_ble_eq_true rfl) ?_
  subst hr10
  refine W.lcmp hx hb d_code_421 ?_
  refine lv_topi (fun y11 ey11 => ?_)
  obtain rfl : y11 = 0 := ey11.trans (by decide)
  refine lv_if_eq (tgt := 1198) hx hb d_code_422 (by decide) (fun _ => ?_) (fun c => absurd (by decide) c)
  exact law_tail C0 hA2 hS10 (Nat.le_of_ble_eq_true rfl) (Nat.le_of_ble_eq_true rfl) hl
set_option maxHeartbeats 8000000 in
set_option maxRecDepth 100000 in
theorem law_case_7 {p : Program} {l : Launch} {e : Env} {s : State} {m : MethodId} {below : List Frame} {meth : Method} {c : Code} {b : Nat} {xs : Nat → Int32} (C0 : lw_At p s m meth c b 9 xs) {D : va_G} {ca : Nat → ClassId} {ad av : Nat → Nat} {A : Nat → Prop} (hA : ∀ q, s.heap.size ≤ q → A q) (hA2 : ∀ q, A q → s.heap.size ≤ q) {xx : Nat} {cx1 : Nat} {cx3 : Nat} {cx5 : Nat} {cx7 : Nat} {cx9 : Nat} {cx11 : Nat} {cx13 : Nat} {cx15 : Nat} {cx17 : Nat} {cx19 : Nat} {cx21 : Nat} {mm : Nat} {cm1 : Nat} {cm3 : Nat} {cm5 : Nat} {cm7 : Nat} {cm9 : Nat} {cm11 : Nat} {cm13 : Nat} {cm15 : Nat} {cm17 : Nat} {cx0 : Nat → Value} {cx2 : Nat → Value} {cx4 : Nat → Option Nat} {cx6 : Nat → Value} {cx8 : Nat → Int32} {cx10 : Nat → Value} {cx12 : Nat → Value} {cx14 : Nat → Int32} {cx16 : Nat → Int32} {cx18 : Nat → Int64} {cx20 : Nat → Int32} {cx22 : Nat → Int32} {cm0 : Nat → Value} {cm2 : Nat → Int32} {cm4 : Nat → Int32} {cm6 : Nat → Int32} {cm8 : Nat → Value} {cm10 : Nat → Option Nat} {cm12 : Nat → Int32} {cm14 : Nat → Int32} {cm16 : Nat → Value} {cm18 : Nat → Value} (hcx0 : gF cx0 [(4, .ref cx1), (3, .ref cx3), (2, .ref cx5), (1, .ref cx7), (0, .ref cx9), (7, .null), (8, .null), (9, .null)]) (hcx1 : gF cx2 [(11, .ref cx11), (16, .int 0), (21, .int 0)]) (hcx2 : gF cx4 [(0, none), (1, none)]) (hcx3 : gF cx6 [(0, .ref cx13), (1, .int 0), (2, .int 0)]) (hcx4 : gF cx8 []) (hcx5 : gF cx10 [(0, .ref cx15), (1, .int 0), (2, .int 0)]) (hcx6 : gF cx12 [(7, .ref cx17), (6, .ref cx19), (5, .ref cx21), (0, .int 0), (1, .int 0), (2, .long 0), (8, .int 0)]) (hcx7 : gF cx14 []) (hcx8 : gF cx16 []) (hcx9 : gF cx18 []) (hcx10 : gF cx20 []) (hcx11 : gF cx22 []) (hcm0 : gF cm0 [(74, .ref cm1), (8, .ref cm3), (7, .ref cm5), (6, .ref cm7), (5, .ref cm9), (4, .ref cm11), (2, .ref cm13), (3, .int 0), (12, .int 0), (16, .int 0), (17, .int 0), (18, .int 0), (71, .int 0), (72, .int 0), (89, .int 0), (90, .long 0), (94, .int 0)]) (hcm1 : gF cm2 []) (hcm2 : gF cm4 []) (hcm3 : gF cm6 []) (hcm4 : gF cm8 [(0, .int 0), (1, .int 0)]) (hcm5 : gF cm10 [(1, some cm15), (0, some cm17)]) (hcm6 : gF cm12 []) (hcm7 : gF cm14 []) (hcm8 : gF cm16 [(0, .int 0), (1, .int 0)]) (hcm9 : gF cm18 [(0, .int 0), (1, .int 0)]) (hK : va_K D cls (tyL ca) s) (hX : gX ad av A s s.heap) {H : Heap} {locs : List Loc} (hP : va_P D cls [(xx, .inr (12, rg 10 cx0)), (cx1, .inr (3, rg 22 cx2)), (cx3, .inl (ca 4, 2, .inr (.inr (.inr (.inr cx4))))), (cx5, .inr (0, rg 3 cx6)), (cx7, .inl (ca 0, 20, .inl cx8)), (cx9, .inr (0, rg 3 cx10)), (cx11, .inr (10, rg 9 cx12)), (cx13, .inl (ca 0, 20480, .inl cx14)), (cx15, .inl (ca 0, 3000, .inl cx16)), (cx17, .inl (ca 1, 3001, .inr (.inl cx18))), (cx19, .inl (ca 0, 3001, .inl cx20)), (cx21, .inl (ca 0, 3001, .inl cx22)), (mm, .inr (14, rg 107 cm0)), (cm1, .inl (ca 0, 8, .inl cm2)), (cm3, .inl (ca 0, 3001, .inl cm4)), (cm5, .inl (ca 0, 3001, .inl cm6)), (cm7, .inr (13, rg 81 cm8)), (cm9, .inl (ca 5, 2, .inr (.inr (.inr (.inr cm10))))), (cm11, .inl (ca 2, 20, .inl cm12)), (cm13, .inl (ca 2, 3000, .inl cm14)), (cm15, .inr (13, rg 81 cm16)), (cm17, .inr (13, rg 81 cm18))] H) (hD : va_D A [(xx, .inr (12, rg 10 cx0)), (cx1, .inr (3, rg 22 cx2)), (cx3, .inl (ca 4, 2, .inr (.inr (.inr (.inr cx4))))), (cx5, .inr (0, rg 3 cx6)), (cx7, .inl (ca 0, 20, .inl cx8)), (cx9, .inr (0, rg 3 cx10)), (cx11, .inr (10, rg 9 cx12)), (cx13, .inl (ca 0, 20480, .inl cx14)), (cx15, .inl (ca 0, 3000, .inl cx16)), (cx17, .inl (ca 1, 3001, .inr (.inl cx18))), (cx19, .inl (ca 0, 3001, .inl cx20)), (cx21, .inl (ca 0, 3001, .inl cx22)), (mm, .inr (14, rg 107 cm0)), (cm1, .inl (ca 0, 8, .inl cm2)), (cm3, .inl (ca 0, 3001, .inl cm4)), (cm5, .inl (ca 0, 3001, .inl cm6)), (cm7, .inr (13, rg 81 cm8)), (cm9, .inl (ca 5, 2, .inr (.inr (.inr (.inr cm10))))), (cm11, .inl (ca 2, 20, .inl cm12)), (cm13, .inl (ca 2, 3000, .inl cm14)), (cm15, .inr (13, rg 81 cm16)), (cm17, .inr (13, rg 81 cm18))]) (hS : va_S A s.heap H locs) {ls : Array Slot} (hl : lv_has ls 4 [(3, .int 0), (2, .ref mm), (1, .ref xx), (0, .ref b)]) : W p l e room_1 s m #[Value.ref b] below meth c H locs 282 716534 (lw_Z below #[Value.ref b] s) (F0 m 427 ls []) := by
  obtain ⟨hx, hb, hr, hml, hown, hts0, hXs, hbl, hlocks, hgv⟩ := id C0
  have hts := wA_hts hts0
  have hbA : ¬ A b := fun z => Nat.not_le.mpr hbl (hA2 b z)
  have hown : s.vm.findClass "StaveHouseLaw" = some m.cls := hown
  refine lv_aload_n hx hb d_code_427 rfl (lv_at hl 2 rfl) ?_
  refine lv_aload_n hx hb d_code_428 rfl (lv_at hl 3 rfl) ?_
  refine lv_iload_n hx hb d_code_429 rfl (lv_at hl 0 rfl) ?_
  refine lv_iconst (v := 1) hx hb d_code_430 (by decide) ?_
  refine lv_iadd hx hb d_code_431 ?_
  refine lv_topi (fun y1 ey1 => ?_)
  obtain rfl : y1 = 1 := ey1.trans (by decide)
  refine va_sld hx hb hXs hbl hbA hS (vinC (by decide)) d_code_432 ?_
  refine W.eq (g2 := F0 m 433 ls [.int (xs 1), .ref xx]) rfl ?_
  refine lv_aload_n hx hb d_code_433 rfl (lv_at hl 3 rfl) ?_
  refine lv_iload_n hx hb d_code_434 rfl (lv_at hl 0 rfl) ?_
  refine lv_iconst (v := 2) hx hb d_code_435 (by decide) ?_
  refine lv_iadd hx hb d_code_436 ?_
  refine lv_topi (fun y2 ey2 => ?_)
  obtain rfl : y2 = 2 := ey2.trans (by decide)
  refine va_sld hx hb hXs hbl hbA hS (vinC (by decide)) d_code_437 ?_
  refine W.eq (g2 := F0 m 438 ls [.int (xs 2), .int (xs 1), .ref xx]) rfl ?_
  refine lv_aload_n hx hb d_code_438 rfl (lv_at hl 3 rfl) ?_
  refine lv_iload_n hx hb d_code_439 rfl (lv_at hl 0 rfl) ?_
  refine lv_iconst (v := 3) hx hb d_code_440 (by decide) ?_
  refine lv_iadd hx hb d_code_441 ?_
  refine lv_topi (fun y3 ey3 => ?_)
  obtain rfl : y3 = 3 := ey3.trans (by decide)
  refine va_sld hx hb hXs hbl hbA hS (vinC (by decide)) d_code_442 ?_
  refine W.eq (g2 := F0 m 443 ls [.int (xs 3), .int (xs 2), .int (xs 1), .ref xx]) rfl ?_
  refine lv_aload_n hx hb d_code_443 rfl (lv_at hl 3 rfl) ?_
  refine lv_iload_n hx hb d_code_444 rfl (lv_at hl 0 rfl) ?_
  refine lv_iconst (v := 4) hx hb d_code_445 (by decide) ?_
  refine lv_iadd hx hb d_code_446 ?_
  refine lv_topi (fun y4 ey4 => ?_)
  obtain rfl : y4 = 4 := ey4.trans (by decide)
  refine va_sld hx hb hXs hbl hbA hS (vinC (by decide)) d_code_447 ?_
  refine W.eq (g2 := F0 m 448 ls [.int (xs 4), .int (xs 3), .int (xs 2), .int (xs 1), .ref xx]) rfl ?_
  refine lv_aload_n hx hb d_code_448 rfl (lv_at hl 3 rfl) ?_
  refine lv_iload_n hx hb d_code_449 rfl (lv_at hl 0 rfl) ?_
  refine lv_iconst (v := 5) hx hb d_code_450 (by decide) ?_
  refine lv_iadd hx hb d_code_451 ?_
  refine lv_topi (fun y5 ey5 => ?_)
  obtain rfl : y5 = 5 := ey5.trans (by decide)
  refine va_sld hx hb hXs hbl hbA hS (vinC (by decide)) d_code_452 ?_
  refine W.eq (g2 := F0 m 453 ls [.int (xs 5), .int (xs 4), .int (xs 3), .int (xs 2), .int (xs 1), .ref xx]) rfl ?_
  have hFc6 := va_free (wc := [(xx, .inr (12, rg 10 cx0)), (cx3, .inl (ca 4, 2, .inr (.inr (.inr (.inr cx4)))))]) hD hS hA [0, 2] rfl
  refine va_calli (va_runV (As := [.int (xs 1), .int (xs 2), .int (xs 3), .int (xs 4), .int (xs 5)]) (rest := []) ⟨hx, hb, hml, hown, hts⟩ (c_S_pitch_0 l D ca ad av H.size xx cx3 cx0 cx4 (xs 1) (xs 2) (xs 3) (xs 4) (xs 5) (hcx0.sub [1] rfl) (hcx2.sub [0, 1] rfl)) (cwV 5 hts (gdV k_6_195 k_6_196 k_6_197 k_1_1 k_6_198) rfl rfl rfl (by decide +kernel) ⟨Nat.le_of_ble_eq_true rfl, Nat.le_of_ble_eq_true rfl⟩) (gPV hP hD hK hS hA hX [0, 2] (by decide) rfl xx [.int (xs 1), .int (xs 2), .int (xs 3), .int (xs 4), .int (xs 5)] 0 (ci := 12) (r := (RX12, TX12, 10)) rfl rfl) rfl rfl hl.1 rfl (lv_room (Nat.le_of_ble_eq_true rfl)) d_code_453 ⟨Nat.le_of_ble_eq_true rfl, Nat.le_of_ble_eq_true rfl⟩) hS (fun q _ h => hFc6 q h) hFc6 (fun r6 u6 t6 H6 locs6 ht6 hvm6 hw6 hB6 hz6 hk6 hS6 => ?_)
  have hr6 := hw6
  obtain ⟨hP6, hD6⟩ := gJoin (wr := [(cx1, .inr (3, rg 22 cx2)), (cx5, .inr (0, rg 3 cx6)), (cx7, .inl (ca 0, 20, .inl cx8)), (cx9, .inr (0, rg 3 cx10)), (cx11, .inr (10, rg 9 cx12)), (cx13, .inl (ca 0, 20480, .inl cx14)), (cx15, .inl (ca 0, 3000, .inl cx16)), (cx17, .inl (ca 1, 3001, .inr (.inl cx18))), (cx19, .inl (ca 0, 3001, .inl cx20)), (cx21, .inl (ca 0, 3001, .inl cx22)), (mm, .inr (14, rg 107 cm0)), (cm1, .inl (ca 0, 8, .inl cm2)), (cm3, .inl (ca 0, 3001, .inl cm4)), (cm5, .inl (ca 0, 3001, .inl cm6)), (cm7, .inr (13, rg 81 cm8)), (cm9, .inl (ca 5, 2, .inr (.inr (.inr (.inr cm10))))), (cm11, .inl (ca 2, 20, .inl cm12)), (cm13, .inl (ca 2, 3000, .inl cm14)), (cm15, .inr (13, rg 81 cm16)), (cm17, .inr (13, rg 81 cm18))]) (w1 := [(xx, .inr (12, rg 10 cx0)), (cx3, .inl (ca 4, 2, .inr (.inr (.inr (.inr cx4)))))]) hP hD [0, 2] [1, 3, 4, 5, 6, 7, 8, 9, 10, 11, 12, 13, 14, 15, 16, 17, 18, 19, 20, 21] rfl rfl (by decide) (by decide) hk6 hFc6 ht6 hB6
  have hP6 : va_P D cls [(cx1, .inr (3, rg 22 cx2)), (cx5, .inr (0, rg 3 cx6)), (cx7, .inl (ca 0, 20, .inl cx8)), (cx9, .inr (0, rg 3 cx10)), (cx11, .inr (10, rg 9 cx12)), (cx13, .inl (ca 0, 20480, .inl cx14)), (cx15, .inl (ca 0, 3000, .inl cx16)), (cx17, .inl (ca 1, 3001, .inr (.inl cx18))), (cx19, .inl (ca 0, 3001, .inl cx20)), (cx21, .inl (ca 0, 3001, .inl cx22)), (mm, .inr (14, rg 107 cm0)), (cm1, .inl (ca 0, 8, .inl cm2)), (cm3, .inl (ca 0, 3001, .inl cm4)), (cm5, .inl (ca 0, 3001, .inl cm6)), (cm7, .inr (13, rg 81 cm8)), (cm9, .inl (ca 5, 2, .inr (.inr (.inr (.inr cm10))))), (cm11, .inl (ca 2, 20, .inl cm12)), (cm13, .inl (ca 2, 3000, .inl cm14)), (cm15, .inr (13, rg 81 cm16)), (cm17, .inr (13, rg 81 cm18)), (xx, .inr (12, rg 10 cx0)), (cx3, .inl (ca 4, 2, .inr (.inr (.inr (.inr cx4)))))] H6 := hP6
  have hD6 : va_D A [(cx1, .inr (3, rg 22 cx2)), (cx5, .inr (0, rg 3 cx6)), (cx7, .inl (ca 0, 20, .inl cx8)), (cx9, .inr (0, rg 3 cx10)), (cx11, .inr (10, rg 9 cx12)), (cx13, .inl (ca 0, 20480, .inl cx14)), (cx15, .inl (ca 0, 3000, .inl cx16)), (cx17, .inl (ca 1, 3001, .inr (.inl cx18))), (cx19, .inl (ca 0, 3001, .inl cx20)), (cx21, .inl (ca 0, 3001, .inl cx22)), (mm, .inr (14, rg 107 cm0)), (cm1, .inl (ca 0, 8, .inl cm2)), (cm3, .inl (ca 0, 3001, .inl cm4)), (cm5, .inl (ca 0, 3001, .inl cm6)), (cm7, .inr (13, rg 81 cm8)), (cm9, .inl (ca 5, 2, .inr (.inr (.inr (.inr cm10))))), (cm11, .inl (ca 2, 20, .inl cm12)), (cm13, .inl (ca 2, 3000, .inl cm14)), (cm15, .inr (13, rg 81 cm16)), (cm17, .inr (13, rg 81 cm18)), (xx, .inr (12, rg 10 cx0)), (cx3, .inl (ca 4, 2, .inr (.inr (.inr (.inr cx4)))))] := hD6
  refine W.widen (k := 282) (n := 716534) (Nat.le_of_ble_eq_true rfl) (Nat.le_of_ble_eq_true rfl) ?_
  subst hr6
  refine lv_aload_n hx hb d_code_456 rfl (lv_at hl 1 rfl) ?_
  refine lv_aload_n hx hb d_code_457 rfl (lv_at hl 3 rfl) ?_
  refine lv_iload_n hx hb d_code_458 rfl (lv_at hl 0 rfl) ?_
  refine lv_iconst (v := 1) hx hb d_code_459 (by decide) ?_
  refine lv_iadd hx hb d_code_460 ?_
  refine lv_topi (fun y7 ey7 => ?_)
  obtain rfl : y7 = 1 := ey7.trans (by decide)
  refine va_sld hx hb hXs hbl hbA hS6 (vinC (by decide)) d_code_461 ?_
  refine W.eq (g2 := F0 m 462 ls [.int (xs 1), .ref mm, .int (-2147483648)]) rfl ?_
  refine lv_aload_n hx hb d_code_462 rfl (lv_at hl 3 rfl) ?_
  refine lv_iload_n hx hb d_code_463 rfl (lv_at hl 0 rfl) ?_
  refine lv_iconst (v := 2) hx hb d_code_464 (by decide) ?_
  refine lv_iadd hx hb d_code_465 ?_
  refine lv_topi (fun y8 ey8 => ?_)
  obtain rfl : y8 = 2 := ey8.trans (by decide)
  refine va_sld hx hb hXs hbl hbA hS6 (vinC (by decide)) d_code_466 ?_
  refine W.eq (g2 := F0 m 467 ls [.int (xs 2), .int (xs 1), .ref mm, .int (-2147483648)]) rfl ?_
  refine lv_aload_n hx hb d_code_467 rfl (lv_at hl 3 rfl) ?_
  refine lv_iload_n hx hb d_code_468 rfl (lv_at hl 0 rfl) ?_
  refine lv_iconst (v := 3) hx hb d_code_469 (by decide) ?_
  refine lv_iadd hx hb d_code_470 ?_
  refine lv_topi (fun y9 ey9 => ?_)
  obtain rfl : y9 = 3 := ey9.trans (by decide)
  refine va_sld hx hb hXs hbl hbA hS6 (vinC (by decide)) d_code_471 ?_
  refine W.eq (g2 := F0 m 472 ls [.int (xs 3), .int (xs 2), .int (xs 1), .ref mm, .int (-2147483648)]) rfl ?_
  refine lv_aload_n hx hb d_code_472 rfl (lv_at hl 3 rfl) ?_
  refine lv_iload_n hx hb d_code_473 rfl (lv_at hl 0 rfl) ?_
  refine lv_iconst (v := 4) hx hb d_code_474 (by decide) ?_
  refine lv_iadd hx hb d_code_475 ?_
  refine lv_topi (fun y10 ey10 => ?_)
  obtain rfl : y10 = 4 := ey10.trans (by decide)
  refine va_sld hx hb hXs hbl hbA hS6 (vinC (by decide)) d_code_476 ?_
  refine W.eq (g2 := F0 m 477 ls [.int (xs 4), .int (xs 3), .int (xs 2), .int (xs 1), .ref mm, .int (-2147483648)]) rfl ?_
  refine lv_aload_n hx hb d_code_477 rfl (lv_at hl 3 rfl) ?_
  refine lv_iload_n hx hb d_code_478 rfl (lv_at hl 0 rfl) ?_
  refine lv_iconst (v := 5) hx hb d_code_479 (by decide) ?_
  refine lv_iadd hx hb d_code_480 ?_
  refine lv_topi (fun y11 ey11 => ?_)
  obtain rfl : y11 = 5 := ey11.trans (by decide)
  refine va_sld hx hb hXs hbl hbA hS6 (vinC (by decide)) d_code_481 ?_
  refine W.eq (g2 := F0 m 482 ls [.int (xs 5), .int (xs 4), .int (xs 3), .int (xs 2), .int (xs 1), .ref mm, .int (-2147483648)]) rfl ?_
  have hFc12 := va_free (wc := [(mm, .inr (14, rg 107 cm0)), (cm9, .inl (ca 5, 2, .inr (.inr (.inr (.inr cm10))))), (cm15, .inr (13, rg 81 cm16)), (cm17, .inr (13, rg 81 cm18))]) hD6 hS6 hA [10, 15, 18, 19] rfl
  refine va_calli (va_runV (As := [.int (xs 1), .int (xs 2), .int (xs 3), .int (xs 4), .int (xs 5)]) (rest := [.int (-2147483648)]) ⟨hx, hb, hml, hown, hts⟩ (c_M_pitch_0 l D ca ad av H6.size mm cm9 cm15 cm17 cm0 cm10 cm16 cm18 (xs 1) (xs 2) (xs 3) (xs 4) (xs 5) (hcm0.sub [4] rfl) (hcm5.sub [0, 1] rfl) (hcm8.sub [0] rfl) (hcm9.sub [0] rfl)) (cwV 5 hts (gdV k_15_162 k_15_163 k_15_164 k_1_9 k_15_165) rfl rfl rfl (by decide +kernel) ⟨Nat.le_of_ble_eq_true rfl, Nat.le_of_ble_eq_true rfl⟩) (gPV hP6 hD6 hK hS6 hA hX [10, 15, 18, 19] (by decide) rfl mm [.int (xs 1), .int (xs 2), .int (xs 3), .int (xs 4), .int (xs 5)] 10 (ci := 14) (r := (RX14, TX14, 107)) rfl rfl) rfl rfl hl.1 rfl (lv_room (Nat.le_of_ble_eq_true rfl)) d_code_482 ⟨Nat.le_of_ble_eq_true rfl, Nat.le_of_ble_eq_true rfl⟩) hS6 (fun q _ h => hFc12 q h) hFc12 (fun r12 u12 t12 H12 locs12 ht12 hvm12 hw12 hB12 hz12 hk12 hS12 => ?_)
  have hr12 := hw12
  obtain ⟨hP12, hD12⟩ := gJoin (wr := [(cx1, .inr (3, rg 22 cx2)), (cx5, .inr (0, rg 3 cx6)), (cx7, .inl (ca 0, 20, .inl cx8)), (cx9, .inr (0, rg 3 cx10)), (cx11, .inr (10, rg 9 cx12)), (cx13, .inl (ca 0, 20480, .inl cx14)), (cx15, .inl (ca 0, 3000, .inl cx16)), (cx17, .inl (ca 1, 3001, .inr (.inl cx18))), (cx19, .inl (ca 0, 3001, .inl cx20)), (cx21, .inl (ca 0, 3001, .inl cx22)), (cm1, .inl (ca 0, 8, .inl cm2)), (cm3, .inl (ca 0, 3001, .inl cm4)), (cm5, .inl (ca 0, 3001, .inl cm6)), (cm7, .inr (13, rg 81 cm8)), (cm11, .inl (ca 2, 20, .inl cm12)), (cm13, .inl (ca 2, 3000, .inl cm14)), (xx, .inr (12, rg 10 cx0)), (cx3, .inl (ca 4, 2, .inr (.inr (.inr (.inr cx4)))))]) (w1 := [(mm, .inr (14, rg 107 cm0)), (cm9, .inl (ca 5, 2, .inr (.inr (.inr (.inr cm10))))), (cm15, .inr (13, rg 81 cm16)), (cm17, .inr (13, rg 81 cm18))]) hP6 hD6 [10, 15, 18, 19] [0, 1, 2, 3, 4, 5, 6, 7, 8, 9, 11, 12, 13, 14, 16, 17, 20, 21] rfl rfl (by decide) (by decide) hk12 hFc12 ht12 hB12
  have hP12 : va_P D cls [(cx1, .inr (3, rg 22 cx2)), (cx5, .inr (0, rg 3 cx6)), (cx7, .inl (ca 0, 20, .inl cx8)), (cx9, .inr (0, rg 3 cx10)), (cx11, .inr (10, rg 9 cx12)), (cx13, .inl (ca 0, 20480, .inl cx14)), (cx15, .inl (ca 0, 3000, .inl cx16)), (cx17, .inl (ca 1, 3001, .inr (.inl cx18))), (cx19, .inl (ca 0, 3001, .inl cx20)), (cx21, .inl (ca 0, 3001, .inl cx22)), (cm1, .inl (ca 0, 8, .inl cm2)), (cm3, .inl (ca 0, 3001, .inl cm4)), (cm5, .inl (ca 0, 3001, .inl cm6)), (cm7, .inr (13, rg 81 cm8)), (cm11, .inl (ca 2, 20, .inl cm12)), (cm13, .inl (ca 2, 3000, .inl cm14)), (xx, .inr (12, rg 10 cx0)), (cx3, .inl (ca 4, 2, .inr (.inr (.inr (.inr cx4))))), (mm, .inr (14, rg 107 cm0)), (cm9, .inl (ca 5, 2, .inr (.inr (.inr (.inr cm10))))), (cm15, .inr (13, rg 81 cm16)), (cm17, .inr (13, rg 81 cm18))] H12 := hP12
  have hD12 : va_D A [(cx1, .inr (3, rg 22 cx2)), (cx5, .inr (0, rg 3 cx6)), (cx7, .inl (ca 0, 20, .inl cx8)), (cx9, .inr (0, rg 3 cx10)), (cx11, .inr (10, rg 9 cx12)), (cx13, .inl (ca 0, 20480, .inl cx14)), (cx15, .inl (ca 0, 3000, .inl cx16)), (cx17, .inl (ca 1, 3001, .inr (.inl cx18))), (cx19, .inl (ca 0, 3001, .inl cx20)), (cx21, .inl (ca 0, 3001, .inl cx22)), (cm1, .inl (ca 0, 8, .inl cm2)), (cm3, .inl (ca 0, 3001, .inl cm4)), (cm5, .inl (ca 0, 3001, .inl cm6)), (cm7, .inr (13, rg 81 cm8)), (cm11, .inl (ca 2, 20, .inl cm12)), (cm13, .inl (ca 2, 3000, .inl cm14)), (xx, .inr (12, rg 10 cx0)), (cx3, .inl (ca 4, 2, .inr (.inr (.inr (.inr cx4))))), (mm, .inr (14, rg 107 cm0)), (cm9, .inl (ca 5, 2, .inr (.inr (.inr (.inr cm10))))), (cm15, .inr (13, rg 81 cm16)), (cm17, .inr (13, rg 81 cm18))] := hD12
  refine W.widen (k := 282) (n := 716534) (Nat.le_of_ble_eq_true rfl) (Nat.le_of_ble_eq_true rfl) ?_
  subst hr12
  refine lv_icmp_eq (tgt := 1198) hx hb d_code_485 (by decide) (fun _ => ?_) (fun c => absurd (by decide) c)
  exact law_tail C0 hA2 hS12 (Nat.le_of_ble_eq_true rfl) (Nat.le_of_ble_eq_true rfl) hl
set_option maxHeartbeats 8000000 in
set_option maxRecDepth 100000 in
theorem law_case_8 {p : Program} {l : Launch} {e : Env} {s : State} {m : MethodId} {below : List Frame} {meth : Method} {c : Code} {b : Nat} {xs : Nat → Int32} (C0 : lw_At p s m meth c b 9 xs) {D : va_G} {ca : Nat → ClassId} {ad av : Nat → Nat} {A : Nat → Prop} (hA : ∀ q, s.heap.size ≤ q → A q) (hA2 : ∀ q, A q → s.heap.size ≤ q) {xx : Nat} {cx1 : Nat} {cx3 : Nat} {cx5 : Nat} {cx7 : Nat} {cx9 : Nat} {cx11 : Nat} {cx13 : Nat} {cx15 : Nat} {cx17 : Nat} {cx19 : Nat} {cx21 : Nat} {mm : Nat} {cm1 : Nat} {cm3 : Nat} {cm5 : Nat} {cm7 : Nat} {cm9 : Nat} {cm11 : Nat} {cm13 : Nat} {cm15 : Nat} {cm17 : Nat} {cx0 : Nat → Value} {cx2 : Nat → Value} {cx4 : Nat → Option Nat} {cx6 : Nat → Value} {cx8 : Nat → Int32} {cx10 : Nat → Value} {cx12 : Nat → Value} {cx14 : Nat → Int32} {cx16 : Nat → Int32} {cx18 : Nat → Int64} {cx20 : Nat → Int32} {cx22 : Nat → Int32} {cm0 : Nat → Value} {cm2 : Nat → Int32} {cm4 : Nat → Int32} {cm6 : Nat → Int32} {cm8 : Nat → Value} {cm10 : Nat → Option Nat} {cm12 : Nat → Int32} {cm14 : Nat → Int32} {cm16 : Nat → Value} {cm18 : Nat → Value} (hcx0 : gF cx0 [(4, .ref cx1), (3, .ref cx3), (2, .ref cx5), (1, .ref cx7), (0, .ref cx9), (7, .null), (8, .null), (9, .null)]) (hcx1 : gF cx2 [(11, .ref cx11), (16, .int 0), (21, .int 0)]) (hcx2 : gF cx4 [(0, none), (1, none)]) (hcx3 : gF cx6 [(0, .ref cx13), (1, .int 0), (2, .int 0)]) (hcx4 : gF cx8 []) (hcx5 : gF cx10 [(0, .ref cx15), (1, .int 0), (2, .int 0)]) (hcx6 : gF cx12 [(7, .ref cx17), (6, .ref cx19), (5, .ref cx21), (0, .int 0), (1, .int 0), (2, .long 0), (8, .int 0)]) (hcx7 : gF cx14 []) (hcx8 : gF cx16 []) (hcx9 : gF cx18 []) (hcx10 : gF cx20 []) (hcx11 : gF cx22 []) (hcm0 : gF cm0 [(74, .ref cm1), (8, .ref cm3), (7, .ref cm5), (6, .ref cm7), (5, .ref cm9), (4, .ref cm11), (2, .ref cm13), (3, .int 0), (12, .int 0), (16, .int 0), (17, .int 0), (18, .int 0), (71, .int 0), (72, .int 0), (89, .int 0), (90, .long 0), (94, .int 0)]) (hcm1 : gF cm2 []) (hcm2 : gF cm4 []) (hcm3 : gF cm6 []) (hcm4 : gF cm8 [(0, .int 0), (1, .int 0)]) (hcm5 : gF cm10 [(1, some cm15), (0, some cm17)]) (hcm6 : gF cm12 []) (hcm7 : gF cm14 []) (hcm8 : gF cm16 [(0, .int 0), (1, .int 0)]) (hcm9 : gF cm18 [(0, .int 0), (1, .int 0)]) (hK : va_K D cls (tyL ca) s) (hX : gX ad av A s s.heap) {H : Heap} {locs : List Loc} (hP : va_P D cls [(xx, .inr (12, rg 10 cx0)), (cx1, .inr (3, rg 22 cx2)), (cx3, .inl (ca 4, 2, .inr (.inr (.inr (.inr cx4))))), (cx5, .inr (0, rg 3 cx6)), (cx7, .inl (ca 0, 20, .inl cx8)), (cx9, .inr (0, rg 3 cx10)), (cx11, .inr (10, rg 9 cx12)), (cx13, .inl (ca 0, 20480, .inl cx14)), (cx15, .inl (ca 0, 3000, .inl cx16)), (cx17, .inl (ca 1, 3001, .inr (.inl cx18))), (cx19, .inl (ca 0, 3001, .inl cx20)), (cx21, .inl (ca 0, 3001, .inl cx22)), (mm, .inr (14, rg 107 cm0)), (cm1, .inl (ca 0, 8, .inl cm2)), (cm3, .inl (ca 0, 3001, .inl cm4)), (cm5, .inl (ca 0, 3001, .inl cm6)), (cm7, .inr (13, rg 81 cm8)), (cm9, .inl (ca 5, 2, .inr (.inr (.inr (.inr cm10))))), (cm11, .inl (ca 2, 20, .inl cm12)), (cm13, .inl (ca 2, 3000, .inl cm14)), (cm15, .inr (13, rg 81 cm16)), (cm17, .inr (13, rg 81 cm18))] H) (hD : va_D A [(xx, .inr (12, rg 10 cx0)), (cx1, .inr (3, rg 22 cx2)), (cx3, .inl (ca 4, 2, .inr (.inr (.inr (.inr cx4))))), (cx5, .inr (0, rg 3 cx6)), (cx7, .inl (ca 0, 20, .inl cx8)), (cx9, .inr (0, rg 3 cx10)), (cx11, .inr (10, rg 9 cx12)), (cx13, .inl (ca 0, 20480, .inl cx14)), (cx15, .inl (ca 0, 3000, .inl cx16)), (cx17, .inl (ca 1, 3001, .inr (.inl cx18))), (cx19, .inl (ca 0, 3001, .inl cx20)), (cx21, .inl (ca 0, 3001, .inl cx22)), (mm, .inr (14, rg 107 cm0)), (cm1, .inl (ca 0, 8, .inl cm2)), (cm3, .inl (ca 0, 3001, .inl cm4)), (cm5, .inl (ca 0, 3001, .inl cm6)), (cm7, .inr (13, rg 81 cm8)), (cm9, .inl (ca 5, 2, .inr (.inr (.inr (.inr cm10))))), (cm11, .inl (ca 2, 20, .inl cm12)), (cm13, .inl (ca 2, 3000, .inl cm14)), (cm15, .inr (13, rg 81 cm16)), (cm17, .inr (13, rg 81 cm18))]) (hS : va_S A s.heap H locs) {ls : Array Slot} (hl : lv_has ls 4 [(3, .int 0), (2, .ref mm), (1, .ref xx), (0, .ref b)]) : W p l e room_1 s m #[Value.ref b] below meth c H locs 282 716534 (lw_Z below #[Value.ref b] s) (F0 m 490 ls []) := by
  obtain ⟨hx, hb, hr, hml, hown, hts0, hXs, hbl, hlocks, hgv⟩ := id C0
  have hts := wA_hts hts0
  have hbA : ¬ A b := fun z => Nat.not_le.mpr hbl (hA2 b z)
  have hown : s.vm.findClass "StaveHouseLaw" = some m.cls := hown
  refine lv_aload_n hx hb d_code_490 rfl (lv_at hl 2 rfl) ?_
  refine lv_aload_n hx hb d_code_491 rfl (lv_at hl 3 rfl) ?_
  refine lv_iload_n hx hb d_code_492 rfl (lv_at hl 0 rfl) ?_
  refine lv_iconst (v := 1) hx hb d_code_493 (by decide) ?_
  refine lv_iadd hx hb d_code_494 ?_
  refine lv_topi (fun y1 ey1 => ?_)
  obtain rfl : y1 = 1 := ey1.trans (by decide)
  refine va_sld hx hb hXs hbl hbA hS (vinC (by decide)) d_code_495 ?_
  refine W.eq (g2 := F0 m 496 ls [.int (xs 1), .ref xx]) rfl ?_
  refine lv_aload_n hx hb d_code_496 rfl (lv_at hl 3 rfl) ?_
  refine lv_iload_n hx hb d_code_497 rfl (lv_at hl 0 rfl) ?_
  refine lv_iconst (v := 2) hx hb d_code_498 (by decide) ?_
  refine lv_iadd hx hb d_code_499 ?_
  refine lv_topi (fun y2 ey2 => ?_)
  obtain rfl : y2 = 2 := ey2.trans (by decide)
  refine va_sld hx hb hXs hbl hbA hS (vinC (by decide)) d_code_500 ?_
  refine W.eq (g2 := F0 m 501 ls [.int (xs 2), .int (xs 1), .ref xx]) rfl ?_
  refine lv_aload_n hx hb d_code_501 rfl (lv_at hl 3 rfl) ?_
  refine lv_iload_n hx hb d_code_502 rfl (lv_at hl 0 rfl) ?_
  refine lv_iconst (v := 3) hx hb d_code_503 (by decide) ?_
  refine lv_iadd hx hb d_code_504 ?_
  refine lv_topi (fun y3 ey3 => ?_)
  obtain rfl : y3 = 3 := ey3.trans (by decide)
  refine va_sld hx hb hXs hbl hbA hS (vinC (by decide)) d_code_505 ?_
  refine W.eq (g2 := F0 m 506 ls [.int (xs 3), .int (xs 2), .int (xs 1), .ref xx]) rfl ?_
  refine lv_aload_n hx hb d_code_506 rfl (lv_at hl 3 rfl) ?_
  refine lv_iload_n hx hb d_code_507 rfl (lv_at hl 0 rfl) ?_
  refine lv_iconst (v := 4) hx hb d_code_508 (by decide) ?_
  refine lv_iadd hx hb d_code_509 ?_
  refine lv_topi (fun y4 ey4 => ?_)
  obtain rfl : y4 = 4 := ey4.trans (by decide)
  refine va_sld hx hb hXs hbl hbA hS (vinC (by decide)) d_code_510 ?_
  refine W.eq (g2 := F0 m 511 ls [.int (xs 4), .int (xs 3), .int (xs 2), .int (xs 1), .ref xx]) rfl ?_
  have hFc5 := va_free (wc := [(xx, .inr (12, rg 10 cx0)), (cx3, .inl (ca 4, 2, .inr (.inr (.inr (.inr cx4)))))]) hD hS hA [0, 2] rfl
  refine va_calll (va_runV (As := [.int (xs 1), .int (xs 2), .int (xs 3), .int (xs 4)]) (rest := []) ⟨hx, hb, hml, hown, hts⟩ (c_S_note_0 l D ca ad av H.size xx cx3 cx0 cx4 (xs 1) (xs 2) (xs 3) (xs 4) (hcx0.sub [1] rfl) (hcx2.sub [0, 1] rfl)) (cwV 4 hts (gdV k_6_201 k_6_202 k_6_203 k_1_1 k_6_204) rfl rfl rfl (by decide +kernel) ⟨Nat.le_of_ble_eq_true rfl, Nat.le_of_ble_eq_true rfl⟩) (gPV hP hD hK hS hA hX [0, 2] (by decide) rfl xx [.int (xs 1), .int (xs 2), .int (xs 3), .int (xs 4)] 0 (ci := 12) (r := (RX12, TX12, 10)) rfl rfl) rfl rfl hl.1 rfl (lv_room (Nat.le_of_ble_eq_true rfl)) d_code_511 ⟨Nat.le_of_ble_eq_true rfl, Nat.le_of_ble_eq_true rfl⟩) hS (fun q _ h => hFc5 q h) hFc5 (fun r5 u5 t5 H5 locs5 ht5 hvm5 hw5 hB5 hz5 hk5 hS5 => ?_)
  have hr5 := hw5
  obtain ⟨hP5, hD5⟩ := gJoin (wr := [(cx1, .inr (3, rg 22 cx2)), (cx5, .inr (0, rg 3 cx6)), (cx7, .inl (ca 0, 20, .inl cx8)), (cx9, .inr (0, rg 3 cx10)), (cx11, .inr (10, rg 9 cx12)), (cx13, .inl (ca 0, 20480, .inl cx14)), (cx15, .inl (ca 0, 3000, .inl cx16)), (cx17, .inl (ca 1, 3001, .inr (.inl cx18))), (cx19, .inl (ca 0, 3001, .inl cx20)), (cx21, .inl (ca 0, 3001, .inl cx22)), (mm, .inr (14, rg 107 cm0)), (cm1, .inl (ca 0, 8, .inl cm2)), (cm3, .inl (ca 0, 3001, .inl cm4)), (cm5, .inl (ca 0, 3001, .inl cm6)), (cm7, .inr (13, rg 81 cm8)), (cm9, .inl (ca 5, 2, .inr (.inr (.inr (.inr cm10))))), (cm11, .inl (ca 2, 20, .inl cm12)), (cm13, .inl (ca 2, 3000, .inl cm14)), (cm15, .inr (13, rg 81 cm16)), (cm17, .inr (13, rg 81 cm18))]) (w1 := [(xx, .inr (12, rg 10 cx0)), (cx3, .inl (ca 4, 2, .inr (.inr (.inr (.inr cx4)))))]) hP hD [0, 2] [1, 3, 4, 5, 6, 7, 8, 9, 10, 11, 12, 13, 14, 15, 16, 17, 18, 19, 20, 21] rfl rfl (by decide) (by decide) hk5 hFc5 ht5 hB5
  have hP5 : va_P D cls [(cx1, .inr (3, rg 22 cx2)), (cx5, .inr (0, rg 3 cx6)), (cx7, .inl (ca 0, 20, .inl cx8)), (cx9, .inr (0, rg 3 cx10)), (cx11, .inr (10, rg 9 cx12)), (cx13, .inl (ca 0, 20480, .inl cx14)), (cx15, .inl (ca 0, 3000, .inl cx16)), (cx17, .inl (ca 1, 3001, .inr (.inl cx18))), (cx19, .inl (ca 0, 3001, .inl cx20)), (cx21, .inl (ca 0, 3001, .inl cx22)), (mm, .inr (14, rg 107 cm0)), (cm1, .inl (ca 0, 8, .inl cm2)), (cm3, .inl (ca 0, 3001, .inl cm4)), (cm5, .inl (ca 0, 3001, .inl cm6)), (cm7, .inr (13, rg 81 cm8)), (cm9, .inl (ca 5, 2, .inr (.inr (.inr (.inr cm10))))), (cm11, .inl (ca 2, 20, .inl cm12)), (cm13, .inl (ca 2, 3000, .inl cm14)), (cm15, .inr (13, rg 81 cm16)), (cm17, .inr (13, rg 81 cm18)), (xx, .inr (12, rg 10 cx0)), (cx3, .inl (ca 4, 2, .inr (.inr (.inr (.inr cx4)))))] H5 := hP5
  have hD5 : va_D A [(cx1, .inr (3, rg 22 cx2)), (cx5, .inr (0, rg 3 cx6)), (cx7, .inl (ca 0, 20, .inl cx8)), (cx9, .inr (0, rg 3 cx10)), (cx11, .inr (10, rg 9 cx12)), (cx13, .inl (ca 0, 20480, .inl cx14)), (cx15, .inl (ca 0, 3000, .inl cx16)), (cx17, .inl (ca 1, 3001, .inr (.inl cx18))), (cx19, .inl (ca 0, 3001, .inl cx20)), (cx21, .inl (ca 0, 3001, .inl cx22)), (mm, .inr (14, rg 107 cm0)), (cm1, .inl (ca 0, 8, .inl cm2)), (cm3, .inl (ca 0, 3001, .inl cm4)), (cm5, .inl (ca 0, 3001, .inl cm6)), (cm7, .inr (13, rg 81 cm8)), (cm9, .inl (ca 5, 2, .inr (.inr (.inr (.inr cm10))))), (cm11, .inl (ca 2, 20, .inl cm12)), (cm13, .inl (ca 2, 3000, .inl cm14)), (cm15, .inr (13, rg 81 cm16)), (cm17, .inr (13, rg 81 cm18)), (xx, .inr (12, rg 10 cx0)), (cx3, .inl (ca 4, 2, .inr (.inr (.inr (.inr cx4)))))] := hD5
  refine W.widen (k := 282) (n := 716534) (Nat.le_of_ble_eq_true rfl) (Nat.le_of_ble_eq_true rfl) ?_
  subst hr5
  refine lv_aload_n hx hb d_code_514 rfl (lv_at hl 1 rfl) ?_
  refine lv_aload_n hx hb d_code_515 rfl (lv_at hl 3 rfl) ?_
  refine lv_iload_n hx hb d_code_516 rfl (lv_at hl 0 rfl) ?_
  refine lv_iconst (v := 1) hx hb d_code_517 (by decide) ?_
  refine lv_iadd hx hb d_code_518 ?_
  refine lv_topi (fun y6 ey6 => ?_)
  obtain rfl : y6 = 1 := ey6.trans (by decide)
  refine va_sld hx hb hXs hbl hbA hS5 (vinC (by decide)) d_code_519 ?_
  refine W.eq (g2 := F0 m 520 ls [.int (xs 1), .ref mm, .long (-1)]) rfl ?_
  refine lv_aload_n hx hb d_code_520 rfl (lv_at hl 3 rfl) ?_
  refine lv_iload_n hx hb d_code_521 rfl (lv_at hl 0 rfl) ?_
  refine lv_iconst (v := 2) hx hb d_code_522 (by decide) ?_
  refine lv_iadd hx hb d_code_523 ?_
  refine lv_topi (fun y7 ey7 => ?_)
  obtain rfl : y7 = 2 := ey7.trans (by decide)
  refine va_sld hx hb hXs hbl hbA hS5 (vinC (by decide)) d_code_524 ?_
  refine W.eq (g2 := F0 m 525 ls [.int (xs 2), .int (xs 1), .ref mm, .long (-1)]) rfl ?_
  refine lv_aload_n hx hb d_code_525 rfl (lv_at hl 3 rfl) ?_
  refine lv_iload_n hx hb d_code_526 rfl (lv_at hl 0 rfl) ?_
  refine lv_iconst (v := 3) hx hb d_code_527 (by decide) ?_
  refine lv_iadd hx hb d_code_528 ?_
  refine lv_topi (fun y8 ey8 => ?_)
  obtain rfl : y8 = 3 := ey8.trans (by decide)
  refine va_sld hx hb hXs hbl hbA hS5 (vinC (by decide)) d_code_529 ?_
  refine W.eq (g2 := F0 m 530 ls [.int (xs 3), .int (xs 2), .int (xs 1), .ref mm, .long (-1)]) rfl ?_
  refine lv_aload_n hx hb d_code_530 rfl (lv_at hl 3 rfl) ?_
  refine lv_iload_n hx hb d_code_531 rfl (lv_at hl 0 rfl) ?_
  refine lv_iconst (v := 4) hx hb d_code_532 (by decide) ?_
  refine lv_iadd hx hb d_code_533 ?_
  refine lv_topi (fun y9 ey9 => ?_)
  obtain rfl : y9 = 4 := ey9.trans (by decide)
  refine va_sld hx hb hXs hbl hbA hS5 (vinC (by decide)) d_code_534 ?_
  refine W.eq (g2 := F0 m 535 ls [.int (xs 4), .int (xs 3), .int (xs 2), .int (xs 1), .ref mm, .long (-1)]) rfl ?_
  have hFc10 := va_free (wc := [(mm, .inr (14, rg 107 cm0)), (cm9, .inl (ca 5, 2, .inr (.inr (.inr (.inr cm10))))), (cm15, .inr (13, rg 81 cm16)), (cm17, .inr (13, rg 81 cm18))]) hD5 hS5 hA [10, 15, 18, 19] rfl
  refine va_calll (va_runV (As := [.int (xs 1), .int (xs 2), .int (xs 3), .int (xs 4)]) (rest := [.long (-1)]) ⟨hx, hb, hml, hown, hts⟩ (c_M_note_0 l D ca ad av H5.size mm cm9 cm15 cm17 cm0 cm10 cm16 cm18 (xs 1) (xs 2) (xs 3) (xs 4) (hcm0.sub [4] rfl) (hcm5.sub [0, 1] rfl) (hcm8.sub [0] rfl) (hcm9.sub [0] rfl)) (cwV 4 hts (gdV k_15_166 k_15_167 k_15_168 k_1_9 k_15_169) rfl rfl rfl (by decide +kernel) ⟨Nat.le_of_ble_eq_true rfl, Nat.le_of_ble_eq_true rfl⟩) (gPV hP5 hD5 hK hS5 hA hX [10, 15, 18, 19] (by decide) rfl mm [.int (xs 1), .int (xs 2), .int (xs 3), .int (xs 4)] 10 (ci := 14) (r := (RX14, TX14, 107)) rfl rfl) rfl rfl hl.1 rfl (lv_room (Nat.le_of_ble_eq_true rfl)) d_code_535 ⟨Nat.le_of_ble_eq_true rfl, Nat.le_of_ble_eq_true rfl⟩) hS5 (fun q _ h => hFc10 q h) hFc10 (fun r10 u10 t10 H10 locs10 ht10 hvm10 hw10 hB10 hz10 hk10 hS10 => ?_)
  have hr10 := hw10
  obtain ⟨hP10, hD10⟩ := gJoin (wr := [(cx1, .inr (3, rg 22 cx2)), (cx5, .inr (0, rg 3 cx6)), (cx7, .inl (ca 0, 20, .inl cx8)), (cx9, .inr (0, rg 3 cx10)), (cx11, .inr (10, rg 9 cx12)), (cx13, .inl (ca 0, 20480, .inl cx14)), (cx15, .inl (ca 0, 3000, .inl cx16)), (cx17, .inl (ca 1, 3001, .inr (.inl cx18))), (cx19, .inl (ca 0, 3001, .inl cx20)), (cx21, .inl (ca 0, 3001, .inl cx22)), (cm1, .inl (ca 0, 8, .inl cm2)), (cm3, .inl (ca 0, 3001, .inl cm4)), (cm5, .inl (ca 0, 3001, .inl cm6)), (cm7, .inr (13, rg 81 cm8)), (cm11, .inl (ca 2, 20, .inl cm12)), (cm13, .inl (ca 2, 3000, .inl cm14)), (xx, .inr (12, rg 10 cx0)), (cx3, .inl (ca 4, 2, .inr (.inr (.inr (.inr cx4)))))]) (w1 := [(mm, .inr (14, rg 107 cm0)), (cm9, .inl (ca 5, 2, .inr (.inr (.inr (.inr cm10))))), (cm15, .inr (13, rg 81 cm16)), (cm17, .inr (13, rg 81 cm18))]) hP5 hD5 [10, 15, 18, 19] [0, 1, 2, 3, 4, 5, 6, 7, 8, 9, 11, 12, 13, 14, 16, 17, 20, 21] rfl rfl (by decide) (by decide) hk10 hFc10 ht10 hB10
  have hP10 : va_P D cls [(cx1, .inr (3, rg 22 cx2)), (cx5, .inr (0, rg 3 cx6)), (cx7, .inl (ca 0, 20, .inl cx8)), (cx9, .inr (0, rg 3 cx10)), (cx11, .inr (10, rg 9 cx12)), (cx13, .inl (ca 0, 20480, .inl cx14)), (cx15, .inl (ca 0, 3000, .inl cx16)), (cx17, .inl (ca 1, 3001, .inr (.inl cx18))), (cx19, .inl (ca 0, 3001, .inl cx20)), (cx21, .inl (ca 0, 3001, .inl cx22)), (cm1, .inl (ca 0, 8, .inl cm2)), (cm3, .inl (ca 0, 3001, .inl cm4)), (cm5, .inl (ca 0, 3001, .inl cm6)), (cm7, .inr (13, rg 81 cm8)), (cm11, .inl (ca 2, 20, .inl cm12)), (cm13, .inl (ca 2, 3000, .inl cm14)), (xx, .inr (12, rg 10 cx0)), (cx3, .inl (ca 4, 2, .inr (.inr (.inr (.inr cx4))))), (mm, .inr (14, rg 107 cm0)), (cm9, .inl (ca 5, 2, .inr (.inr (.inr (.inr cm10))))), (cm15, .inr (13, rg 81 cm16)), (cm17, .inr (13, rg 81 cm18))] H10 := hP10
  have hD10 : va_D A [(cx1, .inr (3, rg 22 cx2)), (cx5, .inr (0, rg 3 cx6)), (cx7, .inl (ca 0, 20, .inl cx8)), (cx9, .inr (0, rg 3 cx10)), (cx11, .inr (10, rg 9 cx12)), (cx13, .inl (ca 0, 20480, .inl cx14)), (cx15, .inl (ca 0, 3000, .inl cx16)), (cx17, .inl (ca 1, 3001, .inr (.inl cx18))), (cx19, .inl (ca 0, 3001, .inl cx20)), (cx21, .inl (ca 0, 3001, .inl cx22)), (cm1, .inl (ca 0, 8, .inl cm2)), (cm3, .inl (ca 0, 3001, .inl cm4)), (cm5, .inl (ca 0, 3001, .inl cm6)), (cm7, .inr (13, rg 81 cm8)), (cm11, .inl (ca 2, 20, .inl cm12)), (cm13, .inl (ca 2, 3000, .inl cm14)), (xx, .inr (12, rg 10 cx0)), (cx3, .inl (ca 4, 2, .inr (.inr (.inr (.inr cx4))))), (mm, .inr (14, rg 107 cm0)), (cm9, .inl (ca 5, 2, .inr (.inr (.inr (.inr cm10))))), (cm15, .inr (13, rg 81 cm16)), (cm17, .inr (13, rg 81 cm18))] := hD10
  refine W.widen (k := 282) (n := 716534) (Nat.le_of_ble_eq_true rfl) (Nat.le_of_ble_eq_true rfl) ?_
  subst hr10
  refine W.lcmp hx hb d_code_538 ?_
  refine lv_topi (fun y11 ey11 => ?_)
  obtain rfl : y11 = 0 := ey11.trans (by decide)
  refine lv_if_eq (tgt := 1198) hx hb d_code_539 (by decide) (fun _ => ?_) (fun c => absurd (by decide) c)
  exact law_tail C0 hA2 hS10 (Nat.le_of_ble_eq_true rfl) (Nat.le_of_ble_eq_true rfl) hl
set_option maxHeartbeats 8000000 in
set_option maxRecDepth 100000 in
theorem law_case_9 {p : Program} {l : Launch} {e : Env} {s : State} {m : MethodId} {below : List Frame} {meth : Method} {c : Code} {b : Nat} {xs : Nat → Int32} (C0 : lw_At p s m meth c b 9 xs) {D : va_G} {ca : Nat → ClassId} {ad av : Nat → Nat} {A : Nat → Prop} (hA : ∀ q, s.heap.size ≤ q → A q) (hA2 : ∀ q, A q → s.heap.size ≤ q) {xx : Nat} {cx1 : Nat} {cx3 : Nat} {cx5 : Nat} {cx7 : Nat} {cx9 : Nat} {cx11 : Nat} {cx13 : Nat} {cx15 : Nat} {cx17 : Nat} {cx19 : Nat} {cx21 : Nat} {mm : Nat} {cm1 : Nat} {cm3 : Nat} {cm5 : Nat} {cm7 : Nat} {cm9 : Nat} {cm11 : Nat} {cm13 : Nat} {cm15 : Nat} {cm17 : Nat} {cx0 : Nat → Value} {cx2 : Nat → Value} {cx4 : Nat → Option Nat} {cx6 : Nat → Value} {cx8 : Nat → Int32} {cx10 : Nat → Value} {cx12 : Nat → Value} {cx14 : Nat → Int32} {cx16 : Nat → Int32} {cx18 : Nat → Int64} {cx20 : Nat → Int32} {cx22 : Nat → Int32} {cm0 : Nat → Value} {cm2 : Nat → Int32} {cm4 : Nat → Int32} {cm6 : Nat → Int32} {cm8 : Nat → Value} {cm10 : Nat → Option Nat} {cm12 : Nat → Int32} {cm14 : Nat → Int32} {cm16 : Nat → Value} {cm18 : Nat → Value} (hcx0 : gF cx0 [(4, .ref cx1), (3, .ref cx3), (2, .ref cx5), (1, .ref cx7), (0, .ref cx9), (7, .null), (8, .null), (9, .null)]) (hcx1 : gF cx2 [(11, .ref cx11), (16, .int 0), (21, .int 0)]) (hcx2 : gF cx4 [(0, none), (1, none)]) (hcx3 : gF cx6 [(0, .ref cx13), (1, .int 0), (2, .int 0)]) (hcx4 : gF cx8 []) (hcx5 : gF cx10 [(0, .ref cx15), (1, .int 0), (2, .int 0)]) (hcx6 : gF cx12 [(7, .ref cx17), (6, .ref cx19), (5, .ref cx21), (0, .int 0), (1, .int 0), (2, .long 0), (8, .int 0)]) (hcx7 : gF cx14 []) (hcx8 : gF cx16 []) (hcx9 : gF cx18 []) (hcx10 : gF cx20 []) (hcx11 : gF cx22 []) (hcm0 : gF cm0 [(74, .ref cm1), (8, .ref cm3), (7, .ref cm5), (6, .ref cm7), (5, .ref cm9), (4, .ref cm11), (2, .ref cm13), (3, .int 0), (12, .int 0), (16, .int 0), (17, .int 0), (18, .int 0), (71, .int 0), (72, .int 0), (89, .int 0), (90, .long 0), (94, .int 0)]) (hcm1 : gF cm2 []) (hcm2 : gF cm4 []) (hcm3 : gF cm6 []) (hcm4 : gF cm8 [(0, .int 0), (1, .int 0)]) (hcm5 : gF cm10 [(1, some cm15), (0, some cm17)]) (hcm6 : gF cm12 []) (hcm7 : gF cm14 []) (hcm8 : gF cm16 [(0, .int 0), (1, .int 0)]) (hcm9 : gF cm18 [(0, .int 0), (1, .int 0)]) (hK : va_K D cls (tyL ca) s) (hX : gX ad av A s s.heap) {H : Heap} {locs : List Loc} (hP : va_P D cls [(xx, .inr (12, rg 10 cx0)), (cx1, .inr (3, rg 22 cx2)), (cx3, .inl (ca 4, 2, .inr (.inr (.inr (.inr cx4))))), (cx5, .inr (0, rg 3 cx6)), (cx7, .inl (ca 0, 20, .inl cx8)), (cx9, .inr (0, rg 3 cx10)), (cx11, .inr (10, rg 9 cx12)), (cx13, .inl (ca 0, 20480, .inl cx14)), (cx15, .inl (ca 0, 3000, .inl cx16)), (cx17, .inl (ca 1, 3001, .inr (.inl cx18))), (cx19, .inl (ca 0, 3001, .inl cx20)), (cx21, .inl (ca 0, 3001, .inl cx22)), (mm, .inr (14, rg 107 cm0)), (cm1, .inl (ca 0, 8, .inl cm2)), (cm3, .inl (ca 0, 3001, .inl cm4)), (cm5, .inl (ca 0, 3001, .inl cm6)), (cm7, .inr (13, rg 81 cm8)), (cm9, .inl (ca 5, 2, .inr (.inr (.inr (.inr cm10))))), (cm11, .inl (ca 2, 20, .inl cm12)), (cm13, .inl (ca 2, 3000, .inl cm14)), (cm15, .inr (13, rg 81 cm16)), (cm17, .inr (13, rg 81 cm18))] H) (hD : va_D A [(xx, .inr (12, rg 10 cx0)), (cx1, .inr (3, rg 22 cx2)), (cx3, .inl (ca 4, 2, .inr (.inr (.inr (.inr cx4))))), (cx5, .inr (0, rg 3 cx6)), (cx7, .inl (ca 0, 20, .inl cx8)), (cx9, .inr (0, rg 3 cx10)), (cx11, .inr (10, rg 9 cx12)), (cx13, .inl (ca 0, 20480, .inl cx14)), (cx15, .inl (ca 0, 3000, .inl cx16)), (cx17, .inl (ca 1, 3001, .inr (.inl cx18))), (cx19, .inl (ca 0, 3001, .inl cx20)), (cx21, .inl (ca 0, 3001, .inl cx22)), (mm, .inr (14, rg 107 cm0)), (cm1, .inl (ca 0, 8, .inl cm2)), (cm3, .inl (ca 0, 3001, .inl cm4)), (cm5, .inl (ca 0, 3001, .inl cm6)), (cm7, .inr (13, rg 81 cm8)), (cm9, .inl (ca 5, 2, .inr (.inr (.inr (.inr cm10))))), (cm11, .inl (ca 2, 20, .inl cm12)), (cm13, .inl (ca 2, 3000, .inl cm14)), (cm15, .inr (13, rg 81 cm16)), (cm17, .inr (13, rg 81 cm18))]) (hS : va_S A s.heap H locs) {ls : Array Slot} (hl : lv_has ls 4 [(3, .int 0), (2, .ref mm), (1, .ref xx), (0, .ref b)]) : W p l e room_1 s m #[Value.ref b] below meth c H locs 282 716534 (lw_Z below #[Value.ref b] s) (F0 m 544 ls []) := by
  obtain ⟨hx, hb, hr, hml, hown, hts0, hXs, hbl, hlocks, hgv⟩ := id C0
  have hts := wA_hts hts0
  have hbA : ¬ A b := fun z => Nat.not_le.mpr hbl (hA2 b z)
  have hown : s.vm.findClass "StaveHouseLaw" = some m.cls := hown
  refine lv_aload_n hx hb d_code_544 rfl (lv_at hl 2 rfl) ?_
  refine lv_aload_n hx hb d_code_545 rfl (lv_at hl 3 rfl) ?_
  refine lv_iload_n hx hb d_code_546 rfl (lv_at hl 0 rfl) ?_
  refine lv_iconst (v := 1) hx hb d_code_547 (by decide) ?_
  refine lv_iadd hx hb d_code_548 ?_
  refine lv_topi (fun y1 ey1 => ?_)
  obtain rfl : y1 = 1 := ey1.trans (by decide)
  refine va_sld hx hb hXs hbl hbA hS (vinC (by decide)) d_code_549 ?_
  refine W.eq (g2 := F0 m 550 ls [.int (xs 1), .ref xx]) rfl ?_
  refine lv_aload_n hx hb d_code_550 rfl (lv_at hl 3 rfl) ?_
  refine lv_iload_n hx hb d_code_551 rfl (lv_at hl 0 rfl) ?_
  refine lv_iconst (v := 2) hx hb d_code_552 (by decide) ?_
  refine lv_iadd hx hb d_code_553 ?_
  refine lv_topi (fun y2 ey2 => ?_)
  obtain rfl : y2 = 2 := ey2.trans (by decide)
  refine va_sld hx hb hXs hbl hbA hS (vinC (by decide)) d_code_554 ?_
  refine W.eq (g2 := F0 m 555 ls [.int (xs 2), .int (xs 1), .ref xx]) rfl ?_
  have hFc3 := va_free (wc := [(xx, .inr (12, rg 10 cx0)), (cx3, .inl (ca 4, 2, .inr (.inr (.inr (.inr cx4)))))]) hD hS hA [0, 2] rfl
  refine va_calli (va_runV (As := [.int (xs 1), .int (xs 2)]) (rest := []) ⟨hx, hb, hml, hown, hts⟩ (c_S_lines_0 l D ca ad av H.size xx cx3 cx0 cx4 (xs 1) (xs 2) (hcx0.sub [1] rfl) (hcx2.sub [0, 1] rfl)) (cwV 2 hts (gdV k_6_205 k_6_206 k_6_207 k_1_1 k_6_208) rfl rfl rfl (by decide +kernel) ⟨Nat.le_of_ble_eq_true rfl, Nat.le_of_ble_eq_true rfl⟩) (gPV hP hD hK hS hA hX [0, 2] (by decide) rfl xx [.int (xs 1), .int (xs 2)] 0 (ci := 12) (r := (RX12, TX12, 10)) rfl rfl) rfl rfl hl.1 rfl (lv_room (Nat.le_of_ble_eq_true rfl)) d_code_555 ⟨Nat.le_of_ble_eq_true rfl, Nat.le_of_ble_eq_true rfl⟩) hS (fun q _ h => hFc3 q h) hFc3 (fun r3 u3 t3 H3 locs3 ht3 hvm3 hw3 hB3 hz3 hk3 hS3 => ?_)
  have hr3 := hw3
  obtain ⟨hP3, hD3⟩ := gJoin (wr := [(cx1, .inr (3, rg 22 cx2)), (cx5, .inr (0, rg 3 cx6)), (cx7, .inl (ca 0, 20, .inl cx8)), (cx9, .inr (0, rg 3 cx10)), (cx11, .inr (10, rg 9 cx12)), (cx13, .inl (ca 0, 20480, .inl cx14)), (cx15, .inl (ca 0, 3000, .inl cx16)), (cx17, .inl (ca 1, 3001, .inr (.inl cx18))), (cx19, .inl (ca 0, 3001, .inl cx20)), (cx21, .inl (ca 0, 3001, .inl cx22)), (mm, .inr (14, rg 107 cm0)), (cm1, .inl (ca 0, 8, .inl cm2)), (cm3, .inl (ca 0, 3001, .inl cm4)), (cm5, .inl (ca 0, 3001, .inl cm6)), (cm7, .inr (13, rg 81 cm8)), (cm9, .inl (ca 5, 2, .inr (.inr (.inr (.inr cm10))))), (cm11, .inl (ca 2, 20, .inl cm12)), (cm13, .inl (ca 2, 3000, .inl cm14)), (cm15, .inr (13, rg 81 cm16)), (cm17, .inr (13, rg 81 cm18))]) (w1 := [(xx, .inr (12, rg 10 cx0)), (cx3, .inl (ca 4, 2, .inr (.inr (.inr (.inr cx4)))))]) hP hD [0, 2] [1, 3, 4, 5, 6, 7, 8, 9, 10, 11, 12, 13, 14, 15, 16, 17, 18, 19, 20, 21] rfl rfl (by decide) (by decide) hk3 hFc3 ht3 hB3
  have hP3 : va_P D cls [(cx1, .inr (3, rg 22 cx2)), (cx5, .inr (0, rg 3 cx6)), (cx7, .inl (ca 0, 20, .inl cx8)), (cx9, .inr (0, rg 3 cx10)), (cx11, .inr (10, rg 9 cx12)), (cx13, .inl (ca 0, 20480, .inl cx14)), (cx15, .inl (ca 0, 3000, .inl cx16)), (cx17, .inl (ca 1, 3001, .inr (.inl cx18))), (cx19, .inl (ca 0, 3001, .inl cx20)), (cx21, .inl (ca 0, 3001, .inl cx22)), (mm, .inr (14, rg 107 cm0)), (cm1, .inl (ca 0, 8, .inl cm2)), (cm3, .inl (ca 0, 3001, .inl cm4)), (cm5, .inl (ca 0, 3001, .inl cm6)), (cm7, .inr (13, rg 81 cm8)), (cm9, .inl (ca 5, 2, .inr (.inr (.inr (.inr cm10))))), (cm11, .inl (ca 2, 20, .inl cm12)), (cm13, .inl (ca 2, 3000, .inl cm14)), (cm15, .inr (13, rg 81 cm16)), (cm17, .inr (13, rg 81 cm18)), (xx, .inr (12, rg 10 cx0)), (cx3, .inl (ca 4, 2, .inr (.inr (.inr (.inr cx4)))))] H3 := hP3
  have hD3 : va_D A [(cx1, .inr (3, rg 22 cx2)), (cx5, .inr (0, rg 3 cx6)), (cx7, .inl (ca 0, 20, .inl cx8)), (cx9, .inr (0, rg 3 cx10)), (cx11, .inr (10, rg 9 cx12)), (cx13, .inl (ca 0, 20480, .inl cx14)), (cx15, .inl (ca 0, 3000, .inl cx16)), (cx17, .inl (ca 1, 3001, .inr (.inl cx18))), (cx19, .inl (ca 0, 3001, .inl cx20)), (cx21, .inl (ca 0, 3001, .inl cx22)), (mm, .inr (14, rg 107 cm0)), (cm1, .inl (ca 0, 8, .inl cm2)), (cm3, .inl (ca 0, 3001, .inl cm4)), (cm5, .inl (ca 0, 3001, .inl cm6)), (cm7, .inr (13, rg 81 cm8)), (cm9, .inl (ca 5, 2, .inr (.inr (.inr (.inr cm10))))), (cm11, .inl (ca 2, 20, .inl cm12)), (cm13, .inl (ca 2, 3000, .inl cm14)), (cm15, .inr (13, rg 81 cm16)), (cm17, .inr (13, rg 81 cm18)), (xx, .inr (12, rg 10 cx0)), (cx3, .inl (ca 4, 2, .inr (.inr (.inr (.inr cx4)))))] := hD3
  refine W.widen (k := 282) (n := 716534) (Nat.le_of_ble_eq_true rfl) (Nat.le_of_ble_eq_true rfl) ?_
  subst hr3
  refine lv_aload_n hx hb d_code_558 rfl (lv_at hl 1 rfl) ?_
  refine lv_aload_n hx hb d_code_559 rfl (lv_at hl 3 rfl) ?_
  refine lv_iload_n hx hb d_code_560 rfl (lv_at hl 0 rfl) ?_
  refine lv_iconst (v := 1) hx hb d_code_561 (by decide) ?_
  refine lv_iadd hx hb d_code_562 ?_
  refine lv_topi (fun y4 ey4 => ?_)
  obtain rfl : y4 = 1 := ey4.trans (by decide)
  refine va_sld hx hb hXs hbl hbA hS3 (vinC (by decide)) d_code_563 ?_
  refine W.eq (g2 := F0 m 564 ls [.int (xs 1), .ref mm, .int (-1)]) rfl ?_
  refine lv_aload_n hx hb d_code_564 rfl (lv_at hl 3 rfl) ?_
  refine lv_iload_n hx hb d_code_565 rfl (lv_at hl 0 rfl) ?_
  refine lv_iconst (v := 2) hx hb d_code_566 (by decide) ?_
  refine lv_iadd hx hb d_code_567 ?_
  refine lv_topi (fun y5 ey5 => ?_)
  obtain rfl : y5 = 2 := ey5.trans (by decide)
  refine va_sld hx hb hXs hbl hbA hS3 (vinC (by decide)) d_code_568 ?_
  refine W.eq (g2 := F0 m 569 ls [.int (xs 2), .int (xs 1), .ref mm, .int (-1)]) rfl ?_
  have hFc6 := va_free (wc := [(mm, .inr (14, rg 107 cm0)), (cm9, .inl (ca 5, 2, .inr (.inr (.inr (.inr cm10))))), (cm15, .inr (13, rg 81 cm16)), (cm17, .inr (13, rg 81 cm18))]) hD3 hS3 hA [10, 15, 18, 19] rfl
  refine va_calli (va_runV (As := [.int (xs 1), .int (xs 2)]) (rest := [.int (-1)]) ⟨hx, hb, hml, hown, hts⟩ (c_M_lines_0 l D ca ad av H3.size mm cm9 cm15 cm17 cm0 cm10 cm16 cm18 (xs 1) (xs 2) (hcm0.sub [4] rfl) (hcm5.sub [0, 1] rfl) (hcm8.sub [0] rfl) (hcm9.sub [0] rfl)) (cwV 2 hts (gdV k_12_88 k_12_89 k_12_90 k_1_9 k_12_91) rfl rfl rfl (by decide +kernel) ⟨Nat.le_of_ble_eq_true rfl, Nat.le_of_ble_eq_true rfl⟩) (gPV hP3 hD3 hK hS3 hA hX [10, 15, 18, 19] (by decide) rfl mm [.int (xs 1), .int (xs 2)] 10 (ci := 14) (r := (RX14, TX14, 107)) rfl rfl) rfl rfl hl.1 rfl (lv_room (Nat.le_of_ble_eq_true rfl)) d_code_569 ⟨Nat.le_of_ble_eq_true rfl, Nat.le_of_ble_eq_true rfl⟩) hS3 (fun q _ h => hFc6 q h) hFc6 (fun r6 u6 t6 H6 locs6 ht6 hvm6 hw6 hB6 hz6 hk6 hS6 => ?_)
  have hr6 := hw6
  obtain ⟨hP6, hD6⟩ := gJoin (wr := [(cx1, .inr (3, rg 22 cx2)), (cx5, .inr (0, rg 3 cx6)), (cx7, .inl (ca 0, 20, .inl cx8)), (cx9, .inr (0, rg 3 cx10)), (cx11, .inr (10, rg 9 cx12)), (cx13, .inl (ca 0, 20480, .inl cx14)), (cx15, .inl (ca 0, 3000, .inl cx16)), (cx17, .inl (ca 1, 3001, .inr (.inl cx18))), (cx19, .inl (ca 0, 3001, .inl cx20)), (cx21, .inl (ca 0, 3001, .inl cx22)), (cm1, .inl (ca 0, 8, .inl cm2)), (cm3, .inl (ca 0, 3001, .inl cm4)), (cm5, .inl (ca 0, 3001, .inl cm6)), (cm7, .inr (13, rg 81 cm8)), (cm11, .inl (ca 2, 20, .inl cm12)), (cm13, .inl (ca 2, 3000, .inl cm14)), (xx, .inr (12, rg 10 cx0)), (cx3, .inl (ca 4, 2, .inr (.inr (.inr (.inr cx4)))))]) (w1 := [(mm, .inr (14, rg 107 cm0)), (cm9, .inl (ca 5, 2, .inr (.inr (.inr (.inr cm10))))), (cm15, .inr (13, rg 81 cm16)), (cm17, .inr (13, rg 81 cm18))]) hP3 hD3 [10, 15, 18, 19] [0, 1, 2, 3, 4, 5, 6, 7, 8, 9, 11, 12, 13, 14, 16, 17, 20, 21] rfl rfl (by decide) (by decide) hk6 hFc6 ht6 hB6
  have hP6 : va_P D cls [(cx1, .inr (3, rg 22 cx2)), (cx5, .inr (0, rg 3 cx6)), (cx7, .inl (ca 0, 20, .inl cx8)), (cx9, .inr (0, rg 3 cx10)), (cx11, .inr (10, rg 9 cx12)), (cx13, .inl (ca 0, 20480, .inl cx14)), (cx15, .inl (ca 0, 3000, .inl cx16)), (cx17, .inl (ca 1, 3001, .inr (.inl cx18))), (cx19, .inl (ca 0, 3001, .inl cx20)), (cx21, .inl (ca 0, 3001, .inl cx22)), (cm1, .inl (ca 0, 8, .inl cm2)), (cm3, .inl (ca 0, 3001, .inl cm4)), (cm5, .inl (ca 0, 3001, .inl cm6)), (cm7, .inr (13, rg 81 cm8)), (cm11, .inl (ca 2, 20, .inl cm12)), (cm13, .inl (ca 2, 3000, .inl cm14)), (xx, .inr (12, rg 10 cx0)), (cx3, .inl (ca 4, 2, .inr (.inr (.inr (.inr cx4))))), (mm, .inr (14, rg 107 cm0)), (cm9, .inl (ca 5, 2, .inr (.inr (.inr (.inr cm10))))), (cm15, .inr (13, rg 81 cm16)), (cm17, .inr (13, rg 81 cm18))] H6 := hP6
  have hD6 : va_D A [(cx1, .inr (3, rg 22 cx2)), (cx5, .inr (0, rg 3 cx6)), (cx7, .inl (ca 0, 20, .inl cx8)), (cx9, .inr (0, rg 3 cx10)), (cx11, .inr (10, rg 9 cx12)), (cx13, .inl (ca 0, 20480, .inl cx14)), (cx15, .inl (ca 0, 3000, .inl cx16)), (cx17, .inl (ca 1, 3001, .inr (.inl cx18))), (cx19, .inl (ca 0, 3001, .inl cx20)), (cx21, .inl (ca 0, 3001, .inl cx22)), (cm1, .inl (ca 0, 8, .inl cm2)), (cm3, .inl (ca 0, 3001, .inl cm4)), (cm5, .inl (ca 0, 3001, .inl cm6)), (cm7, .inr (13, rg 81 cm8)), (cm11, .inl (ca 2, 20, .inl cm12)), (cm13, .inl (ca 2, 3000, .inl cm14)), (xx, .inr (12, rg 10 cx0)), (cx3, .inl (ca 4, 2, .inr (.inr (.inr (.inr cx4))))), (mm, .inr (14, rg 107 cm0)), (cm9, .inl (ca 5, 2, .inr (.inr (.inr (.inr cm10))))), (cm15, .inr (13, rg 81 cm16)), (cm17, .inr (13, rg 81 cm18))] := hD6
  refine W.widen (k := 282) (n := 716534) (Nat.le_of_ble_eq_true rfl) (Nat.le_of_ble_eq_true rfl) ?_
  subst hr6
  refine lv_icmp_eq (tgt := 1198) hx hb d_code_572 (by decide) (fun _ => ?_) (fun c => absurd (by decide) c)
  exact law_tail C0 hA2 hS6 (Nat.le_of_ble_eq_true rfl) (Nat.le_of_ble_eq_true rfl) hl
set_option maxHeartbeats 8000000 in
set_option maxRecDepth 100000 in
theorem law_case_10 {p : Program} {l : Launch} {e : Env} {s : State} {m : MethodId} {below : List Frame} {meth : Method} {c : Code} {b : Nat} {xs : Nat → Int32} (C0 : lw_At p s m meth c b 9 xs) {D : va_G} {ca : Nat → ClassId} {ad av : Nat → Nat} {A : Nat → Prop} (hA : ∀ q, s.heap.size ≤ q → A q) (hA2 : ∀ q, A q → s.heap.size ≤ q) {xx : Nat} {cx1 : Nat} {cx3 : Nat} {cx5 : Nat} {cx7 : Nat} {cx9 : Nat} {cx11 : Nat} {cx13 : Nat} {cx15 : Nat} {cx17 : Nat} {cx19 : Nat} {cx21 : Nat} {mm : Nat} {cm1 : Nat} {cm3 : Nat} {cm5 : Nat} {cm7 : Nat} {cm9 : Nat} {cm11 : Nat} {cm13 : Nat} {cm15 : Nat} {cm17 : Nat} {cx0 : Nat → Value} {cx2 : Nat → Value} {cx4 : Nat → Option Nat} {cx6 : Nat → Value} {cx8 : Nat → Int32} {cx10 : Nat → Value} {cx12 : Nat → Value} {cx14 : Nat → Int32} {cx16 : Nat → Int32} {cx18 : Nat → Int64} {cx20 : Nat → Int32} {cx22 : Nat → Int32} {cm0 : Nat → Value} {cm2 : Nat → Int32} {cm4 : Nat → Int32} {cm6 : Nat → Int32} {cm8 : Nat → Value} {cm10 : Nat → Option Nat} {cm12 : Nat → Int32} {cm14 : Nat → Int32} {cm16 : Nat → Value} {cm18 : Nat → Value} (hcx0 : gF cx0 [(4, .ref cx1), (3, .ref cx3), (2, .ref cx5), (1, .ref cx7), (0, .ref cx9), (7, .null), (8, .null), (9, .null)]) (hcx1 : gF cx2 [(11, .ref cx11), (16, .int 0), (21, .int 0)]) (hcx2 : gF cx4 [(0, none), (1, none)]) (hcx3 : gF cx6 [(0, .ref cx13), (1, .int 0), (2, .int 0)]) (hcx4 : gF cx8 []) (hcx5 : gF cx10 [(0, .ref cx15), (1, .int 0), (2, .int 0)]) (hcx6 : gF cx12 [(7, .ref cx17), (6, .ref cx19), (5, .ref cx21), (0, .int 0), (1, .int 0), (2, .long 0), (8, .int 0)]) (hcx7 : gF cx14 []) (hcx8 : gF cx16 []) (hcx9 : gF cx18 []) (hcx10 : gF cx20 []) (hcx11 : gF cx22 []) (hcm0 : gF cm0 [(74, .ref cm1), (8, .ref cm3), (7, .ref cm5), (6, .ref cm7), (5, .ref cm9), (4, .ref cm11), (2, .ref cm13), (3, .int 0), (12, .int 0), (16, .int 0), (17, .int 0), (18, .int 0), (71, .int 0), (72, .int 0), (89, .int 0), (90, .long 0), (94, .int 0)]) (hcm1 : gF cm2 []) (hcm2 : gF cm4 []) (hcm3 : gF cm6 []) (hcm4 : gF cm8 [(0, .int 0), (1, .int 0)]) (hcm5 : gF cm10 [(1, some cm15), (0, some cm17)]) (hcm6 : gF cm12 []) (hcm7 : gF cm14 []) (hcm8 : gF cm16 [(0, .int 0), (1, .int 0)]) (hcm9 : gF cm18 [(0, .int 0), (1, .int 0)]) (hK : va_K D cls (tyL ca) s) (hX : gX ad av A s s.heap) {H : Heap} {locs : List Loc} (hP : va_P D cls [(xx, .inr (12, rg 10 cx0)), (cx1, .inr (3, rg 22 cx2)), (cx3, .inl (ca 4, 2, .inr (.inr (.inr (.inr cx4))))), (cx5, .inr (0, rg 3 cx6)), (cx7, .inl (ca 0, 20, .inl cx8)), (cx9, .inr (0, rg 3 cx10)), (cx11, .inr (10, rg 9 cx12)), (cx13, .inl (ca 0, 20480, .inl cx14)), (cx15, .inl (ca 0, 3000, .inl cx16)), (cx17, .inl (ca 1, 3001, .inr (.inl cx18))), (cx19, .inl (ca 0, 3001, .inl cx20)), (cx21, .inl (ca 0, 3001, .inl cx22)), (mm, .inr (14, rg 107 cm0)), (cm1, .inl (ca 0, 8, .inl cm2)), (cm3, .inl (ca 0, 3001, .inl cm4)), (cm5, .inl (ca 0, 3001, .inl cm6)), (cm7, .inr (13, rg 81 cm8)), (cm9, .inl (ca 5, 2, .inr (.inr (.inr (.inr cm10))))), (cm11, .inl (ca 2, 20, .inl cm12)), (cm13, .inl (ca 2, 3000, .inl cm14)), (cm15, .inr (13, rg 81 cm16)), (cm17, .inr (13, rg 81 cm18))] H) (hD : va_D A [(xx, .inr (12, rg 10 cx0)), (cx1, .inr (3, rg 22 cx2)), (cx3, .inl (ca 4, 2, .inr (.inr (.inr (.inr cx4))))), (cx5, .inr (0, rg 3 cx6)), (cx7, .inl (ca 0, 20, .inl cx8)), (cx9, .inr (0, rg 3 cx10)), (cx11, .inr (10, rg 9 cx12)), (cx13, .inl (ca 0, 20480, .inl cx14)), (cx15, .inl (ca 0, 3000, .inl cx16)), (cx17, .inl (ca 1, 3001, .inr (.inl cx18))), (cx19, .inl (ca 0, 3001, .inl cx20)), (cx21, .inl (ca 0, 3001, .inl cx22)), (mm, .inr (14, rg 107 cm0)), (cm1, .inl (ca 0, 8, .inl cm2)), (cm3, .inl (ca 0, 3001, .inl cm4)), (cm5, .inl (ca 0, 3001, .inl cm6)), (cm7, .inr (13, rg 81 cm8)), (cm9, .inl (ca 5, 2, .inr (.inr (.inr (.inr cm10))))), (cm11, .inl (ca 2, 20, .inl cm12)), (cm13, .inl (ca 2, 3000, .inl cm14)), (cm15, .inr (13, rg 81 cm16)), (cm17, .inr (13, rg 81 cm18))]) (hS : va_S A s.heap H locs) {ls : Array Slot} (hl : lv_has ls 4 [(3, .int 0), (2, .ref mm), (1, .ref xx), (0, .ref b)]) : W p l e room_1 s m #[Value.ref b] below meth c H locs 282 716534 (lw_Z below #[Value.ref b] s) (F0 m 577 ls []) := by
  obtain ⟨hx, hb, hr, hml, hown, hts0, hXs, hbl, hlocks, hgv⟩ := id C0
  have hts := wA_hts hts0
  have hbA : ¬ A b := fun z => Nat.not_le.mpr hbl (hA2 b z)
  have hown : s.vm.findClass "StaveHouseLaw" = some m.cls := hown
  refine lv_aload_n hx hb d_code_577 rfl (lv_at hl 2 rfl) ?_
  refine lv_aload_n hx hb d_code_578 rfl (lv_at hl 3 rfl) ?_
  refine lv_iload_n hx hb d_code_579 rfl (lv_at hl 0 rfl) ?_
  refine lv_iconst (v := 1) hx hb d_code_580 (by decide) ?_
  refine lv_iadd hx hb d_code_581 ?_
  refine lv_topi (fun y1 ey1 => ?_)
  obtain rfl : y1 = 1 := ey1.trans (by decide)
  refine va_sld hx hb hXs hbl hbA hS (vinC (by decide)) d_code_582 ?_
  refine W.eq (g2 := F0 m 583 ls [.int (xs 1), .ref xx]) rfl ?_
  refine lv_aload_n hx hb d_code_583 rfl (lv_at hl 3 rfl) ?_
  refine lv_iload_n hx hb d_code_584 rfl (lv_at hl 0 rfl) ?_
  refine lv_iconst (v := 2) hx hb d_code_585 (by decide) ?_
  refine lv_iadd hx hb d_code_586 ?_
  refine lv_topi (fun y2 ey2 => ?_)
  obtain rfl : y2 = 2 := ey2.trans (by decide)
  refine va_sld hx hb hXs hbl hbA hS (vinC (by decide)) d_code_587 ?_
  refine W.eq (g2 := F0 m 588 ls [.int (xs 2), .int (xs 1), .ref xx]) rfl ?_
  refine lv_aload_n hx hb d_code_588 rfl (lv_at hl 3 rfl) ?_
  refine lv_iload_n hx hb d_code_589 rfl (lv_at hl 0 rfl) ?_
  refine lv_iconst (v := 3) hx hb d_code_590 (by decide) ?_
  refine lv_iadd hx hb d_code_591 ?_
  refine lv_topi (fun y3 ey3 => ?_)
  obtain rfl : y3 = 3 := ey3.trans (by decide)
  refine va_sld hx hb hXs hbl hbA hS (vinC (by decide)) d_code_592 ?_
  refine W.eq (g2 := F0 m 593 ls [.int (xs 3), .int (xs 2), .int (xs 1), .ref xx]) rfl ?_
  have hFc4 := va_free (wc := [(xx, .inr (12, rg 10 cx0)), (cx3, .inl (ca 4, 2, .inr (.inr (.inr (.inr cx4)))))]) hD hS hA [0, 2] rfl
  refine va_calll (va_runV (As := [.int (xs 1), .int (xs 2), .int (xs 3)]) (rest := []) ⟨hx, hb, hml, hown, hts⟩ (c_S_line_0 l D ca ad av H.size xx cx3 cx0 cx4 (xs 1) (xs 2) (xs 3) (hcx0.sub [1] rfl) (hcx2.sub [0, 1] rfl)) (cwV 3 hts (gdV k_7_67 k_7_68 k_7_69 k_1_1 k_7_70) rfl rfl rfl (by decide +kernel) ⟨Nat.le_of_ble_eq_true rfl, Nat.le_of_ble_eq_true rfl⟩) (gPV hP hD hK hS hA hX [0, 2] (by decide) rfl xx [.int (xs 1), .int (xs 2), .int (xs 3)] 0 (ci := 12) (r := (RX12, TX12, 10)) rfl rfl) rfl rfl hl.1 rfl (lv_room (Nat.le_of_ble_eq_true rfl)) d_code_593 ⟨Nat.le_of_ble_eq_true rfl, Nat.le_of_ble_eq_true rfl⟩) hS (fun q _ h => hFc4 q h) hFc4 (fun r4 u4 t4 H4 locs4 ht4 hvm4 hw4 hB4 hz4 hk4 hS4 => ?_)
  have hr4 := hw4
  obtain ⟨hP4, hD4⟩ := gJoin (wr := [(cx1, .inr (3, rg 22 cx2)), (cx5, .inr (0, rg 3 cx6)), (cx7, .inl (ca 0, 20, .inl cx8)), (cx9, .inr (0, rg 3 cx10)), (cx11, .inr (10, rg 9 cx12)), (cx13, .inl (ca 0, 20480, .inl cx14)), (cx15, .inl (ca 0, 3000, .inl cx16)), (cx17, .inl (ca 1, 3001, .inr (.inl cx18))), (cx19, .inl (ca 0, 3001, .inl cx20)), (cx21, .inl (ca 0, 3001, .inl cx22)), (mm, .inr (14, rg 107 cm0)), (cm1, .inl (ca 0, 8, .inl cm2)), (cm3, .inl (ca 0, 3001, .inl cm4)), (cm5, .inl (ca 0, 3001, .inl cm6)), (cm7, .inr (13, rg 81 cm8)), (cm9, .inl (ca 5, 2, .inr (.inr (.inr (.inr cm10))))), (cm11, .inl (ca 2, 20, .inl cm12)), (cm13, .inl (ca 2, 3000, .inl cm14)), (cm15, .inr (13, rg 81 cm16)), (cm17, .inr (13, rg 81 cm18))]) (w1 := [(xx, .inr (12, rg 10 cx0)), (cx3, .inl (ca 4, 2, .inr (.inr (.inr (.inr cx4)))))]) hP hD [0, 2] [1, 3, 4, 5, 6, 7, 8, 9, 10, 11, 12, 13, 14, 15, 16, 17, 18, 19, 20, 21] rfl rfl (by decide) (by decide) hk4 hFc4 ht4 hB4
  have hP4 : va_P D cls [(cx1, .inr (3, rg 22 cx2)), (cx5, .inr (0, rg 3 cx6)), (cx7, .inl (ca 0, 20, .inl cx8)), (cx9, .inr (0, rg 3 cx10)), (cx11, .inr (10, rg 9 cx12)), (cx13, .inl (ca 0, 20480, .inl cx14)), (cx15, .inl (ca 0, 3000, .inl cx16)), (cx17, .inl (ca 1, 3001, .inr (.inl cx18))), (cx19, .inl (ca 0, 3001, .inl cx20)), (cx21, .inl (ca 0, 3001, .inl cx22)), (mm, .inr (14, rg 107 cm0)), (cm1, .inl (ca 0, 8, .inl cm2)), (cm3, .inl (ca 0, 3001, .inl cm4)), (cm5, .inl (ca 0, 3001, .inl cm6)), (cm7, .inr (13, rg 81 cm8)), (cm9, .inl (ca 5, 2, .inr (.inr (.inr (.inr cm10))))), (cm11, .inl (ca 2, 20, .inl cm12)), (cm13, .inl (ca 2, 3000, .inl cm14)), (cm15, .inr (13, rg 81 cm16)), (cm17, .inr (13, rg 81 cm18)), (xx, .inr (12, rg 10 cx0)), (cx3, .inl (ca 4, 2, .inr (.inr (.inr (.inr cx4)))))] H4 := hP4
  have hD4 : va_D A [(cx1, .inr (3, rg 22 cx2)), (cx5, .inr (0, rg 3 cx6)), (cx7, .inl (ca 0, 20, .inl cx8)), (cx9, .inr (0, rg 3 cx10)), (cx11, .inr (10, rg 9 cx12)), (cx13, .inl (ca 0, 20480, .inl cx14)), (cx15, .inl (ca 0, 3000, .inl cx16)), (cx17, .inl (ca 1, 3001, .inr (.inl cx18))), (cx19, .inl (ca 0, 3001, .inl cx20)), (cx21, .inl (ca 0, 3001, .inl cx22)), (mm, .inr (14, rg 107 cm0)), (cm1, .inl (ca 0, 8, .inl cm2)), (cm3, .inl (ca 0, 3001, .inl cm4)), (cm5, .inl (ca 0, 3001, .inl cm6)), (cm7, .inr (13, rg 81 cm8)), (cm9, .inl (ca 5, 2, .inr (.inr (.inr (.inr cm10))))), (cm11, .inl (ca 2, 20, .inl cm12)), (cm13, .inl (ca 2, 3000, .inl cm14)), (cm15, .inr (13, rg 81 cm16)), (cm17, .inr (13, rg 81 cm18)), (xx, .inr (12, rg 10 cx0)), (cx3, .inl (ca 4, 2, .inr (.inr (.inr (.inr cx4)))))] := hD4
  refine W.widen (k := 282) (n := 716534) (Nat.le_of_ble_eq_true rfl) (Nat.le_of_ble_eq_true rfl) ?_
  subst hr4
  refine lv_aload_n hx hb d_code_596 rfl (lv_at hl 1 rfl) ?_
  refine lv_aload_n hx hb d_code_597 rfl (lv_at hl 3 rfl) ?_
  refine lv_iload_n hx hb d_code_598 rfl (lv_at hl 0 rfl) ?_
  refine lv_iconst (v := 1) hx hb d_code_599 (by decide) ?_
  refine lv_iadd hx hb d_code_600 ?_
  refine lv_topi (fun y5 ey5 => ?_)
  obtain rfl : y5 = 1 := ey5.trans (by decide)
  refine va_sld hx hb hXs hbl hbA hS4 (vinC (by decide)) d_code_601 ?_
  refine W.eq (g2 := F0 m 602 ls [.int (xs 1), .ref mm, .long (-1)]) rfl ?_
  refine lv_aload_n hx hb d_code_602 rfl (lv_at hl 3 rfl) ?_
  refine lv_iload_n hx hb d_code_603 rfl (lv_at hl 0 rfl) ?_
  refine lv_iconst (v := 2) hx hb d_code_604 (by decide) ?_
  refine lv_iadd hx hb d_code_605 ?_
  refine lv_topi (fun y6 ey6 => ?_)
  obtain rfl : y6 = 2 := ey6.trans (by decide)
  refine va_sld hx hb hXs hbl hbA hS4 (vinC (by decide)) d_code_606 ?_
  refine W.eq (g2 := F0 m 607 ls [.int (xs 2), .int (xs 1), .ref mm, .long (-1)]) rfl ?_
  refine lv_aload_n hx hb d_code_607 rfl (lv_at hl 3 rfl) ?_
  refine lv_iload_n hx hb d_code_608 rfl (lv_at hl 0 rfl) ?_
  refine lv_iconst (v := 3) hx hb d_code_609 (by decide) ?_
  refine lv_iadd hx hb d_code_610 ?_
  refine lv_topi (fun y7 ey7 => ?_)
  obtain rfl : y7 = 3 := ey7.trans (by decide)
  refine va_sld hx hb hXs hbl hbA hS4 (vinC (by decide)) d_code_611 ?_
  refine W.eq (g2 := F0 m 612 ls [.int (xs 3), .int (xs 2), .int (xs 1), .ref mm, .long (-1)]) rfl ?_
  have hFc8 := va_free (wc := [(mm, .inr (14, rg 107 cm0)), (cm9, .inl (ca 5, 2, .inr (.inr (.inr (.inr cm10))))), (cm15, .inr (13, rg 81 cm16)), (cm17, .inr (13, rg 81 cm18))]) hD4 hS4 hA [10, 15, 18, 19] rfl
  refine va_calll (va_runV (As := [.int (xs 1), .int (xs 2), .int (xs 3)]) (rest := [.long (-1)]) ⟨hx, hb, hml, hown, hts⟩ (c_M_line_0 l D ca ad av H4.size mm cm9 cm15 cm17 cm0 cm10 cm16 cm18 (xs 1) (xs 2) (xs 3) (hcm0.sub [4] rfl) (hcm5.sub [0, 1] rfl) (hcm8.sub [0] rfl) (hcm9.sub [0] rfl)) (cwV 3 hts (gdV k_12_107 k_12_108 k_12_109 k_1_9 k_12_110) rfl rfl rfl (by decide +kernel) ⟨Nat.le_of_ble_eq_true rfl, Nat.le_of_ble_eq_true rfl⟩) (gPV hP4 hD4 hK hS4 hA hX [10, 15, 18, 19] (by decide) rfl mm [.int (xs 1), .int (xs 2), .int (xs 3)] 10 (ci := 14) (r := (RX14, TX14, 107)) rfl rfl) rfl rfl hl.1 rfl (lv_room (Nat.le_of_ble_eq_true rfl)) d_code_612 ⟨Nat.le_of_ble_eq_true rfl, Nat.le_of_ble_eq_true rfl⟩) hS4 (fun q _ h => hFc8 q h) hFc8 (fun r8 u8 t8 H8 locs8 ht8 hvm8 hw8 hB8 hz8 hk8 hS8 => ?_)
  have hr8 := hw8
  obtain ⟨hP8, hD8⟩ := gJoin (wr := [(cx1, .inr (3, rg 22 cx2)), (cx5, .inr (0, rg 3 cx6)), (cx7, .inl (ca 0, 20, .inl cx8)), (cx9, .inr (0, rg 3 cx10)), (cx11, .inr (10, rg 9 cx12)), (cx13, .inl (ca 0, 20480, .inl cx14)), (cx15, .inl (ca 0, 3000, .inl cx16)), (cx17, .inl (ca 1, 3001, .inr (.inl cx18))), (cx19, .inl (ca 0, 3001, .inl cx20)), (cx21, .inl (ca 0, 3001, .inl cx22)), (cm1, .inl (ca 0, 8, .inl cm2)), (cm3, .inl (ca 0, 3001, .inl cm4)), (cm5, .inl (ca 0, 3001, .inl cm6)), (cm7, .inr (13, rg 81 cm8)), (cm11, .inl (ca 2, 20, .inl cm12)), (cm13, .inl (ca 2, 3000, .inl cm14)), (xx, .inr (12, rg 10 cx0)), (cx3, .inl (ca 4, 2, .inr (.inr (.inr (.inr cx4)))))]) (w1 := [(mm, .inr (14, rg 107 cm0)), (cm9, .inl (ca 5, 2, .inr (.inr (.inr (.inr cm10))))), (cm15, .inr (13, rg 81 cm16)), (cm17, .inr (13, rg 81 cm18))]) hP4 hD4 [10, 15, 18, 19] [0, 1, 2, 3, 4, 5, 6, 7, 8, 9, 11, 12, 13, 14, 16, 17, 20, 21] rfl rfl (by decide) (by decide) hk8 hFc8 ht8 hB8
  have hP8 : va_P D cls [(cx1, .inr (3, rg 22 cx2)), (cx5, .inr (0, rg 3 cx6)), (cx7, .inl (ca 0, 20, .inl cx8)), (cx9, .inr (0, rg 3 cx10)), (cx11, .inr (10, rg 9 cx12)), (cx13, .inl (ca 0, 20480, .inl cx14)), (cx15, .inl (ca 0, 3000, .inl cx16)), (cx17, .inl (ca 1, 3001, .inr (.inl cx18))), (cx19, .inl (ca 0, 3001, .inl cx20)), (cx21, .inl (ca 0, 3001, .inl cx22)), (cm1, .inl (ca 0, 8, .inl cm2)), (cm3, .inl (ca 0, 3001, .inl cm4)), (cm5, .inl (ca 0, 3001, .inl cm6)), (cm7, .inr (13, rg 81 cm8)), (cm11, .inl (ca 2, 20, .inl cm12)), (cm13, .inl (ca 2, 3000, .inl cm14)), (xx, .inr (12, rg 10 cx0)), (cx3, .inl (ca 4, 2, .inr (.inr (.inr (.inr cx4))))), (mm, .inr (14, rg 107 cm0)), (cm9, .inl (ca 5, 2, .inr (.inr (.inr (.inr cm10))))), (cm15, .inr (13, rg 81 cm16)), (cm17, .inr (13, rg 81 cm18))] H8 := hP8
  have hD8 : va_D A [(cx1, .inr (3, rg 22 cx2)), (cx5, .inr (0, rg 3 cx6)), (cx7, .inl (ca 0, 20, .inl cx8)), (cx9, .inr (0, rg 3 cx10)), (cx11, .inr (10, rg 9 cx12)), (cx13, .inl (ca 0, 20480, .inl cx14)), (cx15, .inl (ca 0, 3000, .inl cx16)), (cx17, .inl (ca 1, 3001, .inr (.inl cx18))), (cx19, .inl (ca 0, 3001, .inl cx20)), (cx21, .inl (ca 0, 3001, .inl cx22)), (cm1, .inl (ca 0, 8, .inl cm2)), (cm3, .inl (ca 0, 3001, .inl cm4)), (cm5, .inl (ca 0, 3001, .inl cm6)), (cm7, .inr (13, rg 81 cm8)), (cm11, .inl (ca 2, 20, .inl cm12)), (cm13, .inl (ca 2, 3000, .inl cm14)), (xx, .inr (12, rg 10 cx0)), (cx3, .inl (ca 4, 2, .inr (.inr (.inr (.inr cx4))))), (mm, .inr (14, rg 107 cm0)), (cm9, .inl (ca 5, 2, .inr (.inr (.inr (.inr cm10))))), (cm15, .inr (13, rg 81 cm16)), (cm17, .inr (13, rg 81 cm18))] := hD8
  refine W.widen (k := 282) (n := 716534) (Nat.le_of_ble_eq_true rfl) (Nat.le_of_ble_eq_true rfl) ?_
  subst hr8
  refine W.lcmp hx hb d_code_615 ?_
  refine lv_topi (fun y9 ey9 => ?_)
  obtain rfl : y9 = 0 := ey9.trans (by decide)
  refine lv_if_eq (tgt := 1198) hx hb d_code_616 (by decide) (fun _ => ?_) (fun c => absurd (by decide) c)
  exact law_tail C0 hA2 hS8 (Nat.le_of_ble_eq_true rfl) (Nat.le_of_ble_eq_true rfl) hl
set_option maxHeartbeats 8000000 in
set_option maxRecDepth 100000 in
theorem law_case_11 {p : Program} {l : Launch} {e : Env} {s : State} {m : MethodId} {below : List Frame} {meth : Method} {c : Code} {b : Nat} {xs : Nat → Int32} (C0 : lw_At p s m meth c b 9 xs) {D : va_G} {ca : Nat → ClassId} {ad av : Nat → Nat} {A : Nat → Prop} (hA : ∀ q, s.heap.size ≤ q → A q) (hA2 : ∀ q, A q → s.heap.size ≤ q) {xx : Nat} {cx1 : Nat} {cx3 : Nat} {cx5 : Nat} {cx7 : Nat} {cx9 : Nat} {cx11 : Nat} {cx13 : Nat} {cx15 : Nat} {cx17 : Nat} {cx19 : Nat} {cx21 : Nat} {mm : Nat} {cm1 : Nat} {cm3 : Nat} {cm5 : Nat} {cm7 : Nat} {cm9 : Nat} {cm11 : Nat} {cm13 : Nat} {cm15 : Nat} {cm17 : Nat} {cx0 : Nat → Value} {cx2 : Nat → Value} {cx4 : Nat → Option Nat} {cx6 : Nat → Value} {cx8 : Nat → Int32} {cx10 : Nat → Value} {cx12 : Nat → Value} {cx14 : Nat → Int32} {cx16 : Nat → Int32} {cx18 : Nat → Int64} {cx20 : Nat → Int32} {cx22 : Nat → Int32} {cm0 : Nat → Value} {cm2 : Nat → Int32} {cm4 : Nat → Int32} {cm6 : Nat → Int32} {cm8 : Nat → Value} {cm10 : Nat → Option Nat} {cm12 : Nat → Int32} {cm14 : Nat → Int32} {cm16 : Nat → Value} {cm18 : Nat → Value} (hcx0 : gF cx0 [(4, .ref cx1), (3, .ref cx3), (2, .ref cx5), (1, .ref cx7), (0, .ref cx9), (7, .null), (8, .null), (9, .null)]) (hcx1 : gF cx2 [(11, .ref cx11), (16, .int 0), (21, .int 0)]) (hcx2 : gF cx4 [(0, none), (1, none)]) (hcx3 : gF cx6 [(0, .ref cx13), (1, .int 0), (2, .int 0)]) (hcx4 : gF cx8 []) (hcx5 : gF cx10 [(0, .ref cx15), (1, .int 0), (2, .int 0)]) (hcx6 : gF cx12 [(7, .ref cx17), (6, .ref cx19), (5, .ref cx21), (0, .int 0), (1, .int 0), (2, .long 0), (8, .int 0)]) (hcx7 : gF cx14 []) (hcx8 : gF cx16 []) (hcx9 : gF cx18 []) (hcx10 : gF cx20 []) (hcx11 : gF cx22 []) (hcm0 : gF cm0 [(74, .ref cm1), (8, .ref cm3), (7, .ref cm5), (6, .ref cm7), (5, .ref cm9), (4, .ref cm11), (2, .ref cm13), (3, .int 0), (12, .int 0), (16, .int 0), (17, .int 0), (18, .int 0), (71, .int 0), (72, .int 0), (89, .int 0), (90, .long 0), (94, .int 0)]) (hcm1 : gF cm2 []) (hcm2 : gF cm4 []) (hcm3 : gF cm6 []) (hcm4 : gF cm8 [(0, .int 0), (1, .int 0)]) (hcm5 : gF cm10 [(1, some cm15), (0, some cm17)]) (hcm6 : gF cm12 []) (hcm7 : gF cm14 []) (hcm8 : gF cm16 [(0, .int 0), (1, .int 0)]) (hcm9 : gF cm18 [(0, .int 0), (1, .int 0)]) (hK : va_K D cls (tyL ca) s) (hX : gX ad av A s s.heap) {H : Heap} {locs : List Loc} (hP : va_P D cls [(xx, .inr (12, rg 10 cx0)), (cx1, .inr (3, rg 22 cx2)), (cx3, .inl (ca 4, 2, .inr (.inr (.inr (.inr cx4))))), (cx5, .inr (0, rg 3 cx6)), (cx7, .inl (ca 0, 20, .inl cx8)), (cx9, .inr (0, rg 3 cx10)), (cx11, .inr (10, rg 9 cx12)), (cx13, .inl (ca 0, 20480, .inl cx14)), (cx15, .inl (ca 0, 3000, .inl cx16)), (cx17, .inl (ca 1, 3001, .inr (.inl cx18))), (cx19, .inl (ca 0, 3001, .inl cx20)), (cx21, .inl (ca 0, 3001, .inl cx22)), (mm, .inr (14, rg 107 cm0)), (cm1, .inl (ca 0, 8, .inl cm2)), (cm3, .inl (ca 0, 3001, .inl cm4)), (cm5, .inl (ca 0, 3001, .inl cm6)), (cm7, .inr (13, rg 81 cm8)), (cm9, .inl (ca 5, 2, .inr (.inr (.inr (.inr cm10))))), (cm11, .inl (ca 2, 20, .inl cm12)), (cm13, .inl (ca 2, 3000, .inl cm14)), (cm15, .inr (13, rg 81 cm16)), (cm17, .inr (13, rg 81 cm18))] H) (hD : va_D A [(xx, .inr (12, rg 10 cx0)), (cx1, .inr (3, rg 22 cx2)), (cx3, .inl (ca 4, 2, .inr (.inr (.inr (.inr cx4))))), (cx5, .inr (0, rg 3 cx6)), (cx7, .inl (ca 0, 20, .inl cx8)), (cx9, .inr (0, rg 3 cx10)), (cx11, .inr (10, rg 9 cx12)), (cx13, .inl (ca 0, 20480, .inl cx14)), (cx15, .inl (ca 0, 3000, .inl cx16)), (cx17, .inl (ca 1, 3001, .inr (.inl cx18))), (cx19, .inl (ca 0, 3001, .inl cx20)), (cx21, .inl (ca 0, 3001, .inl cx22)), (mm, .inr (14, rg 107 cm0)), (cm1, .inl (ca 0, 8, .inl cm2)), (cm3, .inl (ca 0, 3001, .inl cm4)), (cm5, .inl (ca 0, 3001, .inl cm6)), (cm7, .inr (13, rg 81 cm8)), (cm9, .inl (ca 5, 2, .inr (.inr (.inr (.inr cm10))))), (cm11, .inl (ca 2, 20, .inl cm12)), (cm13, .inl (ca 2, 3000, .inl cm14)), (cm15, .inr (13, rg 81 cm16)), (cm17, .inr (13, rg 81 cm18))]) (hS : va_S A s.heap H locs) {ls : Array Slot} (hl : lv_has ls 4 [(3, .int 0), (2, .ref mm), (1, .ref xx), (0, .ref b)]) : W p l e room_1 s m #[Value.ref b] below meth c H locs 282 716534 (lw_Z below #[Value.ref b] s) (F0 m 621 ls []) := by
  obtain ⟨hx, hb, hr, hml, hown, hts0, hXs, hbl, hlocks, hgv⟩ := id C0
  have hts := wA_hts hts0
  have hbA : ¬ A b := fun z => Nat.not_le.mpr hbl (hA2 b z)
  have hown : s.vm.findClass "StaveHouseLaw" = some m.cls := hown
  refine lv_aload_n hx hb d_code_621 rfl (lv_at hl 2 rfl) ?_
  refine lv_aload_n hx hb d_code_622 rfl (lv_at hl 3 rfl) ?_
  refine lv_iload_n hx hb d_code_623 rfl (lv_at hl 0 rfl) ?_
  refine lv_iconst (v := 1) hx hb d_code_624 (by decide) ?_
  refine lv_iadd hx hb d_code_625 ?_
  refine lv_topi (fun y1 ey1 => ?_)
  obtain rfl : y1 = 1 := ey1.trans (by decide)
  refine va_sld hx hb hXs hbl hbA hS (vinC (by decide)) d_code_626 ?_
  refine W.eq (g2 := F0 m 627 ls [.int (xs 1), .ref xx]) rfl ?_
  refine lv_aload_n hx hb d_code_627 rfl (lv_at hl 3 rfl) ?_
  refine lv_iload_n hx hb d_code_628 rfl (lv_at hl 0 rfl) ?_
  refine lv_iconst (v := 2) hx hb d_code_629 (by decide) ?_
  refine lv_iadd hx hb d_code_630 ?_
  refine lv_topi (fun y2 ey2 => ?_)
  obtain rfl : y2 = 2 := ey2.trans (by decide)
  refine va_sld hx hb hXs hbl hbA hS (vinC (by decide)) d_code_631 ?_
  refine W.eq (g2 := F0 m 632 ls [.int (xs 2), .int (xs 1), .ref xx]) rfl ?_
  refine lv_aload_n hx hb d_code_632 rfl (lv_at hl 3 rfl) ?_
  refine lv_iload_n hx hb d_code_633 rfl (lv_at hl 0 rfl) ?_
  refine lv_iconst (v := 3) hx hb d_code_634 (by decide) ?_
  refine lv_iadd hx hb d_code_635 ?_
  refine lv_topi (fun y3 ey3 => ?_)
  obtain rfl : y3 = 3 := ey3.trans (by decide)
  refine va_sld hx hb hXs hbl hbA hS (vinC (by decide)) d_code_636 ?_
  refine W.eq (g2 := F0 m 637 ls [.int (xs 3), .int (xs 2), .int (xs 1), .ref xx]) rfl ?_
  have hFc4 := va_free (wc := [(xx, .inr (12, rg 10 cx0)), (cx3, .inl (ca 4, 2, .inr (.inr (.inr (.inr cx4)))))]) hD hS hA [0, 2] rfl
  refine va_calli (va_runV (As := [.int (xs 1), .int (xs 2), .int (xs 3)]) (rest := []) ⟨hx, hb, hml, hown, hts⟩ (c_S_x_0 l D ca ad av H.size xx cx3 cx0 cx4 (xs 1) (xs 2) (xs 3) (hcx0.sub [1] rfl) (hcx2.sub [0, 1] rfl)) (cwV 3 hts (gdV k_7_75 k_7_76 k_7_77 k_1_1 k_7_78) rfl rfl rfl (by decide +kernel) ⟨Nat.le_of_ble_eq_true rfl, Nat.le_of_ble_eq_true rfl⟩) (gPV hP hD hK hS hA hX [0, 2] (by decide) rfl xx [.int (xs 1), .int (xs 2), .int (xs 3)] 0 (ci := 12) (r := (RX12, TX12, 10)) rfl rfl) rfl rfl hl.1 rfl (lv_room (Nat.le_of_ble_eq_true rfl)) d_code_637 ⟨Nat.le_of_ble_eq_true rfl, Nat.le_of_ble_eq_true rfl⟩) hS (fun q _ h => hFc4 q h) hFc4 (fun r4 u4 t4 H4 locs4 ht4 hvm4 hw4 hB4 hz4 hk4 hS4 => ?_)
  have hr4 := hw4
  obtain ⟨hP4, hD4⟩ := gJoin (wr := [(cx1, .inr (3, rg 22 cx2)), (cx5, .inr (0, rg 3 cx6)), (cx7, .inl (ca 0, 20, .inl cx8)), (cx9, .inr (0, rg 3 cx10)), (cx11, .inr (10, rg 9 cx12)), (cx13, .inl (ca 0, 20480, .inl cx14)), (cx15, .inl (ca 0, 3000, .inl cx16)), (cx17, .inl (ca 1, 3001, .inr (.inl cx18))), (cx19, .inl (ca 0, 3001, .inl cx20)), (cx21, .inl (ca 0, 3001, .inl cx22)), (mm, .inr (14, rg 107 cm0)), (cm1, .inl (ca 0, 8, .inl cm2)), (cm3, .inl (ca 0, 3001, .inl cm4)), (cm5, .inl (ca 0, 3001, .inl cm6)), (cm7, .inr (13, rg 81 cm8)), (cm9, .inl (ca 5, 2, .inr (.inr (.inr (.inr cm10))))), (cm11, .inl (ca 2, 20, .inl cm12)), (cm13, .inl (ca 2, 3000, .inl cm14)), (cm15, .inr (13, rg 81 cm16)), (cm17, .inr (13, rg 81 cm18))]) (w1 := [(xx, .inr (12, rg 10 cx0)), (cx3, .inl (ca 4, 2, .inr (.inr (.inr (.inr cx4)))))]) hP hD [0, 2] [1, 3, 4, 5, 6, 7, 8, 9, 10, 11, 12, 13, 14, 15, 16, 17, 18, 19, 20, 21] rfl rfl (by decide) (by decide) hk4 hFc4 ht4 hB4
  have hP4 : va_P D cls [(cx1, .inr (3, rg 22 cx2)), (cx5, .inr (0, rg 3 cx6)), (cx7, .inl (ca 0, 20, .inl cx8)), (cx9, .inr (0, rg 3 cx10)), (cx11, .inr (10, rg 9 cx12)), (cx13, .inl (ca 0, 20480, .inl cx14)), (cx15, .inl (ca 0, 3000, .inl cx16)), (cx17, .inl (ca 1, 3001, .inr (.inl cx18))), (cx19, .inl (ca 0, 3001, .inl cx20)), (cx21, .inl (ca 0, 3001, .inl cx22)), (mm, .inr (14, rg 107 cm0)), (cm1, .inl (ca 0, 8, .inl cm2)), (cm3, .inl (ca 0, 3001, .inl cm4)), (cm5, .inl (ca 0, 3001, .inl cm6)), (cm7, .inr (13, rg 81 cm8)), (cm9, .inl (ca 5, 2, .inr (.inr (.inr (.inr cm10))))), (cm11, .inl (ca 2, 20, .inl cm12)), (cm13, .inl (ca 2, 3000, .inl cm14)), (cm15, .inr (13, rg 81 cm16)), (cm17, .inr (13, rg 81 cm18)), (xx, .inr (12, rg 10 cx0)), (cx3, .inl (ca 4, 2, .inr (.inr (.inr (.inr cx4)))))] H4 := hP4
  have hD4 : va_D A [(cx1, .inr (3, rg 22 cx2)), (cx5, .inr (0, rg 3 cx6)), (cx7, .inl (ca 0, 20, .inl cx8)), (cx9, .inr (0, rg 3 cx10)), (cx11, .inr (10, rg 9 cx12)), (cx13, .inl (ca 0, 20480, .inl cx14)), (cx15, .inl (ca 0, 3000, .inl cx16)), (cx17, .inl (ca 1, 3001, .inr (.inl cx18))), (cx19, .inl (ca 0, 3001, .inl cx20)), (cx21, .inl (ca 0, 3001, .inl cx22)), (mm, .inr (14, rg 107 cm0)), (cm1, .inl (ca 0, 8, .inl cm2)), (cm3, .inl (ca 0, 3001, .inl cm4)), (cm5, .inl (ca 0, 3001, .inl cm6)), (cm7, .inr (13, rg 81 cm8)), (cm9, .inl (ca 5, 2, .inr (.inr (.inr (.inr cm10))))), (cm11, .inl (ca 2, 20, .inl cm12)), (cm13, .inl (ca 2, 3000, .inl cm14)), (cm15, .inr (13, rg 81 cm16)), (cm17, .inr (13, rg 81 cm18)), (xx, .inr (12, rg 10 cx0)), (cx3, .inl (ca 4, 2, .inr (.inr (.inr (.inr cx4)))))] := hD4
  refine W.widen (k := 282) (n := 716534) (Nat.le_of_ble_eq_true rfl) (Nat.le_of_ble_eq_true rfl) ?_
  subst hr4
  refine lv_aload_n hx hb d_code_640 rfl (lv_at hl 1 rfl) ?_
  refine lv_aload_n hx hb d_code_641 rfl (lv_at hl 3 rfl) ?_
  refine lv_iload_n hx hb d_code_642 rfl (lv_at hl 0 rfl) ?_
  refine lv_iconst (v := 1) hx hb d_code_643 (by decide) ?_
  refine lv_iadd hx hb d_code_644 ?_
  refine lv_topi (fun y5 ey5 => ?_)
  obtain rfl : y5 = 1 := ey5.trans (by decide)
  refine va_sld hx hb hXs hbl hbA hS4 (vinC (by decide)) d_code_645 ?_
  refine W.eq (g2 := F0 m 646 ls [.int (xs 1), .ref mm, .int (-1)]) rfl ?_
  refine lv_aload_n hx hb d_code_646 rfl (lv_at hl 3 rfl) ?_
  refine lv_iload_n hx hb d_code_647 rfl (lv_at hl 0 rfl) ?_
  refine lv_iconst (v := 2) hx hb d_code_648 (by decide) ?_
  refine lv_iadd hx hb d_code_649 ?_
  refine lv_topi (fun y6 ey6 => ?_)
  obtain rfl : y6 = 2 := ey6.trans (by decide)
  refine va_sld hx hb hXs hbl hbA hS4 (vinC (by decide)) d_code_650 ?_
  refine W.eq (g2 := F0 m 651 ls [.int (xs 2), .int (xs 1), .ref mm, .int (-1)]) rfl ?_
  refine lv_aload_n hx hb d_code_651 rfl (lv_at hl 3 rfl) ?_
  refine lv_iload_n hx hb d_code_652 rfl (lv_at hl 0 rfl) ?_
  refine lv_iconst (v := 3) hx hb d_code_653 (by decide) ?_
  refine lv_iadd hx hb d_code_654 ?_
  refine lv_topi (fun y7 ey7 => ?_)
  obtain rfl : y7 = 3 := ey7.trans (by decide)
  refine va_sld hx hb hXs hbl hbA hS4 (vinC (by decide)) d_code_655 ?_
  refine W.eq (g2 := F0 m 656 ls [.int (xs 3), .int (xs 2), .int (xs 1), .ref mm, .int (-1)]) rfl ?_
  have hFc8 := va_free (wc := [(mm, .inr (14, rg 107 cm0)), (cm9, .inl (ca 5, 2, .inr (.inr (.inr (.inr cm10))))), (cm15, .inr (13, rg 81 cm16)), (cm17, .inr (13, rg 81 cm18))]) hD4 hS4 hA [10, 15, 18, 19] rfl
  refine va_calli (va_runV (As := [.int (xs 1), .int (xs 2), .int (xs 3)]) (rest := [.int (-1)]) ⟨hx, hb, hml, hown, hts⟩ (c_M_x_0 l D ca ad av H4.size mm cm9 cm15 cm17 cm0 cm10 cm16 cm18 (xs 1) (xs 2) (xs 3) (hcm0.sub [4] rfl) (hcm5.sub [0, 1] rfl) (hcm8.sub [0] rfl) (hcm9.sub [0] rfl)) (cwV 3 hts (gdV k_12_114 k_12_115 k_12_116 k_1_9 k_12_117) rfl rfl rfl (by decide +kernel) ⟨Nat.le_of_ble_eq_true rfl, Nat.le_of_ble_eq_true rfl⟩) (gPV hP4 hD4 hK hS4 hA hX [10, 15, 18, 19] (by decide) rfl mm [.int (xs 1), .int (xs 2), .int (xs 3)] 10 (ci := 14) (r := (RX14, TX14, 107)) rfl rfl) rfl rfl hl.1 rfl (lv_room (Nat.le_of_ble_eq_true rfl)) d_code_656 ⟨Nat.le_of_ble_eq_true rfl, Nat.le_of_ble_eq_true rfl⟩) hS4 (fun q _ h => hFc8 q h) hFc8 (fun r8 u8 t8 H8 locs8 ht8 hvm8 hw8 hB8 hz8 hk8 hS8 => ?_)
  have hr8 := hw8
  obtain ⟨hP8, hD8⟩ := gJoin (wr := [(cx1, .inr (3, rg 22 cx2)), (cx5, .inr (0, rg 3 cx6)), (cx7, .inl (ca 0, 20, .inl cx8)), (cx9, .inr (0, rg 3 cx10)), (cx11, .inr (10, rg 9 cx12)), (cx13, .inl (ca 0, 20480, .inl cx14)), (cx15, .inl (ca 0, 3000, .inl cx16)), (cx17, .inl (ca 1, 3001, .inr (.inl cx18))), (cx19, .inl (ca 0, 3001, .inl cx20)), (cx21, .inl (ca 0, 3001, .inl cx22)), (cm1, .inl (ca 0, 8, .inl cm2)), (cm3, .inl (ca 0, 3001, .inl cm4)), (cm5, .inl (ca 0, 3001, .inl cm6)), (cm7, .inr (13, rg 81 cm8)), (cm11, .inl (ca 2, 20, .inl cm12)), (cm13, .inl (ca 2, 3000, .inl cm14)), (xx, .inr (12, rg 10 cx0)), (cx3, .inl (ca 4, 2, .inr (.inr (.inr (.inr cx4)))))]) (w1 := [(mm, .inr (14, rg 107 cm0)), (cm9, .inl (ca 5, 2, .inr (.inr (.inr (.inr cm10))))), (cm15, .inr (13, rg 81 cm16)), (cm17, .inr (13, rg 81 cm18))]) hP4 hD4 [10, 15, 18, 19] [0, 1, 2, 3, 4, 5, 6, 7, 8, 9, 11, 12, 13, 14, 16, 17, 20, 21] rfl rfl (by decide) (by decide) hk8 hFc8 ht8 hB8
  have hP8 : va_P D cls [(cx1, .inr (3, rg 22 cx2)), (cx5, .inr (0, rg 3 cx6)), (cx7, .inl (ca 0, 20, .inl cx8)), (cx9, .inr (0, rg 3 cx10)), (cx11, .inr (10, rg 9 cx12)), (cx13, .inl (ca 0, 20480, .inl cx14)), (cx15, .inl (ca 0, 3000, .inl cx16)), (cx17, .inl (ca 1, 3001, .inr (.inl cx18))), (cx19, .inl (ca 0, 3001, .inl cx20)), (cx21, .inl (ca 0, 3001, .inl cx22)), (cm1, .inl (ca 0, 8, .inl cm2)), (cm3, .inl (ca 0, 3001, .inl cm4)), (cm5, .inl (ca 0, 3001, .inl cm6)), (cm7, .inr (13, rg 81 cm8)), (cm11, .inl (ca 2, 20, .inl cm12)), (cm13, .inl (ca 2, 3000, .inl cm14)), (xx, .inr (12, rg 10 cx0)), (cx3, .inl (ca 4, 2, .inr (.inr (.inr (.inr cx4))))), (mm, .inr (14, rg 107 cm0)), (cm9, .inl (ca 5, 2, .inr (.inr (.inr (.inr cm10))))), (cm15, .inr (13, rg 81 cm16)), (cm17, .inr (13, rg 81 cm18))] H8 := hP8
  have hD8 : va_D A [(cx1, .inr (3, rg 22 cx2)), (cx5, .inr (0, rg 3 cx6)), (cx7, .inl (ca 0, 20, .inl cx8)), (cx9, .inr (0, rg 3 cx10)), (cx11, .inr (10, rg 9 cx12)), (cx13, .inl (ca 0, 20480, .inl cx14)), (cx15, .inl (ca 0, 3000, .inl cx16)), (cx17, .inl (ca 1, 3001, .inr (.inl cx18))), (cx19, .inl (ca 0, 3001, .inl cx20)), (cx21, .inl (ca 0, 3001, .inl cx22)), (cm1, .inl (ca 0, 8, .inl cm2)), (cm3, .inl (ca 0, 3001, .inl cm4)), (cm5, .inl (ca 0, 3001, .inl cm6)), (cm7, .inr (13, rg 81 cm8)), (cm11, .inl (ca 2, 20, .inl cm12)), (cm13, .inl (ca 2, 3000, .inl cm14)), (xx, .inr (12, rg 10 cx0)), (cx3, .inl (ca 4, 2, .inr (.inr (.inr (.inr cx4))))), (mm, .inr (14, rg 107 cm0)), (cm9, .inl (ca 5, 2, .inr (.inr (.inr (.inr cm10))))), (cm15, .inr (13, rg 81 cm16)), (cm17, .inr (13, rg 81 cm18))] := hD8
  refine W.widen (k := 282) (n := 716534) (Nat.le_of_ble_eq_true rfl) (Nat.le_of_ble_eq_true rfl) ?_
  subst hr8
  refine lv_icmp_eq (tgt := 1198) hx hb d_code_659 (by decide) (fun _ => ?_) (fun c => absurd (by decide) c)
  exact law_tail C0 hA2 hS8 (Nat.le_of_ble_eq_true rfl) (Nat.le_of_ble_eq_true rfl) hl
set_option maxHeartbeats 8000000 in
set_option maxRecDepth 100000 in
theorem law_case_12 {p : Program} {l : Launch} {e : Env} {s : State} {m : MethodId} {below : List Frame} {meth : Method} {c : Code} {b : Nat} {xs : Nat → Int32} (C0 : lw_At p s m meth c b 9 xs) {D : va_G} {ca : Nat → ClassId} {ad av : Nat → Nat} {A : Nat → Prop} (hA : ∀ q, s.heap.size ≤ q → A q) (hA2 : ∀ q, A q → s.heap.size ≤ q) {xx : Nat} {cx1 : Nat} {cx3 : Nat} {cx5 : Nat} {cx7 : Nat} {cx9 : Nat} {cx11 : Nat} {cx13 : Nat} {cx15 : Nat} {cx17 : Nat} {cx19 : Nat} {cx21 : Nat} {mm : Nat} {cm1 : Nat} {cm3 : Nat} {cm5 : Nat} {cm7 : Nat} {cm9 : Nat} {cm11 : Nat} {cm13 : Nat} {cm15 : Nat} {cm17 : Nat} {cx0 : Nat → Value} {cx2 : Nat → Value} {cx4 : Nat → Option Nat} {cx6 : Nat → Value} {cx8 : Nat → Int32} {cx10 : Nat → Value} {cx12 : Nat → Value} {cx14 : Nat → Int32} {cx16 : Nat → Int32} {cx18 : Nat → Int64} {cx20 : Nat → Int32} {cx22 : Nat → Int32} {cm0 : Nat → Value} {cm2 : Nat → Int32} {cm4 : Nat → Int32} {cm6 : Nat → Int32} {cm8 : Nat → Value} {cm10 : Nat → Option Nat} {cm12 : Nat → Int32} {cm14 : Nat → Int32} {cm16 : Nat → Value} {cm18 : Nat → Value} (hcx0 : gF cx0 [(4, .ref cx1), (3, .ref cx3), (2, .ref cx5), (1, .ref cx7), (0, .ref cx9), (7, .null), (8, .null), (9, .null)]) (hcx1 : gF cx2 [(11, .ref cx11), (16, .int 0), (21, .int 0)]) (hcx2 : gF cx4 [(0, none), (1, none)]) (hcx3 : gF cx6 [(0, .ref cx13), (1, .int 0), (2, .int 0)]) (hcx4 : gF cx8 []) (hcx5 : gF cx10 [(0, .ref cx15), (1, .int 0), (2, .int 0)]) (hcx6 : gF cx12 [(7, .ref cx17), (6, .ref cx19), (5, .ref cx21), (0, .int 0), (1, .int 0), (2, .long 0), (8, .int 0)]) (hcx7 : gF cx14 []) (hcx8 : gF cx16 []) (hcx9 : gF cx18 []) (hcx10 : gF cx20 []) (hcx11 : gF cx22 []) (hcm0 : gF cm0 [(74, .ref cm1), (8, .ref cm3), (7, .ref cm5), (6, .ref cm7), (5, .ref cm9), (4, .ref cm11), (2, .ref cm13), (3, .int 0), (12, .int 0), (16, .int 0), (17, .int 0), (18, .int 0), (71, .int 0), (72, .int 0), (89, .int 0), (90, .long 0), (94, .int 0)]) (hcm1 : gF cm2 []) (hcm2 : gF cm4 []) (hcm3 : gF cm6 []) (hcm4 : gF cm8 [(0, .int 0), (1, .int 0)]) (hcm5 : gF cm10 [(1, some cm15), (0, some cm17)]) (hcm6 : gF cm12 []) (hcm7 : gF cm14 []) (hcm8 : gF cm16 [(0, .int 0), (1, .int 0)]) (hcm9 : gF cm18 [(0, .int 0), (1, .int 0)]) (hK : va_K D cls (tyL ca) s) (hX : gX ad av A s s.heap) {H : Heap} {locs : List Loc} (hP : va_P D cls [(xx, .inr (12, rg 10 cx0)), (cx1, .inr (3, rg 22 cx2)), (cx3, .inl (ca 4, 2, .inr (.inr (.inr (.inr cx4))))), (cx5, .inr (0, rg 3 cx6)), (cx7, .inl (ca 0, 20, .inl cx8)), (cx9, .inr (0, rg 3 cx10)), (cx11, .inr (10, rg 9 cx12)), (cx13, .inl (ca 0, 20480, .inl cx14)), (cx15, .inl (ca 0, 3000, .inl cx16)), (cx17, .inl (ca 1, 3001, .inr (.inl cx18))), (cx19, .inl (ca 0, 3001, .inl cx20)), (cx21, .inl (ca 0, 3001, .inl cx22)), (mm, .inr (14, rg 107 cm0)), (cm1, .inl (ca 0, 8, .inl cm2)), (cm3, .inl (ca 0, 3001, .inl cm4)), (cm5, .inl (ca 0, 3001, .inl cm6)), (cm7, .inr (13, rg 81 cm8)), (cm9, .inl (ca 5, 2, .inr (.inr (.inr (.inr cm10))))), (cm11, .inl (ca 2, 20, .inl cm12)), (cm13, .inl (ca 2, 3000, .inl cm14)), (cm15, .inr (13, rg 81 cm16)), (cm17, .inr (13, rg 81 cm18))] H) (hD : va_D A [(xx, .inr (12, rg 10 cx0)), (cx1, .inr (3, rg 22 cx2)), (cx3, .inl (ca 4, 2, .inr (.inr (.inr (.inr cx4))))), (cx5, .inr (0, rg 3 cx6)), (cx7, .inl (ca 0, 20, .inl cx8)), (cx9, .inr (0, rg 3 cx10)), (cx11, .inr (10, rg 9 cx12)), (cx13, .inl (ca 0, 20480, .inl cx14)), (cx15, .inl (ca 0, 3000, .inl cx16)), (cx17, .inl (ca 1, 3001, .inr (.inl cx18))), (cx19, .inl (ca 0, 3001, .inl cx20)), (cx21, .inl (ca 0, 3001, .inl cx22)), (mm, .inr (14, rg 107 cm0)), (cm1, .inl (ca 0, 8, .inl cm2)), (cm3, .inl (ca 0, 3001, .inl cm4)), (cm5, .inl (ca 0, 3001, .inl cm6)), (cm7, .inr (13, rg 81 cm8)), (cm9, .inl (ca 5, 2, .inr (.inr (.inr (.inr cm10))))), (cm11, .inl (ca 2, 20, .inl cm12)), (cm13, .inl (ca 2, 3000, .inl cm14)), (cm15, .inr (13, rg 81 cm16)), (cm17, .inr (13, rg 81 cm18))]) (hS : va_S A s.heap H locs) {ls : Array Slot} (hl : lv_has ls 4 [(3, .int 0), (2, .ref mm), (1, .ref xx), (0, .ref b)]) : W p l e room_1 s m #[Value.ref b] below meth c H locs 282 716534 (lw_Z below #[Value.ref b] s) (F0 m 664 ls []) := by
  obtain ⟨hx, hb, hr, hml, hown, hts0, hXs, hbl, hlocks, hgv⟩ := id C0
  have hts := wA_hts hts0
  have hbA : ¬ A b := fun z => Nat.not_le.mpr hbl (hA2 b z)
  have hown : s.vm.findClass "StaveHouseLaw" = some m.cls := hown
  refine lv_aload_n hx hb d_code_664 rfl (lv_at hl 2 rfl) ?_
  refine lv_aload_n hx hb d_code_665 rfl (lv_at hl 3 rfl) ?_
  refine lv_iload_n hx hb d_code_666 rfl (lv_at hl 0 rfl) ?_
  refine lv_iconst (v := 1) hx hb d_code_667 (by decide) ?_
  refine lv_iadd hx hb d_code_668 ?_
  refine lv_topi (fun y1 ey1 => ?_)
  obtain rfl : y1 = 1 := ey1.trans (by decide)
  refine va_sld hx hb hXs hbl hbA hS (vinC (by decide)) d_code_669 ?_
  refine W.eq (g2 := F0 m 670 ls [.int (xs 1), .ref xx]) rfl ?_
  have hFc2 := va_free (wc := [(xx, .inr (12, rg 10 cx0)), (cx3, .inl (ca 4, 2, .inr (.inr (.inr (.inr cx4)))))]) hD hS hA [0, 2] rfl
  refine va_calli (va_runV (As := [.int (xs 1)]) (rest := []) ⟨hx, hb, hml, hown, hts⟩ (c_S_perform_0 l D ca ad av H.size xx cx3 cx0 cx4 (xs 1) (hcx0.sub [1] rfl) (hcx2.sub [0, 1] rfl)) (cwV 1 hts (gdV k_7_83 k_7_84 k_7_85 k_1_1 k_7_86) rfl rfl rfl (by decide +kernel) ⟨Nat.le_of_ble_eq_true rfl, Nat.le_of_ble_eq_true rfl⟩) (gPV hP hD hK hS hA hX [0, 2] (by decide) rfl xx [.int (xs 1)] 0 (ci := 12) (r := (RX12, TX12, 10)) rfl rfl) rfl rfl hl.1 rfl (lv_room (Nat.le_of_ble_eq_true rfl)) d_code_670 ⟨Nat.le_of_ble_eq_true rfl, Nat.le_of_ble_eq_true rfl⟩) hS (fun q _ h => hFc2 q h) hFc2 (fun r2 u2 t2 H2 locs2 ht2 hvm2 hw2 hB2 hz2 hk2 hS2 => ?_)
  have hr2 := hw2
  obtain ⟨hP2, hD2⟩ := gJoin (wr := [(cx1, .inr (3, rg 22 cx2)), (cx5, .inr (0, rg 3 cx6)), (cx7, .inl (ca 0, 20, .inl cx8)), (cx9, .inr (0, rg 3 cx10)), (cx11, .inr (10, rg 9 cx12)), (cx13, .inl (ca 0, 20480, .inl cx14)), (cx15, .inl (ca 0, 3000, .inl cx16)), (cx17, .inl (ca 1, 3001, .inr (.inl cx18))), (cx19, .inl (ca 0, 3001, .inl cx20)), (cx21, .inl (ca 0, 3001, .inl cx22)), (mm, .inr (14, rg 107 cm0)), (cm1, .inl (ca 0, 8, .inl cm2)), (cm3, .inl (ca 0, 3001, .inl cm4)), (cm5, .inl (ca 0, 3001, .inl cm6)), (cm7, .inr (13, rg 81 cm8)), (cm9, .inl (ca 5, 2, .inr (.inr (.inr (.inr cm10))))), (cm11, .inl (ca 2, 20, .inl cm12)), (cm13, .inl (ca 2, 3000, .inl cm14)), (cm15, .inr (13, rg 81 cm16)), (cm17, .inr (13, rg 81 cm18))]) (w1 := [(xx, .inr (12, rg 10 cx0)), (cx3, .inl (ca 4, 2, .inr (.inr (.inr (.inr cx4)))))]) hP hD [0, 2] [1, 3, 4, 5, 6, 7, 8, 9, 10, 11, 12, 13, 14, 15, 16, 17, 18, 19, 20, 21] rfl rfl (by decide) (by decide) hk2 hFc2 ht2 hB2
  have hP2 : va_P D cls [(cx1, .inr (3, rg 22 cx2)), (cx5, .inr (0, rg 3 cx6)), (cx7, .inl (ca 0, 20, .inl cx8)), (cx9, .inr (0, rg 3 cx10)), (cx11, .inr (10, rg 9 cx12)), (cx13, .inl (ca 0, 20480, .inl cx14)), (cx15, .inl (ca 0, 3000, .inl cx16)), (cx17, .inl (ca 1, 3001, .inr (.inl cx18))), (cx19, .inl (ca 0, 3001, .inl cx20)), (cx21, .inl (ca 0, 3001, .inl cx22)), (mm, .inr (14, rg 107 cm0)), (cm1, .inl (ca 0, 8, .inl cm2)), (cm3, .inl (ca 0, 3001, .inl cm4)), (cm5, .inl (ca 0, 3001, .inl cm6)), (cm7, .inr (13, rg 81 cm8)), (cm9, .inl (ca 5, 2, .inr (.inr (.inr (.inr cm10))))), (cm11, .inl (ca 2, 20, .inl cm12)), (cm13, .inl (ca 2, 3000, .inl cm14)), (cm15, .inr (13, rg 81 cm16)), (cm17, .inr (13, rg 81 cm18)), (xx, .inr (12, rg 10 cx0)), (cx3, .inl (ca 4, 2, .inr (.inr (.inr (.inr cx4)))))] H2 := hP2
  have hD2 : va_D A [(cx1, .inr (3, rg 22 cx2)), (cx5, .inr (0, rg 3 cx6)), (cx7, .inl (ca 0, 20, .inl cx8)), (cx9, .inr (0, rg 3 cx10)), (cx11, .inr (10, rg 9 cx12)), (cx13, .inl (ca 0, 20480, .inl cx14)), (cx15, .inl (ca 0, 3000, .inl cx16)), (cx17, .inl (ca 1, 3001, .inr (.inl cx18))), (cx19, .inl (ca 0, 3001, .inl cx20)), (cx21, .inl (ca 0, 3001, .inl cx22)), (mm, .inr (14, rg 107 cm0)), (cm1, .inl (ca 0, 8, .inl cm2)), (cm3, .inl (ca 0, 3001, .inl cm4)), (cm5, .inl (ca 0, 3001, .inl cm6)), (cm7, .inr (13, rg 81 cm8)), (cm9, .inl (ca 5, 2, .inr (.inr (.inr (.inr cm10))))), (cm11, .inl (ca 2, 20, .inl cm12)), (cm13, .inl (ca 2, 3000, .inl cm14)), (cm15, .inr (13, rg 81 cm16)), (cm17, .inr (13, rg 81 cm18)), (xx, .inr (12, rg 10 cx0)), (cx3, .inl (ca 4, 2, .inr (.inr (.inr (.inr cx4)))))] := hD2
  refine W.widen (k := 282) (n := 716534) (Nat.le_of_ble_eq_true rfl) (Nat.le_of_ble_eq_true rfl) ?_
  subst hr2
  refine lv_aload_n hx hb d_code_673 rfl (lv_at hl 1 rfl) ?_
  refine lv_aload_n hx hb d_code_674 rfl (lv_at hl 3 rfl) ?_
  refine lv_iload_n hx hb d_code_675 rfl (lv_at hl 0 rfl) ?_
  refine lv_iconst (v := 1) hx hb d_code_676 (by decide) ?_
  refine lv_iadd hx hb d_code_677 ?_
  refine lv_topi (fun y3 ey3 => ?_)
  obtain rfl : y3 = 1 := ey3.trans (by decide)
  refine va_sld hx hb hXs hbl hbA hS2 (vinC (by decide)) d_code_678 ?_
  refine W.eq (g2 := F0 m 679 ls [.int (xs 1), .ref mm, .int (-1)]) rfl ?_
  have hFc4 := va_free (wc := [(mm, .inr (14, rg 107 cm0)), (cm9, .inl (ca 5, 2, .inr (.inr (.inr (.inr cm10))))), (cm15, .inr (13, rg 81 cm16)), (cm17, .inr (13, rg 81 cm18))]) hD2 hS2 hA [10, 15, 18, 19] rfl
  refine va_calli (va_runV (As := [.int (xs 1)]) (rest := [.int (-1)]) ⟨hx, hb, hml, hown, hts⟩ (c_M_perform_0 l D ca ad av H2.size mm cm9 cm15 cm17 cm0 cm10 cm16 cm18 (xs 1) (hcm0.sub [4] rfl) (hcm5.sub [0, 1] rfl) (hcm8.sub [0] rfl) (hcm9.sub [0] rfl)) (cwV 1 hts (gdV k_12_121 k_12_122 k_12_123 k_1_9 k_12_124) rfl rfl rfl (by decide +kernel) ⟨Nat.le_of_ble_eq_true rfl, Nat.le_of_ble_eq_true rfl⟩) (gPV hP2 hD2 hK hS2 hA hX [10, 15, 18, 19] (by decide) rfl mm [.int (xs 1)] 10 (ci := 14) (r := (RX14, TX14, 107)) rfl rfl) rfl rfl hl.1 rfl (lv_room (Nat.le_of_ble_eq_true rfl)) d_code_679 ⟨Nat.le_of_ble_eq_true rfl, Nat.le_of_ble_eq_true rfl⟩) hS2 (fun q _ h => hFc4 q h) hFc4 (fun r4 u4 t4 H4 locs4 ht4 hvm4 hw4 hB4 hz4 hk4 hS4 => ?_)
  have hr4 := hw4
  obtain ⟨hP4, hD4⟩ := gJoin (wr := [(cx1, .inr (3, rg 22 cx2)), (cx5, .inr (0, rg 3 cx6)), (cx7, .inl (ca 0, 20, .inl cx8)), (cx9, .inr (0, rg 3 cx10)), (cx11, .inr (10, rg 9 cx12)), (cx13, .inl (ca 0, 20480, .inl cx14)), (cx15, .inl (ca 0, 3000, .inl cx16)), (cx17, .inl (ca 1, 3001, .inr (.inl cx18))), (cx19, .inl (ca 0, 3001, .inl cx20)), (cx21, .inl (ca 0, 3001, .inl cx22)), (cm1, .inl (ca 0, 8, .inl cm2)), (cm3, .inl (ca 0, 3001, .inl cm4)), (cm5, .inl (ca 0, 3001, .inl cm6)), (cm7, .inr (13, rg 81 cm8)), (cm11, .inl (ca 2, 20, .inl cm12)), (cm13, .inl (ca 2, 3000, .inl cm14)), (xx, .inr (12, rg 10 cx0)), (cx3, .inl (ca 4, 2, .inr (.inr (.inr (.inr cx4)))))]) (w1 := [(mm, .inr (14, rg 107 cm0)), (cm9, .inl (ca 5, 2, .inr (.inr (.inr (.inr cm10))))), (cm15, .inr (13, rg 81 cm16)), (cm17, .inr (13, rg 81 cm18))]) hP2 hD2 [10, 15, 18, 19] [0, 1, 2, 3, 4, 5, 6, 7, 8, 9, 11, 12, 13, 14, 16, 17, 20, 21] rfl rfl (by decide) (by decide) hk4 hFc4 ht4 hB4
  have hP4 : va_P D cls [(cx1, .inr (3, rg 22 cx2)), (cx5, .inr (0, rg 3 cx6)), (cx7, .inl (ca 0, 20, .inl cx8)), (cx9, .inr (0, rg 3 cx10)), (cx11, .inr (10, rg 9 cx12)), (cx13, .inl (ca 0, 20480, .inl cx14)), (cx15, .inl (ca 0, 3000, .inl cx16)), (cx17, .inl (ca 1, 3001, .inr (.inl cx18))), (cx19, .inl (ca 0, 3001, .inl cx20)), (cx21, .inl (ca 0, 3001, .inl cx22)), (cm1, .inl (ca 0, 8, .inl cm2)), (cm3, .inl (ca 0, 3001, .inl cm4)), (cm5, .inl (ca 0, 3001, .inl cm6)), (cm7, .inr (13, rg 81 cm8)), (cm11, .inl (ca 2, 20, .inl cm12)), (cm13, .inl (ca 2, 3000, .inl cm14)), (xx, .inr (12, rg 10 cx0)), (cx3, .inl (ca 4, 2, .inr (.inr (.inr (.inr cx4))))), (mm, .inr (14, rg 107 cm0)), (cm9, .inl (ca 5, 2, .inr (.inr (.inr (.inr cm10))))), (cm15, .inr (13, rg 81 cm16)), (cm17, .inr (13, rg 81 cm18))] H4 := hP4
  have hD4 : va_D A [(cx1, .inr (3, rg 22 cx2)), (cx5, .inr (0, rg 3 cx6)), (cx7, .inl (ca 0, 20, .inl cx8)), (cx9, .inr (0, rg 3 cx10)), (cx11, .inr (10, rg 9 cx12)), (cx13, .inl (ca 0, 20480, .inl cx14)), (cx15, .inl (ca 0, 3000, .inl cx16)), (cx17, .inl (ca 1, 3001, .inr (.inl cx18))), (cx19, .inl (ca 0, 3001, .inl cx20)), (cx21, .inl (ca 0, 3001, .inl cx22)), (cm1, .inl (ca 0, 8, .inl cm2)), (cm3, .inl (ca 0, 3001, .inl cm4)), (cm5, .inl (ca 0, 3001, .inl cm6)), (cm7, .inr (13, rg 81 cm8)), (cm11, .inl (ca 2, 20, .inl cm12)), (cm13, .inl (ca 2, 3000, .inl cm14)), (xx, .inr (12, rg 10 cx0)), (cx3, .inl (ca 4, 2, .inr (.inr (.inr (.inr cx4))))), (mm, .inr (14, rg 107 cm0)), (cm9, .inl (ca 5, 2, .inr (.inr (.inr (.inr cm10))))), (cm15, .inr (13, rg 81 cm16)), (cm17, .inr (13, rg 81 cm18))] := hD4
  refine W.widen (k := 282) (n := 716534) (Nat.le_of_ble_eq_true rfl) (Nat.le_of_ble_eq_true rfl) ?_
  subst hr4
  refine lv_icmp_eq (tgt := 1198) hx hb d_code_682 (by decide) (fun _ => ?_) (fun c => absurd (by decide) c)
  exact law_tail C0 hA2 hS4 (Nat.le_of_ble_eq_true rfl) (Nat.le_of_ble_eq_true rfl) hl
set_option maxHeartbeats 8000000 in
set_option maxRecDepth 100000 in
theorem law_case_13 {p : Program} {l : Launch} {e : Env} {s : State} {m : MethodId} {below : List Frame} {meth : Method} {c : Code} {b : Nat} {xs : Nat → Int32} (C0 : lw_At p s m meth c b 9 xs) {D : va_G} {ca : Nat → ClassId} {ad av : Nat → Nat} {A : Nat → Prop} (hA : ∀ q, s.heap.size ≤ q → A q) (hA2 : ∀ q, A q → s.heap.size ≤ q) {xx : Nat} {cx1 : Nat} {cx3 : Nat} {cx5 : Nat} {cx7 : Nat} {cx9 : Nat} {cx11 : Nat} {cx13 : Nat} {cx15 : Nat} {cx17 : Nat} {cx19 : Nat} {cx21 : Nat} {mm : Nat} {cm1 : Nat} {cm3 : Nat} {cm5 : Nat} {cm7 : Nat} {cm9 : Nat} {cm11 : Nat} {cm13 : Nat} {cm15 : Nat} {cm17 : Nat} {cx0 : Nat → Value} {cx2 : Nat → Value} {cx4 : Nat → Option Nat} {cx6 : Nat → Value} {cx8 : Nat → Int32} {cx10 : Nat → Value} {cx12 : Nat → Value} {cx14 : Nat → Int32} {cx16 : Nat → Int32} {cx18 : Nat → Int64} {cx20 : Nat → Int32} {cx22 : Nat → Int32} {cm0 : Nat → Value} {cm2 : Nat → Int32} {cm4 : Nat → Int32} {cm6 : Nat → Int32} {cm8 : Nat → Value} {cm10 : Nat → Option Nat} {cm12 : Nat → Int32} {cm14 : Nat → Int32} {cm16 : Nat → Value} {cm18 : Nat → Value} (hcx0 : gF cx0 [(4, .ref cx1), (3, .ref cx3), (2, .ref cx5), (1, .ref cx7), (0, .ref cx9), (7, .null), (8, .null), (9, .null)]) (hcx1 : gF cx2 [(11, .ref cx11), (16, .int 0), (21, .int 0)]) (hcx2 : gF cx4 [(0, none), (1, none)]) (hcx3 : gF cx6 [(0, .ref cx13), (1, .int 0), (2, .int 0)]) (hcx4 : gF cx8 []) (hcx5 : gF cx10 [(0, .ref cx15), (1, .int 0), (2, .int 0)]) (hcx6 : gF cx12 [(7, .ref cx17), (6, .ref cx19), (5, .ref cx21), (0, .int 0), (1, .int 0), (2, .long 0), (8, .int 0)]) (hcx7 : gF cx14 []) (hcx8 : gF cx16 []) (hcx9 : gF cx18 []) (hcx10 : gF cx20 []) (hcx11 : gF cx22 []) (hcm0 : gF cm0 [(74, .ref cm1), (8, .ref cm3), (7, .ref cm5), (6, .ref cm7), (5, .ref cm9), (4, .ref cm11), (2, .ref cm13), (3, .int 0), (12, .int 0), (16, .int 0), (17, .int 0), (18, .int 0), (71, .int 0), (72, .int 0), (89, .int 0), (90, .long 0), (94, .int 0)]) (hcm1 : gF cm2 []) (hcm2 : gF cm4 []) (hcm3 : gF cm6 []) (hcm4 : gF cm8 [(0, .int 0), (1, .int 0)]) (hcm5 : gF cm10 [(1, some cm15), (0, some cm17)]) (hcm6 : gF cm12 []) (hcm7 : gF cm14 []) (hcm8 : gF cm16 [(0, .int 0), (1, .int 0)]) (hcm9 : gF cm18 [(0, .int 0), (1, .int 0)]) (hK : va_K D cls (tyL ca) s) (hX : gX ad av A s s.heap) {H : Heap} {locs : List Loc} (hP : va_P D cls [(xx, .inr (12, rg 10 cx0)), (cx1, .inr (3, rg 22 cx2)), (cx3, .inl (ca 4, 2, .inr (.inr (.inr (.inr cx4))))), (cx5, .inr (0, rg 3 cx6)), (cx7, .inl (ca 0, 20, .inl cx8)), (cx9, .inr (0, rg 3 cx10)), (cx11, .inr (10, rg 9 cx12)), (cx13, .inl (ca 0, 20480, .inl cx14)), (cx15, .inl (ca 0, 3000, .inl cx16)), (cx17, .inl (ca 1, 3001, .inr (.inl cx18))), (cx19, .inl (ca 0, 3001, .inl cx20)), (cx21, .inl (ca 0, 3001, .inl cx22)), (mm, .inr (14, rg 107 cm0)), (cm1, .inl (ca 0, 8, .inl cm2)), (cm3, .inl (ca 0, 3001, .inl cm4)), (cm5, .inl (ca 0, 3001, .inl cm6)), (cm7, .inr (13, rg 81 cm8)), (cm9, .inl (ca 5, 2, .inr (.inr (.inr (.inr cm10))))), (cm11, .inl (ca 2, 20, .inl cm12)), (cm13, .inl (ca 2, 3000, .inl cm14)), (cm15, .inr (13, rg 81 cm16)), (cm17, .inr (13, rg 81 cm18))] H) (hD : va_D A [(xx, .inr (12, rg 10 cx0)), (cx1, .inr (3, rg 22 cx2)), (cx3, .inl (ca 4, 2, .inr (.inr (.inr (.inr cx4))))), (cx5, .inr (0, rg 3 cx6)), (cx7, .inl (ca 0, 20, .inl cx8)), (cx9, .inr (0, rg 3 cx10)), (cx11, .inr (10, rg 9 cx12)), (cx13, .inl (ca 0, 20480, .inl cx14)), (cx15, .inl (ca 0, 3000, .inl cx16)), (cx17, .inl (ca 1, 3001, .inr (.inl cx18))), (cx19, .inl (ca 0, 3001, .inl cx20)), (cx21, .inl (ca 0, 3001, .inl cx22)), (mm, .inr (14, rg 107 cm0)), (cm1, .inl (ca 0, 8, .inl cm2)), (cm3, .inl (ca 0, 3001, .inl cm4)), (cm5, .inl (ca 0, 3001, .inl cm6)), (cm7, .inr (13, rg 81 cm8)), (cm9, .inl (ca 5, 2, .inr (.inr (.inr (.inr cm10))))), (cm11, .inl (ca 2, 20, .inl cm12)), (cm13, .inl (ca 2, 3000, .inl cm14)), (cm15, .inr (13, rg 81 cm16)), (cm17, .inr (13, rg 81 cm18))]) (hS : va_S A s.heap H locs) {ls : Array Slot} (hl : lv_has ls 4 [(3, .int 0), (2, .ref mm), (1, .ref xx), (0, .ref b)]) : W p l e room_1 s m #[Value.ref b] below meth c H locs 282 716534 (lw_Z below #[Value.ref b] s) (F0 m 687 ls []) := by
  obtain ⟨hx, hb, hr, hml, hown, hts0, hXs, hbl, hlocks, hgv⟩ := id C0
  have hts := wA_hts hts0
  have hbA : ¬ A b := fun z => Nat.not_le.mpr hbl (hA2 b z)
  have hown : s.vm.findClass "StaveHouseLaw" = some m.cls := hown
  refine lv_aload_n hx hb d_code_687 rfl (lv_at hl 2 rfl) ?_
  refine lv_aload_n hx hb d_code_688 rfl (lv_at hl 3 rfl) ?_
  refine lv_iload_n hx hb d_code_689 rfl (lv_at hl 0 rfl) ?_
  refine lv_iconst (v := 1) hx hb d_code_690 (by decide) ?_
  refine lv_iadd hx hb d_code_691 ?_
  refine lv_topi (fun y1 ey1 => ?_)
  obtain rfl : y1 = 1 := ey1.trans (by decide)
  refine va_sld hx hb hXs hbl hbA hS (vinC (by decide)) d_code_692 ?_
  refine W.eq (g2 := F0 m 693 ls [.int (xs 1), .ref xx]) rfl ?_
  refine lv_aload_n hx hb d_code_693 rfl (lv_at hl 3 rfl) ?_
  refine lv_iload_n hx hb d_code_694 rfl (lv_at hl 0 rfl) ?_
  refine lv_iconst (v := 2) hx hb d_code_695 (by decide) ?_
  refine lv_iadd hx hb d_code_696 ?_
  refine lv_topi (fun y2 ey2 => ?_)
  obtain rfl : y2 = 2 := ey2.trans (by decide)
  refine va_sld hx hb hXs hbl hbA hS (vinC (by decide)) d_code_697 ?_
  refine W.eq (g2 := F0 m 698 ls [.int (xs 2), .int (xs 1), .ref xx]) rfl ?_
  refine lv_aload_n hx hb d_code_698 rfl (lv_at hl 3 rfl) ?_
  refine lv_iload_n hx hb d_code_699 rfl (lv_at hl 0 rfl) ?_
  refine lv_iconst (v := 3) hx hb d_code_700 (by decide) ?_
  refine lv_iadd hx hb d_code_701 ?_
  refine lv_topi (fun y3 ey3 => ?_)
  obtain rfl : y3 = 3 := ey3.trans (by decide)
  refine va_sld hx hb hXs hbl hbA hS (vinC (by decide)) d_code_702 ?_
  refine W.eq (g2 := F0 m 703 ls [.int (xs 3), .int (xs 2), .int (xs 1), .ref xx]) rfl ?_
  have hFc4 := va_free (wc := [(xx, .inr (12, rg 10 cx0)), (cx3, .inl (ca 4, 2, .inr (.inr (.inr (.inr cx4)))))]) hD hS hA [0, 2] rfl
  refine va_calli (va_runV (As := [.int (xs 1), .int (xs 2), .int (xs 3)]) (rest := []) ⟨hx, hb, hml, hown, hts⟩ (c_S_stroke_0 l D ca ad av H.size xx cx3 cx0 cx4 (xs 1) (xs 2) (xs 3) (hcx0.sub [1] rfl) (hcx2.sub [0, 1] rfl)) (cwV 3 hts (gdV k_7_104 k_7_105 k_7_106 k_1_1 k_7_107) rfl rfl rfl (by decide +kernel) ⟨Nat.le_of_ble_eq_true rfl, Nat.le_of_ble_eq_true rfl⟩) (gPV hP hD hK hS hA hX [0, 2] (by decide) rfl xx [.int (xs 1), .int (xs 2), .int (xs 3)] 0 (ci := 12) (r := (RX12, TX12, 10)) rfl rfl) rfl rfl hl.1 rfl (lv_room (Nat.le_of_ble_eq_true rfl)) d_code_703 ⟨Nat.le_of_ble_eq_true rfl, Nat.le_of_ble_eq_true rfl⟩) hS (fun q _ h => hFc4 q h) hFc4 (fun r4 u4 t4 H4 locs4 ht4 hvm4 hw4 hB4 hz4 hk4 hS4 => ?_)
  have hr4 := hw4
  obtain ⟨hP4, hD4⟩ := gJoin (wr := [(cx1, .inr (3, rg 22 cx2)), (cx5, .inr (0, rg 3 cx6)), (cx7, .inl (ca 0, 20, .inl cx8)), (cx9, .inr (0, rg 3 cx10)), (cx11, .inr (10, rg 9 cx12)), (cx13, .inl (ca 0, 20480, .inl cx14)), (cx15, .inl (ca 0, 3000, .inl cx16)), (cx17, .inl (ca 1, 3001, .inr (.inl cx18))), (cx19, .inl (ca 0, 3001, .inl cx20)), (cx21, .inl (ca 0, 3001, .inl cx22)), (mm, .inr (14, rg 107 cm0)), (cm1, .inl (ca 0, 8, .inl cm2)), (cm3, .inl (ca 0, 3001, .inl cm4)), (cm5, .inl (ca 0, 3001, .inl cm6)), (cm7, .inr (13, rg 81 cm8)), (cm9, .inl (ca 5, 2, .inr (.inr (.inr (.inr cm10))))), (cm11, .inl (ca 2, 20, .inl cm12)), (cm13, .inl (ca 2, 3000, .inl cm14)), (cm15, .inr (13, rg 81 cm16)), (cm17, .inr (13, rg 81 cm18))]) (w1 := [(xx, .inr (12, rg 10 cx0)), (cx3, .inl (ca 4, 2, .inr (.inr (.inr (.inr cx4)))))]) hP hD [0, 2] [1, 3, 4, 5, 6, 7, 8, 9, 10, 11, 12, 13, 14, 15, 16, 17, 18, 19, 20, 21] rfl rfl (by decide) (by decide) hk4 hFc4 ht4 hB4
  have hP4 : va_P D cls [(cx1, .inr (3, rg 22 cx2)), (cx5, .inr (0, rg 3 cx6)), (cx7, .inl (ca 0, 20, .inl cx8)), (cx9, .inr (0, rg 3 cx10)), (cx11, .inr (10, rg 9 cx12)), (cx13, .inl (ca 0, 20480, .inl cx14)), (cx15, .inl (ca 0, 3000, .inl cx16)), (cx17, .inl (ca 1, 3001, .inr (.inl cx18))), (cx19, .inl (ca 0, 3001, .inl cx20)), (cx21, .inl (ca 0, 3001, .inl cx22)), (mm, .inr (14, rg 107 cm0)), (cm1, .inl (ca 0, 8, .inl cm2)), (cm3, .inl (ca 0, 3001, .inl cm4)), (cm5, .inl (ca 0, 3001, .inl cm6)), (cm7, .inr (13, rg 81 cm8)), (cm9, .inl (ca 5, 2, .inr (.inr (.inr (.inr cm10))))), (cm11, .inl (ca 2, 20, .inl cm12)), (cm13, .inl (ca 2, 3000, .inl cm14)), (cm15, .inr (13, rg 81 cm16)), (cm17, .inr (13, rg 81 cm18)), (xx, .inr (12, rg 10 cx0)), (cx3, .inl (ca 4, 2, .inr (.inr (.inr (.inr cx4)))))] H4 := hP4
  have hD4 : va_D A [(cx1, .inr (3, rg 22 cx2)), (cx5, .inr (0, rg 3 cx6)), (cx7, .inl (ca 0, 20, .inl cx8)), (cx9, .inr (0, rg 3 cx10)), (cx11, .inr (10, rg 9 cx12)), (cx13, .inl (ca 0, 20480, .inl cx14)), (cx15, .inl (ca 0, 3000, .inl cx16)), (cx17, .inl (ca 1, 3001, .inr (.inl cx18))), (cx19, .inl (ca 0, 3001, .inl cx20)), (cx21, .inl (ca 0, 3001, .inl cx22)), (mm, .inr (14, rg 107 cm0)), (cm1, .inl (ca 0, 8, .inl cm2)), (cm3, .inl (ca 0, 3001, .inl cm4)), (cm5, .inl (ca 0, 3001, .inl cm6)), (cm7, .inr (13, rg 81 cm8)), (cm9, .inl (ca 5, 2, .inr (.inr (.inr (.inr cm10))))), (cm11, .inl (ca 2, 20, .inl cm12)), (cm13, .inl (ca 2, 3000, .inl cm14)), (cm15, .inr (13, rg 81 cm16)), (cm17, .inr (13, rg 81 cm18)), (xx, .inr (12, rg 10 cx0)), (cx3, .inl (ca 4, 2, .inr (.inr (.inr (.inr cx4)))))] := hD4
  refine W.widen (k := 282) (n := 716534) (Nat.le_of_ble_eq_true rfl) (Nat.le_of_ble_eq_true rfl) ?_
  subst hr4
  refine lv_aload_n hx hb d_code_706 rfl (lv_at hl 1 rfl) ?_
  refine lv_aload_n hx hb d_code_707 rfl (lv_at hl 3 rfl) ?_
  refine lv_iload_n hx hb d_code_708 rfl (lv_at hl 0 rfl) ?_
  refine lv_iconst (v := 1) hx hb d_code_709 (by decide) ?_
  refine lv_iadd hx hb d_code_710 ?_
  refine lv_topi (fun y5 ey5 => ?_)
  obtain rfl : y5 = 1 := ey5.trans (by decide)
  refine va_sld hx hb hXs hbl hbA hS4 (vinC (by decide)) d_code_711 ?_
  refine W.eq (g2 := F0 m 712 ls [.int (xs 1), .ref mm, .int (-1)]) rfl ?_
  refine lv_aload_n hx hb d_code_712 rfl (lv_at hl 3 rfl) ?_
  refine lv_iload_n hx hb d_code_713 rfl (lv_at hl 0 rfl) ?_
  refine lv_iconst (v := 2) hx hb d_code_714 (by decide) ?_
  refine lv_iadd hx hb d_code_715 ?_
  refine lv_topi (fun y6 ey6 => ?_)
  obtain rfl : y6 = 2 := ey6.trans (by decide)
  refine va_sld hx hb hXs hbl hbA hS4 (vinC (by decide)) d_code_716 ?_
  refine W.eq (g2 := F0 m 717 ls [.int (xs 2), .int (xs 1), .ref mm, .int (-1)]) rfl ?_
  refine lv_aload_n hx hb d_code_717 rfl (lv_at hl 3 rfl) ?_
  refine lv_iload_n hx hb d_code_718 rfl (lv_at hl 0 rfl) ?_
  refine lv_iconst (v := 3) hx hb d_code_719 (by decide) ?_
  refine lv_iadd hx hb d_code_720 ?_
  refine lv_topi (fun y7 ey7 => ?_)
  obtain rfl : y7 = 3 := ey7.trans (by decide)
  refine va_sld hx hb hXs hbl hbA hS4 (vinC (by decide)) d_code_721 ?_
  refine W.eq (g2 := F0 m 722 ls [.int (xs 3), .int (xs 2), .int (xs 1), .ref mm, .int (-1)]) rfl ?_
  have hFc8 := va_free (wc := [(mm, .inr (14, rg 107 cm0)), (cm9, .inl (ca 5, 2, .inr (.inr (.inr (.inr cm10))))), (cm15, .inr (13, rg 81 cm16)), (cm17, .inr (13, rg 81 cm18))]) hD4 hS4 hA [10, 15, 18, 19] rfl
  refine va_calli (va_runV (As := [.int (xs 1), .int (xs 2), .int (xs 3)]) (rest := [.int (-1)]) ⟨hx, hb, hml, hown, hts⟩ (c_M_stroke_0 l D ca ad av H4.size mm cm9 cm15 cm17 cm0 cm10 cm16 cm18 (xs 1) (xs 2) (xs 3) (hcm0.sub [4] rfl) (hcm5.sub [0, 1] rfl) (hcm8.sub [0] rfl) (hcm9.sub [0] rfl)) (cwV 3 hts (gdV k_12_186 k_12_187 k_12_188 k_1_9 k_12_189) rfl rfl rfl (by decide +kernel) ⟨Nat.le_of_ble_eq_true rfl, Nat.le_of_ble_eq_true rfl⟩) (gPV hP4 hD4 hK hS4 hA hX [10, 15, 18, 19] (by decide) rfl mm [.int (xs 1), .int (xs 2), .int (xs 3)] 10 (ci := 14) (r := (RX14, TX14, 107)) rfl rfl) rfl rfl hl.1 rfl (lv_room (Nat.le_of_ble_eq_true rfl)) d_code_722 ⟨Nat.le_of_ble_eq_true rfl, Nat.le_of_ble_eq_true rfl⟩) hS4 (fun q _ h => hFc8 q h) hFc8 (fun r8 u8 t8 H8 locs8 ht8 hvm8 hw8 hB8 hz8 hk8 hS8 => ?_)
  have hr8 := hw8
  obtain ⟨hP8, hD8⟩ := gJoin (wr := [(cx1, .inr (3, rg 22 cx2)), (cx5, .inr (0, rg 3 cx6)), (cx7, .inl (ca 0, 20, .inl cx8)), (cx9, .inr (0, rg 3 cx10)), (cx11, .inr (10, rg 9 cx12)), (cx13, .inl (ca 0, 20480, .inl cx14)), (cx15, .inl (ca 0, 3000, .inl cx16)), (cx17, .inl (ca 1, 3001, .inr (.inl cx18))), (cx19, .inl (ca 0, 3001, .inl cx20)), (cx21, .inl (ca 0, 3001, .inl cx22)), (cm1, .inl (ca 0, 8, .inl cm2)), (cm3, .inl (ca 0, 3001, .inl cm4)), (cm5, .inl (ca 0, 3001, .inl cm6)), (cm7, .inr (13, rg 81 cm8)), (cm11, .inl (ca 2, 20, .inl cm12)), (cm13, .inl (ca 2, 3000, .inl cm14)), (xx, .inr (12, rg 10 cx0)), (cx3, .inl (ca 4, 2, .inr (.inr (.inr (.inr cx4)))))]) (w1 := [(mm, .inr (14, rg 107 cm0)), (cm9, .inl (ca 5, 2, .inr (.inr (.inr (.inr cm10))))), (cm15, .inr (13, rg 81 cm16)), (cm17, .inr (13, rg 81 cm18))]) hP4 hD4 [10, 15, 18, 19] [0, 1, 2, 3, 4, 5, 6, 7, 8, 9, 11, 12, 13, 14, 16, 17, 20, 21] rfl rfl (by decide) (by decide) hk8 hFc8 ht8 hB8
  have hP8 : va_P D cls [(cx1, .inr (3, rg 22 cx2)), (cx5, .inr (0, rg 3 cx6)), (cx7, .inl (ca 0, 20, .inl cx8)), (cx9, .inr (0, rg 3 cx10)), (cx11, .inr (10, rg 9 cx12)), (cx13, .inl (ca 0, 20480, .inl cx14)), (cx15, .inl (ca 0, 3000, .inl cx16)), (cx17, .inl (ca 1, 3001, .inr (.inl cx18))), (cx19, .inl (ca 0, 3001, .inl cx20)), (cx21, .inl (ca 0, 3001, .inl cx22)), (cm1, .inl (ca 0, 8, .inl cm2)), (cm3, .inl (ca 0, 3001, .inl cm4)), (cm5, .inl (ca 0, 3001, .inl cm6)), (cm7, .inr (13, rg 81 cm8)), (cm11, .inl (ca 2, 20, .inl cm12)), (cm13, .inl (ca 2, 3000, .inl cm14)), (xx, .inr (12, rg 10 cx0)), (cx3, .inl (ca 4, 2, .inr (.inr (.inr (.inr cx4))))), (mm, .inr (14, rg 107 cm0)), (cm9, .inl (ca 5, 2, .inr (.inr (.inr (.inr cm10))))), (cm15, .inr (13, rg 81 cm16)), (cm17, .inr (13, rg 81 cm18))] H8 := hP8
  have hD8 : va_D A [(cx1, .inr (3, rg 22 cx2)), (cx5, .inr (0, rg 3 cx6)), (cx7, .inl (ca 0, 20, .inl cx8)), (cx9, .inr (0, rg 3 cx10)), (cx11, .inr (10, rg 9 cx12)), (cx13, .inl (ca 0, 20480, .inl cx14)), (cx15, .inl (ca 0, 3000, .inl cx16)), (cx17, .inl (ca 1, 3001, .inr (.inl cx18))), (cx19, .inl (ca 0, 3001, .inl cx20)), (cx21, .inl (ca 0, 3001, .inl cx22)), (cm1, .inl (ca 0, 8, .inl cm2)), (cm3, .inl (ca 0, 3001, .inl cm4)), (cm5, .inl (ca 0, 3001, .inl cm6)), (cm7, .inr (13, rg 81 cm8)), (cm11, .inl (ca 2, 20, .inl cm12)), (cm13, .inl (ca 2, 3000, .inl cm14)), (xx, .inr (12, rg 10 cx0)), (cx3, .inl (ca 4, 2, .inr (.inr (.inr (.inr cx4))))), (mm, .inr (14, rg 107 cm0)), (cm9, .inl (ca 5, 2, .inr (.inr (.inr (.inr cm10))))), (cm15, .inr (13, rg 81 cm16)), (cm17, .inr (13, rg 81 cm18))] := hD8
  refine W.widen (k := 282) (n := 716534) (Nat.le_of_ble_eq_true rfl) (Nat.le_of_ble_eq_true rfl) ?_
  subst hr8
  refine lv_icmp_eq (tgt := 1198) hx hb d_code_725 (by decide) (fun _ => ?_) (fun c => absurd (by decide) c)
  exact law_tail C0 hA2 hS8 (Nat.le_of_ble_eq_true rfl) (Nat.le_of_ble_eq_true rfl) hl
set_option maxHeartbeats 8000000 in
set_option maxRecDepth 100000 in
theorem law_case_14 {p : Program} {l : Launch} {e : Env} {s : State} {m : MethodId} {below : List Frame} {meth : Method} {c : Code} {b : Nat} {xs : Nat → Int32} (C0 : lw_At p s m meth c b 9 xs) {D : va_G} {ca : Nat → ClassId} {ad av : Nat → Nat} {A : Nat → Prop} (hA : ∀ q, s.heap.size ≤ q → A q) (hA2 : ∀ q, A q → s.heap.size ≤ q) {xx : Nat} {cx1 : Nat} {cx3 : Nat} {cx5 : Nat} {cx7 : Nat} {cx9 : Nat} {cx11 : Nat} {cx13 : Nat} {cx15 : Nat} {cx17 : Nat} {cx19 : Nat} {cx21 : Nat} {mm : Nat} {cm1 : Nat} {cm3 : Nat} {cm5 : Nat} {cm7 : Nat} {cm9 : Nat} {cm11 : Nat} {cm13 : Nat} {cm15 : Nat} {cm17 : Nat} {cx0 : Nat → Value} {cx2 : Nat → Value} {cx4 : Nat → Option Nat} {cx6 : Nat → Value} {cx8 : Nat → Int32} {cx10 : Nat → Value} {cx12 : Nat → Value} {cx14 : Nat → Int32} {cx16 : Nat → Int32} {cx18 : Nat → Int64} {cx20 : Nat → Int32} {cx22 : Nat → Int32} {cm0 : Nat → Value} {cm2 : Nat → Int32} {cm4 : Nat → Int32} {cm6 : Nat → Int32} {cm8 : Nat → Value} {cm10 : Nat → Option Nat} {cm12 : Nat → Int32} {cm14 : Nat → Int32} {cm16 : Nat → Value} {cm18 : Nat → Value} (hcx0 : gF cx0 [(4, .ref cx1), (3, .ref cx3), (2, .ref cx5), (1, .ref cx7), (0, .ref cx9), (7, .null), (8, .null), (9, .null)]) (hcx1 : gF cx2 [(11, .ref cx11), (16, .int 0), (21, .int 0)]) (hcx2 : gF cx4 [(0, none), (1, none)]) (hcx3 : gF cx6 [(0, .ref cx13), (1, .int 0), (2, .int 0)]) (hcx4 : gF cx8 []) (hcx5 : gF cx10 [(0, .ref cx15), (1, .int 0), (2, .int 0)]) (hcx6 : gF cx12 [(7, .ref cx17), (6, .ref cx19), (5, .ref cx21), (0, .int 0), (1, .int 0), (2, .long 0), (8, .int 0)]) (hcx7 : gF cx14 []) (hcx8 : gF cx16 []) (hcx9 : gF cx18 []) (hcx10 : gF cx20 []) (hcx11 : gF cx22 []) (hcm0 : gF cm0 [(74, .ref cm1), (8, .ref cm3), (7, .ref cm5), (6, .ref cm7), (5, .ref cm9), (4, .ref cm11), (2, .ref cm13), (3, .int 0), (12, .int 0), (16, .int 0), (17, .int 0), (18, .int 0), (71, .int 0), (72, .int 0), (89, .int 0), (90, .long 0), (94, .int 0)]) (hcm1 : gF cm2 []) (hcm2 : gF cm4 []) (hcm3 : gF cm6 []) (hcm4 : gF cm8 [(0, .int 0), (1, .int 0)]) (hcm5 : gF cm10 [(1, some cm15), (0, some cm17)]) (hcm6 : gF cm12 []) (hcm7 : gF cm14 []) (hcm8 : gF cm16 [(0, .int 0), (1, .int 0)]) (hcm9 : gF cm18 [(0, .int 0), (1, .int 0)]) (hK : va_K D cls (tyL ca) s) (hX : gX ad av A s s.heap) {H : Heap} {locs : List Loc} (hP : va_P D cls [(xx, .inr (12, rg 10 cx0)), (cx1, .inr (3, rg 22 cx2)), (cx3, .inl (ca 4, 2, .inr (.inr (.inr (.inr cx4))))), (cx5, .inr (0, rg 3 cx6)), (cx7, .inl (ca 0, 20, .inl cx8)), (cx9, .inr (0, rg 3 cx10)), (cx11, .inr (10, rg 9 cx12)), (cx13, .inl (ca 0, 20480, .inl cx14)), (cx15, .inl (ca 0, 3000, .inl cx16)), (cx17, .inl (ca 1, 3001, .inr (.inl cx18))), (cx19, .inl (ca 0, 3001, .inl cx20)), (cx21, .inl (ca 0, 3001, .inl cx22)), (mm, .inr (14, rg 107 cm0)), (cm1, .inl (ca 0, 8, .inl cm2)), (cm3, .inl (ca 0, 3001, .inl cm4)), (cm5, .inl (ca 0, 3001, .inl cm6)), (cm7, .inr (13, rg 81 cm8)), (cm9, .inl (ca 5, 2, .inr (.inr (.inr (.inr cm10))))), (cm11, .inl (ca 2, 20, .inl cm12)), (cm13, .inl (ca 2, 3000, .inl cm14)), (cm15, .inr (13, rg 81 cm16)), (cm17, .inr (13, rg 81 cm18))] H) (hD : va_D A [(xx, .inr (12, rg 10 cx0)), (cx1, .inr (3, rg 22 cx2)), (cx3, .inl (ca 4, 2, .inr (.inr (.inr (.inr cx4))))), (cx5, .inr (0, rg 3 cx6)), (cx7, .inl (ca 0, 20, .inl cx8)), (cx9, .inr (0, rg 3 cx10)), (cx11, .inr (10, rg 9 cx12)), (cx13, .inl (ca 0, 20480, .inl cx14)), (cx15, .inl (ca 0, 3000, .inl cx16)), (cx17, .inl (ca 1, 3001, .inr (.inl cx18))), (cx19, .inl (ca 0, 3001, .inl cx20)), (cx21, .inl (ca 0, 3001, .inl cx22)), (mm, .inr (14, rg 107 cm0)), (cm1, .inl (ca 0, 8, .inl cm2)), (cm3, .inl (ca 0, 3001, .inl cm4)), (cm5, .inl (ca 0, 3001, .inl cm6)), (cm7, .inr (13, rg 81 cm8)), (cm9, .inl (ca 5, 2, .inr (.inr (.inr (.inr cm10))))), (cm11, .inl (ca 2, 20, .inl cm12)), (cm13, .inl (ca 2, 3000, .inl cm14)), (cm15, .inr (13, rg 81 cm16)), (cm17, .inr (13, rg 81 cm18))]) (hS : va_S A s.heap H locs) {ls : Array Slot} (hl : lv_has ls 4 [(3, .int 0), (2, .ref mm), (1, .ref xx), (0, .ref b)]) : W p l e room_1 s m #[Value.ref b] below meth c H locs 282 716534 (lw_Z below #[Value.ref b] s) (F0 m 730 ls []) := by
  obtain ⟨hx, hb, hr, hml, hown, hts0, hXs, hbl, hlocks, hgv⟩ := id C0
  have hts := wA_hts hts0
  have hbA : ¬ A b := fun z => Nat.not_le.mpr hbl (hA2 b z)
  have hown : s.vm.findClass "StaveHouseLaw" = some m.cls := hown
  refine lv_aload_n hx hb d_code_730 rfl (lv_at hl 2 rfl) ?_
  refine lv_aload_n hx hb d_code_731 rfl (lv_at hl 3 rfl) ?_
  refine lv_iload_n hx hb d_code_732 rfl (lv_at hl 0 rfl) ?_
  refine lv_iconst (v := 1) hx hb d_code_733 (by decide) ?_
  refine lv_iadd hx hb d_code_734 ?_
  refine lv_topi (fun y1 ey1 => ?_)
  obtain rfl : y1 = 1 := ey1.trans (by decide)
  refine va_sld hx hb hXs hbl hbA hS (vinC (by decide)) d_code_735 ?_
  refine W.eq (g2 := F0 m 736 ls [.int (xs 1), .ref xx]) rfl ?_
  have hFc2 := va_free (wc := [(xx, .inr (12, rg 10 cx0)), (cx3, .inl (ca 4, 2, .inr (.inr (.inr (.inr cx4)))))]) hD hS hA [0, 2] rfl
  refine va_calli (va_runV (As := [.int (xs 1)]) (rest := []) ⟨hx, hb, hml, hown, hts⟩ (c_S_file_0 l D ca ad av H.size xx cx3 cx0 cx4 (xs 1) (hcx0.sub [1] rfl) (hcx2.sub [0, 1] rfl)) (cwV 1 hts (gdV k_7_119 k_7_120 k_7_121 k_1_1 k_7_122) rfl rfl rfl (by decide +kernel) ⟨Nat.le_of_ble_eq_true rfl, Nat.le_of_ble_eq_true rfl⟩) (gPV hP hD hK hS hA hX [0, 2] (by decide) rfl xx [.int (xs 1)] 0 (ci := 12) (r := (RX12, TX12, 10)) rfl rfl) rfl rfl hl.1 rfl (lv_room (Nat.le_of_ble_eq_true rfl)) d_code_736 ⟨Nat.le_of_ble_eq_true rfl, Nat.le_of_ble_eq_true rfl⟩) hS (fun q _ h => hFc2 q h) hFc2 (fun r2 u2 t2 H2 locs2 ht2 hvm2 hw2 hB2 hz2 hk2 hS2 => ?_)
  have hr2 := hw2
  obtain ⟨hP2, hD2⟩ := gJoin (wr := [(cx1, .inr (3, rg 22 cx2)), (cx5, .inr (0, rg 3 cx6)), (cx7, .inl (ca 0, 20, .inl cx8)), (cx9, .inr (0, rg 3 cx10)), (cx11, .inr (10, rg 9 cx12)), (cx13, .inl (ca 0, 20480, .inl cx14)), (cx15, .inl (ca 0, 3000, .inl cx16)), (cx17, .inl (ca 1, 3001, .inr (.inl cx18))), (cx19, .inl (ca 0, 3001, .inl cx20)), (cx21, .inl (ca 0, 3001, .inl cx22)), (mm, .inr (14, rg 107 cm0)), (cm1, .inl (ca 0, 8, .inl cm2)), (cm3, .inl (ca 0, 3001, .inl cm4)), (cm5, .inl (ca 0, 3001, .inl cm6)), (cm7, .inr (13, rg 81 cm8)), (cm9, .inl (ca 5, 2, .inr (.inr (.inr (.inr cm10))))), (cm11, .inl (ca 2, 20, .inl cm12)), (cm13, .inl (ca 2, 3000, .inl cm14)), (cm15, .inr (13, rg 81 cm16)), (cm17, .inr (13, rg 81 cm18))]) (w1 := [(xx, .inr (12, rg 10 cx0)), (cx3, .inl (ca 4, 2, .inr (.inr (.inr (.inr cx4)))))]) hP hD [0, 2] [1, 3, 4, 5, 6, 7, 8, 9, 10, 11, 12, 13, 14, 15, 16, 17, 18, 19, 20, 21] rfl rfl (by decide) (by decide) hk2 hFc2 ht2 hB2
  have hP2 : va_P D cls [(cx1, .inr (3, rg 22 cx2)), (cx5, .inr (0, rg 3 cx6)), (cx7, .inl (ca 0, 20, .inl cx8)), (cx9, .inr (0, rg 3 cx10)), (cx11, .inr (10, rg 9 cx12)), (cx13, .inl (ca 0, 20480, .inl cx14)), (cx15, .inl (ca 0, 3000, .inl cx16)), (cx17, .inl (ca 1, 3001, .inr (.inl cx18))), (cx19, .inl (ca 0, 3001, .inl cx20)), (cx21, .inl (ca 0, 3001, .inl cx22)), (mm, .inr (14, rg 107 cm0)), (cm1, .inl (ca 0, 8, .inl cm2)), (cm3, .inl (ca 0, 3001, .inl cm4)), (cm5, .inl (ca 0, 3001, .inl cm6)), (cm7, .inr (13, rg 81 cm8)), (cm9, .inl (ca 5, 2, .inr (.inr (.inr (.inr cm10))))), (cm11, .inl (ca 2, 20, .inl cm12)), (cm13, .inl (ca 2, 3000, .inl cm14)), (cm15, .inr (13, rg 81 cm16)), (cm17, .inr (13, rg 81 cm18)), (xx, .inr (12, rg 10 cx0)), (cx3, .inl (ca 4, 2, .inr (.inr (.inr (.inr cx4)))))] H2 := hP2
  have hD2 : va_D A [(cx1, .inr (3, rg 22 cx2)), (cx5, .inr (0, rg 3 cx6)), (cx7, .inl (ca 0, 20, .inl cx8)), (cx9, .inr (0, rg 3 cx10)), (cx11, .inr (10, rg 9 cx12)), (cx13, .inl (ca 0, 20480, .inl cx14)), (cx15, .inl (ca 0, 3000, .inl cx16)), (cx17, .inl (ca 1, 3001, .inr (.inl cx18))), (cx19, .inl (ca 0, 3001, .inl cx20)), (cx21, .inl (ca 0, 3001, .inl cx22)), (mm, .inr (14, rg 107 cm0)), (cm1, .inl (ca 0, 8, .inl cm2)), (cm3, .inl (ca 0, 3001, .inl cm4)), (cm5, .inl (ca 0, 3001, .inl cm6)), (cm7, .inr (13, rg 81 cm8)), (cm9, .inl (ca 5, 2, .inr (.inr (.inr (.inr cm10))))), (cm11, .inl (ca 2, 20, .inl cm12)), (cm13, .inl (ca 2, 3000, .inl cm14)), (cm15, .inr (13, rg 81 cm16)), (cm17, .inr (13, rg 81 cm18)), (xx, .inr (12, rg 10 cx0)), (cx3, .inl (ca 4, 2, .inr (.inr (.inr (.inr cx4)))))] := hD2
  refine W.widen (k := 282) (n := 716534) (Nat.le_of_ble_eq_true rfl) (Nat.le_of_ble_eq_true rfl) ?_
  subst hr2
  refine lv_aload_n hx hb d_code_739 rfl (lv_at hl 1 rfl) ?_
  refine lv_aload_n hx hb d_code_740 rfl (lv_at hl 3 rfl) ?_
  refine lv_iload_n hx hb d_code_741 rfl (lv_at hl 0 rfl) ?_
  refine lv_iconst (v := 1) hx hb d_code_742 (by decide) ?_
  refine lv_iadd hx hb d_code_743 ?_
  refine lv_topi (fun y3 ey3 => ?_)
  obtain rfl : y3 = 1 := ey3.trans (by decide)
  refine va_sld hx hb hXs hbl hbA hS2 (vinC (by decide)) d_code_744 ?_
  refine W.eq (g2 := F0 m 745 ls [.int (xs 1), .ref mm, .int (-1)]) rfl ?_
  have hFc4 := va_free (wc := [(mm, .inr (14, rg 107 cm0)), (cm9, .inl (ca 5, 2, .inr (.inr (.inr (.inr cm10))))), (cm15, .inr (13, rg 81 cm16)), (cm17, .inr (13, rg 81 cm18))]) hD2 hS2 hA [10, 15, 18, 19] rfl
  refine va_calli (va_runV (As := [.int (xs 1)]) (rest := [.int (-1)]) ⟨hx, hb, hml, hown, hts⟩ (c_M_file_0 l D ca ad av H2.size mm cm9 cm15 cm17 cm0 cm10 cm16 cm18 (xs 1) (hcm0.sub [4] rfl) (hcm5.sub [0, 1] rfl) (hcm8.sub [0] rfl) (hcm9.sub [0] rfl)) (cwV 1 hts (gdV k_12_190 k_12_191 k_12_192 k_1_9 k_12_193) rfl rfl rfl (by decide +kernel) ⟨Nat.le_of_ble_eq_true rfl, Nat.le_of_ble_eq_true rfl⟩) (gPV hP2 hD2 hK hS2 hA hX [10, 15, 18, 19] (by decide) rfl mm [.int (xs 1)] 10 (ci := 14) (r := (RX14, TX14, 107)) rfl rfl) rfl rfl hl.1 rfl (lv_room (Nat.le_of_ble_eq_true rfl)) d_code_745 ⟨Nat.le_of_ble_eq_true rfl, Nat.le_of_ble_eq_true rfl⟩) hS2 (fun q _ h => hFc4 q h) hFc4 (fun r4 u4 t4 H4 locs4 ht4 hvm4 hw4 hB4 hz4 hk4 hS4 => ?_)
  have hr4 := hw4
  obtain ⟨hP4, hD4⟩ := gJoin (wr := [(cx1, .inr (3, rg 22 cx2)), (cx5, .inr (0, rg 3 cx6)), (cx7, .inl (ca 0, 20, .inl cx8)), (cx9, .inr (0, rg 3 cx10)), (cx11, .inr (10, rg 9 cx12)), (cx13, .inl (ca 0, 20480, .inl cx14)), (cx15, .inl (ca 0, 3000, .inl cx16)), (cx17, .inl (ca 1, 3001, .inr (.inl cx18))), (cx19, .inl (ca 0, 3001, .inl cx20)), (cx21, .inl (ca 0, 3001, .inl cx22)), (cm1, .inl (ca 0, 8, .inl cm2)), (cm3, .inl (ca 0, 3001, .inl cm4)), (cm5, .inl (ca 0, 3001, .inl cm6)), (cm7, .inr (13, rg 81 cm8)), (cm11, .inl (ca 2, 20, .inl cm12)), (cm13, .inl (ca 2, 3000, .inl cm14)), (xx, .inr (12, rg 10 cx0)), (cx3, .inl (ca 4, 2, .inr (.inr (.inr (.inr cx4)))))]) (w1 := [(mm, .inr (14, rg 107 cm0)), (cm9, .inl (ca 5, 2, .inr (.inr (.inr (.inr cm10))))), (cm15, .inr (13, rg 81 cm16)), (cm17, .inr (13, rg 81 cm18))]) hP2 hD2 [10, 15, 18, 19] [0, 1, 2, 3, 4, 5, 6, 7, 8, 9, 11, 12, 13, 14, 16, 17, 20, 21] rfl rfl (by decide) (by decide) hk4 hFc4 ht4 hB4
  have hP4 : va_P D cls [(cx1, .inr (3, rg 22 cx2)), (cx5, .inr (0, rg 3 cx6)), (cx7, .inl (ca 0, 20, .inl cx8)), (cx9, .inr (0, rg 3 cx10)), (cx11, .inr (10, rg 9 cx12)), (cx13, .inl (ca 0, 20480, .inl cx14)), (cx15, .inl (ca 0, 3000, .inl cx16)), (cx17, .inl (ca 1, 3001, .inr (.inl cx18))), (cx19, .inl (ca 0, 3001, .inl cx20)), (cx21, .inl (ca 0, 3001, .inl cx22)), (cm1, .inl (ca 0, 8, .inl cm2)), (cm3, .inl (ca 0, 3001, .inl cm4)), (cm5, .inl (ca 0, 3001, .inl cm6)), (cm7, .inr (13, rg 81 cm8)), (cm11, .inl (ca 2, 20, .inl cm12)), (cm13, .inl (ca 2, 3000, .inl cm14)), (xx, .inr (12, rg 10 cx0)), (cx3, .inl (ca 4, 2, .inr (.inr (.inr (.inr cx4))))), (mm, .inr (14, rg 107 cm0)), (cm9, .inl (ca 5, 2, .inr (.inr (.inr (.inr cm10))))), (cm15, .inr (13, rg 81 cm16)), (cm17, .inr (13, rg 81 cm18))] H4 := hP4
  have hD4 : va_D A [(cx1, .inr (3, rg 22 cx2)), (cx5, .inr (0, rg 3 cx6)), (cx7, .inl (ca 0, 20, .inl cx8)), (cx9, .inr (0, rg 3 cx10)), (cx11, .inr (10, rg 9 cx12)), (cx13, .inl (ca 0, 20480, .inl cx14)), (cx15, .inl (ca 0, 3000, .inl cx16)), (cx17, .inl (ca 1, 3001, .inr (.inl cx18))), (cx19, .inl (ca 0, 3001, .inl cx20)), (cx21, .inl (ca 0, 3001, .inl cx22)), (cm1, .inl (ca 0, 8, .inl cm2)), (cm3, .inl (ca 0, 3001, .inl cm4)), (cm5, .inl (ca 0, 3001, .inl cm6)), (cm7, .inr (13, rg 81 cm8)), (cm11, .inl (ca 2, 20, .inl cm12)), (cm13, .inl (ca 2, 3000, .inl cm14)), (xx, .inr (12, rg 10 cx0)), (cx3, .inl (ca 4, 2, .inr (.inr (.inr (.inr cx4))))), (mm, .inr (14, rg 107 cm0)), (cm9, .inl (ca 5, 2, .inr (.inr (.inr (.inr cm10))))), (cm15, .inr (13, rg 81 cm16)), (cm17, .inr (13, rg 81 cm18))] := hD4
  refine W.widen (k := 282) (n := 716534) (Nat.le_of_ble_eq_true rfl) (Nat.le_of_ble_eq_true rfl) ?_
  subst hr4
  refine lv_icmp_eq (tgt := 1198) hx hb d_code_748 (by decide) (fun _ => ?_) (fun c => absurd (by decide) c)
  exact law_tail C0 hA2 hS4 (Nat.le_of_ble_eq_true rfl) (Nat.le_of_ble_eq_true rfl) hl
set_option maxHeartbeats 8000000 in
set_option maxRecDepth 100000 in
theorem law_case_15 {p : Program} {l : Launch} {e : Env} {s : State} {m : MethodId} {below : List Frame} {meth : Method} {c : Code} {b : Nat} {xs : Nat → Int32} (C0 : lw_At p s m meth c b 9 xs) {D : va_G} {ca : Nat → ClassId} {ad av : Nat → Nat} {A : Nat → Prop} (hA : ∀ q, s.heap.size ≤ q → A q) (hA2 : ∀ q, A q → s.heap.size ≤ q) {xx : Nat} {cx1 : Nat} {cx3 : Nat} {cx5 : Nat} {cx7 : Nat} {cx9 : Nat} {cx11 : Nat} {cx13 : Nat} {cx15 : Nat} {cx17 : Nat} {cx19 : Nat} {cx21 : Nat} {mm : Nat} {cm1 : Nat} {cm3 : Nat} {cm5 : Nat} {cm7 : Nat} {cm9 : Nat} {cm11 : Nat} {cm13 : Nat} {cm15 : Nat} {cm17 : Nat} {cx0 : Nat → Value} {cx2 : Nat → Value} {cx4 : Nat → Option Nat} {cx6 : Nat → Value} {cx8 : Nat → Int32} {cx10 : Nat → Value} {cx12 : Nat → Value} {cx14 : Nat → Int32} {cx16 : Nat → Int32} {cx18 : Nat → Int64} {cx20 : Nat → Int32} {cx22 : Nat → Int32} {cm0 : Nat → Value} {cm2 : Nat → Int32} {cm4 : Nat → Int32} {cm6 : Nat → Int32} {cm8 : Nat → Value} {cm10 : Nat → Option Nat} {cm12 : Nat → Int32} {cm14 : Nat → Int32} {cm16 : Nat → Value} {cm18 : Nat → Value} (hcx0 : gF cx0 [(4, .ref cx1), (3, .ref cx3), (2, .ref cx5), (1, .ref cx7), (0, .ref cx9), (7, .null), (8, .null), (9, .null)]) (hcx1 : gF cx2 [(11, .ref cx11), (16, .int 0), (21, .int 0)]) (hcx2 : gF cx4 [(0, none), (1, none)]) (hcx3 : gF cx6 [(0, .ref cx13), (1, .int 0), (2, .int 0)]) (hcx4 : gF cx8 []) (hcx5 : gF cx10 [(0, .ref cx15), (1, .int 0), (2, .int 0)]) (hcx6 : gF cx12 [(7, .ref cx17), (6, .ref cx19), (5, .ref cx21), (0, .int 0), (1, .int 0), (2, .long 0), (8, .int 0)]) (hcx7 : gF cx14 []) (hcx8 : gF cx16 []) (hcx9 : gF cx18 []) (hcx10 : gF cx20 []) (hcx11 : gF cx22 []) (hcm0 : gF cm0 [(74, .ref cm1), (8, .ref cm3), (7, .ref cm5), (6, .ref cm7), (5, .ref cm9), (4, .ref cm11), (2, .ref cm13), (3, .int 0), (12, .int 0), (16, .int 0), (17, .int 0), (18, .int 0), (71, .int 0), (72, .int 0), (89, .int 0), (90, .long 0), (94, .int 0)]) (hcm1 : gF cm2 []) (hcm2 : gF cm4 []) (hcm3 : gF cm6 []) (hcm4 : gF cm8 [(0, .int 0), (1, .int 0)]) (hcm5 : gF cm10 [(1, some cm15), (0, some cm17)]) (hcm6 : gF cm12 []) (hcm7 : gF cm14 []) (hcm8 : gF cm16 [(0, .int 0), (1, .int 0)]) (hcm9 : gF cm18 [(0, .int 0), (1, .int 0)]) (hK : va_K D cls (tyL ca) s) (hX : gX ad av A s s.heap) {H : Heap} {locs : List Loc} (hP : va_P D cls [(xx, .inr (12, rg 10 cx0)), (cx1, .inr (3, rg 22 cx2)), (cx3, .inl (ca 4, 2, .inr (.inr (.inr (.inr cx4))))), (cx5, .inr (0, rg 3 cx6)), (cx7, .inl (ca 0, 20, .inl cx8)), (cx9, .inr (0, rg 3 cx10)), (cx11, .inr (10, rg 9 cx12)), (cx13, .inl (ca 0, 20480, .inl cx14)), (cx15, .inl (ca 0, 3000, .inl cx16)), (cx17, .inl (ca 1, 3001, .inr (.inl cx18))), (cx19, .inl (ca 0, 3001, .inl cx20)), (cx21, .inl (ca 0, 3001, .inl cx22)), (mm, .inr (14, rg 107 cm0)), (cm1, .inl (ca 0, 8, .inl cm2)), (cm3, .inl (ca 0, 3001, .inl cm4)), (cm5, .inl (ca 0, 3001, .inl cm6)), (cm7, .inr (13, rg 81 cm8)), (cm9, .inl (ca 5, 2, .inr (.inr (.inr (.inr cm10))))), (cm11, .inl (ca 2, 20, .inl cm12)), (cm13, .inl (ca 2, 3000, .inl cm14)), (cm15, .inr (13, rg 81 cm16)), (cm17, .inr (13, rg 81 cm18))] H) (hD : va_D A [(xx, .inr (12, rg 10 cx0)), (cx1, .inr (3, rg 22 cx2)), (cx3, .inl (ca 4, 2, .inr (.inr (.inr (.inr cx4))))), (cx5, .inr (0, rg 3 cx6)), (cx7, .inl (ca 0, 20, .inl cx8)), (cx9, .inr (0, rg 3 cx10)), (cx11, .inr (10, rg 9 cx12)), (cx13, .inl (ca 0, 20480, .inl cx14)), (cx15, .inl (ca 0, 3000, .inl cx16)), (cx17, .inl (ca 1, 3001, .inr (.inl cx18))), (cx19, .inl (ca 0, 3001, .inl cx20)), (cx21, .inl (ca 0, 3001, .inl cx22)), (mm, .inr (14, rg 107 cm0)), (cm1, .inl (ca 0, 8, .inl cm2)), (cm3, .inl (ca 0, 3001, .inl cm4)), (cm5, .inl (ca 0, 3001, .inl cm6)), (cm7, .inr (13, rg 81 cm8)), (cm9, .inl (ca 5, 2, .inr (.inr (.inr (.inr cm10))))), (cm11, .inl (ca 2, 20, .inl cm12)), (cm13, .inl (ca 2, 3000, .inl cm14)), (cm15, .inr (13, rg 81 cm16)), (cm17, .inr (13, rg 81 cm18))]) (hS : va_S A s.heap H locs) {ls : Array Slot} (hl : lv_has ls 4 [(3, .int 0), (2, .ref mm), (1, .ref xx), (0, .ref b)]) : W p l e room_1 s m #[Value.ref b] below meth c H locs 282 716534 (lw_Z below #[Value.ref b] s) (F0 m 753 ls []) := by
  obtain ⟨hx, hb, hr, hml, hown, hts0, hXs, hbl, hlocks, hgv⟩ := id C0
  have hts := wA_hts hts0
  have hbA : ¬ A b := fun z => Nat.not_le.mpr hbl (hA2 b z)
  have hown : s.vm.findClass "StaveHouseLaw" = some m.cls := hown
  refine lv_aload_n hx hb d_code_753 rfl (lv_at hl 2 rfl) ?_
  refine lv_aload_n hx hb d_code_754 rfl (lv_at hl 3 rfl) ?_
  refine lv_iload_n hx hb d_code_755 rfl (lv_at hl 0 rfl) ?_
  refine lv_iconst (v := 1) hx hb d_code_756 (by decide) ?_
  refine lv_iadd hx hb d_code_757 ?_
  refine lv_topi (fun y1 ey1 => ?_)
  obtain rfl : y1 = 1 := ey1.trans (by decide)
  refine va_sld hx hb hXs hbl hbA hS (vinC (by decide)) d_code_758 ?_
  refine W.eq (g2 := F0 m 759 ls [.int (xs 1), .ref xx]) rfl ?_
  have hFc2 := va_free (wc := [(xx, .inr (12, rg 10 cx0)), (cx5, .inr (0, rg 3 cx6))]) hD hS hA [0, 3] rfl
  refine va_calli (va_runV (As := [.int (xs 1)]) (rest := []) ⟨hx, hb, hml, hown, hts⟩ (c_S_out_0 l D ca ad av H.size xx cx5 cx0 cx6 (xs 1) (hcx0.sub [2] rfl) (hcx3.sub [1] rfl)) (cwV 1 hts (gdV k_7_196 k_7_197 k_7_198 k_1_1 k_7_199) rfl rfl rfl (by decide +kernel) ⟨Nat.le_of_ble_eq_true rfl, Nat.le_of_ble_eq_true rfl⟩) (gPV hP hD hK hS hA hX [0, 3] (by decide) rfl xx [.int (xs 1)] 0 (ci := 12) (r := (RX12, TX12, 10)) rfl rfl) rfl rfl hl.1 rfl (lv_room (Nat.le_of_ble_eq_true rfl)) d_code_759 ⟨Nat.le_of_ble_eq_true rfl, Nat.le_of_ble_eq_true rfl⟩) hS (fun q _ h => hFc2 q h) hFc2 (fun r2 u2 t2 H2 locs2 ht2 hvm2 hw2 hB2 hz2 hk2 hS2 => ?_)
  have hr2 := hw2
  obtain ⟨hP2, hD2⟩ := gJoin (wr := [(cx1, .inr (3, rg 22 cx2)), (cx3, .inl (ca 4, 2, .inr (.inr (.inr (.inr cx4))))), (cx7, .inl (ca 0, 20, .inl cx8)), (cx9, .inr (0, rg 3 cx10)), (cx11, .inr (10, rg 9 cx12)), (cx13, .inl (ca 0, 20480, .inl cx14)), (cx15, .inl (ca 0, 3000, .inl cx16)), (cx17, .inl (ca 1, 3001, .inr (.inl cx18))), (cx19, .inl (ca 0, 3001, .inl cx20)), (cx21, .inl (ca 0, 3001, .inl cx22)), (mm, .inr (14, rg 107 cm0)), (cm1, .inl (ca 0, 8, .inl cm2)), (cm3, .inl (ca 0, 3001, .inl cm4)), (cm5, .inl (ca 0, 3001, .inl cm6)), (cm7, .inr (13, rg 81 cm8)), (cm9, .inl (ca 5, 2, .inr (.inr (.inr (.inr cm10))))), (cm11, .inl (ca 2, 20, .inl cm12)), (cm13, .inl (ca 2, 3000, .inl cm14)), (cm15, .inr (13, rg 81 cm16)), (cm17, .inr (13, rg 81 cm18))]) (w1 := [(xx, .inr (12, rg 10 cx0)), (cx5, .inr (0, rg 3 cx6))]) hP hD [0, 3] [1, 2, 4, 5, 6, 7, 8, 9, 10, 11, 12, 13, 14, 15, 16, 17, 18, 19, 20, 21] rfl rfl (by decide) (by decide) hk2 hFc2 ht2 hB2
  have hP2 : va_P D cls [(cx1, .inr (3, rg 22 cx2)), (cx3, .inl (ca 4, 2, .inr (.inr (.inr (.inr cx4))))), (cx7, .inl (ca 0, 20, .inl cx8)), (cx9, .inr (0, rg 3 cx10)), (cx11, .inr (10, rg 9 cx12)), (cx13, .inl (ca 0, 20480, .inl cx14)), (cx15, .inl (ca 0, 3000, .inl cx16)), (cx17, .inl (ca 1, 3001, .inr (.inl cx18))), (cx19, .inl (ca 0, 3001, .inl cx20)), (cx21, .inl (ca 0, 3001, .inl cx22)), (mm, .inr (14, rg 107 cm0)), (cm1, .inl (ca 0, 8, .inl cm2)), (cm3, .inl (ca 0, 3001, .inl cm4)), (cm5, .inl (ca 0, 3001, .inl cm6)), (cm7, .inr (13, rg 81 cm8)), (cm9, .inl (ca 5, 2, .inr (.inr (.inr (.inr cm10))))), (cm11, .inl (ca 2, 20, .inl cm12)), (cm13, .inl (ca 2, 3000, .inl cm14)), (cm15, .inr (13, rg 81 cm16)), (cm17, .inr (13, rg 81 cm18)), (xx, .inr (12, rg 10 cx0)), (cx5, .inr (0, rg 3 cx6))] H2 := hP2
  have hD2 : va_D A [(cx1, .inr (3, rg 22 cx2)), (cx3, .inl (ca 4, 2, .inr (.inr (.inr (.inr cx4))))), (cx7, .inl (ca 0, 20, .inl cx8)), (cx9, .inr (0, rg 3 cx10)), (cx11, .inr (10, rg 9 cx12)), (cx13, .inl (ca 0, 20480, .inl cx14)), (cx15, .inl (ca 0, 3000, .inl cx16)), (cx17, .inl (ca 1, 3001, .inr (.inl cx18))), (cx19, .inl (ca 0, 3001, .inl cx20)), (cx21, .inl (ca 0, 3001, .inl cx22)), (mm, .inr (14, rg 107 cm0)), (cm1, .inl (ca 0, 8, .inl cm2)), (cm3, .inl (ca 0, 3001, .inl cm4)), (cm5, .inl (ca 0, 3001, .inl cm6)), (cm7, .inr (13, rg 81 cm8)), (cm9, .inl (ca 5, 2, .inr (.inr (.inr (.inr cm10))))), (cm11, .inl (ca 2, 20, .inl cm12)), (cm13, .inl (ca 2, 3000, .inl cm14)), (cm15, .inr (13, rg 81 cm16)), (cm17, .inr (13, rg 81 cm18)), (xx, .inr (12, rg 10 cx0)), (cx5, .inr (0, rg 3 cx6))] := hD2
  refine W.widen (k := 282) (n := 716534) (Nat.le_of_ble_eq_true rfl) (Nat.le_of_ble_eq_true rfl) ?_
  subst hr2
  refine lv_aload_n hx hb d_code_762 rfl (lv_at hl 1 rfl) ?_
  refine lv_aload_n hx hb d_code_763 rfl (lv_at hl 3 rfl) ?_
  refine lv_iload_n hx hb d_code_764 rfl (lv_at hl 0 rfl) ?_
  refine lv_iconst (v := 1) hx hb d_code_765 (by decide) ?_
  refine lv_iadd hx hb d_code_766 ?_
  refine lv_topi (fun y3 ey3 => ?_)
  obtain rfl : y3 = 1 := ey3.trans (by decide)
  refine va_sld hx hb hXs hbl hbA hS2 (vinC (by decide)) d_code_767 ?_
  refine W.eq (g2 := F0 m 768 ls [.int (xs 1), .ref mm, .int (-1)]) rfl ?_
  have hFc4 := va_free (wc := [(mm, .inr (14, rg 107 cm0))]) hD2 hS2 hA [10] rfl
  refine va_calli (va_runV (As := [.int (xs 1)]) (rest := [.int (-1)]) ⟨hx, hb, hml, hown, hts⟩ (c_M_out_0 l D ca ad av H2.size mm cm0 (xs 1) (hcm0.sub [12] rfl)) (cwV 1 hts (gdV k_12_230 k_12_231 k_12_232 k_1_9 k_12_233) rfl rfl rfl (by decide +kernel) ⟨Nat.le_of_ble_eq_true rfl, Nat.le_of_ble_eq_true rfl⟩) (gPV hP2 hD2 hK hS2 hA hX [10] (by decide) rfl mm [.int (xs 1)] 10 (ci := 14) (r := (RX14, TX14, 107)) rfl rfl) rfl rfl hl.1 rfl (lv_room (Nat.le_of_ble_eq_true rfl)) d_code_768 ⟨Nat.le_of_ble_eq_true rfl, Nat.le_of_ble_eq_true rfl⟩) hS2 (fun q _ h => hFc4 q h) hFc4 (fun r4 u4 t4 H4 locs4 ht4 hvm4 hw4 hB4 hz4 hk4 hS4 => ?_)
  have hr4 := hw4
  obtain ⟨hP4, hD4⟩ := gJoin (wr := [(cx1, .inr (3, rg 22 cx2)), (cx3, .inl (ca 4, 2, .inr (.inr (.inr (.inr cx4))))), (cx7, .inl (ca 0, 20, .inl cx8)), (cx9, .inr (0, rg 3 cx10)), (cx11, .inr (10, rg 9 cx12)), (cx13, .inl (ca 0, 20480, .inl cx14)), (cx15, .inl (ca 0, 3000, .inl cx16)), (cx17, .inl (ca 1, 3001, .inr (.inl cx18))), (cx19, .inl (ca 0, 3001, .inl cx20)), (cx21, .inl (ca 0, 3001, .inl cx22)), (cm1, .inl (ca 0, 8, .inl cm2)), (cm3, .inl (ca 0, 3001, .inl cm4)), (cm5, .inl (ca 0, 3001, .inl cm6)), (cm7, .inr (13, rg 81 cm8)), (cm9, .inl (ca 5, 2, .inr (.inr (.inr (.inr cm10))))), (cm11, .inl (ca 2, 20, .inl cm12)), (cm13, .inl (ca 2, 3000, .inl cm14)), (cm15, .inr (13, rg 81 cm16)), (cm17, .inr (13, rg 81 cm18)), (xx, .inr (12, rg 10 cx0)), (cx5, .inr (0, rg 3 cx6))]) (w1 := [(mm, .inr (14, rg 107 cm0))]) hP2 hD2 [10] [0, 1, 2, 3, 4, 5, 6, 7, 8, 9, 11, 12, 13, 14, 15, 16, 17, 18, 19, 20, 21] rfl rfl (by decide) (by decide) hk4 hFc4 ht4 hB4
  have hP4 : va_P D cls [(cx1, .inr (3, rg 22 cx2)), (cx3, .inl (ca 4, 2, .inr (.inr (.inr (.inr cx4))))), (cx7, .inl (ca 0, 20, .inl cx8)), (cx9, .inr (0, rg 3 cx10)), (cx11, .inr (10, rg 9 cx12)), (cx13, .inl (ca 0, 20480, .inl cx14)), (cx15, .inl (ca 0, 3000, .inl cx16)), (cx17, .inl (ca 1, 3001, .inr (.inl cx18))), (cx19, .inl (ca 0, 3001, .inl cx20)), (cx21, .inl (ca 0, 3001, .inl cx22)), (cm1, .inl (ca 0, 8, .inl cm2)), (cm3, .inl (ca 0, 3001, .inl cm4)), (cm5, .inl (ca 0, 3001, .inl cm6)), (cm7, .inr (13, rg 81 cm8)), (cm9, .inl (ca 5, 2, .inr (.inr (.inr (.inr cm10))))), (cm11, .inl (ca 2, 20, .inl cm12)), (cm13, .inl (ca 2, 3000, .inl cm14)), (cm15, .inr (13, rg 81 cm16)), (cm17, .inr (13, rg 81 cm18)), (xx, .inr (12, rg 10 cx0)), (cx5, .inr (0, rg 3 cx6)), (mm, .inr (14, rg 107 cm0))] H4 := hP4
  have hD4 : va_D A [(cx1, .inr (3, rg 22 cx2)), (cx3, .inl (ca 4, 2, .inr (.inr (.inr (.inr cx4))))), (cx7, .inl (ca 0, 20, .inl cx8)), (cx9, .inr (0, rg 3 cx10)), (cx11, .inr (10, rg 9 cx12)), (cx13, .inl (ca 0, 20480, .inl cx14)), (cx15, .inl (ca 0, 3000, .inl cx16)), (cx17, .inl (ca 1, 3001, .inr (.inl cx18))), (cx19, .inl (ca 0, 3001, .inl cx20)), (cx21, .inl (ca 0, 3001, .inl cx22)), (cm1, .inl (ca 0, 8, .inl cm2)), (cm3, .inl (ca 0, 3001, .inl cm4)), (cm5, .inl (ca 0, 3001, .inl cm6)), (cm7, .inr (13, rg 81 cm8)), (cm9, .inl (ca 5, 2, .inr (.inr (.inr (.inr cm10))))), (cm11, .inl (ca 2, 20, .inl cm12)), (cm13, .inl (ca 2, 3000, .inl cm14)), (cm15, .inr (13, rg 81 cm16)), (cm17, .inr (13, rg 81 cm18)), (xx, .inr (12, rg 10 cx0)), (cx5, .inr (0, rg 3 cx6)), (mm, .inr (14, rg 107 cm0))] := hD4
  refine W.widen (k := 282) (n := 716534) (Nat.le_of_ble_eq_true rfl) (Nat.le_of_ble_eq_true rfl) ?_
  subst hr4
  refine lv_icmp_eq (tgt := 1198) hx hb d_code_771 (by decide) (fun _ => ?_) (fun c => absurd (by decide) c)
  exact law_tail C0 hA2 hS4 (Nat.le_of_ble_eq_true rfl) (Nat.le_of_ble_eq_true rfl) hl
set_option maxHeartbeats 8000000 in
set_option maxRecDepth 100000 in
theorem law_case_16 {p : Program} {l : Launch} {e : Env} {s : State} {m : MethodId} {below : List Frame} {meth : Method} {c : Code} {b : Nat} {xs : Nat → Int32} (C0 : lw_At p s m meth c b 9 xs) {D : va_G} {ca : Nat → ClassId} {ad av : Nat → Nat} {A : Nat → Prop} (hA : ∀ q, s.heap.size ≤ q → A q) (hA2 : ∀ q, A q → s.heap.size ≤ q) {xx : Nat} {cx1 : Nat} {cx3 : Nat} {cx5 : Nat} {cx7 : Nat} {cx9 : Nat} {cx11 : Nat} {cx13 : Nat} {cx15 : Nat} {cx17 : Nat} {cx19 : Nat} {cx21 : Nat} {mm : Nat} {cm1 : Nat} {cm3 : Nat} {cm5 : Nat} {cm7 : Nat} {cm9 : Nat} {cm11 : Nat} {cm13 : Nat} {cm15 : Nat} {cm17 : Nat} {cx0 : Nat → Value} {cx2 : Nat → Value} {cx4 : Nat → Option Nat} {cx6 : Nat → Value} {cx8 : Nat → Int32} {cx10 : Nat → Value} {cx12 : Nat → Value} {cx14 : Nat → Int32} {cx16 : Nat → Int32} {cx18 : Nat → Int64} {cx20 : Nat → Int32} {cx22 : Nat → Int32} {cm0 : Nat → Value} {cm2 : Nat → Int32} {cm4 : Nat → Int32} {cm6 : Nat → Int32} {cm8 : Nat → Value} {cm10 : Nat → Option Nat} {cm12 : Nat → Int32} {cm14 : Nat → Int32} {cm16 : Nat → Value} {cm18 : Nat → Value} (hcx0 : gF cx0 [(4, .ref cx1), (3, .ref cx3), (2, .ref cx5), (1, .ref cx7), (0, .ref cx9), (7, .null), (8, .null), (9, .null)]) (hcx1 : gF cx2 [(11, .ref cx11), (16, .int 0), (21, .int 0)]) (hcx2 : gF cx4 [(0, none), (1, none)]) (hcx3 : gF cx6 [(0, .ref cx13), (1, .int 0), (2, .int 0)]) (hcx4 : gF cx8 []) (hcx5 : gF cx10 [(0, .ref cx15), (1, .int 0), (2, .int 0)]) (hcx6 : gF cx12 [(7, .ref cx17), (6, .ref cx19), (5, .ref cx21), (0, .int 0), (1, .int 0), (2, .long 0), (8, .int 0)]) (hcx7 : gF cx14 []) (hcx8 : gF cx16 []) (hcx9 : gF cx18 []) (hcx10 : gF cx20 []) (hcx11 : gF cx22 []) (hcm0 : gF cm0 [(74, .ref cm1), (8, .ref cm3), (7, .ref cm5), (6, .ref cm7), (5, .ref cm9), (4, .ref cm11), (2, .ref cm13), (3, .int 0), (12, .int 0), (16, .int 0), (17, .int 0), (18, .int 0), (71, .int 0), (72, .int 0), (89, .int 0), (90, .long 0), (94, .int 0)]) (hcm1 : gF cm2 []) (hcm2 : gF cm4 []) (hcm3 : gF cm6 []) (hcm4 : gF cm8 [(0, .int 0), (1, .int 0)]) (hcm5 : gF cm10 [(1, some cm15), (0, some cm17)]) (hcm6 : gF cm12 []) (hcm7 : gF cm14 []) (hcm8 : gF cm16 [(0, .int 0), (1, .int 0)]) (hcm9 : gF cm18 [(0, .int 0), (1, .int 0)]) (hK : va_K D cls (tyL ca) s) (hX : gX ad av A s s.heap) {H : Heap} {locs : List Loc} (hP : va_P D cls [(xx, .inr (12, rg 10 cx0)), (cx1, .inr (3, rg 22 cx2)), (cx3, .inl (ca 4, 2, .inr (.inr (.inr (.inr cx4))))), (cx5, .inr (0, rg 3 cx6)), (cx7, .inl (ca 0, 20, .inl cx8)), (cx9, .inr (0, rg 3 cx10)), (cx11, .inr (10, rg 9 cx12)), (cx13, .inl (ca 0, 20480, .inl cx14)), (cx15, .inl (ca 0, 3000, .inl cx16)), (cx17, .inl (ca 1, 3001, .inr (.inl cx18))), (cx19, .inl (ca 0, 3001, .inl cx20)), (cx21, .inl (ca 0, 3001, .inl cx22)), (mm, .inr (14, rg 107 cm0)), (cm1, .inl (ca 0, 8, .inl cm2)), (cm3, .inl (ca 0, 3001, .inl cm4)), (cm5, .inl (ca 0, 3001, .inl cm6)), (cm7, .inr (13, rg 81 cm8)), (cm9, .inl (ca 5, 2, .inr (.inr (.inr (.inr cm10))))), (cm11, .inl (ca 2, 20, .inl cm12)), (cm13, .inl (ca 2, 3000, .inl cm14)), (cm15, .inr (13, rg 81 cm16)), (cm17, .inr (13, rg 81 cm18))] H) (hD : va_D A [(xx, .inr (12, rg 10 cx0)), (cx1, .inr (3, rg 22 cx2)), (cx3, .inl (ca 4, 2, .inr (.inr (.inr (.inr cx4))))), (cx5, .inr (0, rg 3 cx6)), (cx7, .inl (ca 0, 20, .inl cx8)), (cx9, .inr (0, rg 3 cx10)), (cx11, .inr (10, rg 9 cx12)), (cx13, .inl (ca 0, 20480, .inl cx14)), (cx15, .inl (ca 0, 3000, .inl cx16)), (cx17, .inl (ca 1, 3001, .inr (.inl cx18))), (cx19, .inl (ca 0, 3001, .inl cx20)), (cx21, .inl (ca 0, 3001, .inl cx22)), (mm, .inr (14, rg 107 cm0)), (cm1, .inl (ca 0, 8, .inl cm2)), (cm3, .inl (ca 0, 3001, .inl cm4)), (cm5, .inl (ca 0, 3001, .inl cm6)), (cm7, .inr (13, rg 81 cm8)), (cm9, .inl (ca 5, 2, .inr (.inr (.inr (.inr cm10))))), (cm11, .inl (ca 2, 20, .inl cm12)), (cm13, .inl (ca 2, 3000, .inl cm14)), (cm15, .inr (13, rg 81 cm16)), (cm17, .inr (13, rg 81 cm18))]) (hS : va_S A s.heap H locs) {ls : Array Slot} (hl : lv_has ls 4 [(3, .int 0), (2, .ref mm), (1, .ref xx), (0, .ref b)]) : W p l e room_1 s m #[Value.ref b] below meth c H locs 282 716534 (lw_Z below #[Value.ref b] s) (F0 m 776 ls []) := by
  obtain ⟨hx, hb, hr, hml, hown, hts0, hXs, hbl, hlocks, hgv⟩ := id C0
  have hts := wA_hts hts0
  have hbA : ¬ A b := fun z => Nat.not_le.mpr hbl (hA2 b z)
  have hown : s.vm.findClass "StaveHouseLaw" = some m.cls := hown
  refine lv_aload_n hx hb d_code_776 rfl (lv_at hl 2 rfl) ?_
  have hFc1 := va_free (wc := [(xx, .inr (12, rg 10 cx0)), (cx5, .inr (0, rg 3 cx6))]) hD hS hA [0, 3] rfl
  refine va_calli (va_runV (As := []) (rest := []) ⟨hx, hb, hml, hown, hts⟩ (c_S_again_0 l D ca ad av H.size xx cx5 cx0 cx6 (hcx0.sub [2] rfl) (hcx3.sub [1] rfl)) (cwV 0 hts (gdV k_7_201 k_7_202 k_7_203 k_1_1 k_7_204) rfl rfl rfl (by decide +kernel) ⟨Nat.le_of_ble_eq_true rfl, Nat.le_of_ble_eq_true rfl⟩) (gPV hP hD hK hS hA hX [0, 3] (by decide) rfl xx [] 0 (ci := 12) (r := (RX12, TX12, 10)) rfl rfl) rfl rfl hl.1 rfl (lv_room (Nat.le_of_ble_eq_true rfl)) d_code_777 ⟨Nat.le_of_ble_eq_true rfl, Nat.le_of_ble_eq_true rfl⟩) hS (fun q _ h => hFc1 q h) hFc1 (fun r1 u1 t1 H1 locs1 ht1 hvm1 hw1 hB1 hz1 hk1 hS1 => ?_)
  have hr1 := hw1
  obtain ⟨hP1, hD1⟩ := gJoin (wr := [(cx1, .inr (3, rg 22 cx2)), (cx3, .inl (ca 4, 2, .inr (.inr (.inr (.inr cx4))))), (cx7, .inl (ca 0, 20, .inl cx8)), (cx9, .inr (0, rg 3 cx10)), (cx11, .inr (10, rg 9 cx12)), (cx13, .inl (ca 0, 20480, .inl cx14)), (cx15, .inl (ca 0, 3000, .inl cx16)), (cx17, .inl (ca 1, 3001, .inr (.inl cx18))), (cx19, .inl (ca 0, 3001, .inl cx20)), (cx21, .inl (ca 0, 3001, .inl cx22)), (mm, .inr (14, rg 107 cm0)), (cm1, .inl (ca 0, 8, .inl cm2)), (cm3, .inl (ca 0, 3001, .inl cm4)), (cm5, .inl (ca 0, 3001, .inl cm6)), (cm7, .inr (13, rg 81 cm8)), (cm9, .inl (ca 5, 2, .inr (.inr (.inr (.inr cm10))))), (cm11, .inl (ca 2, 20, .inl cm12)), (cm13, .inl (ca 2, 3000, .inl cm14)), (cm15, .inr (13, rg 81 cm16)), (cm17, .inr (13, rg 81 cm18))]) (w1 := [(xx, .inr (12, rg 10 cx0)), (cx5, .inr (0, rg 3 cx6))]) hP hD [0, 3] [1, 2, 4, 5, 6, 7, 8, 9, 10, 11, 12, 13, 14, 15, 16, 17, 18, 19, 20, 21] rfl rfl (by decide) (by decide) hk1 hFc1 ht1 hB1
  have hP1 : va_P D cls [(cx1, .inr (3, rg 22 cx2)), (cx3, .inl (ca 4, 2, .inr (.inr (.inr (.inr cx4))))), (cx7, .inl (ca 0, 20, .inl cx8)), (cx9, .inr (0, rg 3 cx10)), (cx11, .inr (10, rg 9 cx12)), (cx13, .inl (ca 0, 20480, .inl cx14)), (cx15, .inl (ca 0, 3000, .inl cx16)), (cx17, .inl (ca 1, 3001, .inr (.inl cx18))), (cx19, .inl (ca 0, 3001, .inl cx20)), (cx21, .inl (ca 0, 3001, .inl cx22)), (mm, .inr (14, rg 107 cm0)), (cm1, .inl (ca 0, 8, .inl cm2)), (cm3, .inl (ca 0, 3001, .inl cm4)), (cm5, .inl (ca 0, 3001, .inl cm6)), (cm7, .inr (13, rg 81 cm8)), (cm9, .inl (ca 5, 2, .inr (.inr (.inr (.inr cm10))))), (cm11, .inl (ca 2, 20, .inl cm12)), (cm13, .inl (ca 2, 3000, .inl cm14)), (cm15, .inr (13, rg 81 cm16)), (cm17, .inr (13, rg 81 cm18)), (xx, .inr (12, rg 10 cx0)), (cx5, .inr (0, rg 3 cx6))] H1 := hP1
  have hD1 : va_D A [(cx1, .inr (3, rg 22 cx2)), (cx3, .inl (ca 4, 2, .inr (.inr (.inr (.inr cx4))))), (cx7, .inl (ca 0, 20, .inl cx8)), (cx9, .inr (0, rg 3 cx10)), (cx11, .inr (10, rg 9 cx12)), (cx13, .inl (ca 0, 20480, .inl cx14)), (cx15, .inl (ca 0, 3000, .inl cx16)), (cx17, .inl (ca 1, 3001, .inr (.inl cx18))), (cx19, .inl (ca 0, 3001, .inl cx20)), (cx21, .inl (ca 0, 3001, .inl cx22)), (mm, .inr (14, rg 107 cm0)), (cm1, .inl (ca 0, 8, .inl cm2)), (cm3, .inl (ca 0, 3001, .inl cm4)), (cm5, .inl (ca 0, 3001, .inl cm6)), (cm7, .inr (13, rg 81 cm8)), (cm9, .inl (ca 5, 2, .inr (.inr (.inr (.inr cm10))))), (cm11, .inl (ca 2, 20, .inl cm12)), (cm13, .inl (ca 2, 3000, .inl cm14)), (cm15, .inr (13, rg 81 cm16)), (cm17, .inr (13, rg 81 cm18)), (xx, .inr (12, rg 10 cx0)), (cx5, .inr (0, rg 3 cx6))] := hD1
  refine W.widen (k := 282) (n := 716534) (Nat.le_of_ble_eq_true rfl) (Nat.le_of_ble_eq_true rfl) ?_
  subst hr1
  refine lv_aload_n hx hb d_code_780 rfl (lv_at hl 1 rfl) ?_
  have hFc2 := va_free (wc := [(mm, .inr (14, rg 107 cm0))]) hD1 hS1 hA [10] rfl
  refine va_calli (va_runV (As := []) (rest := [.int (-1)]) ⟨hx, hb, hml, hown, hts⟩ (c_M_again_0 l D ca ad av H1.size mm cm0 (hcm0.sub [12] rfl)) (cwV 0 hts (gdV k_12_234 k_12_235 k_12_236 k_1_9 k_12_237) rfl rfl rfl (by decide +kernel) ⟨Nat.le_of_ble_eq_true rfl, Nat.le_of_ble_eq_true rfl⟩) (gPV hP1 hD1 hK hS1 hA hX [10] (by decide) rfl mm [] 10 (ci := 14) (r := (RX14, TX14, 107)) rfl rfl) rfl rfl hl.1 rfl (lv_room (Nat.le_of_ble_eq_true rfl)) d_code_781 ⟨Nat.le_of_ble_eq_true rfl, Nat.le_of_ble_eq_true rfl⟩) hS1 (fun q _ h => hFc2 q h) hFc2 (fun r2 u2 t2 H2 locs2 ht2 hvm2 hw2 hB2 hz2 hk2 hS2 => ?_)
  have hr2 := hw2
  obtain ⟨hP2, hD2⟩ := gJoin (wr := [(cx1, .inr (3, rg 22 cx2)), (cx3, .inl (ca 4, 2, .inr (.inr (.inr (.inr cx4))))), (cx7, .inl (ca 0, 20, .inl cx8)), (cx9, .inr (0, rg 3 cx10)), (cx11, .inr (10, rg 9 cx12)), (cx13, .inl (ca 0, 20480, .inl cx14)), (cx15, .inl (ca 0, 3000, .inl cx16)), (cx17, .inl (ca 1, 3001, .inr (.inl cx18))), (cx19, .inl (ca 0, 3001, .inl cx20)), (cx21, .inl (ca 0, 3001, .inl cx22)), (cm1, .inl (ca 0, 8, .inl cm2)), (cm3, .inl (ca 0, 3001, .inl cm4)), (cm5, .inl (ca 0, 3001, .inl cm6)), (cm7, .inr (13, rg 81 cm8)), (cm9, .inl (ca 5, 2, .inr (.inr (.inr (.inr cm10))))), (cm11, .inl (ca 2, 20, .inl cm12)), (cm13, .inl (ca 2, 3000, .inl cm14)), (cm15, .inr (13, rg 81 cm16)), (cm17, .inr (13, rg 81 cm18)), (xx, .inr (12, rg 10 cx0)), (cx5, .inr (0, rg 3 cx6))]) (w1 := [(mm, .inr (14, rg 107 cm0))]) hP1 hD1 [10] [0, 1, 2, 3, 4, 5, 6, 7, 8, 9, 11, 12, 13, 14, 15, 16, 17, 18, 19, 20, 21] rfl rfl (by decide) (by decide) hk2 hFc2 ht2 hB2
  have hP2 : va_P D cls [(cx1, .inr (3, rg 22 cx2)), (cx3, .inl (ca 4, 2, .inr (.inr (.inr (.inr cx4))))), (cx7, .inl (ca 0, 20, .inl cx8)), (cx9, .inr (0, rg 3 cx10)), (cx11, .inr (10, rg 9 cx12)), (cx13, .inl (ca 0, 20480, .inl cx14)), (cx15, .inl (ca 0, 3000, .inl cx16)), (cx17, .inl (ca 1, 3001, .inr (.inl cx18))), (cx19, .inl (ca 0, 3001, .inl cx20)), (cx21, .inl (ca 0, 3001, .inl cx22)), (cm1, .inl (ca 0, 8, .inl cm2)), (cm3, .inl (ca 0, 3001, .inl cm4)), (cm5, .inl (ca 0, 3001, .inl cm6)), (cm7, .inr (13, rg 81 cm8)), (cm9, .inl (ca 5, 2, .inr (.inr (.inr (.inr cm10))))), (cm11, .inl (ca 2, 20, .inl cm12)), (cm13, .inl (ca 2, 3000, .inl cm14)), (cm15, .inr (13, rg 81 cm16)), (cm17, .inr (13, rg 81 cm18)), (xx, .inr (12, rg 10 cx0)), (cx5, .inr (0, rg 3 cx6)), (mm, .inr (14, rg 107 cm0))] H2 := hP2
  have hD2 : va_D A [(cx1, .inr (3, rg 22 cx2)), (cx3, .inl (ca 4, 2, .inr (.inr (.inr (.inr cx4))))), (cx7, .inl (ca 0, 20, .inl cx8)), (cx9, .inr (0, rg 3 cx10)), (cx11, .inr (10, rg 9 cx12)), (cx13, .inl (ca 0, 20480, .inl cx14)), (cx15, .inl (ca 0, 3000, .inl cx16)), (cx17, .inl (ca 1, 3001, .inr (.inl cx18))), (cx19, .inl (ca 0, 3001, .inl cx20)), (cx21, .inl (ca 0, 3001, .inl cx22)), (cm1, .inl (ca 0, 8, .inl cm2)), (cm3, .inl (ca 0, 3001, .inl cm4)), (cm5, .inl (ca 0, 3001, .inl cm6)), (cm7, .inr (13, rg 81 cm8)), (cm9, .inl (ca 5, 2, .inr (.inr (.inr (.inr cm10))))), (cm11, .inl (ca 2, 20, .inl cm12)), (cm13, .inl (ca 2, 3000, .inl cm14)), (cm15, .inr (13, rg 81 cm16)), (cm17, .inr (13, rg 81 cm18)), (xx, .inr (12, rg 10 cx0)), (cx5, .inr (0, rg 3 cx6)), (mm, .inr (14, rg 107 cm0))] := hD2
  refine W.widen (k := 282) (n := 716534) (Nat.le_of_ble_eq_true rfl) (Nat.le_of_ble_eq_true rfl) ?_
  subst hr2
  refine lv_icmp_eq (tgt := 1198) hx hb d_code_784 (by decide) (fun _ => ?_) (fun c => absurd (by decide) c)
  exact law_tail C0 hA2 hS2 (Nat.le_of_ble_eq_true rfl) (Nat.le_of_ble_eq_true rfl) hl
set_option maxHeartbeats 8000000 in
set_option maxRecDepth 100000 in
theorem law_case_17 {p : Program} {l : Launch} {e : Env} {s : State} {m : MethodId} {below : List Frame} {meth : Method} {c : Code} {b : Nat} {xs : Nat → Int32} (C0 : lw_At p s m meth c b 9 xs) {D : va_G} {ca : Nat → ClassId} {ad av : Nat → Nat} {A : Nat → Prop} (hA : ∀ q, s.heap.size ≤ q → A q) (hA2 : ∀ q, A q → s.heap.size ≤ q) {xx : Nat} {cx1 : Nat} {cx3 : Nat} {cx5 : Nat} {cx7 : Nat} {cx9 : Nat} {cx11 : Nat} {cx13 : Nat} {cx15 : Nat} {cx17 : Nat} {cx19 : Nat} {cx21 : Nat} {mm : Nat} {cm1 : Nat} {cm3 : Nat} {cm5 : Nat} {cm7 : Nat} {cm9 : Nat} {cm11 : Nat} {cm13 : Nat} {cm15 : Nat} {cm17 : Nat} {cx0 : Nat → Value} {cx2 : Nat → Value} {cx4 : Nat → Option Nat} {cx6 : Nat → Value} {cx8 : Nat → Int32} {cx10 : Nat → Value} {cx12 : Nat → Value} {cx14 : Nat → Int32} {cx16 : Nat → Int32} {cx18 : Nat → Int64} {cx20 : Nat → Int32} {cx22 : Nat → Int32} {cm0 : Nat → Value} {cm2 : Nat → Int32} {cm4 : Nat → Int32} {cm6 : Nat → Int32} {cm8 : Nat → Value} {cm10 : Nat → Option Nat} {cm12 : Nat → Int32} {cm14 : Nat → Int32} {cm16 : Nat → Value} {cm18 : Nat → Value} (hcx0 : gF cx0 [(4, .ref cx1), (3, .ref cx3), (2, .ref cx5), (1, .ref cx7), (0, .ref cx9), (7, .null), (8, .null), (9, .null)]) (hcx1 : gF cx2 [(11, .ref cx11), (16, .int 0), (21, .int 0)]) (hcx2 : gF cx4 [(0, none), (1, none)]) (hcx3 : gF cx6 [(0, .ref cx13), (1, .int 0), (2, .int 0)]) (hcx4 : gF cx8 []) (hcx5 : gF cx10 [(0, .ref cx15), (1, .int 0), (2, .int 0)]) (hcx6 : gF cx12 [(7, .ref cx17), (6, .ref cx19), (5, .ref cx21), (0, .int 0), (1, .int 0), (2, .long 0), (8, .int 0)]) (hcx7 : gF cx14 []) (hcx8 : gF cx16 []) (hcx9 : gF cx18 []) (hcx10 : gF cx20 []) (hcx11 : gF cx22 []) (hcm0 : gF cm0 [(74, .ref cm1), (8, .ref cm3), (7, .ref cm5), (6, .ref cm7), (5, .ref cm9), (4, .ref cm11), (2, .ref cm13), (3, .int 0), (12, .int 0), (16, .int 0), (17, .int 0), (18, .int 0), (71, .int 0), (72, .int 0), (89, .int 0), (90, .long 0), (94, .int 0)]) (hcm1 : gF cm2 []) (hcm2 : gF cm4 []) (hcm3 : gF cm6 []) (hcm4 : gF cm8 [(0, .int 0), (1, .int 0)]) (hcm5 : gF cm10 [(1, some cm15), (0, some cm17)]) (hcm6 : gF cm12 []) (hcm7 : gF cm14 []) (hcm8 : gF cm16 [(0, .int 0), (1, .int 0)]) (hcm9 : gF cm18 [(0, .int 0), (1, .int 0)]) (hK : va_K D cls (tyL ca) s) (hX : gX ad av A s s.heap) {H : Heap} {locs : List Loc} (hP : va_P D cls [(xx, .inr (12, rg 10 cx0)), (cx1, .inr (3, rg 22 cx2)), (cx3, .inl (ca 4, 2, .inr (.inr (.inr (.inr cx4))))), (cx5, .inr (0, rg 3 cx6)), (cx7, .inl (ca 0, 20, .inl cx8)), (cx9, .inr (0, rg 3 cx10)), (cx11, .inr (10, rg 9 cx12)), (cx13, .inl (ca 0, 20480, .inl cx14)), (cx15, .inl (ca 0, 3000, .inl cx16)), (cx17, .inl (ca 1, 3001, .inr (.inl cx18))), (cx19, .inl (ca 0, 3001, .inl cx20)), (cx21, .inl (ca 0, 3001, .inl cx22)), (mm, .inr (14, rg 107 cm0)), (cm1, .inl (ca 0, 8, .inl cm2)), (cm3, .inl (ca 0, 3001, .inl cm4)), (cm5, .inl (ca 0, 3001, .inl cm6)), (cm7, .inr (13, rg 81 cm8)), (cm9, .inl (ca 5, 2, .inr (.inr (.inr (.inr cm10))))), (cm11, .inl (ca 2, 20, .inl cm12)), (cm13, .inl (ca 2, 3000, .inl cm14)), (cm15, .inr (13, rg 81 cm16)), (cm17, .inr (13, rg 81 cm18))] H) (hD : va_D A [(xx, .inr (12, rg 10 cx0)), (cx1, .inr (3, rg 22 cx2)), (cx3, .inl (ca 4, 2, .inr (.inr (.inr (.inr cx4))))), (cx5, .inr (0, rg 3 cx6)), (cx7, .inl (ca 0, 20, .inl cx8)), (cx9, .inr (0, rg 3 cx10)), (cx11, .inr (10, rg 9 cx12)), (cx13, .inl (ca 0, 20480, .inl cx14)), (cx15, .inl (ca 0, 3000, .inl cx16)), (cx17, .inl (ca 1, 3001, .inr (.inl cx18))), (cx19, .inl (ca 0, 3001, .inl cx20)), (cx21, .inl (ca 0, 3001, .inl cx22)), (mm, .inr (14, rg 107 cm0)), (cm1, .inl (ca 0, 8, .inl cm2)), (cm3, .inl (ca 0, 3001, .inl cm4)), (cm5, .inl (ca 0, 3001, .inl cm6)), (cm7, .inr (13, rg 81 cm8)), (cm9, .inl (ca 5, 2, .inr (.inr (.inr (.inr cm10))))), (cm11, .inl (ca 2, 20, .inl cm12)), (cm13, .inl (ca 2, 3000, .inl cm14)), (cm15, .inr (13, rg 81 cm16)), (cm17, .inr (13, rg 81 cm18))]) (hS : va_S A s.heap H locs) {ls : Array Slot} (hl : lv_has ls 4 [(3, .int 0), (2, .ref mm), (1, .ref xx), (0, .ref b)]) : W p l e room_1 s m #[Value.ref b] below meth c H locs 282 716534 (lw_Z below #[Value.ref b] s) (F0 m 789 ls []) := by
  obtain ⟨hx, hb, hr, hml, hown, hts0, hXs, hbl, hlocks, hgv⟩ := id C0
  have hts := wA_hts hts0
  have hbA : ¬ A b := fun z => Nat.not_le.mpr hbl (hA2 b z)
  have hown : s.vm.findClass "StaveHouseLaw" = some m.cls := hown
  refine lv_aload_n hx hb d_code_789 rfl (lv_at hl 2 rfl) ?_
  have hFc1 := va_free (wc := [(xx, .inr (12, rg 10 cx0)), (cx9, .inr (0, rg 3 cx10))]) hD hS hA [0, 5] rfl
  refine va_calli (va_runV (As := []) (rest := []) ⟨hx, hb, hml, hown, hts⟩ (c_S_open_0 l D ca ad av H.size xx cx9 cx0 cx10 (hcx0.sub [4, 7] rfl) (hcx5.sub [1] rfl)) (cwV 0 hts (gdV k_7_205 k_7_206 k_7_207 k_1_1 k_7_208) rfl rfl rfl (by decide +kernel) ⟨Nat.le_of_ble_eq_true rfl, Nat.le_of_ble_eq_true rfl⟩) (gPV hP hD hK hS hA hX [0, 5] (by decide) rfl xx [] 0 (ci := 12) (r := (RX12, TX12, 10)) rfl rfl) rfl rfl hl.1 rfl (lv_room (Nat.le_of_ble_eq_true rfl)) d_code_790 ⟨Nat.le_of_ble_eq_true rfl, Nat.le_of_ble_eq_true rfl⟩) hS (fun q _ h => hFc1 q h) hFc1 (fun r1 u1 t1 H1 locs1 ht1 hvm1 hw1 hB1 hz1 hk1 hS1 => ?_)
  obtain ⟨x1_0, x1_1, x1_2, x1_3, x1_4, x1_5, x1_6, x1_7⟩ := u1
  try dsimp only at hw1 hB1
  obtain ⟨hr1, hw1_1, hw1_2, hw1_3, hw1_4, hw1_5, hw1_6, hw1_7⟩ := hw1
  obtain ⟨hP1, hD1⟩ := gJoin (wr := [(cx1, .inr (3, rg 22 cx2)), (cx3, .inl (ca 4, 2, .inr (.inr (.inr (.inr cx4))))), (cx5, .inr (0, rg 3 cx6)), (cx7, .inl (ca 0, 20, .inl cx8)), (cx11, .inr (10, rg 9 cx12)), (cx13, .inl (ca 0, 20480, .inl cx14)), (cx15, .inl (ca 0, 3000, .inl cx16)), (cx17, .inl (ca 1, 3001, .inr (.inl cx18))), (cx19, .inl (ca 0, 3001, .inl cx20)), (cx21, .inl (ca 0, 3001, .inl cx22)), (mm, .inr (14, rg 107 cm0)), (cm1, .inl (ca 0, 8, .inl cm2)), (cm3, .inl (ca 0, 3001, .inl cm4)), (cm5, .inl (ca 0, 3001, .inl cm6)), (cm7, .inr (13, rg 81 cm8)), (cm9, .inl (ca 5, 2, .inr (.inr (.inr (.inr cm10))))), (cm11, .inl (ca 2, 20, .inl cm12)), (cm13, .inl (ca 2, 3000, .inl cm14)), (cm15, .inr (13, rg 81 cm16)), (cm17, .inr (13, rg 81 cm18))]) (w1 := [(xx, .inr (12, rg 10 x1_0)), (cx9, .inr (0, rg 3 x1_1)), (x1_2, .inr (8, rg 15 x1_3)), (x1_4, .inl (ca 0, 8, .inl x1_5)), (x1_6, .inl (ca 0, 7, .inl x1_7))]) hP hD [0, 5] [1, 2, 3, 4, 6, 7, 8, 9, 10, 11, 12, 13, 14, 15, 16, 17, 18, 19, 20, 21] rfl rfl (by decide) (by decide) hk1 hFc1 ht1 hB1
  have hF1_0 : gF x1_0 [(9, .ref x1_2), (4, .ref cx1), (3, .ref cx3), (2, .ref cx5), (1, .ref cx7), (0, .ref cx9), (7, .null), (8, .null)] := gF.upd hcx0 hw1_1 hw1_2 rfl
  have hM1_0 := gM.tr (gM.rf (f := cx0)) hw1_1
  have hF1_1 : gF x1_1 [(2, .int 0), (1, .int 0), (0, .ref cx15)] := gF.upd hcx5 hw1_3 hw1_4 rfl
  have hM1_1 := gM.tr (gM.rf (f := cx10)) hw1_3
  have hP1 : va_P D cls [(cx1, .inr (3, rg 22 cx2)), (cx3, .inl (ca 4, 2, .inr (.inr (.inr (.inr cx4))))), (cx5, .inr (0, rg 3 cx6)), (cx7, .inl (ca 0, 20, .inl cx8)), (cx11, .inr (10, rg 9 cx12)), (cx13, .inl (ca 0, 20480, .inl cx14)), (cx15, .inl (ca 0, 3000, .inl cx16)), (cx17, .inl (ca 1, 3001, .inr (.inl cx18))), (cx19, .inl (ca 0, 3001, .inl cx20)), (cx21, .inl (ca 0, 3001, .inl cx22)), (mm, .inr (14, rg 107 cm0)), (cm1, .inl (ca 0, 8, .inl cm2)), (cm3, .inl (ca 0, 3001, .inl cm4)), (cm5, .inl (ca 0, 3001, .inl cm6)), (cm7, .inr (13, rg 81 cm8)), (cm9, .inl (ca 5, 2, .inr (.inr (.inr (.inr cm10))))), (cm11, .inl (ca 2, 20, .inl cm12)), (cm13, .inl (ca 2, 3000, .inl cm14)), (cm15, .inr (13, rg 81 cm16)), (cm17, .inr (13, rg 81 cm18)), (xx, .inr (12, rg 10 x1_0)), (cx9, .inr (0, rg 3 x1_1)), (x1_2, .inr (8, rg 15 x1_3)), (x1_4, .inl (ca 0, 8, .inl x1_5)), (x1_6, .inl (ca 0, 7, .inl x1_7))] H1 := hP1
  have hD1 : va_D A [(cx1, .inr (3, rg 22 cx2)), (cx3, .inl (ca 4, 2, .inr (.inr (.inr (.inr cx4))))), (cx5, .inr (0, rg 3 cx6)), (cx7, .inl (ca 0, 20, .inl cx8)), (cx11, .inr (10, rg 9 cx12)), (cx13, .inl (ca 0, 20480, .inl cx14)), (cx15, .inl (ca 0, 3000, .inl cx16)), (cx17, .inl (ca 1, 3001, .inr (.inl cx18))), (cx19, .inl (ca 0, 3001, .inl cx20)), (cx21, .inl (ca 0, 3001, .inl cx22)), (mm, .inr (14, rg 107 cm0)), (cm1, .inl (ca 0, 8, .inl cm2)), (cm3, .inl (ca 0, 3001, .inl cm4)), (cm5, .inl (ca 0, 3001, .inl cm6)), (cm7, .inr (13, rg 81 cm8)), (cm9, .inl (ca 5, 2, .inr (.inr (.inr (.inr cm10))))), (cm11, .inl (ca 2, 20, .inl cm12)), (cm13, .inl (ca 2, 3000, .inl cm14)), (cm15, .inr (13, rg 81 cm16)), (cm17, .inr (13, rg 81 cm18)), (xx, .inr (12, rg 10 x1_0)), (cx9, .inr (0, rg 3 x1_1)), (x1_2, .inr (8, rg 15 x1_3)), (x1_4, .inl (ca 0, 8, .inl x1_5)), (x1_6, .inl (ca 0, 7, .inl x1_7))] := hD1
  refine W.widen (k := 292) (n := 718970) (Nat.le_of_ble_eq_true rfl) (Nat.le_of_ble_eq_true rfl) ?_
  subst hr1
  refine lv_aload_n hx hb d_code_793 rfl (lv_at hl 1 rfl) ?_
  have hFc2 := va_free (wc := [(mm, .inr (14, rg 107 cm0)), (cm1, .inl (ca 0, 8, .inl cm2))]) hD1 hS1 hA [10, 11] rfl
  refine va_calli (va_runV (As := []) (rest := [.int 2]) ⟨hx, hb, hml, hown, hts⟩ (c_M_open_0 l D ca ad av H1.size mm cm1 cm0 cm2 (hcm0.sub [0, 7] rfl) (hcm1.sub [] rfl)) (cwV 0 hts (gdV k_12_238 k_12_239 k_13_0 k_1_9 k_13_1) rfl rfl rfl (by decide +kernel) ⟨Nat.le_of_ble_eq_true rfl, Nat.le_of_ble_eq_true rfl⟩) (gPV hP1 hD1 hK hS1 hA hX [10, 11] (by decide) rfl mm [] 10 (ci := 14) (r := (RX14, TX14, 107)) rfl rfl) rfl rfl hl.1 rfl (lv_room (Nat.le_of_ble_eq_true rfl)) d_code_794 ⟨Nat.le_of_ble_eq_true rfl, Nat.le_of_ble_eq_true rfl⟩) hS1 (fun q _ h => hFc2 q h) hFc2 (fun r2 u2 t2 H2 locs2 ht2 hvm2 hw2 hB2 hz2 hk2 hS2 => ?_)
  obtain ⟨x2_0, x2_1⟩ := u2
  try dsimp only at hw2 hB2
  obtain ⟨hr2, hw2_1, hw2_2, hw2_3⟩ := hw2
  obtain ⟨hP2, hD2⟩ := gJoin (wr := [(cx1, .inr (3, rg 22 cx2)), (cx3, .inl (ca 4, 2, .inr (.inr (.inr (.inr cx4))))), (cx5, .inr (0, rg 3 cx6)), (cx7, .inl (ca 0, 20, .inl cx8)), (cx11, .inr (10, rg 9 cx12)), (cx13, .inl (ca 0, 20480, .inl cx14)), (cx15, .inl (ca 0, 3000, .inl cx16)), (cx17, .inl (ca 1, 3001, .inr (.inl cx18))), (cx19, .inl (ca 0, 3001, .inl cx20)), (cx21, .inl (ca 0, 3001, .inl cx22)), (cm3, .inl (ca 0, 3001, .inl cm4)), (cm5, .inl (ca 0, 3001, .inl cm6)), (cm7, .inr (13, rg 81 cm8)), (cm9, .inl (ca 5, 2, .inr (.inr (.inr (.inr cm10))))), (cm11, .inl (ca 2, 20, .inl cm12)), (cm13, .inl (ca 2, 3000, .inl cm14)), (cm15, .inr (13, rg 81 cm16)), (cm17, .inr (13, rg 81 cm18)), (xx, .inr (12, rg 10 x1_0)), (cx9, .inr (0, rg 3 x1_1)), (x1_2, .inr (8, rg 15 x1_3)), (x1_4, .inl (ca 0, 8, .inl x1_5)), (x1_6, .inl (ca 0, 7, .inl x1_7))]) (w1 := [(mm, .inr (14, rg 107 x2_0)), (cm1, .inl (ca 0, 8, .inl x2_1))]) hP1 hD1 [10, 11] [0, 1, 2, 3, 4, 5, 6, 7, 8, 9, 12, 13, 14, 15, 16, 17, 18, 19, 20, 21, 22, 23, 24] rfl rfl (by decide) (by decide) hk2 hFc2 ht2 hB2
  have hF2_0 : gF x2_0 [(3, .int 0), (18, .int 0), (17, .int 2), (94, .int 0), (90, .long 3000), (89, .int 0), (74, .ref cm1), (8, .ref cm3), (7, .ref cm5), (6, .ref cm7), (5, .ref cm9), (4, .ref cm11), (2, .ref cm13), (12, .int 0), (16, .int 0), (71, .int 0), (72, .int 0)] := gF.upd hcm0 hw2_1 hw2_2 rfl
  have hM2_0 := gM.tr (gM.rf (f := cm0)) hw2_1
  have hP2 : va_P D cls [(cx1, .inr (3, rg 22 cx2)), (cx3, .inl (ca 4, 2, .inr (.inr (.inr (.inr cx4))))), (cx5, .inr (0, rg 3 cx6)), (cx7, .inl (ca 0, 20, .inl cx8)), (cx11, .inr (10, rg 9 cx12)), (cx13, .inl (ca 0, 20480, .inl cx14)), (cx15, .inl (ca 0, 3000, .inl cx16)), (cx17, .inl (ca 1, 3001, .inr (.inl cx18))), (cx19, .inl (ca 0, 3001, .inl cx20)), (cx21, .inl (ca 0, 3001, .inl cx22)), (cm3, .inl (ca 0, 3001, .inl cm4)), (cm5, .inl (ca 0, 3001, .inl cm6)), (cm7, .inr (13, rg 81 cm8)), (cm9, .inl (ca 5, 2, .inr (.inr (.inr (.inr cm10))))), (cm11, .inl (ca 2, 20, .inl cm12)), (cm13, .inl (ca 2, 3000, .inl cm14)), (cm15, .inr (13, rg 81 cm16)), (cm17, .inr (13, rg 81 cm18)), (xx, .inr (12, rg 10 x1_0)), (cx9, .inr (0, rg 3 x1_1)), (x1_2, .inr (8, rg 15 x1_3)), (x1_4, .inl (ca 0, 8, .inl x1_5)), (x1_6, .inl (ca 0, 7, .inl x1_7)), (mm, .inr (14, rg 107 x2_0)), (cm1, .inl (ca 0, 8, .inl x2_1))] H2 := hP2
  have hD2 : va_D A [(cx1, .inr (3, rg 22 cx2)), (cx3, .inl (ca 4, 2, .inr (.inr (.inr (.inr cx4))))), (cx5, .inr (0, rg 3 cx6)), (cx7, .inl (ca 0, 20, .inl cx8)), (cx11, .inr (10, rg 9 cx12)), (cx13, .inl (ca 0, 20480, .inl cx14)), (cx15, .inl (ca 0, 3000, .inl cx16)), (cx17, .inl (ca 1, 3001, .inr (.inl cx18))), (cx19, .inl (ca 0, 3001, .inl cx20)), (cx21, .inl (ca 0, 3001, .inl cx22)), (cm3, .inl (ca 0, 3001, .inl cm4)), (cm5, .inl (ca 0, 3001, .inl cm6)), (cm7, .inr (13, rg 81 cm8)), (cm9, .inl (ca 5, 2, .inr (.inr (.inr (.inr cm10))))), (cm11, .inl (ca 2, 20, .inl cm12)), (cm13, .inl (ca 2, 3000, .inl cm14)), (cm15, .inr (13, rg 81 cm16)), (cm17, .inr (13, rg 81 cm18)), (xx, .inr (12, rg 10 x1_0)), (cx9, .inr (0, rg 3 x1_1)), (x1_2, .inr (8, rg 15 x1_3)), (x1_4, .inl (ca 0, 8, .inl x1_5)), (x1_6, .inl (ca 0, 7, .inl x1_7)), (mm, .inr (14, rg 107 x2_0)), (cm1, .inl (ca 0, 8, .inl x2_1))] := hD2
  refine W.widen (k := 292) (n := 718970) (Nat.le_of_ble_eq_true rfl) (Nat.le_of_ble_eq_true rfl) ?_
  subst hr2
  refine lv_icmp_eq (tgt := 1198) hx hb d_code_797 (by decide) (fun _ => ?_) (fun c => absurd (by decide) c)
  exact law_tail C0 hA2 hS2 (Nat.le_of_ble_eq_true rfl) (Nat.le_of_ble_eq_true rfl) hl
set_option maxHeartbeats 8000000 in
set_option maxRecDepth 100000 in
theorem law_case_18 {p : Program} {l : Launch} {e : Env} {s : State} {m : MethodId} {below : List Frame} {meth : Method} {c : Code} {b : Nat} {xs : Nat → Int32} (C0 : lw_At p s m meth c b 9 xs) {D : va_G} {ca : Nat → ClassId} {ad av : Nat → Nat} {A : Nat → Prop} (hA : ∀ q, s.heap.size ≤ q → A q) (hA2 : ∀ q, A q → s.heap.size ≤ q) {xx : Nat} {cx1 : Nat} {cx3 : Nat} {cx5 : Nat} {cx7 : Nat} {cx9 : Nat} {cx11 : Nat} {cx13 : Nat} {cx15 : Nat} {cx17 : Nat} {cx19 : Nat} {cx21 : Nat} {mm : Nat} {cm1 : Nat} {cm3 : Nat} {cm5 : Nat} {cm7 : Nat} {cm9 : Nat} {cm11 : Nat} {cm13 : Nat} {cm15 : Nat} {cm17 : Nat} {cx0 : Nat → Value} {cx2 : Nat → Value} {cx4 : Nat → Option Nat} {cx6 : Nat → Value} {cx8 : Nat → Int32} {cx10 : Nat → Value} {cx12 : Nat → Value} {cx14 : Nat → Int32} {cx16 : Nat → Int32} {cx18 : Nat → Int64} {cx20 : Nat → Int32} {cx22 : Nat → Int32} {cm0 : Nat → Value} {cm2 : Nat → Int32} {cm4 : Nat → Int32} {cm6 : Nat → Int32} {cm8 : Nat → Value} {cm10 : Nat → Option Nat} {cm12 : Nat → Int32} {cm14 : Nat → Int32} {cm16 : Nat → Value} {cm18 : Nat → Value} (hcx0 : gF cx0 [(4, .ref cx1), (3, .ref cx3), (2, .ref cx5), (1, .ref cx7), (0, .ref cx9), (7, .null), (8, .null), (9, .null)]) (hcx1 : gF cx2 [(11, .ref cx11), (16, .int 0), (21, .int 0)]) (hcx2 : gF cx4 [(0, none), (1, none)]) (hcx3 : gF cx6 [(0, .ref cx13), (1, .int 0), (2, .int 0)]) (hcx4 : gF cx8 []) (hcx5 : gF cx10 [(0, .ref cx15), (1, .int 0), (2, .int 0)]) (hcx6 : gF cx12 [(7, .ref cx17), (6, .ref cx19), (5, .ref cx21), (0, .int 0), (1, .int 0), (2, .long 0), (8, .int 0)]) (hcx7 : gF cx14 []) (hcx8 : gF cx16 []) (hcx9 : gF cx18 []) (hcx10 : gF cx20 []) (hcx11 : gF cx22 []) (hcm0 : gF cm0 [(74, .ref cm1), (8, .ref cm3), (7, .ref cm5), (6, .ref cm7), (5, .ref cm9), (4, .ref cm11), (2, .ref cm13), (3, .int 0), (12, .int 0), (16, .int 0), (17, .int 0), (18, .int 0), (71, .int 0), (72, .int 0), (89, .int 0), (90, .long 0), (94, .int 0)]) (hcm1 : gF cm2 []) (hcm2 : gF cm4 []) (hcm3 : gF cm6 []) (hcm4 : gF cm8 [(0, .int 0), (1, .int 0)]) (hcm5 : gF cm10 [(1, some cm15), (0, some cm17)]) (hcm6 : gF cm12 []) (hcm7 : gF cm14 []) (hcm8 : gF cm16 [(0, .int 0), (1, .int 0)]) (hcm9 : gF cm18 [(0, .int 0), (1, .int 0)]) (hK : va_K D cls (tyL ca) s) (hX : gX ad av A s s.heap) {H : Heap} {locs : List Loc} (hP : va_P D cls [(xx, .inr (12, rg 10 cx0)), (cx1, .inr (3, rg 22 cx2)), (cx3, .inl (ca 4, 2, .inr (.inr (.inr (.inr cx4))))), (cx5, .inr (0, rg 3 cx6)), (cx7, .inl (ca 0, 20, .inl cx8)), (cx9, .inr (0, rg 3 cx10)), (cx11, .inr (10, rg 9 cx12)), (cx13, .inl (ca 0, 20480, .inl cx14)), (cx15, .inl (ca 0, 3000, .inl cx16)), (cx17, .inl (ca 1, 3001, .inr (.inl cx18))), (cx19, .inl (ca 0, 3001, .inl cx20)), (cx21, .inl (ca 0, 3001, .inl cx22)), (mm, .inr (14, rg 107 cm0)), (cm1, .inl (ca 0, 8, .inl cm2)), (cm3, .inl (ca 0, 3001, .inl cm4)), (cm5, .inl (ca 0, 3001, .inl cm6)), (cm7, .inr (13, rg 81 cm8)), (cm9, .inl (ca 5, 2, .inr (.inr (.inr (.inr cm10))))), (cm11, .inl (ca 2, 20, .inl cm12)), (cm13, .inl (ca 2, 3000, .inl cm14)), (cm15, .inr (13, rg 81 cm16)), (cm17, .inr (13, rg 81 cm18))] H) (hD : va_D A [(xx, .inr (12, rg 10 cx0)), (cx1, .inr (3, rg 22 cx2)), (cx3, .inl (ca 4, 2, .inr (.inr (.inr (.inr cx4))))), (cx5, .inr (0, rg 3 cx6)), (cx7, .inl (ca 0, 20, .inl cx8)), (cx9, .inr (0, rg 3 cx10)), (cx11, .inr (10, rg 9 cx12)), (cx13, .inl (ca 0, 20480, .inl cx14)), (cx15, .inl (ca 0, 3000, .inl cx16)), (cx17, .inl (ca 1, 3001, .inr (.inl cx18))), (cx19, .inl (ca 0, 3001, .inl cx20)), (cx21, .inl (ca 0, 3001, .inl cx22)), (mm, .inr (14, rg 107 cm0)), (cm1, .inl (ca 0, 8, .inl cm2)), (cm3, .inl (ca 0, 3001, .inl cm4)), (cm5, .inl (ca 0, 3001, .inl cm6)), (cm7, .inr (13, rg 81 cm8)), (cm9, .inl (ca 5, 2, .inr (.inr (.inr (.inr cm10))))), (cm11, .inl (ca 2, 20, .inl cm12)), (cm13, .inl (ca 2, 3000, .inl cm14)), (cm15, .inr (13, rg 81 cm16)), (cm17, .inr (13, rg 81 cm18))]) (hS : va_S A s.heap H locs) {ls : Array Slot} (hl : lv_has ls 4 [(3, .int 0), (2, .ref mm), (1, .ref xx), (0, .ref b)]) : W p l e room_1 s m #[Value.ref b] below meth c H locs 282 716534 (lw_Z below #[Value.ref b] s) (F0 m 802 ls []) := by
  obtain ⟨hx, hb, hr, hml, hown, hts0, hXs, hbl, hlocks, hgv⟩ := id C0
  have hts := wA_hts hts0
  have hbA : ¬ A b := fun z => Nat.not_le.mpr hbl (hA2 b z)
  have hown : s.vm.findClass "StaveHouseLaw" = some m.cls := hown
  refine lv_aload_n hx hb d_code_802 rfl (lv_at hl 2 rfl) ?_
  refine lv_aload_n hx hb d_code_803 rfl (lv_at hl 3 rfl) ?_
  refine lv_iload_n hx hb d_code_804 rfl (lv_at hl 0 rfl) ?_
  refine lv_iconst (v := 1) hx hb d_code_805 (by decide) ?_
  refine lv_iadd hx hb d_code_806 ?_
  refine lv_topi (fun y1 ey1 => ?_)
  obtain rfl : y1 = 1 := ey1.trans (by decide)
  refine va_sld hx hb hXs hbl hbA hS (vinC (by decide)) d_code_807 ?_
  refine W.eq (g2 := F0 m 808 ls [.int (xs 1), .ref xx]) rfl ?_
  have hFc2 := va_free (wc := [(xx, .inr (12, rg 10 cx0))]) hD hS hA [0] rfl
  refine va_calli (va_runV (As := [.int (xs 1)]) (rest := []) ⟨hx, hb, hml, hown, hts⟩ (c_S_track_0 l D ca ad av H.size xx cx0 (xs 1) (hcx0.sub [6] rfl)) (cwV 1 hts (gdV k_8_126 k_8_127 k_8_128 k_1_1 k_8_129) rfl rfl rfl (by decide +kernel) ⟨Nat.le_of_ble_eq_true rfl, Nat.le_of_ble_eq_true rfl⟩) (gPV hP hD hK hS hA hX [0] (by decide) rfl xx [.int (xs 1)] 0 (ci := 12) (r := (RX12, TX12, 10)) rfl rfl) rfl rfl hl.1 rfl (lv_room (Nat.le_of_ble_eq_true rfl)) d_code_808 ⟨Nat.le_of_ble_eq_true rfl, Nat.le_of_ble_eq_true rfl⟩) hS (fun q _ h => hFc2 q h) hFc2 (fun r2 u2 t2 H2 locs2 ht2 hvm2 hw2 hB2 hz2 hk2 hS2 => ?_)
  have hr2 := hw2
  obtain ⟨hP2, hD2⟩ := gJoin (wr := [(cx1, .inr (3, rg 22 cx2)), (cx3, .inl (ca 4, 2, .inr (.inr (.inr (.inr cx4))))), (cx5, .inr (0, rg 3 cx6)), (cx7, .inl (ca 0, 20, .inl cx8)), (cx9, .inr (0, rg 3 cx10)), (cx11, .inr (10, rg 9 cx12)), (cx13, .inl (ca 0, 20480, .inl cx14)), (cx15, .inl (ca 0, 3000, .inl cx16)), (cx17, .inl (ca 1, 3001, .inr (.inl cx18))), (cx19, .inl (ca 0, 3001, .inl cx20)), (cx21, .inl (ca 0, 3001, .inl cx22)), (mm, .inr (14, rg 107 cm0)), (cm1, .inl (ca 0, 8, .inl cm2)), (cm3, .inl (ca 0, 3001, .inl cm4)), (cm5, .inl (ca 0, 3001, .inl cm6)), (cm7, .inr (13, rg 81 cm8)), (cm9, .inl (ca 5, 2, .inr (.inr (.inr (.inr cm10))))), (cm11, .inl (ca 2, 20, .inl cm12)), (cm13, .inl (ca 2, 3000, .inl cm14)), (cm15, .inr (13, rg 81 cm16)), (cm17, .inr (13, rg 81 cm18))]) (w1 := [(xx, .inr (12, rg 10 cx0))]) hP hD [0] [1, 2, 3, 4, 5, 6, 7, 8, 9, 10, 11, 12, 13, 14, 15, 16, 17, 18, 19, 20, 21] rfl rfl (by decide) (by decide) hk2 hFc2 ht2 hB2
  have hP2 : va_P D cls [(cx1, .inr (3, rg 22 cx2)), (cx3, .inl (ca 4, 2, .inr (.inr (.inr (.inr cx4))))), (cx5, .inr (0, rg 3 cx6)), (cx7, .inl (ca 0, 20, .inl cx8)), (cx9, .inr (0, rg 3 cx10)), (cx11, .inr (10, rg 9 cx12)), (cx13, .inl (ca 0, 20480, .inl cx14)), (cx15, .inl (ca 0, 3000, .inl cx16)), (cx17, .inl (ca 1, 3001, .inr (.inl cx18))), (cx19, .inl (ca 0, 3001, .inl cx20)), (cx21, .inl (ca 0, 3001, .inl cx22)), (mm, .inr (14, rg 107 cm0)), (cm1, .inl (ca 0, 8, .inl cm2)), (cm3, .inl (ca 0, 3001, .inl cm4)), (cm5, .inl (ca 0, 3001, .inl cm6)), (cm7, .inr (13, rg 81 cm8)), (cm9, .inl (ca 5, 2, .inr (.inr (.inr (.inr cm10))))), (cm11, .inl (ca 2, 20, .inl cm12)), (cm13, .inl (ca 2, 3000, .inl cm14)), (cm15, .inr (13, rg 81 cm16)), (cm17, .inr (13, rg 81 cm18)), (xx, .inr (12, rg 10 cx0))] H2 := hP2
  have hD2 : va_D A [(cx1, .inr (3, rg 22 cx2)), (cx3, .inl (ca 4, 2, .inr (.inr (.inr (.inr cx4))))), (cx5, .inr (0, rg 3 cx6)), (cx7, .inl (ca 0, 20, .inl cx8)), (cx9, .inr (0, rg 3 cx10)), (cx11, .inr (10, rg 9 cx12)), (cx13, .inl (ca 0, 20480, .inl cx14)), (cx15, .inl (ca 0, 3000, .inl cx16)), (cx17, .inl (ca 1, 3001, .inr (.inl cx18))), (cx19, .inl (ca 0, 3001, .inl cx20)), (cx21, .inl (ca 0, 3001, .inl cx22)), (mm, .inr (14, rg 107 cm0)), (cm1, .inl (ca 0, 8, .inl cm2)), (cm3, .inl (ca 0, 3001, .inl cm4)), (cm5, .inl (ca 0, 3001, .inl cm6)), (cm7, .inr (13, rg 81 cm8)), (cm9, .inl (ca 5, 2, .inr (.inr (.inr (.inr cm10))))), (cm11, .inl (ca 2, 20, .inl cm12)), (cm13, .inl (ca 2, 3000, .inl cm14)), (cm15, .inr (13, rg 81 cm16)), (cm17, .inr (13, rg 81 cm18)), (xx, .inr (12, rg 10 cx0))] := hD2
  refine W.widen (k := 282) (n := 716534) (Nat.le_of_ble_eq_true rfl) (Nat.le_of_ble_eq_true rfl) ?_
  subst hr2
  refine lv_aload_n hx hb d_code_811 rfl (lv_at hl 1 rfl) ?_
  refine lv_aload_n hx hb d_code_812 rfl (lv_at hl 3 rfl) ?_
  refine lv_iload_n hx hb d_code_813 rfl (lv_at hl 0 rfl) ?_
  refine lv_iconst (v := 1) hx hb d_code_814 (by decide) ?_
  refine lv_iadd hx hb d_code_815 ?_
  refine lv_topi (fun y3 ey3 => ?_)
  obtain rfl : y3 = 1 := ey3.trans (by decide)
  refine va_sld hx hb hXs hbl hbA hS2 (vinC (by decide)) d_code_816 ?_
  refine W.eq (g2 := F0 m 817 ls [.int (xs 1), .ref mm, .int (-2147483648)]) rfl ?_
  have hFc4 := va_free (wc := [(mm, .inr (14, rg 107 cm0))]) hD2 hS2 hA [11] rfl
  refine va_calli (va_runV (As := [.int (xs 1)]) (rest := [.int (-2147483648)]) ⟨hx, hb, hml, hown, hts⟩ (c_M_track_0 l D ca ad av H2.size mm cm0 (xs 1) (hcm0.sub [13] rfl)) (cwV 1 hts (gdV k_13_64 k_13_65 k_13_66 k_1_9 k_13_67) rfl rfl rfl (by decide +kernel) ⟨Nat.le_of_ble_eq_true rfl, Nat.le_of_ble_eq_true rfl⟩) (gPV hP2 hD2 hK hS2 hA hX [11] (by decide) rfl mm [.int (xs 1)] 11 (ci := 14) (r := (RX14, TX14, 107)) rfl rfl) rfl rfl hl.1 rfl (lv_room (Nat.le_of_ble_eq_true rfl)) d_code_817 ⟨Nat.le_of_ble_eq_true rfl, Nat.le_of_ble_eq_true rfl⟩) hS2 (fun q _ h => hFc4 q h) hFc4 (fun r4 u4 t4 H4 locs4 ht4 hvm4 hw4 hB4 hz4 hk4 hS4 => ?_)
  have hr4 := hw4
  obtain ⟨hP4, hD4⟩ := gJoin (wr := [(cx1, .inr (3, rg 22 cx2)), (cx3, .inl (ca 4, 2, .inr (.inr (.inr (.inr cx4))))), (cx5, .inr (0, rg 3 cx6)), (cx7, .inl (ca 0, 20, .inl cx8)), (cx9, .inr (0, rg 3 cx10)), (cx11, .inr (10, rg 9 cx12)), (cx13, .inl (ca 0, 20480, .inl cx14)), (cx15, .inl (ca 0, 3000, .inl cx16)), (cx17, .inl (ca 1, 3001, .inr (.inl cx18))), (cx19, .inl (ca 0, 3001, .inl cx20)), (cx21, .inl (ca 0, 3001, .inl cx22)), (cm1, .inl (ca 0, 8, .inl cm2)), (cm3, .inl (ca 0, 3001, .inl cm4)), (cm5, .inl (ca 0, 3001, .inl cm6)), (cm7, .inr (13, rg 81 cm8)), (cm9, .inl (ca 5, 2, .inr (.inr (.inr (.inr cm10))))), (cm11, .inl (ca 2, 20, .inl cm12)), (cm13, .inl (ca 2, 3000, .inl cm14)), (cm15, .inr (13, rg 81 cm16)), (cm17, .inr (13, rg 81 cm18)), (xx, .inr (12, rg 10 cx0))]) (w1 := [(mm, .inr (14, rg 107 cm0))]) hP2 hD2 [11] [0, 1, 2, 3, 4, 5, 6, 7, 8, 9, 10, 12, 13, 14, 15, 16, 17, 18, 19, 20, 21] rfl rfl (by decide) (by decide) hk4 hFc4 ht4 hB4
  have hP4 : va_P D cls [(cx1, .inr (3, rg 22 cx2)), (cx3, .inl (ca 4, 2, .inr (.inr (.inr (.inr cx4))))), (cx5, .inr (0, rg 3 cx6)), (cx7, .inl (ca 0, 20, .inl cx8)), (cx9, .inr (0, rg 3 cx10)), (cx11, .inr (10, rg 9 cx12)), (cx13, .inl (ca 0, 20480, .inl cx14)), (cx15, .inl (ca 0, 3000, .inl cx16)), (cx17, .inl (ca 1, 3001, .inr (.inl cx18))), (cx19, .inl (ca 0, 3001, .inl cx20)), (cx21, .inl (ca 0, 3001, .inl cx22)), (cm1, .inl (ca 0, 8, .inl cm2)), (cm3, .inl (ca 0, 3001, .inl cm4)), (cm5, .inl (ca 0, 3001, .inl cm6)), (cm7, .inr (13, rg 81 cm8)), (cm9, .inl (ca 5, 2, .inr (.inr (.inr (.inr cm10))))), (cm11, .inl (ca 2, 20, .inl cm12)), (cm13, .inl (ca 2, 3000, .inl cm14)), (cm15, .inr (13, rg 81 cm16)), (cm17, .inr (13, rg 81 cm18)), (xx, .inr (12, rg 10 cx0)), (mm, .inr (14, rg 107 cm0))] H4 := hP4
  have hD4 : va_D A [(cx1, .inr (3, rg 22 cx2)), (cx3, .inl (ca 4, 2, .inr (.inr (.inr (.inr cx4))))), (cx5, .inr (0, rg 3 cx6)), (cx7, .inl (ca 0, 20, .inl cx8)), (cx9, .inr (0, rg 3 cx10)), (cx11, .inr (10, rg 9 cx12)), (cx13, .inl (ca 0, 20480, .inl cx14)), (cx15, .inl (ca 0, 3000, .inl cx16)), (cx17, .inl (ca 1, 3001, .inr (.inl cx18))), (cx19, .inl (ca 0, 3001, .inl cx20)), (cx21, .inl (ca 0, 3001, .inl cx22)), (cm1, .inl (ca 0, 8, .inl cm2)), (cm3, .inl (ca 0, 3001, .inl cm4)), (cm5, .inl (ca 0, 3001, .inl cm6)), (cm7, .inr (13, rg 81 cm8)), (cm9, .inl (ca 5, 2, .inr (.inr (.inr (.inr cm10))))), (cm11, .inl (ca 2, 20, .inl cm12)), (cm13, .inl (ca 2, 3000, .inl cm14)), (cm15, .inr (13, rg 81 cm16)), (cm17, .inr (13, rg 81 cm18)), (xx, .inr (12, rg 10 cx0)), (mm, .inr (14, rg 107 cm0))] := hD4
  refine W.widen (k := 282) (n := 716534) (Nat.le_of_ble_eq_true rfl) (Nat.le_of_ble_eq_true rfl) ?_
  subst hr4
  refine lv_icmp_eq (tgt := 1198) hx hb d_code_820 (by decide) (fun _ => ?_) (fun c => absurd (by decide) c)
  exact law_tail C0 hA2 hS4 (Nat.le_of_ble_eq_true rfl) (Nat.le_of_ble_eq_true rfl) hl
set_option maxHeartbeats 8000000 in
set_option maxRecDepth 100000 in
theorem law_case_19 {p : Program} {l : Launch} {e : Env} {s : State} {m : MethodId} {below : List Frame} {meth : Method} {c : Code} {b : Nat} {xs : Nat → Int32} (C0 : lw_At p s m meth c b 9 xs) {D : va_G} {ca : Nat → ClassId} {ad av : Nat → Nat} {A : Nat → Prop} (hA : ∀ q, s.heap.size ≤ q → A q) (hA2 : ∀ q, A q → s.heap.size ≤ q) {xx : Nat} {cx1 : Nat} {cx3 : Nat} {cx5 : Nat} {cx7 : Nat} {cx9 : Nat} {cx11 : Nat} {cx13 : Nat} {cx15 : Nat} {cx17 : Nat} {cx19 : Nat} {cx21 : Nat} {mm : Nat} {cm1 : Nat} {cm3 : Nat} {cm5 : Nat} {cm7 : Nat} {cm9 : Nat} {cm11 : Nat} {cm13 : Nat} {cm15 : Nat} {cm17 : Nat} {cx0 : Nat → Value} {cx2 : Nat → Value} {cx4 : Nat → Option Nat} {cx6 : Nat → Value} {cx8 : Nat → Int32} {cx10 : Nat → Value} {cx12 : Nat → Value} {cx14 : Nat → Int32} {cx16 : Nat → Int32} {cx18 : Nat → Int64} {cx20 : Nat → Int32} {cx22 : Nat → Int32} {cm0 : Nat → Value} {cm2 : Nat → Int32} {cm4 : Nat → Int32} {cm6 : Nat → Int32} {cm8 : Nat → Value} {cm10 : Nat → Option Nat} {cm12 : Nat → Int32} {cm14 : Nat → Int32} {cm16 : Nat → Value} {cm18 : Nat → Value} (hcx0 : gF cx0 [(4, .ref cx1), (3, .ref cx3), (2, .ref cx5), (1, .ref cx7), (0, .ref cx9), (7, .null), (8, .null), (9, .null)]) (hcx1 : gF cx2 [(11, .ref cx11), (16, .int 0), (21, .int 0)]) (hcx2 : gF cx4 [(0, none), (1, none)]) (hcx3 : gF cx6 [(0, .ref cx13), (1, .int 0), (2, .int 0)]) (hcx4 : gF cx8 []) (hcx5 : gF cx10 [(0, .ref cx15), (1, .int 0), (2, .int 0)]) (hcx6 : gF cx12 [(7, .ref cx17), (6, .ref cx19), (5, .ref cx21), (0, .int 0), (1, .int 0), (2, .long 0), (8, .int 0)]) (hcx7 : gF cx14 []) (hcx8 : gF cx16 []) (hcx9 : gF cx18 []) (hcx10 : gF cx20 []) (hcx11 : gF cx22 []) (hcm0 : gF cm0 [(74, .ref cm1), (8, .ref cm3), (7, .ref cm5), (6, .ref cm7), (5, .ref cm9), (4, .ref cm11), (2, .ref cm13), (3, .int 0), (12, .int 0), (16, .int 0), (17, .int 0), (18, .int 0), (71, .int 0), (72, .int 0), (89, .int 0), (90, .long 0), (94, .int 0)]) (hcm1 : gF cm2 []) (hcm2 : gF cm4 []) (hcm3 : gF cm6 []) (hcm4 : gF cm8 [(0, .int 0), (1, .int 0)]) (hcm5 : gF cm10 [(1, some cm15), (0, some cm17)]) (hcm6 : gF cm12 []) (hcm7 : gF cm14 []) (hcm8 : gF cm16 [(0, .int 0), (1, .int 0)]) (hcm9 : gF cm18 [(0, .int 0), (1, .int 0)]) (hK : va_K D cls (tyL ca) s) (hX : gX ad av A s s.heap) {H : Heap} {locs : List Loc} (hP : va_P D cls [(xx, .inr (12, rg 10 cx0)), (cx1, .inr (3, rg 22 cx2)), (cx3, .inl (ca 4, 2, .inr (.inr (.inr (.inr cx4))))), (cx5, .inr (0, rg 3 cx6)), (cx7, .inl (ca 0, 20, .inl cx8)), (cx9, .inr (0, rg 3 cx10)), (cx11, .inr (10, rg 9 cx12)), (cx13, .inl (ca 0, 20480, .inl cx14)), (cx15, .inl (ca 0, 3000, .inl cx16)), (cx17, .inl (ca 1, 3001, .inr (.inl cx18))), (cx19, .inl (ca 0, 3001, .inl cx20)), (cx21, .inl (ca 0, 3001, .inl cx22)), (mm, .inr (14, rg 107 cm0)), (cm1, .inl (ca 0, 8, .inl cm2)), (cm3, .inl (ca 0, 3001, .inl cm4)), (cm5, .inl (ca 0, 3001, .inl cm6)), (cm7, .inr (13, rg 81 cm8)), (cm9, .inl (ca 5, 2, .inr (.inr (.inr (.inr cm10))))), (cm11, .inl (ca 2, 20, .inl cm12)), (cm13, .inl (ca 2, 3000, .inl cm14)), (cm15, .inr (13, rg 81 cm16)), (cm17, .inr (13, rg 81 cm18))] H) (hD : va_D A [(xx, .inr (12, rg 10 cx0)), (cx1, .inr (3, rg 22 cx2)), (cx3, .inl (ca 4, 2, .inr (.inr (.inr (.inr cx4))))), (cx5, .inr (0, rg 3 cx6)), (cx7, .inl (ca 0, 20, .inl cx8)), (cx9, .inr (0, rg 3 cx10)), (cx11, .inr (10, rg 9 cx12)), (cx13, .inl (ca 0, 20480, .inl cx14)), (cx15, .inl (ca 0, 3000, .inl cx16)), (cx17, .inl (ca 1, 3001, .inr (.inl cx18))), (cx19, .inl (ca 0, 3001, .inl cx20)), (cx21, .inl (ca 0, 3001, .inl cx22)), (mm, .inr (14, rg 107 cm0)), (cm1, .inl (ca 0, 8, .inl cm2)), (cm3, .inl (ca 0, 3001, .inl cm4)), (cm5, .inl (ca 0, 3001, .inl cm6)), (cm7, .inr (13, rg 81 cm8)), (cm9, .inl (ca 5, 2, .inr (.inr (.inr (.inr cm10))))), (cm11, .inl (ca 2, 20, .inl cm12)), (cm13, .inl (ca 2, 3000, .inl cm14)), (cm15, .inr (13, rg 81 cm16)), (cm17, .inr (13, rg 81 cm18))]) (hS : va_S A s.heap H locs) {ls : Array Slot} (hl : lv_has ls 4 [(3, .int 0), (2, .ref mm), (1, .ref xx), (0, .ref b)]) : W p l e room_1 s m #[Value.ref b] below meth c H locs 282 716534 (lw_Z below #[Value.ref b] s) (F0 m 825 ls []) := by
  obtain ⟨hx, hb, hr, hml, hown, hts0, hXs, hbl, hlocks, hgv⟩ := id C0
  have hts := wA_hts hts0
  have hbA : ¬ A b := fun z => Nat.not_le.mpr hbl (hA2 b z)
  have hown : s.vm.findClass "StaveHouseLaw" = some m.cls := hown
  refine lv_aload_n hx hb d_code_825 rfl (lv_at hl 2 rfl) ?_
  refine lv_aload_n hx hb d_code_826 rfl (lv_at hl 3 rfl) ?_
  refine lv_iload_n hx hb d_code_827 rfl (lv_at hl 0 rfl) ?_
  refine lv_iconst (v := 1) hx hb d_code_828 (by decide) ?_
  refine lv_iadd hx hb d_code_829 ?_
  refine lv_topi (fun y1 ey1 => ?_)
  obtain rfl : y1 = 1 := ey1.trans (by decide)
  refine va_sld hx hb hXs hbl hbA hS (vinC (by decide)) d_code_830 ?_
  refine W.eq (g2 := F0 m 831 ls [.int (xs 1), .ref xx]) rfl ?_
  refine lv_aload_n hx hb d_code_831 rfl (lv_at hl 3 rfl) ?_
  refine lv_iload_n hx hb d_code_832 rfl (lv_at hl 0 rfl) ?_
  refine lv_iconst (v := 2) hx hb d_code_833 (by decide) ?_
  refine lv_iadd hx hb d_code_834 ?_
  refine lv_topi (fun y2 ey2 => ?_)
  obtain rfl : y2 = 2 := ey2.trans (by decide)
  refine va_sld hx hb hXs hbl hbA hS (vinC (by decide)) d_code_835 ?_
  refine W.eq (g2 := F0 m 836 ls [.int (xs 2), .int (xs 1), .ref xx]) rfl ?_
  have hFc3 := va_free (wc := [(xx, .inr (12, rg 10 cx0))]) hD hS hA [0] rfl
  refine va_calll (va_runV (As := [.int (xs 1), .int (xs 2)]) (rest := []) ⟨hx, hb, hml, hown, hts⟩ (c_S_sound_0 l D ca ad av H.size xx cx0 (xs 1) (xs 2) (hcx0.sub [6] rfl)) (cwV 2 hts (gdV k_8_130 k_8_131 k_8_132 k_1_1 k_8_133) rfl rfl rfl (by decide +kernel) ⟨Nat.le_of_ble_eq_true rfl, Nat.le_of_ble_eq_true rfl⟩) (gPV hP hD hK hS hA hX [0] (by decide) rfl xx [.int (xs 1), .int (xs 2)] 0 (ci := 12) (r := (RX12, TX12, 10)) rfl rfl) rfl rfl hl.1 rfl (lv_room (Nat.le_of_ble_eq_true rfl)) d_code_836 ⟨Nat.le_of_ble_eq_true rfl, Nat.le_of_ble_eq_true rfl⟩) hS (fun q _ h => hFc3 q h) hFc3 (fun r3 u3 t3 H3 locs3 ht3 hvm3 hw3 hB3 hz3 hk3 hS3 => ?_)
  have hr3 := hw3
  obtain ⟨hP3, hD3⟩ := gJoin (wr := [(cx1, .inr (3, rg 22 cx2)), (cx3, .inl (ca 4, 2, .inr (.inr (.inr (.inr cx4))))), (cx5, .inr (0, rg 3 cx6)), (cx7, .inl (ca 0, 20, .inl cx8)), (cx9, .inr (0, rg 3 cx10)), (cx11, .inr (10, rg 9 cx12)), (cx13, .inl (ca 0, 20480, .inl cx14)), (cx15, .inl (ca 0, 3000, .inl cx16)), (cx17, .inl (ca 1, 3001, .inr (.inl cx18))), (cx19, .inl (ca 0, 3001, .inl cx20)), (cx21, .inl (ca 0, 3001, .inl cx22)), (mm, .inr (14, rg 107 cm0)), (cm1, .inl (ca 0, 8, .inl cm2)), (cm3, .inl (ca 0, 3001, .inl cm4)), (cm5, .inl (ca 0, 3001, .inl cm6)), (cm7, .inr (13, rg 81 cm8)), (cm9, .inl (ca 5, 2, .inr (.inr (.inr (.inr cm10))))), (cm11, .inl (ca 2, 20, .inl cm12)), (cm13, .inl (ca 2, 3000, .inl cm14)), (cm15, .inr (13, rg 81 cm16)), (cm17, .inr (13, rg 81 cm18))]) (w1 := [(xx, .inr (12, rg 10 cx0))]) hP hD [0] [1, 2, 3, 4, 5, 6, 7, 8, 9, 10, 11, 12, 13, 14, 15, 16, 17, 18, 19, 20, 21] rfl rfl (by decide) (by decide) hk3 hFc3 ht3 hB3
  have hP3 : va_P D cls [(cx1, .inr (3, rg 22 cx2)), (cx3, .inl (ca 4, 2, .inr (.inr (.inr (.inr cx4))))), (cx5, .inr (0, rg 3 cx6)), (cx7, .inl (ca 0, 20, .inl cx8)), (cx9, .inr (0, rg 3 cx10)), (cx11, .inr (10, rg 9 cx12)), (cx13, .inl (ca 0, 20480, .inl cx14)), (cx15, .inl (ca 0, 3000, .inl cx16)), (cx17, .inl (ca 1, 3001, .inr (.inl cx18))), (cx19, .inl (ca 0, 3001, .inl cx20)), (cx21, .inl (ca 0, 3001, .inl cx22)), (mm, .inr (14, rg 107 cm0)), (cm1, .inl (ca 0, 8, .inl cm2)), (cm3, .inl (ca 0, 3001, .inl cm4)), (cm5, .inl (ca 0, 3001, .inl cm6)), (cm7, .inr (13, rg 81 cm8)), (cm9, .inl (ca 5, 2, .inr (.inr (.inr (.inr cm10))))), (cm11, .inl (ca 2, 20, .inl cm12)), (cm13, .inl (ca 2, 3000, .inl cm14)), (cm15, .inr (13, rg 81 cm16)), (cm17, .inr (13, rg 81 cm18)), (xx, .inr (12, rg 10 cx0))] H3 := hP3
  have hD3 : va_D A [(cx1, .inr (3, rg 22 cx2)), (cx3, .inl (ca 4, 2, .inr (.inr (.inr (.inr cx4))))), (cx5, .inr (0, rg 3 cx6)), (cx7, .inl (ca 0, 20, .inl cx8)), (cx9, .inr (0, rg 3 cx10)), (cx11, .inr (10, rg 9 cx12)), (cx13, .inl (ca 0, 20480, .inl cx14)), (cx15, .inl (ca 0, 3000, .inl cx16)), (cx17, .inl (ca 1, 3001, .inr (.inl cx18))), (cx19, .inl (ca 0, 3001, .inl cx20)), (cx21, .inl (ca 0, 3001, .inl cx22)), (mm, .inr (14, rg 107 cm0)), (cm1, .inl (ca 0, 8, .inl cm2)), (cm3, .inl (ca 0, 3001, .inl cm4)), (cm5, .inl (ca 0, 3001, .inl cm6)), (cm7, .inr (13, rg 81 cm8)), (cm9, .inl (ca 5, 2, .inr (.inr (.inr (.inr cm10))))), (cm11, .inl (ca 2, 20, .inl cm12)), (cm13, .inl (ca 2, 3000, .inl cm14)), (cm15, .inr (13, rg 81 cm16)), (cm17, .inr (13, rg 81 cm18)), (xx, .inr (12, rg 10 cx0))] := hD3
  refine W.widen (k := 282) (n := 716534) (Nat.le_of_ble_eq_true rfl) (Nat.le_of_ble_eq_true rfl) ?_
  subst hr3
  refine lv_aload_n hx hb d_code_839 rfl (lv_at hl 1 rfl) ?_
  refine lv_aload_n hx hb d_code_840 rfl (lv_at hl 3 rfl) ?_
  refine lv_iload_n hx hb d_code_841 rfl (lv_at hl 0 rfl) ?_
  refine lv_iconst (v := 1) hx hb d_code_842 (by decide) ?_
  refine lv_iadd hx hb d_code_843 ?_
  refine lv_topi (fun y4 ey4 => ?_)
  obtain rfl : y4 = 1 := ey4.trans (by decide)
  refine va_sld hx hb hXs hbl hbA hS3 (vinC (by decide)) d_code_844 ?_
  refine W.eq (g2 := F0 m 845 ls [.int (xs 1), .ref mm, .long (-1)]) rfl ?_
  refine lv_aload_n hx hb d_code_845 rfl (lv_at hl 3 rfl) ?_
  refine lv_iload_n hx hb d_code_846 rfl (lv_at hl 0 rfl) ?_
  refine lv_iconst (v := 2) hx hb d_code_847 (by decide) ?_
  refine lv_iadd hx hb d_code_848 ?_
  refine lv_topi (fun y5 ey5 => ?_)
  obtain rfl : y5 = 2 := ey5.trans (by decide)
  refine va_sld hx hb hXs hbl hbA hS3 (vinC (by decide)) d_code_849 ?_
  refine W.eq (g2 := F0 m 850 ls [.int (xs 2), .int (xs 1), .ref mm, .long (-1)]) rfl ?_
  have hFc6 := va_free (wc := [(mm, .inr (14, rg 107 cm0))]) hD3 hS3 hA [11] rfl
  refine va_calll (va_runV (As := [.int (xs 1), .int (xs 2)]) (rest := [.long (-1)]) ⟨hx, hb, hml, hown, hts⟩ (c_M_sound_0 l D ca ad av H3.size mm cm0 (xs 1) (xs 2) (hcm0.sub [13] rfl)) (cwV 2 hts (gdV k_13_69 k_13_70 k_13_71 k_1_9 k_13_72) rfl rfl rfl (by decide +kernel) ⟨Nat.le_of_ble_eq_true rfl, Nat.le_of_ble_eq_true rfl⟩) (gPV hP3 hD3 hK hS3 hA hX [11] (by decide) rfl mm [.int (xs 1), .int (xs 2)] 11 (ci := 14) (r := (RX14, TX14, 107)) rfl rfl) rfl rfl hl.1 rfl (lv_room (Nat.le_of_ble_eq_true rfl)) d_code_850 ⟨Nat.le_of_ble_eq_true rfl, Nat.le_of_ble_eq_true rfl⟩) hS3 (fun q _ h => hFc6 q h) hFc6 (fun r6 u6 t6 H6 locs6 ht6 hvm6 hw6 hB6 hz6 hk6 hS6 => ?_)
  have hr6 := hw6
  obtain ⟨hP6, hD6⟩ := gJoin (wr := [(cx1, .inr (3, rg 22 cx2)), (cx3, .inl (ca 4, 2, .inr (.inr (.inr (.inr cx4))))), (cx5, .inr (0, rg 3 cx6)), (cx7, .inl (ca 0, 20, .inl cx8)), (cx9, .inr (0, rg 3 cx10)), (cx11, .inr (10, rg 9 cx12)), (cx13, .inl (ca 0, 20480, .inl cx14)), (cx15, .inl (ca 0, 3000, .inl cx16)), (cx17, .inl (ca 1, 3001, .inr (.inl cx18))), (cx19, .inl (ca 0, 3001, .inl cx20)), (cx21, .inl (ca 0, 3001, .inl cx22)), (cm1, .inl (ca 0, 8, .inl cm2)), (cm3, .inl (ca 0, 3001, .inl cm4)), (cm5, .inl (ca 0, 3001, .inl cm6)), (cm7, .inr (13, rg 81 cm8)), (cm9, .inl (ca 5, 2, .inr (.inr (.inr (.inr cm10))))), (cm11, .inl (ca 2, 20, .inl cm12)), (cm13, .inl (ca 2, 3000, .inl cm14)), (cm15, .inr (13, rg 81 cm16)), (cm17, .inr (13, rg 81 cm18)), (xx, .inr (12, rg 10 cx0))]) (w1 := [(mm, .inr (14, rg 107 cm0))]) hP3 hD3 [11] [0, 1, 2, 3, 4, 5, 6, 7, 8, 9, 10, 12, 13, 14, 15, 16, 17, 18, 19, 20, 21] rfl rfl (by decide) (by decide) hk6 hFc6 ht6 hB6
  have hP6 : va_P D cls [(cx1, .inr (3, rg 22 cx2)), (cx3, .inl (ca 4, 2, .inr (.inr (.inr (.inr cx4))))), (cx5, .inr (0, rg 3 cx6)), (cx7, .inl (ca 0, 20, .inl cx8)), (cx9, .inr (0, rg 3 cx10)), (cx11, .inr (10, rg 9 cx12)), (cx13, .inl (ca 0, 20480, .inl cx14)), (cx15, .inl (ca 0, 3000, .inl cx16)), (cx17, .inl (ca 1, 3001, .inr (.inl cx18))), (cx19, .inl (ca 0, 3001, .inl cx20)), (cx21, .inl (ca 0, 3001, .inl cx22)), (cm1, .inl (ca 0, 8, .inl cm2)), (cm3, .inl (ca 0, 3001, .inl cm4)), (cm5, .inl (ca 0, 3001, .inl cm6)), (cm7, .inr (13, rg 81 cm8)), (cm9, .inl (ca 5, 2, .inr (.inr (.inr (.inr cm10))))), (cm11, .inl (ca 2, 20, .inl cm12)), (cm13, .inl (ca 2, 3000, .inl cm14)), (cm15, .inr (13, rg 81 cm16)), (cm17, .inr (13, rg 81 cm18)), (xx, .inr (12, rg 10 cx0)), (mm, .inr (14, rg 107 cm0))] H6 := hP6
  have hD6 : va_D A [(cx1, .inr (3, rg 22 cx2)), (cx3, .inl (ca 4, 2, .inr (.inr (.inr (.inr cx4))))), (cx5, .inr (0, rg 3 cx6)), (cx7, .inl (ca 0, 20, .inl cx8)), (cx9, .inr (0, rg 3 cx10)), (cx11, .inr (10, rg 9 cx12)), (cx13, .inl (ca 0, 20480, .inl cx14)), (cx15, .inl (ca 0, 3000, .inl cx16)), (cx17, .inl (ca 1, 3001, .inr (.inl cx18))), (cx19, .inl (ca 0, 3001, .inl cx20)), (cx21, .inl (ca 0, 3001, .inl cx22)), (cm1, .inl (ca 0, 8, .inl cm2)), (cm3, .inl (ca 0, 3001, .inl cm4)), (cm5, .inl (ca 0, 3001, .inl cm6)), (cm7, .inr (13, rg 81 cm8)), (cm9, .inl (ca 5, 2, .inr (.inr (.inr (.inr cm10))))), (cm11, .inl (ca 2, 20, .inl cm12)), (cm13, .inl (ca 2, 3000, .inl cm14)), (cm15, .inr (13, rg 81 cm16)), (cm17, .inr (13, rg 81 cm18)), (xx, .inr (12, rg 10 cx0)), (mm, .inr (14, rg 107 cm0))] := hD6
  refine W.widen (k := 282) (n := 716534) (Nat.le_of_ble_eq_true rfl) (Nat.le_of_ble_eq_true rfl) ?_
  subst hr6
  refine W.lcmp hx hb d_code_853 ?_
  refine lv_topi (fun y7 ey7 => ?_)
  obtain rfl : y7 = 0 := ey7.trans (by decide)
  refine lv_if_eq (tgt := 1198) hx hb d_code_854 (by decide) (fun _ => ?_) (fun c => absurd (by decide) c)
  exact law_tail C0 hA2 hS6 (Nat.le_of_ble_eq_true rfl) (Nat.le_of_ble_eq_true rfl) hl
set_option maxHeartbeats 8000000 in
set_option maxRecDepth 100000 in
theorem law_case_20 {p : Program} {l : Launch} {e : Env} {s : State} {m : MethodId} {below : List Frame} {meth : Method} {c : Code} {b : Nat} {xs : Nat → Int32} (C0 : lw_At p s m meth c b 9 xs) {D : va_G} {ca : Nat → ClassId} {ad av : Nat → Nat} {A : Nat → Prop} (hA : ∀ q, s.heap.size ≤ q → A q) (hA2 : ∀ q, A q → s.heap.size ≤ q) {xx : Nat} {cx1 : Nat} {cx3 : Nat} {cx5 : Nat} {cx7 : Nat} {cx9 : Nat} {cx11 : Nat} {cx13 : Nat} {cx15 : Nat} {cx17 : Nat} {cx19 : Nat} {cx21 : Nat} {mm : Nat} {cm1 : Nat} {cm3 : Nat} {cm5 : Nat} {cm7 : Nat} {cm9 : Nat} {cm11 : Nat} {cm13 : Nat} {cm15 : Nat} {cm17 : Nat} {cx0 : Nat → Value} {cx2 : Nat → Value} {cx4 : Nat → Option Nat} {cx6 : Nat → Value} {cx8 : Nat → Int32} {cx10 : Nat → Value} {cx12 : Nat → Value} {cx14 : Nat → Int32} {cx16 : Nat → Int32} {cx18 : Nat → Int64} {cx20 : Nat → Int32} {cx22 : Nat → Int32} {cm0 : Nat → Value} {cm2 : Nat → Int32} {cm4 : Nat → Int32} {cm6 : Nat → Int32} {cm8 : Nat → Value} {cm10 : Nat → Option Nat} {cm12 : Nat → Int32} {cm14 : Nat → Int32} {cm16 : Nat → Value} {cm18 : Nat → Value} (hcx0 : gF cx0 [(4, .ref cx1), (3, .ref cx3), (2, .ref cx5), (1, .ref cx7), (0, .ref cx9), (7, .null), (8, .null), (9, .null)]) (hcx1 : gF cx2 [(11, .ref cx11), (16, .int 0), (21, .int 0)]) (hcx2 : gF cx4 [(0, none), (1, none)]) (hcx3 : gF cx6 [(0, .ref cx13), (1, .int 0), (2, .int 0)]) (hcx4 : gF cx8 []) (hcx5 : gF cx10 [(0, .ref cx15), (1, .int 0), (2, .int 0)]) (hcx6 : gF cx12 [(7, .ref cx17), (6, .ref cx19), (5, .ref cx21), (0, .int 0), (1, .int 0), (2, .long 0), (8, .int 0)]) (hcx7 : gF cx14 []) (hcx8 : gF cx16 []) (hcx9 : gF cx18 []) (hcx10 : gF cx20 []) (hcx11 : gF cx22 []) (hcm0 : gF cm0 [(74, .ref cm1), (8, .ref cm3), (7, .ref cm5), (6, .ref cm7), (5, .ref cm9), (4, .ref cm11), (2, .ref cm13), (3, .int 0), (12, .int 0), (16, .int 0), (17, .int 0), (18, .int 0), (71, .int 0), (72, .int 0), (89, .int 0), (90, .long 0), (94, .int 0)]) (hcm1 : gF cm2 []) (hcm2 : gF cm4 []) (hcm3 : gF cm6 []) (hcm4 : gF cm8 [(0, .int 0), (1, .int 0)]) (hcm5 : gF cm10 [(1, some cm15), (0, some cm17)]) (hcm6 : gF cm12 []) (hcm7 : gF cm14 []) (hcm8 : gF cm16 [(0, .int 0), (1, .int 0)]) (hcm9 : gF cm18 [(0, .int 0), (1, .int 0)]) (hK : va_K D cls (tyL ca) s) (hX : gX ad av A s s.heap) {H : Heap} {locs : List Loc} (hP : va_P D cls [(xx, .inr (12, rg 10 cx0)), (cx1, .inr (3, rg 22 cx2)), (cx3, .inl (ca 4, 2, .inr (.inr (.inr (.inr cx4))))), (cx5, .inr (0, rg 3 cx6)), (cx7, .inl (ca 0, 20, .inl cx8)), (cx9, .inr (0, rg 3 cx10)), (cx11, .inr (10, rg 9 cx12)), (cx13, .inl (ca 0, 20480, .inl cx14)), (cx15, .inl (ca 0, 3000, .inl cx16)), (cx17, .inl (ca 1, 3001, .inr (.inl cx18))), (cx19, .inl (ca 0, 3001, .inl cx20)), (cx21, .inl (ca 0, 3001, .inl cx22)), (mm, .inr (14, rg 107 cm0)), (cm1, .inl (ca 0, 8, .inl cm2)), (cm3, .inl (ca 0, 3001, .inl cm4)), (cm5, .inl (ca 0, 3001, .inl cm6)), (cm7, .inr (13, rg 81 cm8)), (cm9, .inl (ca 5, 2, .inr (.inr (.inr (.inr cm10))))), (cm11, .inl (ca 2, 20, .inl cm12)), (cm13, .inl (ca 2, 3000, .inl cm14)), (cm15, .inr (13, rg 81 cm16)), (cm17, .inr (13, rg 81 cm18))] H) (hD : va_D A [(xx, .inr (12, rg 10 cx0)), (cx1, .inr (3, rg 22 cx2)), (cx3, .inl (ca 4, 2, .inr (.inr (.inr (.inr cx4))))), (cx5, .inr (0, rg 3 cx6)), (cx7, .inl (ca 0, 20, .inl cx8)), (cx9, .inr (0, rg 3 cx10)), (cx11, .inr (10, rg 9 cx12)), (cx13, .inl (ca 0, 20480, .inl cx14)), (cx15, .inl (ca 0, 3000, .inl cx16)), (cx17, .inl (ca 1, 3001, .inr (.inl cx18))), (cx19, .inl (ca 0, 3001, .inl cx20)), (cx21, .inl (ca 0, 3001, .inl cx22)), (mm, .inr (14, rg 107 cm0)), (cm1, .inl (ca 0, 8, .inl cm2)), (cm3, .inl (ca 0, 3001, .inl cm4)), (cm5, .inl (ca 0, 3001, .inl cm6)), (cm7, .inr (13, rg 81 cm8)), (cm9, .inl (ca 5, 2, .inr (.inr (.inr (.inr cm10))))), (cm11, .inl (ca 2, 20, .inl cm12)), (cm13, .inl (ca 2, 3000, .inl cm14)), (cm15, .inr (13, rg 81 cm16)), (cm17, .inr (13, rg 81 cm18))]) (hS : va_S A s.heap H locs) {ls : Array Slot} (hl : lv_has ls 4 [(3, .int 0), (2, .ref mm), (1, .ref xx), (0, .ref b)]) : W p l e room_1 s m #[Value.ref b] below meth c H locs 282 716534 (lw_Z below #[Value.ref b] s) (F0 m 859 ls []) := by
  obtain ⟨hx, hb, hr, hml, hown, hts0, hXs, hbl, hlocks, hgv⟩ := id C0
  have hts := wA_hts hts0
  have hbA : ¬ A b := fun z => Nat.not_le.mpr hbl (hA2 b z)
  have hown : s.vm.findClass "StaveHouseLaw" = some m.cls := hown
  refine lv_aload_n hx hb d_code_859 rfl (lv_at hl 2 rfl) ?_
  refine lv_aload_n hx hb d_code_860 rfl (lv_at hl 3 rfl) ?_
  refine lv_iload_n hx hb d_code_861 rfl (lv_at hl 0 rfl) ?_
  refine lv_iconst (v := 1) hx hb d_code_862 (by decide) ?_
  refine lv_iadd hx hb d_code_863 ?_
  refine lv_topi (fun y1 ey1 => ?_)
  obtain rfl : y1 = 1 := ey1.trans (by decide)
  refine va_sld hx hb hXs hbl hbA hS (vinC (by decide)) d_code_864 ?_
  refine W.eq (g2 := F0 m 865 ls [.int (xs 1), .ref xx]) rfl ?_
  have hFc2 := va_free (wc := [(xx, .inr (12, rg 10 cx0))]) hD hS hA [0] rfl
  refine va_calli (va_runV (As := [.int (xs 1)]) (rest := []) ⟨hx, hb, hml, hown, hts⟩ (c_S_down_0 l D ca ad av H.size xx cx0 (xs 1) (hcx0.sub [6] rfl)) (cwV 1 hts (gdV k_8_134 k_8_135 k_8_136 k_1_1 k_8_137) rfl rfl rfl (by decide +kernel) ⟨Nat.le_of_ble_eq_true rfl, Nat.le_of_ble_eq_true rfl⟩) (gPV hP hD hK hS hA hX [0] (by decide) rfl xx [.int (xs 1)] 0 (ci := 12) (r := (RX12, TX12, 10)) rfl rfl) rfl rfl hl.1 rfl (lv_room (Nat.le_of_ble_eq_true rfl)) d_code_865 ⟨Nat.le_of_ble_eq_true rfl, Nat.le_of_ble_eq_true rfl⟩) hS (fun q _ h => hFc2 q h) hFc2 (fun r2 u2 t2 H2 locs2 ht2 hvm2 hw2 hB2 hz2 hk2 hS2 => ?_)
  have hr2 := hw2
  obtain ⟨hP2, hD2⟩ := gJoin (wr := [(cx1, .inr (3, rg 22 cx2)), (cx3, .inl (ca 4, 2, .inr (.inr (.inr (.inr cx4))))), (cx5, .inr (0, rg 3 cx6)), (cx7, .inl (ca 0, 20, .inl cx8)), (cx9, .inr (0, rg 3 cx10)), (cx11, .inr (10, rg 9 cx12)), (cx13, .inl (ca 0, 20480, .inl cx14)), (cx15, .inl (ca 0, 3000, .inl cx16)), (cx17, .inl (ca 1, 3001, .inr (.inl cx18))), (cx19, .inl (ca 0, 3001, .inl cx20)), (cx21, .inl (ca 0, 3001, .inl cx22)), (mm, .inr (14, rg 107 cm0)), (cm1, .inl (ca 0, 8, .inl cm2)), (cm3, .inl (ca 0, 3001, .inl cm4)), (cm5, .inl (ca 0, 3001, .inl cm6)), (cm7, .inr (13, rg 81 cm8)), (cm9, .inl (ca 5, 2, .inr (.inr (.inr (.inr cm10))))), (cm11, .inl (ca 2, 20, .inl cm12)), (cm13, .inl (ca 2, 3000, .inl cm14)), (cm15, .inr (13, rg 81 cm16)), (cm17, .inr (13, rg 81 cm18))]) (w1 := [(xx, .inr (12, rg 10 cx0))]) hP hD [0] [1, 2, 3, 4, 5, 6, 7, 8, 9, 10, 11, 12, 13, 14, 15, 16, 17, 18, 19, 20, 21] rfl rfl (by decide) (by decide) hk2 hFc2 ht2 hB2
  have hP2 : va_P D cls [(cx1, .inr (3, rg 22 cx2)), (cx3, .inl (ca 4, 2, .inr (.inr (.inr (.inr cx4))))), (cx5, .inr (0, rg 3 cx6)), (cx7, .inl (ca 0, 20, .inl cx8)), (cx9, .inr (0, rg 3 cx10)), (cx11, .inr (10, rg 9 cx12)), (cx13, .inl (ca 0, 20480, .inl cx14)), (cx15, .inl (ca 0, 3000, .inl cx16)), (cx17, .inl (ca 1, 3001, .inr (.inl cx18))), (cx19, .inl (ca 0, 3001, .inl cx20)), (cx21, .inl (ca 0, 3001, .inl cx22)), (mm, .inr (14, rg 107 cm0)), (cm1, .inl (ca 0, 8, .inl cm2)), (cm3, .inl (ca 0, 3001, .inl cm4)), (cm5, .inl (ca 0, 3001, .inl cm6)), (cm7, .inr (13, rg 81 cm8)), (cm9, .inl (ca 5, 2, .inr (.inr (.inr (.inr cm10))))), (cm11, .inl (ca 2, 20, .inl cm12)), (cm13, .inl (ca 2, 3000, .inl cm14)), (cm15, .inr (13, rg 81 cm16)), (cm17, .inr (13, rg 81 cm18)), (xx, .inr (12, rg 10 cx0))] H2 := hP2
  have hD2 : va_D A [(cx1, .inr (3, rg 22 cx2)), (cx3, .inl (ca 4, 2, .inr (.inr (.inr (.inr cx4))))), (cx5, .inr (0, rg 3 cx6)), (cx7, .inl (ca 0, 20, .inl cx8)), (cx9, .inr (0, rg 3 cx10)), (cx11, .inr (10, rg 9 cx12)), (cx13, .inl (ca 0, 20480, .inl cx14)), (cx15, .inl (ca 0, 3000, .inl cx16)), (cx17, .inl (ca 1, 3001, .inr (.inl cx18))), (cx19, .inl (ca 0, 3001, .inl cx20)), (cx21, .inl (ca 0, 3001, .inl cx22)), (mm, .inr (14, rg 107 cm0)), (cm1, .inl (ca 0, 8, .inl cm2)), (cm3, .inl (ca 0, 3001, .inl cm4)), (cm5, .inl (ca 0, 3001, .inl cm6)), (cm7, .inr (13, rg 81 cm8)), (cm9, .inl (ca 5, 2, .inr (.inr (.inr (.inr cm10))))), (cm11, .inl (ca 2, 20, .inl cm12)), (cm13, .inl (ca 2, 3000, .inl cm14)), (cm15, .inr (13, rg 81 cm16)), (cm17, .inr (13, rg 81 cm18)), (xx, .inr (12, rg 10 cx0))] := hD2
  refine W.widen (k := 282) (n := 716534) (Nat.le_of_ble_eq_true rfl) (Nat.le_of_ble_eq_true rfl) ?_
  subst hr2
  refine lv_aload_n hx hb d_code_868 rfl (lv_at hl 1 rfl) ?_
  refine lv_aload_n hx hb d_code_869 rfl (lv_at hl 3 rfl) ?_
  refine lv_iload_n hx hb d_code_870 rfl (lv_at hl 0 rfl) ?_
  refine lv_iconst (v := 1) hx hb d_code_871 (by decide) ?_
  refine lv_iadd hx hb d_code_872 ?_
  refine lv_topi (fun y3 ey3 => ?_)
  obtain rfl : y3 = 1 := ey3.trans (by decide)
  refine va_sld hx hb hXs hbl hbA hS2 (vinC (by decide)) d_code_873 ?_
  refine W.eq (g2 := F0 m 874 ls [.int (xs 1), .ref mm, .int (-1)]) rfl ?_
  have hFc4 := va_free (wc := [(mm, .inr (14, rg 107 cm0))]) hD2 hS2 hA [11] rfl
  refine va_calli (va_runV (As := [.int (xs 1)]) (rest := [.int (-1)]) ⟨hx, hb, hml, hown, hts⟩ (c_M_down_0 l D ca ad av H2.size mm cm0 (xs 1) (hcm0.sub [13] rfl)) (cwV 1 hts (gdV k_13_73 k_13_74 k_13_75 k_1_9 k_13_76) rfl rfl rfl (by decide +kernel) ⟨Nat.le_of_ble_eq_true rfl, Nat.le_of_ble_eq_true rfl⟩) (gPV hP2 hD2 hK hS2 hA hX [11] (by decide) rfl mm [.int (xs 1)] 11 (ci := 14) (r := (RX14, TX14, 107)) rfl rfl) rfl rfl hl.1 rfl (lv_room (Nat.le_of_ble_eq_true rfl)) d_code_874 ⟨Nat.le_of_ble_eq_true rfl, Nat.le_of_ble_eq_true rfl⟩) hS2 (fun q _ h => hFc4 q h) hFc4 (fun r4 u4 t4 H4 locs4 ht4 hvm4 hw4 hB4 hz4 hk4 hS4 => ?_)
  have hr4 := hw4
  obtain ⟨hP4, hD4⟩ := gJoin (wr := [(cx1, .inr (3, rg 22 cx2)), (cx3, .inl (ca 4, 2, .inr (.inr (.inr (.inr cx4))))), (cx5, .inr (0, rg 3 cx6)), (cx7, .inl (ca 0, 20, .inl cx8)), (cx9, .inr (0, rg 3 cx10)), (cx11, .inr (10, rg 9 cx12)), (cx13, .inl (ca 0, 20480, .inl cx14)), (cx15, .inl (ca 0, 3000, .inl cx16)), (cx17, .inl (ca 1, 3001, .inr (.inl cx18))), (cx19, .inl (ca 0, 3001, .inl cx20)), (cx21, .inl (ca 0, 3001, .inl cx22)), (cm1, .inl (ca 0, 8, .inl cm2)), (cm3, .inl (ca 0, 3001, .inl cm4)), (cm5, .inl (ca 0, 3001, .inl cm6)), (cm7, .inr (13, rg 81 cm8)), (cm9, .inl (ca 5, 2, .inr (.inr (.inr (.inr cm10))))), (cm11, .inl (ca 2, 20, .inl cm12)), (cm13, .inl (ca 2, 3000, .inl cm14)), (cm15, .inr (13, rg 81 cm16)), (cm17, .inr (13, rg 81 cm18)), (xx, .inr (12, rg 10 cx0))]) (w1 := [(mm, .inr (14, rg 107 cm0))]) hP2 hD2 [11] [0, 1, 2, 3, 4, 5, 6, 7, 8, 9, 10, 12, 13, 14, 15, 16, 17, 18, 19, 20, 21] rfl rfl (by decide) (by decide) hk4 hFc4 ht4 hB4
  have hP4 : va_P D cls [(cx1, .inr (3, rg 22 cx2)), (cx3, .inl (ca 4, 2, .inr (.inr (.inr (.inr cx4))))), (cx5, .inr (0, rg 3 cx6)), (cx7, .inl (ca 0, 20, .inl cx8)), (cx9, .inr (0, rg 3 cx10)), (cx11, .inr (10, rg 9 cx12)), (cx13, .inl (ca 0, 20480, .inl cx14)), (cx15, .inl (ca 0, 3000, .inl cx16)), (cx17, .inl (ca 1, 3001, .inr (.inl cx18))), (cx19, .inl (ca 0, 3001, .inl cx20)), (cx21, .inl (ca 0, 3001, .inl cx22)), (cm1, .inl (ca 0, 8, .inl cm2)), (cm3, .inl (ca 0, 3001, .inl cm4)), (cm5, .inl (ca 0, 3001, .inl cm6)), (cm7, .inr (13, rg 81 cm8)), (cm9, .inl (ca 5, 2, .inr (.inr (.inr (.inr cm10))))), (cm11, .inl (ca 2, 20, .inl cm12)), (cm13, .inl (ca 2, 3000, .inl cm14)), (cm15, .inr (13, rg 81 cm16)), (cm17, .inr (13, rg 81 cm18)), (xx, .inr (12, rg 10 cx0)), (mm, .inr (14, rg 107 cm0))] H4 := hP4
  have hD4 : va_D A [(cx1, .inr (3, rg 22 cx2)), (cx3, .inl (ca 4, 2, .inr (.inr (.inr (.inr cx4))))), (cx5, .inr (0, rg 3 cx6)), (cx7, .inl (ca 0, 20, .inl cx8)), (cx9, .inr (0, rg 3 cx10)), (cx11, .inr (10, rg 9 cx12)), (cx13, .inl (ca 0, 20480, .inl cx14)), (cx15, .inl (ca 0, 3000, .inl cx16)), (cx17, .inl (ca 1, 3001, .inr (.inl cx18))), (cx19, .inl (ca 0, 3001, .inl cx20)), (cx21, .inl (ca 0, 3001, .inl cx22)), (cm1, .inl (ca 0, 8, .inl cm2)), (cm3, .inl (ca 0, 3001, .inl cm4)), (cm5, .inl (ca 0, 3001, .inl cm6)), (cm7, .inr (13, rg 81 cm8)), (cm9, .inl (ca 5, 2, .inr (.inr (.inr (.inr cm10))))), (cm11, .inl (ca 2, 20, .inl cm12)), (cm13, .inl (ca 2, 3000, .inl cm14)), (cm15, .inr (13, rg 81 cm16)), (cm17, .inr (13, rg 81 cm18)), (xx, .inr (12, rg 10 cx0)), (mm, .inr (14, rg 107 cm0))] := hD4
  refine W.widen (k := 282) (n := 716534) (Nat.le_of_ble_eq_true rfl) (Nat.le_of_ble_eq_true rfl) ?_
  subst hr4
  refine lv_icmp_eq (tgt := 1198) hx hb d_code_877 (by decide) (fun _ => ?_) (fun c => absurd (by decide) c)
  exact law_tail C0 hA2 hS4 (Nat.le_of_ble_eq_true rfl) (Nat.le_of_ble_eq_true rfl) hl
set_option maxHeartbeats 8000000 in
set_option maxRecDepth 100000 in
theorem law_case_21 {p : Program} {l : Launch} {e : Env} {s : State} {m : MethodId} {below : List Frame} {meth : Method} {c : Code} {b : Nat} {xs : Nat → Int32} (C0 : lw_At p s m meth c b 9 xs) {D : va_G} {ca : Nat → ClassId} {ad av : Nat → Nat} {A : Nat → Prop} (hA : ∀ q, s.heap.size ≤ q → A q) (hA2 : ∀ q, A q → s.heap.size ≤ q) {xx : Nat} {cx1 : Nat} {cx3 : Nat} {cx5 : Nat} {cx7 : Nat} {cx9 : Nat} {cx11 : Nat} {cx13 : Nat} {cx15 : Nat} {cx17 : Nat} {cx19 : Nat} {cx21 : Nat} {mm : Nat} {cm1 : Nat} {cm3 : Nat} {cm5 : Nat} {cm7 : Nat} {cm9 : Nat} {cm11 : Nat} {cm13 : Nat} {cm15 : Nat} {cm17 : Nat} {cx0 : Nat → Value} {cx2 : Nat → Value} {cx4 : Nat → Option Nat} {cx6 : Nat → Value} {cx8 : Nat → Int32} {cx10 : Nat → Value} {cx12 : Nat → Value} {cx14 : Nat → Int32} {cx16 : Nat → Int32} {cx18 : Nat → Int64} {cx20 : Nat → Int32} {cx22 : Nat → Int32} {cm0 : Nat → Value} {cm2 : Nat → Int32} {cm4 : Nat → Int32} {cm6 : Nat → Int32} {cm8 : Nat → Value} {cm10 : Nat → Option Nat} {cm12 : Nat → Int32} {cm14 : Nat → Int32} {cm16 : Nat → Value} {cm18 : Nat → Value} (hcx0 : gF cx0 [(4, .ref cx1), (3, .ref cx3), (2, .ref cx5), (1, .ref cx7), (0, .ref cx9), (7, .null), (8, .null), (9, .null)]) (hcx1 : gF cx2 [(11, .ref cx11), (16, .int 0), (21, .int 0)]) (hcx2 : gF cx4 [(0, none), (1, none)]) (hcx3 : gF cx6 [(0, .ref cx13), (1, .int 0), (2, .int 0)]) (hcx4 : gF cx8 []) (hcx5 : gF cx10 [(0, .ref cx15), (1, .int 0), (2, .int 0)]) (hcx6 : gF cx12 [(7, .ref cx17), (6, .ref cx19), (5, .ref cx21), (0, .int 0), (1, .int 0), (2, .long 0), (8, .int 0)]) (hcx7 : gF cx14 []) (hcx8 : gF cx16 []) (hcx9 : gF cx18 []) (hcx10 : gF cx20 []) (hcx11 : gF cx22 []) (hcm0 : gF cm0 [(74, .ref cm1), (8, .ref cm3), (7, .ref cm5), (6, .ref cm7), (5, .ref cm9), (4, .ref cm11), (2, .ref cm13), (3, .int 0), (12, .int 0), (16, .int 0), (17, .int 0), (18, .int 0), (71, .int 0), (72, .int 0), (89, .int 0), (90, .long 0), (94, .int 0)]) (hcm1 : gF cm2 []) (hcm2 : gF cm4 []) (hcm3 : gF cm6 []) (hcm4 : gF cm8 [(0, .int 0), (1, .int 0)]) (hcm5 : gF cm10 [(1, some cm15), (0, some cm17)]) (hcm6 : gF cm12 []) (hcm7 : gF cm14 []) (hcm8 : gF cm16 [(0, .int 0), (1, .int 0)]) (hcm9 : gF cm18 [(0, .int 0), (1, .int 0)]) (hK : va_K D cls (tyL ca) s) (hX : gX ad av A s s.heap) {H : Heap} {locs : List Loc} (hP : va_P D cls [(xx, .inr (12, rg 10 cx0)), (cx1, .inr (3, rg 22 cx2)), (cx3, .inl (ca 4, 2, .inr (.inr (.inr (.inr cx4))))), (cx5, .inr (0, rg 3 cx6)), (cx7, .inl (ca 0, 20, .inl cx8)), (cx9, .inr (0, rg 3 cx10)), (cx11, .inr (10, rg 9 cx12)), (cx13, .inl (ca 0, 20480, .inl cx14)), (cx15, .inl (ca 0, 3000, .inl cx16)), (cx17, .inl (ca 1, 3001, .inr (.inl cx18))), (cx19, .inl (ca 0, 3001, .inl cx20)), (cx21, .inl (ca 0, 3001, .inl cx22)), (mm, .inr (14, rg 107 cm0)), (cm1, .inl (ca 0, 8, .inl cm2)), (cm3, .inl (ca 0, 3001, .inl cm4)), (cm5, .inl (ca 0, 3001, .inl cm6)), (cm7, .inr (13, rg 81 cm8)), (cm9, .inl (ca 5, 2, .inr (.inr (.inr (.inr cm10))))), (cm11, .inl (ca 2, 20, .inl cm12)), (cm13, .inl (ca 2, 3000, .inl cm14)), (cm15, .inr (13, rg 81 cm16)), (cm17, .inr (13, rg 81 cm18))] H) (hD : va_D A [(xx, .inr (12, rg 10 cx0)), (cx1, .inr (3, rg 22 cx2)), (cx3, .inl (ca 4, 2, .inr (.inr (.inr (.inr cx4))))), (cx5, .inr (0, rg 3 cx6)), (cx7, .inl (ca 0, 20, .inl cx8)), (cx9, .inr (0, rg 3 cx10)), (cx11, .inr (10, rg 9 cx12)), (cx13, .inl (ca 0, 20480, .inl cx14)), (cx15, .inl (ca 0, 3000, .inl cx16)), (cx17, .inl (ca 1, 3001, .inr (.inl cx18))), (cx19, .inl (ca 0, 3001, .inl cx20)), (cx21, .inl (ca 0, 3001, .inl cx22)), (mm, .inr (14, rg 107 cm0)), (cm1, .inl (ca 0, 8, .inl cm2)), (cm3, .inl (ca 0, 3001, .inl cm4)), (cm5, .inl (ca 0, 3001, .inl cm6)), (cm7, .inr (13, rg 81 cm8)), (cm9, .inl (ca 5, 2, .inr (.inr (.inr (.inr cm10))))), (cm11, .inl (ca 2, 20, .inl cm12)), (cm13, .inl (ca 2, 3000, .inl cm14)), (cm15, .inr (13, rg 81 cm16)), (cm17, .inr (13, rg 81 cm18))]) (hS : va_S A s.heap H locs) {ls : Array Slot} (hl : lv_has ls 4 [(3, .int 0), (2, .ref mm), (1, .ref xx), (0, .ref b)]) : W p l e room_1 s m #[Value.ref b] below meth c H locs 282 716534 (lw_Z below #[Value.ref b] s) (F0 m 882 ls []) := by
  obtain ⟨hx, hb, hr, hml, hown, hts0, hXs, hbl, hlocks, hgv⟩ := id C0
  have hts := wA_hts hts0
  have hbA : ¬ A b := fun z => Nat.not_le.mpr hbl (hA2 b z)
  have hown : s.vm.findClass "StaveHouseLaw" = some m.cls := hown
  refine lv_aload_n hx hb d_code_882 rfl (lv_at hl 2 rfl) ?_
  refine lv_aload_n hx hb d_code_883 rfl (lv_at hl 3 rfl) ?_
  refine lv_iload_n hx hb d_code_884 rfl (lv_at hl 0 rfl) ?_
  refine lv_iconst (v := 1) hx hb d_code_885 (by decide) ?_
  refine lv_iadd hx hb d_code_886 ?_
  refine lv_topi (fun y1 ey1 => ?_)
  obtain rfl : y1 = 1 := ey1.trans (by decide)
  refine va_sld hx hb hXs hbl hbA hS (vinC (by decide)) d_code_887 ?_
  refine W.eq (g2 := F0 m 888 ls [.int (xs 1), .ref xx]) rfl ?_
  refine lv_aload_n hx hb d_code_888 rfl (lv_at hl 3 rfl) ?_
  refine lv_iload_n hx hb d_code_889 rfl (lv_at hl 0 rfl) ?_
  refine lv_iconst (v := 2) hx hb d_code_890 (by decide) ?_
  refine lv_iadd hx hb d_code_891 ?_
  refine lv_topi (fun y2 ey2 => ?_)
  obtain rfl : y2 = 2 := ey2.trans (by decide)
  refine va_sld hx hb hXs hbl hbA hS (vinC (by decide)) d_code_892 ?_
  refine W.eq (g2 := F0 m 893 ls [.int (xs 2), .int (xs 1), .ref xx]) rfl ?_
  have hFc3 := va_free (wc := [(xx, .inr (12, rg 10 cx0)), (cx3, .inl (ca 4, 2, .inr (.inr (.inr (.inr cx4)))))]) hD hS hA [0, 2] rfl
  refine va_calli (va_runV (As := [.int (xs 1), .int (xs 2)]) (rest := []) ⟨hx, hb, hml, hown, hts⟩ (c_S_play_0 l D ca ad av H.size xx cx3 cx0 cx4 (xs 1) (xs 2) (hcx0.sub [1] rfl) (hcx2.sub [0, 1] rfl)) (cwV 2 hts (gdV k_8_234 k_8_235 k_8_236 k_1_1 k_8_237) rfl rfl rfl (by decide +kernel) ⟨Nat.le_of_ble_eq_true rfl, Nat.le_of_ble_eq_true rfl⟩) (gPV hP hD hK hS hA hX [0, 2] (by decide) rfl xx [.int (xs 1), .int (xs 2)] 0 (ci := 12) (r := (RX12, TX12, 10)) rfl rfl) rfl rfl hl.1 rfl (lv_room (Nat.le_of_ble_eq_true rfl)) d_code_893 ⟨Nat.le_of_ble_eq_true rfl, Nat.le_of_ble_eq_true rfl⟩) hS (fun q _ h => hFc3 q h) hFc3 (fun r3 u3 t3 H3 locs3 ht3 hvm3 hw3 hB3 hz3 hk3 hS3 => ?_)
  have hr3 := hw3
  obtain ⟨hP3, hD3⟩ := gJoin (wr := [(cx1, .inr (3, rg 22 cx2)), (cx5, .inr (0, rg 3 cx6)), (cx7, .inl (ca 0, 20, .inl cx8)), (cx9, .inr (0, rg 3 cx10)), (cx11, .inr (10, rg 9 cx12)), (cx13, .inl (ca 0, 20480, .inl cx14)), (cx15, .inl (ca 0, 3000, .inl cx16)), (cx17, .inl (ca 1, 3001, .inr (.inl cx18))), (cx19, .inl (ca 0, 3001, .inl cx20)), (cx21, .inl (ca 0, 3001, .inl cx22)), (mm, .inr (14, rg 107 cm0)), (cm1, .inl (ca 0, 8, .inl cm2)), (cm3, .inl (ca 0, 3001, .inl cm4)), (cm5, .inl (ca 0, 3001, .inl cm6)), (cm7, .inr (13, rg 81 cm8)), (cm9, .inl (ca 5, 2, .inr (.inr (.inr (.inr cm10))))), (cm11, .inl (ca 2, 20, .inl cm12)), (cm13, .inl (ca 2, 3000, .inl cm14)), (cm15, .inr (13, rg 81 cm16)), (cm17, .inr (13, rg 81 cm18))]) (w1 := [(xx, .inr (12, rg 10 cx0)), (cx3, .inl (ca 4, 2, .inr (.inr (.inr (.inr cx4)))))]) hP hD [0, 2] [1, 3, 4, 5, 6, 7, 8, 9, 10, 11, 12, 13, 14, 15, 16, 17, 18, 19, 20, 21] rfl rfl (by decide) (by decide) hk3 hFc3 ht3 hB3
  have hP3 : va_P D cls [(cx1, .inr (3, rg 22 cx2)), (cx5, .inr (0, rg 3 cx6)), (cx7, .inl (ca 0, 20, .inl cx8)), (cx9, .inr (0, rg 3 cx10)), (cx11, .inr (10, rg 9 cx12)), (cx13, .inl (ca 0, 20480, .inl cx14)), (cx15, .inl (ca 0, 3000, .inl cx16)), (cx17, .inl (ca 1, 3001, .inr (.inl cx18))), (cx19, .inl (ca 0, 3001, .inl cx20)), (cx21, .inl (ca 0, 3001, .inl cx22)), (mm, .inr (14, rg 107 cm0)), (cm1, .inl (ca 0, 8, .inl cm2)), (cm3, .inl (ca 0, 3001, .inl cm4)), (cm5, .inl (ca 0, 3001, .inl cm6)), (cm7, .inr (13, rg 81 cm8)), (cm9, .inl (ca 5, 2, .inr (.inr (.inr (.inr cm10))))), (cm11, .inl (ca 2, 20, .inl cm12)), (cm13, .inl (ca 2, 3000, .inl cm14)), (cm15, .inr (13, rg 81 cm16)), (cm17, .inr (13, rg 81 cm18)), (xx, .inr (12, rg 10 cx0)), (cx3, .inl (ca 4, 2, .inr (.inr (.inr (.inr cx4)))))] H3 := hP3
  have hD3 : va_D A [(cx1, .inr (3, rg 22 cx2)), (cx5, .inr (0, rg 3 cx6)), (cx7, .inl (ca 0, 20, .inl cx8)), (cx9, .inr (0, rg 3 cx10)), (cx11, .inr (10, rg 9 cx12)), (cx13, .inl (ca 0, 20480, .inl cx14)), (cx15, .inl (ca 0, 3000, .inl cx16)), (cx17, .inl (ca 1, 3001, .inr (.inl cx18))), (cx19, .inl (ca 0, 3001, .inl cx20)), (cx21, .inl (ca 0, 3001, .inl cx22)), (mm, .inr (14, rg 107 cm0)), (cm1, .inl (ca 0, 8, .inl cm2)), (cm3, .inl (ca 0, 3001, .inl cm4)), (cm5, .inl (ca 0, 3001, .inl cm6)), (cm7, .inr (13, rg 81 cm8)), (cm9, .inl (ca 5, 2, .inr (.inr (.inr (.inr cm10))))), (cm11, .inl (ca 2, 20, .inl cm12)), (cm13, .inl (ca 2, 3000, .inl cm14)), (cm15, .inr (13, rg 81 cm16)), (cm17, .inr (13, rg 81 cm18)), (xx, .inr (12, rg 10 cx0)), (cx3, .inl (ca 4, 2, .inr (.inr (.inr (.inr cx4)))))] := hD3
  refine W.widen (k := 282) (n := 716534) (Nat.le_of_ble_eq_true rfl) (Nat.le_of_ble_eq_true rfl) ?_
  subst hr3
  refine lv_aload_n hx hb d_code_896 rfl (lv_at hl 1 rfl) ?_
  refine lv_aload_n hx hb d_code_897 rfl (lv_at hl 3 rfl) ?_
  refine lv_iload_n hx hb d_code_898 rfl (lv_at hl 0 rfl) ?_
  refine lv_iconst (v := 1) hx hb d_code_899 (by decide) ?_
  refine lv_iadd hx hb d_code_900 ?_
  refine lv_topi (fun y4 ey4 => ?_)
  obtain rfl : y4 = 1 := ey4.trans (by decide)
  refine va_sld hx hb hXs hbl hbA hS3 (vinC (by decide)) d_code_901 ?_
  refine W.eq (g2 := F0 m 902 ls [.int (xs 1), .ref mm, .int (-1)]) rfl ?_
  refine lv_aload_n hx hb d_code_902 rfl (lv_at hl 3 rfl) ?_
  refine lv_iload_n hx hb d_code_903 rfl (lv_at hl 0 rfl) ?_
  refine lv_iconst (v := 2) hx hb d_code_904 (by decide) ?_
  refine lv_iadd hx hb d_code_905 ?_
  refine lv_topi (fun y5 ey5 => ?_)
  obtain rfl : y5 = 2 := ey5.trans (by decide)
  refine va_sld hx hb hXs hbl hbA hS3 (vinC (by decide)) d_code_906 ?_
  refine W.eq (g2 := F0 m 907 ls [.int (xs 2), .int (xs 1), .ref mm, .int (-1)]) rfl ?_
  have hFc6 := va_free (wc := [(mm, .inr (14, rg 107 cm0)), (cm9, .inl (ca 5, 2, .inr (.inr (.inr (.inr cm10))))), (cm15, .inr (13, rg 81 cm16)), (cm17, .inr (13, rg 81 cm18))]) hD3 hS3 hA [10, 15, 18, 19] rfl
  refine va_calli (va_runV (As := [.int (xs 1), .int (xs 2)]) (rest := [.int (-1)]) ⟨hx, hb, hml, hown, hts⟩ (c_M_play_0 l D ca ad av H3.size mm cm9 cm15 cm17 cm0 cm10 cm16 cm18 (xs 1) (xs 2) (hcm0.sub [4] rfl) (hcm5.sub [0, 1] rfl) (hcm8.sub [0] rfl) (hcm9.sub [0] rfl)) (cwV 2 hts (gdV k_13_203 k_13_204 k_13_205 k_1_9 k_13_206) rfl rfl rfl (by decide +kernel) ⟨Nat.le_of_ble_eq_true rfl, Nat.le_of_ble_eq_true rfl⟩) (gPV hP3 hD3 hK hS3 hA hX [10, 15, 18, 19] (by decide) rfl mm [.int (xs 1), .int (xs 2)] 10 (ci := 14) (r := (RX14, TX14, 107)) rfl rfl) rfl rfl hl.1 rfl (lv_room (Nat.le_of_ble_eq_true rfl)) d_code_907 ⟨Nat.le_of_ble_eq_true rfl, Nat.le_of_ble_eq_true rfl⟩) hS3 (fun q _ h => hFc6 q h) hFc6 (fun r6 u6 t6 H6 locs6 ht6 hvm6 hw6 hB6 hz6 hk6 hS6 => ?_)
  have hr6 := hw6
  obtain ⟨hP6, hD6⟩ := gJoin (wr := [(cx1, .inr (3, rg 22 cx2)), (cx5, .inr (0, rg 3 cx6)), (cx7, .inl (ca 0, 20, .inl cx8)), (cx9, .inr (0, rg 3 cx10)), (cx11, .inr (10, rg 9 cx12)), (cx13, .inl (ca 0, 20480, .inl cx14)), (cx15, .inl (ca 0, 3000, .inl cx16)), (cx17, .inl (ca 1, 3001, .inr (.inl cx18))), (cx19, .inl (ca 0, 3001, .inl cx20)), (cx21, .inl (ca 0, 3001, .inl cx22)), (cm1, .inl (ca 0, 8, .inl cm2)), (cm3, .inl (ca 0, 3001, .inl cm4)), (cm5, .inl (ca 0, 3001, .inl cm6)), (cm7, .inr (13, rg 81 cm8)), (cm11, .inl (ca 2, 20, .inl cm12)), (cm13, .inl (ca 2, 3000, .inl cm14)), (xx, .inr (12, rg 10 cx0)), (cx3, .inl (ca 4, 2, .inr (.inr (.inr (.inr cx4)))))]) (w1 := [(mm, .inr (14, rg 107 cm0)), (cm9, .inl (ca 5, 2, .inr (.inr (.inr (.inr cm10))))), (cm15, .inr (13, rg 81 cm16)), (cm17, .inr (13, rg 81 cm18))]) hP3 hD3 [10, 15, 18, 19] [0, 1, 2, 3, 4, 5, 6, 7, 8, 9, 11, 12, 13, 14, 16, 17, 20, 21] rfl rfl (by decide) (by decide) hk6 hFc6 ht6 hB6
  have hP6 : va_P D cls [(cx1, .inr (3, rg 22 cx2)), (cx5, .inr (0, rg 3 cx6)), (cx7, .inl (ca 0, 20, .inl cx8)), (cx9, .inr (0, rg 3 cx10)), (cx11, .inr (10, rg 9 cx12)), (cx13, .inl (ca 0, 20480, .inl cx14)), (cx15, .inl (ca 0, 3000, .inl cx16)), (cx17, .inl (ca 1, 3001, .inr (.inl cx18))), (cx19, .inl (ca 0, 3001, .inl cx20)), (cx21, .inl (ca 0, 3001, .inl cx22)), (cm1, .inl (ca 0, 8, .inl cm2)), (cm3, .inl (ca 0, 3001, .inl cm4)), (cm5, .inl (ca 0, 3001, .inl cm6)), (cm7, .inr (13, rg 81 cm8)), (cm11, .inl (ca 2, 20, .inl cm12)), (cm13, .inl (ca 2, 3000, .inl cm14)), (xx, .inr (12, rg 10 cx0)), (cx3, .inl (ca 4, 2, .inr (.inr (.inr (.inr cx4))))), (mm, .inr (14, rg 107 cm0)), (cm9, .inl (ca 5, 2, .inr (.inr (.inr (.inr cm10))))), (cm15, .inr (13, rg 81 cm16)), (cm17, .inr (13, rg 81 cm18))] H6 := hP6
  have hD6 : va_D A [(cx1, .inr (3, rg 22 cx2)), (cx5, .inr (0, rg 3 cx6)), (cx7, .inl (ca 0, 20, .inl cx8)), (cx9, .inr (0, rg 3 cx10)), (cx11, .inr (10, rg 9 cx12)), (cx13, .inl (ca 0, 20480, .inl cx14)), (cx15, .inl (ca 0, 3000, .inl cx16)), (cx17, .inl (ca 1, 3001, .inr (.inl cx18))), (cx19, .inl (ca 0, 3001, .inl cx20)), (cx21, .inl (ca 0, 3001, .inl cx22)), (cm1, .inl (ca 0, 8, .inl cm2)), (cm3, .inl (ca 0, 3001, .inl cm4)), (cm5, .inl (ca 0, 3001, .inl cm6)), (cm7, .inr (13, rg 81 cm8)), (cm11, .inl (ca 2, 20, .inl cm12)), (cm13, .inl (ca 2, 3000, .inl cm14)), (xx, .inr (12, rg 10 cx0)), (cx3, .inl (ca 4, 2, .inr (.inr (.inr (.inr cx4))))), (mm, .inr (14, rg 107 cm0)), (cm9, .inl (ca 5, 2, .inr (.inr (.inr (.inr cm10))))), (cm15, .inr (13, rg 81 cm16)), (cm17, .inr (13, rg 81 cm18))] := hD6
  refine W.widen (k := 282) (n := 716534) (Nat.le_of_ble_eq_true rfl) (Nat.le_of_ble_eq_true rfl) ?_
  subst hr6
  refine lv_icmp_eq (tgt := 1198) hx hb d_code_910 (by decide) (fun _ => ?_) (fun c => absurd (by decide) c)
  exact law_tail C0 hA2 hS6 (Nat.le_of_ble_eq_true rfl) (Nat.le_of_ble_eq_true rfl) hl
set_option maxHeartbeats 8000000 in
set_option maxRecDepth 100000 in
theorem law_case_22 {p : Program} {l : Launch} {e : Env} {s : State} {m : MethodId} {below : List Frame} {meth : Method} {c : Code} {b : Nat} {xs : Nat → Int32} (C0 : lw_At p s m meth c b 9 xs) {D : va_G} {ca : Nat → ClassId} {ad av : Nat → Nat} {A : Nat → Prop} (hA : ∀ q, s.heap.size ≤ q → A q) (hA2 : ∀ q, A q → s.heap.size ≤ q) {xx : Nat} {cx1 : Nat} {cx3 : Nat} {cx5 : Nat} {cx7 : Nat} {cx9 : Nat} {cx11 : Nat} {cx13 : Nat} {cx15 : Nat} {cx17 : Nat} {cx19 : Nat} {cx21 : Nat} {mm : Nat} {cm1 : Nat} {cm3 : Nat} {cm5 : Nat} {cm7 : Nat} {cm9 : Nat} {cm11 : Nat} {cm13 : Nat} {cm15 : Nat} {cm17 : Nat} {cx0 : Nat → Value} {cx2 : Nat → Value} {cx4 : Nat → Option Nat} {cx6 : Nat → Value} {cx8 : Nat → Int32} {cx10 : Nat → Value} {cx12 : Nat → Value} {cx14 : Nat → Int32} {cx16 : Nat → Int32} {cx18 : Nat → Int64} {cx20 : Nat → Int32} {cx22 : Nat → Int32} {cm0 : Nat → Value} {cm2 : Nat → Int32} {cm4 : Nat → Int32} {cm6 : Nat → Int32} {cm8 : Nat → Value} {cm10 : Nat → Option Nat} {cm12 : Nat → Int32} {cm14 : Nat → Int32} {cm16 : Nat → Value} {cm18 : Nat → Value} (hcx0 : gF cx0 [(4, .ref cx1), (3, .ref cx3), (2, .ref cx5), (1, .ref cx7), (0, .ref cx9), (7, .null), (8, .null), (9, .null)]) (hcx1 : gF cx2 [(11, .ref cx11), (16, .int 0), (21, .int 0)]) (hcx2 : gF cx4 [(0, none), (1, none)]) (hcx3 : gF cx6 [(0, .ref cx13), (1, .int 0), (2, .int 0)]) (hcx4 : gF cx8 []) (hcx5 : gF cx10 [(0, .ref cx15), (1, .int 0), (2, .int 0)]) (hcx6 : gF cx12 [(7, .ref cx17), (6, .ref cx19), (5, .ref cx21), (0, .int 0), (1, .int 0), (2, .long 0), (8, .int 0)]) (hcx7 : gF cx14 []) (hcx8 : gF cx16 []) (hcx9 : gF cx18 []) (hcx10 : gF cx20 []) (hcx11 : gF cx22 []) (hcm0 : gF cm0 [(74, .ref cm1), (8, .ref cm3), (7, .ref cm5), (6, .ref cm7), (5, .ref cm9), (4, .ref cm11), (2, .ref cm13), (3, .int 0), (12, .int 0), (16, .int 0), (17, .int 0), (18, .int 0), (71, .int 0), (72, .int 0), (89, .int 0), (90, .long 0), (94, .int 0)]) (hcm1 : gF cm2 []) (hcm2 : gF cm4 []) (hcm3 : gF cm6 []) (hcm4 : gF cm8 [(0, .int 0), (1, .int 0)]) (hcm5 : gF cm10 [(1, some cm15), (0, some cm17)]) (hcm6 : gF cm12 []) (hcm7 : gF cm14 []) (hcm8 : gF cm16 [(0, .int 0), (1, .int 0)]) (hcm9 : gF cm18 [(0, .int 0), (1, .int 0)]) (hK : va_K D cls (tyL ca) s) (hX : gX ad av A s s.heap) {H : Heap} {locs : List Loc} (hP : va_P D cls [(xx, .inr (12, rg 10 cx0)), (cx1, .inr (3, rg 22 cx2)), (cx3, .inl (ca 4, 2, .inr (.inr (.inr (.inr cx4))))), (cx5, .inr (0, rg 3 cx6)), (cx7, .inl (ca 0, 20, .inl cx8)), (cx9, .inr (0, rg 3 cx10)), (cx11, .inr (10, rg 9 cx12)), (cx13, .inl (ca 0, 20480, .inl cx14)), (cx15, .inl (ca 0, 3000, .inl cx16)), (cx17, .inl (ca 1, 3001, .inr (.inl cx18))), (cx19, .inl (ca 0, 3001, .inl cx20)), (cx21, .inl (ca 0, 3001, .inl cx22)), (mm, .inr (14, rg 107 cm0)), (cm1, .inl (ca 0, 8, .inl cm2)), (cm3, .inl (ca 0, 3001, .inl cm4)), (cm5, .inl (ca 0, 3001, .inl cm6)), (cm7, .inr (13, rg 81 cm8)), (cm9, .inl (ca 5, 2, .inr (.inr (.inr (.inr cm10))))), (cm11, .inl (ca 2, 20, .inl cm12)), (cm13, .inl (ca 2, 3000, .inl cm14)), (cm15, .inr (13, rg 81 cm16)), (cm17, .inr (13, rg 81 cm18))] H) (hD : va_D A [(xx, .inr (12, rg 10 cx0)), (cx1, .inr (3, rg 22 cx2)), (cx3, .inl (ca 4, 2, .inr (.inr (.inr (.inr cx4))))), (cx5, .inr (0, rg 3 cx6)), (cx7, .inl (ca 0, 20, .inl cx8)), (cx9, .inr (0, rg 3 cx10)), (cx11, .inr (10, rg 9 cx12)), (cx13, .inl (ca 0, 20480, .inl cx14)), (cx15, .inl (ca 0, 3000, .inl cx16)), (cx17, .inl (ca 1, 3001, .inr (.inl cx18))), (cx19, .inl (ca 0, 3001, .inl cx20)), (cx21, .inl (ca 0, 3001, .inl cx22)), (mm, .inr (14, rg 107 cm0)), (cm1, .inl (ca 0, 8, .inl cm2)), (cm3, .inl (ca 0, 3001, .inl cm4)), (cm5, .inl (ca 0, 3001, .inl cm6)), (cm7, .inr (13, rg 81 cm8)), (cm9, .inl (ca 5, 2, .inr (.inr (.inr (.inr cm10))))), (cm11, .inl (ca 2, 20, .inl cm12)), (cm13, .inl (ca 2, 3000, .inl cm14)), (cm15, .inr (13, rg 81 cm16)), (cm17, .inr (13, rg 81 cm18))]) (hS : va_S A s.heap H locs) {ls : Array Slot} (hl : lv_has ls 4 [(3, .int 0), (2, .ref mm), (1, .ref xx), (0, .ref b)]) : W p l e room_1 s m #[Value.ref b] below meth c H locs 282 716534 (lw_Z below #[Value.ref b] s) (F0 m 915 ls []) := by
  obtain ⟨hx, hb, hr, hml, hown, hts0, hXs, hbl, hlocks, hgv⟩ := id C0
  have hts := wA_hts hts0
  have hbA : ¬ A b := fun z => Nat.not_le.mpr hbl (hA2 b z)
  have hown : s.vm.findClass "StaveHouseLaw" = some m.cls := hown
  refine lv_aload_n hx hb d_code_915 rfl (lv_at hl 2 rfl) ?_
  refine lv_aload_n hx hb d_code_916 rfl (lv_at hl 3 rfl) ?_
  refine lv_iload_n hx hb d_code_917 rfl (lv_at hl 0 rfl) ?_
  refine lv_iconst (v := 1) hx hb d_code_918 (by decide) ?_
  refine lv_iadd hx hb d_code_919 ?_
  refine lv_topi (fun y1 ey1 => ?_)
  obtain rfl : y1 = 1 := ey1.trans (by decide)
  refine va_sld hx hb hXs hbl hbA hS (vinC (by decide)) d_code_920 ?_
  refine W.eq (g2 := F0 m 921 ls [.int (xs 1), .ref xx]) rfl ?_
  refine lv_aload_n hx hb d_code_921 rfl (lv_at hl 3 rfl) ?_
  refine lv_iload_n hx hb d_code_922 rfl (lv_at hl 0 rfl) ?_
  refine lv_iconst (v := 2) hx hb d_code_923 (by decide) ?_
  refine lv_iadd hx hb d_code_924 ?_
  refine lv_topi (fun y2 ey2 => ?_)
  obtain rfl : y2 = 2 := ey2.trans (by decide)
  refine va_sld hx hb hXs hbl hbA hS (vinC (by decide)) d_code_925 ?_
  refine W.eq (g2 := F0 m 926 ls [.int (xs 2), .int (xs 1), .ref xx]) rfl ?_
  refine lv_aload_n hx hb d_code_926 rfl (lv_at hl 3 rfl) ?_
  refine lv_iload_n hx hb d_code_927 rfl (lv_at hl 0 rfl) ?_
  refine lv_iconst (v := 3) hx hb d_code_928 (by decide) ?_
  refine lv_iadd hx hb d_code_929 ?_
  refine lv_topi (fun y3 ey3 => ?_)
  obtain rfl : y3 = 3 := ey3.trans (by decide)
  refine va_sld hx hb hXs hbl hbA hS (vinC (by decide)) d_code_930 ?_
  refine W.eq (g2 := F0 m 931 ls [.int (xs 3), .int (xs 2), .int (xs 1), .ref xx]) rfl ?_
  have hFc4 := va_free (wc := [(xx, .inr (12, rg 10 cx0)), (cx3, .inl (ca 4, 2, .inr (.inr (.inr (.inr cx4)))))]) hD hS hA [0, 2] rfl
  refine va_calli (va_runV (As := [.int (xs 1), .int (xs 2), .int (xs 3)]) (rest := []) ⟨hx, hb, hml, hown, hts⟩ (c_S_sample_0 l D ca ad av H.size xx cx3 cx0 cx4 (xs 1) (xs 2) (xs 3) (hcx0.sub [1] rfl) (hcx2.sub [0, 1] rfl)) (cwV 3 hts (gdV k_9_30 k_9_31 k_9_32 k_1_1 k_9_33) rfl rfl rfl (by decide +kernel) ⟨Nat.le_of_ble_eq_true rfl, Nat.le_of_ble_eq_true rfl⟩) (gPV hP hD hK hS hA hX [0, 2] (by decide) rfl xx [.int (xs 1), .int (xs 2), .int (xs 3)] 0 (ci := 12) (r := (RX12, TX12, 10)) rfl rfl) rfl rfl hl.1 rfl (lv_room (Nat.le_of_ble_eq_true rfl)) d_code_931 ⟨Nat.le_of_ble_eq_true rfl, Nat.le_of_ble_eq_true rfl⟩) hS (fun q _ h => hFc4 q h) hFc4 (fun r4 u4 t4 H4 locs4 ht4 hvm4 hw4 hB4 hz4 hk4 hS4 => ?_)
  have hr4 := hw4
  obtain ⟨hP4, hD4⟩ := gJoin (wr := [(cx1, .inr (3, rg 22 cx2)), (cx5, .inr (0, rg 3 cx6)), (cx7, .inl (ca 0, 20, .inl cx8)), (cx9, .inr (0, rg 3 cx10)), (cx11, .inr (10, rg 9 cx12)), (cx13, .inl (ca 0, 20480, .inl cx14)), (cx15, .inl (ca 0, 3000, .inl cx16)), (cx17, .inl (ca 1, 3001, .inr (.inl cx18))), (cx19, .inl (ca 0, 3001, .inl cx20)), (cx21, .inl (ca 0, 3001, .inl cx22)), (mm, .inr (14, rg 107 cm0)), (cm1, .inl (ca 0, 8, .inl cm2)), (cm3, .inl (ca 0, 3001, .inl cm4)), (cm5, .inl (ca 0, 3001, .inl cm6)), (cm7, .inr (13, rg 81 cm8)), (cm9, .inl (ca 5, 2, .inr (.inr (.inr (.inr cm10))))), (cm11, .inl (ca 2, 20, .inl cm12)), (cm13, .inl (ca 2, 3000, .inl cm14)), (cm15, .inr (13, rg 81 cm16)), (cm17, .inr (13, rg 81 cm18))]) (w1 := [(xx, .inr (12, rg 10 cx0)), (cx3, .inl (ca 4, 2, .inr (.inr (.inr (.inr cx4)))))]) hP hD [0, 2] [1, 3, 4, 5, 6, 7, 8, 9, 10, 11, 12, 13, 14, 15, 16, 17, 18, 19, 20, 21] rfl rfl (by decide) (by decide) hk4 hFc4 ht4 hB4
  have hP4 : va_P D cls [(cx1, .inr (3, rg 22 cx2)), (cx5, .inr (0, rg 3 cx6)), (cx7, .inl (ca 0, 20, .inl cx8)), (cx9, .inr (0, rg 3 cx10)), (cx11, .inr (10, rg 9 cx12)), (cx13, .inl (ca 0, 20480, .inl cx14)), (cx15, .inl (ca 0, 3000, .inl cx16)), (cx17, .inl (ca 1, 3001, .inr (.inl cx18))), (cx19, .inl (ca 0, 3001, .inl cx20)), (cx21, .inl (ca 0, 3001, .inl cx22)), (mm, .inr (14, rg 107 cm0)), (cm1, .inl (ca 0, 8, .inl cm2)), (cm3, .inl (ca 0, 3001, .inl cm4)), (cm5, .inl (ca 0, 3001, .inl cm6)), (cm7, .inr (13, rg 81 cm8)), (cm9, .inl (ca 5, 2, .inr (.inr (.inr (.inr cm10))))), (cm11, .inl (ca 2, 20, .inl cm12)), (cm13, .inl (ca 2, 3000, .inl cm14)), (cm15, .inr (13, rg 81 cm16)), (cm17, .inr (13, rg 81 cm18)), (xx, .inr (12, rg 10 cx0)), (cx3, .inl (ca 4, 2, .inr (.inr (.inr (.inr cx4)))))] H4 := hP4
  have hD4 : va_D A [(cx1, .inr (3, rg 22 cx2)), (cx5, .inr (0, rg 3 cx6)), (cx7, .inl (ca 0, 20, .inl cx8)), (cx9, .inr (0, rg 3 cx10)), (cx11, .inr (10, rg 9 cx12)), (cx13, .inl (ca 0, 20480, .inl cx14)), (cx15, .inl (ca 0, 3000, .inl cx16)), (cx17, .inl (ca 1, 3001, .inr (.inl cx18))), (cx19, .inl (ca 0, 3001, .inl cx20)), (cx21, .inl (ca 0, 3001, .inl cx22)), (mm, .inr (14, rg 107 cm0)), (cm1, .inl (ca 0, 8, .inl cm2)), (cm3, .inl (ca 0, 3001, .inl cm4)), (cm5, .inl (ca 0, 3001, .inl cm6)), (cm7, .inr (13, rg 81 cm8)), (cm9, .inl (ca 5, 2, .inr (.inr (.inr (.inr cm10))))), (cm11, .inl (ca 2, 20, .inl cm12)), (cm13, .inl (ca 2, 3000, .inl cm14)), (cm15, .inr (13, rg 81 cm16)), (cm17, .inr (13, rg 81 cm18)), (xx, .inr (12, rg 10 cx0)), (cx3, .inl (ca 4, 2, .inr (.inr (.inr (.inr cx4)))))] := hD4
  refine W.widen (k := 282) (n := 716534) (Nat.le_of_ble_eq_true rfl) (Nat.le_of_ble_eq_true rfl) ?_
  subst hr4
  refine lv_aload_n hx hb d_code_934 rfl (lv_at hl 1 rfl) ?_
  refine lv_aload_n hx hb d_code_935 rfl (lv_at hl 3 rfl) ?_
  refine lv_iload_n hx hb d_code_936 rfl (lv_at hl 0 rfl) ?_
  refine lv_iconst (v := 1) hx hb d_code_937 (by decide) ?_
  refine lv_iadd hx hb d_code_938 ?_
  refine lv_topi (fun y5 ey5 => ?_)
  obtain rfl : y5 = 1 := ey5.trans (by decide)
  refine va_sld hx hb hXs hbl hbA hS4 (vinC (by decide)) d_code_939 ?_
  refine W.eq (g2 := F0 m 940 ls [.int (xs 1), .ref mm, .int (-2147483648)]) rfl ?_
  refine lv_aload_n hx hb d_code_940 rfl (lv_at hl 3 rfl) ?_
  refine lv_iload_n hx hb d_code_941 rfl (lv_at hl 0 rfl) ?_
  refine lv_iconst (v := 2) hx hb d_code_942 (by decide) ?_
  refine lv_iadd hx hb d_code_943 ?_
  refine lv_topi (fun y6 ey6 => ?_)
  obtain rfl : y6 = 2 := ey6.trans (by decide)
  refine va_sld hx hb hXs hbl hbA hS4 (vinC (by decide)) d_code_944 ?_
  refine W.eq (g2 := F0 m 945 ls [.int (xs 2), .int (xs 1), .ref mm, .int (-2147483648)]) rfl ?_
  refine lv_aload_n hx hb d_code_945 rfl (lv_at hl 3 rfl) ?_
  refine lv_iload_n hx hb d_code_946 rfl (lv_at hl 0 rfl) ?_
  refine lv_iconst (v := 3) hx hb d_code_947 (by decide) ?_
  refine lv_iadd hx hb d_code_948 ?_
  refine lv_topi (fun y7 ey7 => ?_)
  obtain rfl : y7 = 3 := ey7.trans (by decide)
  refine va_sld hx hb hXs hbl hbA hS4 (vinC (by decide)) d_code_949 ?_
  refine W.eq (g2 := F0 m 950 ls [.int (xs 3), .int (xs 2), .int (xs 1), .ref mm, .int (-2147483648)]) rfl ?_
  have hFc8 := va_free (wc := [(mm, .inr (14, rg 107 cm0)), (cm9, .inl (ca 5, 2, .inr (.inr (.inr (.inr cm10))))), (cm15, .inr (13, rg 81 cm16)), (cm17, .inr (13, rg 81 cm18))]) hD4 hS4 hA [10, 15, 18, 19] rfl
  refine va_calli (va_runV (As := [.int (xs 1), .int (xs 2), .int (xs 3)]) (rest := [.int (-2147483648)]) ⟨hx, hb, hml, hown, hts⟩ (c_M_sample_0 l D ca ad av H4.size mm cm9 cm15 cm17 cm0 cm10 cm16 cm18 (xs 1) (xs 2) (xs 3) (hcm0.sub [4] rfl) (hcm5.sub [0, 1] rfl) (hcm8.sub [0] rfl) (hcm9.sub [0] rfl)) (cwV 3 hts (gdV k_14_8 k_14_9 k_14_10 k_1_9 k_14_11) rfl rfl rfl (by decide +kernel) ⟨Nat.le_of_ble_eq_true rfl, Nat.le_of_ble_eq_true rfl⟩) (gPV hP4 hD4 hK hS4 hA hX [10, 15, 18, 19] (by decide) rfl mm [.int (xs 1), .int (xs 2), .int (xs 3)] 10 (ci := 14) (r := (RX14, TX14, 107)) rfl rfl) rfl rfl hl.1 rfl (lv_room (Nat.le_of_ble_eq_true rfl)) d_code_950 ⟨Nat.le_of_ble_eq_true rfl, Nat.le_of_ble_eq_true rfl⟩) hS4 (fun q _ h => hFc8 q h) hFc8 (fun r8 u8 t8 H8 locs8 ht8 hvm8 hw8 hB8 hz8 hk8 hS8 => ?_)
  have hr8 := hw8
  obtain ⟨hP8, hD8⟩ := gJoin (wr := [(cx1, .inr (3, rg 22 cx2)), (cx5, .inr (0, rg 3 cx6)), (cx7, .inl (ca 0, 20, .inl cx8)), (cx9, .inr (0, rg 3 cx10)), (cx11, .inr (10, rg 9 cx12)), (cx13, .inl (ca 0, 20480, .inl cx14)), (cx15, .inl (ca 0, 3000, .inl cx16)), (cx17, .inl (ca 1, 3001, .inr (.inl cx18))), (cx19, .inl (ca 0, 3001, .inl cx20)), (cx21, .inl (ca 0, 3001, .inl cx22)), (cm1, .inl (ca 0, 8, .inl cm2)), (cm3, .inl (ca 0, 3001, .inl cm4)), (cm5, .inl (ca 0, 3001, .inl cm6)), (cm7, .inr (13, rg 81 cm8)), (cm11, .inl (ca 2, 20, .inl cm12)), (cm13, .inl (ca 2, 3000, .inl cm14)), (xx, .inr (12, rg 10 cx0)), (cx3, .inl (ca 4, 2, .inr (.inr (.inr (.inr cx4)))))]) (w1 := [(mm, .inr (14, rg 107 cm0)), (cm9, .inl (ca 5, 2, .inr (.inr (.inr (.inr cm10))))), (cm15, .inr (13, rg 81 cm16)), (cm17, .inr (13, rg 81 cm18))]) hP4 hD4 [10, 15, 18, 19] [0, 1, 2, 3, 4, 5, 6, 7, 8, 9, 11, 12, 13, 14, 16, 17, 20, 21] rfl rfl (by decide) (by decide) hk8 hFc8 ht8 hB8
  have hP8 : va_P D cls [(cx1, .inr (3, rg 22 cx2)), (cx5, .inr (0, rg 3 cx6)), (cx7, .inl (ca 0, 20, .inl cx8)), (cx9, .inr (0, rg 3 cx10)), (cx11, .inr (10, rg 9 cx12)), (cx13, .inl (ca 0, 20480, .inl cx14)), (cx15, .inl (ca 0, 3000, .inl cx16)), (cx17, .inl (ca 1, 3001, .inr (.inl cx18))), (cx19, .inl (ca 0, 3001, .inl cx20)), (cx21, .inl (ca 0, 3001, .inl cx22)), (cm1, .inl (ca 0, 8, .inl cm2)), (cm3, .inl (ca 0, 3001, .inl cm4)), (cm5, .inl (ca 0, 3001, .inl cm6)), (cm7, .inr (13, rg 81 cm8)), (cm11, .inl (ca 2, 20, .inl cm12)), (cm13, .inl (ca 2, 3000, .inl cm14)), (xx, .inr (12, rg 10 cx0)), (cx3, .inl (ca 4, 2, .inr (.inr (.inr (.inr cx4))))), (mm, .inr (14, rg 107 cm0)), (cm9, .inl (ca 5, 2, .inr (.inr (.inr (.inr cm10))))), (cm15, .inr (13, rg 81 cm16)), (cm17, .inr (13, rg 81 cm18))] H8 := hP8
  have hD8 : va_D A [(cx1, .inr (3, rg 22 cx2)), (cx5, .inr (0, rg 3 cx6)), (cx7, .inl (ca 0, 20, .inl cx8)), (cx9, .inr (0, rg 3 cx10)), (cx11, .inr (10, rg 9 cx12)), (cx13, .inl (ca 0, 20480, .inl cx14)), (cx15, .inl (ca 0, 3000, .inl cx16)), (cx17, .inl (ca 1, 3001, .inr (.inl cx18))), (cx19, .inl (ca 0, 3001, .inl cx20)), (cx21, .inl (ca 0, 3001, .inl cx22)), (cm1, .inl (ca 0, 8, .inl cm2)), (cm3, .inl (ca 0, 3001, .inl cm4)), (cm5, .inl (ca 0, 3001, .inl cm6)), (cm7, .inr (13, rg 81 cm8)), (cm11, .inl (ca 2, 20, .inl cm12)), (cm13, .inl (ca 2, 3000, .inl cm14)), (xx, .inr (12, rg 10 cx0)), (cx3, .inl (ca 4, 2, .inr (.inr (.inr (.inr cx4))))), (mm, .inr (14, rg 107 cm0)), (cm9, .inl (ca 5, 2, .inr (.inr (.inr (.inr cm10))))), (cm15, .inr (13, rg 81 cm16)), (cm17, .inr (13, rg 81 cm18))] := hD8
  refine W.widen (k := 282) (n := 716534) (Nat.le_of_ble_eq_true rfl) (Nat.le_of_ble_eq_true rfl) ?_
  subst hr8
  refine lv_icmp_eq (tgt := 1198) hx hb d_code_953 (by decide) (fun _ => ?_) (fun c => absurd (by decide) c)
  exact law_tail C0 hA2 hS8 (Nat.le_of_ble_eq_true rfl) (Nat.le_of_ble_eq_true rfl) hl
set_option maxHeartbeats 8000000 in
set_option maxRecDepth 100000 in
theorem law_case_23 {p : Program} {l : Launch} {e : Env} {s : State} {m : MethodId} {below : List Frame} {meth : Method} {c : Code} {b : Nat} {xs : Nat → Int32} (C0 : lw_At p s m meth c b 9 xs) {D : va_G} {ca : Nat → ClassId} {ad av : Nat → Nat} {A : Nat → Prop} (hA : ∀ q, s.heap.size ≤ q → A q) (hA2 : ∀ q, A q → s.heap.size ≤ q) {xx : Nat} {cx1 : Nat} {cx3 : Nat} {cx5 : Nat} {cx7 : Nat} {cx9 : Nat} {cx11 : Nat} {cx13 : Nat} {cx15 : Nat} {cx17 : Nat} {cx19 : Nat} {cx21 : Nat} {mm : Nat} {cm1 : Nat} {cm3 : Nat} {cm5 : Nat} {cm7 : Nat} {cm9 : Nat} {cm11 : Nat} {cm13 : Nat} {cm15 : Nat} {cm17 : Nat} {cx0 : Nat → Value} {cx2 : Nat → Value} {cx4 : Nat → Option Nat} {cx6 : Nat → Value} {cx8 : Nat → Int32} {cx10 : Nat → Value} {cx12 : Nat → Value} {cx14 : Nat → Int32} {cx16 : Nat → Int32} {cx18 : Nat → Int64} {cx20 : Nat → Int32} {cx22 : Nat → Int32} {cm0 : Nat → Value} {cm2 : Nat → Int32} {cm4 : Nat → Int32} {cm6 : Nat → Int32} {cm8 : Nat → Value} {cm10 : Nat → Option Nat} {cm12 : Nat → Int32} {cm14 : Nat → Int32} {cm16 : Nat → Value} {cm18 : Nat → Value} (hcx0 : gF cx0 [(4, .ref cx1), (3, .ref cx3), (2, .ref cx5), (1, .ref cx7), (0, .ref cx9), (7, .null), (8, .null), (9, .null)]) (hcx1 : gF cx2 [(11, .ref cx11), (16, .int 0), (21, .int 0)]) (hcx2 : gF cx4 [(0, none), (1, none)]) (hcx3 : gF cx6 [(0, .ref cx13), (1, .int 0), (2, .int 0)]) (hcx4 : gF cx8 []) (hcx5 : gF cx10 [(0, .ref cx15), (1, .int 0), (2, .int 0)]) (hcx6 : gF cx12 [(7, .ref cx17), (6, .ref cx19), (5, .ref cx21), (0, .int 0), (1, .int 0), (2, .long 0), (8, .int 0)]) (hcx7 : gF cx14 []) (hcx8 : gF cx16 []) (hcx9 : gF cx18 []) (hcx10 : gF cx20 []) (hcx11 : gF cx22 []) (hcm0 : gF cm0 [(74, .ref cm1), (8, .ref cm3), (7, .ref cm5), (6, .ref cm7), (5, .ref cm9), (4, .ref cm11), (2, .ref cm13), (3, .int 0), (12, .int 0), (16, .int 0), (17, .int 0), (18, .int 0), (71, .int 0), (72, .int 0), (89, .int 0), (90, .long 0), (94, .int 0)]) (hcm1 : gF cm2 []) (hcm2 : gF cm4 []) (hcm3 : gF cm6 []) (hcm4 : gF cm8 [(0, .int 0), (1, .int 0)]) (hcm5 : gF cm10 [(1, some cm15), (0, some cm17)]) (hcm6 : gF cm12 []) (hcm7 : gF cm14 []) (hcm8 : gF cm16 [(0, .int 0), (1, .int 0)]) (hcm9 : gF cm18 [(0, .int 0), (1, .int 0)]) (hK : va_K D cls (tyL ca) s) (hX : gX ad av A s s.heap) {H : Heap} {locs : List Loc} (hP : va_P D cls [(xx, .inr (12, rg 10 cx0)), (cx1, .inr (3, rg 22 cx2)), (cx3, .inl (ca 4, 2, .inr (.inr (.inr (.inr cx4))))), (cx5, .inr (0, rg 3 cx6)), (cx7, .inl (ca 0, 20, .inl cx8)), (cx9, .inr (0, rg 3 cx10)), (cx11, .inr (10, rg 9 cx12)), (cx13, .inl (ca 0, 20480, .inl cx14)), (cx15, .inl (ca 0, 3000, .inl cx16)), (cx17, .inl (ca 1, 3001, .inr (.inl cx18))), (cx19, .inl (ca 0, 3001, .inl cx20)), (cx21, .inl (ca 0, 3001, .inl cx22)), (mm, .inr (14, rg 107 cm0)), (cm1, .inl (ca 0, 8, .inl cm2)), (cm3, .inl (ca 0, 3001, .inl cm4)), (cm5, .inl (ca 0, 3001, .inl cm6)), (cm7, .inr (13, rg 81 cm8)), (cm9, .inl (ca 5, 2, .inr (.inr (.inr (.inr cm10))))), (cm11, .inl (ca 2, 20, .inl cm12)), (cm13, .inl (ca 2, 3000, .inl cm14)), (cm15, .inr (13, rg 81 cm16)), (cm17, .inr (13, rg 81 cm18))] H) (hD : va_D A [(xx, .inr (12, rg 10 cx0)), (cx1, .inr (3, rg 22 cx2)), (cx3, .inl (ca 4, 2, .inr (.inr (.inr (.inr cx4))))), (cx5, .inr (0, rg 3 cx6)), (cx7, .inl (ca 0, 20, .inl cx8)), (cx9, .inr (0, rg 3 cx10)), (cx11, .inr (10, rg 9 cx12)), (cx13, .inl (ca 0, 20480, .inl cx14)), (cx15, .inl (ca 0, 3000, .inl cx16)), (cx17, .inl (ca 1, 3001, .inr (.inl cx18))), (cx19, .inl (ca 0, 3001, .inl cx20)), (cx21, .inl (ca 0, 3001, .inl cx22)), (mm, .inr (14, rg 107 cm0)), (cm1, .inl (ca 0, 8, .inl cm2)), (cm3, .inl (ca 0, 3001, .inl cm4)), (cm5, .inl (ca 0, 3001, .inl cm6)), (cm7, .inr (13, rg 81 cm8)), (cm9, .inl (ca 5, 2, .inr (.inr (.inr (.inr cm10))))), (cm11, .inl (ca 2, 20, .inl cm12)), (cm13, .inl (ca 2, 3000, .inl cm14)), (cm15, .inr (13, rg 81 cm16)), (cm17, .inr (13, rg 81 cm18))]) (hS : va_S A s.heap H locs) {ls : Array Slot} (hl : lv_has ls 4 [(3, .int 0), (2, .ref mm), (1, .ref xx), (0, .ref b)]) : W p l e room_1 s m #[Value.ref b] below meth c H locs 282 716534 (lw_Z below #[Value.ref b] s) (F0 m 958 ls []) := by
  obtain ⟨hx, hb, hr, hml, hown, hts0, hXs, hbl, hlocks, hgv⟩ := id C0
  have hts := wA_hts hts0
  have hbA : ¬ A b := fun z => Nat.not_le.mpr hbl (hA2 b z)
  have hown : s.vm.findClass "StaveHouseLaw" = some m.cls := hown
  refine lv_aload_n hx hb d_code_958 rfl (lv_at hl 2 rfl) ?_
  refine lv_aload_n hx hb d_code_959 rfl (lv_at hl 3 rfl) ?_
  refine lv_iload_n hx hb d_code_960 rfl (lv_at hl 0 rfl) ?_
  refine lv_iconst (v := 1) hx hb d_code_961 (by decide) ?_
  refine lv_iadd hx hb d_code_962 ?_
  refine lv_topi (fun y1 ey1 => ?_)
  obtain rfl : y1 = 1 := ey1.trans (by decide)
  refine va_sld hx hb hXs hbl hbA hS (vinC (by decide)) d_code_963 ?_
  refine W.eq (g2 := F0 m 964 ls [.int (xs 1), .ref xx]) rfl ?_
  refine lv_aload_n hx hb d_code_964 rfl (lv_at hl 3 rfl) ?_
  refine lv_iload_n hx hb d_code_965 rfl (lv_at hl 0 rfl) ?_
  refine lv_iconst (v := 2) hx hb d_code_966 (by decide) ?_
  refine lv_iadd hx hb d_code_967 ?_
  refine lv_topi (fun y2 ey2 => ?_)
  obtain rfl : y2 = 2 := ey2.trans (by decide)
  refine va_sld hx hb hXs hbl hbA hS (vinC (by decide)) d_code_968 ?_
  refine W.eq (g2 := F0 m 969 ls [.int (xs 2), .int (xs 1), .ref xx]) rfl ?_
  refine lv_aload_n hx hb d_code_969 rfl (lv_at hl 3 rfl) ?_
  refine lv_iload_n hx hb d_code_970 rfl (lv_at hl 0 rfl) ?_
  refine lv_iconst (v := 3) hx hb d_code_971 (by decide) ?_
  refine lv_iadd hx hb d_code_972 ?_
  refine lv_topi (fun y3 ey3 => ?_)
  obtain rfl : y3 = 3 := ey3.trans (by decide)
  refine va_sld hx hb hXs hbl hbA hS (vinC (by decide)) d_code_973 ?_
  refine W.eq (g2 := F0 m 974 ls [.int (xs 3), .int (xs 2), .int (xs 1), .ref xx]) rfl ?_
  have hFc4 := va_free (wc := [(xx, .inr (12, rg 10 cx0)), (cx3, .inl (ca 4, 2, .inr (.inr (.inr (.inr cx4)))))]) hD hS hA [0, 2] rfl
  refine va_calll (va_runV (As := [.int (xs 1), .int (xs 2), .int (xs 3)]) (rest := []) ⟨hx, hb, hml, hown, hts⟩ (c_S_moment_0 l D ca ad av H.size xx cx3 cx0 cx4 (xs 1) (xs 2) (xs 3) (hcx0.sub [1] rfl) (hcx2.sub [0, 1] rfl)) (cwV 3 hts (gdV k_9_34 k_9_35 k_9_36 k_1_1 k_9_37) rfl rfl rfl (by decide +kernel) ⟨Nat.le_of_ble_eq_true rfl, Nat.le_of_ble_eq_true rfl⟩) (gPV hP hD hK hS hA hX [0, 2] (by decide) rfl xx [.int (xs 1), .int (xs 2), .int (xs 3)] 0 (ci := 12) (r := (RX12, TX12, 10)) rfl rfl) rfl rfl hl.1 rfl (lv_room (Nat.le_of_ble_eq_true rfl)) d_code_974 ⟨Nat.le_of_ble_eq_true rfl, Nat.le_of_ble_eq_true rfl⟩) hS (fun q _ h => hFc4 q h) hFc4 (fun r4 u4 t4 H4 locs4 ht4 hvm4 hw4 hB4 hz4 hk4 hS4 => ?_)
  have hr4 := hw4
  obtain ⟨hP4, hD4⟩ := gJoin (wr := [(cx1, .inr (3, rg 22 cx2)), (cx5, .inr (0, rg 3 cx6)), (cx7, .inl (ca 0, 20, .inl cx8)), (cx9, .inr (0, rg 3 cx10)), (cx11, .inr (10, rg 9 cx12)), (cx13, .inl (ca 0, 20480, .inl cx14)), (cx15, .inl (ca 0, 3000, .inl cx16)), (cx17, .inl (ca 1, 3001, .inr (.inl cx18))), (cx19, .inl (ca 0, 3001, .inl cx20)), (cx21, .inl (ca 0, 3001, .inl cx22)), (mm, .inr (14, rg 107 cm0)), (cm1, .inl (ca 0, 8, .inl cm2)), (cm3, .inl (ca 0, 3001, .inl cm4)), (cm5, .inl (ca 0, 3001, .inl cm6)), (cm7, .inr (13, rg 81 cm8)), (cm9, .inl (ca 5, 2, .inr (.inr (.inr (.inr cm10))))), (cm11, .inl (ca 2, 20, .inl cm12)), (cm13, .inl (ca 2, 3000, .inl cm14)), (cm15, .inr (13, rg 81 cm16)), (cm17, .inr (13, rg 81 cm18))]) (w1 := [(xx, .inr (12, rg 10 cx0)), (cx3, .inl (ca 4, 2, .inr (.inr (.inr (.inr cx4)))))]) hP hD [0, 2] [1, 3, 4, 5, 6, 7, 8, 9, 10, 11, 12, 13, 14, 15, 16, 17, 18, 19, 20, 21] rfl rfl (by decide) (by decide) hk4 hFc4 ht4 hB4
  have hP4 : va_P D cls [(cx1, .inr (3, rg 22 cx2)), (cx5, .inr (0, rg 3 cx6)), (cx7, .inl (ca 0, 20, .inl cx8)), (cx9, .inr (0, rg 3 cx10)), (cx11, .inr (10, rg 9 cx12)), (cx13, .inl (ca 0, 20480, .inl cx14)), (cx15, .inl (ca 0, 3000, .inl cx16)), (cx17, .inl (ca 1, 3001, .inr (.inl cx18))), (cx19, .inl (ca 0, 3001, .inl cx20)), (cx21, .inl (ca 0, 3001, .inl cx22)), (mm, .inr (14, rg 107 cm0)), (cm1, .inl (ca 0, 8, .inl cm2)), (cm3, .inl (ca 0, 3001, .inl cm4)), (cm5, .inl (ca 0, 3001, .inl cm6)), (cm7, .inr (13, rg 81 cm8)), (cm9, .inl (ca 5, 2, .inr (.inr (.inr (.inr cm10))))), (cm11, .inl (ca 2, 20, .inl cm12)), (cm13, .inl (ca 2, 3000, .inl cm14)), (cm15, .inr (13, rg 81 cm16)), (cm17, .inr (13, rg 81 cm18)), (xx, .inr (12, rg 10 cx0)), (cx3, .inl (ca 4, 2, .inr (.inr (.inr (.inr cx4)))))] H4 := hP4
  have hD4 : va_D A [(cx1, .inr (3, rg 22 cx2)), (cx5, .inr (0, rg 3 cx6)), (cx7, .inl (ca 0, 20, .inl cx8)), (cx9, .inr (0, rg 3 cx10)), (cx11, .inr (10, rg 9 cx12)), (cx13, .inl (ca 0, 20480, .inl cx14)), (cx15, .inl (ca 0, 3000, .inl cx16)), (cx17, .inl (ca 1, 3001, .inr (.inl cx18))), (cx19, .inl (ca 0, 3001, .inl cx20)), (cx21, .inl (ca 0, 3001, .inl cx22)), (mm, .inr (14, rg 107 cm0)), (cm1, .inl (ca 0, 8, .inl cm2)), (cm3, .inl (ca 0, 3001, .inl cm4)), (cm5, .inl (ca 0, 3001, .inl cm6)), (cm7, .inr (13, rg 81 cm8)), (cm9, .inl (ca 5, 2, .inr (.inr (.inr (.inr cm10))))), (cm11, .inl (ca 2, 20, .inl cm12)), (cm13, .inl (ca 2, 3000, .inl cm14)), (cm15, .inr (13, rg 81 cm16)), (cm17, .inr (13, rg 81 cm18)), (xx, .inr (12, rg 10 cx0)), (cx3, .inl (ca 4, 2, .inr (.inr (.inr (.inr cx4)))))] := hD4
  refine W.widen (k := 282) (n := 716534) (Nat.le_of_ble_eq_true rfl) (Nat.le_of_ble_eq_true rfl) ?_
  subst hr4
  refine lv_aload_n hx hb d_code_977 rfl (lv_at hl 1 rfl) ?_
  refine lv_aload_n hx hb d_code_978 rfl (lv_at hl 3 rfl) ?_
  refine lv_iload_n hx hb d_code_979 rfl (lv_at hl 0 rfl) ?_
  refine lv_iconst (v := 1) hx hb d_code_980 (by decide) ?_
  refine lv_iadd hx hb d_code_981 ?_
  refine lv_topi (fun y5 ey5 => ?_)
  obtain rfl : y5 = 1 := ey5.trans (by decide)
  refine va_sld hx hb hXs hbl hbA hS4 (vinC (by decide)) d_code_982 ?_
  refine W.eq (g2 := F0 m 983 ls [.int (xs 1), .ref mm, .long (-2147483648)]) rfl ?_
  refine lv_aload_n hx hb d_code_983 rfl (lv_at hl 3 rfl) ?_
  refine lv_iload_n hx hb d_code_984 rfl (lv_at hl 0 rfl) ?_
  refine lv_iconst (v := 2) hx hb d_code_985 (by decide) ?_
  refine lv_iadd hx hb d_code_986 ?_
  refine lv_topi (fun y6 ey6 => ?_)
  obtain rfl : y6 = 2 := ey6.trans (by decide)
  refine va_sld hx hb hXs hbl hbA hS4 (vinC (by decide)) d_code_987 ?_
  refine W.eq (g2 := F0 m 988 ls [.int (xs 2), .int (xs 1), .ref mm, .long (-2147483648)]) rfl ?_
  refine lv_aload_n hx hb d_code_988 rfl (lv_at hl 3 rfl) ?_
  refine lv_iload_n hx hb d_code_989 rfl (lv_at hl 0 rfl) ?_
  refine lv_iconst (v := 3) hx hb d_code_990 (by decide) ?_
  refine lv_iadd hx hb d_code_991 ?_
  refine lv_topi (fun y7 ey7 => ?_)
  obtain rfl : y7 = 3 := ey7.trans (by decide)
  refine va_sld hx hb hXs hbl hbA hS4 (vinC (by decide)) d_code_992 ?_
  refine W.eq (g2 := F0 m 993 ls [.int (xs 3), .int (xs 2), .int (xs 1), .ref mm, .long (-2147483648)]) rfl ?_
  have hFc8 := va_free (wc := [(mm, .inr (14, rg 107 cm0)), (cm9, .inl (ca 5, 2, .inr (.inr (.inr (.inr cm10))))), (cm15, .inr (13, rg 81 cm16)), (cm17, .inr (13, rg 81 cm18))]) hD4 hS4 hA [10, 15, 18, 19] rfl
  refine va_calll (va_runV (As := [.int (xs 1), .int (xs 2), .int (xs 3)]) (rest := [.long (-2147483648)]) ⟨hx, hb, hml, hown, hts⟩ (c_M_moment_0 l D ca ad av H4.size mm cm9 cm15 cm17 cm0 cm10 cm16 cm18 (xs 1) (xs 2) (xs 3) (hcm0.sub [4] rfl) (hcm5.sub [0, 1] rfl) (hcm8.sub [0] rfl) (hcm9.sub [0] rfl)) (cwV 3 hts (gdV k_14_12 k_14_13 k_14_14 k_1_9 k_14_15) rfl rfl rfl (by decide +kernel) ⟨Nat.le_of_ble_eq_true rfl, Nat.le_of_ble_eq_true rfl⟩) (gPV hP4 hD4 hK hS4 hA hX [10, 15, 18, 19] (by decide) rfl mm [.int (xs 1), .int (xs 2), .int (xs 3)] 10 (ci := 14) (r := (RX14, TX14, 107)) rfl rfl) rfl rfl hl.1 rfl (lv_room (Nat.le_of_ble_eq_true rfl)) d_code_993 ⟨Nat.le_of_ble_eq_true rfl, Nat.le_of_ble_eq_true rfl⟩) hS4 (fun q _ h => hFc8 q h) hFc8 (fun r8 u8 t8 H8 locs8 ht8 hvm8 hw8 hB8 hz8 hk8 hS8 => ?_)
  have hr8 := hw8
  obtain ⟨hP8, hD8⟩ := gJoin (wr := [(cx1, .inr (3, rg 22 cx2)), (cx5, .inr (0, rg 3 cx6)), (cx7, .inl (ca 0, 20, .inl cx8)), (cx9, .inr (0, rg 3 cx10)), (cx11, .inr (10, rg 9 cx12)), (cx13, .inl (ca 0, 20480, .inl cx14)), (cx15, .inl (ca 0, 3000, .inl cx16)), (cx17, .inl (ca 1, 3001, .inr (.inl cx18))), (cx19, .inl (ca 0, 3001, .inl cx20)), (cx21, .inl (ca 0, 3001, .inl cx22)), (cm1, .inl (ca 0, 8, .inl cm2)), (cm3, .inl (ca 0, 3001, .inl cm4)), (cm5, .inl (ca 0, 3001, .inl cm6)), (cm7, .inr (13, rg 81 cm8)), (cm11, .inl (ca 2, 20, .inl cm12)), (cm13, .inl (ca 2, 3000, .inl cm14)), (xx, .inr (12, rg 10 cx0)), (cx3, .inl (ca 4, 2, .inr (.inr (.inr (.inr cx4)))))]) (w1 := [(mm, .inr (14, rg 107 cm0)), (cm9, .inl (ca 5, 2, .inr (.inr (.inr (.inr cm10))))), (cm15, .inr (13, rg 81 cm16)), (cm17, .inr (13, rg 81 cm18))]) hP4 hD4 [10, 15, 18, 19] [0, 1, 2, 3, 4, 5, 6, 7, 8, 9, 11, 12, 13, 14, 16, 17, 20, 21] rfl rfl (by decide) (by decide) hk8 hFc8 ht8 hB8
  have hP8 : va_P D cls [(cx1, .inr (3, rg 22 cx2)), (cx5, .inr (0, rg 3 cx6)), (cx7, .inl (ca 0, 20, .inl cx8)), (cx9, .inr (0, rg 3 cx10)), (cx11, .inr (10, rg 9 cx12)), (cx13, .inl (ca 0, 20480, .inl cx14)), (cx15, .inl (ca 0, 3000, .inl cx16)), (cx17, .inl (ca 1, 3001, .inr (.inl cx18))), (cx19, .inl (ca 0, 3001, .inl cx20)), (cx21, .inl (ca 0, 3001, .inl cx22)), (cm1, .inl (ca 0, 8, .inl cm2)), (cm3, .inl (ca 0, 3001, .inl cm4)), (cm5, .inl (ca 0, 3001, .inl cm6)), (cm7, .inr (13, rg 81 cm8)), (cm11, .inl (ca 2, 20, .inl cm12)), (cm13, .inl (ca 2, 3000, .inl cm14)), (xx, .inr (12, rg 10 cx0)), (cx3, .inl (ca 4, 2, .inr (.inr (.inr (.inr cx4))))), (mm, .inr (14, rg 107 cm0)), (cm9, .inl (ca 5, 2, .inr (.inr (.inr (.inr cm10))))), (cm15, .inr (13, rg 81 cm16)), (cm17, .inr (13, rg 81 cm18))] H8 := hP8
  have hD8 : va_D A [(cx1, .inr (3, rg 22 cx2)), (cx5, .inr (0, rg 3 cx6)), (cx7, .inl (ca 0, 20, .inl cx8)), (cx9, .inr (0, rg 3 cx10)), (cx11, .inr (10, rg 9 cx12)), (cx13, .inl (ca 0, 20480, .inl cx14)), (cx15, .inl (ca 0, 3000, .inl cx16)), (cx17, .inl (ca 1, 3001, .inr (.inl cx18))), (cx19, .inl (ca 0, 3001, .inl cx20)), (cx21, .inl (ca 0, 3001, .inl cx22)), (cm1, .inl (ca 0, 8, .inl cm2)), (cm3, .inl (ca 0, 3001, .inl cm4)), (cm5, .inl (ca 0, 3001, .inl cm6)), (cm7, .inr (13, rg 81 cm8)), (cm11, .inl (ca 2, 20, .inl cm12)), (cm13, .inl (ca 2, 3000, .inl cm14)), (xx, .inr (12, rg 10 cx0)), (cx3, .inl (ca 4, 2, .inr (.inr (.inr (.inr cx4))))), (mm, .inr (14, rg 107 cm0)), (cm9, .inl (ca 5, 2, .inr (.inr (.inr (.inr cm10))))), (cm15, .inr (13, rg 81 cm16)), (cm17, .inr (13, rg 81 cm18))] := hD8
  refine W.widen (k := 282) (n := 716534) (Nat.le_of_ble_eq_true rfl) (Nat.le_of_ble_eq_true rfl) ?_
  subst hr8
  refine W.lcmp hx hb d_code_996 ?_
  refine lv_topi (fun y9 ey9 => ?_)
  obtain rfl : y9 = 0 := ey9.trans (by decide)
  refine lv_if_eq (tgt := 1198) hx hb d_code_997 (by decide) (fun _ => ?_) (fun c => absurd (by decide) c)
  exact law_tail C0 hA2 hS8 (Nat.le_of_ble_eq_true rfl) (Nat.le_of_ble_eq_true rfl) hl
set_option maxHeartbeats 8000000 in
set_option maxRecDepth 100000 in
theorem law_case_24 {p : Program} {l : Launch} {e : Env} {s : State} {m : MethodId} {below : List Frame} {meth : Method} {c : Code} {b : Nat} {xs : Nat → Int32} (C0 : lw_At p s m meth c b 9 xs) {D : va_G} {ca : Nat → ClassId} {ad av : Nat → Nat} {A : Nat → Prop} (hA : ∀ q, s.heap.size ≤ q → A q) (hA2 : ∀ q, A q → s.heap.size ≤ q) {xx : Nat} {cx1 : Nat} {cx3 : Nat} {cx5 : Nat} {cx7 : Nat} {cx9 : Nat} {cx11 : Nat} {cx13 : Nat} {cx15 : Nat} {cx17 : Nat} {cx19 : Nat} {cx21 : Nat} {mm : Nat} {cm1 : Nat} {cm3 : Nat} {cm5 : Nat} {cm7 : Nat} {cm9 : Nat} {cm11 : Nat} {cm13 : Nat} {cm15 : Nat} {cm17 : Nat} {cx0 : Nat → Value} {cx2 : Nat → Value} {cx4 : Nat → Option Nat} {cx6 : Nat → Value} {cx8 : Nat → Int32} {cx10 : Nat → Value} {cx12 : Nat → Value} {cx14 : Nat → Int32} {cx16 : Nat → Int32} {cx18 : Nat → Int64} {cx20 : Nat → Int32} {cx22 : Nat → Int32} {cm0 : Nat → Value} {cm2 : Nat → Int32} {cm4 : Nat → Int32} {cm6 : Nat → Int32} {cm8 : Nat → Value} {cm10 : Nat → Option Nat} {cm12 : Nat → Int32} {cm14 : Nat → Int32} {cm16 : Nat → Value} {cm18 : Nat → Value} (hcx0 : gF cx0 [(4, .ref cx1), (3, .ref cx3), (2, .ref cx5), (1, .ref cx7), (0, .ref cx9), (7, .null), (8, .null), (9, .null)]) (hcx1 : gF cx2 [(11, .ref cx11), (16, .int 0), (21, .int 0)]) (hcx2 : gF cx4 [(0, none), (1, none)]) (hcx3 : gF cx6 [(0, .ref cx13), (1, .int 0), (2, .int 0)]) (hcx4 : gF cx8 []) (hcx5 : gF cx10 [(0, .ref cx15), (1, .int 0), (2, .int 0)]) (hcx6 : gF cx12 [(7, .ref cx17), (6, .ref cx19), (5, .ref cx21), (0, .int 0), (1, .int 0), (2, .long 0), (8, .int 0)]) (hcx7 : gF cx14 []) (hcx8 : gF cx16 []) (hcx9 : gF cx18 []) (hcx10 : gF cx20 []) (hcx11 : gF cx22 []) (hcm0 : gF cm0 [(74, .ref cm1), (8, .ref cm3), (7, .ref cm5), (6, .ref cm7), (5, .ref cm9), (4, .ref cm11), (2, .ref cm13), (3, .int 0), (12, .int 0), (16, .int 0), (17, .int 0), (18, .int 0), (71, .int 0), (72, .int 0), (89, .int 0), (90, .long 0), (94, .int 0)]) (hcm1 : gF cm2 []) (hcm2 : gF cm4 []) (hcm3 : gF cm6 []) (hcm4 : gF cm8 [(0, .int 0), (1, .int 0)]) (hcm5 : gF cm10 [(1, some cm15), (0, some cm17)]) (hcm6 : gF cm12 []) (hcm7 : gF cm14 []) (hcm8 : gF cm16 [(0, .int 0), (1, .int 0)]) (hcm9 : gF cm18 [(0, .int 0), (1, .int 0)]) (hK : va_K D cls (tyL ca) s) (hX : gX ad av A s s.heap) {H : Heap} {locs : List Loc} (hP : va_P D cls [(xx, .inr (12, rg 10 cx0)), (cx1, .inr (3, rg 22 cx2)), (cx3, .inl (ca 4, 2, .inr (.inr (.inr (.inr cx4))))), (cx5, .inr (0, rg 3 cx6)), (cx7, .inl (ca 0, 20, .inl cx8)), (cx9, .inr (0, rg 3 cx10)), (cx11, .inr (10, rg 9 cx12)), (cx13, .inl (ca 0, 20480, .inl cx14)), (cx15, .inl (ca 0, 3000, .inl cx16)), (cx17, .inl (ca 1, 3001, .inr (.inl cx18))), (cx19, .inl (ca 0, 3001, .inl cx20)), (cx21, .inl (ca 0, 3001, .inl cx22)), (mm, .inr (14, rg 107 cm0)), (cm1, .inl (ca 0, 8, .inl cm2)), (cm3, .inl (ca 0, 3001, .inl cm4)), (cm5, .inl (ca 0, 3001, .inl cm6)), (cm7, .inr (13, rg 81 cm8)), (cm9, .inl (ca 5, 2, .inr (.inr (.inr (.inr cm10))))), (cm11, .inl (ca 2, 20, .inl cm12)), (cm13, .inl (ca 2, 3000, .inl cm14)), (cm15, .inr (13, rg 81 cm16)), (cm17, .inr (13, rg 81 cm18))] H) (hD : va_D A [(xx, .inr (12, rg 10 cx0)), (cx1, .inr (3, rg 22 cx2)), (cx3, .inl (ca 4, 2, .inr (.inr (.inr (.inr cx4))))), (cx5, .inr (0, rg 3 cx6)), (cx7, .inl (ca 0, 20, .inl cx8)), (cx9, .inr (0, rg 3 cx10)), (cx11, .inr (10, rg 9 cx12)), (cx13, .inl (ca 0, 20480, .inl cx14)), (cx15, .inl (ca 0, 3000, .inl cx16)), (cx17, .inl (ca 1, 3001, .inr (.inl cx18))), (cx19, .inl (ca 0, 3001, .inl cx20)), (cx21, .inl (ca 0, 3001, .inl cx22)), (mm, .inr (14, rg 107 cm0)), (cm1, .inl (ca 0, 8, .inl cm2)), (cm3, .inl (ca 0, 3001, .inl cm4)), (cm5, .inl (ca 0, 3001, .inl cm6)), (cm7, .inr (13, rg 81 cm8)), (cm9, .inl (ca 5, 2, .inr (.inr (.inr (.inr cm10))))), (cm11, .inl (ca 2, 20, .inl cm12)), (cm13, .inl (ca 2, 3000, .inl cm14)), (cm15, .inr (13, rg 81 cm16)), (cm17, .inr (13, rg 81 cm18))]) (hS : va_S A s.heap H locs) {ls : Array Slot} (hl : lv_has ls 4 [(3, .int 0), (2, .ref mm), (1, .ref xx), (0, .ref b)]) : W p l e room_1 s m #[Value.ref b] below meth c H locs 282 716534 (lw_Z below #[Value.ref b] s) (F0 m 1002 ls []) := by
  obtain ⟨hx, hb, hr, hml, hown, hts0, hXs, hbl, hlocks, hgv⟩ := id C0
  have hts := wA_hts hts0
  have hbA : ¬ A b := fun z => Nat.not_le.mpr hbl (hA2 b z)
  have hown : s.vm.findClass "StaveHouseLaw" = some m.cls := hown
  refine lv_aload_n hx hb d_code_1002 rfl (lv_at hl 2 rfl) ?_
  refine lv_aload_n hx hb d_code_1003 rfl (lv_at hl 3 rfl) ?_
  refine lv_iload_n hx hb d_code_1004 rfl (lv_at hl 0 rfl) ?_
  refine lv_iconst (v := 1) hx hb d_code_1005 (by decide) ?_
  refine lv_iadd hx hb d_code_1006 ?_
  refine lv_topi (fun y1 ey1 => ?_)
  obtain rfl : y1 = 1 := ey1.trans (by decide)
  refine va_sld hx hb hXs hbl hbA hS (vinC (by decide)) d_code_1007 ?_
  refine W.eq (g2 := F0 m 1008 ls [.int (xs 1), .ref xx]) rfl ?_
  refine lv_aload_n hx hb d_code_1008 rfl (lv_at hl 3 rfl) ?_
  refine lv_iload_n hx hb d_code_1009 rfl (lv_at hl 0 rfl) ?_
  refine lv_iconst (v := 2) hx hb d_code_1010 (by decide) ?_
  refine lv_iadd hx hb d_code_1011 ?_
  refine lv_topi (fun y2 ey2 => ?_)
  obtain rfl : y2 = 2 := ey2.trans (by decide)
  refine va_sld hx hb hXs hbl hbA hS (vinC (by decide)) d_code_1012 ?_
  refine W.eq (g2 := F0 m 1013 ls [.int (xs 2), .int (xs 1), .ref xx]) rfl ?_
  refine lv_aload_n hx hb d_code_1013 rfl (lv_at hl 3 rfl) ?_
  refine lv_iload_n hx hb d_code_1014 rfl (lv_at hl 0 rfl) ?_
  refine lv_iconst (v := 3) hx hb d_code_1015 (by decide) ?_
  refine lv_iadd hx hb d_code_1016 ?_
  refine lv_topi (fun y3 ey3 => ?_)
  obtain rfl : y3 = 3 := ey3.trans (by decide)
  refine va_sld hx hb hXs hbl hbA hS (vinC (by decide)) d_code_1017 ?_
  refine W.eq (g2 := F0 m 1018 ls [.int (xs 3), .int (xs 2), .int (xs 1), .ref xx]) rfl ?_
  have hFc4 := va_free (wc := [(xx, .inr (12, rg 10 cx0)), (cx3, .inl (ca 4, 2, .inr (.inr (.inr (.inr cx4)))))]) hD hS hA [0, 2] rfl
  refine va_calli (va_runV (As := [.int (xs 1), .int (xs 2), .int (xs 3)]) (rest := []) ⟨hx, hb, hml, hown, hts⟩ (c_S_fault_0 l D ca ad av H.size xx cx3 cx0 cx4 (xs 1) (xs 2) (xs 3) (hcx0.sub [1] rfl) (hcx2.sub [0, 1] rfl)) (cwV 3 hts (gdV k_9_77 k_9_78 k_9_79 k_1_1 k_9_80) rfl rfl rfl (by decide +kernel) ⟨Nat.le_of_ble_eq_true rfl, Nat.le_of_ble_eq_true rfl⟩) (gPV hP hD hK hS hA hX [0, 2] (by decide) rfl xx [.int (xs 1), .int (xs 2), .int (xs 3)] 0 (ci := 12) (r := (RX12, TX12, 10)) rfl rfl) rfl rfl hl.1 rfl (lv_room (Nat.le_of_ble_eq_true rfl)) d_code_1018 ⟨Nat.le_of_ble_eq_true rfl, Nat.le_of_ble_eq_true rfl⟩) hS (fun q _ h => hFc4 q h) hFc4 (fun r4 u4 t4 H4 locs4 ht4 hvm4 hw4 hB4 hz4 hk4 hS4 => ?_)
  have hr4 := hw4
  obtain ⟨hP4, hD4⟩ := gJoin (wr := [(cx1, .inr (3, rg 22 cx2)), (cx5, .inr (0, rg 3 cx6)), (cx7, .inl (ca 0, 20, .inl cx8)), (cx9, .inr (0, rg 3 cx10)), (cx11, .inr (10, rg 9 cx12)), (cx13, .inl (ca 0, 20480, .inl cx14)), (cx15, .inl (ca 0, 3000, .inl cx16)), (cx17, .inl (ca 1, 3001, .inr (.inl cx18))), (cx19, .inl (ca 0, 3001, .inl cx20)), (cx21, .inl (ca 0, 3001, .inl cx22)), (mm, .inr (14, rg 107 cm0)), (cm1, .inl (ca 0, 8, .inl cm2)), (cm3, .inl (ca 0, 3001, .inl cm4)), (cm5, .inl (ca 0, 3001, .inl cm6)), (cm7, .inr (13, rg 81 cm8)), (cm9, .inl (ca 5, 2, .inr (.inr (.inr (.inr cm10))))), (cm11, .inl (ca 2, 20, .inl cm12)), (cm13, .inl (ca 2, 3000, .inl cm14)), (cm15, .inr (13, rg 81 cm16)), (cm17, .inr (13, rg 81 cm18))]) (w1 := [(xx, .inr (12, rg 10 cx0)), (cx3, .inl (ca 4, 2, .inr (.inr (.inr (.inr cx4)))))]) hP hD [0, 2] [1, 3, 4, 5, 6, 7, 8, 9, 10, 11, 12, 13, 14, 15, 16, 17, 18, 19, 20, 21] rfl rfl (by decide) (by decide) hk4 hFc4 ht4 hB4
  have hP4 : va_P D cls [(cx1, .inr (3, rg 22 cx2)), (cx5, .inr (0, rg 3 cx6)), (cx7, .inl (ca 0, 20, .inl cx8)), (cx9, .inr (0, rg 3 cx10)), (cx11, .inr (10, rg 9 cx12)), (cx13, .inl (ca 0, 20480, .inl cx14)), (cx15, .inl (ca 0, 3000, .inl cx16)), (cx17, .inl (ca 1, 3001, .inr (.inl cx18))), (cx19, .inl (ca 0, 3001, .inl cx20)), (cx21, .inl (ca 0, 3001, .inl cx22)), (mm, .inr (14, rg 107 cm0)), (cm1, .inl (ca 0, 8, .inl cm2)), (cm3, .inl (ca 0, 3001, .inl cm4)), (cm5, .inl (ca 0, 3001, .inl cm6)), (cm7, .inr (13, rg 81 cm8)), (cm9, .inl (ca 5, 2, .inr (.inr (.inr (.inr cm10))))), (cm11, .inl (ca 2, 20, .inl cm12)), (cm13, .inl (ca 2, 3000, .inl cm14)), (cm15, .inr (13, rg 81 cm16)), (cm17, .inr (13, rg 81 cm18)), (xx, .inr (12, rg 10 cx0)), (cx3, .inl (ca 4, 2, .inr (.inr (.inr (.inr cx4)))))] H4 := hP4
  have hD4 : va_D A [(cx1, .inr (3, rg 22 cx2)), (cx5, .inr (0, rg 3 cx6)), (cx7, .inl (ca 0, 20, .inl cx8)), (cx9, .inr (0, rg 3 cx10)), (cx11, .inr (10, rg 9 cx12)), (cx13, .inl (ca 0, 20480, .inl cx14)), (cx15, .inl (ca 0, 3000, .inl cx16)), (cx17, .inl (ca 1, 3001, .inr (.inl cx18))), (cx19, .inl (ca 0, 3001, .inl cx20)), (cx21, .inl (ca 0, 3001, .inl cx22)), (mm, .inr (14, rg 107 cm0)), (cm1, .inl (ca 0, 8, .inl cm2)), (cm3, .inl (ca 0, 3001, .inl cm4)), (cm5, .inl (ca 0, 3001, .inl cm6)), (cm7, .inr (13, rg 81 cm8)), (cm9, .inl (ca 5, 2, .inr (.inr (.inr (.inr cm10))))), (cm11, .inl (ca 2, 20, .inl cm12)), (cm13, .inl (ca 2, 3000, .inl cm14)), (cm15, .inr (13, rg 81 cm16)), (cm17, .inr (13, rg 81 cm18)), (xx, .inr (12, rg 10 cx0)), (cx3, .inl (ca 4, 2, .inr (.inr (.inr (.inr cx4)))))] := hD4
  refine W.widen (k := 282) (n := 716534) (Nat.le_of_ble_eq_true rfl) (Nat.le_of_ble_eq_true rfl) ?_
  subst hr4
  refine lv_aload_n hx hb d_code_1021 rfl (lv_at hl 1 rfl) ?_
  refine lv_aload_n hx hb d_code_1022 rfl (lv_at hl 3 rfl) ?_
  refine lv_iload_n hx hb d_code_1023 rfl (lv_at hl 0 rfl) ?_
  refine lv_iconst (v := 1) hx hb d_code_1024 (by decide) ?_
  refine lv_iadd hx hb d_code_1025 ?_
  refine lv_topi (fun y5 ey5 => ?_)
  obtain rfl : y5 = 1 := ey5.trans (by decide)
  refine va_sld hx hb hXs hbl hbA hS4 (vinC (by decide)) d_code_1026 ?_
  refine W.eq (g2 := F0 m 1027 ls [.int (xs 1), .ref mm, .int (-1)]) rfl ?_
  refine lv_aload_n hx hb d_code_1027 rfl (lv_at hl 3 rfl) ?_
  refine lv_iload_n hx hb d_code_1028 rfl (lv_at hl 0 rfl) ?_
  refine lv_iconst (v := 2) hx hb d_code_1029 (by decide) ?_
  refine lv_iadd hx hb d_code_1030 ?_
  refine lv_topi (fun y6 ey6 => ?_)
  obtain rfl : y6 = 2 := ey6.trans (by decide)
  refine va_sld hx hb hXs hbl hbA hS4 (vinC (by decide)) d_code_1031 ?_
  refine W.eq (g2 := F0 m 1032 ls [.int (xs 2), .int (xs 1), .ref mm, .int (-1)]) rfl ?_
  refine lv_aload_n hx hb d_code_1032 rfl (lv_at hl 3 rfl) ?_
  refine lv_iload_n hx hb d_code_1033 rfl (lv_at hl 0 rfl) ?_
  refine lv_iconst (v := 3) hx hb d_code_1034 (by decide) ?_
  refine lv_iadd hx hb d_code_1035 ?_
  refine lv_topi (fun y7 ey7 => ?_)
  obtain rfl : y7 = 3 := ey7.trans (by decide)
  refine va_sld hx hb hXs hbl hbA hS4 (vinC (by decide)) d_code_1036 ?_
  refine W.eq (g2 := F0 m 1037 ls [.int (xs 3), .int (xs 2), .int (xs 1), .ref mm, .int (-1)]) rfl ?_
  have hFc8 := va_free (wc := [(mm, .inr (14, rg 107 cm0)), (cm9, .inl (ca 5, 2, .inr (.inr (.inr (.inr cm10))))), (cm15, .inr (13, rg 81 cm16)), (cm17, .inr (13, rg 81 cm18))]) hD4 hS4 hA [10, 15, 18, 19] rfl
  refine va_calli (va_runV (As := [.int (xs 1), .int (xs 2), .int (xs 3)]) (rest := [.int (-1)]) ⟨hx, hb, hml, hown, hts⟩ (c_M_fault_0 l D ca ad av H4.size mm cm9 cm15 cm17 cm0 cm10 cm16 cm18 (xs 1) (xs 2) (xs 3) (hcm0.sub [4] rfl) (hcm5.sub [0, 1] rfl) (hcm8.sub [0] rfl) (hcm9.sub [0] rfl)) (cwV 3 hts (gdV k_14_50 k_14_51 k_14_52 k_1_9 k_14_53) rfl rfl rfl (by decide +kernel) ⟨Nat.le_of_ble_eq_true rfl, Nat.le_of_ble_eq_true rfl⟩) (gPV hP4 hD4 hK hS4 hA hX [10, 15, 18, 19] (by decide) rfl mm [.int (xs 1), .int (xs 2), .int (xs 3)] 10 (ci := 14) (r := (RX14, TX14, 107)) rfl rfl) rfl rfl hl.1 rfl (lv_room (Nat.le_of_ble_eq_true rfl)) d_code_1037 ⟨Nat.le_of_ble_eq_true rfl, Nat.le_of_ble_eq_true rfl⟩) hS4 (fun q _ h => hFc8 q h) hFc8 (fun r8 u8 t8 H8 locs8 ht8 hvm8 hw8 hB8 hz8 hk8 hS8 => ?_)
  have hr8 := hw8
  obtain ⟨hP8, hD8⟩ := gJoin (wr := [(cx1, .inr (3, rg 22 cx2)), (cx5, .inr (0, rg 3 cx6)), (cx7, .inl (ca 0, 20, .inl cx8)), (cx9, .inr (0, rg 3 cx10)), (cx11, .inr (10, rg 9 cx12)), (cx13, .inl (ca 0, 20480, .inl cx14)), (cx15, .inl (ca 0, 3000, .inl cx16)), (cx17, .inl (ca 1, 3001, .inr (.inl cx18))), (cx19, .inl (ca 0, 3001, .inl cx20)), (cx21, .inl (ca 0, 3001, .inl cx22)), (cm1, .inl (ca 0, 8, .inl cm2)), (cm3, .inl (ca 0, 3001, .inl cm4)), (cm5, .inl (ca 0, 3001, .inl cm6)), (cm7, .inr (13, rg 81 cm8)), (cm11, .inl (ca 2, 20, .inl cm12)), (cm13, .inl (ca 2, 3000, .inl cm14)), (xx, .inr (12, rg 10 cx0)), (cx3, .inl (ca 4, 2, .inr (.inr (.inr (.inr cx4)))))]) (w1 := [(mm, .inr (14, rg 107 cm0)), (cm9, .inl (ca 5, 2, .inr (.inr (.inr (.inr cm10))))), (cm15, .inr (13, rg 81 cm16)), (cm17, .inr (13, rg 81 cm18))]) hP4 hD4 [10, 15, 18, 19] [0, 1, 2, 3, 4, 5, 6, 7, 8, 9, 11, 12, 13, 14, 16, 17, 20, 21] rfl rfl (by decide) (by decide) hk8 hFc8 ht8 hB8
  have hP8 : va_P D cls [(cx1, .inr (3, rg 22 cx2)), (cx5, .inr (0, rg 3 cx6)), (cx7, .inl (ca 0, 20, .inl cx8)), (cx9, .inr (0, rg 3 cx10)), (cx11, .inr (10, rg 9 cx12)), (cx13, .inl (ca 0, 20480, .inl cx14)), (cx15, .inl (ca 0, 3000, .inl cx16)), (cx17, .inl (ca 1, 3001, .inr (.inl cx18))), (cx19, .inl (ca 0, 3001, .inl cx20)), (cx21, .inl (ca 0, 3001, .inl cx22)), (cm1, .inl (ca 0, 8, .inl cm2)), (cm3, .inl (ca 0, 3001, .inl cm4)), (cm5, .inl (ca 0, 3001, .inl cm6)), (cm7, .inr (13, rg 81 cm8)), (cm11, .inl (ca 2, 20, .inl cm12)), (cm13, .inl (ca 2, 3000, .inl cm14)), (xx, .inr (12, rg 10 cx0)), (cx3, .inl (ca 4, 2, .inr (.inr (.inr (.inr cx4))))), (mm, .inr (14, rg 107 cm0)), (cm9, .inl (ca 5, 2, .inr (.inr (.inr (.inr cm10))))), (cm15, .inr (13, rg 81 cm16)), (cm17, .inr (13, rg 81 cm18))] H8 := hP8
  have hD8 : va_D A [(cx1, .inr (3, rg 22 cx2)), (cx5, .inr (0, rg 3 cx6)), (cx7, .inl (ca 0, 20, .inl cx8)), (cx9, .inr (0, rg 3 cx10)), (cx11, .inr (10, rg 9 cx12)), (cx13, .inl (ca 0, 20480, .inl cx14)), (cx15, .inl (ca 0, 3000, .inl cx16)), (cx17, .inl (ca 1, 3001, .inr (.inl cx18))), (cx19, .inl (ca 0, 3001, .inl cx20)), (cx21, .inl (ca 0, 3001, .inl cx22)), (cm1, .inl (ca 0, 8, .inl cm2)), (cm3, .inl (ca 0, 3001, .inl cm4)), (cm5, .inl (ca 0, 3001, .inl cm6)), (cm7, .inr (13, rg 81 cm8)), (cm11, .inl (ca 2, 20, .inl cm12)), (cm13, .inl (ca 2, 3000, .inl cm14)), (xx, .inr (12, rg 10 cx0)), (cx3, .inl (ca 4, 2, .inr (.inr (.inr (.inr cx4))))), (mm, .inr (14, rg 107 cm0)), (cm9, .inl (ca 5, 2, .inr (.inr (.inr (.inr cm10))))), (cm15, .inr (13, rg 81 cm16)), (cm17, .inr (13, rg 81 cm18))] := hD8
  refine W.widen (k := 282) (n := 716534) (Nat.le_of_ble_eq_true rfl) (Nat.le_of_ble_eq_true rfl) ?_
  subst hr8
  refine lv_icmp_eq (tgt := 1198) hx hb d_code_1040 (by decide) (fun _ => ?_) (fun c => absurd (by decide) c)
  exact law_tail C0 hA2 hS8 (Nat.le_of_ble_eq_true rfl) (Nat.le_of_ble_eq_true rfl) hl
set_option maxHeartbeats 8000000 in
set_option maxRecDepth 100000 in
theorem law_case_25 {p : Program} {l : Launch} {e : Env} {s : State} {m : MethodId} {below : List Frame} {meth : Method} {c : Code} {b : Nat} {xs : Nat → Int32} (C0 : lw_At p s m meth c b 9 xs) {D : va_G} {ca : Nat → ClassId} {ad av : Nat → Nat} {A : Nat → Prop} (hA : ∀ q, s.heap.size ≤ q → A q) (hA2 : ∀ q, A q → s.heap.size ≤ q) {xx : Nat} {cx1 : Nat} {cx3 : Nat} {cx5 : Nat} {cx7 : Nat} {cx9 : Nat} {cx11 : Nat} {cx13 : Nat} {cx15 : Nat} {cx17 : Nat} {cx19 : Nat} {cx21 : Nat} {mm : Nat} {cm1 : Nat} {cm3 : Nat} {cm5 : Nat} {cm7 : Nat} {cm9 : Nat} {cm11 : Nat} {cm13 : Nat} {cm15 : Nat} {cm17 : Nat} {cx0 : Nat → Value} {cx2 : Nat → Value} {cx4 : Nat → Option Nat} {cx6 : Nat → Value} {cx8 : Nat → Int32} {cx10 : Nat → Value} {cx12 : Nat → Value} {cx14 : Nat → Int32} {cx16 : Nat → Int32} {cx18 : Nat → Int64} {cx20 : Nat → Int32} {cx22 : Nat → Int32} {cm0 : Nat → Value} {cm2 : Nat → Int32} {cm4 : Nat → Int32} {cm6 : Nat → Int32} {cm8 : Nat → Value} {cm10 : Nat → Option Nat} {cm12 : Nat → Int32} {cm14 : Nat → Int32} {cm16 : Nat → Value} {cm18 : Nat → Value} (hcx0 : gF cx0 [(4, .ref cx1), (3, .ref cx3), (2, .ref cx5), (1, .ref cx7), (0, .ref cx9), (7, .null), (8, .null), (9, .null)]) (hcx1 : gF cx2 [(11, .ref cx11), (16, .int 0), (21, .int 0)]) (hcx2 : gF cx4 [(0, none), (1, none)]) (hcx3 : gF cx6 [(0, .ref cx13), (1, .int 0), (2, .int 0)]) (hcx4 : gF cx8 []) (hcx5 : gF cx10 [(0, .ref cx15), (1, .int 0), (2, .int 0)]) (hcx6 : gF cx12 [(7, .ref cx17), (6, .ref cx19), (5, .ref cx21), (0, .int 0), (1, .int 0), (2, .long 0), (8, .int 0)]) (hcx7 : gF cx14 []) (hcx8 : gF cx16 []) (hcx9 : gF cx18 []) (hcx10 : gF cx20 []) (hcx11 : gF cx22 []) (hcm0 : gF cm0 [(74, .ref cm1), (8, .ref cm3), (7, .ref cm5), (6, .ref cm7), (5, .ref cm9), (4, .ref cm11), (2, .ref cm13), (3, .int 0), (12, .int 0), (16, .int 0), (17, .int 0), (18, .int 0), (71, .int 0), (72, .int 0), (89, .int 0), (90, .long 0), (94, .int 0)]) (hcm1 : gF cm2 []) (hcm2 : gF cm4 []) (hcm3 : gF cm6 []) (hcm4 : gF cm8 [(0, .int 0), (1, .int 0)]) (hcm5 : gF cm10 [(1, some cm15), (0, some cm17)]) (hcm6 : gF cm12 []) (hcm7 : gF cm14 []) (hcm8 : gF cm16 [(0, .int 0), (1, .int 0)]) (hcm9 : gF cm18 [(0, .int 0), (1, .int 0)]) (hK : va_K D cls (tyL ca) s) (hX : gX ad av A s s.heap) {H : Heap} {locs : List Loc} (hP : va_P D cls [(xx, .inr (12, rg 10 cx0)), (cx1, .inr (3, rg 22 cx2)), (cx3, .inl (ca 4, 2, .inr (.inr (.inr (.inr cx4))))), (cx5, .inr (0, rg 3 cx6)), (cx7, .inl (ca 0, 20, .inl cx8)), (cx9, .inr (0, rg 3 cx10)), (cx11, .inr (10, rg 9 cx12)), (cx13, .inl (ca 0, 20480, .inl cx14)), (cx15, .inl (ca 0, 3000, .inl cx16)), (cx17, .inl (ca 1, 3001, .inr (.inl cx18))), (cx19, .inl (ca 0, 3001, .inl cx20)), (cx21, .inl (ca 0, 3001, .inl cx22)), (mm, .inr (14, rg 107 cm0)), (cm1, .inl (ca 0, 8, .inl cm2)), (cm3, .inl (ca 0, 3001, .inl cm4)), (cm5, .inl (ca 0, 3001, .inl cm6)), (cm7, .inr (13, rg 81 cm8)), (cm9, .inl (ca 5, 2, .inr (.inr (.inr (.inr cm10))))), (cm11, .inl (ca 2, 20, .inl cm12)), (cm13, .inl (ca 2, 3000, .inl cm14)), (cm15, .inr (13, rg 81 cm16)), (cm17, .inr (13, rg 81 cm18))] H) (hD : va_D A [(xx, .inr (12, rg 10 cx0)), (cx1, .inr (3, rg 22 cx2)), (cx3, .inl (ca 4, 2, .inr (.inr (.inr (.inr cx4))))), (cx5, .inr (0, rg 3 cx6)), (cx7, .inl (ca 0, 20, .inl cx8)), (cx9, .inr (0, rg 3 cx10)), (cx11, .inr (10, rg 9 cx12)), (cx13, .inl (ca 0, 20480, .inl cx14)), (cx15, .inl (ca 0, 3000, .inl cx16)), (cx17, .inl (ca 1, 3001, .inr (.inl cx18))), (cx19, .inl (ca 0, 3001, .inl cx20)), (cx21, .inl (ca 0, 3001, .inl cx22)), (mm, .inr (14, rg 107 cm0)), (cm1, .inl (ca 0, 8, .inl cm2)), (cm3, .inl (ca 0, 3001, .inl cm4)), (cm5, .inl (ca 0, 3001, .inl cm6)), (cm7, .inr (13, rg 81 cm8)), (cm9, .inl (ca 5, 2, .inr (.inr (.inr (.inr cm10))))), (cm11, .inl (ca 2, 20, .inl cm12)), (cm13, .inl (ca 2, 3000, .inl cm14)), (cm15, .inr (13, rg 81 cm16)), (cm17, .inr (13, rg 81 cm18))]) (hS : va_S A s.heap H locs) {ls : Array Slot} (hl : lv_has ls 4 [(3, .int 0), (2, .ref mm), (1, .ref xx), (0, .ref b)]) : W p l e room_1 s m #[Value.ref b] below meth c H locs 282 716534 (lw_Z below #[Value.ref b] s) (F0 m 1045 ls []) := by
  obtain ⟨hx, hb, hr, hml, hown, hts0, hXs, hbl, hlocks, hgv⟩ := id C0
  have hts := wA_hts hts0
  have hbA : ¬ A b := fun z => Nat.not_le.mpr hbl (hA2 b z)
  have hown : s.vm.findClass "StaveHouseLaw" = some m.cls := hown
  refine lv_aload_n hx hb d_code_1045 rfl (lv_at hl 2 rfl) ?_
  refine lv_aload_n hx hb d_code_1046 rfl (lv_at hl 3 rfl) ?_
  refine lv_iload_n hx hb d_code_1047 rfl (lv_at hl 0 rfl) ?_
  refine lv_iconst (v := 1) hx hb d_code_1048 (by decide) ?_
  refine lv_iadd hx hb d_code_1049 ?_
  refine lv_topi (fun y1 ey1 => ?_)
  obtain rfl : y1 = 1 := ey1.trans (by decide)
  refine va_sld hx hb hXs hbl hbA hS (vinC (by decide)) d_code_1050 ?_
  refine W.eq (g2 := F0 m 1051 ls [.int (xs 1), .ref xx]) rfl ?_
  refine lv_aload_n hx hb d_code_1051 rfl (lv_at hl 3 rfl) ?_
  refine lv_iload_n hx hb d_code_1052 rfl (lv_at hl 0 rfl) ?_
  refine lv_iconst (v := 2) hx hb d_code_1053 (by decide) ?_
  refine lv_iadd hx hb d_code_1054 ?_
  refine lv_topi (fun y2 ey2 => ?_)
  obtain rfl : y2 = 2 := ey2.trans (by decide)
  refine va_sld hx hb hXs hbl hbA hS (vinC (by decide)) d_code_1055 ?_
  refine W.eq (g2 := F0 m 1056 ls [.int (xs 2), .int (xs 1), .ref xx]) rfl ?_
  refine lv_aload_n hx hb d_code_1056 rfl (lv_at hl 3 rfl) ?_
  refine lv_iload_n hx hb d_code_1057 rfl (lv_at hl 0 rfl) ?_
  refine lv_iconst (v := 3) hx hb d_code_1058 (by decide) ?_
  refine lv_iadd hx hb d_code_1059 ?_
  refine lv_topi (fun y3 ey3 => ?_)
  obtain rfl : y3 = 3 := ey3.trans (by decide)
  refine va_sld hx hb hXs hbl hbA hS (vinC (by decide)) d_code_1060 ?_
  refine W.eq (g2 := F0 m 1061 ls [.int (xs 3), .int (xs 2), .int (xs 1), .ref xx]) rfl ?_
  refine lv_aload_n hx hb d_code_1061 rfl (lv_at hl 3 rfl) ?_
  refine lv_iload_n hx hb d_code_1062 rfl (lv_at hl 0 rfl) ?_
  refine lv_iconst (v := 4) hx hb d_code_1063 (by decide) ?_
  refine lv_iadd hx hb d_code_1064 ?_
  refine lv_topi (fun y4 ey4 => ?_)
  obtain rfl : y4 = 4 := ey4.trans (by decide)
  refine va_sld hx hb hXs hbl hbA hS (vinC (by decide)) d_code_1065 ?_
  refine W.eq (g2 := F0 m 1066 ls [.int (xs 4), .int (xs 3), .int (xs 2), .int (xs 1), .ref xx]) rfl ?_
  have hFc5 := va_free (wc := [(xx, .inr (12, rg 10 cx0)), (cx3, .inl (ca 4, 2, .inr (.inr (.inr (.inr cx4)))))]) hD hS hA [0, 2] rfl
  refine va_calll (va_runV (As := [.int (xs 1), .int (xs 2), .int (xs 3), .int (xs 4)]) (rest := []) ⟨hx, hb, hml, hown, hts⟩ (c_S_follows_0 l D ca ad av H.size xx cx3 cx0 cx4 (xs 1) (xs 2) (xs 3) (xs 4) (hcx0.sub [1] rfl) (hcx2.sub [0, 1] rfl)) (cwV 4 hts (gdV k_9_81 k_9_82 k_9_83 k_1_1 k_9_84) rfl rfl rfl (by decide +kernel) ⟨Nat.le_of_ble_eq_true rfl, Nat.le_of_ble_eq_true rfl⟩) (gPV hP hD hK hS hA hX [0, 2] (by decide) rfl xx [.int (xs 1), .int (xs 2), .int (xs 3), .int (xs 4)] 0 (ci := 12) (r := (RX12, TX12, 10)) rfl rfl) rfl rfl hl.1 rfl (lv_room (Nat.le_of_ble_eq_true rfl)) d_code_1066 ⟨Nat.le_of_ble_eq_true rfl, Nat.le_of_ble_eq_true rfl⟩) hS (fun q _ h => hFc5 q h) hFc5 (fun r5 u5 t5 H5 locs5 ht5 hvm5 hw5 hB5 hz5 hk5 hS5 => ?_)
  have hr5 := hw5
  obtain ⟨hP5, hD5⟩ := gJoin (wr := [(cx1, .inr (3, rg 22 cx2)), (cx5, .inr (0, rg 3 cx6)), (cx7, .inl (ca 0, 20, .inl cx8)), (cx9, .inr (0, rg 3 cx10)), (cx11, .inr (10, rg 9 cx12)), (cx13, .inl (ca 0, 20480, .inl cx14)), (cx15, .inl (ca 0, 3000, .inl cx16)), (cx17, .inl (ca 1, 3001, .inr (.inl cx18))), (cx19, .inl (ca 0, 3001, .inl cx20)), (cx21, .inl (ca 0, 3001, .inl cx22)), (mm, .inr (14, rg 107 cm0)), (cm1, .inl (ca 0, 8, .inl cm2)), (cm3, .inl (ca 0, 3001, .inl cm4)), (cm5, .inl (ca 0, 3001, .inl cm6)), (cm7, .inr (13, rg 81 cm8)), (cm9, .inl (ca 5, 2, .inr (.inr (.inr (.inr cm10))))), (cm11, .inl (ca 2, 20, .inl cm12)), (cm13, .inl (ca 2, 3000, .inl cm14)), (cm15, .inr (13, rg 81 cm16)), (cm17, .inr (13, rg 81 cm18))]) (w1 := [(xx, .inr (12, rg 10 cx0)), (cx3, .inl (ca 4, 2, .inr (.inr (.inr (.inr cx4)))))]) hP hD [0, 2] [1, 3, 4, 5, 6, 7, 8, 9, 10, 11, 12, 13, 14, 15, 16, 17, 18, 19, 20, 21] rfl rfl (by decide) (by decide) hk5 hFc5 ht5 hB5
  have hP5 : va_P D cls [(cx1, .inr (3, rg 22 cx2)), (cx5, .inr (0, rg 3 cx6)), (cx7, .inl (ca 0, 20, .inl cx8)), (cx9, .inr (0, rg 3 cx10)), (cx11, .inr (10, rg 9 cx12)), (cx13, .inl (ca 0, 20480, .inl cx14)), (cx15, .inl (ca 0, 3000, .inl cx16)), (cx17, .inl (ca 1, 3001, .inr (.inl cx18))), (cx19, .inl (ca 0, 3001, .inl cx20)), (cx21, .inl (ca 0, 3001, .inl cx22)), (mm, .inr (14, rg 107 cm0)), (cm1, .inl (ca 0, 8, .inl cm2)), (cm3, .inl (ca 0, 3001, .inl cm4)), (cm5, .inl (ca 0, 3001, .inl cm6)), (cm7, .inr (13, rg 81 cm8)), (cm9, .inl (ca 5, 2, .inr (.inr (.inr (.inr cm10))))), (cm11, .inl (ca 2, 20, .inl cm12)), (cm13, .inl (ca 2, 3000, .inl cm14)), (cm15, .inr (13, rg 81 cm16)), (cm17, .inr (13, rg 81 cm18)), (xx, .inr (12, rg 10 cx0)), (cx3, .inl (ca 4, 2, .inr (.inr (.inr (.inr cx4)))))] H5 := hP5
  have hD5 : va_D A [(cx1, .inr (3, rg 22 cx2)), (cx5, .inr (0, rg 3 cx6)), (cx7, .inl (ca 0, 20, .inl cx8)), (cx9, .inr (0, rg 3 cx10)), (cx11, .inr (10, rg 9 cx12)), (cx13, .inl (ca 0, 20480, .inl cx14)), (cx15, .inl (ca 0, 3000, .inl cx16)), (cx17, .inl (ca 1, 3001, .inr (.inl cx18))), (cx19, .inl (ca 0, 3001, .inl cx20)), (cx21, .inl (ca 0, 3001, .inl cx22)), (mm, .inr (14, rg 107 cm0)), (cm1, .inl (ca 0, 8, .inl cm2)), (cm3, .inl (ca 0, 3001, .inl cm4)), (cm5, .inl (ca 0, 3001, .inl cm6)), (cm7, .inr (13, rg 81 cm8)), (cm9, .inl (ca 5, 2, .inr (.inr (.inr (.inr cm10))))), (cm11, .inl (ca 2, 20, .inl cm12)), (cm13, .inl (ca 2, 3000, .inl cm14)), (cm15, .inr (13, rg 81 cm16)), (cm17, .inr (13, rg 81 cm18)), (xx, .inr (12, rg 10 cx0)), (cx3, .inl (ca 4, 2, .inr (.inr (.inr (.inr cx4)))))] := hD5
  refine W.widen (k := 282) (n := 716534) (Nat.le_of_ble_eq_true rfl) (Nat.le_of_ble_eq_true rfl) ?_
  subst hr5
  refine lv_aload_n hx hb d_code_1069 rfl (lv_at hl 1 rfl) ?_
  refine lv_aload_n hx hb d_code_1070 rfl (lv_at hl 3 rfl) ?_
  refine lv_iload_n hx hb d_code_1071 rfl (lv_at hl 0 rfl) ?_
  refine lv_iconst (v := 1) hx hb d_code_1072 (by decide) ?_
  refine lv_iadd hx hb d_code_1073 ?_
  refine lv_topi (fun y6 ey6 => ?_)
  obtain rfl : y6 = 1 := ey6.trans (by decide)
  refine va_sld hx hb hXs hbl hbA hS5 (vinC (by decide)) d_code_1074 ?_
  refine W.eq (g2 := F0 m 1075 ls [.int (xs 1), .ref mm, .long (-1)]) rfl ?_
  refine lv_aload_n hx hb d_code_1075 rfl (lv_at hl 3 rfl) ?_
  refine lv_iload_n hx hb d_code_1076 rfl (lv_at hl 0 rfl) ?_
  refine lv_iconst (v := 2) hx hb d_code_1077 (by decide) ?_
  refine lv_iadd hx hb d_code_1078 ?_
  refine lv_topi (fun y7 ey7 => ?_)
  obtain rfl : y7 = 2 := ey7.trans (by decide)
  refine va_sld hx hb hXs hbl hbA hS5 (vinC (by decide)) d_code_1079 ?_
  refine W.eq (g2 := F0 m 1080 ls [.int (xs 2), .int (xs 1), .ref mm, .long (-1)]) rfl ?_
  refine lv_aload_n hx hb d_code_1080 rfl (lv_at hl 3 rfl) ?_
  refine lv_iload_n hx hb d_code_1081 rfl (lv_at hl 0 rfl) ?_
  refine lv_iconst (v := 3) hx hb d_code_1082 (by decide) ?_
  refine lv_iadd hx hb d_code_1083 ?_
  refine lv_topi (fun y8 ey8 => ?_)
  obtain rfl : y8 = 3 := ey8.trans (by decide)
  refine va_sld hx hb hXs hbl hbA hS5 (vinC (by decide)) d_code_1084 ?_
  refine W.eq (g2 := F0 m 1085 ls [.int (xs 3), .int (xs 2), .int (xs 1), .ref mm, .long (-1)]) rfl ?_
  refine lv_aload_n hx hb d_code_1085 rfl (lv_at hl 3 rfl) ?_
  refine lv_iload_n hx hb d_code_1086 rfl (lv_at hl 0 rfl) ?_
  refine lv_iconst (v := 4) hx hb d_code_1087 (by decide) ?_
  refine lv_iadd hx hb d_code_1088 ?_
  refine lv_topi (fun y9 ey9 => ?_)
  obtain rfl : y9 = 4 := ey9.trans (by decide)
  refine va_sld hx hb hXs hbl hbA hS5 (vinC (by decide)) d_code_1089 ?_
  refine W.eq (g2 := F0 m 1090 ls [.int (xs 4), .int (xs 3), .int (xs 2), .int (xs 1), .ref mm, .long (-1)]) rfl ?_
  have hFc10 := va_free (wc := [(mm, .inr (14, rg 107 cm0)), (cm9, .inl (ca 5, 2, .inr (.inr (.inr (.inr cm10))))), (cm15, .inr (13, rg 81 cm16)), (cm17, .inr (13, rg 81 cm18))]) hD5 hS5 hA [10, 15, 18, 19] rfl
  refine va_calll (va_runV (As := [.int (xs 1), .int (xs 2), .int (xs 3), .int (xs 4)]) (rest := [.long (-1)]) ⟨hx, hb, hml, hown, hts⟩ (c_M_follows_0 l D ca ad av H5.size mm cm9 cm15 cm17 cm0 cm10 cm16 cm18 (xs 1) (xs 2) (xs 3) (xs 4) (hcm0.sub [4] rfl) (hcm5.sub [0, 1] rfl) (hcm8.sub [0] rfl) (hcm9.sub [0] rfl)) (cwV 4 hts (gdV k_14_54 k_14_55 k_14_56 k_1_9 k_14_57) rfl rfl rfl (by decide +kernel) ⟨Nat.le_of_ble_eq_true rfl, Nat.le_of_ble_eq_true rfl⟩) (gPV hP5 hD5 hK hS5 hA hX [10, 15, 18, 19] (by decide) rfl mm [.int (xs 1), .int (xs 2), .int (xs 3), .int (xs 4)] 10 (ci := 14) (r := (RX14, TX14, 107)) rfl rfl) rfl rfl hl.1 rfl (lv_room (Nat.le_of_ble_eq_true rfl)) d_code_1090 ⟨Nat.le_of_ble_eq_true rfl, Nat.le_of_ble_eq_true rfl⟩) hS5 (fun q _ h => hFc10 q h) hFc10 (fun r10 u10 t10 H10 locs10 ht10 hvm10 hw10 hB10 hz10 hk10 hS10 => ?_)
  have hr10 := hw10
  obtain ⟨hP10, hD10⟩ := gJoin (wr := [(cx1, .inr (3, rg 22 cx2)), (cx5, .inr (0, rg 3 cx6)), (cx7, .inl (ca 0, 20, .inl cx8)), (cx9, .inr (0, rg 3 cx10)), (cx11, .inr (10, rg 9 cx12)), (cx13, .inl (ca 0, 20480, .inl cx14)), (cx15, .inl (ca 0, 3000, .inl cx16)), (cx17, .inl (ca 1, 3001, .inr (.inl cx18))), (cx19, .inl (ca 0, 3001, .inl cx20)), (cx21, .inl (ca 0, 3001, .inl cx22)), (cm1, .inl (ca 0, 8, .inl cm2)), (cm3, .inl (ca 0, 3001, .inl cm4)), (cm5, .inl (ca 0, 3001, .inl cm6)), (cm7, .inr (13, rg 81 cm8)), (cm11, .inl (ca 2, 20, .inl cm12)), (cm13, .inl (ca 2, 3000, .inl cm14)), (xx, .inr (12, rg 10 cx0)), (cx3, .inl (ca 4, 2, .inr (.inr (.inr (.inr cx4)))))]) (w1 := [(mm, .inr (14, rg 107 cm0)), (cm9, .inl (ca 5, 2, .inr (.inr (.inr (.inr cm10))))), (cm15, .inr (13, rg 81 cm16)), (cm17, .inr (13, rg 81 cm18))]) hP5 hD5 [10, 15, 18, 19] [0, 1, 2, 3, 4, 5, 6, 7, 8, 9, 11, 12, 13, 14, 16, 17, 20, 21] rfl rfl (by decide) (by decide) hk10 hFc10 ht10 hB10
  have hP10 : va_P D cls [(cx1, .inr (3, rg 22 cx2)), (cx5, .inr (0, rg 3 cx6)), (cx7, .inl (ca 0, 20, .inl cx8)), (cx9, .inr (0, rg 3 cx10)), (cx11, .inr (10, rg 9 cx12)), (cx13, .inl (ca 0, 20480, .inl cx14)), (cx15, .inl (ca 0, 3000, .inl cx16)), (cx17, .inl (ca 1, 3001, .inr (.inl cx18))), (cx19, .inl (ca 0, 3001, .inl cx20)), (cx21, .inl (ca 0, 3001, .inl cx22)), (cm1, .inl (ca 0, 8, .inl cm2)), (cm3, .inl (ca 0, 3001, .inl cm4)), (cm5, .inl (ca 0, 3001, .inl cm6)), (cm7, .inr (13, rg 81 cm8)), (cm11, .inl (ca 2, 20, .inl cm12)), (cm13, .inl (ca 2, 3000, .inl cm14)), (xx, .inr (12, rg 10 cx0)), (cx3, .inl (ca 4, 2, .inr (.inr (.inr (.inr cx4))))), (mm, .inr (14, rg 107 cm0)), (cm9, .inl (ca 5, 2, .inr (.inr (.inr (.inr cm10))))), (cm15, .inr (13, rg 81 cm16)), (cm17, .inr (13, rg 81 cm18))] H10 := hP10
  have hD10 : va_D A [(cx1, .inr (3, rg 22 cx2)), (cx5, .inr (0, rg 3 cx6)), (cx7, .inl (ca 0, 20, .inl cx8)), (cx9, .inr (0, rg 3 cx10)), (cx11, .inr (10, rg 9 cx12)), (cx13, .inl (ca 0, 20480, .inl cx14)), (cx15, .inl (ca 0, 3000, .inl cx16)), (cx17, .inl (ca 1, 3001, .inr (.inl cx18))), (cx19, .inl (ca 0, 3001, .inl cx20)), (cx21, .inl (ca 0, 3001, .inl cx22)), (cm1, .inl (ca 0, 8, .inl cm2)), (cm3, .inl (ca 0, 3001, .inl cm4)), (cm5, .inl (ca 0, 3001, .inl cm6)), (cm7, .inr (13, rg 81 cm8)), (cm11, .inl (ca 2, 20, .inl cm12)), (cm13, .inl (ca 2, 3000, .inl cm14)), (xx, .inr (12, rg 10 cx0)), (cx3, .inl (ca 4, 2, .inr (.inr (.inr (.inr cx4))))), (mm, .inr (14, rg 107 cm0)), (cm9, .inl (ca 5, 2, .inr (.inr (.inr (.inr cm10))))), (cm15, .inr (13, rg 81 cm16)), (cm17, .inr (13, rg 81 cm18))] := hD10
  refine W.widen (k := 282) (n := 716534) (Nat.le_of_ble_eq_true rfl) (Nat.le_of_ble_eq_true rfl) ?_
  subst hr10
  refine W.lcmp hx hb d_code_1093 ?_
  refine lv_topi (fun y11 ey11 => ?_)
  obtain rfl : y11 = 0 := ey11.trans (by decide)
  refine lv_if_eq (tgt := 1198) hx hb d_code_1094 (by decide) (fun _ => ?_) (fun c => absurd (by decide) c)
  exact law_tail C0 hA2 hS10 (Nat.le_of_ble_eq_true rfl) (Nat.le_of_ble_eq_true rfl) hl
set_option maxHeartbeats 8000000 in
set_option maxRecDepth 100000 in
theorem law_case_26 {p : Program} {l : Launch} {e : Env} {s : State} {m : MethodId} {below : List Frame} {meth : Method} {c : Code} {b : Nat} {xs : Nat → Int32} (C0 : lw_At p s m meth c b 9 xs) {D : va_G} {ca : Nat → ClassId} {ad av : Nat → Nat} {A : Nat → Prop} (hA : ∀ q, s.heap.size ≤ q → A q) (hA2 : ∀ q, A q → s.heap.size ≤ q) {xx : Nat} {cx1 : Nat} {cx3 : Nat} {cx5 : Nat} {cx7 : Nat} {cx9 : Nat} {cx11 : Nat} {cx13 : Nat} {cx15 : Nat} {cx17 : Nat} {cx19 : Nat} {cx21 : Nat} {mm : Nat} {cm1 : Nat} {cm3 : Nat} {cm5 : Nat} {cm7 : Nat} {cm9 : Nat} {cm11 : Nat} {cm13 : Nat} {cm15 : Nat} {cm17 : Nat} {cx0 : Nat → Value} {cx2 : Nat → Value} {cx4 : Nat → Option Nat} {cx6 : Nat → Value} {cx8 : Nat → Int32} {cx10 : Nat → Value} {cx12 : Nat → Value} {cx14 : Nat → Int32} {cx16 : Nat → Int32} {cx18 : Nat → Int64} {cx20 : Nat → Int32} {cx22 : Nat → Int32} {cm0 : Nat → Value} {cm2 : Nat → Int32} {cm4 : Nat → Int32} {cm6 : Nat → Int32} {cm8 : Nat → Value} {cm10 : Nat → Option Nat} {cm12 : Nat → Int32} {cm14 : Nat → Int32} {cm16 : Nat → Value} {cm18 : Nat → Value} (hcx0 : gF cx0 [(4, .ref cx1), (3, .ref cx3), (2, .ref cx5), (1, .ref cx7), (0, .ref cx9), (7, .null), (8, .null), (9, .null)]) (hcx1 : gF cx2 [(11, .ref cx11), (16, .int 0), (21, .int 0)]) (hcx2 : gF cx4 [(0, none), (1, none)]) (hcx3 : gF cx6 [(0, .ref cx13), (1, .int 0), (2, .int 0)]) (hcx4 : gF cx8 []) (hcx5 : gF cx10 [(0, .ref cx15), (1, .int 0), (2, .int 0)]) (hcx6 : gF cx12 [(7, .ref cx17), (6, .ref cx19), (5, .ref cx21), (0, .int 0), (1, .int 0), (2, .long 0), (8, .int 0)]) (hcx7 : gF cx14 []) (hcx8 : gF cx16 []) (hcx9 : gF cx18 []) (hcx10 : gF cx20 []) (hcx11 : gF cx22 []) (hcm0 : gF cm0 [(74, .ref cm1), (8, .ref cm3), (7, .ref cm5), (6, .ref cm7), (5, .ref cm9), (4, .ref cm11), (2, .ref cm13), (3, .int 0), (12, .int 0), (16, .int 0), (17, .int 0), (18, .int 0), (71, .int 0), (72, .int 0), (89, .int 0), (90, .long 0), (94, .int 0)]) (hcm1 : gF cm2 []) (hcm2 : gF cm4 []) (hcm3 : gF cm6 []) (hcm4 : gF cm8 [(0, .int 0), (1, .int 0)]) (hcm5 : gF cm10 [(1, some cm15), (0, some cm17)]) (hcm6 : gF cm12 []) (hcm7 : gF cm14 []) (hcm8 : gF cm16 [(0, .int 0), (1, .int 0)]) (hcm9 : gF cm18 [(0, .int 0), (1, .int 0)]) (hK : va_K D cls (tyL ca) s) (hX : gX ad av A s s.heap) {H : Heap} {locs : List Loc} (hP : va_P D cls [(xx, .inr (12, rg 10 cx0)), (cx1, .inr (3, rg 22 cx2)), (cx3, .inl (ca 4, 2, .inr (.inr (.inr (.inr cx4))))), (cx5, .inr (0, rg 3 cx6)), (cx7, .inl (ca 0, 20, .inl cx8)), (cx9, .inr (0, rg 3 cx10)), (cx11, .inr (10, rg 9 cx12)), (cx13, .inl (ca 0, 20480, .inl cx14)), (cx15, .inl (ca 0, 3000, .inl cx16)), (cx17, .inl (ca 1, 3001, .inr (.inl cx18))), (cx19, .inl (ca 0, 3001, .inl cx20)), (cx21, .inl (ca 0, 3001, .inl cx22)), (mm, .inr (14, rg 107 cm0)), (cm1, .inl (ca 0, 8, .inl cm2)), (cm3, .inl (ca 0, 3001, .inl cm4)), (cm5, .inl (ca 0, 3001, .inl cm6)), (cm7, .inr (13, rg 81 cm8)), (cm9, .inl (ca 5, 2, .inr (.inr (.inr (.inr cm10))))), (cm11, .inl (ca 2, 20, .inl cm12)), (cm13, .inl (ca 2, 3000, .inl cm14)), (cm15, .inr (13, rg 81 cm16)), (cm17, .inr (13, rg 81 cm18))] H) (hD : va_D A [(xx, .inr (12, rg 10 cx0)), (cx1, .inr (3, rg 22 cx2)), (cx3, .inl (ca 4, 2, .inr (.inr (.inr (.inr cx4))))), (cx5, .inr (0, rg 3 cx6)), (cx7, .inl (ca 0, 20, .inl cx8)), (cx9, .inr (0, rg 3 cx10)), (cx11, .inr (10, rg 9 cx12)), (cx13, .inl (ca 0, 20480, .inl cx14)), (cx15, .inl (ca 0, 3000, .inl cx16)), (cx17, .inl (ca 1, 3001, .inr (.inl cx18))), (cx19, .inl (ca 0, 3001, .inl cx20)), (cx21, .inl (ca 0, 3001, .inl cx22)), (mm, .inr (14, rg 107 cm0)), (cm1, .inl (ca 0, 8, .inl cm2)), (cm3, .inl (ca 0, 3001, .inl cm4)), (cm5, .inl (ca 0, 3001, .inl cm6)), (cm7, .inr (13, rg 81 cm8)), (cm9, .inl (ca 5, 2, .inr (.inr (.inr (.inr cm10))))), (cm11, .inl (ca 2, 20, .inl cm12)), (cm13, .inl (ca 2, 3000, .inl cm14)), (cm15, .inr (13, rg 81 cm16)), (cm17, .inr (13, rg 81 cm18))]) (hS : va_S A s.heap H locs) {ls : Array Slot} (hl : lv_has ls 4 [(3, .int 0), (2, .ref mm), (1, .ref xx), (0, .ref b)]) : W p l e room_1 s m #[Value.ref b] below meth c H locs 282 716534 (lw_Z below #[Value.ref b] s) (F0 m 1099 ls []) := by
  obtain ⟨hx, hb, hr, hml, hown, hts0, hXs, hbl, hlocks, hgv⟩ := id C0
  have hts := wA_hts hts0
  have hbA : ¬ A b := fun z => Nat.not_le.mpr hbl (hA2 b z)
  have hown : s.vm.findClass "StaveHouseLaw" = some m.cls := hown
  refine lv_aload_n hx hb d_code_1099 rfl (lv_at hl 2 rfl) ?_
  refine lv_aload_n hx hb d_code_1100 rfl (lv_at hl 3 rfl) ?_
  refine lv_iload_n hx hb d_code_1101 rfl (lv_at hl 0 rfl) ?_
  refine lv_iconst (v := 1) hx hb d_code_1102 (by decide) ?_
  refine lv_iadd hx hb d_code_1103 ?_
  refine lv_topi (fun y1 ey1 => ?_)
  obtain rfl : y1 = 1 := ey1.trans (by decide)
  refine va_sld hx hb hXs hbl hbA hS (vinC (by decide)) d_code_1104 ?_
  refine W.eq (g2 := F0 m 1105 ls [.int (xs 1), .ref xx]) rfl ?_
  refine lv_aload_n hx hb d_code_1105 rfl (lv_at hl 3 rfl) ?_
  refine lv_iload_n hx hb d_code_1106 rfl (lv_at hl 0 rfl) ?_
  refine lv_iconst (v := 2) hx hb d_code_1107 (by decide) ?_
  refine lv_iadd hx hb d_code_1108 ?_
  refine lv_topi (fun y2 ey2 => ?_)
  obtain rfl : y2 = 2 := ey2.trans (by decide)
  refine va_sld hx hb hXs hbl hbA hS (vinC (by decide)) d_code_1109 ?_
  refine W.eq (g2 := F0 m 1110 ls [.int (xs 2), .int (xs 1), .ref xx]) rfl ?_
  refine lv_aload_n hx hb d_code_1110 rfl (lv_at hl 3 rfl) ?_
  refine lv_iload_n hx hb d_code_1111 rfl (lv_at hl 0 rfl) ?_
  refine lv_iconst (v := 3) hx hb d_code_1112 (by decide) ?_
  refine lv_iadd hx hb d_code_1113 ?_
  refine lv_topi (fun y3 ey3 => ?_)
  obtain rfl : y3 = 3 := ey3.trans (by decide)
  refine va_sld hx hb hXs hbl hbA hS (vinC (by decide)) d_code_1114 ?_
  refine W.eq (g2 := F0 m 1115 ls [.int (xs 3), .int (xs 2), .int (xs 1), .ref xx]) rfl ?_
  refine lv_aload_n hx hb d_code_1115 rfl (lv_at hl 3 rfl) ?_
  refine lv_iload_n hx hb d_code_1116 rfl (lv_at hl 0 rfl) ?_
  refine lv_iconst (v := 4) hx hb d_code_1117 (by decide) ?_
  refine lv_iadd hx hb d_code_1118 ?_
  refine lv_topi (fun y4 ey4 => ?_)
  obtain rfl : y4 = 4 := ey4.trans (by decide)
  refine va_sld hx hb hXs hbl hbA hS (vinC (by decide)) d_code_1119 ?_
  refine W.eq (g2 := F0 m 1120 ls [.int (xs 4), .int (xs 3), .int (xs 2), .int (xs 1), .ref xx]) rfl ?_
  refine lv_aload_n hx hb d_code_1120 rfl (lv_at hl 3 rfl) ?_
  refine lv_iload_n hx hb d_code_1121 rfl (lv_at hl 0 rfl) ?_
  refine lv_iconst (v := 5) hx hb d_code_1122 (by decide) ?_
  refine lv_iadd hx hb d_code_1123 ?_
  refine lv_topi (fun y5 ey5 => ?_)
  obtain rfl : y5 = 5 := ey5.trans (by decide)
  refine va_sld hx hb hXs hbl hbA hS (vinC (by decide)) d_code_1124 ?_
  refine W.eq (g2 := F0 m 1125 ls [.int (xs 5), .int (xs 4), .int (xs 3), .int (xs 2), .int (xs 1), .ref xx]) rfl ?_
  refine lv_aload_n hx hb d_code_1125 rfl (lv_at hl 3 rfl) ?_
  refine lv_iload_n hx hb d_code_1126 rfl (lv_at hl 0 rfl) ?_
  refine lv_bipush (v := 6) hx hb d_code_1127 (by decide) ?_
  refine lv_iadd hx hb d_code_1129 ?_
  refine lv_topi (fun y6 ey6 => ?_)
  obtain rfl : y6 = 6 := ey6.trans (by decide)
  refine va_sld hx hb hXs hbl hbA hS (vinC (by decide)) d_code_1130 ?_
  refine W.eq (g2 := F0 m 1131 ls [.int (xs 6), .int (xs 5), .int (xs 4), .int (xs 3), .int (xs 2), .int (xs 1), .ref xx]) rfl ?_
  refine lv_aload_n hx hb d_code_1131 rfl (lv_at hl 3 rfl) ?_
  refine lv_iload_n hx hb d_code_1132 rfl (lv_at hl 0 rfl) ?_
  refine lv_bipush (v := 7) hx hb d_code_1133 (by decide) ?_
  refine lv_iadd hx hb d_code_1135 ?_
  refine lv_topi (fun y7 ey7 => ?_)
  obtain rfl : y7 = 7 := ey7.trans (by decide)
  refine va_sld hx hb hXs hbl hbA hS (vinC (by decide)) d_code_1136 ?_
  refine W.eq (g2 := F0 m 1137 ls [.int (xs 7), .int (xs 6), .int (xs 5), .int (xs 4), .int (xs 3), .int (xs 2), .int (xs 1), .ref xx]) rfl ?_
  refine lv_aload_n hx hb d_code_1137 rfl (lv_at hl 3 rfl) ?_
  refine lv_iload_n hx hb d_code_1138 rfl (lv_at hl 0 rfl) ?_
  refine lv_bipush (v := 8) hx hb d_code_1139 (by decide) ?_
  refine lv_iadd hx hb d_code_1141 ?_
  refine lv_topi (fun y8 ey8 => ?_)
  obtain rfl : y8 = 8 := ey8.trans (by decide)
  refine va_sld hx hb hXs hbl hbA hS (vinC (by decide)) d_code_1142 ?_
  refine W.eq (g2 := F0 m 1143 ls [.int (xs 8), .int (xs 7), .int (xs 6), .int (xs 5), .int (xs 4), .int (xs 3), .int (xs 2), .int (xs 1), .ref xx]) rfl ?_
  have hFc9 := va_free (wc := [(xx, .inr (12, rg 10 cx0)), (cx3, .inl (ca 4, 2, .inr (.inr (.inr (.inr cx4)))))]) hD hS hA [0, 2] rfl
  refine va_calli (va_runV (As := [.int (xs 1), .int (xs 2), .int (xs 3), .int (xs 4), .int (xs 5), .int (xs 6), .int (xs 7), .int (xs 8)]) (rest := []) ⟨hx, hb, hml, hown, hts⟩ (c_S_shape_0 l D ca ad av H.size xx cx3 cx0 cx4 (xs 1) (xs 2) (xs 3) (xs 4) (xs 5) (xs 6) (xs 7) (xs 8) (hcx0.sub [1] rfl) (hcx2.sub [0, 1] rfl)) (cwV 8 hts (gdV k_9_99 k_9_100 k_9_101 k_1_1 k_9_102) rfl rfl rfl (by decide +kernel) ⟨Nat.le_of_ble_eq_true rfl, Nat.le_of_ble_eq_true rfl⟩) (gPV hP hD hK hS hA hX [0, 2] (by decide) rfl xx [.int (xs 1), .int (xs 2), .int (xs 3), .int (xs 4), .int (xs 5), .int (xs 6), .int (xs 7), .int (xs 8)] 0 (ci := 12) (r := (RX12, TX12, 10)) rfl rfl) rfl rfl hl.1 rfl (lv_room (Nat.le_of_ble_eq_true rfl)) d_code_1143 ⟨Nat.le_of_ble_eq_true rfl, Nat.le_of_ble_eq_true rfl⟩) hS (fun q _ h => hFc9 q h) hFc9 (fun r9 u9 t9 H9 locs9 ht9 hvm9 hw9 hB9 hz9 hk9 hS9 => ?_)
  have hr9 := hw9
  obtain ⟨hP9, hD9⟩ := gJoin (wr := [(cx1, .inr (3, rg 22 cx2)), (cx5, .inr (0, rg 3 cx6)), (cx7, .inl (ca 0, 20, .inl cx8)), (cx9, .inr (0, rg 3 cx10)), (cx11, .inr (10, rg 9 cx12)), (cx13, .inl (ca 0, 20480, .inl cx14)), (cx15, .inl (ca 0, 3000, .inl cx16)), (cx17, .inl (ca 1, 3001, .inr (.inl cx18))), (cx19, .inl (ca 0, 3001, .inl cx20)), (cx21, .inl (ca 0, 3001, .inl cx22)), (mm, .inr (14, rg 107 cm0)), (cm1, .inl (ca 0, 8, .inl cm2)), (cm3, .inl (ca 0, 3001, .inl cm4)), (cm5, .inl (ca 0, 3001, .inl cm6)), (cm7, .inr (13, rg 81 cm8)), (cm9, .inl (ca 5, 2, .inr (.inr (.inr (.inr cm10))))), (cm11, .inl (ca 2, 20, .inl cm12)), (cm13, .inl (ca 2, 3000, .inl cm14)), (cm15, .inr (13, rg 81 cm16)), (cm17, .inr (13, rg 81 cm18))]) (w1 := [(xx, .inr (12, rg 10 cx0)), (cx3, .inl (ca 4, 2, .inr (.inr (.inr (.inr cx4)))))]) hP hD [0, 2] [1, 3, 4, 5, 6, 7, 8, 9, 10, 11, 12, 13, 14, 15, 16, 17, 18, 19, 20, 21] rfl rfl (by decide) (by decide) hk9 hFc9 ht9 hB9
  have hP9 : va_P D cls [(cx1, .inr (3, rg 22 cx2)), (cx5, .inr (0, rg 3 cx6)), (cx7, .inl (ca 0, 20, .inl cx8)), (cx9, .inr (0, rg 3 cx10)), (cx11, .inr (10, rg 9 cx12)), (cx13, .inl (ca 0, 20480, .inl cx14)), (cx15, .inl (ca 0, 3000, .inl cx16)), (cx17, .inl (ca 1, 3001, .inr (.inl cx18))), (cx19, .inl (ca 0, 3001, .inl cx20)), (cx21, .inl (ca 0, 3001, .inl cx22)), (mm, .inr (14, rg 107 cm0)), (cm1, .inl (ca 0, 8, .inl cm2)), (cm3, .inl (ca 0, 3001, .inl cm4)), (cm5, .inl (ca 0, 3001, .inl cm6)), (cm7, .inr (13, rg 81 cm8)), (cm9, .inl (ca 5, 2, .inr (.inr (.inr (.inr cm10))))), (cm11, .inl (ca 2, 20, .inl cm12)), (cm13, .inl (ca 2, 3000, .inl cm14)), (cm15, .inr (13, rg 81 cm16)), (cm17, .inr (13, rg 81 cm18)), (xx, .inr (12, rg 10 cx0)), (cx3, .inl (ca 4, 2, .inr (.inr (.inr (.inr cx4)))))] H9 := hP9
  have hD9 : va_D A [(cx1, .inr (3, rg 22 cx2)), (cx5, .inr (0, rg 3 cx6)), (cx7, .inl (ca 0, 20, .inl cx8)), (cx9, .inr (0, rg 3 cx10)), (cx11, .inr (10, rg 9 cx12)), (cx13, .inl (ca 0, 20480, .inl cx14)), (cx15, .inl (ca 0, 3000, .inl cx16)), (cx17, .inl (ca 1, 3001, .inr (.inl cx18))), (cx19, .inl (ca 0, 3001, .inl cx20)), (cx21, .inl (ca 0, 3001, .inl cx22)), (mm, .inr (14, rg 107 cm0)), (cm1, .inl (ca 0, 8, .inl cm2)), (cm3, .inl (ca 0, 3001, .inl cm4)), (cm5, .inl (ca 0, 3001, .inl cm6)), (cm7, .inr (13, rg 81 cm8)), (cm9, .inl (ca 5, 2, .inr (.inr (.inr (.inr cm10))))), (cm11, .inl (ca 2, 20, .inl cm12)), (cm13, .inl (ca 2, 3000, .inl cm14)), (cm15, .inr (13, rg 81 cm16)), (cm17, .inr (13, rg 81 cm18)), (xx, .inr (12, rg 10 cx0)), (cx3, .inl (ca 4, 2, .inr (.inr (.inr (.inr cx4)))))] := hD9
  refine W.widen (k := 282) (n := 716534) (Nat.le_of_ble_eq_true rfl) (Nat.le_of_ble_eq_true rfl) ?_
  subst hr9
  refine lv_aload_n hx hb d_code_1146 rfl (lv_at hl 1 rfl) ?_
  refine lv_aload_n hx hb d_code_1147 rfl (lv_at hl 3 rfl) ?_
  refine lv_iload_n hx hb d_code_1148 rfl (lv_at hl 0 rfl) ?_
  refine lv_iconst (v := 1) hx hb d_code_1149 (by decide) ?_
  refine lv_iadd hx hb d_code_1150 ?_
  refine lv_topi (fun y10 ey10 => ?_)
  obtain rfl : y10 = 1 := ey10.trans (by decide)
  refine va_sld hx hb hXs hbl hbA hS9 (vinC (by decide)) d_code_1151 ?_
  refine W.eq (g2 := F0 m 1152 ls [.int (xs 1), .ref mm, .int (-1)]) rfl ?_
  refine lv_aload_n hx hb d_code_1152 rfl (lv_at hl 3 rfl) ?_
  refine lv_iload_n hx hb d_code_1153 rfl (lv_at hl 0 rfl) ?_
  refine lv_iconst (v := 2) hx hb d_code_1154 (by decide) ?_
  refine lv_iadd hx hb d_code_1155 ?_
  refine lv_topi (fun y11 ey11 => ?_)
  obtain rfl : y11 = 2 := ey11.trans (by decide)
  refine va_sld hx hb hXs hbl hbA hS9 (vinC (by decide)) d_code_1156 ?_
  refine W.eq (g2 := F0 m 1157 ls [.int (xs 2), .int (xs 1), .ref mm, .int (-1)]) rfl ?_
  refine lv_aload_n hx hb d_code_1157 rfl (lv_at hl 3 rfl) ?_
  refine lv_iload_n hx hb d_code_1158 rfl (lv_at hl 0 rfl) ?_
  refine lv_iconst (v := 3) hx hb d_code_1159 (by decide) ?_
  refine lv_iadd hx hb d_code_1160 ?_
  refine lv_topi (fun y12 ey12 => ?_)
  obtain rfl : y12 = 3 := ey12.trans (by decide)
  refine va_sld hx hb hXs hbl hbA hS9 (vinC (by decide)) d_code_1161 ?_
  refine W.eq (g2 := F0 m 1162 ls [.int (xs 3), .int (xs 2), .int (xs 1), .ref mm, .int (-1)]) rfl ?_
  refine lv_aload_n hx hb d_code_1162 rfl (lv_at hl 3 rfl) ?_
  refine lv_iload_n hx hb d_code_1163 rfl (lv_at hl 0 rfl) ?_
  refine lv_iconst (v := 4) hx hb d_code_1164 (by decide) ?_
  refine lv_iadd hx hb d_code_1165 ?_
  refine lv_topi (fun y13 ey13 => ?_)
  obtain rfl : y13 = 4 := ey13.trans (by decide)
  refine va_sld hx hb hXs hbl hbA hS9 (vinC (by decide)) d_code_1166 ?_
  refine W.eq (g2 := F0 m 1167 ls [.int (xs 4), .int (xs 3), .int (xs 2), .int (xs 1), .ref mm, .int (-1)]) rfl ?_
  refine lv_aload_n hx hb d_code_1167 rfl (lv_at hl 3 rfl) ?_
  refine lv_iload_n hx hb d_code_1168 rfl (lv_at hl 0 rfl) ?_
  refine lv_iconst (v := 5) hx hb d_code_1169 (by decide) ?_
  refine lv_iadd hx hb d_code_1170 ?_
  refine lv_topi (fun y14 ey14 => ?_)
  obtain rfl : y14 = 5 := ey14.trans (by decide)
  refine va_sld hx hb hXs hbl hbA hS9 (vinC (by decide)) d_code_1171 ?_
  refine W.eq (g2 := F0 m 1172 ls [.int (xs 5), .int (xs 4), .int (xs 3), .int (xs 2), .int (xs 1), .ref mm, .int (-1)]) rfl ?_
  refine lv_aload_n hx hb d_code_1172 rfl (lv_at hl 3 rfl) ?_
  refine lv_iload_n hx hb d_code_1173 rfl (lv_at hl 0 rfl) ?_
  refine lv_bipush (v := 6) hx hb d_code_1174 (by decide) ?_
  refine lv_iadd hx hb d_code_1176 ?_
  refine lv_topi (fun y15 ey15 => ?_)
  obtain rfl : y15 = 6 := ey15.trans (by decide)
  refine va_sld hx hb hXs hbl hbA hS9 (vinC (by decide)) d_code_1177 ?_
  refine W.eq (g2 := F0 m 1178 ls [.int (xs 6), .int (xs 5), .int (xs 4), .int (xs 3), .int (xs 2), .int (xs 1), .ref mm, .int (-1)]) rfl ?_
  refine lv_aload_n hx hb d_code_1178 rfl (lv_at hl 3 rfl) ?_
  refine lv_iload_n hx hb d_code_1179 rfl (lv_at hl 0 rfl) ?_
  refine lv_bipush (v := 7) hx hb d_code_1180 (by decide) ?_
  refine lv_iadd hx hb d_code_1182 ?_
  refine lv_topi (fun y16 ey16 => ?_)
  obtain rfl : y16 = 7 := ey16.trans (by decide)
  refine va_sld hx hb hXs hbl hbA hS9 (vinC (by decide)) d_code_1183 ?_
  refine W.eq (g2 := F0 m 1184 ls [.int (xs 7), .int (xs 6), .int (xs 5), .int (xs 4), .int (xs 3), .int (xs 2), .int (xs 1), .ref mm, .int (-1)]) rfl ?_
  refine lv_aload_n hx hb d_code_1184 rfl (lv_at hl 3 rfl) ?_
  refine lv_iload_n hx hb d_code_1185 rfl (lv_at hl 0 rfl) ?_
  refine lv_bipush (v := 8) hx hb d_code_1186 (by decide) ?_
  refine lv_iadd hx hb d_code_1188 ?_
  refine lv_topi (fun y17 ey17 => ?_)
  obtain rfl : y17 = 8 := ey17.trans (by decide)
  refine va_sld hx hb hXs hbl hbA hS9 (vinC (by decide)) d_code_1189 ?_
  refine W.eq (g2 := F0 m 1190 ls [.int (xs 8), .int (xs 7), .int (xs 6), .int (xs 5), .int (xs 4), .int (xs 3), .int (xs 2), .int (xs 1), .ref mm, .int (-1)]) rfl ?_
  have hFc18 := va_free (wc := [(mm, .inr (14, rg 107 cm0)), (cm9, .inl (ca 5, 2, .inr (.inr (.inr (.inr cm10))))), (cm15, .inr (13, rg 81 cm16)), (cm17, .inr (13, rg 81 cm18))]) hD9 hS9 hA [10, 15, 18, 19] rfl
  refine va_calli (va_runV (As := [.int (xs 1), .int (xs 2), .int (xs 3), .int (xs 4), .int (xs 5), .int (xs 6), .int (xs 7), .int (xs 8)]) (rest := [.int (-1)]) ⟨hx, hb, hml, hown, hts⟩ (c_M_shape_0 l D ca ad av H9.size mm cm9 cm15 cm17 cm0 cm10 cm16 cm18 (xs 1) (xs 2) (xs 3) (xs 4) (xs 5) (xs 6) (xs 7) (xs 8) (hcm0.sub [4] rfl) (hcm5.sub [0, 1] rfl) (hcm8.sub [0] rfl) (hcm9.sub [0] rfl)) (cwV 8 hts (gdV k_14_67 k_14_68 k_14_69 k_1_9 k_14_70) rfl rfl rfl (by decide +kernel) ⟨Nat.le_of_ble_eq_true rfl, Nat.le_of_ble_eq_true rfl⟩) (gPV hP9 hD9 hK hS9 hA hX [10, 15, 18, 19] (by decide) rfl mm [.int (xs 1), .int (xs 2), .int (xs 3), .int (xs 4), .int (xs 5), .int (xs 6), .int (xs 7), .int (xs 8)] 10 (ci := 14) (r := (RX14, TX14, 107)) rfl rfl) rfl rfl hl.1 rfl (lv_room (Nat.le_of_ble_eq_true rfl)) d_code_1190 ⟨Nat.le_of_ble_eq_true rfl, Nat.le_of_ble_eq_true rfl⟩) hS9 (fun q _ h => hFc18 q h) hFc18 (fun r18 u18 t18 H18 locs18 ht18 hvm18 hw18 hB18 hz18 hk18 hS18 => ?_)
  have hr18 := hw18
  obtain ⟨hP18, hD18⟩ := gJoin (wr := [(cx1, .inr (3, rg 22 cx2)), (cx5, .inr (0, rg 3 cx6)), (cx7, .inl (ca 0, 20, .inl cx8)), (cx9, .inr (0, rg 3 cx10)), (cx11, .inr (10, rg 9 cx12)), (cx13, .inl (ca 0, 20480, .inl cx14)), (cx15, .inl (ca 0, 3000, .inl cx16)), (cx17, .inl (ca 1, 3001, .inr (.inl cx18))), (cx19, .inl (ca 0, 3001, .inl cx20)), (cx21, .inl (ca 0, 3001, .inl cx22)), (cm1, .inl (ca 0, 8, .inl cm2)), (cm3, .inl (ca 0, 3001, .inl cm4)), (cm5, .inl (ca 0, 3001, .inl cm6)), (cm7, .inr (13, rg 81 cm8)), (cm11, .inl (ca 2, 20, .inl cm12)), (cm13, .inl (ca 2, 3000, .inl cm14)), (xx, .inr (12, rg 10 cx0)), (cx3, .inl (ca 4, 2, .inr (.inr (.inr (.inr cx4)))))]) (w1 := [(mm, .inr (14, rg 107 cm0)), (cm9, .inl (ca 5, 2, .inr (.inr (.inr (.inr cm10))))), (cm15, .inr (13, rg 81 cm16)), (cm17, .inr (13, rg 81 cm18))]) hP9 hD9 [10, 15, 18, 19] [0, 1, 2, 3, 4, 5, 6, 7, 8, 9, 11, 12, 13, 14, 16, 17, 20, 21] rfl rfl (by decide) (by decide) hk18 hFc18 ht18 hB18
  have hP18 : va_P D cls [(cx1, .inr (3, rg 22 cx2)), (cx5, .inr (0, rg 3 cx6)), (cx7, .inl (ca 0, 20, .inl cx8)), (cx9, .inr (0, rg 3 cx10)), (cx11, .inr (10, rg 9 cx12)), (cx13, .inl (ca 0, 20480, .inl cx14)), (cx15, .inl (ca 0, 3000, .inl cx16)), (cx17, .inl (ca 1, 3001, .inr (.inl cx18))), (cx19, .inl (ca 0, 3001, .inl cx20)), (cx21, .inl (ca 0, 3001, .inl cx22)), (cm1, .inl (ca 0, 8, .inl cm2)), (cm3, .inl (ca 0, 3001, .inl cm4)), (cm5, .inl (ca 0, 3001, .inl cm6)), (cm7, .inr (13, rg 81 cm8)), (cm11, .inl (ca 2, 20, .inl cm12)), (cm13, .inl (ca 2, 3000, .inl cm14)), (xx, .inr (12, rg 10 cx0)), (cx3, .inl (ca 4, 2, .inr (.inr (.inr (.inr cx4))))), (mm, .inr (14, rg 107 cm0)), (cm9, .inl (ca 5, 2, .inr (.inr (.inr (.inr cm10))))), (cm15, .inr (13, rg 81 cm16)), (cm17, .inr (13, rg 81 cm18))] H18 := hP18
  have hD18 : va_D A [(cx1, .inr (3, rg 22 cx2)), (cx5, .inr (0, rg 3 cx6)), (cx7, .inl (ca 0, 20, .inl cx8)), (cx9, .inr (0, rg 3 cx10)), (cx11, .inr (10, rg 9 cx12)), (cx13, .inl (ca 0, 20480, .inl cx14)), (cx15, .inl (ca 0, 3000, .inl cx16)), (cx17, .inl (ca 1, 3001, .inr (.inl cx18))), (cx19, .inl (ca 0, 3001, .inl cx20)), (cx21, .inl (ca 0, 3001, .inl cx22)), (cm1, .inl (ca 0, 8, .inl cm2)), (cm3, .inl (ca 0, 3001, .inl cm4)), (cm5, .inl (ca 0, 3001, .inl cm6)), (cm7, .inr (13, rg 81 cm8)), (cm11, .inl (ca 2, 20, .inl cm12)), (cm13, .inl (ca 2, 3000, .inl cm14)), (xx, .inr (12, rg 10 cx0)), (cx3, .inl (ca 4, 2, .inr (.inr (.inr (.inr cx4))))), (mm, .inr (14, rg 107 cm0)), (cm9, .inl (ca 5, 2, .inr (.inr (.inr (.inr cm10))))), (cm15, .inr (13, rg 81 cm16)), (cm17, .inr (13, rg 81 cm18))] := hD18
  refine W.widen (k := 282) (n := 716534) (Nat.le_of_ble_eq_true rfl) (Nat.le_of_ble_eq_true rfl) ?_
  subst hr18
  refine lv_icmp_eq (tgt := 1198) hx hb d_code_1193 (by decide) (fun _ => ?_) (fun c => absurd (by decide) c)
  exact law_tail C0 hA2 hS18 (Nat.le_of_ble_eq_true rfl) (Nat.le_of_ble_eq_true rfl) hl

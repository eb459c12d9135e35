theorem k_2_158 : (Jvm.Cond.methodLink "StaveHouseLaw" (13 : Nat) ({ cls := "StaveHouse", name := "feed", desc := "(IIIII)V" } : Jvm.MethodName)) ∈ wAll := wA_2 (j := 158) rfl rfl
theorem k_2_159 : (Jvm.Cond.instanceMethod ({ cls := "StaveHouse", name := "feed", desc := "(IIIII)V" } : Jvm.MethodName)) ∈ wAll := wA_2 (j := 159) rfl rfl
theorem k_2_160 : (Jvm.Cond.selects "StaveHouse" ({ cls := "StaveHouse", name := "feed", desc := "(IIIII)V" } : Jvm.MethodName) ({ cls := "StaveHouse", name := "feed", desc := "(IIIII)V" } : Jvm.MethodName)) ∈ wAll := wA_2 (j := 160) rfl rfl
theorem k_2_161 : (Jvm.Cond.code ({ cls := "StaveHouse", name := "feed", desc := "(IIIII)V" } : Jvm.MethodName) prog_1_method_2_code (6 : Nat) (Option.none : Option Jvm.ClassFile.FieldType)) ∈ wAll := wA_2 (j := 161) rfl rfl
theorem k_12_80 : (Jvm.Cond.methodLink "StaveHouseLaw" (17 : Nat) ({ cls := "StaveHouseModel", name := "feed", desc := "(IIIII)V" } : Jvm.MethodName)) ∈ wAll := wA_12 (j := 80) rfl rfl
theorem k_12_81 : (Jvm.Cond.instanceMethod ({ cls := "StaveHouseModel", name := "feed", desc := "(IIIII)V" } : Jvm.MethodName)) ∈ wAll := wA_12 (j := 81) rfl rfl
theorem k_12_82 : (Jvm.Cond.selects "StaveHouseModel" ({ cls := "StaveHouseModel", name := "feed", desc := "(IIIII)V" } : Jvm.MethodName) ({ cls := "StaveHouseModel", name := "feed", desc := "(IIIII)V" } : Jvm.MethodName)) ∈ wAll := wA_12 (j := 82) rfl rfl
theorem k_12_83 : (Jvm.Cond.code ({ cls := "StaveHouseModel", name := "feed", desc := "(IIIII)V" } : Jvm.MethodName) prog_15_method_12_code (8 : Nat) (Option.none : Option Jvm.ClassFile.FieldType)) ∈ wAll := wA_12 (j := 83) rfl rfl
theorem k_2_166 : (Jvm.Cond.methodLink "StaveHouseLaw" (18 : Nat) ({ cls := "StaveHouse", name := "end", desc := "(I)I" } : Jvm.MethodName)) ∈ wAll := wA_2 (j := 166) rfl rfl
theorem k_2_167 : (Jvm.Cond.instanceMethod ({ cls := "StaveHouse", name := "end", desc := "(I)I" } : Jvm.MethodName)) ∈ wAll := wA_2 (j := 167) rfl rfl
theorem k_2_168 : (Jvm.Cond.selects "StaveHouse" ({ cls := "StaveHouse", name := "end", desc := "(I)I" } : Jvm.MethodName) ({ cls := "StaveHouse", name := "end", desc := "(I)I" } : Jvm.MethodName)) ∈ wAll := wA_2 (j := 168) rfl rfl
theorem k_2_169 : (Jvm.Cond.code ({ cls := "StaveHouse", name := "end", desc := "(I)I" } : Jvm.MethodName) prog_1_method_4_code (3 : Nat) (Option.some Jvm.ClassFile.FieldType.int)) ∈ wAll := wA_2 (j := 169) rfl rfl
theorem k_12_84 : (Jvm.Cond.methodLink "StaveHouseLaw" (22 : Nat) ({ cls := "StaveHouseModel", name := "end", desc := "(I)I" } : Jvm.MethodName)) ∈ wAll := wA_12 (j := 84) rfl rfl
theorem k_12_85 : (Jvm.Cond.instanceMethod ({ cls := "StaveHouseModel", name := "end", desc := "(I)I" } : Jvm.MethodName)) ∈ wAll := wA_12 (j := 85) rfl rfl
theorem k_12_86 : (Jvm.Cond.selects "StaveHouseModel" ({ cls := "StaveHouseModel", name := "end", desc := "(I)I" } : Jvm.MethodName) ({ cls := "StaveHouseModel", name := "end", desc := "(I)I" } : Jvm.MethodName)) ∈ wAll := wA_12 (j := 86) rfl rfl
theorem k_12_87 : (Jvm.Cond.code ({ cls := "StaveHouseModel", name := "end", desc := "(I)I" } : Jvm.MethodName) prog_15_method_13_code (3 : Nat) (Option.some Jvm.ClassFile.FieldType.int)) ∈ wAll := wA_12 (j := 87) rfl rfl
theorem k_2_174 : (Jvm.Cond.methodLink "StaveHouseLaw" (23 : Nat) ({ cls := "StaveHouse", name := "read", desc := "(I)I" } : Jvm.MethodName)) ∈ wAll := wA_2 (j := 174) rfl rfl
theorem k_2_175 : (Jvm.Cond.instanceMethod ({ cls := "StaveHouse", name := "read", desc := "(I)I" } : Jvm.MethodName)) ∈ wAll := wA_2 (j := 175) rfl rfl
theorem k_2_176 : (Jvm.Cond.selects "StaveHouse" ({ cls := "StaveHouse", name := "read", desc := "(I)I" } : Jvm.MethodName) ({ cls := "StaveHouse", name := "read", desc := "(I)I" } : Jvm.MethodName)) ∈ wAll := wA_2 (j := 176) rfl rfl
theorem k_2_177 : (Jvm.Cond.code ({ cls := "StaveHouse", name := "read", desc := "(I)I" } : Jvm.MethodName) prog_1_method_5_code (4 : Nat) (Option.some Jvm.ClassFile.FieldType.int)) ∈ wAll := wA_2 (j := 177) rfl rfl
theorem k_14_79 : (Jvm.Cond.methodLink "StaveHouseLaw" (26 : Nat) ({ cls := "StaveHouseModel", name := "read", desc := "(I)I" } : Jvm.MethodName)) ∈ wAll := wA_14 (j := 79) rfl rfl
theorem k_14_80 : (Jvm.Cond.instanceMethod ({ cls := "StaveHouseModel", name := "read", desc := "(I)I" } : Jvm.MethodName)) ∈ wAll := wA_14 (j := 80) rfl rfl
theorem k_14_81 : (Jvm.Cond.selects "StaveHouseModel" ({ cls := "StaveHouseModel", name := "read", desc := "(I)I" } : Jvm.MethodName) ({ cls := "StaveHouseModel", name := "read", desc := "(I)I" } : Jvm.MethodName)) ∈ wAll := wA_14 (j := 81) rfl rfl
theorem k_14_82 : (Jvm.Cond.code ({ cls := "StaveHouseModel", name := "read", desc := "(I)I" } : Jvm.MethodName) prog_15_method_202_code (4 : Nat) (Option.some Jvm.ClassFile.FieldType.int)) ∈ wAll := wA_14 (j := 82) rfl rfl
theorem k_5_178 : (Jvm.Cond.methodLink "StaveHouseLaw" (27 : Nat) ({ cls := "StaveHouse", name := "look", desc := "(II)I" } : Jvm.MethodName)) ∈ wAll := wA_5 (j := 178) rfl rfl
theorem k_5_179 : (Jvm.Cond.instanceMethod ({ cls := "StaveHouse", name := "look", desc := "(II)I" } : Jvm.MethodName)) ∈ wAll := wA_5 (j := 179) rfl rfl
theorem k_5_180 : (Jvm.Cond.selects "StaveHouse" ({ cls := "StaveHouse", name := "look", desc := "(II)I" } : Jvm.MethodName) ({ cls := "StaveHouse", name := "look", desc := "(II)I" } : Jvm.MethodName)) ∈ wAll := wA_5 (j := 180) rfl rfl
theorem k_5_181 : (Jvm.Cond.code ({ cls := "StaveHouse", name := "look", desc := "(II)I" } : Jvm.MethodName) prog_1_method_10_code (4 : Nat) (Option.some Jvm.ClassFile.FieldType.int)) ∈ wAll := wA_5 (j := 181) rfl rfl
theorem k_15_142 : (Jvm.Cond.methodLink "StaveHouseLaw" (31 : Nat) ({ cls := "StaveHouseModel", name := "look", desc := "(II)I" } : Jvm.MethodName)) ∈ wAll := wA_15 (j := 142) rfl rfl
theorem k_15_143 : (Jvm.Cond.instanceMethod ({ cls := "StaveHouseModel", name := "look", desc := "(II)I" } : Jvm.MethodName)) ∈ wAll := wA_15 (j := 143) rfl rfl
theorem k_15_144 : (Jvm.Cond.selects "StaveHouseModel" ({ cls := "StaveHouseModel", name := "look", desc := "(II)I" } : Jvm.MethodName) ({ cls := "StaveHouseModel", name := "look", desc := "(II)I" } : Jvm.MethodName)) ∈ wAll := wA_15 (j := 144) rfl rfl
theorem k_15_145 : (Jvm.Cond.code ({ cls := "StaveHouseModel", name := "look", desc := "(II)I" } : Jvm.MethodName) prog_15_method_203_code (4 : Nat) (Option.some Jvm.ClassFile.FieldType.int)) ∈ wAll := wA_15 (j := 145) rfl rfl
theorem k_6_164 : (Jvm.Cond.methodLink "StaveHouseLaw" (32 : Nat) ({ cls := "StaveHouse", name := "voice", desc := "(III)I" } : Jvm.MethodName)) ∈ wAll := wA_6 (j := 164) rfl rfl
theorem k_6_165 : (Jvm.Cond.instanceMethod ({ cls := "StaveHouse", name := "voice", desc := "(III)I" } : Jvm.MethodName)) ∈ wAll := wA_6 (j := 165) rfl rfl
theorem k_6_166 : (Jvm.Cond.selects "StaveHouse" ({ cls := "StaveHouse", name := "voice", desc := "(III)I" } : Jvm.MethodName) ({ cls := "StaveHouse", name := "voice", desc := "(III)I" } : Jvm.MethodName)) ∈ wAll := wA_6 (j := 166) rfl rfl
theorem k_6_167 : (Jvm.Cond.code ({ cls := "StaveHouse", name := "voice", desc := "(III)I" } : Jvm.MethodName) prog_1_method_11_code (5 : Nat) (Option.some Jvm.ClassFile.FieldType.int)) ∈ wAll := wA_6 (j := 167) rfl rfl
theorem k_15_150 : (Jvm.Cond.methodLink "StaveHouseLaw" (36 : Nat) ({ cls := "StaveHouseModel", name := "voice", desc := "(III)I" } : Jvm.MethodName)) ∈ wAll := wA_15 (j := 150) rfl rfl
theorem k_15_151 : (Jvm.Cond.instanceMethod ({ cls := "StaveHouseModel", name := "voice", desc := "(III)I" } : Jvm.MethodName)) ∈ wAll := wA_15 (j := 151) rfl rfl
theorem k_15_152 : (Jvm.Cond.selects "StaveHouseModel" ({ cls := "StaveHouseModel", name := "voice", desc := "(III)I" } : Jvm.MethodName) ({ cls := "StaveHouseModel", name := "voice", desc := "(III)I" } : Jvm.MethodName)) ∈ wAll := wA_15 (j := 152) rfl rfl
theorem k_15_153 : (Jvm.Cond.code ({ cls := "StaveHouseModel", name := "voice", desc := "(III)I" } : Jvm.MethodName) prog_15_method_204_code (5 : Nat) (Option.some Jvm.ClassFile.FieldType.int)) ∈ wAll := wA_15 (j := 153) rfl rfl
theorem k_6_172 : (Jvm.Cond.methodLink "StaveHouseLaw" (37 : Nat) ({ cls := "StaveHouse", name := "name", desc := "(II)J" } : Jvm.MethodName)) ∈ wAll := wA_6 (j := 172) rfl rfl
theorem k_6_173 : (Jvm.Cond.instanceMethod ({ cls := "StaveHouse", name := "name", desc := "(II)J" } : Jvm.MethodName)) ∈ wAll := wA_6 (j := 173) rfl rfl
theorem k_6_174 : (Jvm.Cond.selects "StaveHouse" ({ cls := "StaveHouse", name := "name", desc := "(II)J" } : Jvm.MethodName) ({ cls := "StaveHouse", name := "name", desc := "(II)J" } : Jvm.MethodName)) ∈ wAll := wA_6 (j := 174) rfl rfl
theorem k_6_175 : (Jvm.Cond.code ({ cls := "StaveHouse", name := "name", desc := "(II)J" } : Jvm.MethodName) prog_1_method_12_code (4 : Nat) (Option.some Jvm.ClassFile.FieldType.long)) ∈ wAll := wA_6 (j := 175) rfl rfl
theorem k_15_154 : (Jvm.Cond.methodLink "StaveHouseLaw" (41 : Nat) ({ cls := "StaveHouseModel", name := "name", desc := "(II)J" } : Jvm.MethodName)) ∈ wAll := wA_15 (j := 154) rfl rfl
theorem k_15_155 : (Jvm.Cond.instanceMethod ({ cls := "StaveHouseModel", name := "name", desc := "(II)J" } : Jvm.MethodName)) ∈ wAll := wA_15 (j := 155) rfl rfl
theorem k_15_156 : (Jvm.Cond.selects "StaveHouseModel" ({ cls := "StaveHouseModel", name := "name", desc := "(II)J" } : Jvm.MethodName) ({ cls := "StaveHouseModel", name := "name", desc := "(II)J" } : Jvm.MethodName)) ∈ wAll := wA_15 (j := 156) rfl rfl
theorem k_15_157 : (Jvm.Cond.code ({ cls := "StaveHouseModel", name := "name", desc := "(II)J" } : Jvm.MethodName) prog_15_method_205_code (4 : Nat) (Option.some Jvm.ClassFile.FieldType.long)) ∈ wAll := wA_15 (j := 157) rfl rfl
theorem k_6_176 : (Jvm.Cond.methodLink "StaveHouseLaw" (42 : Nat) ({ cls := "StaveHouse", name := "event", desc := "(IIII)J" } : Jvm.MethodName)) ∈ wAll := wA_6 (j := 176) rfl rfl
theorem k_6_177 : (Jvm.Cond.instanceMethod ({ cls := "StaveHouse", name := "event", desc := "(IIII)J" } : Jvm.MethodName)) ∈ wAll := wA_6 (j := 177) rfl rfl
theorem k_6_178 : (Jvm.Cond.selects "StaveHouse" ({ cls := "StaveHouse", name := "event", desc := "(IIII)J" } : Jvm.MethodName) ({ cls := "StaveHouse", name := "event", desc := "(IIII)J" } : Jvm.MethodName)) ∈ wAll := wA_6 (j := 178) rfl rfl
theorem k_6_179 : (Jvm.Cond.code ({ cls := "StaveHouse", name := "event", desc := "(IIII)J" } : Jvm.MethodName) prog_1_method_13_code (6 : Nat) (Option.some Jvm.ClassFile.FieldType.long)) ∈ wAll := wA_6 (j := 179) rfl rfl
theorem k_15_158 : (Jvm.Cond.methodLink "StaveHouseLaw" (46 : Nat) ({ cls := "StaveHouseModel", name := "event", desc := "(IIII)J" } : Jvm.MethodName)) ∈ wAll := wA_15 (j := 158) rfl rfl
theorem k_15_159 : (Jvm.Cond.instanceMethod ({ cls := "StaveHouseModel", name := "event", desc := "(IIII)J" } : Jvm.MethodName)) ∈ wAll := wA_15 (j := 159) rfl rfl
theorem k_15_160 : (Jvm.Cond.selects "StaveHouseModel" ({ cls := "StaveHouseModel", name := "event", desc := "(IIII)J" } : Jvm.MethodName) ({ cls := "StaveHouseModel", name := "event", desc := "(IIII)J" } : Jvm.MethodName)) ∈ wAll := wA_15 (j := 160) rfl rfl
theorem k_15_161 : (Jvm.Cond.code ({ cls := "StaveHouseModel", name := "event", desc := "(IIII)J" } : Jvm.MethodName) prog_15_method_206_code (7 : Nat) (Option.some Jvm.ClassFile.FieldType.long)) ∈ wAll := wA_15 (j := 161) rfl rfl
theorem k_6_195 : (Jvm.Cond.methodLink "StaveHouseLaw" (47 : Nat) ({ cls := "StaveHouse", name := "pitch", desc := "(IIIII)I" } : Jvm.MethodName)) ∈ wAll := wA_6 (j := 195) rfl rfl
theorem k_6_196 : (Jvm.Cond.instanceMethod ({ cls := "StaveHouse", name := "pitch", desc := "(IIIII)I" } : Jvm.MethodName)) ∈ wAll := wA_6 (j := 196) rfl rfl
theorem k_6_197 : (Jvm.Cond.selects "StaveHouse" ({ cls := "StaveHouse", name := "pitch", desc := "(IIIII)I" } : Jvm.MethodName) ({ cls := "StaveHouse", name := "pitch", desc := "(IIIII)I" } : Jvm.MethodName)) ∈ wAll := wA_6 (j := 197) rfl rfl
theorem k_6_198 : (Jvm.Cond.code ({ cls := "StaveHouse", name := "pitch", desc := "(IIIII)I" } : Jvm.MethodName) prog_1_method_14_code (7 : Nat) (Option.some Jvm.ClassFile.FieldType.int)) ∈ wAll := wA_6 (j := 198) rfl rfl
theorem k_15_162 : (Jvm.Cond.methodLink "StaveHouseLaw" (51 : Nat) ({ cls := "StaveHouseModel", name := "pitch", desc := "(IIIII)I" } : Jvm.MethodName)) ∈ wAll := wA_15 (j := 162) rfl rfl
theorem k_15_163 : (Jvm.Cond.instanceMethod ({ cls := "StaveHouseModel", name := "pitch", desc := "(IIIII)I" } : Jvm.MethodName)) ∈ wAll := wA_15 (j := 163) rfl rfl
theorem k_15_164 : (Jvm.Cond.selects "StaveHouseModel" ({ cls := "StaveHouseModel", name := "pitch", desc := "(IIIII)I" } : Jvm.MethodName) ({ cls := "StaveHouseModel", name := "pitch", desc := "(IIIII)I" } : Jvm.MethodName)) ∈ wAll := wA_15 (j := 164) rfl rfl
theorem k_15_165 : (Jvm.Cond.code ({ cls := "StaveHouseModel", name := "pitch", desc := "(IIIII)I" } : Jvm.MethodName) prog_15_method_207_code (8 : Nat) (Option.some Jvm.ClassFile.FieldType.int)) ∈ wAll := wA_15 (j := 165) rfl rfl
theorem k_6_201 : (Jvm.Cond.methodLink "StaveHouseLaw" (52 : Nat) ({ cls := "StaveHouse", name := "note", desc := "(IIII)J" } : Jvm.MethodName)) ∈ wAll := wA_6 (j := 201) rfl rfl
theorem k_6_202 : (Jvm.Cond.instanceMethod ({ cls := "StaveHouse", name := "note", desc := "(IIII)J" } : Jvm.MethodName)) ∈ wAll := wA_6 (j := 202) rfl rfl
theorem k_6_203 : (Jvm.Cond.selects "StaveHouse" ({ cls := "StaveHouse", name := "note", desc := "(IIII)J" } : Jvm.MethodName) ({ cls := "StaveHouse", name := "note", desc := "(IIII)J" } : Jvm.MethodName)) ∈ wAll := wA_6 (j := 203) rfl rfl
theorem k_6_204 : (Jvm.Cond.code ({ cls := "StaveHouse", name := "note", desc := "(IIII)J" } : Jvm.MethodName) prog_1_method_15_code (6 : Nat) (Option.some Jvm.ClassFile.FieldType.long)) ∈ wAll := wA_6 (j := 204) rfl rfl
theorem k_15_166 : (Jvm.Cond.methodLink "StaveHouseLaw" (55 : Nat) ({ cls := "StaveHouseModel", name := "note", desc := "(IIII)J" } : Jvm.MethodName)) ∈ wAll := wA_15 (j := 166) rfl rfl
theorem k_15_167 : (Jvm.Cond.instanceMethod ({ cls := "StaveHouseModel", name := "note", desc := "(IIII)J" } : Jvm.MethodName)) ∈ wAll := wA_15 (j := 167) rfl rfl
theorem k_15_168 : (Jvm.Cond.selects "StaveHouseModel" ({ cls := "StaveHouseModel", name := "note", desc := "(IIII)J" } : Jvm.MethodName) ({ cls := "StaveHouseModel", name := "note", desc := "(IIII)J" } : Jvm.MethodName)) ∈ wAll := wA_15 (j := 168) rfl rfl
theorem k_15_169 : (Jvm.Cond.code ({ cls := "StaveHouseModel", name := "note", desc := "(IIII)J" } : Jvm.MethodName) prog_15_method_208_code (7 : Nat) (Option.some Jvm.ClassFile.FieldType.long)) ∈ wAll := wA_15 (j := 169) rfl rfl
theorem k_6_205 : (Jvm.Cond.methodLink "StaveHouseLaw" (56 : Nat) ({ cls := "StaveHouse", name := "lines", desc := "(II)I" } : Jvm.MethodName)) ∈ wAll := wA_6 (j := 205) rfl rfl
theorem k_6_206 : (Jvm.Cond.instanceMethod ({ cls := "StaveHouse", name := "lines", desc := "(II)I" } : Jvm.MethodName)) ∈ wAll := wA_6 (j := 206) rfl rfl
theorem k_6_207 : (Jvm.Cond.selects "StaveHouse" ({ cls := "StaveHouse", name := "lines", desc := "(II)I" } : Jvm.MethodName) ({ cls := "StaveHouse", name := "lines", desc := "(II)I" } : Jvm.MethodName)) ∈ wAll := wA_6 (j := 207) rfl rfl
theorem k_6_208 : (Jvm.Cond.code ({ cls := "StaveHouse", name := "lines", desc := "(II)I" } : Jvm.MethodName) prog_1_method_16_code (4 : Nat) (Option.some Jvm.ClassFile.FieldType.int)) ∈ wAll := wA_6 (j := 208) rfl rfl
theorem k_12_88 : (Jvm.Cond.methodLink "StaveHouseLaw" (59 : Nat) ({ cls := "StaveHouseModel", name := "lines", desc := "(II)I" } : Jvm.MethodName)) ∈ wAll := wA_12 (j := 88) rfl rfl
theorem k_12_89 : (Jvm.Cond.instanceMethod ({ cls := "StaveHouseModel", name := "lines", desc := "(II)I" } : Jvm.MethodName)) ∈ wAll := wA_12 (j := 89) rfl rfl
theorem k_12_90 : (Jvm.Cond.selects "StaveHouseModel" ({ cls := "StaveHouseModel", name := "lines", desc := "(II)I" } : Jvm.MethodName) ({ cls := "StaveHouseModel", name := "lines", desc := "(II)I" } : Jvm.MethodName)) ∈ wAll := wA_12 (j := 90) rfl rfl
theorem k_12_91 : (Jvm.Cond.code ({ cls := "StaveHouseModel", name := "lines", desc := "(II)I" } : Jvm.MethodName) prog_15_method_108_code (10 : Nat) (Option.some Jvm.ClassFile.FieldType.int)) ∈ wAll := wA_12 (j := 91) rfl rfl
theorem k_7_67 : (Jvm.Cond.methodLink "StaveHouseLaw" (60 : Nat) ({ cls := "StaveHouse", name := "line", desc := "(III)J" } : Jvm.MethodName)) ∈ wAll := wA_7 (j := 67) rfl rfl
theorem k_7_68 : (Jvm.Cond.instanceMethod ({ cls := "StaveHouse", name := "line", desc := "(III)J" } : Jvm.MethodName)) ∈ wAll := wA_7 (j := 68) rfl rfl
theorem k_7_69 : (Jvm.Cond.selects "StaveHouse" ({ cls := "StaveHouse", name := "line", desc := "(III)J" } : Jvm.MethodName) ({ cls := "StaveHouse", name := "line", desc := "(III)J" } : Jvm.MethodName)) ∈ wAll := wA_7 (j := 69) rfl rfl
theorem k_7_70 : (Jvm.Cond.code ({ cls := "StaveHouse", name := "line", desc := "(III)J" } : Jvm.MethodName) prog_1_method_17_code (5 : Nat) (Option.some Jvm.ClassFile.FieldType.long)) ∈ wAll := wA_7 (j := 70) rfl rfl
theorem k_12_107 : (Jvm.Cond.methodLink "StaveHouseLaw" (64 : Nat) ({ cls := "StaveHouseModel", name := "line", desc := "(III)J" } : Jvm.MethodName)) ∈ wAll := wA_12 (j := 107) rfl rfl
theorem k_12_108 : (Jvm.Cond.instanceMethod ({ cls := "StaveHouseModel", name := "line", desc := "(III)J" } : Jvm.MethodName)) ∈ wAll := wA_12 (j := 108) rfl rfl
theorem k_12_109 : (Jvm.Cond.selects "StaveHouseModel" ({ cls := "StaveHouseModel", name := "line", desc := "(III)J" } : Jvm.MethodName) ({ cls := "StaveHouseModel", name := "line", desc := "(III)J" } : Jvm.MethodName)) ∈ wAll := wA_12 (j := 109) rfl rfl
theorem k_12_110 : (Jvm.Cond.code ({ cls := "StaveHouseModel", name := "line", desc := "(III)J" } : Jvm.MethodName) prog_15_method_110_code (5 : Nat) (Option.some Jvm.ClassFile.FieldType.long)) ∈ wAll := wA_12 (j := 110) rfl rfl
theorem k_7_75 : (Jvm.Cond.methodLink "StaveHouseLaw" (65 : Nat) ({ cls := "StaveHouse", name := "x", desc := "(III)I" } : Jvm.MethodName)) ∈ wAll := wA_7 (j := 75) rfl rfl
theorem k_7_76 : (Jvm.Cond.instanceMethod ({ cls := "StaveHouse", name := "x", desc := "(III)I" } : Jvm.MethodName)) ∈ wAll := wA_7 (j := 76) rfl rfl
theorem k_7_77 : (Jvm.Cond.selects "StaveHouse" ({ cls := "StaveHouse", name := "x", desc := "(III)I" } : Jvm.MethodName) ({ cls := "StaveHouse", name := "x", desc := "(III)I" } : Jvm.MethodName)) ∈ wAll := wA_7 (j := 77) rfl rfl
theorem k_7_78 : (Jvm.Cond.code ({ cls := "StaveHouse", name := "x", desc := "(III)I" } : Jvm.MethodName) prog_1_method_18_code (6 : Nat) (Option.some Jvm.ClassFile.FieldType.int)) ∈ wAll := wA_7 (j := 78) rfl rfl
theorem k_12_114 : (Jvm.Cond.methodLink "StaveHouseLaw" (68 : Nat) ({ cls := "StaveHouseModel", name := "x", desc := "(III)I" } : Jvm.MethodName)) ∈ wAll := wA_12 (j := 114) rfl rfl
theorem k_12_115 : (Jvm.Cond.instanceMethod ({ cls := "StaveHouseModel", name := "x", desc := "(III)I" } : Jvm.MethodName)) ∈ wAll := wA_12 (j := 115) rfl rfl
theorem k_12_116 : (Jvm.Cond.selects "StaveHouseModel" ({ cls := "StaveHouseModel", name := "x", desc := "(III)I" } : Jvm.MethodName) ({ cls := "StaveHouseModel", name := "x", desc := "(III)I" } : Jvm.MethodName)) ∈ wAll := wA_12 (j := 116) rfl rfl
theorem k_12_117 : (Jvm.Cond.code ({ cls := "StaveHouseModel", name := "x", desc := "(III)I" } : Jvm.MethodName) prog_15_method_111_code (12 : Nat) (Option.some Jvm.ClassFile.FieldType.int)) ∈ wAll := wA_12 (j := 117) rfl rfl
theorem k_7_83 : (Jvm.Cond.methodLink "StaveHouseLaw" (69 : Nat) ({ cls := "StaveHouse", name := "perform", desc := "(I)I" } : Jvm.MethodName)) ∈ wAll := wA_7 (j := 83) rfl rfl
theorem k_7_84 : (Jvm.Cond.instanceMethod ({ cls := "StaveHouse", name := "perform", desc := "(I)I" } : Jvm.MethodName)) ∈ wAll := wA_7 (j := 84) rfl rfl
theorem k_7_85 : (Jvm.Cond.selects "StaveHouse" ({ cls := "StaveHouse", name := "perform", desc := "(I)I" } : Jvm.MethodName) ({ cls := "StaveHouse", name := "perform", desc := "(I)I" } : Jvm.MethodName)) ∈ wAll := wA_7 (j := 85) rfl rfl
theorem k_7_86 : (Jvm.Cond.code ({ cls := "StaveHouse", name := "perform", desc := "(I)I" } : Jvm.MethodName) prog_1_method_19_code (4 : Nat) (Option.some Jvm.ClassFile.FieldType.int)) ∈ wAll := wA_7 (j := 86) rfl rfl
theorem k_12_121 : (Jvm.Cond.methodLink "StaveHouseLaw" (72 : Nat) ({ cls := "StaveHouseModel", name := "perform", desc := "(I)I" } : Jvm.MethodName)) ∈ wAll := wA_12 (j := 121) rfl rfl
theorem k_12_122 : (Jvm.Cond.instanceMethod ({ cls := "StaveHouseModel", name := "perform", desc := "(I)I" } : Jvm.MethodName)) ∈ wAll := wA_12 (j := 122) rfl rfl
theorem k_12_123 : (Jvm.Cond.selects "StaveHouseModel" ({ cls := "StaveHouseModel", name := "perform", desc := "(I)I" } : Jvm.MethodName) ({ cls := "StaveHouseModel", name := "perform", desc := "(I)I" } : Jvm.MethodName)) ∈ wAll := wA_12 (j := 123) rfl rfl
theorem k_12_124 : (Jvm.Cond.code ({ cls := "StaveHouseModel", name := "perform", desc := "(I)I" } : Jvm.MethodName) prog_15_method_121_code (6 : Nat) (Option.some Jvm.ClassFile.FieldType.int)) ∈ wAll := wA_12 (j := 124) rfl rfl
theorem k_7_104 : (Jvm.Cond.methodLink "StaveHouseLaw" (73 : Nat) ({ cls := "StaveHouse", name := "stroke", desc := "(III)I" } : Jvm.MethodName)) ∈ wAll := wA_7 (j := 104) rfl rfl
theorem k_7_105 : (Jvm.Cond.instanceMethod ({ cls := "StaveHouse", name := "stroke", desc := "(III)I" } : Jvm.MethodName)) ∈ wAll := wA_7 (j := 105) rfl rfl
theorem k_7_106 : (Jvm.Cond.selects "StaveHouse" ({ cls := "StaveHouse", name := "stroke", desc := "(III)I" } : Jvm.MethodName) ({ cls := "StaveHouse", name := "stroke", desc := "(III)I" } : Jvm.MethodName)) ∈ wAll := wA_7 (j := 106) rfl rfl
theorem k_7_107 : (Jvm.Cond.code ({ cls := "StaveHouse", name := "stroke", desc := "(III)I" } : Jvm.MethodName) prog_1_method_20_code (5 : Nat) (Option.some Jvm.ClassFile.FieldType.int)) ∈ wAll := wA_7 (j := 107) rfl rfl
theorem k_12_186 : (Jvm.Cond.methodLink "StaveHouseLaw" (76 : Nat) ({ cls := "StaveHouseModel", name := "stroke", desc := "(III)I" } : Jvm.MethodName)) ∈ wAll := wA_12 (j := 186) rfl rfl
theorem k_12_187 : (Jvm.Cond.instanceMethod ({ cls := "StaveHouseModel", name := "stroke", desc := "(III)I" } : Jvm.MethodName)) ∈ wAll := wA_12 (j := 187) rfl rfl
theorem k_12_188 : (Jvm.Cond.selects "StaveHouseModel" ({ cls := "StaveHouseModel", name := "stroke", desc := "(III)I" } : Jvm.MethodName) ({ cls := "StaveHouseModel", name := "stroke", desc := "(III)I" } : Jvm.MethodName)) ∈ wAll := wA_12 (j := 188) rfl rfl
theorem k_12_189 : (Jvm.Cond.code ({ cls := "StaveHouseModel", name := "stroke", desc := "(III)I" } : Jvm.MethodName) prog_15_method_122_code (5 : Nat) (Option.some Jvm.ClassFile.FieldType.int)) ∈ wAll := wA_12 (j := 189) rfl rfl
theorem W_code_128 : chW code 128 [0, 0, 3, 53, 0, 0, 3, 76, 0, 0, 3, 109, 0, 0, 3, 152, 0, 0, 3, 195, 0, 0, 3, 238, 0, 0, 4, 35, 43, 42, 29, 4, 96, 46, 42, 29] := chW_of (by decide +kernel)
theorem d_code_156 : decode code 156 = .ok (.aload_n 1, 1) := D_43 W_code_128 28 rfl rfl
theorem d_code_157 : decode code 157 = .ok (.aload_n 0, 1) := D_42 W_code_128 29 rfl rfl
theorem d_code_158 : decode code 158 = .ok (.iload_n 3, 1) := D_29 W_code_128 30 rfl rfl
theorem d_code_159 : decode code 159 = .ok (.iconst 1, 1) := D_4 W_code_128 31 rfl rfl
theorem W_code_160 : chW code 160 [96, 46, 42, 29, 5, 96, 46, 42, 29, 6, 96, 46, 42, 29, 7, 96, 46, 42, 29, 8, 96, 46, 182, 0, 13, 44, 42, 29, 4, 96, 46, 42, 29, 5, 96, 46] := chW_of (by decide +kernel)
theorem d_code_160 : decode code 160 = .ok (.iadd, 1) := D_96 W_code_160 0 rfl rfl
theorem d_code_161 : decode code 161 = .ok (.iaload, 1) := D_46 W_code_160 1 rfl rfl
theorem d_code_162 : decode code 162 = .ok (.aload_n 0, 1) := D_42 W_code_160 2 rfl rfl
theorem d_code_163 : decode code 163 = .ok (.iload_n 3, 1) := D_29 W_code_160 3 rfl rfl
theorem d_code_164 : decode code 164 = .ok (.iconst 2, 1) := D_5 W_code_160 4 rfl rfl
theorem d_code_165 : decode code 165 = .ok (.iadd, 1) := D_96 W_code_160 5 rfl rfl
theorem d_code_166 : decode code 166 = .ok (.iaload, 1) := D_46 W_code_160 6 rfl rfl
theorem d_code_167 : decode code 167 = .ok (.aload_n 0, 1) := D_42 W_code_160 7 rfl rfl
theorem d_code_168 : decode code 168 = .ok (.iload_n 3, 1) := D_29 W_code_160 8 rfl rfl
theorem d_code_169 : decode code 169 = .ok (.iconst 3, 1) := D_6 W_code_160 9 rfl rfl
theorem d_code_170 : decode code 170 = .ok (.iadd, 1) := D_96 W_code_160 10 rfl rfl
theorem d_code_171 : decode code 171 = .ok (.iaload, 1) := D_46 W_code_160 11 rfl rfl
theorem d_code_172 : decode code 172 = .ok (.aload_n 0, 1) := D_42 W_code_160 12 rfl rfl
theorem d_code_173 : decode code 173 = .ok (.iload_n 3, 1) := D_29 W_code_160 13 rfl rfl
theorem d_code_174 : decode code 174 = .ok (.iconst 4, 1) := D_7 W_code_160 14 rfl rfl
theorem d_code_175 : decode code 175 = .ok (.iadd, 1) := D_96 W_code_160 15 rfl rfl
theorem d_code_176 : decode code 176 = .ok (.iaload, 1) := D_46 W_code_160 16 rfl rfl
theorem d_code_177 : decode code 177 = .ok (.aload_n 0, 1) := D_42 W_code_160 17 rfl rfl
theorem d_code_178 : decode code 178 = .ok (.iload_n 3, 1) := D_29 W_code_160 18 rfl rfl
theorem d_code_179 : decode code 179 = .ok (.iconst 5, 1) := D_8 W_code_160 19 rfl rfl
theorem d_code_180 : decode code 180 = .ok (.iadd, 1) := D_96 W_code_160 20 rfl rfl
theorem d_code_181 : decode code 181 = .ok (.iaload, 1) := D_46 W_code_160 21 rfl rfl
theorem d_code_182 : decode code 182 = .ok (.invokevirtual 13, 3) := D_182 W_code_160 22 rfl rfl rfl
theorem d_code_185 : decode code 185 = .ok (.aload_n 2, 1) := D_44 W_code_160 25 rfl rfl
theorem d_code_186 : decode code 186 = .ok (.aload_n 0, 1) := D_42 W_code_160 26 rfl rfl
theorem d_code_187 : decode code 187 = .ok (.iload_n 3, 1) := D_29 W_code_160 27 rfl rfl
theorem d_code_188 : decode code 188 = .ok (.iconst 1, 1) := D_4 W_code_160 28 rfl rfl
theorem d_code_189 : decode code 189 = .ok (.iadd, 1) := D_96 W_code_160 29 rfl rfl
theorem d_code_190 : decode code 190 = .ok (.iaload, 1) := D_46 W_code_160 30 rfl rfl
theorem d_code_191 : decode code 191 = .ok (.aload_n 0, 1) := D_42 W_code_160 31 rfl rfl
theorem W_code_192 : chW code 192 [29, 5, 96, 46, 42, 29, 6, 96, 46, 42, 29, 7, 96, 46, 42, 29, 8, 96, 46, 182, 0, 17, 167, 3, 209, 43, 42, 29, 4, 96, 46, 182, 0, 18, 87, 44] := chW_of (by decide +kernel)
theorem d_code_192 : decode code 192 = .ok (.iload_n 3, 1) := D_29 W_code_192 0 rfl rfl
theorem d_code_193 : decode code 193 = .ok (.iconst 2, 1) := D_5 W_code_192 1 rfl rfl
theorem d_code_194 : decode code 194 = .ok (.iadd, 1) := D_96 W_code_192 2 rfl rfl
theorem d_code_195 : decode code 195 = .ok (.iaload, 1) := D_46 W_code_192 3 rfl rfl
theorem d_code_196 : decode code 196 = .ok (.aload_n 0, 1) := D_42 W_code_192 4 rfl rfl
theorem d_code_197 : decode code 197 = .ok (.iload_n 3, 1) := D_29 W_code_192 5 rfl rfl
theorem d_code_198 : decode code 198 = .ok (.iconst 3, 1) := D_6 W_code_192 6 rfl rfl
theorem d_code_199 : decode code 199 = .ok (.iadd, 1) := D_96 W_code_192 7 rfl rfl
theorem d_code_200 : decode code 200 = .ok (.iaload, 1) := D_46 W_code_192 8 rfl rfl
theorem d_code_201 : decode code 201 = .ok (.aload_n 0, 1) := D_42 W_code_192 9 rfl rfl
theorem d_code_202 : decode code 202 = .ok (.iload_n 3, 1) := D_29 W_code_192 10 rfl rfl
theorem d_code_203 : decode code 203 = .ok (.iconst 4, 1) := D_7 W_code_192 11 rfl rfl
theorem d_code_204 : decode code 204 = .ok (.iadd, 1) := D_96 W_code_192 12 rfl rfl
theorem d_code_205 : decode code 205 = .ok (.iaload, 1) := D_46 W_code_192 13 rfl rfl
theorem d_code_206 : decode code 206 = .ok (.aload_n 0, 1) := D_42 W_code_192 14 rfl rfl
theorem d_code_207 : decode code 207 = .ok (.iload_n 3, 1) := D_29 W_code_192 15 rfl rfl
theorem d_code_208 : decode code 208 = .ok (.iconst 5, 1) := D_8 W_code_192 16 rfl rfl
theorem d_code_209 : decode code 209 = .ok (.iadd, 1) := D_96 W_code_192 17 rfl rfl
theorem d_code_210 : decode code 210 = .ok (.iaload, 1) := D_46 W_code_192 18 rfl rfl
theorem d_code_211 : decode code 211 = .ok (.invokevirtual 17, 3) := D_182 W_code_192 19 rfl rfl rfl
theorem d_code_214 : decode code 214 = .ok (.goto 977, 3) := D_167 W_code_192 22 rfl rfl rfl
theorem d_code_217 : decode code 217 = .ok (.aload_n 1, 1) := D_43 W_code_192 25 rfl rfl
theorem d_code_218 : decode code 218 = .ok (.aload_n 0, 1) := D_42 W_code_192 26 rfl rfl
theorem d_code_219 : decode code 219 = .ok (.iload_n 3, 1) := D_29 W_code_192 27 rfl rfl
theorem d_code_220 : decode code 220 = .ok (.iconst 1, 1) := D_4 W_code_192 28 rfl rfl
theorem d_code_221 : decode code 221 = .ok (.iadd, 1) := D_96 W_code_192 29 rfl rfl
theorem d_code_222 : decode code 222 = .ok (.iaload, 1) := D_46 W_code_192 30 rfl rfl
theorem d_code_223 : decode code 223 = .ok (.invokevirtual 18, 3) := D_182 W_code_192 31 rfl rfl rfl
theorem W_code_224 : chW code 224 [0, 18, 87, 44, 42, 29, 4, 96, 46, 182, 0, 22, 87, 167, 3, 186, 43, 42, 29, 4, 96, 46, 182, 0, 23, 87, 44, 42, 29, 4, 96, 46, 182, 0, 26, 87] := chW_of (by decide +kernel)
theorem d_code_226 : decode code 226 = .ok (.pop, 1) := D_87 W_code_224 2 rfl rfl
theorem d_code_227 : decode code 227 = .ok (.aload_n 2, 1) := D_44 W_code_224 3 rfl rfl
theorem d_code_228 : decode code 228 = .ok (.aload_n 0, 1) := D_42 W_code_224 4 rfl rfl
theorem d_code_229 : decode code 229 = .ok (.iload_n 3, 1) := D_29 W_code_224 5 rfl rfl
theorem d_code_230 : decode code 230 = .ok (.iconst 1, 1) := D_4 W_code_224 6 rfl rfl
theorem d_code_231 : decode code 231 = .ok (.iadd, 1) := D_96 W_code_224 7 rfl rfl
theorem d_code_232 : decode code 232 = .ok (.iaload, 1) := D_46 W_code_224 8 rfl rfl
theorem d_code_233 : decode code 233 = .ok (.invokevirtual 22, 3) := D_182 W_code_224 9 rfl rfl rfl
theorem d_code_236 : decode code 236 = .ok (.pop, 1) := D_87 W_code_224 12 rfl rfl
theorem d_code_237 : decode code 237 = .ok (.goto 954, 3) := D_167 W_code_224 13 rfl rfl rfl
theorem d_code_240 : decode code 240 = .ok (.aload_n 1, 1) := D_43 W_code_224 16 rfl rfl
theorem d_code_241 : decode code 241 = .ok (.aload_n 0, 1) := D_42 W_code_224 17 rfl rfl
theorem d_code_242 : decode code 242 = .ok (.iload_n 3, 1) := D_29 W_code_224 18 rfl rfl
theorem d_code_243 : decode code 243 = .ok (.iconst 1, 1) := D_4 W_code_224 19 rfl rfl
theorem d_code_244 : decode code 244 = .ok (.iadd, 1) := D_96 W_code_224 20 rfl rfl
theorem d_code_245 : decode code 245 = .ok (.iaload, 1) := D_46 W_code_224 21 rfl rfl
theorem d_code_246 : decode code 246 = .ok (.invokevirtual 23, 3) := D_182 W_code_224 22 rfl rfl rfl
theorem d_code_249 : decode code 249 = .ok (.pop, 1) := D_87 W_code_224 25 rfl rfl
theorem d_code_250 : decode code 250 = .ok (.aload_n 2, 1) := D_44 W_code_224 26 rfl rfl
theorem d_code_251 : decode code 251 = .ok (.aload_n 0, 1) := D_42 W_code_224 27 rfl rfl
theorem d_code_252 : decode code 252 = .ok (.iload_n 3, 1) := D_29 W_code_224 28 rfl rfl
theorem d_code_253 : decode code 253 = .ok (.iconst 1, 1) := D_4 W_code_224 29 rfl rfl
theorem d_code_254 : decode code 254 = .ok (.iadd, 1) := D_96 W_code_224 30 rfl rfl
theorem d_code_255 : decode code 255 = .ok (.iaload, 1) := D_46 W_code_224 31 rfl rfl
theorem W_code_256 : chW code 256 [182, 0, 26, 87, 167, 3, 163, 43, 42, 29, 4, 96, 46, 42, 29, 5, 96, 46, 182, 0, 27, 87, 44, 42, 29, 4, 96, 46, 42, 29, 5, 96, 46, 182, 0, 31] := chW_of (by decide +kernel)
theorem d_code_256 : decode code 256 = .ok (.invokevirtual 26, 3) := D_182 W_code_256 0 rfl rfl rfl
theorem d_code_259 : decode code 259 = .ok (.pop, 1) := D_87 W_code_256 3 rfl rfl
theorem d_code_260 : decode code 260 = .ok (.goto 931, 3) := D_167 W_code_256 4 rfl rfl rfl
theorem d_code_263 : decode code 263 = .ok (.aload_n 1, 1) := D_43 W_code_256 7 rfl rfl
theorem d_code_264 : decode code 264 = .ok (.aload_n 0, 1) := D_42 W_code_256 8 rfl rfl
theorem d_code_265 : decode code 265 = .ok (.iload_n 3, 1) := D_29 W_code_256 9 rfl rfl
theorem d_code_266 : decode code 266 = .ok (.iconst 1, 1) := D_4 W_code_256 10 rfl rfl
theorem d_code_267 : decode code 267 = .ok (.iadd, 1) := D_96 W_code_256 11 rfl rfl
theorem d_code_268 : decode code 268 = .ok (.iaload, 1) := D_46 W_code_256 12 rfl rfl
theorem d_code_269 : decode code 269 = .ok (.aload_n 0, 1) := D_42 W_code_256 13 rfl rfl
theorem d_code_270 : decode code 270 = .ok (.iload_n 3, 1) := D_29 W_code_256 14 rfl rfl
theorem d_code_271 : decode code 271 = .ok (.iconst 2, 1) := D_5 W_code_256 15 rfl rfl
theorem d_code_272 : decode code 272 = .ok (.iadd, 1) := D_96 W_code_256 16 rfl rfl
theorem d_code_273 : decode code 273 = .ok (.iaload, 1) := D_46 W_code_256 17 rfl rfl
theorem d_code_274 : decode code 274 = .ok (.invokevirtual 27, 3) := D_182 W_code_256 18 rfl rfl rfl
theorem d_code_277 : decode code 277 = .ok (.pop, 1) := D_87 W_code_256 21 rfl rfl
theorem d_code_278 : decode code 278 = .ok (.aload_n 2, 1) := D_44 W_code_256 22 rfl rfl
theorem d_code_279 : decode code 279 = .ok (.aload_n 0, 1) := D_42 W_code_256 23 rfl rfl
theorem d_code_280 : decode code 280 = .ok (.iload_n 3, 1) := D_29 W_code_256 24 rfl rfl
theorem d_code_281 : decode code 281 = .ok (.iconst 1, 1) := D_4 W_code_256 25 rfl rfl
theorem d_code_282 : decode code 282 = .ok (.iadd, 1) := D_96 W_code_256 26 rfl rfl
theorem d_code_283 : decode code 283 = .ok (.iaload, 1) := D_46 W_code_256 27 rfl rfl
theorem d_code_284 : decode code 284 = .ok (.aload_n 0, 1) := D_42 W_code_256 28 rfl rfl
theorem d_code_285 : decode code 285 = .ok (.iload_n 3, 1) := D_29 W_code_256 29 rfl rfl
theorem d_code_286 : decode code 286 = .ok (.iconst 2, 1) := D_5 W_code_256 30 rfl rfl
theorem d_code_287 : decode code 287 = .ok (.iadd, 1) := D_96 W_code_256 31 rfl rfl
theorem W_code_288 : chW code 288 [46, 182, 0, 31, 87, 167, 3, 130, 43, 42, 29, 4, 96, 46, 42, 29, 5, 96, 46, 42, 29, 6, 96, 46, 182, 0, 32, 87, 44, 42, 29, 4, 96, 46, 42, 29] := chW_of (by decide +kernel)
theorem d_code_288 : decode code 288 = .ok (.iaload, 1) := D_46 W_code_288 0 rfl rfl
theorem d_code_289 : decode code 289 = .ok (.invokevirtual 31, 3) := D_182 W_code_288 1 rfl rfl rfl
theorem d_code_292 : decode code 292 = .ok (.pop, 1) := D_87 W_code_288 4 rfl rfl
theorem d_code_293 : decode code 293 = .ok (.goto 898, 3) := D_167 W_code_288 5 rfl rfl rfl
theorem d_code_296 : decode code 296 = .ok (.aload_n 1, 1) := D_43 W_code_288 8 rfl rfl
theorem d_code_297 : decode code 297 = .ok (.aload_n 0, 1) := D_42 W_code_288 9 rfl rfl
theorem d_code_298 : decode code 298 = .ok (.iload_n 3, 1) := D_29 W_code_288 10 rfl rfl
theorem d_code_299 : decode code 299 = .ok (.iconst 1, 1) := D_4 W_code_288 11 rfl rfl
theorem d_code_300 : decode code 300 = .ok (.iadd, 1) := D_96 W_code_288 12 rfl rfl
theorem d_code_301 : decode code 301 = .ok (.iaload, 1) := D_46 W_code_288 13 rfl rfl
theorem d_code_302 : decode code 302 = .ok (.aload_n 0, 1) := D_42 W_code_288 14 rfl rfl
theorem d_code_303 : decode code 303 = .ok (.iload_n 3, 1) := D_29 W_code_288 15 rfl rfl
theorem d_code_304 : decode code 304 = .ok (.iconst 2, 1) := D_5 W_code_288 16 rfl rfl
theorem d_code_305 : decode code 305 = .ok (.iadd, 1) := D_96 W_code_288 17 rfl rfl
theorem d_code_306 : decode code 306 = .ok (.iaload, 1) := D_46 W_code_288 18 rfl rfl
theorem d_code_307 : decode code 307 = .ok (.aload_n 0, 1) := D_42 W_code_288 19 rfl rfl
theorem d_code_308 : decode code 308 = .ok (.iload_n 3, 1) := D_29 W_code_288 20 rfl rfl
theorem d_code_309 : decode code 309 = .ok (.iconst 3, 1) := D_6 W_code_288 21 rfl rfl
theorem d_code_310 : decode code 310 = .ok (.iadd, 1) := D_96 W_code_288 22 rfl rfl
theorem d_code_311 : decode code 311 = .ok (.iaload, 1) := D_46 W_code_288 23 rfl rfl
theorem d_code_312 : decode code 312 = .ok (.invokevirtual 32, 3) := D_182 W_code_288 24 rfl rfl rfl
theorem d_code_315 : decode code 315 = .ok (.pop, 1) := D_87 W_code_288 27 rfl rfl
theorem d_code_316 : decode code 316 = .ok (.aload_n 2, 1) := D_44 W_code_288 28 rfl rfl
theorem d_code_317 : decode code 317 = .ok (.aload_n 0, 1) := D_42 W_code_288 29 rfl rfl
theorem d_code_318 : decode code 318 = .ok (.iload_n 3, 1) := D_29 W_code_288 30 rfl rfl
theorem d_code_319 : decode code 319 = .ok (.iconst 1, 1) := D_4 W_code_288 31 rfl rfl
theorem W_code_320 : chW code 320 [96, 46, 42, 29, 5, 96, 46, 42, 29, 6, 96, 46, 182, 0, 36, 87, 167, 3, 87, 43, 42, 29, 4, 96, 46, 42, 29, 5, 96, 46, 182, 0, 37, 88, 44, 42] := chW_of (by decide +kernel)
theorem d_code_320 : decode code 320 = .ok (.iadd, 1) := D_96 W_code_320 0 rfl rfl
theorem d_code_321 : decode code 321 = .ok (.iaload, 1) := D_46 W_code_320 1 rfl rfl
theorem d_code_322 : decode code 322 = .ok (.aload_n 0, 1) := D_42 W_code_320 2 rfl rfl
theorem d_code_323 : decode code 323 = .ok (.iload_n 3, 1) := D_29 W_code_320 3 rfl rfl
theorem d_code_324 : decode code 324 = .ok (.iconst 2, 1) := D_5 W_code_320 4 rfl rfl
theorem d_code_325 : decode code 325 = .ok (.iadd, 1) := D_96 W_code_320 5 rfl rfl
theorem d_code_326 : decode code 326 = .ok (.iaload, 1) := D_46 W_code_320 6 rfl rfl
theorem d_code_327 : decode code 327 = .ok (.aload_n 0, 1) := D_42 W_code_320 7 rfl rfl
theorem d_code_328 : decode code 328 = .ok (.iload_n 3, 1) := D_29 W_code_320 8 rfl rfl
theorem d_code_329 : decode code 329 = .ok (.iconst 3, 1) := D_6 W_code_320 9 rfl rfl
theorem d_code_330 : decode code 330 = .ok (.iadd, 1) := D_96 W_code_320 10 rfl rfl
theorem d_code_331 : decode code 331 = .ok (.iaload, 1) := D_46 W_code_320 11 rfl rfl
theorem d_code_332 : decode code 332 = .ok (.invokevirtual 36, 3) := D_182 W_code_320 12 rfl rfl rfl
theorem d_code_335 : decode code 335 = .ok (.pop, 1) := D_87 W_code_320 15 rfl rfl
theorem d_code_336 : decode code 336 = .ok (.goto 855, 3) := D_167 W_code_320 16 rfl rfl rfl
theorem d_code_339 : decode code 339 = .ok (.aload_n 1, 1) := D_43 W_code_320 19 rfl rfl
theorem d_code_340 : decode code 340 = .ok (.aload_n 0, 1) := D_42 W_code_320 20 rfl rfl
theorem d_code_341 : decode code 341 = .ok (.iload_n 3, 1) := D_29 W_code_320 21 rfl rfl
theorem d_code_342 : decode code 342 = .ok (.iconst 1, 1) := D_4 W_code_320 22 rfl rfl
theorem d_code_343 : decode code 343 = .ok (.iadd, 1) := D_96 W_code_320 23 rfl rfl
theorem d_code_344 : decode code 344 = .ok (.iaload, 1) := D_46 W_code_320 24 rfl rfl
theorem d_code_345 : decode code 345 = .ok (.aload_n 0, 1) := D_42 W_code_320 25 rfl rfl
theorem d_code_346 : decode code 346 = .ok (.iload_n 3, 1) := D_29 W_code_320 26 rfl rfl
theorem d_code_347 : decode code 347 = .ok (.iconst 2, 1) := D_5 W_code_320 27 rfl rfl
theorem d_code_348 : decode code 348 = .ok (.iadd, 1) := D_96 W_code_320 28 rfl rfl
theorem d_code_349 : decode code 349 = .ok (.iaload, 1) := D_46 W_code_320 29 rfl rfl
theorem d_code_350 : decode code 350 = .ok (.invokevirtual 37, 3) := D_182 W_code_320 30 rfl rfl rfl
theorem W_code_352 : chW code 352 [37, 88, 44, 42, 29, 4, 96, 46, 42, 29, 5, 96, 46, 182, 0, 41, 88, 167, 3, 54, 43, 42, 29, 4, 96, 46, 42, 29, 5, 96, 46, 42, 29, 6, 96, 46] := chW_of (by decide +kernel)
theorem d_code_353 : decode code 353 = .ok (.pop2, 1) := D_88 W_code_352 1 rfl rfl
theorem d_code_354 : decode code 354 = .ok (.aload_n 2, 1) := D_44 W_code_352 2 rfl rfl
theorem d_code_355 : decode code 355 = .ok (.aload_n 0, 1) := D_42 W_code_352 3 rfl rfl
theorem d_code_356 : decode code 356 = .ok (.iload_n 3, 1) := D_29 W_code_352 4 rfl rfl
theorem d_code_357 : decode code 357 = .ok (.iconst 1, 1) := D_4 W_code_352 5 rfl rfl
theorem d_code_358 : decode code 358 = .ok (.iadd, 1) := D_96 W_code_352 6 rfl rfl
theorem d_code_359 : decode code 359 = .ok (.iaload, 1) := D_46 W_code_352 7 rfl rfl
theorem d_code_360 : decode code 360 = .ok (.aload_n 0, 1) := D_42 W_code_352 8 rfl rfl
theorem d_code_361 : decode code 361 = .ok (.iload_n 3, 1) := D_29 W_code_352 9 rfl rfl
theorem d_code_362 : decode code 362 = .ok (.iconst 2, 1) := D_5 W_code_352 10 rfl rfl
theorem d_code_363 : decode code 363 = .ok (.iadd, 1) := D_96 W_code_352 11 rfl rfl
theorem d_code_364 : decode code 364 = .ok (.iaload, 1) := D_46 W_code_352 12 rfl rfl
theorem d_code_365 : decode code 365 = .ok (.invokevirtual 41, 3) := D_182 W_code_352 13 rfl rfl rfl
theorem d_code_368 : decode code 368 = .ok (.pop2, 1) := D_88 W_code_352 16 rfl rfl
theorem d_code_369 : decode code 369 = .ok (.goto 822, 3) := D_167 W_code_352 17 rfl rfl rfl
theorem d_code_372 : decode code 372 = .ok (.aload_n 1, 1) := D_43 W_code_352 20 rfl rfl
theorem d_code_373 : decode code 373 = .ok (.aload_n 0, 1) := D_42 W_code_352 21 rfl rfl
theorem d_code_374 : decode code 374 = .ok (.iload_n 3, 1) := D_29 W_code_352 22 rfl rfl
theorem d_code_375 : decode code 375 = .ok (.iconst 1, 1) := D_4 W_code_352 23 rfl rfl
theorem d_code_376 : decode code 376 = .ok (.iadd, 1) := D_96 W_code_352 24 rfl rfl
theorem d_code_377 : decode code 377 = .ok (.iaload, 1) := D_46 W_code_352 25 rfl rfl
theorem d_code_378 : decode code 378 = .ok (.aload_n 0, 1) := D_42 W_code_352 26 rfl rfl
theorem d_code_379 : decode code 379 = .ok (.iload_n 3, 1) := D_29 W_code_352 27 rfl rfl
theorem d_code_380 : decode code 380 = .ok (.iconst 2, 1) := D_5 W_code_352 28 rfl rfl
theorem d_code_381 : decode code 381 = .ok (.iadd, 1) := D_96 W_code_352 29 rfl rfl
theorem d_code_382 : decode code 382 = .ok (.iaload, 1) := D_46 W_code_352 30 rfl rfl
theorem d_code_383 : decode code 383 = .ok (.aload_n 0, 1) := D_42 W_code_352 31 rfl rfl
theorem W_code_384 : chW code 384 [29, 6, 96, 46, 42, 29, 7, 96, 46, 182, 0, 42, 88, 44, 42, 29, 4, 96, 46, 42, 29, 5, 96, 46, 42, 29, 6, 96, 46, 42, 29, 7, 96, 46, 182, 0] := chW_of (by decide +kernel)
theorem d_code_384 : decode code 384 = .ok (.iload_n 3, 1) := D_29 W_code_384 0 rfl rfl
theorem d_code_385 : decode code 385 = .ok (.iconst 3, 1) := D_6 W_code_384 1 rfl rfl
theorem d_code_386 : decode code 386 = .ok (.iadd, 1) := D_96 W_code_384 2 rfl rfl
theorem d_code_387 : decode code 387 = .ok (.iaload, 1) := D_46 W_code_384 3 rfl rfl
theorem d_code_388 : decode code 388 = .ok (.aload_n 0, 1) := D_42 W_code_384 4 rfl rfl
theorem d_code_389 : decode code 389 = .ok (.iload_n 3, 1) := D_29 W_code_384 5 rfl rfl
theorem d_code_390 : decode code 390 = .ok (.iconst 4, 1) := D_7 W_code_384 6 rfl rfl
theorem d_code_391 : decode code 391 = .ok (.iadd, 1) := D_96 W_code_384 7 rfl rfl
theorem d_code_392 : decode code 392 = .ok (.iaload, 1) := D_46 W_code_384 8 rfl rfl
theorem d_code_393 : decode code 393 = .ok (.invokevirtual 42, 3) := D_182 W_code_384 9 rfl rfl rfl
theorem d_code_396 : decode code 396 = .ok (.pop2, 1) := D_88 W_code_384 12 rfl rfl
theorem d_code_397 : decode code 397 = .ok (.aload_n 2, 1) := D_44 W_code_384 13 rfl rfl
theorem d_code_398 : decode code 398 = .ok (.aload_n 0, 1) := D_42 W_code_384 14 rfl rfl
theorem d_code_399 : decode code 399 = .ok (.iload_n 3, 1) := D_29 W_code_384 15 rfl rfl
theorem d_code_400 : decode code 400 = .ok (.iconst 1, 1) := D_4 W_code_384 16 rfl rfl
theorem d_code_401 : decode code 401 = .ok (.iadd, 1) := D_96 W_code_384 17 rfl rfl
theorem d_code_402 : decode code 402 = .ok (.iaload, 1) := D_46 W_code_384 18 rfl rfl
theorem d_code_403 : decode code 403 = .ok (.aload_n 0, 1) := D_42 W_code_384 19 rfl rfl
theorem d_code_404 : decode code 404 = .ok (.iload_n 3, 1) := D_29 W_code_384 20 rfl rfl
theorem d_code_405 : decode code 405 = .ok (.iconst 2, 1) := D_5 W_code_384 21 rfl rfl
theorem d_code_406 : decode code 406 = .ok (.iadd, 1) := D_96 W_code_384 22 rfl rfl
theorem d_code_407 : decode code 407 = .ok (.iaload, 1) := D_46 W_code_384 23 rfl rfl
theorem d_code_408 : decode code 408 = .ok (.aload_n 0, 1) := D_42 W_code_384 24 rfl rfl
theorem d_code_409 : decode code 409 = .ok (.iload_n 3, 1) := D_29 W_code_384 25 rfl rfl
theorem d_code_410 : decode code 410 = .ok (.iconst 3, 1) := D_6 W_code_384 26 rfl rfl
theorem d_code_411 : decode code 411 = .ok (.iadd, 1) := D_96 W_code_384 27 rfl rfl
theorem d_code_412 : decode code 412 = .ok (.iaload, 1) := D_46 W_code_384 28 rfl rfl
theorem d_code_413 : decode code 413 = .ok (.aload_n 0, 1) := D_42 W_code_384 29 rfl rfl
theorem d_code_414 : decode code 414 = .ok (.iload_n 3, 1) := D_29 W_code_384 30 rfl rfl
theorem d_code_415 : decode code 415 = .ok (.iconst 4, 1) := D_7 W_code_384 31 rfl rfl
theorem W_code_416 : chW code 416 [96, 46, 182, 0, 46, 88, 167, 3, 1, 43, 42, 29, 4, 96, 46, 42, 29, 5, 96, 46, 42, 29, 6, 96, 46, 42, 29, 7, 96, 46, 42, 29, 8, 96, 46, 182] := chW_of (by decide +kernel)
theorem d_code_416 : decode code 416 = .ok (.iadd, 1) := D_96 W_code_416 0 rfl rfl
theorem d_code_417 : decode code 417 = .ok (.iaload, 1) := D_46 W_code_416 1 rfl rfl
theorem d_code_418 : decode code 418 = .ok (.invokevirtual 46, 3) := D_182 W_code_416 2 rfl rfl rfl
theorem d_code_421 : decode code 421 = .ok (.pop2, 1) := D_88 W_code_416 5 rfl rfl
theorem d_code_422 : decode code 422 = .ok (.goto 769, 3) := D_167 W_code_416 6 rfl rfl rfl
theorem d_code_425 : decode code 425 = .ok (.aload_n 1, 1) := D_43 W_code_416 9 rfl rfl
theorem d_code_426 : decode code 426 = .ok (.aload_n 0, 1) := D_42 W_code_416 10 rfl rfl
theorem d_code_427 : decode code 427 = .ok (.iload_n 3, 1) := D_29 W_code_416 11 rfl rfl
theorem d_code_428 : decode code 428 = .ok (.iconst 1, 1) := D_4 W_code_416 12 rfl rfl
theorem d_code_429 : decode code 429 = .ok (.iadd, 1) := D_96 W_code_416 13 rfl rfl
theorem d_code_430 : decode code 430 = .ok (.iaload, 1) := D_46 W_code_416 14 rfl rfl
theorem d_code_431 : decode code 431 = .ok (.aload_n 0, 1) := D_42 W_code_416 15 rfl rfl
theorem d_code_432 : decode code 432 = .ok (.iload_n 3, 1) := D_29 W_code_416 16 rfl rfl
theorem d_code_433 : decode code 433 = .ok (.iconst 2, 1) := D_5 W_code_416 17 rfl rfl
theorem d_code_434 : decode code 434 = .ok (.iadd, 1) := D_96 W_code_416 18 rfl rfl
theorem d_code_435 : decode code 435 = .ok (.iaload, 1) := D_46 W_code_416 19 rfl rfl
theorem d_code_436 : decode code 436 = .ok (.aload_n 0, 1) := D_42 W_code_416 20 rfl rfl
theorem d_code_437 : decode code 437 = .ok (.iload_n 3, 1) := D_29 W_code_416 21 rfl rfl
theorem d_code_438 : decode code 438 = .ok (.iconst 3, 1) := D_6 W_code_416 22 rfl rfl
theorem d_code_439 : decode code 439 = .ok (.iadd, 1) := D_96 W_code_416 23 rfl rfl
theorem d_code_440 : decode code 440 = .ok (.iaload, 1) := D_46 W_code_416 24 rfl rfl
theorem d_code_441 : decode code 441 = .ok (.aload_n 0, 1) := D_42 W_code_416 25 rfl rfl
theorem d_code_442 : decode code 442 = .ok (.iload_n 3, 1) := D_29 W_code_416 26 rfl rfl
theorem d_code_443 : decode code 443 = .ok (.iconst 4, 1) := D_7 W_code_416 27 rfl rfl
theorem d_code_444 : decode code 444 = .ok (.iadd, 1) := D_96 W_code_416 28 rfl rfl
theorem d_code_445 : decode code 445 = .ok (.iaload, 1) := D_46 W_code_416 29 rfl rfl
theorem d_code_446 : decode code 446 = .ok (.aload_n 0, 1) := D_42 W_code_416 30 rfl rfl
theorem d_code_447 : decode code 447 = .ok (.iload_n 3, 1) := D_29 W_code_416 31 rfl rfl
theorem W_code_448 : chW code 448 [8, 96, 46, 182, 0, 47, 87, 44, 42, 29, 4, 96, 46, 42, 29, 5, 96, 46, 42, 29, 6, 96, 46, 42, 29, 7, 96, 46, 42, 29, 8, 96, 46, 182, 0, 51] := chW_of (by decide +kernel)
theorem d_code_448 : decode code 448 = .ok (.iconst 5, 1) := D_8 W_code_448 0 rfl rfl
theorem d_code_449 : decode code 449 = .ok (.iadd, 1) := D_96 W_code_448 1 rfl rfl
theorem d_code_450 : decode code 450 = .ok (.iaload, 1) := D_46 W_code_448 2 rfl rfl
theorem d_code_451 : decode code 451 = .ok (.invokevirtual 47, 3) := D_182 W_code_448 3 rfl rfl rfl
theorem d_code_454 : decode code 454 = .ok (.pop, 1) := D_87 W_code_448 6 rfl rfl
theorem d_code_455 : decode code 455 = .ok (.aload_n 2, 1) := D_44 W_code_448 7 rfl rfl
theorem d_code_456 : decode code 456 = .ok (.aload_n 0, 1) := D_42 W_code_448 8 rfl rfl
theorem d_code_457 : decode code 457 = .ok (.iload_n 3, 1) := D_29 W_code_448 9 rfl rfl
theorem d_code_458 : decode code 458 = .ok (.iconst 1, 1) := D_4 W_code_448 10 rfl rfl
theorem d_code_459 : decode code 459 = .ok (.iadd, 1) := D_96 W_code_448 11 rfl rfl
theorem d_code_460 : decode code 460 = .ok (.iaload, 1) := D_46 W_code_448 12 rfl rfl
theorem d_code_461 : decode code 461 = .ok (.aload_n 0, 1) := D_42 W_code_448 13 rfl rfl
theorem d_code_462 : decode code 462 = .ok (.iload_n 3, 1) := D_29 W_code_448 14 rfl rfl
theorem d_code_463 : decode code 463 = .ok (.iconst 2, 1) := D_5 W_code_448 15 rfl rfl
theorem d_code_464 : decode code 464 = .ok (.iadd, 1) := D_96 W_code_448 16 rfl rfl
theorem d_code_465 : decode code 465 = .ok (.iaload, 1) := D_46 W_code_448 17 rfl rfl
theorem d_code_466 : decode code 466 = .ok (.aload_n 0, 1) := D_42 W_code_448 18 rfl rfl
theorem d_code_467 : decode code 467 = .ok (.iload_n 3, 1) := D_29 W_code_448 19 rfl rfl
theorem d_code_468 : decode code 468 = .ok (.iconst 3, 1) := D_6 W_code_448 20 rfl rfl
theorem d_code_469 : decode code 469 = .ok (.iadd, 1) := D_96 W_code_448 21 rfl rfl
theorem d_code_470 : decode code 470 = .ok (.iaload, 1) := D_46 W_code_448 22 rfl rfl
theorem d_code_471 : decode code 471 = .ok (.aload_n 0, 1) := D_42 W_code_448 23 rfl rfl
theorem d_code_472 : decode code 472 = .ok (.iload_n 3, 1) := D_29 W_code_448 24 rfl rfl
theorem d_code_473 : decode code 473 = .ok (.iconst 4, 1) := D_7 W_code_448 25 rfl rfl
theorem d_code_474 : decode code 474 = .ok (.iadd, 1) := D_96 W_code_448 26 rfl rfl
theorem d_code_475 : decode code 475 = .ok (.iaload, 1) := D_46 W_code_448 27 rfl rfl
theorem d_code_476 : decode code 476 = .ok (.aload_n 0, 1) := D_42 W_code_448 28 rfl rfl
theorem d_code_477 : decode code 477 = .ok (.iload_n 3, 1) := D_29 W_code_448 29 rfl rfl
theorem d_code_478 : decode code 478 = .ok (.iconst 5, 1) := D_8 W_code_448 30 rfl rfl
theorem d_code_479 : decode code 479 = .ok (.iadd, 1) := D_96 W_code_448 31 rfl rfl
theorem W_code_480 : chW code 480 [46, 182, 0, 51, 87, 167, 2, 194, 43, 42, 29, 4, 96, 46, 42, 29, 5, 96, 46, 42, 29, 6, 96, 46, 42, 29, 7, 96, 46, 182, 0, 52, 88, 44, 42, 29] := chW_of (by decide +kernel)
theorem d_code_480 : decode code 480 = .ok (.iaload, 1) := D_46 W_code_480 0 rfl rfl
theorem d_code_481 : decode code 481 = .ok (.invokevirtual 51, 3) := D_182 W_code_480 1 rfl rfl rfl
theorem d_code_484 : decode code 484 = .ok (.pop, 1) := D_87 W_code_480 4 rfl rfl
theorem d_code_485 : decode code 485 = .ok (.goto 706, 3) := D_167 W_code_480 5 rfl rfl rfl
theorem d_code_488 : decode code 488 = .ok (.aload_n 1, 1) := D_43 W_code_480 8 rfl rfl
theorem d_code_489 : decode code 489 = .ok (.aload_n 0, 1) := D_42 W_code_480 9 rfl rfl
theorem d_code_490 : decode code 490 = .ok (.iload_n 3, 1) := D_29 W_code_480 10 rfl rfl
theorem d_code_491 : decode code 491 = .ok (.iconst 1, 1) := D_4 W_code_480 11 rfl rfl
theorem d_code_492 : decode code 492 = .ok (.iadd, 1) := D_96 W_code_480 12 rfl rfl
theorem d_code_493 : decode code 493 = .ok (.iaload, 1) := D_46 W_code_480 13 rfl rfl
theorem d_code_494 : decode code 494 = .ok (.aload_n 0, 1) := D_42 W_code_480 14 rfl rfl
theorem d_code_495 : decode code 495 = .ok (.iload_n 3, 1) := D_29 W_code_480 15 rfl rfl
theorem d_code_496 : decode code 496 = .ok (.iconst 2, 1) := D_5 W_code_480 16 rfl rfl
theorem d_code_497 : decode code 497 = .ok (.iadd, 1) := D_96 W_code_480 17 rfl rfl
theorem d_code_498 : decode code 498 = .ok (.iaload, 1) := D_46 W_code_480 18 rfl rfl
theorem d_code_499 : decode code 499 = .ok (.aload_n 0, 1) := D_42 W_code_480 19 rfl rfl
theorem d_code_500 : decode code 500 = .ok (.iload_n 3, 1) := D_29 W_code_480 20 rfl rfl
theorem d_code_501 : decode code 501 = .ok (.iconst 3, 1) := D_6 W_code_480 21 rfl rfl
theorem d_code_502 : decode code 502 = .ok (.iadd, 1) := D_96 W_code_480 22 rfl rfl
theorem d_code_503 : decode code 503 = .ok (.iaload, 1) := D_46 W_code_480 23 rfl rfl
theorem d_code_504 : decode code 504 = .ok (.aload_n 0, 1) := D_42 W_code_480 24 rfl rfl
theorem d_code_505 : decode code 505 = .ok (.iload_n 3, 1) := D_29 W_code_480 25 rfl rfl
theorem d_code_506 : decode code 506 = .ok (.iconst 4, 1) := D_7 W_code_480 26 rfl rfl
theorem d_code_507 : decode code 507 = .ok (.iadd, 1) := D_96 W_code_480 27 rfl rfl
theorem d_code_508 : decode code 508 = .ok (.iaload, 1) := D_46 W_code_480 28 rfl rfl
theorem d_code_509 : decode code 509 = .ok (.invokevirtual 52, 3) := D_182 W_code_480 29 rfl rfl rfl
theorem W_code_512 : chW code 512 [88, 44, 42, 29, 4, 96, 46, 42, 29, 5, 96, 46, 42, 29, 6, 96, 46, 42, 29, 7, 96, 46, 182, 0, 55, 88, 167, 2, 141, 43, 42, 29, 4, 96, 46, 42] := chW_of (by decide +kernel)
theorem d_code_512 : decode code 512 = .ok (.pop2, 1) := D_88 W_code_512 0 rfl rfl
theorem d_code_513 : decode code 513 = .ok (.aload_n 2, 1) := D_44 W_code_512 1 rfl rfl
theorem d_code_514 : decode code 514 = .ok (.aload_n 0, 1) := D_42 W_code_512 2 rfl rfl
theorem d_code_515 : decode code 515 = .ok (.iload_n 3, 1) := D_29 W_code_512 3 rfl rfl
theorem d_code_516 : decode code 516 = .ok (.iconst 1, 1) := D_4 W_code_512 4 rfl rfl
theorem d_code_517 : decode code 517 = .ok (.iadd, 1) := D_96 W_code_512 5 rfl rfl
theorem d_code_518 : decode code 518 = .ok (.iaload, 1) := D_46 W_code_512 6 rfl rfl
theorem d_code_519 : decode code 519 = .ok (.aload_n 0, 1) := D_42 W_code_512 7 rfl rfl
theorem d_code_520 : decode code 520 = .ok (.iload_n 3, 1) := D_29 W_code_512 8 rfl rfl
theorem d_code_521 : decode code 521 = .ok (.iconst 2, 1) := D_5 W_code_512 9 rfl rfl
theorem d_code_522 : decode code 522 = .ok (.iadd, 1) := D_96 W_code_512 10 rfl rfl
theorem d_code_523 : decode code 523 = .ok (.iaload, 1) := D_46 W_code_512 11 rfl rfl
theorem d_code_524 : decode code 524 = .ok (.aload_n 0, 1) := D_42 W_code_512 12 rfl rfl
theorem d_code_525 : decode code 525 = .ok (.iload_n 3, 1) := D_29 W_code_512 13 rfl rfl
theorem d_code_526 : decode code 526 = .ok (.iconst 3, 1) := D_6 W_code_512 14 rfl rfl
theorem d_code_527 : decode code 527 = .ok (.iadd, 1) := D_96 W_code_512 15 rfl rfl
theorem d_code_528 : decode code 528 = .ok (.iaload, 1) := D_46 W_code_512 16 rfl rfl
theorem d_code_529 : decode code 529 = .ok (.aload_n 0, 1) := D_42 W_code_512 17 rfl rfl
theorem d_code_530 : decode code 530 = .ok (.iload_n 3, 1) := D_29 W_code_512 18 rfl rfl
theorem d_code_531 : decode code 531 = .ok (.iconst 4, 1) := D_7 W_code_512 19 rfl rfl
theorem d_code_532 : decode code 532 = .ok (.iadd, 1) := D_96 W_code_512 20 rfl rfl
theorem d_code_533 : decode code 533 = .ok (.iaload, 1) := D_46 W_code_512 21 rfl rfl
theorem d_code_534 : decode code 534 = .ok (.invokevirtual 55, 3) := D_182 W_code_512 22 rfl rfl rfl
theorem d_code_537 : decode code 537 = .ok (.pop2, 1) := D_88 W_code_512 25 rfl rfl
theorem d_code_538 : decode code 538 = .ok (.goto 653, 3) := D_167 W_code_512 26 rfl rfl rfl
theorem d_code_541 : decode code 541 = .ok (.aload_n 1, 1) := D_43 W_code_512 29 rfl rfl
theorem d_code_542 : decode code 542 = .ok (.aload_n 0, 1) := D_42 W_code_512 30 rfl rfl
theorem d_code_543 : decode code 543 = .ok (.iload_n 3, 1) := D_29 W_code_512 31 rfl rfl
theorem W_code_544 : chW code 544 [4, 96, 46, 42, 29, 5, 96, 46, 182, 0, 56, 87, 44, 42, 29, 4, 96, 46, 42, 29, 5, 96, 46, 182, 0, 59, 87, 167, 2, 108, 43, 42, 29, 4, 96, 46] := chW_of (by decide +kernel)
theorem d_code_544 : decode code 544 = .ok (.iconst 1, 1) := D_4 W_code_544 0 rfl rfl
theorem d_code_545 : decode code 545 = .ok (.iadd, 1) := D_96 W_code_544 1 rfl rfl
theorem d_code_546 : decode code 546 = .ok (.iaload, 1) := D_46 W_code_544 2 rfl rfl
theorem d_code_547 : decode code 547 = .ok (.aload_n 0, 1) := D_42 W_code_544 3 rfl rfl
theorem d_code_548 : decode code 548 = .ok (.iload_n 3, 1) := D_29 W_code_544 4 rfl rfl
theorem d_code_549 : decode code 549 = .ok (.iconst 2, 1) := D_5 W_code_544 5 rfl rfl
theorem d_code_550 : decode code 550 = .ok (.iadd, 1) := D_96 W_code_544 6 rfl rfl
theorem d_code_551 : decode code 551 = .ok (.iaload, 1) := D_46 W_code_544 7 rfl rfl
theorem d_code_552 : decode code 552 = .ok (.invokevirtual 56, 3) := D_182 W_code_544 8 rfl rfl rfl
theorem d_code_555 : decode code 555 = .ok (.pop, 1) := D_87 W_code_544 11 rfl rfl
theorem d_code_556 : decode code 556 = .ok (.aload_n 2, 1) := D_44 W_code_544 12 rfl rfl
theorem d_code_557 : decode code 557 = .ok (.aload_n 0, 1) := D_42 W_code_544 13 rfl rfl
theorem d_code_558 : decode code 558 = .ok (.iload_n 3, 1) := D_29 W_code_544 14 rfl rfl
theorem d_code_559 : decode code 559 = .ok (.iconst 1, 1) := D_4 W_code_544 15 rfl rfl
theorem d_code_560 : decode code 560 = .ok (.iadd, 1) := D_96 W_code_544 16 rfl rfl
theorem d_code_561 : decode code 561 = .ok (.iaload, 1) := D_46 W_code_544 17 rfl rfl
theorem d_code_562 : decode code 562 = .ok (.aload_n 0, 1) := D_42 W_code_544 18 rfl rfl
theorem d_code_563 : decode code 563 = .ok (.iload_n 3, 1) := D_29 W_code_544 19 rfl rfl
theorem d_code_564 : decode code 564 = .ok (.iconst 2, 1) := D_5 W_code_544 20 rfl rfl
theorem d_code_565 : decode code 565 = .ok (.iadd, 1) := D_96 W_code_544 21 rfl rfl
theorem d_code_566 : decode code 566 = .ok (.iaload, 1) := D_46 W_code_544 22 rfl rfl
theorem d_code_567 : decode code 567 = .ok (.invokevirtual 59, 3) := D_182 W_code_544 23 rfl rfl rfl
theorem d_code_570 : decode code 570 = .ok (.pop, 1) := D_87 W_code_544 26 rfl rfl
theorem d_code_571 : decode code 571 = .ok (.goto 620, 3) := D_167 W_code_544 27 rfl rfl rfl
theorem d_code_574 : decode code 574 = .ok (.aload_n 1, 1) := D_43 W_code_544 30 rfl rfl
theorem d_code_575 : decode code 575 = .ok (.aload_n 0, 1) := D_42 W_code_544 31 rfl rfl
theorem W_code_576 : chW code 576 [29, 4, 96, 46, 42, 29, 5, 96, 46, 42, 29, 6, 96, 46, 182, 0, 60, 88, 44, 42, 29, 4, 96, 46, 42, 29, 5, 96, 46, 42, 29, 6, 96, 46, 182, 0] := chW_of (by decide +kernel)
theorem d_code_576 : decode code 576 = .ok (.iload_n 3, 1) := D_29 W_code_576 0 rfl rfl
theorem d_code_577 : decode code 577 = .ok (.iconst 1, 1) := D_4 W_code_576 1 rfl rfl
theorem d_code_578 : decode code 578 = .ok (.iadd, 1) := D_96 W_code_576 2 rfl rfl
theorem d_code_579 : decode code 579 = .ok (.iaload, 1) := D_46 W_code_576 3 rfl rfl
theorem d_code_580 : decode code 580 = .ok (.aload_n 0, 1) := D_42 W_code_576 4 rfl rfl
theorem d_code_581 : decode code 581 = .ok (.iload_n 3, 1) := D_29 W_code_576 5 rfl rfl
theorem d_code_582 : decode code 582 = .ok (.iconst 2, 1) := D_5 W_code_576 6 rfl rfl
theorem d_code_583 : decode code 583 = .ok (.iadd, 1) := D_96 W_code_576 7 rfl rfl
theorem d_code_584 : decode code 584 = .ok (.iaload, 1) := D_46 W_code_576 8 rfl rfl
theorem d_code_585 : decode code 585 = .ok (.aload_n 0, 1) := D_42 W_code_576 9 rfl rfl
theorem d_code_586 : decode code 586 = .ok (.iload_n 3, 1) := D_29 W_code_576 10 rfl rfl
theorem d_code_587 : decode code 587 = .ok (.iconst 3, 1) := D_6 W_code_576 11 rfl rfl
theorem d_code_588 : decode code 588 = .ok (.iadd, 1) := D_96 W_code_576 12 rfl rfl
theorem d_code_589 : decode code 589 = .ok (.iaload, 1) := D_46 W_code_576 13 rfl rfl
theorem d_code_590 : decode code 590 = .ok (.invokevirtual 60, 3) := D_182 W_code_576 14 rfl rfl rfl
theorem d_code_593 : decode code 593 = .ok (.pop2, 1) := D_88 W_code_576 17 rfl rfl
theorem d_code_594 : decode code 594 = .ok (.aload_n 2, 1) := D_44 W_code_576 18 rfl rfl
theorem d_code_595 : decode code 595 = .ok (.aload_n 0, 1) := D_42 W_code_576 19 rfl rfl
theorem d_code_596 : decode code 596 = .ok (.iload_n 3, 1) := D_29 W_code_576 20 rfl rfl
theorem d_code_597 : decode code 597 = .ok (.iconst 1, 1) := D_4 W_code_576 21 rfl rfl
theorem d_code_598 : decode code 598 = .ok (.iadd, 1) := D_96 W_code_576 22 rfl rfl
theorem d_code_599 : decode code 599 = .ok (.iaload, 1) := D_46 W_code_576 23 rfl rfl
theorem d_code_600 : decode code 600 = .ok (.aload_n 0, 1) := D_42 W_code_576 24 rfl rfl
theorem d_code_601 : decode code 601 = .ok (.iload_n 3, 1) := D_29 W_code_576 25 rfl rfl
theorem d_code_602 : decode code 602 = .ok (.iconst 2, 1) := D_5 W_code_576 26 rfl rfl
theorem d_code_603 : decode code 603 = .ok (.iadd, 1) := D_96 W_code_576 27 rfl rfl
theorem d_code_604 : decode code 604 = .ok (.iaload, 1) := D_46 W_code_576 28 rfl rfl
theorem d_code_605 : decode code 605 = .ok (.aload_n 0, 1) := D_42 W_code_576 29 rfl rfl
theorem d_code_606 : decode code 606 = .ok (.iload_n 3, 1) := D_29 W_code_576 30 rfl rfl
theorem d_code_607 : decode code 607 = .ok (.iconst 3, 1) := D_6 W_code_576 31 rfl rfl
theorem W_code_608 : chW code 608 [96, 46, 182, 0, 64, 88, 167, 2, 65, 43, 42, 29, 4, 96, 46, 42, 29, 5, 96, 46, 42, 29, 6, 96, 46, 182, 0, 65, 44, 42, 29, 4, 96, 46, 42, 29] := chW_of (by decide +kernel)
theorem d_code_608 : decode code 608 = .ok (.iadd, 1) := D_96 W_code_608 0 rfl rfl
theorem d_code_609 : decode code 609 = .ok (.iaload, 1) := D_46 W_code_608 1 rfl rfl
theorem d_code_610 : decode code 610 = .ok (.invokevirtual 64, 3) := D_182 W_code_608 2 rfl rfl rfl
theorem d_code_613 : decode code 613 = .ok (.pop2, 1) := D_88 W_code_608 5 rfl rfl
theorem d_code_614 : decode code 614 = .ok (.goto 577, 3) := D_167 W_code_608 6 rfl rfl rfl
theorem d_code_617 : decode code 617 = .ok (.aload_n 1, 1) := D_43 W_code_608 9 rfl rfl
theorem d_code_618 : decode code 618 = .ok (.aload_n 0, 1) := D_42 W_code_608 10 rfl rfl
theorem d_code_619 : decode code 619 = .ok (.iload_n 3, 1) := D_29 W_code_608 11 rfl rfl
theorem d_code_620 : decode code 620 = .ok (.iconst 1, 1) := D_4 W_code_608 12 rfl rfl
theorem d_code_621 : decode code 621 = .ok (.iadd, 1) := D_96 W_code_608 13 rfl rfl
theorem d_code_622 : decode code 622 = .ok (.iaload, 1) := D_46 W_code_608 14 rfl rfl
theorem d_code_623 : decode code 623 = .ok (.aload_n 0, 1) := D_42 W_code_608 15 rfl rfl
theorem d_code_624 : decode code 624 = .ok (.iload_n 3, 1) := D_29 W_code_608 16 rfl rfl
theorem d_code_625 : decode code 625 = .ok (.iconst 2, 1) := D_5 W_code_608 17 rfl rfl
theorem d_code_626 : decode code 626 = .ok (.iadd, 1) := D_96 W_code_608 18 rfl rfl
theorem d_code_627 : decode code 627 = .ok (.iaload, 1) := D_46 W_code_608 19 rfl rfl
theorem d_code_628 : decode code 628 = .ok (.aload_n 0, 1) := D_42 W_code_608 20 rfl rfl
theorem d_code_629 : decode code 629 = .ok (.iload_n 3, 1) := D_29 W_code_608 21 rfl rfl
theorem d_code_630 : decode code 630 = .ok (.iconst 3, 1) := D_6 W_code_608 22 rfl rfl
theorem d_code_631 : decode code 631 = .ok (.iadd, 1) := D_96 W_code_608 23 rfl rfl
theorem d_code_632 : decode code 632 = .ok (.iaload, 1) := D_46 W_code_608 24 rfl rfl
theorem d_code_633 : decode code 633 = .ok (.invokevirtual 65, 3) := D_182 W_code_608 25 rfl rfl rfl
theorem d_code_636 : decode code 636 = .ok (.aload_n 2, 1) := D_44 W_code_608 28 rfl rfl
theorem d_code_637 : decode code 637 = .ok (.aload_n 0, 1) := D_42 W_code_608 29 rfl rfl
theorem d_code_638 : decode code 638 = .ok (.iload_n 3, 1) := D_29 W_code_608 30 rfl rfl
theorem d_code_639 : decode code 639 = .ok (.iconst 1, 1) := D_4 W_code_608 31 rfl rfl
theorem W_code_640 : chW code 640 [96, 46, 42, 29, 5, 96, 46, 42, 29, 6, 96, 46, 182, 0, 68, 159, 2, 24, 3, 172, 43, 42, 29, 4, 96, 46, 182, 0, 69, 87, 44, 42, 29, 4, 96, 46] := chW_of (by decide +kernel)
theorem d_code_640 : decode code 640 = .ok (.iadd, 1) := D_96 W_code_640 0 rfl rfl
theorem d_code_641 : decode code 641 = .ok (.iaload, 1) := D_46 W_code_640 1 rfl rfl
theorem d_code_642 : decode code 642 = .ok (.aload_n 0, 1) := D_42 W_code_640 2 rfl rfl
theorem d_code_643 : decode code 643 = .ok (.iload_n 3, 1) := D_29 W_code_640 3 rfl rfl
theorem d_code_644 : decode code 644 = .ok (.iconst 2, 1) := D_5 W_code_640 4 rfl rfl
theorem d_code_645 : decode code 645 = .ok (.iadd, 1) := D_96 W_code_640 5 rfl rfl
theorem d_code_646 : decode code 646 = .ok (.iaload, 1) := D_46 W_code_640 6 rfl rfl
theorem d_code_647 : decode code 647 = .ok (.aload_n 0, 1) := D_42 W_code_640 7 rfl rfl
theorem d_code_648 : decode code 648 = .ok (.iload_n 3, 1) := D_29 W_code_640 8 rfl rfl
theorem d_code_649 : decode code 649 = .ok (.iconst 3, 1) := D_6 W_code_640 9 rfl rfl
theorem d_code_650 : decode code 650 = .ok (.iadd, 1) := D_96 W_code_640 10 rfl rfl
theorem d_code_651 : decode code 651 = .ok (.iaload, 1) := D_46 W_code_640 11 rfl rfl
theorem d_code_652 : decode code 652 = .ok (.invokevirtual 68, 3) := D_182 W_code_640 12 rfl rfl rfl
theorem d_code_655 : decode code 655 = .ok (.if_icmp .eq 536, 3) := D_159 W_code_640 15 rfl rfl rfl
theorem d_code_660 : decode code 660 = .ok (.aload_n 1, 1) := D_43 W_code_640 20 rfl rfl
theorem d_code_661 : decode code 661 = .ok (.aload_n 0, 1) := D_42 W_code_640 21 rfl rfl
theorem d_code_662 : decode code 662 = .ok (.iload_n 3, 1) := D_29 W_code_640 22 rfl rfl
theorem d_code_663 : decode code 663 = .ok (.iconst 1, 1) := D_4 W_code_640 23 rfl rfl
theorem d_code_664 : decode code 664 = .ok (.iadd, 1) := D_96 W_code_640 24 rfl rfl
theorem d_code_665 : decode code 665 = .ok (.iaload, 1) := D_46 W_code_640 25 rfl rfl
theorem d_code_666 : decode code 666 = .ok (.invokevirtual 69, 3) := D_182 W_code_640 26 rfl rfl rfl
theorem d_code_669 : decode code 669 = .ok (.pop, 1) := D_87 W_code_640 29 rfl rfl
theorem d_code_670 : decode code 670 = .ok (.aload_n 2, 1) := D_44 W_code_640 30 rfl rfl
theorem d_code_671 : decode code 671 = .ok (.aload_n 0, 1) := D_42 W_code_640 31 rfl rfl
theorem W_code_672 : chW code 672 [29, 4, 96, 46, 182, 0, 72, 87, 167, 1, 255, 43, 42, 29, 4, 96, 46, 42, 29, 5, 96, 46, 42, 29, 6, 96, 46, 182, 0, 73, 87, 44, 42, 29, 4, 96] := chW_of (by decide +kernel)
theorem d_code_672 : decode code 672 = .ok (.iload_n 3, 1) := D_29 W_code_672 0 rfl rfl
theorem d_code_673 : decode code 673 = .ok (.iconst 1, 1) := D_4 W_code_672 1 rfl rfl
theorem d_code_674 : decode code 674 = .ok (.iadd, 1) := D_96 W_code_672 2 rfl rfl
theorem d_code_675 : decode code 675 = .ok (.iaload, 1) := D_46 W_code_672 3 rfl rfl
theorem d_code_676 : decode code 676 = .ok (.invokevirtual 72, 3) := D_182 W_code_672 4 rfl rfl rfl
theorem d_code_679 : decode code 679 = .ok (.pop, 1) := D_87 W_code_672 7 rfl rfl
theorem d_code_680 : decode code 680 = .ok (.goto 511, 3) := D_167 W_code_672 8 rfl rfl rfl
theorem d_code_683 : decode code 683 = .ok (.aload_n 1, 1) := D_43 W_code_672 11 rfl rfl
theorem d_code_684 : decode code 684 = .ok (.aload_n 0, 1) := D_42 W_code_672 12 rfl rfl
theorem d_code_685 : decode code 685 = .ok (.iload_n 3, 1) := D_29 W_code_672 13 rfl rfl
theorem d_code_686 : decode code 686 = .ok (.iconst 1, 1) := D_4 W_code_672 14 rfl rfl
theorem d_code_687 : decode code 687 = .ok (.iadd, 1) := D_96 W_code_672 15 rfl rfl
theorem d_code_688 : decode code 688 = .ok (.iaload, 1) := D_46 W_code_672 16 rfl rfl
theorem d_code_689 : decode code 689 = .ok (.aload_n 0, 1) := D_42 W_code_672 17 rfl rfl
theorem d_code_690 : decode code 690 = .ok (.iload_n 3, 1) := D_29 W_code_672 18 rfl rfl
theorem d_code_691 : decode code 691 = .ok (.iconst 2, 1) := D_5 W_code_672 19 rfl rfl
theorem d_code_692 : decode code 692 = .ok (.iadd, 1) := D_96 W_code_672 20 rfl rfl
theorem d_code_693 : decode code 693 = .ok (.iaload, 1) := D_46 W_code_672 21 rfl rfl
theorem d_code_694 : decode code 694 = .ok (.aload_n 0, 1) := D_42 W_code_672 22 rfl rfl
theorem d_code_695 : decode code 695 = .ok (.iload_n 3, 1) := D_29 W_code_672 23 rfl rfl
theorem d_code_696 : decode code 696 = .ok (.iconst 3, 1) := D_6 W_code_672 24 rfl rfl
theorem d_code_697 : decode code 697 = .ok (.iadd, 1) := D_96 W_code_672 25 rfl rfl
theorem d_code_698 : decode code 698 = .ok (.iaload, 1) := D_46 W_code_672 26 rfl rfl
theorem d_code_699 : decode code 699 = .ok (.invokevirtual 73, 3) := D_182 W_code_672 27 rfl rfl rfl
theorem d_code_702 : decode code 702 = .ok (.pop, 1) := D_87 W_code_672 30 rfl rfl
theorem d_code_703 : decode code 703 = .ok (.aload_n 2, 1) := D_44 W_code_672 31 rfl rfl
theorem W_code_704 : chW code 704 [42, 29, 4, 96, 46, 42, 29, 5, 96, 46, 42, 29, 6, 96, 46, 182, 0, 76, 87, 167, 1, 212, 43, 42, 29, 4, 96, 46, 182, 0, 77, 87, 44, 42, 29, 4] := chW_of (by decide +kernel)
theorem d_code_704 : decode code 704 = .ok (.aload_n 0, 1) := D_42 W_code_704 0 rfl rfl
theorem d_code_705 : decode code 705 = .ok (.iload_n 3, 1) := D_29 W_code_704 1 rfl rfl
theorem d_code_706 : decode code 706 = .ok (.iconst 1, 1) := D_4 W_code_704 2 rfl rfl
theorem d_code_707 : decode code 707 = .ok (.iadd, 1) := D_96 W_code_704 3 rfl rfl
theorem d_code_708 : decode code 708 = .ok (.iaload, 1) := D_46 W_code_704 4 rfl rfl
theorem d_code_709 : decode code 709 = .ok (.aload_n 0, 1) := D_42 W_code_704 5 rfl rfl
theorem d_code_710 : decode code 710 = .ok (.iload_n 3, 1) := D_29 W_code_704 6 rfl rfl
theorem d_code_711 : decode code 711 = .ok (.iconst 2, 1) := D_5 W_code_704 7 rfl rfl
theorem d_code_712 : decode code 712 = .ok (.iadd, 1) := D_96 W_code_704 8 rfl rfl
theorem d_code_713 : decode code 713 = .ok (.iaload, 1) := D_46 W_code_704 9 rfl rfl
theorem d_code_714 : decode code 714 = .ok (.aload_n 0, 1) := D_42 W_code_704 10 rfl rfl
theorem d_code_715 : decode code 715 = .ok (.iload_n 3, 1) := D_29 W_code_704 11 rfl rfl
theorem d_code_716 : decode code 716 = .ok (.iconst 3, 1) := D_6 W_code_704 12 rfl rfl
theorem d_code_717 : decode code 717 = .ok (.iadd, 1) := D_96 W_code_704 13 rfl rfl
theorem d_code_718 : decode code 718 = .ok (.iaload, 1) := D_46 W_code_704 14 rfl rfl
theorem d_code_719 : decode code 719 = .ok (.invokevirtual 76, 3) := D_182 W_code_704 15 rfl rfl rfl
theorem d_code_722 : decode code 722 = .ok (.pop, 1) := D_87 W_code_704 18 rfl rfl
theorem d_code_723 : decode code 723 = .ok (.goto 468, 3) := D_167 W_code_704 19 rfl rfl rfl
def ls_0 (Kr : Nat) (x : Int) (sc : Int → Int) (n i : Int) (K : zK) (F : zF) (B : zB) (Fm : zF) (Bm : zB) : zL := if 0 ≤ (i + 1) ∧ (i + 1) < n then if 0 ≤ (i + 2) ∧ (i + 2) < n then if 0 ≤ (i + 3) ∧ (i + 3) < n then if 0 ≤ (i + 4) ∧ (i + 4) < n then if 0 ≤ (i + 5) ∧ (i + 5) < n then if 0 ≤ x ∧ x < K.2 12 then zbL (f_S_feed K x (sc (i + 1)) (sc (i + 2)) (sc (i + 3)) (sc (i + 4)) (sc (i + 5)) F B) (fun r15 F15 B15 => if 0 ≤ (i + 1) ∧ (i + 1) < n then if 0 ≤ (i + 2) ∧ (i + 2) < n then if 0 ≤ (i + 3) ∧ (i + 3) < n then if 0 ≤ (i + 4) ∧ (i + 4) < n then if 0 ≤ (i + 5) ∧ (i + 5) < n then zbL (f_M_feed Kr (sc (i + 1)) (sc (i + 2)) (sc (i + 3)) (sc (i + 4)) (sc (i + 5)) Fm Bm) (fun r22 F22 B22 => some (K, F15, B15, F22, B22)) else none else none else none else none else none) else none else none else none else none else none else none
set_option maxHeartbeats 4000000 in
set_option maxRecDepth 100000 in
theorem lc_0 {D : va_G} {ca : Nat → ClassId} {ad ad2 : Nat → Int → Nat → Nat} {L L2 : List Nat} {aS vS : Nat → Nat} {A : Nat → Prop} {p : Program} {l : Launch} {e : Env} {s : State} {m : MethodId} {below : List Frame} {meth : Method} {c : Code} {b n : Nat} {xs : Nat → Int32} {xx mm : Nat} {x i : Int} {Kr : Nat} {K K9 : zK} {F Fm F9 Fm9 : zF} {B Bm B9 Bm9 : zB} {H : Heap} {locs : List Loc} {cells slots : Nat} {Q : State → Prop} {ls : Array Slot}
    (X1 : zX D ca L aS vS A p s m #[Value.ref b] meth c code 4 ret "StaveHouseLaw") (X2 : zX D ca L2 aS vS A p s m #[Value.ref b] meth c code 4 ret "StaveHouseLaw") (hXs : va_X b n xs s s.heap) (hbl : b < s.heap.size) (hbA : ¬ A b) (hL4 : n ≤ 2147483647) (hf : ls_0 Kr x (scz xs) n i K F B Fm Bm = some (K9, F9, B9, Fm9, Bm9)) (hZ1 : zH D ca ad lnC K.2 L F B A H) (hZ2 : zH D ca ad2 lnM nM L2 Fm Bm A H) (hd : ∀ q ∈ L2, q ∉ L) (hS : va_S A s.heap H locs) (hxx : ad 12 x 0 = xx) (hmm : ad2 14 0 0 = mm) (hl : lv_has ls 4 [(3, .int (iI i)), (2, .ref mm), (1, .ref xx), (0, .ref b)]) (hrm : cells + cwC K K9 ≤ 600000 ∧ slots + swC K K9 ≤ 7302250)
    (kk : ∀ {ad' : Nat → Int → Nat → Nat} {L' : List Nat} {H' : Heap} {locs' : List Loc}, zG ad K.2 ad' K9.2 → zH D ca ad' lnC K9.2 L' F9 B9 A H' → zH D ca ad2 lnM nM L2 Fm9 Bm9 A H' → (∀ q ∈ L2, q ∉ L') → va_S A s.heap H' locs' → ad' 12 x 0 = xx → lv_has ls 4 [(3, .int (iI i)), (2, .ref mm), (1, .ref xx), (0, .ref b)] → W p l e room_1 s m #[Value.ref b] below meth c H' locs' (cells + cwC K K9) (slots + swC K K9) Q (F0 m 1191 ls [])) : W p l e room_1 s m #[Value.ref b] below meth c H locs cells slots Q (F0 m 156 ls []) := by
  obtain ⟨hx, hb, hr, hml, hown, hts, hlk, hK, hA, hL, hX⟩ := id X1
  have hG : zG ad K.2 ad K.2 := zG.rf
  replace hf : (if 0 ≤ (i + 1) ∧ (i + 1) < n then if 0 ≤ (i + 2) ∧ (i + 2) < n then if 0 ≤ (i + 3) ∧ (i + 3) < n then if 0 ≤ (i + 4) ∧ (i + 4) < n then if 0 ≤ (i + 5) ∧ (i + 5) < n then if 0 ≤ x ∧ x < K.2 12 then zbL (f_S_feed K x ((scz xs) (i + 1)) ((scz xs) (i + 2)) ((scz xs) (i + 3)) ((scz xs) (i + 4)) ((scz xs) (i + 5)) F B) (fun r15 F15 B15 => if 0 ≤ (i + 1) ∧ (i + 1) < n then if 0 ≤ (i + 2) ∧ (i + 2) < n then if 0 ≤ (i + 3) ∧ (i + 3) < n then if 0 ≤ (i + 4) ∧ (i + 4) < n then if 0 ≤ (i + 5) ∧ (i + 5) < n then zbL (f_M_feed Kr ((scz xs) (i + 1)) ((scz xs) (i + 2)) ((scz xs) (i + 3)) ((scz xs) (i + 4)) ((scz xs) (i + 5)) Fm Bm) (fun r22 F22 B22 => some (K, F15, B15, F22, B22)) else none else none else none else none else none) else none else none else none else none else none else none) = some (K9, F9, B9, Fm9, Bm9) := hf
  refine lv_aload_n hx hb d_code_156 rfl (lv_at hl 2 rfl) ?_
  refine lv_aload_n hx hb d_code_157 rfl (lv_at hl 3 rfl) ?_
  refine lv_iload_n hx hb d_code_158 rfl (lv_at hl 0 rfl) ?_
  refine lv_iconst (v := iI 1) hx hb d_code_159 rfl ?_
  refine zadd hx hb d_code_160 ?_
  obtain ⟨g10, hf⟩ := gif hf
  refine zsld hx hb hXs hbl hbA hS g10.1 g10.2 hL4 d_code_161 ?_
  refine lv_aload_n hx hb d_code_162 rfl (lv_at hl 3 rfl) ?_
  refine lv_iload_n hx hb d_code_163 rfl (lv_at hl 0 rfl) ?_
  refine lv_iconst (v := iI 2) hx hb d_code_164 rfl ?_
  refine zadd hx hb d_code_165 ?_
  obtain ⟨g11, hf⟩ := gif hf
  refine zsld hx hb hXs hbl hbA hS g11.1 g11.2 hL4 d_code_166 ?_
  refine lv_aload_n hx hb d_code_167 rfl (lv_at hl 3 rfl) ?_
  refine lv_iload_n hx hb d_code_168 rfl (lv_at hl 0 rfl) ?_
  refine lv_iconst (v := iI 3) hx hb d_code_169 rfl ?_
  refine zadd hx hb d_code_170 ?_
  obtain ⟨g12, hf⟩ := gif hf
  refine zsld hx hb hXs hbl hbA hS g12.1 g12.2 hL4 d_code_171 ?_
  refine lv_aload_n hx hb d_code_172 rfl (lv_at hl 3 rfl) ?_
  refine lv_iload_n hx hb d_code_173 rfl (lv_at hl 0 rfl) ?_
  refine lv_iconst (v := iI 4) hx hb d_code_174 rfl ?_
  refine zadd hx hb d_code_175 ?_
  obtain ⟨g13, hf⟩ := gif hf
  refine zsld hx hb hXs hbl hbA hS g13.1 g13.2 hL4 d_code_176 ?_
  refine lv_aload_n hx hb d_code_177 rfl (lv_at hl 3 rfl) ?_
  refine lv_iload_n hx hb d_code_178 rfl (lv_at hl 0 rfl) ?_
  refine lv_iconst (v := iI 5) hx hb d_code_179 rfl ?_
  refine zadd hx hb d_code_180 ?_
  obtain ⟨g14, hf⟩ := gif hf
  refine zsld hx hb hXs hbl hbA hS g14.1 g14.2 hL4 d_code_181 ?_
  obtain ⟨g16, hf⟩ := gif hf
  obtain ⟨r15, F15, B15, hc15, hf⟩ := gbL hf
  rw [← hxx]
  refine va_callv (va_runV (As := [.int (iI ((scz xs) (i + 1))), .int (iI ((scz xs) (i + 2))), .int (iI ((scz xs) (i + 3))), .int (iI ((scz xs) (i + 4))), .int (iI ((scz xs) (i + 5)))]) (rest := []) ⟨hx, hb, hml, hown, hts⟩ (c_S_feed (l := l) hc15) (cwV 5 hts (gdV k_2_158 k_2_159 k_2_160 k_1_1 k_2_161) rfl rfl rfl (by decide +kernel) ⟨Nat.le_of_ble_eq_true rfl, Nat.le_of_ble_eq_true rfl⟩) (zPV X1 hZ1 hS (ci := 12) g16.1 g16.2 (r := (RX12, TX12, 10)) rfl [.int (iI ((scz xs) (i + 1))), .int (iI ((scz xs) (i + 2))), .int (iI ((scz xs) (i + 3))), .int (iI ((scz xs) (i + 4))), .int (iI ((scz xs) (i + 5)))]) rfl rfl hl.1 rfl (lv_room (Nat.le_of_ble_eq_true rfl)) d_code_182 ⟨by have h := hrm.1; show _ ≤ 600000; omega, by have h := hrm.2; show _ ≤ 7302250; omega⟩) hS (fun z _ h => zAin X1 hS z h) (zAin X1 hS) (fun u15 t15 H15 locs15 ht15 hv15 hw15 hB15 hz15 hk15 hS15 => ?_)
  have hZa15 := zBack X1 ht15 hB15
  have hZb15 := zH.beside hZ2 hd hk15
  refine lv_aload_n hx hb d_code_185 rfl (lv_at hl 1 rfl) ?_
  refine lv_aload_n hx hb d_code_186 rfl (lv_at hl 3 rfl) ?_
  refine lv_iload_n hx hb d_code_187 rfl (lv_at hl 0 rfl) ?_
  refine lv_iconst (v := iI 1) hx hb d_code_188 rfl ?_
  refine zadd hx hb d_code_189 ?_
  obtain ⟨g17, hf⟩ := gif hf
  refine zsld hx hb hXs hbl hbA hS15 g17.1 g17.2 hL4 d_code_190 ?_
  refine lv_aload_n hx hb d_code_191 rfl (lv_at hl 3 rfl) ?_
  refine lv_iload_n hx hb d_code_192 rfl (lv_at hl 0 rfl) ?_
  refine lv_iconst (v := iI 2) hx hb d_code_193 rfl ?_
  refine zadd hx hb d_code_194 ?_
  obtain ⟨g18, hf⟩ := gif hf
  refine zsld hx hb hXs hbl hbA hS15 g18.1 g18.2 hL4 d_code_195 ?_
  refine lv_aload_n hx hb d_code_196 rfl (lv_at hl 3 rfl) ?_
  refine lv_iload_n hx hb d_code_197 rfl (lv_at hl 0 rfl) ?_
  refine lv_iconst (v := iI 3) hx hb d_code_198 rfl ?_
  refine zadd hx hb d_code_199 ?_
  obtain ⟨g19, hf⟩ := gif hf
  refine zsld hx hb hXs hbl hbA hS15 g19.1 g19.2 hL4 d_code_200 ?_
  refine lv_aload_n hx hb d_code_201 rfl (lv_at hl 3 rfl) ?_
  refine lv_iload_n hx hb d_code_202 rfl (lv_at hl 0 rfl) ?_
  refine lv_iconst (v := iI 4) hx hb d_code_203 rfl ?_
  refine zadd hx hb d_code_204 ?_
  obtain ⟨g20, hf⟩ := gif hf
  refine zsld hx hb hXs hbl hbA hS15 g20.1 g20.2 hL4 d_code_205 ?_
  refine lv_aload_n hx hb d_code_206 rfl (lv_at hl 3 rfl) ?_
  refine lv_iload_n hx hb d_code_207 rfl (lv_at hl 0 rfl) ?_
  refine lv_iconst (v := iI 5) hx hb d_code_208 rfl ?_
  refine zadd hx hb d_code_209 ?_
  obtain ⟨g21, hf⟩ := gif hf
  refine zsld hx hb hXs hbl hbA hS15 g21.1 g21.2 hL4 d_code_210 ?_
  obtain ⟨r22, F22, B22, hc22, hf⟩ := gbL hf
  rw [← hmm]
  refine va_callv (va_runV (As := [.int (iI ((scz xs) (i + 1))), .int (iI ((scz xs) (i + 2))), .int (iI ((scz xs) (i + 3))), .int (iI ((scz xs) (i + 4))), .int (iI ((scz xs) (i + 5)))]) (rest := []) ⟨hx, hb, hml, hown, hts⟩ (c_M_feed (l := l) hc22) (cwV 5 hts (gdV k_12_80 k_12_81 k_12_82 k_1_9 k_12_83) rfl rfl rfl (by decide +kernel) ⟨Nat.le_of_ble_eq_true rfl, Nat.le_of_ble_eq_true rfl⟩) (zPV X2 hZb15 hS15 (ci := 14) (by decide) (by decide) (r := (RX14, TX14, 107)) rfl [.int (iI ((scz xs) (i + 1))), .int (iI ((scz xs) (i + 2))), .int (iI ((scz xs) (i + 3))), .int (iI ((scz xs) (i + 4))), .int (iI ((scz xs) (i + 5)))]) rfl rfl hl.1 rfl (lv_room (Nat.le_of_ble_eq_true rfl)) d_code_211 ⟨by have h := hrm.1; show _ ≤ 600000; omega, by have h := hrm.2; show _ ≤ 7302250; omega⟩) hS15 (fun z _ h => zAin X2 hS15 z h) (zAin X2 hS15) (fun u22 t22 H22 locs22 ht22 hv22 hw22 hB22 hz22 hk22 hS22 => ?_)
  have hZb22 := zBack X2 ht22 hB22
  have hZa22 := zH.beside hZa15 (fun z h1 h2 => hd z h2 h1) hk22
  refine lv_goto (tgt := 1191) hx hb d_code_214 (by decide) ?_
  cases hf
  refine W.widen (k := cells + cwC K K) (n := slots + swC K K) (by omega) (by omega) ?_
  exact kk hG hZa22 hZb22 hd hS22 hxx hl
def ls_1 (Kr : Nat) (x : Int) (sc : Int → Int) (n i : Int) (K : zK) (F : zF) (B : zB) (Fm : zF) (Bm : zB) : zL := if 0 ≤ (i + 1) ∧ (i + 1) < n then if 0 ≤ x ∧ x < K.2 12 then zbL (f_S_end K x (sc (i + 1)) F B) (fun r11 F11 B11 => if 0 ≤ (i + 1) ∧ (i + 1) < n then zbL (f_M_end Kr (sc (i + 1)) Fm Bm) (fun r14 F14 B14 => some (K, F11, B11, F14, B14)) else none) else none else none
set_option maxHeartbeats 4000000 in
set_option maxRecDepth 100000 in
theorem lc_1 {D : va_G} {ca : Nat → ClassId} {ad ad2 : Nat → Int → Nat → Nat} {L L2 : List Nat} {aS vS : Nat → Nat} {A : Nat → Prop} {p : Program} {l : Launch} {e : Env} {s : State} {m : MethodId} {below : List Frame} {meth : Method} {c : Code} {b n : Nat} {xs : Nat → Int32} {xx mm : Nat} {x i : Int} {Kr : Nat} {K K9 : zK} {F Fm F9 Fm9 : zF} {B Bm B9 Bm9 : zB} {H : Heap} {locs : List Loc} {cells slots : Nat} {Q : State → Prop} {ls : Array Slot}
    (X1 : zX D ca L aS vS A p s m #[Value.ref b] meth c code 4 ret "StaveHouseLaw") (X2 : zX D ca L2 aS vS A p s m #[Value.ref b] meth c code 4 ret "StaveHouseLaw") (hXs : va_X b n xs s s.heap) (hbl : b < s.heap.size) (hbA : ¬ A b) (hL4 : n ≤ 2147483647) (hf : ls_1 Kr x (scz xs) n i K F B Fm Bm = some (K9, F9, B9, Fm9, Bm9)) (hZ1 : zH D ca ad lnC K.2 L F B A H) (hZ2 : zH D ca ad2 lnM nM L2 Fm Bm A H) (hd : ∀ q ∈ L2, q ∉ L) (hS : va_S A s.heap H locs) (hxx : ad 12 x 0 = xx) (hmm : ad2 14 0 0 = mm) (hl : lv_has ls 4 [(3, .int (iI i)), (2, .ref mm), (1, .ref xx), (0, .ref b)]) (hrm : cells + cwC K K9 ≤ 600000 ∧ slots + swC K K9 ≤ 7302250)
    (kk : ∀ {ad' : Nat → Int → Nat → Nat} {L' : List Nat} {H' : Heap} {locs' : List Loc}, zG ad K.2 ad' K9.2 → zH D ca ad' lnC K9.2 L' F9 B9 A H' → zH D ca ad2 lnM nM L2 Fm9 Bm9 A H' → (∀ q ∈ L2, q ∉ L') → va_S A s.heap H' locs' → ad' 12 x 0 = xx → lv_has ls 4 [(3, .int (iI i)), (2, .ref mm), (1, .ref xx), (0, .ref b)] → W p l e room_1 s m #[Value.ref b] below meth c H' locs' (cells + cwC K K9) (slots + swC K K9) Q (F0 m 1191 ls [])) : W p l e room_1 s m #[Value.ref b] below meth c H locs cells slots Q (F0 m 217 ls []) := by
  obtain ⟨hx, hb, hr, hml, hown, hts, hlk, hK, hA, hL, hX⟩ := id X1
  have hG : zG ad K.2 ad K.2 := zG.rf
  replace hf : (if 0 ≤ (i + 1) ∧ (i + 1) < n then if 0 ≤ x ∧ x < K.2 12 then zbL (f_S_end K x ((scz xs) (i + 1)) F B) (fun r11 F11 B11 => if 0 ≤ (i + 1) ∧ (i + 1) < n then zbL (f_M_end Kr ((scz xs) (i + 1)) Fm Bm) (fun r14 F14 B14 => some (K, F11, B11, F14, B14)) else none) else none else none) = some (K9, F9, B9, Fm9, Bm9) := hf
  refine lv_aload_n hx hb d_code_217 rfl (lv_at hl 2 rfl) ?_
  refine lv_aload_n hx hb d_code_218 rfl (lv_at hl 3 rfl) ?_
  refine lv_iload_n hx hb d_code_219 rfl (lv_at hl 0 rfl) ?_
  refine lv_iconst (v := iI 1) hx hb d_code_220 rfl ?_
  refine zadd hx hb d_code_221 ?_
  obtain ⟨g10, hf⟩ := gif hf
  refine zsld hx hb hXs hbl hbA hS g10.1 g10.2 hL4 d_code_222 ?_
  obtain ⟨g12, hf⟩ := gif hf
  obtain ⟨r11, F11, B11, hc11, hf⟩ := gbL hf
  rw [← hxx]
  refine va_calli (va_runV (As := [.int (iI ((scz xs) (i + 1)))]) (rest := []) ⟨hx, hb, hml, hown, hts⟩ (c_S_end (l := l) hc11) (cwV 1 hts (gdV k_2_166 k_2_167 k_2_168 k_1_1 k_2_169) rfl rfl rfl (by decide +kernel) ⟨Nat.le_of_ble_eq_true rfl, Nat.le_of_ble_eq_true rfl⟩) (zPV X1 hZ1 hS (ci := 12) g12.1 g12.2 (r := (RX12, TX12, 10)) rfl [.int (iI ((scz xs) (i + 1)))]) rfl rfl hl.1 rfl (lv_room (Nat.le_of_ble_eq_true rfl)) d_code_223 ⟨by have h := hrm.1; show _ ≤ 600000; omega, by have h := hrm.2; show _ ≤ 7302250; omega⟩) hS (fun z _ h => zAin X1 hS z h) (zAin X1 hS) (fun p11 u11 t11 H11 locs11 ht11 hv11 hw11 hB11 hz11 hk11 hS11 => ?_)
  subst hw11
  have hZa11 := zBack X1 ht11 hB11
  have hZb11 := zH.beside hZ2 hd hk11
  refine lv_pop hx hb d_code_226 rfl ?_
  refine lv_aload_n hx hb d_code_227 rfl (lv_at hl 1 rfl) ?_
  refine lv_aload_n hx hb d_code_228 rfl (lv_at hl 3 rfl) ?_
  refine lv_iload_n hx hb d_code_229 rfl (lv_at hl 0 rfl) ?_
  refine lv_iconst (v := iI 1) hx hb d_code_230 rfl ?_
  refine zadd hx hb d_code_231 ?_
  obtain ⟨g13, hf⟩ := gif hf
  refine zsld hx hb hXs hbl hbA hS11 g13.1 g13.2 hL4 d_code_232 ?_
  obtain ⟨r14, F14, B14, hc14, hf⟩ := gbL hf
  rw [← hmm]
  refine va_calli (va_runV (As := [.int (iI ((scz xs) (i + 1)))]) (rest := []) ⟨hx, hb, hml, hown, hts⟩ (c_M_end (l := l) hc14) (cwV 1 hts (gdV k_12_84 k_12_85 k_12_86 k_1_9 k_12_87) rfl rfl rfl (by decide +kernel) ⟨Nat.le_of_ble_eq_true rfl, Nat.le_of_ble_eq_true rfl⟩) (zPV X2 hZb11 hS11 (ci := 14) (by decide) (by decide) (r := (RX14, TX14, 107)) rfl [.int (iI ((scz xs) (i + 1)))]) rfl rfl hl.1 rfl (lv_room (Nat.le_of_ble_eq_true rfl)) d_code_233 ⟨by have h := hrm.1; show _ ≤ 600000; omega, by have h := hrm.2; show _ ≤ 7302250; omega⟩) hS11 (fun z _ h => zAin X2 hS11 z h) (zAin X2 hS11) (fun p14 u14 t14 H14 locs14 ht14 hv14 hw14 hB14 hz14 hk14 hS14 => ?_)
  subst hw14
  have hZb14 := zBack X2 ht14 hB14
  have hZa14 := zH.beside hZa11 (fun z h1 h2 => hd z h2 h1) hk14
  refine lv_pop hx hb d_code_236 rfl ?_
  refine lv_goto (tgt := 1191) hx hb d_code_237 (by decide) ?_
  cases hf
  refine W.widen (k := cells + cwC K K) (n := slots + swC K K) (by omega) (by omega) ?_
  exact kk hG hZa14 hZb14 hd hS14 hxx hl
def ls_2 (Kr : Nat) (x : Int) (sc : Int → Int) (n i : Int) (K : zK) (F : zF) (B : zB) (Fm : zF) (Bm : zB) : zL := if 0 ≤ (i + 1) ∧ (i + 1) < n then if 0 ≤ x ∧ x < K.2 12 then zbM (f_S_read K x (sc (i + 1)) F B) (fun r11 F11 B11 K11 => if 0 ≤ (i + 1) ∧ (i + 1) < n then zbL (f_M_read Kr (sc (i + 1)) Fm Bm) (fun r14 F14 B14 => some (K11, F11, B11, F14, B14)) else none) else none else none
set_option maxHeartbeats 4000000 in
set_option maxRecDepth 100000 in
theorem lc_2 {D : va_G} {ca : Nat → ClassId} {ad ad2 : Nat → Int → Nat → Nat} {L L2 : List Nat} {aS vS : Nat → Nat} {A : Nat → Prop} {p : Program} {l : Launch} {e : Env} {s : State} {m : MethodId} {below : List Frame} {meth : Method} {c : Code} {b n : Nat} {xs : Nat → Int32} {xx mm : Nat} {x i : Int} {Kr : Nat} {K K9 : zK} {F Fm F9 Fm9 : zF} {B Bm B9 Bm9 : zB} {H : Heap} {locs : List Loc} {cells slots : Nat} {Q : State → Prop} {ls : Array Slot}
    (X1 : zX D ca L aS vS A p s m #[Value.ref b] meth c code 4 ret "StaveHouseLaw") (X2 : zX D ca L2 aS vS A p s m #[Value.ref b] meth c code 4 ret "StaveHouseLaw") (hXs : va_X b n xs s s.heap) (hbl : b < s.heap.size) (hbA : ¬ A b) (hL4 : n ≤ 2147483647) (hf : ls_2 Kr x (scz xs) n i K F B Fm Bm = some (K9, F9, B9, Fm9, Bm9)) (hZ1 : zH D ca ad lnC K.2 L F B A H) (hZ2 : zH D ca ad2 lnM nM L2 Fm Bm A H) (hd : ∀ q ∈ L2, q ∉ L) (hS : va_S A s.heap H locs) (hxx : ad 12 x 0 = xx) (hmm : ad2 14 0 0 = mm) (hl : lv_has ls 4 [(3, .int (iI i)), (2, .ref mm), (1, .ref xx), (0, .ref b)]) (hrm : cells + cwC K K9 ≤ 600000 ∧ slots + swC K K9 ≤ 7302250)
    (kk : ∀ {ad' : Nat → Int → Nat → Nat} {L' : List Nat} {H' : Heap} {locs' : List Loc}, zG ad K.2 ad' K9.2 → zH D ca ad' lnC K9.2 L' F9 B9 A H' → zH D ca ad2 lnM nM L2 Fm9 Bm9 A H' → (∀ q ∈ L2, q ∉ L') → va_S A s.heap H' locs' → ad' 12 x 0 = xx → lv_has ls 4 [(3, .int (iI i)), (2, .ref mm), (1, .ref xx), (0, .ref b)] → W p l e room_1 s m #[Value.ref b] below meth c H' locs' (cells + cwC K K9) (slots + swC K K9) Q (F0 m 1191 ls [])) : W p l e room_1 s m #[Value.ref b] below meth c H locs cells slots Q (F0 m 240 ls []) := by
  obtain ⟨hx, hb, hr, hml, hown, hts, hlk, hK, hA, hL, hX⟩ := id X1
  have hG : zG ad K.2 ad K.2 := zG.rf
  replace hf : (if 0 ≤ (i + 1) ∧ (i + 1) < n then if 0 ≤ x ∧ x < K.2 12 then zbM (f_S_read K x ((scz xs) (i + 1)) F B) (fun r11 F11 B11 K11 => if 0 ≤ (i + 1) ∧ (i + 1) < n then zbL (f_M_read Kr ((scz xs) (i + 1)) Fm Bm) (fun r14 F14 B14 => some (K11, F11, B11, F14, B14)) else none) else none else none) = some (K9, F9, B9, Fm9, Bm9) := hf
  refine lv_aload_n hx hb d_code_240 rfl (lv_at hl 2 rfl) ?_
  refine lv_aload_n hx hb d_code_241 rfl (lv_at hl 3 rfl) ?_
  refine lv_iload_n hx hb d_code_242 rfl (lv_at hl 0 rfl) ?_
  refine lv_iconst (v := iI 1) hx hb d_code_243 rfl ?_
  refine zadd hx hb d_code_244 ?_
  obtain ⟨g10, hf⟩ := gif hf
  refine zsld hx hb hXs hbl hbA hS g10.1 g10.2 hL4 d_code_245 ?_
  obtain ⟨g12, hf⟩ := gif hf
  obtain ⟨r11, F11, B11, K11, hc11, hf⟩ := gbM hf
  rw [← hxx]
  have hK11 : K9 = K11 := by
    have h := hf
    obtain ⟨-, h⟩ := gif h
    obtain ⟨_, _, _, _, h⟩ := gbL h
    cases h
    rfl
  have hrm11 : cells + cwC K K11 ≤ 600000 ∧ slots + swC K K11 ≤ 7302250 := by rw [← hK11]; exact hrm
  refine va_calli (va_runV (As := [.int (iI ((scz xs) (i + 1)))]) (rest := []) ⟨hx, hb, hml, hown, hts⟩ (c_S_read (l := l) hc11) (cwV 1 hts (gdV k_2_174 k_2_175 k_2_176 k_1_1 k_2_177) rfl rfl rfl (by decide +kernel) ⟨Nat.le_of_ble_eq_true rfl, Nat.le_of_ble_eq_true rfl⟩) (zPV X1 hZ1 hS (ci := 12) g12.1 g12.2 (r := (RX12, TX12, 10)) rfl [.int (iI ((scz xs) (i + 1)))]) rfl rfl hl.1 rfl (lv_room (Nat.le_of_ble_eq_true rfl)) d_code_246 ⟨by have h := hrm11.1; show _ ≤ 600000; omega, by have h := hrm11.2; show _ ≤ 7302250; omega⟩) hS (fun z _ h => zAin X1 hS z h) (zAin X1 hS) (fun p11 u11 t11 H11 locs11 ht11 hv11 hw11 hB11 hz11 hk11 hS11 => ?_)
  obtain ⟨ad11, L11⟩ := u11
  obtain ⟨hw11, hg11⟩ := hw11
  subst hw11
  have hZa11 := zBackM X1 hS ht11 hB11
  have hd11 := zd_grow hZ2 hd hB11
  have X11 := X1.grow hZa11.inA
  have hxx11 : ad11 12 x 0 = xx := (hg11.2 12 x 0 g12.1 g12.2).trans hxx
  have hG11 := hG.tr hg11
  have hZb11 := zH.beside hZ2 hd hk11
  refine lv_pop hx hb d_code_249 rfl ?_
  refine lv_aload_n hx hb d_code_250 rfl (lv_at hl 1 rfl) ?_
  refine lv_aload_n hx hb d_code_251 rfl (lv_at hl 3 rfl) ?_
  refine lv_iload_n hx hb d_code_252 rfl (lv_at hl 0 rfl) ?_
  refine lv_iconst (v := iI 1) hx hb d_code_253 rfl ?_
  refine zadd hx hb d_code_254 ?_
  obtain ⟨g13, hf⟩ := gif hf
  refine zsld hx hb hXs hbl hbA hS11 g13.1 g13.2 hL4 d_code_255 ?_
  obtain ⟨r14, F14, B14, hc14, hf⟩ := gbL hf
  rw [← hmm]
  refine va_calli (va_runV (As := [.int (iI ((scz xs) (i + 1)))]) (rest := []) ⟨hx, hb, hml, hown, hts⟩ (c_M_read (l := l) hc14) (cwV 1 hts (gdV k_14_79 k_14_80 k_14_81 k_1_9 k_14_82) rfl rfl rfl (by decide +kernel) ⟨Nat.le_of_ble_eq_true rfl, Nat.le_of_ble_eq_true rfl⟩) (zPV X2 hZb11 hS11 (ci := 14) (by decide) (by decide) (r := (RX14, TX14, 107)) rfl [.int (iI ((scz xs) (i + 1)))]) rfl rfl hl.1 rfl (lv_room (Nat.le_of_ble_eq_true rfl)) d_code_256 ⟨by have h := hrm11.1; show _ ≤ 600000; omega, by have h := hrm11.2; show _ ≤ 7302250; omega⟩) hS11 (fun z _ h => zAin X2 hS11 z h) (zAin X2 hS11) (fun p14 u14 t14 H14 locs14 ht14 hv14 hw14 hB14 hz14 hk14 hS14 => ?_)
  subst hw14
  have hZb14 := zBack X2 ht14 hB14
  have hZa14 := zH.beside hZa11 (fun z h1 h2 => hd11 z h2 h1) hk14
  refine lv_pop hx hb d_code_259 rfl ?_
  refine lv_goto (tgt := 1191) hx hb d_code_260 (by decide) ?_
  cases hf
  refine W.widen (k := cells + cwC K K9) (n := slots + swC K K9) (by omega) (by omega) ?_
  exact kk hG11 hZa14 hZb14 hd11 hS14 hxx11 hl
def ls_3 (Kr : Nat) (x : Int) (sc : Int → Int) (n i : Int) (K : zK) (F : zF) (B : zB) (Fm : zF) (Bm : zB) : zL := if 0 ≤ (i + 1) ∧ (i + 1) < n then if 0 ≤ (i + 2) ∧ (i + 2) < n then if 0 ≤ x ∧ x < K.2 12 then zbM (f_S_look K x (sc (i + 1)) (sc (i + 2)) F B) (fun r12 F12 B12 K12 => if 0 ≤ (i + 1) ∧ (i + 1) < n then if 0 ≤ (i + 2) ∧ (i + 2) < n then zbL (f_M_look Kr (sc (i + 1)) (sc (i + 2)) Fm Bm) (fun r16 F16 B16 => some (K12, F12, B12, F16, B16)) else none else none) else none else none else none
set_option maxHeartbeats 4000000 in
set_option maxRecDepth 100000 in
theorem lc_3 {D : va_G} {ca : Nat → ClassId} {ad ad2 : Nat → Int → Nat → Nat} {L L2 : List Nat} {aS vS : Nat → Nat} {A : Nat → Prop} {p : Program} {l : Launch} {e : Env} {s : State} {m : MethodId} {below : List Frame} {meth : Method} {c : Code} {b n : Nat} {xs : Nat → Int32} {xx mm : Nat} {x i : Int} {Kr : Nat} {K K9 : zK} {F Fm F9 Fm9 : zF} {B Bm B9 Bm9 : zB} {H : Heap} {locs : List Loc} {cells slots : Nat} {Q : State → Prop} {ls : Array Slot}
    (X1 : zX D ca L aS vS A p s m #[Value.ref b] meth c code 4 ret "StaveHouseLaw") (X2 : zX D ca L2 aS vS A p s m #[Value.ref b] meth c code 4 ret "StaveHouseLaw") (hXs : va_X b n xs s s.heap) (hbl : b < s.heap.size) (hbA : ¬ A b) (hL4 : n ≤ 2147483647) (hf : ls_3 Kr x (scz xs) n i K F B Fm Bm = some (K9, F9, B9, Fm9, Bm9)) (hZ1 : zH D ca ad lnC K.2 L F B A H) (hZ2 : zH D ca ad2 lnM nM L2 Fm Bm A H) (hd : ∀ q ∈ L2, q ∉ L) (hS : va_S A s.heap H locs) (hxx : ad 12 x 0 = xx) (hmm : ad2 14 0 0 = mm) (hl : lv_has ls 4 [(3, .int (iI i)), (2, .ref mm), (1, .ref xx), (0, .ref b)]) (hrm : cells + cwC K K9 ≤ 600000 ∧ slots + swC K K9 ≤ 7302250)
    (kk : ∀ {ad' : Nat → Int → Nat → Nat} {L' : List Nat} {H' : Heap} {locs' : List Loc}, zG ad K.2 ad' K9.2 → zH D ca ad' lnC K9.2 L' F9 B9 A H' → zH D ca ad2 lnM nM L2 Fm9 Bm9 A H' → (∀ q ∈ L2, q ∉ L') → va_S A s.heap H' locs' → ad' 12 x 0 = xx → lv_has ls 4 [(3, .int (iI i)), (2, .ref mm), (1, .ref xx), (0, .ref b)] → W p l e room_1 s m #[Value.ref b] below meth c H' locs' (cells + cwC K K9) (slots + swC K K9) Q (F0 m 1191 ls [])) : W p l e room_1 s m #[Value.ref b] below meth c H locs cells slots Q (F0 m 263 ls []) := by
  obtain ⟨hx, hb, hr, hml, hown, hts, hlk, hK, hA, hL, hX⟩ := id X1
  have hG : zG ad K.2 ad K.2 := zG.rf
  replace hf : (if 0 ≤ (i + 1) ∧ (i + 1) < n then if 0 ≤ (i + 2) ∧ (i + 2) < n then if 0 ≤ x ∧ x < K.2 12 then zbM (f_S_look K x ((scz xs) (i + 1)) ((scz xs) (i + 2)) F B) (fun r12 F12 B12 K12 => if 0 ≤ (i + 1) ∧ (i + 1) < n then if 0 ≤ (i + 2) ∧ (i + 2) < n then zbL (f_M_look Kr ((scz xs) (i + 1)) ((scz xs) (i + 2)) Fm Bm) (fun r16 F16 B16 => some (K12, F12, B12, F16, B16)) else none else none) else none else none else none) = some (K9, F9, B9, Fm9, Bm9) := hf
  refine lv_aload_n hx hb d_code_263 rfl (lv_at hl 2 rfl) ?_
  refine lv_aload_n hx hb d_code_264 rfl (lv_at hl 3 rfl) ?_
  refine lv_iload_n hx hb d_code_265 rfl (lv_at hl 0 rfl) ?_
  refine lv_iconst (v := iI 1) hx hb d_code_266 rfl ?_
  refine zadd hx hb d_code_267 ?_
  obtain ⟨g10, hf⟩ := gif hf
  refine zsld hx hb hXs hbl hbA hS g10.1 g10.2 hL4 d_code_268 ?_
  refine lv_aload_n hx hb d_code_269 rfl (lv_at hl 3 rfl) ?_
  refine lv_iload_n hx hb d_code_270 rfl (lv_at hl 0 rfl) ?_
  refine lv_iconst (v := iI 2) hx hb d_code_271 rfl ?_
  refine zadd hx hb d_code_272 ?_
  obtain ⟨g11, hf⟩ := gif hf
  refine zsld hx hb hXs hbl hbA hS g11.1 g11.2 hL4 d_code_273 ?_
  obtain ⟨g13, hf⟩ := gif hf
  obtain ⟨r12, F12, B12, K12, hc12, hf⟩ := gbM hf
  rw [← hxx]
  have hK12 : K9 = K12 := by
    have h := hf
    obtain ⟨-, h⟩ := gif h
    obtain ⟨-, h⟩ := gif h
    obtain ⟨_, _, _, _, h⟩ := gbL h
    cases h
    rfl
  have hrm12 : cells + cwC K K12 ≤ 600000 ∧ slots + swC K K12 ≤ 7302250 := by rw [← hK12]; exact hrm
  refine va_calli (va_runV (As := [.int (iI ((scz xs) (i + 1))), .int (iI ((scz xs) (i + 2)))]) (rest := []) ⟨hx, hb, hml, hown, hts⟩ (c_S_look (l := l) hc12) (cwV 2 hts (gdV k_5_178 k_5_179 k_5_180 k_1_1 k_5_181) rfl rfl rfl (by decide +kernel) ⟨Nat.le_of_ble_eq_true rfl, Nat.le_of_ble_eq_true rfl⟩) (zPV X1 hZ1 hS (ci := 12) g13.1 g13.2 (r := (RX12, TX12, 10)) rfl [.int (iI ((scz xs) (i + 1))), .int (iI ((scz xs) (i + 2)))]) rfl rfl hl.1 rfl (lv_room (Nat.le_of_ble_eq_true rfl)) d_code_274 ⟨by have h := hrm12.1; show _ ≤ 600000; omega, by have h := hrm12.2; show _ ≤ 7302250; omega⟩) hS (fun z _ h => zAin X1 hS z h) (zAin X1 hS) (fun p12 u12 t12 H12 locs12 ht12 hv12 hw12 hB12 hz12 hk12 hS12 => ?_)
  obtain ⟨ad12, L12⟩ := u12
  obtain ⟨hw12, hg12⟩ := hw12
  subst hw12
  have hZa12 := zBackM X1 hS ht12 hB12
  have hd12 := zd_grow hZ2 hd hB12
  have X12 := X1.grow hZa12.inA
  have hxx12 : ad12 12 x 0 = xx := (hg12.2 12 x 0 g13.1 g13.2).trans hxx
  have hG12 := hG.tr hg12
  have hZb12 := zH.beside hZ2 hd hk12
  refine lv_pop hx hb d_code_277 rfl ?_
  refine lv_aload_n hx hb d_code_278 rfl (lv_at hl 1 rfl) ?_
  refine lv_aload_n hx hb d_code_279 rfl (lv_at hl 3 rfl) ?_
  refine lv_iload_n hx hb d_code_280 rfl (lv_at hl 0 rfl) ?_
  refine lv_iconst (v := iI 1) hx hb d_code_281 rfl ?_
  refine zadd hx hb d_code_282 ?_
  obtain ⟨g14, hf⟩ := gif hf
  refine zsld hx hb hXs hbl hbA hS12 g14.1 g14.2 hL4 d_code_283 ?_
  refine lv_aload_n hx hb d_code_284 rfl (lv_at hl 3 rfl) ?_
  refine lv_iload_n hx hb d_code_285 rfl (lv_at hl 0 rfl) ?_
  refine lv_iconst (v := iI 2) hx hb d_code_286 rfl ?_
  refine zadd hx hb d_code_287 ?_
  obtain ⟨g15, hf⟩ := gif hf
  refine zsld hx hb hXs hbl hbA hS12 g15.1 g15.2 hL4 d_code_288 ?_
  obtain ⟨r16, F16, B16, hc16, hf⟩ := gbL hf
  rw [← hmm]
  refine va_calli (va_runV (As := [.int (iI ((scz xs) (i + 1))), .int (iI ((scz xs) (i + 2)))]) (rest := []) ⟨hx, hb, hml, hown, hts⟩ (c_M_look (l := l) hc16) (cwV 2 hts (gdV k_15_142 k_15_143 k_15_144 k_1_9 k_15_145) rfl rfl rfl (by decide +kernel) ⟨Nat.le_of_ble_eq_true rfl, Nat.le_of_ble_eq_true rfl⟩) (zPV X2 hZb12 hS12 (ci := 14) (by decide) (by decide) (r := (RX14, TX14, 107)) rfl [.int (iI ((scz xs) (i + 1))), .int (iI ((scz xs) (i + 2)))]) rfl rfl hl.1 rfl (lv_room (Nat.le_of_ble_eq_true rfl)) d_code_289 ⟨by have h := hrm12.1; show _ ≤ 600000; omega, by have h := hrm12.2; show _ ≤ 7302250; omega⟩) hS12 (fun z _ h => zAin X2 hS12 z h) (zAin X2 hS12) (fun p16 u16 t16 H16 locs16 ht16 hv16 hw16 hB16 hz16 hk16 hS16 => ?_)
  subst hw16
  have hZb16 := zBack X2 ht16 hB16
  have hZa16 := zH.beside hZa12 (fun z h1 h2 => hd12 z h2 h1) hk16
  refine lv_pop hx hb d_code_292 rfl ?_
  refine lv_goto (tgt := 1191) hx hb d_code_293 (by decide) ?_
  cases hf
  refine W.widen (k := cells + cwC K K9) (n := slots + swC K K9) (by omega) (by omega) ?_
  exact kk hG12 hZa16 hZb16 hd12 hS16 hxx12 hl
def ls_4 (Kr : Nat) (x : Int) (sc : Int → Int) (n i : Int) (K : zK) (F : zF) (B : zB) (Fm : zF) (Bm : zB) : zL := if 0 ≤ (i + 1) ∧ (i + 1) < n then if 0 ≤ (i + 2) ∧ (i + 2) < n then if 0 ≤ (i + 3) ∧ (i + 3) < n then if 0 ≤ x ∧ x < K.2 12 then zbL (f_S_voice K x (sc (i + 1)) (sc (i + 2)) (sc (i + 3)) F B) (fun r13 F13 B13 => if 0 ≤ (i + 1) ∧ (i + 1) < n then if 0 ≤ (i + 2) ∧ (i + 2) < n then if 0 ≤ (i + 3) ∧ (i + 3) < n then zbL (f_M_voice Kr (sc (i + 1)) (sc (i + 2)) (sc (i + 3)) Fm Bm) (fun r18 F18 B18 => some (K, F13, B13, F18, B18)) else none else none else none) else none else none else none else none
set_option maxHeartbeats 4000000 in
set_option maxRecDepth 100000 in
theorem lc_4 {D : va_G} {ca : Nat → ClassId} {ad ad2 : Nat → Int → Nat → Nat} {L L2 : List Nat} {aS vS : Nat → Nat} {A : Nat → Prop} {p : Program} {l : Launch} {e : Env} {s : State} {m : MethodId} {below : List Frame} {meth : Method} {c : Code} {b n : Nat} {xs : Nat → Int32} {xx mm : Nat} {x i : Int} {Kr : Nat} {K K9 : zK} {F Fm F9 Fm9 : zF} {B Bm B9 Bm9 : zB} {H : Heap} {locs : List Loc} {cells slots : Nat} {Q : State → Prop} {ls : Array Slot}
    (X1 : zX D ca L aS vS A p s m #[Value.ref b] meth c code 4 ret "StaveHouseLaw") (X2 : zX D ca L2 aS vS A p s m #[Value.ref b] meth c code 4 ret "StaveHouseLaw") (hXs : va_X b n xs s s.heap) (hbl : b < s.heap.size) (hbA : ¬ A b) (hL4 : n ≤ 2147483647) (hf : ls_4 Kr x (scz xs) n i K F B Fm Bm = some (K9, F9, B9, Fm9, Bm9)) (hZ1 : zH D ca ad lnC K.2 L F B A H) (hZ2 : zH D ca ad2 lnM nM L2 Fm Bm A H) (hd : ∀ q ∈ L2, q ∉ L) (hS : va_S A s.heap H locs) (hxx : ad 12 x 0 = xx) (hmm : ad2 14 0 0 = mm) (hl : lv_has ls 4 [(3, .int (iI i)), (2, .ref mm), (1, .ref xx), (0, .ref b)]) (hrm : cells + cwC K K9 ≤ 600000 ∧ slots + swC K K9 ≤ 7302250)
    (kk : ∀ {ad' : Nat → Int → Nat → Nat} {L' : List Nat} {H' : Heap} {locs' : List Loc}, zG ad K.2 ad' K9.2 → zH D ca ad' lnC K9.2 L' F9 B9 A H' → zH D ca ad2 lnM nM L2 Fm9 Bm9 A H' → (∀ q ∈ L2, q ∉ L') → va_S A s.heap H' locs' → ad' 12 x 0 = xx → lv_has ls 4 [(3, .int (iI i)), (2, .ref mm), (1, .ref xx), (0, .ref b)] → W p l e room_1 s m #[Value.ref b] below meth c H' locs' (cells + cwC K K9) (slots + swC K K9) Q (F0 m 1191 ls [])) : W p l e room_1 s m #[Value.ref b] below meth c H locs cells slots Q (F0 m 296 ls []) := by
  obtain ⟨hx, hb, hr, hml, hown, hts, hlk, hK, hA, hL, hX⟩ := id X1
  have hG : zG ad K.2 ad K.2 := zG.rf
  replace hf : (if 0 ≤ (i + 1) ∧ (i + 1) < n then if 0 ≤ (i + 2) ∧ (i + 2) < n then if 0 ≤ (i + 3) ∧ (i + 3) < n then if 0 ≤ x ∧ x < K.2 12 then zbL (f_S_voice K x ((scz xs) (i + 1)) ((scz xs) (i + 2)) ((scz xs) (i + 3)) F B) (fun r13 F13 B13 => if 0 ≤ (i + 1) ∧ (i + 1) < n then if 0 ≤ (i + 2) ∧ (i + 2) < n then if 0 ≤ (i + 3) ∧ (i + 3) < n then zbL (f_M_voice Kr ((scz xs) (i + 1)) ((scz xs) (i + 2)) ((scz xs) (i + 3)) Fm Bm) (fun r18 F18 B18 => some (K, F13, B13, F18, B18)) else none else none else none) else none else none else none else none) = some (K9, F9, B9, Fm9, Bm9) := hf
  refine lv_aload_n hx hb d_code_296 rfl (lv_at hl 2 rfl) ?_
  refine lv_aload_n hx hb d_code_297 rfl (lv_at hl 3 rfl) ?_
  refine lv_iload_n hx hb d_code_298 rfl (lv_at hl 0 rfl) ?_
  refine lv_iconst (v := iI 1) hx hb d_code_299 rfl ?_
  refine zadd hx hb d_code_300 ?_
  obtain ⟨g10, hf⟩ := gif hf
  refine zsld hx hb hXs hbl hbA hS g10.1 g10.2 hL4 d_code_301 ?_
  refine lv_aload_n hx hb d_code_302 rfl (lv_at hl 3 rfl) ?_
  refine lv_iload_n hx hb d_code_303 rfl (lv_at hl 0 rfl) ?_
  refine lv_iconst (v := iI 2) hx hb d_code_304 rfl ?_
  refine zadd hx hb d_code_305 ?_
  obtain ⟨g11, hf⟩ := gif hf
  refine zsld hx hb hXs hbl hbA hS g11.1 g11.2 hL4 d_code_306 ?_
  refine lv_aload_n hx hb d_code_307 rfl (lv_at hl 3 rfl) ?_
  refine lv_iload_n hx hb d_code_308 rfl (lv_at hl 0 rfl) ?_
  refine lv_iconst (v := iI 3) hx hb d_code_309 rfl ?_
  refine zadd hx hb d_code_310 ?_
  obtain ⟨g12, hf⟩ := gif hf
  refine zsld hx hb hXs hbl hbA hS g12.1 g12.2 hL4 d_code_311 ?_
  obtain ⟨g14, hf⟩ := gif hf
  obtain ⟨r13, F13, B13, hc13, hf⟩ := gbL hf
  rw [← hxx]
  refine va_calli (va_runV (As := [.int (iI ((scz xs) (i + 1))), .int (iI ((scz xs) (i + 2))), .int (iI ((scz xs) (i + 3)))]) (rest := []) ⟨hx, hb, hml, hown, hts⟩ (c_S_voice (l := l) hc13) (cwV 3 hts (gdV k_6_164 k_6_165 k_6_166 k_1_1 k_6_167) rfl rfl rfl (by decide +kernel) ⟨Nat.le_of_ble_eq_true rfl, Nat.le_of_ble_eq_true rfl⟩) (zPV X1 hZ1 hS (ci := 12) g14.1 g14.2 (r := (RX12, TX12, 10)) rfl [.int (iI ((scz xs) (i + 1))), .int (iI ((scz xs) (i + 2))), .int (iI ((scz xs) (i + 3)))]) rfl rfl hl.1 rfl (lv_room (Nat.le_of_ble_eq_true rfl)) d_code_312 ⟨by have h := hrm.1; show _ ≤ 600000; omega, by have h := hrm.2; show _ ≤ 7302250; omega⟩) hS (fun z _ h => zAin X1 hS z h) (zAin X1 hS) (fun p13 u13 t13 H13 locs13 ht13 hv13 hw13 hB13 hz13 hk13 hS13 => ?_)
  subst hw13
  have hZa13 := zBack X1 ht13 hB13
  have hZb13 := zH.beside hZ2 hd hk13
  refine lv_pop hx hb d_code_315 rfl ?_
  refine lv_aload_n hx hb d_code_316 rfl (lv_at hl 1 rfl) ?_
  refine lv_aload_n hx hb d_code_317 rfl (lv_at hl 3 rfl) ?_
  refine lv_iload_n hx hb d_code_318 rfl (lv_at hl 0 rfl) ?_
  refine lv_iconst (v := iI 1) hx hb d_code_319 rfl ?_
  refine zadd hx hb d_code_320 ?_
  obtain ⟨g15, hf⟩ := gif hf
  refine zsld hx hb hXs hbl hbA hS13 g15.1 g15.2 hL4 d_code_321 ?_
  refine lv_aload_n hx hb d_code_322 rfl (lv_at hl 3 rfl) ?_
  refine lv_iload_n hx hb d_code_323 rfl (lv_at hl 0 rfl) ?_
  refine lv_iconst (v := iI 2) hx hb d_code_324 rfl ?_
  refine zadd hx hb d_code_325 ?_
  obtain ⟨g16, hf⟩ := gif hf
  refine zsld hx hb hXs hbl hbA hS13 g16.1 g16.2 hL4 d_code_326 ?_
  refine lv_aload_n hx hb d_code_327 rfl (lv_at hl 3 rfl) ?_
  refine lv_iload_n hx hb d_code_328 rfl (lv_at hl 0 rfl) ?_
  refine lv_iconst (v := iI 3) hx hb d_code_329 rfl ?_
  refine zadd hx hb d_code_330 ?_
  obtain ⟨g17, hf⟩ := gif hf
  refine zsld hx hb hXs hbl hbA hS13 g17.1 g17.2 hL4 d_code_331 ?_
  obtain ⟨r18, F18, B18, hc18, hf⟩ := gbL hf
  rw [← hmm]
  refine va_calli (va_runV (As := [.int (iI ((scz xs) (i + 1))), .int (iI ((scz xs) (i + 2))), .int (iI ((scz xs) (i + 3)))]) (rest := []) ⟨hx, hb, hml, hown, hts⟩ (c_M_voice (l := l) hc18) (cwV 3 hts (gdV k_15_150 k_15_151 k_15_152 k_1_9 k_15_153) rfl rfl rfl (by decide +kernel) ⟨Nat.le_of_ble_eq_true rfl, Nat.le_of_ble_eq_true rfl⟩) (zPV X2 hZb13 hS13 (ci := 14) (by decide) (by decide) (r := (RX14, TX14, 107)) rfl [.int (iI ((scz xs) (i + 1))), .int (iI ((scz xs) (i + 2))), .int (iI ((scz xs) (i + 3)))]) rfl rfl hl.1 rfl (lv_room (Nat.le_of_ble_eq_true rfl)) d_code_332 ⟨by have h := hrm.1; show _ ≤ 600000; omega, by have h := hrm.2; show _ ≤ 7302250; omega⟩) hS13 (fun z _ h => zAin X2 hS13 z h) (zAin X2 hS13) (fun p18 u18 t18 H18 locs18 ht18 hv18 hw18 hB18 hz18 hk18 hS18 => ?_)
  subst hw18
  have hZb18 := zBack X2 ht18 hB18
  have hZa18 := zH.beside hZa13 (fun z h1 h2 => hd z h2 h1) hk18
  refine lv_pop hx hb d_code_335 rfl ?_
  refine lv_goto (tgt := 1191) hx hb d_code_336 (by decide) ?_
  cases hf
  refine W.widen (k := cells + cwC K K) (n := slots + swC K K) (by omega) (by omega) ?_
  exact kk hG hZa18 hZb18 hd hS18 hxx hl
def ls_5 (Kr : Nat) (x : Int) (sc : Int → Int) (n i : Int) (K : zK) (F : zF) (B : zB) (Fm : zF) (Bm : zB) : zL := if 0 ≤ (i + 1) ∧ (i + 1) < n then if 0 ≤ (i + 2) ∧ (i + 2) < n then if 0 ≤ x ∧ x < K.2 12 then zbL (f_S_name K x (sc (i + 1)) (sc (i + 2)) F B) (fun r12 F12 B12 => if 0 ≤ (i + 1) ∧ (i + 1) < n then if 0 ≤ (i + 2) ∧ (i + 2) < n then zbL (f_M_name Kr (sc (i + 1)) (sc (i + 2)) Fm Bm) (fun r16 F16 B16 => some (K, F12, B12, F16, B16)) else none else none) else none else none else none
set_option maxHeartbeats 4000000 in
set_option maxRecDepth 100000 in
theorem lc_5 {D : va_G} {ca : Nat → ClassId} {ad ad2 : Nat → Int → Nat → Nat} {L L2 : List Nat} {aS vS : Nat → Nat} {A : Nat → Prop} {p : Program} {l : Launch} {e : Env} {s : State} {m : MethodId} {below : List Frame} {meth : Method} {c : Code} {b n : Nat} {xs : Nat → Int32} {xx mm : Nat} {x i : Int} {Kr : Nat} {K K9 : zK} {F Fm F9 Fm9 : zF} {B Bm B9 Bm9 : zB} {H : Heap} {locs : List Loc} {cells slots : Nat} {Q : State → Prop} {ls : Array Slot}
    (X1 : zX D ca L aS vS A p s m #[Value.ref b] meth c code 4 ret "StaveHouseLaw") (X2 : zX D ca L2 aS vS A p s m #[Value.ref b] meth c code 4 ret "StaveHouseLaw") (hXs : va_X b n xs s s.heap) (hbl : b < s.heap.size) (hbA : ¬ A b) (hL4 : n ≤ 2147483647) (hf : ls_5 Kr x (scz xs) n i K F B Fm Bm = some (K9, F9, B9, Fm9, Bm9)) (hZ1 : zH D ca ad lnC K.2 L F B A H) (hZ2 : zH D ca ad2 lnM nM L2 Fm Bm A H) (hd : ∀ q ∈ L2, q ∉ L) (hS : va_S A s.heap H locs) (hxx : ad 12 x 0 = xx) (hmm : ad2 14 0 0 = mm) (hl : lv_has ls 4 [(3, .int (iI i)), (2, .ref mm), (1, .ref xx), (0, .ref b)]) (hrm : cells + cwC K K9 ≤ 600000 ∧ slots + swC K K9 ≤ 7302250)
    (kk : ∀ {ad' : Nat → Int → Nat → Nat} {L' : List Nat} {H' : Heap} {locs' : List Loc}, zG ad K.2 ad' K9.2 → zH D ca ad' lnC K9.2 L' F9 B9 A H' → zH D ca ad2 lnM nM L2 Fm9 Bm9 A H' → (∀ q ∈ L2, q ∉ L') → va_S A s.heap H' locs' → ad' 12 x 0 = xx → lv_has ls 4 [(3, .int (iI i)), (2, .ref mm), (1, .ref xx), (0, .ref b)] → W p l e room_1 s m #[Value.ref b] below meth c H' locs' (cells + cwC K K9) (slots + swC K K9) Q (F0 m 1191 ls [])) : W p l e room_1 s m #[Value.ref b] below meth c H locs cells slots Q (F0 m 339 ls []) := by
  obtain ⟨hx, hb, hr, hml, hown, hts, hlk, hK, hA, hL, hX⟩ := id X1
  have hG : zG ad K.2 ad K.2 := zG.rf
  replace hf : (if 0 ≤ (i + 1) ∧ (i + 1) < n then if 0 ≤ (i + 2) ∧ (i + 2) < n then if 0 ≤ x ∧ x < K.2 12 then zbL (f_S_name K x ((scz xs) (i + 1)) ((scz xs) (i + 2)) F B) (fun r12 F12 B12 => if 0 ≤ (i + 1) ∧ (i + 1) < n then if 0 ≤ (i + 2) ∧ (i + 2) < n then zbL (f_M_name Kr ((scz xs) (i + 1)) ((scz xs) (i + 2)) Fm Bm) (fun r16 F16 B16 => some (K, F12, B12, F16, B16)) else none else none) else none else none else none) = some (K9, F9, B9, Fm9, Bm9) := hf
  refine lv_aload_n hx hb d_code_339 rfl (lv_at hl 2 rfl) ?_
  refine lv_aload_n hx hb d_code_340 rfl (lv_at hl 3 rfl) ?_
  refine lv_iload_n hx hb d_code_341 rfl (lv_at hl 0 rfl) ?_
  refine lv_iconst (v := iI 1) hx hb d_code_342 rfl ?_
  refine zadd hx hb d_code_343 ?_
  obtain ⟨g10, hf⟩ := gif hf
  refine zsld hx hb hXs hbl hbA hS g10.1 g10.2 hL4 d_code_344 ?_
  refine lv_aload_n hx hb d_code_345 rfl (lv_at hl 3 rfl) ?_
  refine lv_iload_n hx hb d_code_346 rfl (lv_at hl 0 rfl) ?_
  refine lv_iconst (v := iI 2) hx hb d_code_347 rfl ?_
  refine zadd hx hb d_code_348 ?_
  obtain ⟨g11, hf⟩ := gif hf
  refine zsld hx hb hXs hbl hbA hS g11.1 g11.2 hL4 d_code_349 ?_
  obtain ⟨g13, hf⟩ := gif hf
  obtain ⟨r12, F12, B12, hc12, hf⟩ := gbL hf
  rw [← hxx]
  refine va_calll (va_runV (As := [.int (iI ((scz xs) (i + 1))), .int (iI ((scz xs) (i + 2)))]) (rest := []) ⟨hx, hb, hml, hown, hts⟩ (c_S_name (l := l) hc12) (cwV 2 hts (gdV k_6_172 k_6_173 k_6_174 k_1_1 k_6_175) rfl rfl rfl (by decide +kernel) ⟨Nat.le_of_ble_eq_true rfl, Nat.le_of_ble_eq_true rfl⟩) (zPV X1 hZ1 hS (ci := 12) g13.1 g13.2 (r := (RX12, TX12, 10)) rfl [.int (iI ((scz xs) (i + 1))), .int (iI ((scz xs) (i + 2)))]) rfl rfl hl.1 rfl (lv_room (Nat.le_of_ble_eq_true rfl)) d_code_350 ⟨by have h := hrm.1; show _ ≤ 600000; omega, by have h := hrm.2; show _ ≤ 7302250; omega⟩) hS (fun z _ h => zAin X1 hS z h) (zAin X1 hS) (fun p12 u12 t12 H12 locs12 ht12 hv12 hw12 hB12 hz12 hk12 hS12 => ?_)
  subst hw12
  have hZa12 := zBack X1 ht12 hB12
  have hZb12 := zH.beside hZ2 hd hk12
  refine lv_pop2_2 hx hb d_code_353 rfl ?_
  refine lv_aload_n hx hb d_code_354 rfl (lv_at hl 1 rfl) ?_
  refine lv_aload_n hx hb d_code_355 rfl (lv_at hl 3 rfl) ?_
  refine lv_iload_n hx hb d_code_356 rfl (lv_at hl 0 rfl) ?_
  refine lv_iconst (v := iI 1) hx hb d_code_357 rfl ?_
  refine zadd hx hb d_code_358 ?_
  obtain ⟨g14, hf⟩ := gif hf
  refine zsld hx hb hXs hbl hbA hS12 g14.1 g14.2 hL4 d_code_359 ?_
  refine lv_aload_n hx hb d_code_360 rfl (lv_at hl 3 rfl) ?_
  refine lv_iload_n hx hb d_code_361 rfl (lv_at hl 0 rfl) ?_
  refine lv_iconst (v := iI 2) hx hb d_code_362 rfl ?_
  refine zadd hx hb d_code_363 ?_
  obtain ⟨g15, hf⟩ := gif hf
  refine zsld hx hb hXs hbl hbA hS12 g15.1 g15.2 hL4 d_code_364 ?_
  obtain ⟨r16, F16, B16, hc16, hf⟩ := gbL hf
  rw [← hmm]
  refine va_calll (va_runV (As := [.int (iI ((scz xs) (i + 1))), .int (iI ((scz xs) (i + 2)))]) (rest := []) ⟨hx, hb, hml, hown, hts⟩ (c_M_name (l := l) hc16) (cwV 2 hts (gdV k_15_154 k_15_155 k_15_156 k_1_9 k_15_157) rfl rfl rfl (by decide +kernel) ⟨Nat.le_of_ble_eq_true rfl, Nat.le_of_ble_eq_true rfl⟩) (zPV X2 hZb12 hS12 (ci := 14) (by decide) (by decide) (r := (RX14, TX14, 107)) rfl [.int (iI ((scz xs) (i + 1))), .int (iI ((scz xs) (i + 2)))]) rfl rfl hl.1 rfl (lv_room (Nat.le_of_ble_eq_true rfl)) d_code_365 ⟨by have h := hrm.1; show _ ≤ 600000; omega, by have h := hrm.2; show _ ≤ 7302250; omega⟩) hS12 (fun z _ h => zAin X2 hS12 z h) (zAin X2 hS12) (fun p16 u16 t16 H16 locs16 ht16 hv16 hw16 hB16 hz16 hk16 hS16 => ?_)
  subst hw16
  have hZb16 := zBack X2 ht16 hB16
  have hZa16 := zH.beside hZa12 (fun z h1 h2 => hd z h2 h1) hk16
  refine lv_pop2_2 hx hb d_code_368 rfl ?_
  refine lv_goto (tgt := 1191) hx hb d_code_369 (by decide) ?_
  cases hf
  refine W.widen (k := cells + cwC K K) (n := slots + swC K K) (by omega) (by omega) ?_
  exact kk hG hZa16 hZb16 hd hS16 hxx hl
def ls_6 (Kr : Nat) (x : Int) (sc : Int → Int) (n i : Int) (K : zK) (F : zF) (B : zB) (Fm : zF) (Bm : zB) : zL := if 0 ≤ (i + 1) ∧ (i + 1) < n then if 0 ≤ (i + 2) ∧ (i + 2) < n then if 0 ≤ (i + 3) ∧ (i + 3) < n then if 0 ≤ (i + 4) ∧ (i + 4) < n then if 0 ≤ x ∧ x < K.2 12 then zbL (f_S_event K x (sc (i + 1)) (sc (i + 2)) (sc (i + 3)) (sc (i + 4)) F B) (fun r14 F14 B14 => if 0 ≤ (i + 1) ∧ (i + 1) < n then if 0 ≤ (i + 2) ∧ (i + 2) < n then if 0 ≤ (i + 3) ∧ (i + 3) < n then if 0 ≤ (i + 4) ∧ (i + 4) < n then zbL (f_M_event_1 Kr (sc (i + 1)) (sc (i + 2)) (sc (i + 3)) (sc (i + 4)) Fm Bm) (fun r20 F20 B20 => some (K, F14, B14, F20, B20)) else none else none else none else none) else none else none else none else none else none
set_option maxHeartbeats 4000000 in
set_option maxRecDepth 100000 in
theorem lc_6 {D : va_G} {ca : Nat → ClassId} {ad ad2 : Nat → Int → Nat → Nat} {L L2 : List Nat} {aS vS : Nat → Nat} {A : Nat → Prop} {p : Program} {l : Launch} {e : Env} {s : State} {m : MethodId} {below : List Frame} {meth : Method} {c : Code} {b n : Nat} {xs : Nat → Int32} {xx mm : Nat} {x i : Int} {Kr : Nat} {K K9 : zK} {F Fm F9 Fm9 : zF} {B Bm B9 Bm9 : zB} {H : Heap} {locs : List Loc} {cells slots : Nat} {Q : State → Prop} {ls : Array Slot}
    (X1 : zX D ca L aS vS A p s m #[Value.ref b] meth c code 4 ret "StaveHouseLaw") (X2 : zX D ca L2 aS vS A p s m #[Value.ref b] meth c code 4 ret "StaveHouseLaw") (hXs : va_X b n xs s s.heap) (hbl : b < s.heap.size) (hbA : ¬ A b) (hL4 : n ≤ 2147483647) (hf : ls_6 Kr x (scz xs) n i K F B Fm Bm = some (K9, F9, B9, Fm9, Bm9)) (hZ1 : zH D ca ad lnC K.2 L F B A H) (hZ2 : zH D ca ad2 lnM nM L2 Fm Bm A H) (hd : ∀ q ∈ L2, q ∉ L) (hS : va_S A s.heap H locs) (hxx : ad 12 x 0 = xx) (hmm : ad2 14 0 0 = mm) (hl : lv_has ls 4 [(3, .int (iI i)), (2, .ref mm), (1, .ref xx), (0, .ref b)]) (hrm : cells + cwC K K9 ≤ 600000 ∧ slots + swC K K9 ≤ 7302250)
    (kk : ∀ {ad' : Nat → Int → Nat → Nat} {L' : List Nat} {H' : Heap} {locs' : List Loc}, zG ad K.2 ad' K9.2 → zH D ca ad' lnC K9.2 L' F9 B9 A H' → zH D ca ad2 lnM nM L2 Fm9 Bm9 A H' → (∀ q ∈ L2, q ∉ L') → va_S A s.heap H' locs' → ad' 12 x 0 = xx → lv_has ls 4 [(3, .int (iI i)), (2, .ref mm), (1, .ref xx), (0, .ref b)] → W p l e room_1 s m #[Value.ref b] below meth c H' locs' (cells + cwC K K9) (slots + swC K K9) Q (F0 m 1191 ls [])) : W p l e room_1 s m #[Value.ref b] below meth c H locs cells slots Q (F0 m 372 ls []) := by
  obtain ⟨hx, hb, hr, hml, hown, hts, hlk, hK, hA, hL, hX⟩ := id X1
  have hG : zG ad K.2 ad K.2 := zG.rf
  replace hf : (if 0 ≤ (i + 1) ∧ (i + 1) < n then if 0 ≤ (i + 2) ∧ (i + 2) < n then if 0 ≤ (i + 3) ∧ (i + 3) < n then if 0 ≤ (i + 4) ∧ (i + 4) < n then if 0 ≤ x ∧ x < K.2 12 then zbL (f_S_event K x ((scz xs) (i + 1)) ((scz xs) (i + 2)) ((scz xs) (i + 3)) ((scz xs) (i + 4)) F B) (fun r14 F14 B14 => if 0 ≤ (i + 1) ∧ (i + 1) < n then if 0 ≤ (i + 2) ∧ (i + 2) < n then if 0 ≤ (i + 3) ∧ (i + 3) < n then if 0 ≤ (i + 4) ∧ (i + 4) < n then zbL (f_M_event_1 Kr ((scz xs) (i + 1)) ((scz xs) (i + 2)) ((scz xs) (i + 3)) ((scz xs) (i + 4)) Fm Bm) (fun r20 F20 B20 => some (K, F14, B14, F20, B20)) else none else none else none else none) else none else none else none else none else none) = some (K9, F9, B9, Fm9, Bm9) := hf
  refine lv_aload_n hx hb d_code_372 rfl (lv_at hl 2 rfl) ?_
  refine lv_aload_n hx hb d_code_373 rfl (lv_at hl 3 rfl) ?_
  refine lv_iload_n hx hb d_code_374 rfl (lv_at hl 0 rfl) ?_
  refine lv_iconst (v := iI 1) hx hb d_code_375 rfl ?_
  refine zadd hx hb d_code_376 ?_
  obtain ⟨g10, hf⟩ := gif hf
  refine zsld hx hb hXs hbl hbA hS g10.1 g10.2 hL4 d_code_377 ?_
  refine lv_aload_n hx hb d_code_378 rfl (lv_at hl 3 rfl) ?_
  refine lv_iload_n hx hb d_code_379 rfl (lv_at hl 0 rfl) ?_
  refine lv_iconst (v := iI 2) hx hb d_code_380 rfl ?_
  refine zadd hx hb d_code_381 ?_
  obtain ⟨g11, hf⟩ := gif hf
  refine zsld hx hb hXs hbl hbA hS g11.1 g11.2 hL4 d_code_382 ?_
  refine lv_aload_n hx hb d_code_383 rfl (lv_at hl 3 rfl) ?_
  refine lv_iload_n hx hb d_code_384 rfl (lv_at hl 0 rfl) ?_
  refine lv_iconst (v := iI 3) hx hb d_code_385 rfl ?_
  refine zadd hx hb d_code_386 ?_
  obtain ⟨g12, hf⟩ := gif hf
  refine zsld hx hb hXs hbl hbA hS g12.1 g12.2 hL4 d_code_387 ?_
  refine lv_aload_n hx hb d_code_388 rfl (lv_at hl 3 rfl) ?_
  refine lv_iload_n hx hb d_code_389 rfl (lv_at hl 0 rfl) ?_
  refine lv_iconst (v := iI 4) hx hb d_code_390 rfl ?_
  refine zadd hx hb d_code_391 ?_
  obtain ⟨g13, hf⟩ := gif hf
  refine zsld hx hb hXs hbl hbA hS g13.1 g13.2 hL4 d_code_392 ?_
  obtain ⟨g15, hf⟩ := gif hf
  obtain ⟨r14, F14, B14, hc14, hf⟩ := gbL hf
  rw [← hxx]
  refine va_calll (va_runV (As := [.int (iI ((scz xs) (i + 1))), .int (iI ((scz xs) (i + 2))), .int (iI ((scz xs) (i + 3))), .int (iI ((scz xs) (i + 4)))]) (rest := []) ⟨hx, hb, hml, hown, hts⟩ (c_S_event (l := l) hc14) (cwV 4 hts (gdV k_6_176 k_6_177 k_6_178 k_1_1 k_6_179) rfl rfl rfl (by decide +kernel) ⟨Nat.le_of_ble_eq_true rfl, Nat.le_of_ble_eq_true rfl⟩) (zPV X1 hZ1 hS (ci := 12) g15.1 g15.2 (r := (RX12, TX12, 10)) rfl [.int (iI ((scz xs) (i + 1))), .int (iI ((scz xs) (i + 2))), .int (iI ((scz xs) (i + 3))), .int (iI ((scz xs) (i + 4)))]) rfl rfl hl.1 rfl (lv_room (Nat.le_of_ble_eq_true rfl)) d_code_393 ⟨by have h := hrm.1; show _ ≤ 600000; omega, by have h := hrm.2; show _ ≤ 7302250; omega⟩) hS (fun z _ h => zAin X1 hS z h) (zAin X1 hS) (fun p14 u14 t14 H14 locs14 ht14 hv14 hw14 hB14 hz14 hk14 hS14 => ?_)
  subst hw14
  have hZa14 := zBack X1 ht14 hB14
  have hZb14 := zH.beside hZ2 hd hk14
  refine lv_pop2_2 hx hb d_code_396 rfl ?_
  refine lv_aload_n hx hb d_code_397 rfl (lv_at hl 1 rfl) ?_
  refine lv_aload_n hx hb d_code_398 rfl (lv_at hl 3 rfl) ?_
  refine lv_iload_n hx hb d_code_399 rfl (lv_at hl 0 rfl) ?_
  refine lv_iconst (v := iI 1) hx hb d_code_400 rfl ?_
  refine zadd hx hb d_code_401 ?_
  obtain ⟨g16, hf⟩ := gif hf
  refine zsld hx hb hXs hbl hbA hS14 g16.1 g16.2 hL4 d_code_402 ?_
  refine lv_aload_n hx hb d_code_403 rfl (lv_at hl 3 rfl) ?_
  refine lv_iload_n hx hb d_code_404 rfl (lv_at hl 0 rfl) ?_
  refine lv_iconst (v := iI 2) hx hb d_code_405 rfl ?_
  refine zadd hx hb d_code_406 ?_
  obtain ⟨g17, hf⟩ := gif hf
  refine zsld hx hb hXs hbl hbA hS14 g17.1 g17.2 hL4 d_code_407 ?_
  refine lv_aload_n hx hb d_code_408 rfl (lv_at hl 3 rfl) ?_
  refine lv_iload_n hx hb d_code_409 rfl (lv_at hl 0 rfl) ?_
  refine lv_iconst (v := iI 3) hx hb d_code_410 rfl ?_
  refine zadd hx hb d_code_411 ?_
  obtain ⟨g18, hf⟩ := gif hf
  refine zsld hx hb hXs hbl hbA hS14 g18.1 g18.2 hL4 d_code_412 ?_
  refine lv_aload_n hx hb d_code_413 rfl (lv_at hl 3 rfl) ?_
  refine lv_iload_n hx hb d_code_414 rfl (lv_at hl 0 rfl) ?_
  refine lv_iconst (v := iI 4) hx hb d_code_415 rfl ?_
  refine zadd hx hb d_code_416 ?_
  obtain ⟨g19, hf⟩ := gif hf
  refine zsld hx hb hXs hbl hbA hS14 g19.1 g19.2 hL4 d_code_417 ?_
  obtain ⟨r20, F20, B20, hc20, hf⟩ := gbL hf
  rw [← hmm]
  refine va_calll (va_runV (As := [.int (iI ((scz xs) (i + 1))), .int (iI ((scz xs) (i + 2))), .int (iI ((scz xs) (i + 3))), .int (iI ((scz xs) (i + 4)))]) (rest := []) ⟨hx, hb, hml, hown, hts⟩ (c_M_event_1 (l := l) hc20) (cwV 4 hts (gdV k_15_158 k_15_159 k_15_160 k_1_9 k_15_161) rfl rfl rfl (by decide +kernel) ⟨Nat.le_of_ble_eq_true rfl, Nat.le_of_ble_eq_true rfl⟩) (zPV X2 hZb14 hS14 (ci := 14) (by decide) (by decide) (r := (RX14, TX14, 107)) rfl [.int (iI ((scz xs) (i + 1))), .int (iI ((scz xs) (i + 2))), .int (iI ((scz xs) (i + 3))), .int (iI ((scz xs) (i + 4)))]) rfl rfl hl.1 rfl (lv_room (Nat.le_of_ble_eq_true rfl)) d_code_418 ⟨by have h := hrm.1; show _ ≤ 600000; omega, by have h := hrm.2; show _ ≤ 7302250; omega⟩) hS14 (fun z _ h => zAin X2 hS14 z h) (zAin X2 hS14) (fun p20 u20 t20 H20 locs20 ht20 hv20 hw20 hB20 hz20 hk20 hS20 => ?_)
  subst hw20
  have hZb20 := zBack X2 ht20 hB20
  have hZa20 := zH.beside hZa14 (fun z h1 h2 => hd z h2 h1) hk20
  refine lv_pop2_2 hx hb d_code_421 rfl ?_
  refine lv_goto (tgt := 1191) hx hb d_code_422 (by decide) ?_
  cases hf
  refine W.widen (k := cells + cwC K K) (n := slots + swC K K) (by omega) (by omega) ?_
  exact kk hG hZa20 hZb20 hd hS20 hxx hl
def ls_7 (Kr : Nat) (x : Int) (sc : Int → Int) (n i : Int) (K : zK) (F : zF) (B : zB) (Fm : zF) (Bm : zB) : zL := if 0 ≤ (i + 1) ∧ (i + 1) < n then if 0 ≤ (i + 2) ∧ (i + 2) < n then if 0 ≤ (i + 3) ∧ (i + 3) < n then if 0 ≤ (i + 4) ∧ (i + 4) < n then if 0 ≤ (i + 5) ∧ (i + 5) < n then if 0 ≤ x ∧ x < K.2 12 then zbL (f_S_pitch K x (sc (i + 1)) (sc (i + 2)) (sc (i + 3)) (sc (i + 4)) (sc (i + 5)) F B) (fun r15 F15 B15 => if 0 ≤ (i + 1) ∧ (i + 1) < n then if 0 ≤ (i + 2) ∧ (i + 2) < n then if 0 ≤ (i + 3) ∧ (i + 3) < n then if 0 ≤ (i + 4) ∧ (i + 4) < n then if 0 ≤ (i + 5) ∧ (i + 5) < n then zbL (f_M_pitch Kr (sc (i + 1)) (sc (i + 2)) (sc (i + 3)) (sc (i + 4)) (sc (i + 5)) Fm Bm) (fun r22 F22 B22 => some (K, F15, B15, F22, B22)) else none else none else none else none else none) else none else none else none else none else none else none
set_option maxHeartbeats 4000000 in
set_option maxRecDepth 100000 in
theorem lc_7 {D : va_G} {ca : Nat → ClassId} {ad ad2 : Nat → Int → Nat → Nat} {L L2 : List Nat} {aS vS : Nat → Nat} {A : Nat → Prop} {p : Program} {l : Launch} {e : Env} {s : State} {m : MethodId} {below : List Frame} {meth : Method} {c : Code} {b n : Nat} {xs : Nat → Int32} {xx mm : Nat} {x i : Int} {Kr : Nat} {K K9 : zK} {F Fm F9 Fm9 : zF} {B Bm B9 Bm9 : zB} {H : Heap} {locs : List Loc} {cells slots : Nat} {Q : State → Prop} {ls : Array Slot}
    (X1 : zX D ca L aS vS A p s m #[Value.ref b] meth c code 4 ret "StaveHouseLaw") (X2 : zX D ca L2 aS vS A p s m #[Value.ref b] meth c code 4 ret "StaveHouseLaw") (hXs : va_X b n xs s s.heap) (hbl : b < s.heap.size) (hbA : ¬ A b) (hL4 : n ≤ 2147483647) (hf : ls_7 Kr x (scz xs) n i K F B Fm Bm = some (K9, F9, B9, Fm9, Bm9)) (hZ1 : zH D ca ad lnC K.2 L F B A H) (hZ2 : zH D ca ad2 lnM nM L2 Fm Bm A H) (hd : ∀ q ∈ L2, q ∉ L) (hS : va_S A s.heap H locs) (hxx : ad 12 x 0 = xx) (hmm : ad2 14 0 0 = mm) (hl : lv_has ls 4 [(3, .int (iI i)), (2, .ref mm), (1, .ref xx), (0, .ref b)]) (hrm : cells + cwC K K9 ≤ 600000 ∧ slots + swC K K9 ≤ 7302250)
    (kk : ∀ {ad' : Nat → Int → Nat → Nat} {L' : List Nat} {H' : Heap} {locs' : List Loc}, zG ad K.2 ad' K9.2 → zH D ca ad' lnC K9.2 L' F9 B9 A H' → zH D ca ad2 lnM nM L2 Fm9 Bm9 A H' → (∀ q ∈ L2, q ∉ L') → va_S A s.heap H' locs' → ad' 12 x 0 = xx → lv_has ls 4 [(3, .int (iI i)), (2, .ref mm), (1, .ref xx), (0, .ref b)] → W p l e room_1 s m #[Value.ref b] below meth c H' locs' (cells + cwC K K9) (slots + swC K K9) Q (F0 m 1191 ls [])) : W p l e room_1 s m #[Value.ref b] below meth c H locs cells slots Q (F0 m 425 ls []) := by
  obtain ⟨hx, hb, hr, hml, hown, hts, hlk, hK, hA, hL, hX⟩ := id X1
  have hG : zG ad K.2 ad K.2 := zG.rf
  replace hf : (if 0 ≤ (i + 1) ∧ (i + 1) < n then if 0 ≤ (i + 2) ∧ (i + 2) < n then if 0 ≤ (i + 3) ∧ (i + 3) < n then if 0 ≤ (i + 4) ∧ (i + 4) < n then if 0 ≤ (i + 5) ∧ (i + 5) < n then if 0 ≤ x ∧ x < K.2 12 then zbL (f_S_pitch K x ((scz xs) (i + 1)) ((scz xs) (i + 2)) ((scz xs) (i + 3)) ((scz xs) (i + 4)) ((scz xs) (i + 5)) F B) (fun r15 F15 B15 => if 0 ≤ (i + 1) ∧ (i + 1) < n then if 0 ≤ (i + 2) ∧ (i + 2) < n then if 0 ≤ (i + 3) ∧ (i + 3) < n then if 0 ≤ (i + 4) ∧ (i + 4) < n then if 0 ≤ (i + 5) ∧ (i + 5) < n then zbL (f_M_pitch Kr ((scz xs) (i + 1)) ((scz xs) (i + 2)) ((scz xs) (i + 3)) ((scz xs) (i + 4)) ((scz xs) (i + 5)) Fm Bm) (fun r22 F22 B22 => some (K, F15, B15, F22, B22)) else none else none else none else none else none) else none else none else none else none else none else none) = some (K9, F9, B9, Fm9, Bm9) := hf
  refine lv_aload_n hx hb d_code_425 rfl (lv_at hl 2 rfl) ?_
  refine lv_aload_n hx hb d_code_426 rfl (lv_at hl 3 rfl) ?_
  refine lv_iload_n hx hb d_code_427 rfl (lv_at hl 0 rfl) ?_
  refine lv_iconst (v := iI 1) hx hb d_code_428 rfl ?_
  refine zadd hx hb d_code_429 ?_
  obtain ⟨g10, hf⟩ := gif hf
  refine zsld hx hb hXs hbl hbA hS g10.1 g10.2 hL4 d_code_430 ?_
  refine lv_aload_n hx hb d_code_431 rfl (lv_at hl 3 rfl) ?_
  refine lv_iload_n hx hb d_code_432 rfl (lv_at hl 0 rfl) ?_
  refine lv_iconst (v := iI 2) hx hb d_code_433 rfl ?_
  refine zadd hx hb d_code_434 ?_
  obtain ⟨g11, hf⟩ := gif hf
  refine zsld hx hb hXs hbl hbA hS g11.1 g11.2 hL4 d_code_435 ?_
  refine lv_aload_n hx hb d_code_436 rfl (lv_at hl 3 rfl) ?_
  refine lv_iload_n hx hb d_code_437 rfl (lv_at hl 0 rfl) ?_
  refine lv_iconst (v := iI 3) hx hb d_code_438 rfl ?_
  refine zadd hx hb d_code_439 ?_
  obtain ⟨g12, hf⟩ := gif hf
  refine zsld hx hb hXs hbl hbA hS g12.1 g12.2 hL4 d_code_440 ?_
  refine lv_aload_n hx hb d_code_441 rfl (lv_at hl 3 rfl) ?_
  refine lv_iload_n hx hb d_code_442 rfl (lv_at hl 0 rfl) ?_
  refine lv_iconst (v := iI 4) hx hb d_code_443 rfl ?_
  refine zadd hx hb d_code_444 ?_
  obtain ⟨g13, hf⟩ := gif hf
  refine zsld hx hb hXs hbl hbA hS g13.1 g13.2 hL4 d_code_445 ?_
  refine lv_aload_n hx hb d_code_446 rfl (lv_at hl 3 rfl) ?_
  refine lv_iload_n hx hb d_code_447 rfl (lv_at hl 0 rfl) ?_
  refine lv_iconst (v := iI 5) hx hb d_code_448 rfl ?_
  refine zadd hx hb d_code_449 ?_
  obtain ⟨g14, hf⟩ := gif hf
  refine zsld hx hb hXs hbl hbA hS g14.1 g14.2 hL4 d_code_450 ?_
  obtain ⟨g16, hf⟩ := gif hf
  obtain ⟨r15, F15, B15, hc15, hf⟩ := gbL hf
  rw [← hxx]
  refine va_calli (va_runV (As := [.int (iI ((scz xs) (i + 1))), .int (iI ((scz xs) (i + 2))), .int (iI ((scz xs) (i + 3))), .int (iI ((scz xs) (i + 4))), .int (iI ((scz xs) (i + 5)))]) (rest := []) ⟨hx, hb, hml, hown, hts⟩ (c_S_pitch (l := l) hc15) (cwV 5 hts (gdV k_6_195 k_6_196 k_6_197 k_1_1 k_6_198) rfl rfl rfl (by decide +kernel) ⟨Nat.le_of_ble_eq_true rfl, Nat.le_of_ble_eq_true rfl⟩) (zPV X1 hZ1 hS (ci := 12) g16.1 g16.2 (r := (RX12, TX12, 10)) rfl [.int (iI ((scz xs) (i + 1))), .int (iI ((scz xs) (i + 2))), .int (iI ((scz xs) (i + 3))), .int (iI ((scz xs) (i + 4))), .int (iI ((scz xs) (i + 5)))]) rfl rfl hl.1 rfl (lv_room (Nat.le_of_ble_eq_true rfl)) d_code_451 ⟨by have h := hrm.1; show _ ≤ 600000; omega, by have h := hrm.2; show _ ≤ 7302250; omega⟩) hS (fun z _ h => zAin X1 hS z h) (zAin X1 hS) (fun p15 u15 t15 H15 locs15 ht15 hv15 hw15 hB15 hz15 hk15 hS15 => ?_)
  subst hw15
  have hZa15 := zBack X1 ht15 hB15
  have hZb15 := zH.beside hZ2 hd hk15
  refine lv_pop hx hb d_code_454 rfl ?_
  refine lv_aload_n hx hb d_code_455 rfl (lv_at hl 1 rfl) ?_
  refine lv_aload_n hx hb d_code_456 rfl (lv_at hl 3 rfl) ?_
  refine lv_iload_n hx hb d_code_457 rfl (lv_at hl 0 rfl) ?_
  refine lv_iconst (v := iI 1) hx hb d_code_458 rfl ?_
  refine zadd hx hb d_code_459 ?_
  obtain ⟨g17, hf⟩ := gif hf
  refine zsld hx hb hXs hbl hbA hS15 g17.1 g17.2 hL4 d_code_460 ?_
  refine lv_aload_n hx hb d_code_461 rfl (lv_at hl 3 rfl) ?_
  refine lv_iload_n hx hb d_code_462 rfl (lv_at hl 0 rfl) ?_
  refine lv_iconst (v := iI 2) hx hb d_code_463 rfl ?_
  refine zadd hx hb d_code_464 ?_
  obtain ⟨g18, hf⟩ := gif hf
  refine zsld hx hb hXs hbl hbA hS15 g18.1 g18.2 hL4 d_code_465 ?_
  refine lv_aload_n hx hb d_code_466 rfl (lv_at hl 3 rfl) ?_
  refine lv_iload_n hx hb d_code_467 rfl (lv_at hl 0 rfl) ?_
  refine lv_iconst (v := iI 3) hx hb d_code_468 rfl ?_
  refine zadd hx hb d_code_469 ?_
  obtain ⟨g19, hf⟩ := gif hf
  refine zsld hx hb hXs hbl hbA hS15 g19.1 g19.2 hL4 d_code_470 ?_
  refine lv_aload_n hx hb d_code_471 rfl (lv_at hl 3 rfl) ?_
  refine lv_iload_n hx hb d_code_472 rfl (lv_at hl 0 rfl) ?_
  refine lv_iconst (v := iI 4) hx hb d_code_473 rfl ?_
  refine zadd hx hb d_code_474 ?_
  obtain ⟨g20, hf⟩ := gif hf
  refine zsld hx hb hXs hbl hbA hS15 g20.1 g20.2 hL4 d_code_475 ?_
  refine lv_aload_n hx hb d_code_476 rfl (lv_at hl 3 rfl) ?_
  refine lv_iload_n hx hb d_code_477 rfl (lv_at hl 0 rfl) ?_
  refine lv_iconst (v := iI 5) hx hb d_code_478 rfl ?_
  refine zadd hx hb d_code_479 ?_
  obtain ⟨g21, hf⟩ := gif hf
  refine zsld hx hb hXs hbl hbA hS15 g21.1 g21.2 hL4 d_code_480 ?_
  obtain ⟨r22, F22, B22, hc22, hf⟩ := gbL hf
  rw [← hmm]
  refine va_calli (va_runV (As := [.int (iI ((scz xs) (i + 1))), .int (iI ((scz xs) (i + 2))), .int (iI ((scz xs) (i + 3))), .int (iI ((scz xs) (i + 4))), .int (iI ((scz xs) (i + 5)))]) (rest := []) ⟨hx, hb, hml, hown, hts⟩ (c_M_pitch (l := l) hc22) (cwV 5 hts (gdV k_15_162 k_15_163 k_15_164 k_1_9 k_15_165) rfl rfl rfl (by decide +kernel) ⟨Nat.le_of_ble_eq_true rfl, Nat.le_of_ble_eq_true rfl⟩) (zPV X2 hZb15 hS15 (ci := 14) (by decide) (by decide) (r := (RX14, TX14, 107)) rfl [.int (iI ((scz xs) (i + 1))), .int (iI ((scz xs) (i + 2))), .int (iI ((scz xs) (i + 3))), .int (iI ((scz xs) (i + 4))), .int (iI ((scz xs) (i + 5)))]) rfl rfl hl.1 rfl (lv_room (Nat.le_of_ble_eq_true rfl)) d_code_481 ⟨by have h := hrm.1; show _ ≤ 600000; omega, by have h := hrm.2; show _ ≤ 7302250; omega⟩) hS15 (fun z _ h => zAin X2 hS15 z h) (zAin X2 hS15) (fun p22 u22 t22 H22 locs22 ht22 hv22 hw22 hB22 hz22 hk22 hS22 => ?_)
  subst hw22
  have hZb22 := zBack X2 ht22 hB22
  have hZa22 := zH.beside hZa15 (fun z h1 h2 => hd z h2 h1) hk22
  refine lv_pop hx hb d_code_484 rfl ?_
  refine lv_goto (tgt := 1191) hx hb d_code_485 (by decide) ?_
  cases hf
  refine W.widen (k := cells + cwC K K) (n := slots + swC K K) (by omega) (by omega) ?_
  exact kk hG hZa22 hZb22 hd hS22 hxx hl
def ls_8 (Kr : Nat) (x : Int) (sc : Int → Int) (n i : Int) (K : zK) (F : zF) (B : zB) (Fm : zF) (Bm : zB) : zL := if 0 ≤ (i + 1) ∧ (i + 1) < n then if 0 ≤ (i + 2) ∧ (i + 2) < n then if 0 ≤ (i + 3) ∧ (i + 3) < n then if 0 ≤ (i + 4) ∧ (i + 4) < n then if 0 ≤ x ∧ x < K.2 12 then zbL (f_S_note K x (sc (i + 1)) (sc (i + 2)) (sc (i + 3)) (sc (i + 4)) F B) (fun r14 F14 B14 => if 0 ≤ (i + 1) ∧ (i + 1) < n then if 0 ≤ (i + 2) ∧ (i + 2) < n then if 0 ≤ (i + 3) ∧ (i + 3) < n then if 0 ≤ (i + 4) ∧ (i + 4) < n then zbL (f_M_note_0 Kr (sc (i + 1)) (sc (i + 2)) (sc (i + 3)) (sc (i + 4)) Fm Bm) (fun r20 F20 B20 => some (K, F14, B14, F20, B20)) else none else none else none else none) else none else none else none else none else none
set_option maxHeartbeats 4000000 in
set_option maxRecDepth 100000 in
theorem lc_8 {D : va_G} {ca : Nat → ClassId} {ad ad2 : Nat → Int → Nat → Nat} {L L2 : List Nat} {aS vS : Nat → Nat} {A : Nat → Prop} {p : Program} {l : Launch} {e : Env} {s : State} {m : MethodId} {below : List Frame} {meth : Method} {c : Code} {b n : Nat} {xs : Nat → Int32} {xx mm : Nat} {x i : Int} {Kr : Nat} {K K9 : zK} {F Fm F9 Fm9 : zF} {B Bm B9 Bm9 : zB} {H : Heap} {locs : List Loc} {cells slots : Nat} {Q : State → Prop} {ls : Array Slot}
    (X1 : zX D ca L aS vS A p s m #[Value.ref b] meth c code 4 ret "StaveHouseLaw") (X2 : zX D ca L2 aS vS A p s m #[Value.ref b] meth c code 4 ret "StaveHouseLaw") (hXs : va_X b n xs s s.heap) (hbl : b < s.heap.size) (hbA : ¬ A b) (hL4 : n ≤ 2147483647) (hf : ls_8 Kr x (scz xs) n i K F B Fm Bm = some (K9, F9, B9, Fm9, Bm9)) (hZ1 : zH D ca ad lnC K.2 L F B A H) (hZ2 : zH D ca ad2 lnM nM L2 Fm Bm A H) (hd : ∀ q ∈ L2, q ∉ L) (hS : va_S A s.heap H locs) (hxx : ad 12 x 0 = xx) (hmm : ad2 14 0 0 = mm) (hl : lv_has ls 4 [(3, .int (iI i)), (2, .ref mm), (1, .ref xx), (0, .ref b)]) (hrm : cells + cwC K K9 ≤ 600000 ∧ slots + swC K K9 ≤ 7302250)
    (kk : ∀ {ad' : Nat → Int → Nat → Nat} {L' : List Nat} {H' : Heap} {locs' : List Loc}, zG ad K.2 ad' K9.2 → zH D ca ad' lnC K9.2 L' F9 B9 A H' → zH D ca ad2 lnM nM L2 Fm9 Bm9 A H' → (∀ q ∈ L2, q ∉ L') → va_S A s.heap H' locs' → ad' 12 x 0 = xx → lv_has ls 4 [(3, .int (iI i)), (2, .ref mm), (1, .ref xx), (0, .ref b)] → W p l e room_1 s m #[Value.ref b] below meth c H' locs' (cells + cwC K K9) (slots + swC K K9) Q (F0 m 1191 ls [])) : W p l e room_1 s m #[Value.ref b] below meth c H locs cells slots Q (F0 m 488 ls []) := by
  obtain ⟨hx, hb, hr, hml, hown, hts, hlk, hK, hA, hL, hX⟩ := id X1
  have hG : zG ad K.2 ad K.2 := zG.rf
  replace hf : (if 0 ≤ (i + 1) ∧ (i + 1) < n then if 0 ≤ (i + 2) ∧ (i + 2) < n then if 0 ≤ (i + 3) ∧ (i + 3) < n then if 0 ≤ (i + 4) ∧ (i + 4) < n then if 0 ≤ x ∧ x < K.2 12 then zbL (f_S_note K x ((scz xs) (i + 1)) ((scz xs) (i + 2)) ((scz xs) (i + 3)) ((scz xs) (i + 4)) F B) (fun r14 F14 B14 => if 0 ≤ (i + 1) ∧ (i + 1) < n then if 0 ≤ (i + 2) ∧ (i + 2) < n then if 0 ≤ (i + 3) ∧ (i + 3) < n then if 0 ≤ (i + 4) ∧ (i + 4) < n then zbL (f_M_note_0 Kr ((scz xs) (i + 1)) ((scz xs) (i + 2)) ((scz xs) (i + 3)) ((scz xs) (i + 4)) Fm Bm) (fun r20 F20 B20 => some (K, F14, B14, F20, B20)) else none else none else none else none) else none else none else none else none else none) = some (K9, F9, B9, Fm9, Bm9) := hf
  refine lv_aload_n hx hb d_code_488 rfl (lv_at hl 2 rfl) ?_
  refine lv_aload_n hx hb d_code_489 rfl (lv_at hl 3 rfl) ?_
  refine lv_iload_n hx hb d_code_490 rfl (lv_at hl 0 rfl) ?_
  refine lv_iconst (v := iI 1) hx hb d_code_491 rfl ?_
  refine zadd hx hb d_code_492 ?_
  obtain ⟨g10, hf⟩ := gif hf
  refine zsld hx hb hXs hbl hbA hS g10.1 g10.2 hL4 d_code_493 ?_
  refine lv_aload_n hx hb d_code_494 rfl (lv_at hl 3 rfl) ?_
  refine lv_iload_n hx hb d_code_495 rfl (lv_at hl 0 rfl) ?_
  refine lv_iconst (v := iI 2) hx hb d_code_496 rfl ?_
  refine zadd hx hb d_code_497 ?_
  obtain ⟨g11, hf⟩ := gif hf
  refine zsld hx hb hXs hbl hbA hS g11.1 g11.2 hL4 d_code_498 ?_
  refine lv_aload_n hx hb d_code_499 rfl (lv_at hl 3 rfl) ?_
  refine lv_iload_n hx hb d_code_500 rfl (lv_at hl 0 rfl) ?_
  refine lv_iconst (v := iI 3) hx hb d_code_501 rfl ?_
  refine zadd hx hb d_code_502 ?_
  obtain ⟨g12, hf⟩ := gif hf
  refine zsld hx hb hXs hbl hbA hS g12.1 g12.2 hL4 d_code_503 ?_
  refine lv_aload_n hx hb d_code_504 rfl (lv_at hl 3 rfl) ?_
  refine lv_iload_n hx hb d_code_505 rfl (lv_at hl 0 rfl) ?_
  refine lv_iconst (v := iI 4) hx hb d_code_506 rfl ?_
  refine zadd hx hb d_code_507 ?_
  obtain ⟨g13, hf⟩ := gif hf
  refine zsld hx hb hXs hbl hbA hS g13.1 g13.2 hL4 d_code_508 ?_
  obtain ⟨g15, hf⟩ := gif hf
  obtain ⟨r14, F14, B14, hc14, hf⟩ := gbL hf
  rw [← hxx]
  refine va_calll (va_runV (As := [.int (iI ((scz xs) (i + 1))), .int (iI ((scz xs) (i + 2))), .int (iI ((scz xs) (i + 3))), .int (iI ((scz xs) (i + 4)))]) (rest := []) ⟨hx, hb, hml, hown, hts⟩ (c_S_note (l := l) hc14) (cwV 4 hts (gdV k_6_201 k_6_202 k_6_203 k_1_1 k_6_204) rfl rfl rfl (by decide +kernel) ⟨Nat.le_of_ble_eq_true rfl, Nat.le_of_ble_eq_true rfl⟩) (zPV X1 hZ1 hS (ci := 12) g15.1 g15.2 (r := (RX12, TX12, 10)) rfl [.int (iI ((scz xs) (i + 1))), .int (iI ((scz xs) (i + 2))), .int (iI ((scz xs) (i + 3))), .int (iI ((scz xs) (i + 4)))]) rfl rfl hl.1 rfl (lv_room (Nat.le_of_ble_eq_true rfl)) d_code_509 ⟨by have h := hrm.1; show _ ≤ 600000; omega, by have h := hrm.2; show _ ≤ 7302250; omega⟩) hS (fun z _ h => zAin X1 hS z h) (zAin X1 hS) (fun p14 u14 t14 H14 locs14 ht14 hv14 hw14 hB14 hz14 hk14 hS14 => ?_)
  subst hw14
  have hZa14 := zBack X1 ht14 hB14
  have hZb14 := zH.beside hZ2 hd hk14
  refine lv_pop2_2 hx hb d_code_512 rfl ?_
  refine lv_aload_n hx hb d_code_513 rfl (lv_at hl 1 rfl) ?_
  refine lv_aload_n hx hb d_code_514 rfl (lv_at hl 3 rfl) ?_
  refine lv_iload_n hx hb d_code_515 rfl (lv_at hl 0 rfl) ?_
  refine lv_iconst (v := iI 1) hx hb d_code_516 rfl ?_
  refine zadd hx hb d_code_517 ?_
  obtain ⟨g16, hf⟩ := gif hf
  refine zsld hx hb hXs hbl hbA hS14 g16.1 g16.2 hL4 d_code_518 ?_
  refine lv_aload_n hx hb d_code_519 rfl (lv_at hl 3 rfl) ?_
  refine lv_iload_n hx hb d_code_520 rfl (lv_at hl 0 rfl) ?_
  refine lv_iconst (v := iI 2) hx hb d_code_521 rfl ?_
  refine zadd hx hb d_code_522 ?_
  obtain ⟨g17, hf⟩ := gif hf
  refine zsld hx hb hXs hbl hbA hS14 g17.1 g17.2 hL4 d_code_523 ?_
  refine lv_aload_n hx hb d_code_524 rfl (lv_at hl 3 rfl) ?_
  refine lv_iload_n hx hb d_code_525 rfl (lv_at hl 0 rfl) ?_
  refine lv_iconst (v := iI 3) hx hb d_code_526 rfl ?_
  refine zadd hx hb d_code_527 ?_
  obtain ⟨g18, hf⟩ := gif hf
  refine zsld hx hb hXs hbl hbA hS14 g18.1 g18.2 hL4 d_code_528 ?_
  refine lv_aload_n hx hb d_code_529 rfl (lv_at hl 3 rfl) ?_
  refine lv_iload_n hx hb d_code_530 rfl (lv_at hl 0 rfl) ?_
  refine lv_iconst (v := iI 4) hx hb d_code_531 rfl ?_
  refine zadd hx hb d_code_532 ?_
  obtain ⟨g19, hf⟩ := gif hf
  refine zsld hx hb hXs hbl hbA hS14 g19.1 g19.2 hL4 d_code_533 ?_
  obtain ⟨r20, F20, B20, hc20, hf⟩ := gbL hf
  rw [← hmm]
  refine va_calll (va_runV (As := [.int (iI ((scz xs) (i + 1))), .int (iI ((scz xs) (i + 2))), .int (iI ((scz xs) (i + 3))), .int (iI ((scz xs) (i + 4)))]) (rest := []) ⟨hx, hb, hml, hown, hts⟩ (c_M_note_0 (l := l) hc20) (cwV 4 hts (gdV k_15_166 k_15_167 k_15_168 k_1_9 k_15_169) rfl rfl rfl (by decide +kernel) ⟨Nat.le_of_ble_eq_true rfl, Nat.le_of_ble_eq_true rfl⟩) (zPV X2 hZb14 hS14 (ci := 14) (by decide) (by decide) (r := (RX14, TX14, 107)) rfl [.int (iI ((scz xs) (i + 1))), .int (iI ((scz xs) (i + 2))), .int (iI ((scz xs) (i + 3))), .int (iI ((scz xs) (i + 4)))]) rfl rfl hl.1 rfl (lv_room (Nat.le_of_ble_eq_true rfl)) d_code_534 ⟨by have h := hrm.1; show _ ≤ 600000; omega, by have h := hrm.2; show _ ≤ 7302250; omega⟩) hS14 (fun z _ h => zAin X2 hS14 z h) (zAin X2 hS14) (fun p20 u20 t20 H20 locs20 ht20 hv20 hw20 hB20 hz20 hk20 hS20 => ?_)
  subst hw20
  have hZb20 := zBack X2 ht20 hB20
  have hZa20 := zH.beside hZa14 (fun z h1 h2 => hd z h2 h1) hk20
  refine lv_pop2_2 hx hb d_code_537 rfl ?_
  refine lv_goto (tgt := 1191) hx hb d_code_538 (by decide) ?_
  cases hf
  refine W.widen (k := cells + cwC K K) (n := slots + swC K K) (by omega) (by omega) ?_
  exact kk hG hZa20 hZb20 hd hS20 hxx hl
def ls_9 (Kr : Nat) (x : Int) (sc : Int → Int) (n i : Int) (K : zK) (F : zF) (B : zB) (Fm : zF) (Bm : zB) : zL := if 0 ≤ (i + 1) ∧ (i + 1) < n then if 0 ≤ (i + 2) ∧ (i + 2) < n then if 0 ≤ x ∧ x < K.2 12 then zbM (f_S_lines K x (sc (i + 1)) (sc (i + 2)) F B) (fun r12 F12 B12 K12 => if 0 ≤ (i + 1) ∧ (i + 1) < n then if 0 ≤ (i + 2) ∧ (i + 2) < n then zbL (f_M_lines Kr (sc (i + 1)) (sc (i + 2)) Fm Bm) (fun r16 F16 B16 => some (K12, F12, B12, F16, B16)) else none else none) else none else none else none
set_option maxHeartbeats 4000000 in
set_option maxRecDepth 100000 in
theorem lc_9 {D : va_G} {ca : Nat → ClassId} {ad ad2 : Nat → Int → Nat → Nat} {L L2 : List Nat} {aS vS : Nat → Nat} {A : Nat → Prop} {p : Program} {l : Launch} {e : Env} {s : State} {m : MethodId} {below : List Frame} {meth : Method} {c : Code} {b n : Nat} {xs : Nat → Int32} {xx mm : Nat} {x i : Int} {Kr : Nat} {K K9 : zK} {F Fm F9 Fm9 : zF} {B Bm B9 Bm9 : zB} {H : Heap} {locs : List Loc} {cells slots : Nat} {Q : State → Prop} {ls : Array Slot}
    (X1 : zX D ca L aS vS A p s m #[Value.ref b] meth c code 4 ret "StaveHouseLaw") (X2 : zX D ca L2 aS vS A p s m #[Value.ref b] meth c code 4 ret "StaveHouseLaw") (hXs : va_X b n xs s s.heap) (hbl : b < s.heap.size) (hbA : ¬ A b) (hL4 : n ≤ 2147483647) (hf : ls_9 Kr x (scz xs) n i K F B Fm Bm = some (K9, F9, B9, Fm9, Bm9)) (hZ1 : zH D ca ad lnC K.2 L F B A H) (hZ2 : zH D ca ad2 lnM nM L2 Fm Bm A H) (hd : ∀ q ∈ L2, q ∉ L) (hS : va_S A s.heap H locs) (hxx : ad 12 x 0 = xx) (hmm : ad2 14 0 0 = mm) (hl : lv_has ls 4 [(3, .int (iI i)), (2, .ref mm), (1, .ref xx), (0, .ref b)]) (hrm : cells + cwC K K9 ≤ 600000 ∧ slots + swC K K9 ≤ 7302250)
    (kk : ∀ {ad' : Nat → Int → Nat → Nat} {L' : List Nat} {H' : Heap} {locs' : List Loc}, zG ad K.2 ad' K9.2 → zH D ca ad' lnC K9.2 L' F9 B9 A H' → zH D ca ad2 lnM nM L2 Fm9 Bm9 A H' → (∀ q ∈ L2, q ∉ L') → va_S A s.heap H' locs' → ad' 12 x 0 = xx → lv_has ls 4 [(3, .int (iI i)), (2, .ref mm), (1, .ref xx), (0, .ref b)] → W p l e room_1 s m #[Value.ref b] below meth c H' locs' (cells + cwC K K9) (slots + swC K K9) Q (F0 m 1191 ls [])) : W p l e room_1 s m #[Value.ref b] below meth c H locs cells slots Q (F0 m 541 ls []) := by
  obtain ⟨hx, hb, hr, hml, hown, hts, hlk, hK, hA, hL, hX⟩ := id X1
  have hG : zG ad K.2 ad K.2 := zG.rf
  replace hf : (if 0 ≤ (i + 1) ∧ (i + 1) < n then if 0 ≤ (i + 2) ∧ (i + 2) < n then if 0 ≤ x ∧ x < K.2 12 then zbM (f_S_lines K x ((scz xs) (i + 1)) ((scz xs) (i + 2)) F B) (fun r12 F12 B12 K12 => if 0 ≤ (i + 1) ∧ (i + 1) < n then if 0 ≤ (i + 2) ∧ (i + 2) < n then zbL (f_M_lines Kr ((scz xs) (i + 1)) ((scz xs) (i + 2)) Fm Bm) (fun r16 F16 B16 => some (K12, F12, B12, F16, B16)) else none else none) else none else none else none) = some (K9, F9, B9, Fm9, Bm9) := hf
  refine lv_aload_n hx hb d_code_541 rfl (lv_at hl 2 rfl) ?_
  refine lv_aload_n hx hb d_code_542 rfl (lv_at hl 3 rfl) ?_
  refine lv_iload_n hx hb d_code_543 rfl (lv_at hl 0 rfl) ?_
  refine lv_iconst (v := iI 1) hx hb d_code_544 rfl ?_
  refine zadd hx hb d_code_545 ?_
  obtain ⟨g10, hf⟩ := gif hf
  refine zsld hx hb hXs hbl hbA hS g10.1 g10.2 hL4 d_code_546 ?_
  refine lv_aload_n hx hb d_code_547 rfl (lv_at hl 3 rfl) ?_
  refine lv_iload_n hx hb d_code_548 rfl (lv_at hl 0 rfl) ?_
  refine lv_iconst (v := iI 2) hx hb d_code_549 rfl ?_
  refine zadd hx hb d_code_550 ?_
  obtain ⟨g11, hf⟩ := gif hf
  refine zsld hx hb hXs hbl hbA hS g11.1 g11.2 hL4 d_code_551 ?_
  obtain ⟨g13, hf⟩ := gif hf
  obtain ⟨r12, F12, B12, K12, hc12, hf⟩ := gbM hf
  rw [← hxx]
  have hK12 : K9 = K12 := by
    have h := hf
    obtain ⟨-, h⟩ := gif h
    obtain ⟨-, h⟩ := gif h
    obtain ⟨_, _, _, _, h⟩ := gbL h
    cases h
    rfl
  have hrm12 : cells + cwC K K12 ≤ 600000 ∧ slots + swC K K12 ≤ 7302250 := by rw [← hK12]; exact hrm
  refine va_calli (va_runV (As := [.int (iI ((scz xs) (i + 1))), .int (iI ((scz xs) (i + 2)))]) (rest := []) ⟨hx, hb, hml, hown, hts⟩ (c_S_lines (l := l) hc12) (cwV 2 hts (gdV k_6_205 k_6_206 k_6_207 k_1_1 k_6_208) rfl rfl rfl (by decide +kernel) ⟨Nat.le_of_ble_eq_true rfl, Nat.le_of_ble_eq_true rfl⟩) (zPV X1 hZ1 hS (ci := 12) g13.1 g13.2 (r := (RX12, TX12, 10)) rfl [.int (iI ((scz xs) (i + 1))), .int (iI ((scz xs) (i + 2)))]) rfl rfl hl.1 rfl (lv_room (Nat.le_of_ble_eq_true rfl)) d_code_552 ⟨by have h := hrm12.1; show _ ≤ 600000; omega, by have h := hrm12.2; show _ ≤ 7302250; omega⟩) hS (fun z _ h => zAin X1 hS z h) (zAin X1 hS) (fun p12 u12 t12 H12 locs12 ht12 hv12 hw12 hB12 hz12 hk12 hS12 => ?_)
  obtain ⟨ad12, L12⟩ := u12
  obtain ⟨hw12, hg12⟩ := hw12
  subst hw12
  have hZa12 := zBackM X1 hS ht12 hB12
  have hd12 := zd_grow hZ2 hd hB12
  have X12 := X1.grow hZa12.inA
  have hxx12 : ad12 12 x 0 = xx := (hg12.2 12 x 0 g13.1 g13.2).trans hxx
  have hG12 := hG.tr hg12
  have hZb12 := zH.beside hZ2 hd hk12
  refine lv_pop hx hb d_code_555 rfl ?_
  refine lv_aload_n hx hb d_code_556 rfl (lv_at hl 1 rfl) ?_
  refine lv_aload_n hx hb d_code_557 rfl (lv_at hl 3 rfl) ?_
  refine lv_iload_n hx hb d_code_558 rfl (lv_at hl 0 rfl) ?_
  refine lv_iconst (v := iI 1) hx hb d_code_559 rfl ?_
  refine zadd hx hb d_code_560 ?_
  obtain ⟨g14, hf⟩ := gif hf
  refine zsld hx hb hXs hbl hbA hS12 g14.1 g14.2 hL4 d_code_561 ?_
  refine lv_aload_n hx hb d_code_562 rfl (lv_at hl 3 rfl) ?_
  refine lv_iload_n hx hb d_code_563 rfl (lv_at hl 0 rfl) ?_
  refine lv_iconst (v := iI 2) hx hb d_code_564 rfl ?_
  refine zadd hx hb d_code_565 ?_
  obtain ⟨g15, hf⟩ := gif hf
  refine zsld hx hb hXs hbl hbA hS12 g15.1 g15.2 hL4 d_code_566 ?_
  obtain ⟨r16, F16, B16, hc16, hf⟩ := gbL hf
  rw [← hmm]
  refine va_calli (va_runV (As := [.int (iI ((scz xs) (i + 1))), .int (iI ((scz xs) (i + 2)))]) (rest := []) ⟨hx, hb, hml, hown, hts⟩ (c_M_lines (l := l) hc16) (cwV 2 hts (gdV k_12_88 k_12_89 k_12_90 k_1_9 k_12_91) rfl rfl rfl (by decide +kernel) ⟨Nat.le_of_ble_eq_true rfl, Nat.le_of_ble_eq_true rfl⟩) (zPV X2 hZb12 hS12 (ci := 14) (by decide) (by decide) (r := (RX14, TX14, 107)) rfl [.int (iI ((scz xs) (i + 1))), .int (iI ((scz xs) (i + 2)))]) rfl rfl hl.1 rfl (lv_room (Nat.le_of_ble_eq_true rfl)) d_code_567 ⟨by have h := hrm12.1; show _ ≤ 600000; omega, by have h := hrm12.2; show _ ≤ 7302250; omega⟩) hS12 (fun z _ h => zAin X2 hS12 z h) (zAin X2 hS12) (fun p16 u16 t16 H16 locs16 ht16 hv16 hw16 hB16 hz16 hk16 hS16 => ?_)
  subst hw16
  have hZb16 := zBack X2 ht16 hB16
  have hZa16 := zH.beside hZa12 (fun z h1 h2 => hd12 z h2 h1) hk16
  refine lv_pop hx hb d_code_570 rfl ?_
  refine lv_goto (tgt := 1191) hx hb d_code_571 (by decide) ?_
  cases hf
  refine W.widen (k := cells + cwC K K9) (n := slots + swC K K9) (by omega) (by omega) ?_
  exact kk hG12 hZa16 hZb16 hd12 hS16 hxx12 hl
def ls_10 (Kr : Nat) (x : Int) (sc : Int → Int) (n i : Int) (K : zK) (F : zF) (B : zB) (Fm : zF) (Bm : zB) : zL := if 0 ≤ (i + 1) ∧ (i + 1) < n then if 0 ≤ (i + 2) ∧ (i + 2) < n then if 0 ≤ (i + 3) ∧ (i + 3) < n then if 0 ≤ x ∧ x < K.2 12 then zbL (f_S_line K x (sc (i + 1)) (sc (i + 2)) (sc (i + 3)) F B) (fun r13 F13 B13 => if 0 ≤ (i + 1) ∧ (i + 1) < n then if 0 ≤ (i + 2) ∧ (i + 2) < n then if 0 ≤ (i + 3) ∧ (i + 3) < n then zbL (f_M_line Kr (sc (i + 1)) (sc (i + 2)) (sc (i + 3)) Fm Bm) (fun r18 F18 B18 => some (K, F13, B13, F18, B18)) else none else none else none) else none else none else none else none
set_option maxHeartbeats 4000000 in
set_option maxRecDepth 100000 in
theorem lc_10 {D : va_G} {ca : Nat → ClassId} {ad ad2 : Nat → Int → Nat → Nat} {L L2 : List Nat} {aS vS : Nat → Nat} {A : Nat → Prop} {p : Program} {l : Launch} {e : Env} {s : State} {m : MethodId} {below : List Frame} {meth : Method} {c : Code} {b n : Nat} {xs : Nat → Int32} {xx mm : Nat} {x i : Int} {Kr : Nat} {K K9 : zK} {F Fm F9 Fm9 : zF} {B Bm B9 Bm9 : zB} {H : Heap} {locs : List Loc} {cells slots : Nat} {Q : State → Prop} {ls : Array Slot}
    (X1 : zX D ca L aS vS A p s m #[Value.ref b] meth c code 4 ret "StaveHouseLaw") (X2 : zX D ca L2 aS vS A p s m #[Value.ref b] meth c code 4 ret "StaveHouseLaw") (hXs : va_X b n xs s s.heap) (hbl : b < s.heap.size) (hbA : ¬ A b) (hL4 : n ≤ 2147483647) (hf : ls_10 Kr x (scz xs) n i K F B Fm Bm = some (K9, F9, B9, Fm9, Bm9)) (hZ1 : zH D ca ad lnC K.2 L F B A H) (hZ2 : zH D ca ad2 lnM nM L2 Fm Bm A H) (hd : ∀ q ∈ L2, q ∉ L) (hS : va_S A s.heap H locs) (hxx : ad 12 x 0 = xx) (hmm : ad2 14 0 0 = mm) (hl : lv_has ls 4 [(3, .int (iI i)), (2, .ref mm), (1, .ref xx), (0, .ref b)]) (hrm : cells + cwC K K9 ≤ 600000 ∧ slots + swC K K9 ≤ 7302250)
    (kk : ∀ {ad' : Nat → Int → Nat → Nat} {L' : List Nat} {H' : Heap} {locs' : List Loc}, zG ad K.2 ad' K9.2 → zH D ca ad' lnC K9.2 L' F9 B9 A H' → zH D ca ad2 lnM nM L2 Fm9 Bm9 A H' → (∀ q ∈ L2, q ∉ L') → va_S A s.heap H' locs' → ad' 12 x 0 = xx → lv_has ls 4 [(3, .int (iI i)), (2, .ref mm), (1, .ref xx), (0, .ref b)] → W p l e room_1 s m #[Value.ref b] below meth c H' locs' (cells + cwC K K9) (slots + swC K K9) Q (F0 m 1191 ls [])) : W p l e room_1 s m #[Value.ref b] below meth c H locs cells slots Q (F0 m 574 ls []) := by
  obtain ⟨hx, hb, hr, hml, hown, hts, hlk, hK, hA, hL, hX⟩ := id X1
  have hG : zG ad K.2 ad K.2 := zG.rf
  replace hf : (if 0 ≤ (i + 1) ∧ (i + 1) < n then if 0 ≤ (i + 2) ∧ (i + 2) < n then if 0 ≤ (i + 3) ∧ (i + 3) < n then if 0 ≤ x ∧ x < K.2 12 then zbL (f_S_line K x ((scz xs) (i + 1)) ((scz xs) (i + 2)) ((scz xs) (i + 3)) F B) (fun r13 F13 B13 => if 0 ≤ (i + 1) ∧ (i + 1) < n then if 0 ≤ (i + 2) ∧ (i + 2) < n then if 0 ≤ (i + 3) ∧ (i + 3) < n then zbL (f_M_line Kr ((scz xs) (i + 1)) ((scz xs) (i + 2)) ((scz xs) (i + 3)) Fm Bm) (fun r18 F18 B18 => some (K, F13, B13, F18, B18)) else none else none else none) else none else none else none else none) = some (K9, F9, B9, Fm9, Bm9) := hf
  refine lv_aload_n hx hb d_code_574 rfl (lv_at hl 2 rfl) ?_
  refine lv_aload_n hx hb d_code_575 rfl (lv_at hl 3 rfl) ?_
  refine lv_iload_n hx hb d_code_576 rfl (lv_at hl 0 rfl) ?_
  refine lv_iconst (v := iI 1) hx hb d_code_577 rfl ?_
  refine zadd hx hb d_code_578 ?_
  obtain ⟨g10, hf⟩ := gif hf
  refine zsld hx hb hXs hbl hbA hS g10.1 g10.2 hL4 d_code_579 ?_
  refine lv_aload_n hx hb d_code_580 rfl (lv_at hl 3 rfl) ?_
  refine lv_iload_n hx hb d_code_581 rfl (lv_at hl 0 rfl) ?_
  refine lv_iconst (v := iI 2) hx hb d_code_582 rfl ?_
  refine zadd hx hb d_code_583 ?_
  obtain ⟨g11, hf⟩ := gif hf
  refine zsld hx hb hXs hbl hbA hS g11.1 g11.2 hL4 d_code_584 ?_
  refine lv_aload_n hx hb d_code_585 rfl (lv_at hl 3 rfl) ?_
  refine lv_iload_n hx hb d_code_586 rfl (lv_at hl 0 rfl) ?_
  refine lv_iconst (v := iI 3) hx hb d_code_587 rfl ?_
  refine zadd hx hb d_code_588 ?_
  obtain ⟨g12, hf⟩ := gif hf
  refine zsld hx hb hXs hbl hbA hS g12.1 g12.2 hL4 d_code_589 ?_
  obtain ⟨g14, hf⟩ := gif hf
  obtain ⟨r13, F13, B13, hc13, hf⟩ := gbL hf
  rw [← hxx]
  refine va_calll (va_runV (As := [.int (iI ((scz xs) (i + 1))), .int (iI ((scz xs) (i + 2))), .int (iI ((scz xs) (i + 3)))]) (rest := []) ⟨hx, hb, hml, hown, hts⟩ (c_S_line (l := l) hc13) (cwV 3 hts (gdV k_7_67 k_7_68 k_7_69 k_1_1 k_7_70) rfl rfl rfl (by decide +kernel) ⟨Nat.le_of_ble_eq_true rfl, Nat.le_of_ble_eq_true rfl⟩) (zPV X1 hZ1 hS (ci := 12) g14.1 g14.2 (r := (RX12, TX12, 10)) rfl [.int (iI ((scz xs) (i + 1))), .int (iI ((scz xs) (i + 2))), .int (iI ((scz xs) (i + 3)))]) rfl rfl hl.1 rfl (lv_room (Nat.le_of_ble_eq_true rfl)) d_code_590 ⟨by have h := hrm.1; show _ ≤ 600000; omega, by have h := hrm.2; show _ ≤ 7302250; omega⟩) hS (fun z _ h => zAin X1 hS z h) (zAin X1 hS) (fun p13 u13 t13 H13 locs13 ht13 hv13 hw13 hB13 hz13 hk13 hS13 => ?_)
  subst hw13
  have hZa13 := zBack X1 ht13 hB13
  have hZb13 := zH.beside hZ2 hd hk13
  refine lv_pop2_2 hx hb d_code_593 rfl ?_
  refine lv_aload_n hx hb d_code_594 rfl (lv_at hl 1 rfl) ?_
  refine lv_aload_n hx hb d_code_595 rfl (lv_at hl 3 rfl) ?_
  refine lv_iload_n hx hb d_code_596 rfl (lv_at hl 0 rfl) ?_
  refine lv_iconst (v := iI 1) hx hb d_code_597 rfl ?_
  refine zadd hx hb d_code_598 ?_
  obtain ⟨g15, hf⟩ := gif hf
  refine zsld hx hb hXs hbl hbA hS13 g15.1 g15.2 hL4 d_code_599 ?_
  refine lv_aload_n hx hb d_code_600 rfl (lv_at hl 3 rfl) ?_
  refine lv_iload_n hx hb d_code_601 rfl (lv_at hl 0 rfl) ?_
  refine lv_iconst (v := iI 2) hx hb d_code_602 rfl ?_
  refine zadd hx hb d_code_603 ?_
  obtain ⟨g16, hf⟩ := gif hf
  refine zsld hx hb hXs hbl hbA hS13 g16.1 g16.2 hL4 d_code_604 ?_
  refine lv_aload_n hx hb d_code_605 rfl (lv_at hl 3 rfl) ?_
  refine lv_iload_n hx hb d_code_606 rfl (lv_at hl 0 rfl) ?_
  refine lv_iconst (v := iI 3) hx hb d_code_607 rfl ?_
  refine zadd hx hb d_code_608 ?_
  obtain ⟨g17, hf⟩ := gif hf
  refine zsld hx hb hXs hbl hbA hS13 g17.1 g17.2 hL4 d_code_609 ?_
  obtain ⟨r18, F18, B18, hc18, hf⟩ := gbL hf
  rw [← hmm]
  refine va_calll (va_runV (As := [.int (iI ((scz xs) (i + 1))), .int (iI ((scz xs) (i + 2))), .int (iI ((scz xs) (i + 3)))]) (rest := []) ⟨hx, hb, hml, hown, hts⟩ (c_M_line (l := l) hc18) (cwV 3 hts (gdV k_12_107 k_12_108 k_12_109 k_1_9 k_12_110) rfl rfl rfl (by decide +kernel) ⟨Nat.le_of_ble_eq_true rfl, Nat.le_of_ble_eq_true rfl⟩) (zPV X2 hZb13 hS13 (ci := 14) (by decide) (by decide) (r := (RX14, TX14, 107)) rfl [.int (iI ((scz xs) (i + 1))), .int (iI ((scz xs) (i + 2))), .int (iI ((scz xs) (i + 3)))]) rfl rfl hl.1 rfl (lv_room (Nat.le_of_ble_eq_true rfl)) d_code_610 ⟨by have h := hrm.1; show _ ≤ 600000; omega, by have h := hrm.2; show _ ≤ 7302250; omega⟩) hS13 (fun z _ h => zAin X2 hS13 z h) (zAin X2 hS13) (fun p18 u18 t18 H18 locs18 ht18 hv18 hw18 hB18 hz18 hk18 hS18 => ?_)
  subst hw18
  have hZb18 := zBack X2 ht18 hB18
  have hZa18 := zH.beside hZa13 (fun z h1 h2 => hd z h2 h1) hk18
  refine lv_pop2_2 hx hb d_code_613 rfl ?_
  refine lv_goto (tgt := 1191) hx hb d_code_614 (by decide) ?_
  cases hf
  refine W.widen (k := cells + cwC K K) (n := slots + swC K K) (by omega) (by omega) ?_
  exact kk hG hZa18 hZb18 hd hS18 hxx hl
def ls_11 (Kr : Nat) (x : Int) (sc : Int → Int) (n i : Int) (K : zK) (F : zF) (B : zB) (Fm : zF) (Bm : zB) : zL := if 0 ≤ (i + 1) ∧ (i + 1) < n then if 0 ≤ (i + 2) ∧ (i + 2) < n then if 0 ≤ (i + 3) ∧ (i + 3) < n then if 0 ≤ x ∧ x < K.2 12 then zbL (f_S_x K x (sc (i + 1)) (sc (i + 2)) (sc (i + 3)) F B) (fun r13 F13 B13 => if 0 ≤ (i + 1) ∧ (i + 1) < n then if 0 ≤ (i + 2) ∧ (i + 2) < n then if 0 ≤ (i + 3) ∧ (i + 3) < n then zbL (f_M_x Kr (sc (i + 1)) (sc (i + 2)) (sc (i + 3)) Fm Bm) (fun r18 F18 B18 => if r13 = r18 then some (K, F13, B13, F18, B18) else none) else none else none else none) else none else none else none else none
set_option maxHeartbeats 4000000 in
set_option maxRecDepth 100000 in
theorem lc_11 {D : va_G} {ca : Nat → ClassId} {ad ad2 : Nat → Int → Nat → Nat} {L L2 : List Nat} {aS vS : Nat → Nat} {A : Nat → Prop} {p : Program} {l : Launch} {e : Env} {s : State} {m : MethodId} {below : List Frame} {meth : Method} {c : Code} {b n : Nat} {xs : Nat → Int32} {xx mm : Nat} {x i : Int} {Kr : Nat} {K K9 : zK} {F Fm F9 Fm9 : zF} {B Bm B9 Bm9 : zB} {H : Heap} {locs : List Loc} {cells slots : Nat} {Q : State → Prop} {ls : Array Slot}
    (X1 : zX D ca L aS vS A p s m #[Value.ref b] meth c code 4 ret "StaveHouseLaw") (X2 : zX D ca L2 aS vS A p s m #[Value.ref b] meth c code 4 ret "StaveHouseLaw") (hXs : va_X b n xs s s.heap) (hbl : b < s.heap.size) (hbA : ¬ A b) (hL4 : n ≤ 2147483647) (hf : ls_11 Kr x (scz xs) n i K F B Fm Bm = some (K9, F9, B9, Fm9, Bm9)) (hZ1 : zH D ca ad lnC K.2 L F B A H) (hZ2 : zH D ca ad2 lnM nM L2 Fm Bm A H) (hd : ∀ q ∈ L2, q ∉ L) (hS : va_S A s.heap H locs) (hxx : ad 12 x 0 = xx) (hmm : ad2 14 0 0 = mm) (hl : lv_has ls 4 [(3, .int (iI i)), (2, .ref mm), (1, .ref xx), (0, .ref b)]) (hrm : cells + cwC K K9 ≤ 600000 ∧ slots + swC K K9 ≤ 7302250)
    (kk : ∀ {ad' : Nat → Int → Nat → Nat} {L' : List Nat} {H' : Heap} {locs' : List Loc}, zG ad K.2 ad' K9.2 → zH D ca ad' lnC K9.2 L' F9 B9 A H' → zH D ca ad2 lnM nM L2 Fm9 Bm9 A H' → (∀ q ∈ L2, q ∉ L') → va_S A s.heap H' locs' → ad' 12 x 0 = xx → lv_has ls 4 [(3, .int (iI i)), (2, .ref mm), (1, .ref xx), (0, .ref b)] → W p l e room_1 s m #[Value.ref b] below meth c H' locs' (cells + cwC K K9) (slots + swC K K9) Q (F0 m 1191 ls [])) : W p l e room_1 s m #[Value.ref b] below meth c H locs cells slots Q (F0 m 617 ls []) := by
  obtain ⟨hx, hb, hr, hml, hown, hts, hlk, hK, hA, hL, hX⟩ := id X1
  have hG : zG ad K.2 ad K.2 := zG.rf
  replace hf : (if 0 ≤ (i + 1) ∧ (i + 1) < n then if 0 ≤ (i + 2) ∧ (i + 2) < n then if 0 ≤ (i + 3) ∧ (i + 3) < n then if 0 ≤ x ∧ x < K.2 12 then zbL (f_S_x K x ((scz xs) (i + 1)) ((scz xs) (i + 2)) ((scz xs) (i + 3)) F B) (fun r13 F13 B13 => if 0 ≤ (i + 1) ∧ (i + 1) < n then if 0 ≤ (i + 2) ∧ (i + 2) < n then if 0 ≤ (i + 3) ∧ (i + 3) < n then zbL (f_M_x Kr ((scz xs) (i + 1)) ((scz xs) (i + 2)) ((scz xs) (i + 3)) Fm Bm) (fun r18 F18 B18 => if r13 = r18 then some (K, F13, B13, F18, B18) else none) else none else none else none) else none else none else none else none) = some (K9, F9, B9, Fm9, Bm9) := hf
  refine lv_aload_n hx hb d_code_617 rfl (lv_at hl 2 rfl) ?_
  refine lv_aload_n hx hb d_code_618 rfl (lv_at hl 3 rfl) ?_
  refine lv_iload_n hx hb d_code_619 rfl (lv_at hl 0 rfl) ?_
  refine lv_iconst (v := iI 1) hx hb d_code_620 rfl ?_
  refine zadd hx hb d_code_621 ?_
  obtain ⟨g10, hf⟩ := gif hf
  refine zsld hx hb hXs hbl hbA hS g10.1 g10.2 hL4 d_code_622 ?_
  refine lv_aload_n hx hb d_code_623 rfl (lv_at hl 3 rfl) ?_
  refine lv_iload_n hx hb d_code_624 rfl (lv_at hl 0 rfl) ?_
  refine lv_iconst (v := iI 2) hx hb d_code_625 rfl ?_
  refine zadd hx hb d_code_626 ?_
  obtain ⟨g11, hf⟩ := gif hf
  refine zsld hx hb hXs hbl hbA hS g11.1 g11.2 hL4 d_code_627 ?_
  refine lv_aload_n hx hb d_code_628 rfl (lv_at hl 3 rfl) ?_
  refine lv_iload_n hx hb d_code_629 rfl (lv_at hl 0 rfl) ?_
  refine lv_iconst (v := iI 3) hx hb d_code_630 rfl ?_
  refine zadd hx hb d_code_631 ?_
  obtain ⟨g12, hf⟩ := gif hf
  refine zsld hx hb hXs hbl hbA hS g12.1 g12.2 hL4 d_code_632 ?_
  obtain ⟨g14, hf⟩ := gif hf
  obtain ⟨r13, F13, B13, hc13, hf⟩ := gbL hf
  rw [← hxx]
  refine va_calli (va_runV (As := [.int (iI ((scz xs) (i + 1))), .int (iI ((scz xs) (i + 2))), .int (iI ((scz xs) (i + 3)))]) (rest := []) ⟨hx, hb, hml, hown, hts⟩ (c_S_x (l := l) hc13) (cwV 3 hts (gdV k_7_75 k_7_76 k_7_77 k_1_1 k_7_78) rfl rfl rfl (by decide +kernel) ⟨Nat.le_of_ble_eq_true rfl, Nat.le_of_ble_eq_true rfl⟩) (zPV X1 hZ1 hS (ci := 12) g14.1 g14.2 (r := (RX12, TX12, 10)) rfl [.int (iI ((scz xs) (i + 1))), .int (iI ((scz xs) (i + 2))), .int (iI ((scz xs) (i + 3)))]) rfl rfl hl.1 rfl (lv_room (Nat.le_of_ble_eq_true rfl)) d_code_633 ⟨by have h := hrm.1; show _ ≤ 600000; omega, by have h := hrm.2; show _ ≤ 7302250; omega⟩) hS (fun z _ h => zAin X1 hS z h) (zAin X1 hS) (fun p13 u13 t13 H13 locs13 ht13 hv13 hw13 hB13 hz13 hk13 hS13 => ?_)
  subst hw13
  have hZa13 := zBack X1 ht13 hB13
  have hZb13 := zH.beside hZ2 hd hk13
  refine lv_aload_n hx hb d_code_636 rfl (lv_at hl 1 rfl) ?_
  refine lv_aload_n hx hb d_code_637 rfl (lv_at hl 3 rfl) ?_
  refine lv_iload_n hx hb d_code_638 rfl (lv_at hl 0 rfl) ?_
  refine lv_iconst (v := iI 1) hx hb d_code_639 rfl ?_
  refine zadd hx hb d_code_640 ?_
  obtain ⟨g15, hf⟩ := gif hf
  refine zsld hx hb hXs hbl hbA hS13 g15.1 g15.2 hL4 d_code_641 ?_
  refine lv_aload_n hx hb d_code_642 rfl (lv_at hl 3 rfl) ?_
  refine lv_iload_n hx hb d_code_643 rfl (lv_at hl 0 rfl) ?_
  refine lv_iconst (v := iI 2) hx hb d_code_644 rfl ?_
  refine zadd hx hb d_code_645 ?_
  obtain ⟨g16, hf⟩ := gif hf
  refine zsld hx hb hXs hbl hbA hS13 g16.1 g16.2 hL4 d_code_646 ?_
  refine lv_aload_n hx hb d_code_647 rfl (lv_at hl 3 rfl) ?_
  refine lv_iload_n hx hb d_code_648 rfl (lv_at hl 0 rfl) ?_
  refine lv_iconst (v := iI 3) hx hb d_code_649 rfl ?_
  refine zadd hx hb d_code_650 ?_
  obtain ⟨g17, hf⟩ := gif hf
  refine zsld hx hb hXs hbl hbA hS13 g17.1 g17.2 hL4 d_code_651 ?_
  obtain ⟨r18, F18, B18, hc18, hf⟩ := gbL hf
  rw [← hmm]
  refine va_calli (va_runV (As := [.int (iI ((scz xs) (i + 1))), .int (iI ((scz xs) (i + 2))), .int (iI ((scz xs) (i + 3)))]) (rest := [.int (iI r13)]) ⟨hx, hb, hml, hown, hts⟩ (c_M_x (l := l) hc18) (cwV 3 hts (gdV k_12_114 k_12_115 k_12_116 k_1_9 k_12_117) rfl rfl rfl (by decide +kernel) ⟨Nat.le_of_ble_eq_true rfl, Nat.le_of_ble_eq_true rfl⟩) (zPV X2 hZb13 hS13 (ci := 14) (by decide) (by decide) (r := (RX14, TX14, 107)) rfl [.int (iI ((scz xs) (i + 1))), .int (iI ((scz xs) (i + 2))), .int (iI ((scz xs) (i + 3)))]) rfl rfl hl.1 rfl (lv_room (Nat.le_of_ble_eq_true rfl)) d_code_652 ⟨by have h := hrm.1; show _ ≤ 600000; omega, by have h := hrm.2; show _ ≤ 7302250; omega⟩) hS13 (fun z _ h => zAin X2 hS13 z h) (zAin X2 hS13) (fun p18 u18 t18 H18 locs18 ht18 hv18 hw18 hB18 hz18 hk18 hS18 => ?_)
  subst hw18
  have hZb18 := zBack X2 ht18 hB18
  have hZa18 := zH.beside hZa13 (fun z h1 h2 => hd z h2 h1) hk18
  obtain ⟨g19, hf⟩ := gif hf
  refine zeqE (tgt := 1191) hx hb g19 d_code_655 (by decide) ?_
  cases hf
  refine W.widen (k := cells + cwC K K) (n := slots + swC K K) (by omega) (by omega) ?_
  exact kk hG hZa18 hZb18 hd hS18 hxx hl
def ls_12 (Kr : Nat) (x : Int) (sc : Int → Int) (n i : Int) (K : zK) (F : zF) (B : zB) (Fm : zF) (Bm : zB) : zL := if 0 ≤ (i + 1) ∧ (i + 1) < n then if 0 ≤ x ∧ x < K.2 12 then zbM (f_S_perform K x (sc (i + 1)) F B) (fun r11 F11 B11 K11 => if 0 ≤ (i + 1) ∧ (i + 1) < n then zbL (f_M_perform Kr (sc (i + 1)) Fm Bm) (fun r14 F14 B14 => some (K11, F11, B11, F14, B14)) else none) else none else none
set_option maxHeartbeats 4000000 in
set_option maxRecDepth 100000 in
theorem lc_12 {D : va_G} {ca : Nat → ClassId} {ad ad2 : Nat → Int → Nat → Nat} {L L2 : List Nat} {aS vS : Nat → Nat} {A : Nat → Prop} {p : Program} {l : Launch} {e : Env} {s : State} {m : MethodId} {below : List Frame} {meth : Method} {c : Code} {b n : Nat} {xs : Nat → Int32} {xx mm : Nat} {x i : Int} {Kr : Nat} {K K9 : zK} {F Fm F9 Fm9 : zF} {B Bm B9 Bm9 : zB} {H : Heap} {locs : List Loc} {cells slots : Nat} {Q : State → Prop} {ls : Array Slot}
    (X1 : zX D ca L aS vS A p s m #[Value.ref b] meth c code 4 ret "StaveHouseLaw") (X2 : zX D ca L2 aS vS A p s m #[Value.ref b] meth c code 4 ret "StaveHouseLaw") (hXs : va_X b n xs s s.heap) (hbl : b < s.heap.size) (hbA : ¬ A b) (hL4 : n ≤ 2147483647) (hf : ls_12 Kr x (scz xs) n i K F B Fm Bm = some (K9, F9, B9, Fm9, Bm9)) (hZ1 : zH D ca ad lnC K.2 L F B A H) (hZ2 : zH D ca ad2 lnM nM L2 Fm Bm A H) (hd : ∀ q ∈ L2, q ∉ L) (hS : va_S A s.heap H locs) (hxx : ad 12 x 0 = xx) (hmm : ad2 14 0 0 = mm) (hl : lv_has ls 4 [(3, .int (iI i)), (2, .ref mm), (1, .ref xx), (0, .ref b)]) (hrm : cells + cwC K K9 ≤ 600000 ∧ slots + swC K K9 ≤ 7302250)
    (kk : ∀ {ad' : Nat → Int → Nat → Nat} {L' : List Nat} {H' : Heap} {locs' : List Loc}, zG ad K.2 ad' K9.2 → zH D ca ad' lnC K9.2 L' F9 B9 A H' → zH D ca ad2 lnM nM L2 Fm9 Bm9 A H' → (∀ q ∈ L2, q ∉ L') → va_S A s.heap H' locs' → ad' 12 x 0 = xx → lv_has ls 4 [(3, .int (iI i)), (2, .ref mm), (1, .ref xx), (0, .ref b)] → W p l e room_1 s m #[Value.ref b] below meth c H' locs' (cells + cwC K K9) (slots + swC K K9) Q (F0 m 1191 ls [])) : W p l e room_1 s m #[Value.ref b] below meth c H locs cells slots Q (F0 m 660 ls []) := by
  obtain ⟨hx, hb, hr, hml, hown, hts, hlk, hK, hA, hL, hX⟩ := id X1
  have hG : zG ad K.2 ad K.2 := zG.rf
  replace hf : (if 0 ≤ (i + 1) ∧ (i + 1) < n then if 0 ≤ x ∧ x < K.2 12 then zbM (f_S_perform K x ((scz xs) (i + 1)) F B) (fun r11 F11 B11 K11 => if 0 ≤ (i + 1) ∧ (i + 1) < n then zbL (f_M_perform Kr ((scz xs) (i + 1)) Fm Bm) (fun r14 F14 B14 => some (K11, F11, B11, F14, B14)) else none) else none else none) = some (K9, F9, B9, Fm9, Bm9) := hf
  refine lv_aload_n hx hb d_code_660 rfl (lv_at hl 2 rfl) ?_
  refine lv_aload_n hx hb d_code_661 rfl (lv_at hl 3 rfl) ?_
  refine lv_iload_n hx hb d_code_662 rfl (lv_at hl 0 rfl) ?_
  refine lv_iconst (v := iI 1) hx hb d_code_663 rfl ?_
  refine zadd hx hb d_code_664 ?_
  obtain ⟨g10, hf⟩ := gif hf
  refine zsld hx hb hXs hbl hbA hS g10.1 g10.2 hL4 d_code_665 ?_
  obtain ⟨g12, hf⟩ := gif hf
  obtain ⟨r11, F11, B11, K11, hc11, hf⟩ := gbM hf
  rw [← hxx]
  have hK11 : K9 = K11 := by
    have h := hf
    obtain ⟨-, h⟩ := gif h
    obtain ⟨_, _, _, _, h⟩ := gbL h
    cases h
    rfl
  have hrm11 : cells + cwC K K11 ≤ 600000 ∧ slots + swC K K11 ≤ 7302250 := by rw [← hK11]; exact hrm
  refine va_calli (va_runV (As := [.int (iI ((scz xs) (i + 1)))]) (rest := []) ⟨hx, hb, hml, hown, hts⟩ (c_S_perform (l := l) hc11) (cwV 1 hts (gdV k_7_83 k_7_84 k_7_85 k_1_1 k_7_86) rfl rfl rfl (by decide +kernel) ⟨Nat.le_of_ble_eq_true rfl, Nat.le_of_ble_eq_true rfl⟩) (zPV X1 hZ1 hS (ci := 12) g12.1 g12.2 (r := (RX12, TX12, 10)) rfl [.int (iI ((scz xs) (i + 1)))]) rfl rfl hl.1 rfl (lv_room (Nat.le_of_ble_eq_true rfl)) d_code_666 ⟨by have h := hrm11.1; show _ ≤ 600000; omega, by have h := hrm11.2; show _ ≤ 7302250; omega⟩) hS (fun z _ h => zAin X1 hS z h) (zAin X1 hS) (fun p11 u11 t11 H11 locs11 ht11 hv11 hw11 hB11 hz11 hk11 hS11 => ?_)
  obtain ⟨ad11, L11⟩ := u11
  obtain ⟨hw11, hg11⟩ := hw11
  subst hw11
  have hZa11 := zBackM X1 hS ht11 hB11
  have hd11 := zd_grow hZ2 hd hB11
  have X11 := X1.grow hZa11.inA
  have hxx11 : ad11 12 x 0 = xx := (hg11.2 12 x 0 g12.1 g12.2).trans hxx
  have hG11 := hG.tr hg11
  have hZb11 := zH.beside hZ2 hd hk11
  refine lv_pop hx hb d_code_669 rfl ?_
  refine lv_aload_n hx hb d_code_670 rfl (lv_at hl 1 rfl) ?_
  refine lv_aload_n hx hb d_code_671 rfl (lv_at hl 3 rfl) ?_
  refine lv_iload_n hx hb d_code_672 rfl (lv_at hl 0 rfl) ?_
  refine lv_iconst (v := iI 1) hx hb d_code_673 rfl ?_
  refine zadd hx hb d_code_674 ?_
  obtain ⟨g13, hf⟩ := gif hf
  refine zsld hx hb hXs hbl hbA hS11 g13.1 g13.2 hL4 d_code_675 ?_
  obtain ⟨r14, F14, B14, hc14, hf⟩ := gbL hf
  rw [← hmm]
  refine va_calli (va_runV (As := [.int (iI ((scz xs) (i + 1)))]) (rest := []) ⟨hx, hb, hml, hown, hts⟩ (c_M_perform (l := l) hc14) (cwV 1 hts (gdV k_12_121 k_12_122 k_12_123 k_1_9 k_12_124) rfl rfl rfl (by decide +kernel) ⟨Nat.le_of_ble_eq_true rfl, Nat.le_of_ble_eq_true rfl⟩) (zPV X2 hZb11 hS11 (ci := 14) (by decide) (by decide) (r := (RX14, TX14, 107)) rfl [.int (iI ((scz xs) (i + 1)))]) rfl rfl hl.1 rfl (lv_room (Nat.le_of_ble_eq_true rfl)) d_code_676 ⟨by have h := hrm11.1; show _ ≤ 600000; omega, by have h := hrm11.2; show _ ≤ 7302250; omega⟩) hS11 (fun z _ h => zAin X2 hS11 z h) (zAin X2 hS11) (fun p14 u14 t14 H14 locs14 ht14 hv14 hw14 hB14 hz14 hk14 hS14 => ?_)
  subst hw14
  have hZb14 := zBack X2 ht14 hB14
  have hZa14 := zH.beside hZa11 (fun z h1 h2 => hd11 z h2 h1) hk14
  refine lv_pop hx hb d_code_679 rfl ?_
  refine lv_goto (tgt := 1191) hx hb d_code_680 (by decide) ?_
  cases hf
  refine W.widen (k := cells + cwC K K9) (n := slots + swC K K9) (by omega) (by omega) ?_
  exact kk hG11 hZa14 hZb14 hd11 hS14 hxx11 hl
def ls_13 (Kr : Nat) (x : Int) (sc : Int → Int) (n i : Int) (K : zK) (F : zF) (B : zB) (Fm : zF) (Bm : zB) : zL := if 0 ≤ (i + 1) ∧ (i + 1) < n then if 0 ≤ (i + 2) ∧ (i + 2) < n then if 0 ≤ (i + 3) ∧ (i + 3) < n then if 0 ≤ x ∧ x < K.2 12 then zbL (f_S_stroke K x (sc (i + 1)) (sc (i + 2)) (sc (i + 3)) F B) (fun r13 F13 B13 => if 0 ≤ (i + 1) ∧ (i + 1) < n then if 0 ≤ (i + 2) ∧ (i + 2) < n then if 0 ≤ (i + 3) ∧ (i + 3) < n then zbL (f_M_stroke Kr (sc (i + 1)) (sc (i + 2)) (sc (i + 3)) Fm Bm) (fun r18 F18 B18 => some (K, F13, B13, F18, B18)) else none else none else none) else none else none else none else none
set_option maxHeartbeats 4000000 in
set_option maxRecDepth 100000 in
theorem lc_13 {D : va_G} {ca : Nat → ClassId} {ad ad2 : Nat → Int → Nat → Nat} {L L2 : List Nat} {aS vS : Nat → Nat} {A : Nat → Prop} {p : Program} {l : Launch} {e : Env} {s : State} {m : MethodId} {below : List Frame} {meth : Method} {c : Code} {b n : Nat} {xs : Nat → Int32} {xx mm : Nat} {x i : Int} {Kr : Nat} {K K9 : zK} {F Fm F9 Fm9 : zF} {B Bm B9 Bm9 : zB} {H : Heap} {locs : List Loc} {cells slots : Nat} {Q : State → Prop} {ls : Array Slot}
    (X1 : zX D ca L aS vS A p s m #[Value.ref b] meth c code 4 ret "StaveHouseLaw") (X2 : zX D ca L2 aS vS A p s m #[Value.ref b] meth c code 4 ret "StaveHouseLaw") (hXs : va_X b n xs s s.heap) (hbl : b < s.heap.size) (hbA : ¬ A b) (hL4 : n ≤ 2147483647) (hf : ls_13 Kr x (scz xs) n i K F B Fm Bm = some (K9, F9, B9, Fm9, Bm9)) (hZ1 : zH D ca ad lnC K.2 L F B A H) (hZ2 : zH D ca ad2 lnM nM L2 Fm Bm A H) (hd : ∀ q ∈ L2, q ∉ L) (hS : va_S A s.heap H locs) (hxx : ad 12 x 0 = xx) (hmm : ad2 14 0 0 = mm) (hl : lv_has ls 4 [(3, .int (iI i)), (2, .ref mm), (1, .ref xx), (0, .ref b)]) (hrm : cells + cwC K K9 ≤ 600000 ∧ slots + swC K K9 ≤ 7302250)
    (kk : ∀ {ad' : Nat → Int → Nat → Nat} {L' : List Nat} {H' : Heap} {locs' : List Loc}, zG ad K.2 ad' K9.2 → zH D ca ad' lnC K9.2 L' F9 B9 A H' → zH D ca ad2 lnM nM L2 Fm9 Bm9 A H' → (∀ q ∈ L2, q ∉ L') → va_S A s.heap H' locs' → ad' 12 x 0 = xx → lv_has ls 4 [(3, .int (iI i)), (2, .ref mm), (1, .ref xx), (0, .ref b)] → W p l e room_1 s m #[Value.ref b] below meth c H' locs' (cells + cwC K K9) (slots + swC K K9) Q (F0 m 1191 ls [])) : W p l e room_1 s m #[Value.ref b] below meth c H locs cells slots Q (F0 m 683 ls []) := by
  obtain ⟨hx, hb, hr, hml, hown, hts, hlk, hK, hA, hL, hX⟩ := id X1
  have hG : zG ad K.2 ad K.2 := zG.rf
  replace hf : (if 0 ≤ (i + 1) ∧ (i + 1) < n then if 0 ≤ (i + 2) ∧ (i + 2) < n then if 0 ≤ (i + 3) ∧ (i + 3) < n then if 0 ≤ x ∧ x < K.2 12 then zbL (f_S_stroke K x ((scz xs) (i + 1)) ((scz xs) (i + 2)) ((scz xs) (i + 3)) F B) (fun r13 F13 B13 => if 0 ≤ (i + 1) ∧ (i + 1) < n then if 0 ≤ (i + 2) ∧ (i + 2) < n then if 0 ≤ (i + 3) ∧ (i + 3) < n then zbL (f_M_stroke Kr ((scz xs) (i + 1)) ((scz xs) (i + 2)) ((scz xs) (i + 3)) Fm Bm) (fun r18 F18 B18 => some (K, F13, B13, F18, B18)) else none else none else none) else none else none else none else none) = some (K9, F9, B9, Fm9, Bm9) := hf
  refine lv_aload_n hx hb d_code_683 rfl (lv_at hl 2 rfl) ?_
  refine lv_aload_n hx hb d_code_684 rfl (lv_at hl 3 rfl) ?_
  refine lv_iload_n hx hb d_code_685 rfl (lv_at hl 0 rfl) ?_
  refine lv_iconst (v := iI 1) hx hb d_code_686 rfl ?_
  refine zadd hx hb d_code_687 ?_
  obtain ⟨g10, hf⟩ := gif hf
  refine zsld hx hb hXs hbl hbA hS g10.1 g10.2 hL4 d_code_688 ?_
  refine lv_aload_n hx hb d_code_689 rfl (lv_at hl 3 rfl) ?_
  refine lv_iload_n hx hb d_code_690 rfl (lv_at hl 0 rfl) ?_
  refine lv_iconst (v := iI 2) hx hb d_code_691 rfl ?_
  refine zadd hx hb d_code_692 ?_
  obtain ⟨g11, hf⟩ := gif hf
  refine zsld hx hb hXs hbl hbA hS g11.1 g11.2 hL4 d_code_693 ?_
  refine lv_aload_n hx hb d_code_694 rfl (lv_at hl 3 rfl) ?_
  refine lv_iload_n hx hb d_code_695 rfl (lv_at hl 0 rfl) ?_
  refine lv_iconst (v := iI 3) hx hb d_code_696 rfl ?_
  refine zadd hx hb d_code_697 ?_
  obtain ⟨g12, hf⟩ := gif hf
  refine zsld hx hb hXs hbl hbA hS g12.1 g12.2 hL4 d_code_698 ?_
  obtain ⟨g14, hf⟩ := gif hf
  obtain ⟨r13, F13, B13, hc13, hf⟩ := gbL hf
  rw [← hxx]
  refine va_calli (va_runV (As := [.int (iI ((scz xs) (i + 1))), .int (iI ((scz xs) (i + 2))), .int (iI ((scz xs) (i + 3)))]) (rest := []) ⟨hx, hb, hml, hown, hts⟩ (c_S_stroke (l := l) hc13) (cwV 3 hts (gdV k_7_104 k_7_105 k_7_106 k_1_1 k_7_107) rfl rfl rfl (by decide +kernel) ⟨Nat.le_of_ble_eq_true rfl, Nat.le_of_ble_eq_true rfl⟩) (zPV X1 hZ1 hS (ci := 12) g14.1 g14.2 (r := (RX12, TX12, 10)) rfl [.int (iI ((scz xs) (i + 1))), .int (iI ((scz xs) (i + 2))), .int (iI ((scz xs) (i + 3)))]) rfl rfl hl.1 rfl (lv_room (Nat.le_of_ble_eq_true rfl)) d_code_699 ⟨by have h := hrm.1; show _ ≤ 600000; omega, by have h := hrm.2; show _ ≤ 7302250; omega⟩) hS (fun z _ h => zAin X1 hS z h) (zAin X1 hS) (fun p13 u13 t13 H13 locs13 ht13 hv13 hw13 hB13 hz13 hk13 hS13 => ?_)
  subst hw13
  have hZa13 := zBack X1 ht13 hB13
  have hZb13 := zH.beside hZ2 hd hk13
  refine lv_pop hx hb d_code_702 rfl ?_
  refine lv_aload_n hx hb d_code_703 rfl (lv_at hl 1 rfl) ?_
  refine lv_aload_n hx hb d_code_704 rfl (lv_at hl 3 rfl) ?_
  refine lv_iload_n hx hb d_code_705 rfl (lv_at hl 0 rfl) ?_
  refine lv_iconst (v := iI 1) hx hb d_code_706 rfl ?_
  refine zadd hx hb d_code_707 ?_
  obtain ⟨g15, hf⟩ := gif hf
  refine zsld hx hb hXs hbl hbA hS13 g15.1 g15.2 hL4 d_code_708 ?_
  refine lv_aload_n hx hb d_code_709 rfl (lv_at hl 3 rfl) ?_
  refine lv_iload_n hx hb d_code_710 rfl (lv_at hl 0 rfl) ?_
  refine lv_iconst (v := iI 2) hx hb d_code_711 rfl ?_
  refine zadd hx hb d_code_712 ?_
  obtain ⟨g16, hf⟩ := gif hf
  refine zsld hx hb hXs hbl hbA hS13 g16.1 g16.2 hL4 d_code_713 ?_
  refine lv_aload_n hx hb d_code_714 rfl (lv_at hl 3 rfl) ?_
  refine lv_iload_n hx hb d_code_715 rfl (lv_at hl 0 rfl) ?_
  refine lv_iconst (v := iI 3) hx hb d_code_716 rfl ?_
  refine zadd hx hb d_code_717 ?_
  obtain ⟨g17, hf⟩ := gif hf
  refine zsld hx hb hXs hbl hbA hS13 g17.1 g17.2 hL4 d_code_718 ?_
  obtain ⟨r18, F18, B18, hc18, hf⟩ := gbL hf
  rw [← hmm]
  refine va_calli (va_runV (As := [.int (iI ((scz xs) (i + 1))), .int (iI ((scz xs) (i + 2))), .int (iI ((scz xs) (i + 3)))]) (rest := []) ⟨hx, hb, hml, hown, hts⟩ (c_M_stroke (l := l) hc18) (cwV 3 hts (gdV k_12_186 k_12_187 k_12_188 k_1_9 k_12_189) rfl rfl rfl (by decide +kernel) ⟨Nat.le_of_ble_eq_true rfl, Nat.le_of_ble_eq_true rfl⟩) (zPV X2 hZb13 hS13 (ci := 14) (by decide) (by decide) (r := (RX14, TX14, 107)) rfl [.int (iI ((scz xs) (i + 1))), .int (iI ((scz xs) (i + 2))), .int (iI ((scz xs) (i + 3)))]) rfl rfl hl.1 rfl (lv_room (Nat.le_of_ble_eq_true rfl)) d_code_719 ⟨by have h := hrm.1; show _ ≤ 600000; omega, by have h := hrm.2; show _ ≤ 7302250; omega⟩) hS13 (fun z _ h => zAin X2 hS13 z h) (zAin X2 hS13) (fun p18 u18 t18 H18 locs18 ht18 hv18 hw18 hB18 hz18 hk18 hS18 => ?_)
  subst hw18
  have hZb18 := zBack X2 ht18 hB18
  have hZa18 := zH.beside hZa13 (fun z h1 h2 => hd z h2 h1) hk18
  refine lv_pop hx hb d_code_722 rfl ?_
  refine lv_goto (tgt := 1191) hx hb d_code_723 (by decide) ?_
  cases hf
  refine W.widen (k := cells + cwC K K) (n := slots + swC K K) (by omega) (by omega) ?_
  exact kk hG hZa18 hZb18 hd hS18 hxx hl

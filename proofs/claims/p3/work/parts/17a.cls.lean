theorem k_4_16 : (Jvm.Cond.constantLong "java/lang/Long" (314 : Nat) (6148914691236517205 : Int64)) ∈ wAll := wA_4 (j := 16) rfl rfl
theorem k_4_17 : (Jvm.Cond.constantLong "java/lang/Long" (316 : Nat) (3689348814741910323 : Int64)) ∈ wAll := wA_4 (j := 17) rfl rfl
theorem k_4_18 : (Jvm.Cond.constantLong "java/lang/Long" (318 : Nat) (1085102592571150095 : Int64)) ∈ wAll := wA_4 (j := 18) rfl rfl
theorem k_5_70 : (Jvm.Cond.fieldLink "StaveHouse" (355 : Nat) "StaveHouse" "POINT_QUARTERS" "[I") ∈ wAll := wA_5 (j := 70) rfl rfl
theorem k_5_89 : (Jvm.Cond.methodLink "StaveHouse" (361 : Nat) ({ cls := "java/lang/Math", name := "max", desc := "(II)I" } : Jvm.MethodName)) ∈ wAll := wA_5 (j := 89) rfl rfl
theorem k_1_39 : (Jvm.Cond.static ({ cls := "java/lang/Math", name := "max", desc := "(II)I" } : Jvm.MethodName)) ∈ wAll := wA_1 (j := 39) rfl rfl
theorem k_1_3 : (Jvm.Cond.initialized "java/lang/Math") ∈ wAll := wA_1 (j := 3) rfl rfl
theorem k_1_40 : (Jvm.Cond.code ({ cls := "java/lang/Math", name := "max", desc := "(II)I" } : Jvm.MethodName) prog_20_method_65_code (2 : Nat) (Option.some Jvm.ClassFile.FieldType.int)) ∈ wAll := wA_1 (j := 40) rfl rfl
theorem k_5_119 : (Jvm.Cond.fieldLink "StaveHouse" (352 : Nat) "StaveHouse" "SHARP_RANKS" "[I") ∈ wAll := wA_5 (j := 119) rfl rfl
theorem k_4_70 : (Jvm.Cond.methodLink "StaveHouse" (349 : Nat) ({ cls := "java/lang/Math", name := "floorMod", desc := "(II)I" } : Jvm.MethodName)) ∈ wAll := wA_4 (j := 70) rfl rfl
theorem k_4_71 : (Jvm.Cond.static ({ cls := "java/lang/Math", name := "floorMod", desc := "(II)I" } : Jvm.MethodName)) ∈ wAll := wA_4 (j := 71) rfl rfl
theorem k_4_72 : (Jvm.Cond.code ({ cls := "java/lang/Math", name := "floorMod", desc := "(II)I" } : Jvm.MethodName) prog_20_method_50_code (3 : Nat) (Option.some Jvm.ClassFile.FieldType.int)) ∈ wAll := wA_4 (j := 72) rfl rfl
theorem k_6_38 : (Jvm.Cond.methodLink "StaveHouse$Study" (130 : Nat) ({ cls := "java/lang/Math", name := "floorMod", desc := "(II)I" } : Jvm.MethodName)) ∈ wAll := wA_6 (j := 38) rfl rfl
theorem k_6_39 : (Jvm.Cond.methodLink "StaveHouse$Study" (127 : Nat) ({ cls := "java/lang/Math", name := "abs", desc := "(I)I" } : Jvm.MethodName)) ∈ wAll := wA_6 (j := 39) rfl rfl
theorem k_4_229 : (Jvm.Cond.static ({ cls := "java/lang/Math", name := "abs", desc := "(I)I" } : Jvm.MethodName)) ∈ wAll := wA_4 (j := 229) rfl rfl
theorem k_4_230 : (Jvm.Cond.code ({ cls := "java/lang/Math", name := "abs", desc := "(I)I" } : Jvm.MethodName) prog_20_method_59_code (1 : Nat) (Option.some Jvm.ClassFile.FieldType.int)) ∈ wAll := wA_4 (j := 230) rfl rfl
theorem k_6_129 : (Jvm.Cond.constantLong "StaveHouse$Performance" (92 : Nat) (384 : Int64)) ∈ wAll := wA_6 (j := 129) rfl rfl
theorem k_6_130 : (Jvm.Cond.constantLong "StaveHouse$Performance" (94 : Nat) (812851200 : Int64)) ∈ wAll := wA_6 (j := 130) rfl rfl
theorem k_6_188 : (Jvm.Cond.constantLong "StaveHouse" (335 : Nat) (812851200 : Int64)) ∈ wAll := wA_6 (j := 188) rfl rfl
theorem k_6_189 : (Jvm.Cond.methodLink "StaveHouse" (337 : Nat) ({ cls := "StaveHouse", name := "gcd", desc := "(JJ)J" } : Jvm.MethodName)) ∈ wAll := wA_6 (j := 189) rfl rfl
theorem k_6_190 : (Jvm.Cond.static ({ cls := "StaveHouse", name := "gcd", desc := "(JJ)J" } : Jvm.MethodName)) ∈ wAll := wA_6 (j := 190) rfl rfl
theorem k_1_1 : (Jvm.Cond.initialized "StaveHouse") ∈ wAll := wA_1 (j := 1) rfl rfl
theorem k_6_191 : (Jvm.Cond.code ({ cls := "StaveHouse", name := "gcd", desc := "(JJ)J" } : Jvm.MethodName) prog_1_method_34_code (11 : Nat) (Option.some Jvm.ClassFile.FieldType.long)) ∈ wAll := wA_6 (j := 191) rfl rfl
theorem k_2_196 : (Jvm.Cond.fieldLink "StaveHouse$Layout" (127 : Nat) "StaveHouse$Piece" "fifths" "I") ∈ wAll := wA_2 (j := 196) rfl rfl
theorem k_7_53 : (Jvm.Cond.methodLink "StaveHouse$Layout" (130 : Nat) ({ cls := "java/lang/Math", name := "abs", desc := "(I)I" } : Jvm.MethodName)) ∈ wAll := wA_7 (j := 53) rfl rfl
theorem k_7_58 : (Jvm.Cond.constantLong "StaveHouse$Layout" (144 : Nat) (4 : Int64)) ∈ wAll := wA_7 (j := 58) rfl rfl
theorem k_7_172 : (Jvm.Cond.constant "java/lang/Integer" (265 : Nat) (1431655765 : Int32)) ∈ wAll := wA_7 (j := 172) rfl rfl
theorem k_7_173 : (Jvm.Cond.constant "java/lang/Integer" (266 : Nat) (858993459 : Int32)) ∈ wAll := wA_7 (j := 173) rfl rfl
theorem k_7_174 : (Jvm.Cond.constant "java/lang/Integer" (267 : Nat) (252645135 : Int32)) ∈ wAll := wA_7 (j := 174) rfl rfl
theorem k_9_10 : (Jvm.Cond.fieldLink "StaveHouse$Performance" (298 : Nat) "StaveHouse$Performance" "TURNS" "[J") ∈ wAll := wA_9 (j := 10) rfl rfl
theorem k_9_15 : (Jvm.Cond.methodLink "StaveHouse$Performance" (301 : Nat) ({ cls := "java/lang/Math", name := "abs", desc := "(I)I" } : Jvm.MethodName)) ∈ wAll := wA_9 (j := 15) rfl rfl
theorem k_6_153 : (Jvm.Cond.methodLink "StaveHouse$Performance" (144 : Nat) ({ cls := "java/lang/Math", name := "max", desc := "(II)I" } : Jvm.MethodName)) ∈ wAll := wA_6 (j := 153) rfl rfl
theorem k_2_201 : (Jvm.Cond.fieldLink "StaveHouse$Study" (183 : Nat) "StaveHouse$Piece" "fifths" "I") ∈ wAll := wA_2 (j := 201) rfl rfl
theorem k_2_205 : (Jvm.Cond.fieldLink "StaveHouse$Study" (186 : Nat) "StaveHouse$Piece" "minor" "I") ∈ wAll := wA_2 (j := 205) rfl rfl
theorem k_2_24 : (Jvm.Cond.fieldLink "StaveHouse$Part" (87 : Nat) "StaveHouse$Event" "length" "J") ∈ wAll := wA_2 (j := 24) rfl rfl
theorem k_9_111 : (Jvm.Cond.methodLink "StaveHouse$Part" (238 : Nat) ({ cls := "java/lang/Math", name := "max", desc := "(JJ)J" } : Jvm.MethodName)) ∈ wAll := wA_9 (j := 111) rfl rfl
theorem k_5_176 : (Jvm.Cond.static ({ cls := "java/lang/Math", name := "max", desc := "(JJ)J" } : Jvm.MethodName)) ∈ wAll := wA_5 (j := 176) rfl rfl
theorem k_5_177 : (Jvm.Cond.code ({ cls := "java/lang/Math", name := "max", desc := "(JJ)J" } : Jvm.MethodName) prog_20_method_66_code (4 : Nat) (Option.some Jvm.ClassFile.FieldType.long)) ∈ wAll := wA_5 (j := 177) rfl rfl
theorem k_3_44 : (Jvm.Cond.methodLink "StaveHouse$Tokens" (76 : Nat) ({ cls := "StaveHouse$Tokens", name := "isLetter", desc := "(I)Z" } : Jvm.MethodName)) ∈ wAll := wA_3 (j := 44) rfl rfl
theorem k_3_45 : (Jvm.Cond.static ({ cls := "StaveHouse$Tokens", name := "isLetter", desc := "(I)Z" } : Jvm.MethodName)) ∈ wAll := wA_3 (j := 45) rfl rfl
theorem k_1_5 : (Jvm.Cond.initialized "StaveHouse$Tokens") ∈ wAll := wA_1 (j := 5) rfl rfl
theorem k_3_46 : (Jvm.Cond.code ({ cls := "StaveHouse$Tokens", name := "isLetter", desc := "(I)Z" } : Jvm.MethodName) prog_12_method_12_code (1 : Nat) (Option.some Jvm.ClassFile.FieldType.boolean)) ∈ wAll := wA_3 (j := 46) rfl rfl
theorem k_3_47 : (Jvm.Cond.methodLink "StaveHouse$Tokens" (79 : Nat) ({ cls := "StaveHouse$Tokens", name := "isDigit", desc := "(I)Z" } : Jvm.MethodName)) ∈ wAll := wA_3 (j := 47) rfl rfl
theorem k_3_48 : (Jvm.Cond.static ({ cls := "StaveHouse$Tokens", name := "isDigit", desc := "(I)Z" } : Jvm.MethodName)) ∈ wAll := wA_3 (j := 48) rfl rfl
theorem k_3_49 : (Jvm.Cond.code ({ cls := "StaveHouse$Tokens", name := "isDigit", desc := "(I)Z" } : Jvm.MethodName) prog_12_method_13_code (1 : Nat) (Option.some Jvm.ClassFile.FieldType.boolean)) ∈ wAll := wA_3 (j := 49) rfl rfl
theorem k_4_65 : (Jvm.Cond.methodLink "StaveHouse" (341 : Nat) ({ cls := "java/lang/Math", name := "floorDiv", desc := "(II)I" } : Jvm.MethodName)) ∈ wAll := wA_4 (j := 65) rfl rfl
theorem k_4_66 : (Jvm.Cond.static ({ cls := "java/lang/Math", name := "floorDiv", desc := "(II)I" } : Jvm.MethodName)) ∈ wAll := wA_4 (j := 66) rfl rfl
theorem k_4_67 : (Jvm.Cond.code ({ cls := "java/lang/Math", name := "floorDiv", desc := "(II)I" } : Jvm.MethodName) prog_20_method_47_code (3 : Nat) (Option.some Jvm.ClassFile.FieldType.int)) ∈ wAll := wA_4 (j := 67) rfl rfl
theorem k_4_68 : (Jvm.Cond.fieldLink "StaveHouse" (346 : Nat) "StaveHouse" "NATURAL_TONES" "[I") ∈ wAll := wA_4 (j := 68) rfl rfl
theorem k_5_67 : (Jvm.Cond.methodLink "StaveHouse" (358 : Nat) ({ cls := "StaveHouse", name := "fineValue", desc := "(I)I" } : Jvm.MethodName)) ∈ wAll := wA_5 (j := 67) rfl rfl
theorem k_5_68 : (Jvm.Cond.static ({ cls := "StaveHouse", name := "fineValue", desc := "(I)I" } : Jvm.MethodName)) ∈ wAll := wA_5 (j := 68) rfl rfl
theorem k_5_69 : (Jvm.Cond.code ({ cls := "StaveHouse", name := "fineValue", desc := "(I)I" } : Jvm.MethodName) prog_1_method_40_code (1 : Nat) (Option.some Jvm.ClassFile.FieldType.int)) ∈ wAll := wA_5 (j := 69) rfl rfl
theorem k_5_90 : (Jvm.Cond.methodLink "StaveHouse" (364 : Nat) ({ cls := "StaveHouse", name := "beatCount", desc := "(II)I" } : Jvm.MethodName)) ∈ wAll := wA_5 (j := 90) rfl rfl
theorem k_5_91 : (Jvm.Cond.static ({ cls := "StaveHouse", name := "beatCount", desc := "(II)I" } : Jvm.MethodName)) ∈ wAll := wA_5 (j := 91) rfl rfl
theorem k_5_92 : (Jvm.Cond.code ({ cls := "StaveHouse", name := "beatCount", desc := "(II)I" } : Jvm.MethodName) prog_1_method_39_code (2 : Nat) (Option.some Jvm.ClassFile.FieldType.int)) ∈ wAll := wA_5 (j := 92) rfl rfl
theorem k_5_93 : (Jvm.Cond.methodLink "StaveHouse" (367 : Nat) ({ cls := "StaveHouse", name := "strength", desc := "(IIII)I" } : Jvm.MethodName)) ∈ wAll := wA_5 (j := 93) rfl rfl
theorem k_5_94 : (Jvm.Cond.static ({ cls := "StaveHouse", name := "strength", desc := "(IIII)I" } : Jvm.MethodName)) ∈ wAll := wA_5 (j := 94) rfl rfl
theorem k_5_95 : (Jvm.Cond.code ({ cls := "StaveHouse", name := "strength", desc := "(IIII)I" } : Jvm.MethodName) prog_1_method_43_code (5 : Nat) (Option.some Jvm.ClassFile.FieldType.int)) ∈ wAll := wA_5 (j := 95) rfl rfl
theorem k_5_99 : (Jvm.Cond.methodLink "StaveHouse" (375 : Nat) ({ cls := "StaveHouse", name := "greatestValue", desc := "(I)I" } : Jvm.MethodName)) ∈ wAll := wA_5 (j := 99) rfl rfl
theorem k_5_65 : (Jvm.Cond.static ({ cls := "StaveHouse", name := "greatestValue", desc := "(I)I" } : Jvm.MethodName)) ∈ wAll := wA_5 (j := 65) rfl rfl
theorem k_5_66 : (Jvm.Cond.code ({ cls := "StaveHouse", name := "greatestValue", desc := "(I)I" } : Jvm.MethodName) prog_1_method_41_code (2 : Nat) (Option.some Jvm.ClassFile.FieldType.int)) ∈ wAll := wA_5 (j := 66) rfl rfl
theorem k_5_96 : (Jvm.Cond.methodLink "StaveHouse" (371 : Nat) ({ cls := "StaveHouse", name := "strengthBetween", desc := "(IIIII)I" } : Jvm.MethodName)) ∈ wAll := wA_5 (j := 96) rfl rfl
theorem k_5_97 : (Jvm.Cond.static ({ cls := "StaveHouse", name := "strengthBetween", desc := "(IIIII)I" } : Jvm.MethodName)) ∈ wAll := wA_5 (j := 97) rfl rfl
theorem k_5_98 : (Jvm.Cond.code ({ cls := "StaveHouse", name := "strengthBetween", desc := "(IIIII)I" } : Jvm.MethodName) prog_1_method_44_code (7 : Nat) (Option.some Jvm.ClassFile.FieldType.int)) ∈ wAll := wA_5 (j := 98) rfl rfl
theorem k_9_19 : (Jvm.Cond.methodLink "StaveHouse$Performance" (304 : Nat) ({ cls := "StaveHouse$Performance", name := "rise", desc := "(I)I" } : Jvm.MethodName)) ∈ wAll := wA_9 (j := 19) rfl rfl
theorem k_9_20 : (Jvm.Cond.static ({ cls := "StaveHouse$Performance", name := "rise", desc := "(I)I" } : Jvm.MethodName)) ∈ wAll := wA_9 (j := 20) rfl rfl
theorem k_1_20 : (Jvm.Cond.initialized "StaveHouse$Performance") ∈ wAll := wA_1 (j := 20) rfl rfl
theorem k_9_21 : (Jvm.Cond.code ({ cls := "StaveHouse$Performance", name := "rise", desc := "(I)I" } : Jvm.MethodName) prog_7_method_28_code (1 : Nat) (Option.some Jvm.ClassFile.FieldType.int)) ∈ wAll := wA_9 (j := 21) rfl rfl
theorem k_2_69 : (Jvm.Cond.lays "StaveHouse$Event" "StaveHouse$Event" "place" "J") ∈ wAll := wA_2 (j := 69) rfl rfl
theorem k_2_71 : (Jvm.Cond.lays "StaveHouse$Event" "StaveHouse$Event" "length" "J") ∈ wAll := wA_2 (j := 71) rfl rfl
theorem k_2_73 : (Jvm.Cond.lays "StaveHouse$Event" "StaveHouse$Event" "value" "I") ∈ wAll := wA_2 (j := 73) rfl rfl
theorem k_2_75 : (Jvm.Cond.lays "StaveHouse$Event" "StaveHouse$Event" "tupletFirst" "I") ∈ wAll := wA_2 (j := 75) rfl rfl
theorem k_2_77 : (Jvm.Cond.lays "StaveHouse$Event" "StaveHouse$Event" "tupletSecond" "I") ∈ wAll := wA_2 (j := 77) rfl rfl
theorem k_2_79 : (Jvm.Cond.lays "StaveHouse$Event" "StaveHouse$Event" "bracket" "I") ∈ wAll := wA_2 (j := 79) rfl rfl
theorem k_2_81 : (Jvm.Cond.lays "StaveHouse$Event" "StaveHouse$Event" "bracketPlace" "I") ∈ wAll := wA_2 (j := 81) rfl rfl
theorem k_2_83 : (Jvm.Cond.lays "StaveHouse$Event" "StaveHouse$Event" "marks" "I") ∈ wAll := wA_2 (j := 83) rfl rfl
theorem k_2_85 : (Jvm.Cond.lays "StaveHouse$Event" "StaveHouse$Event" "loud" "I") ∈ wAll := wA_2 (j := 85) rfl rfl
theorem k_2_87 : (Jvm.Cond.lays "StaveHouse$Event" "StaveHouse$Event" "token" "I") ∈ wAll := wA_2 (j := 87) rfl rfl
theorem k_2_89 : (Jvm.Cond.lays "StaveHouse$Event" "StaveHouse$Event" "count" "I") ∈ wAll := wA_2 (j := 89) rfl rfl
theorem k_2_91 : (Jvm.Cond.lays "StaveHouse$Event" "StaveHouse$Event" "slurred" "Z") ∈ wAll := wA_2 (j := 91) rfl rfl
theorem k_2_93 : (Jvm.Cond.laysFinal "StaveHouse$Event" "StaveHouse$Event" "steps" "[I") ∈ wAll := wA_2 (j := 93) rfl rfl
theorem k_2_95 : (Jvm.Cond.laysFinal "StaveHouse$Event" "StaveHouse$Event" "alterations" "[I") ∈ wAll := wA_2 (j := 95) rfl rfl
theorem k_2_233 : (Jvm.Cond.laysFinal "StaveHouse$Piece" "StaveHouse$Piece" "parts" "[LStaveHouse$Part;") ∈ wAll := wA_2 (j := 233) rfl rfl
theorem k_2_235 : (Jvm.Cond.lays "StaveHouse$Piece" "StaveHouse$Piece" "partCount" "I") ∈ wAll := wA_2 (j := 235) rfl rfl
theorem k_2_237 : (Jvm.Cond.lays "StaveHouse$Piece" "StaveHouse$Piece" "fifths" "I") ∈ wAll := wA_2 (j := 237) rfl rfl
theorem k_2_239 : (Jvm.Cond.lays "StaveHouse$Piece" "StaveHouse$Piece" "minor" "I") ∈ wAll := wA_2 (j := 239) rfl rfl
theorem k_3_1 : (Jvm.Cond.lays "StaveHouse$Piece" "StaveHouse$Piece" "above" "I") ∈ wAll := wA_3 (j := 1) rfl rfl
theorem k_3_3 : (Jvm.Cond.lays "StaveHouse$Piece" "StaveHouse$Piece" "below" "I") ∈ wAll := wA_3 (j := 3) rfl rfl
theorem k_3_5 : (Jvm.Cond.lays "StaveHouse$Piece" "StaveHouse$Piece" "tempo" "I") ∈ wAll := wA_3 (j := 5) rfl rfl
theorem k_3_7 : (Jvm.Cond.lays "StaveHouse$Piece" "StaveHouse$Piece" "bars" "I") ∈ wAll := wA_3 (j := 7) rfl rfl
theorem k_3_9 : (Jvm.Cond.lays "StaveHouse$Piece" "StaveHouse$Piece" "layout" "LStaveHouse$Layout;") ∈ wAll := wA_3 (j := 9) rfl rfl
theorem k_3_11 : (Jvm.Cond.lays "StaveHouse$Piece" "StaveHouse$Piece" "performance" "LStaveHouse$Performance;") ∈ wAll := wA_3 (j := 11) rfl rfl
theorem k_3_13 : (Jvm.Cond.lays "StaveHouse$Piece" "StaveHouse$Piece" "performed" "Z") ∈ wAll := wA_3 (j := 13) rfl rfl
theorem k_3_15 : (Jvm.Cond.lays "StaveHouse$Piece" "StaveHouse$Piece" "sounded" "Z") ∈ wAll := wA_3 (j := 15) rfl rfl
theorem k_3_17 : (Jvm.Cond.lays "StaveHouse$Piece" "StaveHouse$Piece" "study" "LStaveHouse$Study;") ∈ wAll := wA_3 (j := 17) rfl rfl
theorem k_3_19 : (Jvm.Cond.lays "StaveHouse$Piece" "StaveHouse$Piece" "studied" "Z") ∈ wAll := wA_3 (j := 19) rfl rfl
theorem d_12_11_0 : decode prog_12_method_11_code 0 = .ok (.iload_n 0, 1) := by decide +kernel
theorem d_12_11_1 : decode prog_12_method_11_code 1 = .ok (.bipush 9, 2) := by decide +kernel
theorem d_12_11_3 : decode prog_12_method_11_code 3 = .ok (.if_icmp .eq 21, 3) := by decide +kernel
theorem d_12_11_6 : decode prog_12_method_11_code 6 = .ok (.iload_n 0, 1) := by decide +kernel
theorem d_12_11_7 : decode prog_12_method_11_code 7 = .ok (.bipush 10, 2) := by decide +kernel
theorem d_12_11_9 : decode prog_12_method_11_code 9 = .ok (.if_icmp .eq 15, 3) := by decide +kernel
theorem d_12_11_12 : decode prog_12_method_11_code 12 = .ok (.iload_n 0, 1) := by decide +kernel
theorem d_12_11_13 : decode prog_12_method_11_code 13 = .ok (.bipush 13, 2) := by decide +kernel
theorem d_12_11_15 : decode prog_12_method_11_code 15 = .ok (.if_icmp .eq 9, 3) := by decide +kernel
theorem d_12_11_18 : decode prog_12_method_11_code 18 = .ok (.iload_n 0, 1) := by decide +kernel
theorem d_12_11_19 : decode prog_12_method_11_code 19 = .ok (.bipush 32, 2) := by decide +kernel
theorem d_12_11_21 : decode prog_12_method_11_code 21 = .ok (.if_icmp .ne 7, 3) := by decide +kernel
theorem d_12_11_28 : decode prog_12_method_11_code 28 = .ok (.iconst 0, 1) := by decide +kernel
theorem d_12_11_24 : decode prog_12_method_11_code 24 = .ok (.iconst 1, 1) := by decide +kernel
theorem d_12_11_25 : decode prog_12_method_11_code 25 = .ok (.goto 4, 3) := by decide +kernel
theorem d_12_11_29 : decode prog_12_method_11_code 29 = .ok (.ireturn, 1) := by decide +kernel
theorem d_12_14_0 : decode prog_12_method_14_code 0 = .ok (.iload_n 0, 1) := by decide +kernel
theorem d_12_14_1 : decode prog_12_method_14_code 1 = .ok (.invokestatic 76, 3) := by decide +kernel
theorem d_12_12_0 : decode prog_12_method_12_code 0 = .ok (.iload_n 0, 1) := by decide +kernel
theorem d_12_12_1 : decode prog_12_method_12_code 1 = .ok (.bipush 97, 2) := by decide +kernel
theorem d_12_12_3 : decode prog_12_method_12_code 3 = .ok (.if_icmp .lt 13, 3) := by decide +kernel
theorem d_12_12_6 : decode prog_12_method_12_code 6 = .ok (.iload_n 0, 1) := by decide +kernel
theorem d_12_12_7 : decode prog_12_method_12_code 7 = .ok (.bipush 122, 2) := by decide +kernel
theorem d_12_12_9 : decode prog_12_method_12_code 9 = .ok (.if_icmp .gt 7, 3) := by decide +kernel
theorem d_12_12_12 : decode prog_12_method_12_code 12 = .ok (.iconst 1, 1) := by decide +kernel
theorem d_12_12_13 : decode prog_12_method_12_code 13 = .ok (.goto 4, 3) := by decide +kernel
theorem d_12_12_17 : decode prog_12_method_12_code 17 = .ok (.ireturn, 1) := by decide +kernel
theorem d_12_12_16 : decode prog_12_method_12_code 16 = .ok (.iconst 0, 1) := by decide +kernel
theorem d_12_13_0 : decode prog_12_method_13_code 0 = .ok (.iload_n 0, 1) := by decide +kernel
theorem d_12_13_1 : decode prog_12_method_13_code 1 = .ok (.bipush 48, 2) := by decide +kernel
theorem d_12_13_3 : decode prog_12_method_13_code 3 = .ok (.if_icmp .lt 13, 3) := by decide +kernel
theorem d_12_13_6 : decode prog_12_method_13_code 6 = .ok (.iload_n 0, 1) := by decide +kernel
theorem d_12_13_7 : decode prog_12_method_13_code 7 = .ok (.bipush 57, 2) := by decide +kernel
theorem d_12_13_9 : decode prog_12_method_13_code 9 = .ok (.if_icmp .gt 7, 3) := by decide +kernel
theorem d_12_13_12 : decode prog_12_method_13_code 12 = .ok (.iconst 1, 1) := by decide +kernel
theorem d_12_13_13 : decode prog_12_method_13_code 13 = .ok (.goto 4, 3) := by decide +kernel
theorem d_12_13_17 : decode prog_12_method_13_code 17 = .ok (.ireturn, 1) := by decide +kernel
theorem d_12_13_16 : decode prog_12_method_13_code 16 = .ok (.iconst 0, 1) := by decide +kernel
theorem d_5_13_0 : decode prog_5_method_13_code 0 = .ok (.iconst 0, 1) := by decide +kernel
theorem d_5_13_1 : decode prog_5_method_13_code 1 = .ok (.istore_n 3, 1) := by decide +kernel
theorem d_5_13_2 : decode prog_5_method_13_code 2 = .ok (.iload_n 3, 1) := by decide +kernel
theorem d_5_13_3 : decode prog_5_method_13_code 3 = .ok (.aload_n 0, 1) := by decide +kernel
theorem d_5_13_4 : decode prog_5_method_13_code 4 = .ok (.arraylength, 1) := by decide +kernel
theorem d_5_13_5 : decode prog_5_method_13_code 5 = .ok (.if_icmp .ge 19, 3) := by decide +kernel
theorem d_5_13_24 : decode prog_5_method_13_code 24 = .ok (.iconst (-1), 1) := by decide +kernel
theorem d_5_13_25 : decode prog_5_method_13_code 25 = .ok (.ireturn, 1) := by decide +kernel
theorem d_5_13_8 : decode prog_5_method_13_code 8 = .ok (.aload_n 0, 1) := by decide +kernel
theorem d_5_13_9 : decode prog_5_method_13_code 9 = .ok (.iload_n 3, 1) := by decide +kernel
theorem d_5_13_10 : decode prog_5_method_13_code 10 = .ok (.laload, 1) := by decide +kernel
theorem d_5_13_11 : decode prog_5_method_13_code 11 = .ok (.lload_n 1, 1) := by decide +kernel
theorem d_5_13_12 : decode prog_5_method_13_code 12 = .ok (.lcmp, 1) := by decide +kernel
theorem d_5_13_13 : decode prog_5_method_13_code 13 = .ok (.ifCond .ne 5, 3) := by decide +kernel
theorem d_5_13_18 : decode prog_5_method_13_code 18 = .ok (.iinc 3 1, 3) := by decide +kernel
theorem d_5_13_21 : decode prog_5_method_13_code 21 = .ok (.goto (-19), 3) := by decide +kernel
theorem d_5_13_16 : decode prog_5_method_13_code 16 = .ok (.iload_n 3, 1) := by decide +kernel
theorem d_5_13_17 : decode prog_5_method_13_code 17 = .ok (.ireturn, 1) := by decide +kernel
theorem d_19_50_0 : decode prog_19_method_50_code 0 = .ok (.lload_n 0, 1) := by decide +kernel
theorem d_19_50_1 : decode prog_19_method_50_code 1 = .ok (.lload_n 0, 1) := by decide +kernel
theorem d_19_50_2 : decode prog_19_method_50_code 2 = .ok (.iconst 1, 1) := by decide +kernel
theorem d_19_50_3 : decode prog_19_method_50_code 3 = .ok (.lushr, 1) := by decide +kernel
theorem d_19_50_4 : decode prog_19_method_50_code 4 = .ok (.ldc2_w 314, 3) := by decide +kernel
theorem d_19_50_7 : decode prog_19_method_50_code 7 = .ok (.land, 1) := by decide +kernel
theorem d_19_50_8 : decode prog_19_method_50_code 8 = .ok (.lsub, 1) := by decide +kernel
theorem d_19_50_9 : decode prog_19_method_50_code 9 = .ok (.lstore_n 0, 1) := by decide +kernel
theorem d_19_50_10 : decode prog_19_method_50_code 10 = .ok (.lload_n 0, 1) := by decide +kernel
theorem d_19_50_11 : decode prog_19_method_50_code 11 = .ok (.ldc2_w 316, 3) := by decide +kernel
theorem d_19_50_14 : decode prog_19_method_50_code 14 = .ok (.land, 1) := by decide +kernel
theorem d_19_50_15 : decode prog_19_method_50_code 15 = .ok (.lload_n 0, 1) := by decide +kernel
theorem d_19_50_16 : decode prog_19_method_50_code 16 = .ok (.iconst 2, 1) := by decide +kernel
theorem d_19_50_17 : decode prog_19_method_50_code 17 = .ok (.lushr, 1) := by decide +kernel
theorem d_19_50_18 : decode prog_19_method_50_code 18 = .ok (.ldc2_w 316, 3) := by decide +kernel
theorem d_19_50_21 : decode prog_19_method_50_code 21 = .ok (.land, 1) := by decide +kernel
theorem d_19_50_22 : decode prog_19_method_50_code 22 = .ok (.ladd, 1) := by decide +kernel
theorem d_19_50_23 : decode prog_19_method_50_code 23 = .ok (.lstore_n 0, 1) := by decide +kernel
theorem d_19_50_24 : decode prog_19_method_50_code 24 = .ok (.lload_n 0, 1) := by decide +kernel
theorem d_19_50_25 : decode prog_19_method_50_code 25 = .ok (.lload_n 0, 1) := by decide +kernel
theorem d_19_50_26 : decode prog_19_method_50_code 26 = .ok (.iconst 4, 1) := by decide +kernel
theorem d_19_50_27 : decode prog_19_method_50_code 27 = .ok (.lushr, 1) := by decide +kernel
theorem d_19_50_28 : decode prog_19_method_50_code 28 = .ok (.ladd, 1) := by decide +kernel
theorem d_19_50_29 : decode prog_19_method_50_code 29 = .ok (.ldc2_w 318, 3) := by decide +kernel
theorem d_19_50_32 : decode prog_19_method_50_code 32 = .ok (.land, 1) := by decide +kernel
theorem d_19_50_33 : decode prog_19_method_50_code 33 = .ok (.lstore_n 0, 1) := by decide +kernel
theorem d_19_50_34 : decode prog_19_method_50_code 34 = .ok (.lload_n 0, 1) := by decide +kernel
theorem d_19_50_35 : decode prog_19_method_50_code 35 = .ok (.lload_n 0, 1) := by decide +kernel
theorem d_19_50_36 : decode prog_19_method_50_code 36 = .ok (.bipush 8, 2) := by decide +kernel
theorem d_19_50_38 : decode prog_19_method_50_code 38 = .ok (.lushr, 1) := by decide +kernel
theorem d_19_50_39 : decode prog_19_method_50_code 39 = .ok (.ladd, 1) := by decide +kernel
theorem d_19_50_40 : decode prog_19_method_50_code 40 = .ok (.lstore_n 0, 1) := by decide +kernel
theorem d_19_50_41 : decode prog_19_method_50_code 41 = .ok (.lload_n 0, 1) := by decide +kernel
theorem d_19_50_42 : decode prog_19_method_50_code 42 = .ok (.lload_n 0, 1) := by decide +kernel
theorem d_19_50_43 : decode prog_19_method_50_code 43 = .ok (.bipush 16, 2) := by decide +kernel
theorem d_19_50_45 : decode prog_19_method_50_code 45 = .ok (.lushr, 1) := by decide +kernel
theorem d_19_50_46 : decode prog_19_method_50_code 46 = .ok (.ladd, 1) := by decide +kernel
theorem d_19_50_47 : decode prog_19_method_50_code 47 = .ok (.lstore_n 0, 1) := by decide +kernel
theorem d_19_50_48 : decode prog_19_method_50_code 48 = .ok (.lload_n 0, 1) := by decide +kernel
theorem d_19_50_49 : decode prog_19_method_50_code 49 = .ok (.lload_n 0, 1) := by decide +kernel
theorem d_19_50_50 : decode prog_19_method_50_code 50 = .ok (.bipush 32, 2) := by decide +kernel
theorem d_19_50_52 : decode prog_19_method_50_code 52 = .ok (.lushr, 1) := by decide +kernel
theorem d_19_50_53 : decode prog_19_method_50_code 53 = .ok (.ladd, 1) := by decide +kernel
theorem d_19_50_54 : decode prog_19_method_50_code 54 = .ok (.lstore_n 0, 1) := by decide +kernel
theorem d_19_50_55 : decode prog_19_method_50_code 55 = .ok (.lload_n 0, 1) := by decide +kernel
theorem d_19_50_56 : decode prog_19_method_50_code 56 = .ok (.l2i, 1) := by decide +kernel
theorem d_19_50_57 : decode prog_19_method_50_code 57 = .ok (.bipush 127, 2) := by decide +kernel
theorem d_19_50_59 : decode prog_19_method_50_code 59 = .ok (.iand, 1) := by decide +kernel
theorem d_19_50_60 : decode prog_19_method_50_code 60 = .ok (.ireturn, 1) := by decide +kernel
theorem d_1_37_0 : decode prog_1_method_37_code 0 = .ok (.bipush 12, 2) := by decide +kernel
theorem d_1_37_2 : decode prog_1_method_37_code 2 = .ok (.iload_n 0, 1) := by decide +kernel
theorem d_1_37_3 : decode prog_1_method_37_code 3 = .ok (.bipush 7, 2) := by decide +kernel
theorem d_1_37_5 : decode prog_1_method_37_code 5 = .ok (.invokestatic 341, 3) := by decide +kernel
theorem d_20_47_0 : decode prog_20_method_47_code 0 = .ok (.iload_n 0, 1) := by decide +kernel
theorem d_20_47_1 : decode prog_20_method_47_code 1 = .ok (.iload_n 1, 1) := by decide +kernel
theorem d_20_47_2 : decode prog_20_method_47_code 2 = .ok (.idiv, 1) := by decide +kernel
theorem d_20_47_3 : decode prog_20_method_47_code 3 = .ok (.istore_n 2, 1) := by decide +kernel
theorem d_20_47_4 : decode prog_20_method_47_code 4 = .ok (.iload_n 0, 1) := by decide +kernel
theorem d_20_47_5 : decode prog_20_method_47_code 5 = .ok (.iload_n 1, 1) := by decide +kernel
theorem d_20_47_6 : decode prog_20_method_47_code 6 = .ok (.ixor, 1) := by decide +kernel
theorem d_20_47_7 : decode prog_20_method_47_code 7 = .ok (.ifCond .ge 14, 3) := by decide +kernel
theorem d_20_47_10 : decode prog_20_method_47_code 10 = .ok (.iload_n 2, 1) := by decide +kernel
theorem d_20_47_11 : decode prog_20_method_47_code 11 = .ok (.iload_n 1, 1) := by decide +kernel
theorem d_20_47_12 : decode prog_20_method_47_code 12 = .ok (.imul, 1) := by decide +kernel
theorem d_20_47_13 : decode prog_20_method_47_code 13 = .ok (.iload_n 0, 1) := by decide +kernel
theorem d_20_47_14 : decode prog_20_method_47_code 14 = .ok (.if_icmp .eq 7, 3) := by decide +kernel
theorem d_20_47_17 : decode prog_20_method_47_code 17 = .ok (.iload_n 2, 1) := by decide +kernel
theorem d_20_47_18 : decode prog_20_method_47_code 18 = .ok (.iconst 1, 1) := by decide +kernel
theorem d_20_47_19 : decode prog_20_method_47_code 19 = .ok (.isub, 1) := by decide +kernel
theorem d_20_47_20 : decode prog_20_method_47_code 20 = .ok (.ireturn, 1) := by decide +kernel
theorem d_20_47_21 : decode prog_20_method_47_code 21 = .ok (.iload_n 2, 1) := by decide +kernel
theorem d_20_47_22 : decode prog_20_method_47_code 22 = .ok (.ireturn, 1) := by decide +kernel
theorem d_20_50_0 : decode prog_20_method_50_code 0 = .ok (.iload_n 0, 1) := by decide +kernel
theorem d_20_50_1 : decode prog_20_method_50_code 1 = .ok (.iload_n 1, 1) := by decide +kernel
theorem d_20_50_2 : decode prog_20_method_50_code 2 = .ok (.irem, 1) := by decide +kernel
theorem d_20_50_3 : decode prog_20_method_50_code 3 = .ok (.istore_n 2, 1) := by decide +kernel
theorem d_20_50_4 : decode prog_20_method_50_code 4 = .ok (.iload_n 0, 1) := by decide +kernel
theorem d_20_50_5 : decode prog_20_method_50_code 5 = .ok (.iload_n 1, 1) := by decide +kernel
theorem d_20_50_6 : decode prog_20_method_50_code 6 = .ok (.ixor, 1) := by decide +kernel
theorem d_20_50_7 : decode prog_20_method_50_code 7 = .ok (.ifCond .ge 11, 3) := by decide +kernel
theorem d_20_50_10 : decode prog_20_method_50_code 10 = .ok (.iload_n 2, 1) := by decide +kernel
theorem d_20_50_11 : decode prog_20_method_50_code 11 = .ok (.ifCond .eq 7, 3) := by decide +kernel
theorem d_20_50_14 : decode prog_20_method_50_code 14 = .ok (.iload_n 2, 1) := by decide +kernel
theorem d_20_50_15 : decode prog_20_method_50_code 15 = .ok (.iload_n 1, 1) := by decide +kernel
theorem d_20_50_16 : decode prog_20_method_50_code 16 = .ok (.iadd, 1) := by decide +kernel
theorem d_20_50_17 : decode prog_20_method_50_code 17 = .ok (.ireturn, 1) := by decide +kernel
theorem d_20_50_18 : decode prog_20_method_50_code 18 = .ok (.iload_n 2, 1) := by decide +kernel
theorem d_20_50_19 : decode prog_20_method_50_code 19 = .ok (.ireturn, 1) := by decide +kernel
theorem d_1_41_0 : decode prog_1_method_41_code 0 = .ok (.iconst 0, 1) := by decide +kernel
theorem d_1_41_1 : decode prog_1_method_41_code 1 = .ok (.istore_n 1, 1) := by decide +kernel
theorem d_1_41_2 : decode prog_1_method_41_code 2 = .ok (.iload_n 1, 1) := by decide +kernel
theorem d_1_41_3 : decode prog_1_method_41_code 3 = .ok (.bipush 24, 2) := by decide +kernel
theorem d_1_41_5 : decode prog_1_method_41_code 5 = .ok (.if_icmp .ge 19, 3) := by decide +kernel
theorem d_1_41_24 : decode prog_1_method_41_code 24 = .ok (.bipush 23, 2) := by decide +kernel
theorem d_1_41_26 : decode prog_1_method_41_code 26 = .ok (.ireturn, 1) := by decide +kernel
theorem d_1_41_8 : decode prog_1_method_41_code 8 = .ok (.iload_n 1, 1) := by decide +kernel
theorem d_1_41_9 : decode prog_1_method_41_code 9 = .ok (.invokestatic 358, 3) := by decide +kernel
theorem d_1_40_0 : decode prog_1_method_40_code 0 = .ok (.sipush 512, 3) := by decide +kernel
theorem d_1_40_3 : decode prog_1_method_40_code 3 = .ok (.iload_n 0, 1) := by decide +kernel
theorem d_1_40_4 : decode prog_1_method_40_code 4 = .ok (.iconst 3, 1) := by decide +kernel
theorem d_1_40_5 : decode prog_1_method_40_code 5 = .ok (.idiv, 1) := by decide +kernel
theorem d_1_40_6 : decode prog_1_method_40_code 6 = .ok (.ishr, 1) := by decide +kernel
theorem d_1_40_7 : decode prog_1_method_40_code 7 = .ok (.getstatic 355, 3) := by decide +kernel
theorem d_1_40_10 : decode prog_1_method_40_code 10 = .ok (.iconst 2, 1) := by decide +kernel
theorem d_1_40_11 : decode prog_1_method_40_code 11 = .ok (.iload_n 0, 1) := by decide +kernel
theorem d_1_40_12 : decode prog_1_method_40_code 12 = .ok (.iconst 3, 1) := by decide +kernel
theorem d_1_40_13 : decode prog_1_method_40_code 13 = .ok (.irem, 1) := by decide +kernel
theorem d_1_40_14 : decode prog_1_method_40_code 14 = .ok (.isub, 1) := by decide +kernel
theorem d_1_40_15 : decode prog_1_method_40_code 15 = .ok (.iaload, 1) := by decide +kernel
theorem d_1_40_16 : decode prog_1_method_40_code 16 = .ok (.imul, 1) := by decide +kernel
theorem d_1_40_17 : decode prog_1_method_40_code 17 = .ok (.iconst 4, 1) := by decide +kernel
theorem d_1_40_18 : decode prog_1_method_40_code 18 = .ok (.idiv, 1) := by decide +kernel
theorem d_1_40_19 : decode prog_1_method_40_code 19 = .ok (.ireturn, 1) := by decide +kernel
theorem d_1_42_0 : decode prog_1_method_42_code 0 = .ok (.sipush 512, 3) := by decide +kernel
theorem d_1_42_3 : decode prog_1_method_42_code 3 = .ok (.iload_n 1, 1) := by decide +kernel
theorem d_1_42_4 : decode prog_1_method_42_code 4 = .ok (.iconst 1, 1) := by decide +kernel
theorem d_1_42_5 : decode prog_1_method_42_code 5 = .ok (.invokestatic 361, 3) := by decide +kernel
theorem d_1_42_8 : decode prog_1_method_42_code 8 = .ok (.idiv, 1) := by decide +kernel
theorem d_1_42_9 : decode prog_1_method_42_code 9 = .ok (.istore 4, 2) := by decide +kernel
theorem d_1_42_11 : decode prog_1_method_42_code 11 = .ok (.iload 4, 2) := by decide +kernel
theorem d_1_42_13 : decode prog_1_method_42_code 13 = .ok (.iload_n 0, 1) := by decide +kernel
theorem d_1_42_14 : decode prog_1_method_42_code 14 = .ok (.imul, 1) := by decide +kernel
theorem d_1_42_15 : decode prog_1_method_42_code 15 = .ok (.istore 5, 2) := by decide +kernel
theorem d_1_42_17 : decode prog_1_method_42_code 17 = .ok (.iload 4, 2) := by decide +kernel
theorem d_1_42_19 : decode prog_1_method_42_code 19 = .ok (.iload_n 0, 1) := by decide +kernel
theorem d_1_42_20 : decode prog_1_method_42_code 20 = .ok (.iload_n 1, 1) := by decide +kernel
theorem d_1_42_21 : decode prog_1_method_42_code 21 = .ok (.invokestatic 364, 3) := by decide +kernel
theorem d_1_39_0 : decode prog_1_method_39_code 0 = .ok (.iload_n 1, 1) := by decide +kernel
theorem d_1_39_1 : decode prog_1_method_39_code 1 = .ok (.bipush 8, 2) := by decide +kernel
theorem d_1_39_3 : decode prog_1_method_39_code 3 = .ok (.if_icmp .lt 11, 3) := by decide +kernel
theorem d_1_39_6 : decode prog_1_method_39_code 6 = .ok (.iload_n 0, 1) := by decide +kernel
theorem d_1_39_7 : decode prog_1_method_39_code 7 = .ok (.iconst 3, 1) := by decide +kernel
theorem d_1_39_8 : decode prog_1_method_39_code 8 = .ok (.irem, 1) := by decide +kernel
theorem d_1_39_9 : decode prog_1_method_39_code 9 = .ok (.ifCond .ne 5, 3) := by decide +kernel
theorem d_1_39_12 : decode prog_1_method_39_code 12 = .ok (.iconst 3, 1) := by decide +kernel
theorem d_1_39_13 : decode prog_1_method_39_code 13 = .ok (.ireturn, 1) := by decide +kernel
theorem d_1_39_14 : decode prog_1_method_39_code 14 = .ok (.iload_n 1, 1) := by decide +kernel
theorem d_1_39_15 : decode prog_1_method_39_code 15 = .ok (.iconst 4, 1) := by decide +kernel
theorem d_1_39_16 : decode prog_1_method_39_code 16 = .ok (.if_icmp .gt 7, 3) := by decide +kernel
theorem d_1_39_23 : decode prog_1_method_39_code 23 = .ok (.iconst 2, 1) := by decide +kernel
theorem d_1_39_19 : decode prog_1_method_39_code 19 = .ok (.iconst 1, 1) := by decide +kernel
theorem d_1_39_20 : decode prog_1_method_39_code 20 = .ok (.goto 4, 3) := by decide +kernel
theorem d_1_39_24 : decode prog_1_method_39_code 24 = .ok (.ireturn, 1) := by decide +kernel
theorem d_1_43_0 : decode prog_1_method_43_code 0 = .ok (.iload_n 3, 1) := by decide +kernel
theorem d_1_43_1 : decode prog_1_method_43_code 1 = .ok (.ifCond .eq 8, 3) := by decide +kernel
theorem d_1_43_4 : decode prog_1_method_43_code 4 = .ok (.iload_n 3, 1) := by decide +kernel
theorem d_1_43_5 : decode prog_1_method_43_code 5 = .ok (.iload_n 0, 1) := by decide +kernel
theorem d_1_43_6 : decode prog_1_method_43_code 6 = .ok (.if_icmp .ne 6, 3) := by decide +kernel
theorem d_1_43_12 : decode prog_1_method_43_code 12 = .ok (.iload_n 0, 1) := by decide +kernel
theorem d_1_43_13 : decode prog_1_method_43_code 13 = .ok (.iconst 2, 1) := by decide +kernel
theorem d_1_43_14 : decode prog_1_method_43_code 14 = .ok (.iload_n 2, 1) := by decide +kernel
theorem d_1_43_15 : decode prog_1_method_43_code 15 = .ok (.imul, 1) := by decide +kernel
theorem d_1_43_16 : decode prog_1_method_43_code 16 = .ok (.irem, 1) := by decide +kernel
theorem d_1_43_17 : decode prog_1_method_43_code 17 = .ok (.ifCond .ne 13, 3) := by decide +kernel
theorem d_1_43_20 : decode prog_1_method_43_code 20 = .ok (.iconst 2, 1) := by decide +kernel
theorem d_1_43_21 : decode prog_1_method_43_code 21 = .ok (.iload_n 3, 1) := by decide +kernel
theorem d_1_43_22 : decode prog_1_method_43_code 22 = .ok (.imul, 1) := by decide +kernel
theorem d_1_43_23 : decode prog_1_method_43_code 23 = .ok (.iload_n 0, 1) := by decide +kernel
theorem d_1_43_24 : decode prog_1_method_43_code 24 = .ok (.if_icmp .ne 6, 3) := by decide +kernel
theorem d_1_43_27 : decode prog_1_method_43_code 27 = .ok (.bipush 8, 2) := by decide +kernel
theorem d_1_43_29 : decode prog_1_method_43_code 29 = .ok (.ireturn, 1) := by decide +kernel
theorem d_1_43_9 : decode prog_1_method_43_code 9 = .ok (.bipush 9, 2) := by decide +kernel
theorem d_1_43_11 : decode prog_1_method_43_code 11 = .ok (.ireturn, 1) := by decide +kernel
theorem d_1_43_30 : decode prog_1_method_43_code 30 = .ok (.iload_n 3, 1) := by decide +kernel
theorem d_1_43_31 : decode prog_1_method_43_code 31 = .ok (.iload_n 1, 1) := by decide +kernel
theorem d_1_43_32 : decode prog_1_method_43_code 32 = .ok (.irem, 1) := by decide +kernel
theorem d_1_43_33 : decode prog_1_method_43_code 33 = .ok (.ifCond .ne 6, 3) := by decide +kernel
theorem d_1_43_39 : decode prog_1_method_43_code 39 = .ok (.iconst 0, 1) := by decide +kernel
theorem d_1_43_40 : decode prog_1_method_43_code 40 = .ok (.istore 4, 2) := by decide +kernel
theorem d_1_43_36 : decode prog_1_method_43_code 36 = .ok (.bipush 7, 2) := by decide +kernel
theorem d_1_43_38 : decode prog_1_method_43_code 38 = .ok (.ireturn, 1) := by decide +kernel
theorem d_1_43_42 : decode prog_1_method_43_code 42 = .ok (.iload 4, 2) := by decide +kernel
theorem d_1_43_44 : decode prog_1_method_43_code 44 = .ok (.iconst 5, 1) := by decide +kernel
theorem d_1_43_45 : decode prog_1_method_43_code 45 = .ok (.if_icmp .ge 24, 3) := by decide +kernel
theorem d_1_43_69 : decode prog_1_method_43_code 69 = .ok (.iconst 1, 1) := by decide +kernel
theorem d_1_43_70 : decode prog_1_method_43_code 70 = .ok (.ireturn, 1) := by decide +kernel
theorem d_1_43_48 : decode prog_1_method_43_code 48 = .ok (.iload_n 3, 1) := by decide +kernel
theorem d_1_43_49 : decode prog_1_method_43_code 49 = .ok (.iload_n 2, 1) := by decide +kernel
theorem d_1_43_50 : decode prog_1_method_43_code 50 = .ok (.iload 4, 2) := by decide +kernel
theorem d_1_43_52 : decode prog_1_method_43_code 52 = .ok (.ishr, 1) := by decide +kernel
theorem d_1_43_53 : decode prog_1_method_43_code 53 = .ok (.irem, 1) := by decide +kernel
theorem d_1_43_54 : decode prog_1_method_43_code 54 = .ok (.ifCond .ne 9, 3) := by decide +kernel
theorem d_1_43_63 : decode prog_1_method_43_code 63 = .ok (.iinc 4 1, 3) := by decide +kernel
theorem d_1_43_66 : decode prog_1_method_43_code 66 = .ok (.goto (-24), 3) := by decide +kernel
theorem d_1_43_57 : decode prog_1_method_43_code 57 = .ok (.bipush 6, 2) := by decide +kernel
theorem d_1_43_59 : decode prog_1_method_43_code 59 = .ok (.iload 4, 2) := by decide +kernel
theorem d_1_43_61 : decode prog_1_method_43_code 61 = .ok (.isub, 1) := by decide +kernel
theorem d_1_43_62 : decode prog_1_method_43_code 62 = .ok (.ireturn, 1) := by decide +kernel
theorem d_1_44_0 : decode prog_1_method_44_code 0 = .ok (.iload_n 0, 1) := by decide +kernel
theorem d_1_44_1 : decode prog_1_method_44_code 1 = .ok (.iconst 2, 1) := by decide +kernel
theorem d_1_44_2 : decode prog_1_method_44_code 2 = .ok (.iload_n 2, 1) := by decide +kernel
theorem d_1_44_3 : decode prog_1_method_44_code 3 = .ok (.imul, 1) := by decide +kernel
theorem d_1_44_4 : decode prog_1_method_44_code 4 = .ok (.irem, 1) := by decide +kernel
theorem d_1_44_5 : decode prog_1_method_44_code 5 = .ok (.ifCond .ne 21, 3) := by decide +kernel
theorem d_1_44_8 : decode prog_1_method_44_code 8 = .ok (.iconst 2, 1) := by decide +kernel
theorem d_1_44_9 : decode prog_1_method_44_code 9 = .ok (.iload_n 3, 1) := by decide +kernel
theorem d_1_44_10 : decode prog_1_method_44_code 10 = .ok (.imul, 1) := by decide +kernel
theorem d_1_44_11 : decode prog_1_method_44_code 11 = .ok (.iload_n 0, 1) := by decide +kernel
theorem d_1_44_12 : decode prog_1_method_44_code 12 = .ok (.if_icmp .ge 14, 3) := by decide +kernel
theorem d_1_44_15 : decode prog_1_method_44_code 15 = .ok (.iload_n 0, 1) := by decide +kernel
theorem d_1_44_16 : decode prog_1_method_44_code 16 = .ok (.iconst 2, 1) := by decide +kernel
theorem d_1_44_17 : decode prog_1_method_44_code 17 = .ok (.iload 4, 2) := by decide +kernel
theorem d_1_44_19 : decode prog_1_method_44_code 19 = .ok (.imul, 1) := by decide +kernel
theorem d_1_44_20 : decode prog_1_method_44_code 20 = .ok (.if_icmp .ge 6, 3) := by decide +kernel
theorem d_1_44_23 : decode prog_1_method_44_code 23 = .ok (.bipush 8, 2) := by decide +kernel
theorem d_1_44_25 : decode prog_1_method_44_code 25 = .ok (.ireturn, 1) := by decide +kernel
theorem d_1_44_26 : decode prog_1_method_44_code 26 = .ok (.iload 4, 2) := by decide +kernel
theorem d_1_44_28 : decode prog_1_method_44_code 28 = .ok (.iconst 1, 1) := by decide +kernel
theorem d_1_44_29 : decode prog_1_method_44_code 29 = .ok (.isub, 1) := by decide +kernel
theorem d_1_44_30 : decode prog_1_method_44_code 30 = .ok (.iload_n 1, 1) := by decide +kernel
theorem d_1_44_31 : decode prog_1_method_44_code 31 = .ok (.idiv, 1) := by decide +kernel
theorem d_1_44_32 : decode prog_1_method_44_code 32 = .ok (.iload_n 1, 1) := by decide +kernel
theorem d_1_44_33 : decode prog_1_method_44_code 33 = .ok (.imul, 1) := by decide +kernel
theorem d_1_44_34 : decode prog_1_method_44_code 34 = .ok (.iload_n 3, 1) := by decide +kernel
theorem d_1_44_35 : decode prog_1_method_44_code 35 = .ok (.if_icmp .le 6, 3) := by decide +kernel
theorem d_1_44_41 : decode prog_1_method_44_code 41 = .ok (.iconst 0, 1) := by decide +kernel
theorem d_1_44_42 : decode prog_1_method_44_code 42 = .ok (.istore 5, 2) := by decide +kernel
theorem d_1_44_38 : decode prog_1_method_44_code 38 = .ok (.bipush 7, 2) := by decide +kernel
theorem d_1_44_40 : decode prog_1_method_44_code 40 = .ok (.ireturn, 1) := by decide +kernel
theorem d_1_44_44 : decode prog_1_method_44_code 44 = .ok (.iload 5, 2) := by decide +kernel
theorem d_1_44_46 : decode prog_1_method_44_code 46 = .ok (.iconst 5, 1) := by decide +kernel
theorem d_1_44_47 : decode prog_1_method_44_code 47 = .ok (.if_icmp .ge 35, 3) := by decide +kernel
theorem d_1_44_82 : decode prog_1_method_44_code 82 = .ok (.iconst 1, 1) := by decide +kernel
theorem d_1_44_83 : decode prog_1_method_44_code 83 = .ok (.ireturn, 1) := by decide +kernel
theorem d_1_44_50 : decode prog_1_method_44_code 50 = .ok (.iload_n 2, 1) := by decide +kernel
theorem d_1_44_51 : decode prog_1_method_44_code 51 = .ok (.iload 5, 2) := by decide +kernel
theorem d_1_44_53 : decode prog_1_method_44_code 53 = .ok (.ishr, 1) := by decide +kernel
theorem d_1_44_54 : decode prog_1_method_44_code 54 = .ok (.istore 6, 2) := by decide +kernel
theorem d_1_44_56 : decode prog_1_method_44_code 56 = .ok (.iload 4, 2) := by decide +kernel
theorem d_1_44_58 : decode prog_1_method_44_code 58 = .ok (.iconst 1, 1) := by decide +kernel
theorem d_1_44_59 : decode prog_1_method_44_code 59 = .ok (.isub, 1) := by decide +kernel
theorem d_1_44_60 : decode prog_1_method_44_code 60 = .ok (.iload 6, 2) := by decide +kernel
theorem d_1_44_62 : decode prog_1_method_44_code 62 = .ok (.idiv, 1) := by decide +kernel
theorem d_1_44_63 : decode prog_1_method_44_code 63 = .ok (.iload 6, 2) := by decide +kernel
theorem d_1_44_65 : decode prog_1_method_44_code 65 = .ok (.imul, 1) := by decide +kernel
theorem d_1_44_66 : decode prog_1_method_44_code 66 = .ok (.iload_n 3, 1) := by decide +kernel
theorem d_1_44_67 : decode prog_1_method_44_code 67 = .ok (.if_icmp .le 9, 3) := by decide +kernel
theorem d_1_44_76 : decode prog_1_method_44_code 76 = .ok (.iinc 5 1, 3) := by decide +kernel
theorem d_1_44_79 : decode prog_1_method_44_code 79 = .ok (.goto (-35), 3) := by decide +kernel
theorem d_1_44_70 : decode prog_1_method_44_code 70 = .ok (.bipush 6, 2) := by decide +kernel
theorem d_1_44_72 : decode prog_1_method_44_code 72 = .ok (.iload 5, 2) := by decide +kernel
theorem d_1_44_74 : decode prog_1_method_44_code 74 = .ok (.isub, 1) := by decide +kernel
theorem d_1_44_75 : decode prog_1_method_44_code 75 = .ok (.ireturn, 1) := by decide +kernel
theorem d_1_38_0 : decode prog_1_method_38_code 0 = .ok (.getstatic 352, 3) := by decide +kernel
theorem d_1_38_3 : decode prog_1_method_38_code 3 = .ok (.iload_n 1, 1) := by decide +kernel
theorem d_1_38_4 : decode prog_1_method_38_code 4 = .ok (.bipush 7, 2) := by decide +kernel
theorem d_1_38_6 : decode prog_1_method_38_code 6 = .ok (.invokestatic 349, 3) := by decide +kernel
theorem d_1_38_9 : decode prog_1_method_38_code 9 = .ok (.iaload, 1) := by decide +kernel
theorem d_1_38_10 : decode prog_1_method_38_code 10 = .ok (.istore_n 2, 1) := by decide +kernel
theorem d_1_38_11 : decode prog_1_method_38_code 11 = .ok (.iload_n 0, 1) := by decide +kernel
theorem d_1_38_12 : decode prog_1_method_38_code 12 = .ok (.ifCond .le 14, 3) := by decide +kernel
theorem d_1_38_26 : decode prog_1_method_38_code 26 = .ok (.bipush 6, 2) := by decide +kernel
theorem d_1_38_28 : decode prog_1_method_38_code 28 = .ok (.iload_n 2, 1) := by decide +kernel
theorem d_1_38_29 : decode prog_1_method_38_code 29 = .ok (.isub, 1) := by decide +kernel
theorem d_1_38_30 : decode prog_1_method_38_code 30 = .ok (.iload_n 0, 1) := by decide +kernel
theorem d_1_38_31 : decode prog_1_method_38_code 31 = .ok (.ineg, 1) := by decide +kernel
theorem d_1_38_32 : decode prog_1_method_38_code 32 = .ok (.if_icmp .ge 7, 3) := by decide +kernel
theorem d_1_38_39 : decode prog_1_method_38_code 39 = .ok (.iconst 0, 1) := by decide +kernel
theorem d_1_38_35 : decode prog_1_method_38_code 35 = .ok (.iconst (-1), 1) := by decide +kernel
theorem d_1_38_36 : decode prog_1_method_38_code 36 = .ok (.goto 4, 3) := by decide +kernel
theorem d_1_38_15 : decode prog_1_method_38_code 15 = .ok (.iload_n 2, 1) := by decide +kernel
theorem d_1_38_16 : decode prog_1_method_38_code 16 = .ok (.iload_n 0, 1) := by decide +kernel
theorem d_1_38_17 : decode prog_1_method_38_code 17 = .ok (.if_icmp .ge 7, 3) := by decide +kernel
theorem d_1_38_24 : decode prog_1_method_38_code 24 = .ok (.iconst 0, 1) := by decide +kernel
theorem d_1_38_20 : decode prog_1_method_38_code 20 = .ok (.iconst 1, 1) := by decide +kernel
theorem d_1_38_21 : decode prog_1_method_38_code 21 = .ok (.goto 4, 3) := by decide +kernel
theorem d_1_38_25 : decode prog_1_method_38_code 25 = .ok (.ireturn, 1) := by decide +kernel
theorem d_1_38_40 : decode prog_1_method_38_code 40 = .ok (.ireturn, 1) := by decide +kernel
theorem d_11_10_0 : decode prog_11_method_10_code 0 = .ok (.iload_n 3, 1) := by decide +kernel
theorem d_11_10_1 : decode prog_11_method_10_code 1 = .ok (.iload_n 1, 1) := by decide +kernel
theorem d_11_10_2 : decode prog_11_method_10_code 2 = .ok (.if_icmp .le 7, 3) := by decide +kernel
theorem d_11_10_9 : decode prog_11_method_10_code 9 = .ok (.iconst 0, 1) := by decide +kernel
theorem d_11_10_5 : decode prog_11_method_10_code 5 = .ok (.iconst 1, 1) := by decide +kernel
theorem d_11_10_6 : decode prog_11_method_10_code 6 = .ok (.goto 4, 3) := by decide +kernel
theorem d_11_10_10 : decode prog_11_method_10_code 10 = .ok (.istore 4, 2) := by decide +kernel
theorem d_11_10_12 : decode prog_11_method_10_code 12 = .ok (.iload 4, 2) := by decide +kernel
theorem d_11_10_14 : decode prog_11_method_10_code 14 = .ok (.ifCond .eq 9, 3) := by decide +kernel
theorem d_11_10_23 : decode prog_11_method_10_code 23 = .ok (.iload_n 0, 1) := by decide +kernel
theorem d_11_10_24 : decode prog_11_method_10_code 24 = .ok (.iload_n 2, 1) := by decide +kernel
theorem d_11_10_25 : decode prog_11_method_10_code 25 = .ok (.isub, 1) := by decide +kernel
theorem d_11_10_17 : decode prog_11_method_10_code 17 = .ok (.iload_n 2, 1) := by decide +kernel
theorem d_11_10_18 : decode prog_11_method_10_code 18 = .ok (.iload_n 0, 1) := by decide +kernel
theorem d_11_10_19 : decode prog_11_method_10_code 19 = .ok (.isub, 1) := by decide +kernel
theorem d_11_10_20 : decode prog_11_method_10_code 20 = .ok (.goto 6, 3) := by decide +kernel
theorem d_11_10_26 : decode prog_11_method_10_code 26 = .ok (.bipush 7, 2) := by decide +kernel
theorem d_11_10_28 : decode prog_11_method_10_code 28 = .ok (.invokestatic 130, 3) := by decide +kernel
theorem d_11_10_31 : decode prog_11_method_10_code 31 = .ok (.istore 5, 2) := by decide +kernel
theorem d_11_10_33 : decode prog_11_method_10_code 33 = .ok (.iload_n 1, 1) := by decide +kernel
theorem d_11_10_34 : decode prog_11_method_10_code 34 = .ok (.iload_n 3, 1) := by decide +kernel
theorem d_11_10_35 : decode prog_11_method_10_code 35 = .ok (.isub, 1) := by decide +kernel
theorem d_11_10_36 : decode prog_11_method_10_code 36 = .ok (.invokestatic 127, 3) := by decide +kernel
theorem d_11_10_39 : decode prog_11_method_10_code 39 = .ok (.bipush 12, 2) := by decide +kernel
theorem d_11_10_41 : decode prog_11_method_10_code 41 = .ok (.irem, 1) := by decide +kernel
theorem d_11_10_42 : decode prog_11_method_10_code 42 = .ok (.istore 6, 2) := by decide +kernel
theorem d_11_10_44 : decode prog_11_method_10_code 44 = .ok (.iload 5, 2) := by decide +kernel
theorem d_11_10_46 : decode prog_11_method_10_code 46 = .ok (.ifCond .ne 10, 3) := by decide +kernel
theorem d_11_10_49 : decode prog_11_method_10_code 49 = .ok (.iload 6, 2) := by decide +kernel
theorem d_11_10_51 : decode prog_11_method_10_code 51 = .ok (.ifCond .ne 5, 3) := by decide +kernel
theorem d_11_10_54 : decode prog_11_method_10_code 54 = .ok (.iconst 1, 1) := by decide +kernel
theorem d_11_10_55 : decode prog_11_method_10_code 55 = .ok (.ireturn, 1) := by decide +kernel
theorem d_11_10_56 : decode prog_11_method_10_code 56 = .ok (.iload 5, 2) := by decide +kernel
theorem d_11_10_58 : decode prog_11_method_10_code 58 = .ok (.iconst 4, 1) := by decide +kernel
theorem d_11_10_59 : decode prog_11_method_10_code 59 = .ok (.if_icmp .ne 14, 3) := by decide +kernel
theorem d_11_10_62 : decode prog_11_method_10_code 62 = .ok (.iload 6, 2) := by decide +kernel
theorem d_11_10_64 : decode prog_11_method_10_code 64 = .ok (.bipush 7, 2) := by decide +kernel
theorem d_11_10_66 : decode prog_11_method_10_code 66 = .ok (.if_icmp .ne 7, 3) := by decide +kernel
theorem d_11_10_69 : decode prog_11_method_10_code 69 = .ok (.iconst 2, 1) := by decide +kernel
theorem d_11_10_70 : decode prog_11_method_10_code 70 = .ok (.goto 4, 3) := by decide +kernel
theorem d_11_10_74 : decode prog_11_method_10_code 74 = .ok (.ireturn, 1) := by decide +kernel
theorem d_11_10_73 : decode prog_11_method_10_code 73 = .ok (.iconst 0, 1) := by decide +kernel
theorem d_7_4_0 : decode prog_7_method_4_code 0 = .ok (.ldc2_w 92, 3) := by decide +kernel
theorem d_7_4_3 : decode prog_7_method_4_code 3 = .ok (.lload_n 0, 1) := by decide +kernel
theorem d_7_4_4 : decode prog_7_method_4_code 4 = .ok (.lmul, 1) := by decide +kernel
theorem d_7_4_5 : decode prog_7_method_4_code 5 = .ok (.ldc2_w 94, 3) := by decide +kernel
theorem d_7_4_8 : decode prog_7_method_4_code 8 = .ok (.ldiv, 1) := by decide +kernel
theorem d_7_4_9 : decode prog_7_method_4_code 9 = .ok (.l2i, 1) := by decide +kernel
theorem d_7_4_10 : decode prog_7_method_4_code 10 = .ok (.ireturn, 1) := by decide +kernel
theorem d_1_35_0 : decode prog_1_method_35_code 0 = .ok (.lload_n 0, 1) := by decide +kernel
theorem d_1_35_1 : decode prog_1_method_35_code 1 = .ok (.ldc2_w 335, 3) := by decide +kernel
theorem d_1_35_4 : decode prog_1_method_35_code 4 = .ok (.invokestatic 337, 3) := by decide +kernel
theorem d_1_34_0 : decode prog_1_method_34_code 0 = .ok (.lload_n 0, 1) := by decide +kernel
theorem d_1_34_1 : decode prog_1_method_34_code 1 = .ok (.lstore 4, 2) := by decide +kernel
theorem d_1_34_3 : decode prog_1_method_34_code 3 = .ok (.lload_n 2, 1) := by decide +kernel
theorem d_1_34_4 : decode prog_1_method_34_code 4 = .ok (.lstore 6, 2) := by decide +kernel
theorem d_1_34_6 : decode prog_1_method_34_code 6 = .ok (.iconst 0, 1) := by decide +kernel
theorem d_1_34_7 : decode prog_1_method_34_code 7 = .ok (.istore 8, 2) := by decide +kernel
theorem d_1_34_9 : decode prog_1_method_34_code 9 = .ok (.iload 8, 2) := by decide +kernel
theorem d_1_34_11 : decode prog_1_method_34_code 11 = .ok (.sipush 200, 3) := by decide +kernel
theorem d_1_34_14 : decode prog_1_method_34_code 14 = .ok (.if_icmp .ge 31, 3) := by decide +kernel
theorem d_1_34_17 : decode prog_1_method_34_code 17 = .ok (.lload 6, 2) := by decide +kernel
theorem d_1_34_19 : decode prog_1_method_34_code 19 = .ok (.lconst 0, 1) := by decide +kernel
theorem d_1_34_20 : decode prog_1_method_34_code 20 = .ok (.lcmp, 1) := by decide +kernel
theorem d_1_34_21 : decode prog_1_method_34_code 21 = .ok (.ifCond .eq 24, 3) := by decide +kernel
theorem d_1_34_24 : decode prog_1_method_34_code 24 = .ok (.lload 4, 2) := by decide +kernel
theorem d_1_34_26 : decode prog_1_method_34_code 26 = .ok (.lload 6, 2) := by decide +kernel
theorem d_1_34_28 : decode prog_1_method_34_code 28 = .ok (.lrem, 1) := by decide +kernel
theorem d_1_34_29 : decode prog_1_method_34_code 29 = .ok (.lstore 9, 2) := by decide +kernel
theorem d_1_34_31 : decode prog_1_method_34_code 31 = .ok (.lload 6, 2) := by decide +kernel
theorem d_1_34_33 : decode prog_1_method_34_code 33 = .ok (.lstore 4, 2) := by decide +kernel
theorem d_1_34_35 : decode prog_1_method_34_code 35 = .ok (.lload 9, 2) := by decide +kernel
theorem d_1_34_37 : decode prog_1_method_34_code 37 = .ok (.lstore 6, 2) := by decide +kernel
theorem d_1_34_39 : decode prog_1_method_34_code 39 = .ok (.iinc 8 1, 3) := by decide +kernel
theorem d_1_34_42 : decode prog_1_method_34_code 42 = .ok (.goto (-33), 3) := by decide +kernel
theorem d_1_34_45 : decode prog_1_method_34_code 45 = .ok (.lload 4, 2) := by decide +kernel
theorem d_1_34_47 : decode prog_1_method_34_code 47 = .ok (.lreturn, 1) := by decide +kernel
theorem d_1_36_0 : decode prog_1_method_36_code 0 = .ok (.lload_n 0, 1) := by decide +kernel
theorem d_1_36_1 : decode prog_1_method_36_code 1 = .ok (.ldc2_w 335, 3) := by decide +kernel
theorem d_1_36_4 : decode prog_1_method_36_code 4 = .ok (.invokestatic 337, 3) := by decide +kernel
theorem d_1_36_7 : decode prog_1_method_36_code 7 = .ok (.lstore_n 2, 1) := by decide +kernel
theorem d_1_36_8 : decode prog_1_method_36_code 8 = .ok (.lload_n 2, 1) := by decide +kernel
theorem d_1_36_9 : decode prog_1_method_36_code 9 = .ok (.lconst 0, 1) := by decide +kernel
theorem d_1_36_10 : decode prog_1_method_36_code 10 = .ok (.lcmp, 1) := by decide +kernel
theorem d_1_36_11 : decode prog_1_method_36_code 11 = .ok (.ifCond .ne 9, 3) := by decide +kernel
theorem d_1_36_20 : decode prog_1_method_36_code 20 = .ok (.ldc2_w 335, 3) := by decide +kernel
theorem d_1_36_23 : decode prog_1_method_36_code 23 = .ok (.lload_n 2, 1) := by decide +kernel
theorem d_1_36_24 : decode prog_1_method_36_code 24 = .ok (.ldiv, 1) := by decide +kernel
theorem d_1_36_14 : decode prog_1_method_36_code 14 = .ok (.ldc2_w 335, 3) := by decide +kernel
theorem d_1_36_17 : decode prog_1_method_36_code 17 = .ok (.goto 8, 3) := by decide +kernel
theorem d_1_36_25 : decode prog_1_method_36_code 25 = .ok (.lreturn, 1) := by decide +kernel
theorem d_4_8_0 : decode prog_4_method_8_code 0 = .ok (.bipush 24, 2) := by decide +kernel
theorem d_4_8_2 : decode prog_4_method_8_code 2 = .ok (.iconst 5, 1) := by decide +kernel
theorem d_4_8_3 : decode prog_4_method_8_code 3 = .ok (.aload_n 0, 1) := by decide +kernel
theorem d_4_8_4 : decode prog_4_method_8_code 4 = .ok (.getfield 127, 3) := by decide +kernel
theorem d_4_8_7 : decode prog_4_method_8_code 7 = .ok (.invokestatic 130, 3) := by decide +kernel
theorem d_4_8_10 : decode prog_4_method_8_code 10 = .ok (.imul, 1) := by decide +kernel
theorem d_4_8_11 : decode prog_4_method_8_code 11 = .ok (.iadd, 1) := by decide +kernel
theorem d_4_8_12 : decode prog_4_method_8_code 12 = .ok (.iload_n 1, 1) := by decide +kernel
theorem d_4_8_13 : decode prog_4_method_8_code 13 = .ok (.ifCond .ne 8, 3) := by decide +kernel
theorem d_4_8_21 : decode prog_4_method_8_code 21 = .ok (.iconst 0, 1) := by decide +kernel
theorem d_4_8_16 : decode prog_4_method_8_code 16 = .ok (.bipush 12, 2) := by decide +kernel
theorem d_4_8_18 : decode prog_4_method_8_code 18 = .ok (.goto 4, 3) := by decide +kernel
theorem d_4_8_22 : decode prog_4_method_8_code 22 = .ok (.iadd, 1) := by decide +kernel
theorem d_4_8_23 : decode prog_4_method_8_code 23 = .ok (.ireturn, 1) := by decide +kernel
theorem d_4_11_0 : decode prog_4_method_11_code 0 = .ok (.lload_n 2, 1) := by decide +kernel
theorem d_4_11_1 : decode prog_4_method_11_code 1 = .ok (.lload_n 0, 1) := by decide +kernel
theorem d_4_11_2 : decode prog_4_method_11_code 2 = .ok (.lcmp, 1) := by decide +kernel
theorem d_4_11_3 : decode prog_4_method_11_code 3 = .ok (.ifCond .le 15, 3) := by decide +kernel
theorem d_4_11_18 : decode prog_4_method_11_code 18 = .ok (.iload 4, 2) := by decide +kernel
theorem d_4_11_20 : decode prog_4_method_11_code 20 = .ok (.ifCond .eq 7, 3) := by decide +kernel
theorem d_4_11_27 : decode prog_4_method_11_code 27 = .ok (.lload_n 0, 1) := by decide +kernel
theorem d_4_11_28 : decode prog_4_method_11_code 28 = .ok (.lload_n 2, 1) := by decide +kernel
theorem d_4_11_29 : decode prog_4_method_11_code 29 = .ok (.lsub, 1) := by decide +kernel
theorem d_4_11_30 : decode prog_4_method_11_code 30 = .ok (.lload_n 0, 1) := by decide +kernel
theorem d_4_11_31 : decode prog_4_method_11_code 31 = .ok (.lload_n 2, 1) := by decide +kernel
theorem d_4_11_32 : decode prog_4_method_11_code 32 = .ok (.lsub, 1) := by decide +kernel
theorem d_4_11_33 : decode prog_4_method_11_code 33 = .ok (.lmul, 1) := by decide +kernel
theorem d_4_11_23 : decode prog_4_method_11_code 23 = .ok (.lconst 0, 1) := by decide +kernel
theorem d_4_11_24 : decode prog_4_method_11_code 24 = .ok (.goto 10, 3) := by decide +kernel
theorem d_4_11_6 : decode prog_4_method_11_code 6 = .ok (.ldc2_w 144, 3) := by decide +kernel
theorem d_4_11_9 : decode prog_4_method_11_code 9 = .ok (.lload_n 2, 1) := by decide +kernel
theorem d_4_11_10 : decode prog_4_method_11_code 10 = .ok (.lload_n 0, 1) := by decide +kernel
theorem d_4_11_11 : decode prog_4_method_11_code 11 = .ok (.lsub, 1) := by decide +kernel
theorem d_4_11_12 : decode prog_4_method_11_code 12 = .ok (.lmul, 1) := by decide +kernel
theorem d_4_11_13 : decode prog_4_method_11_code 13 = .ok (.lload_n 2, 1) := by decide +kernel
theorem d_4_11_14 : decode prog_4_method_11_code 14 = .ok (.lload_n 0, 1) := by decide +kernel
theorem d_4_11_15 : decode prog_4_method_11_code 15 = .ok (.lsub, 1) := by decide +kernel
theorem d_4_11_16 : decode prog_4_method_11_code 16 = .ok (.lmul, 1) := by decide +kernel
theorem d_4_11_17 : decode prog_4_method_11_code 17 = .ok (.lreturn, 1) := by decide +kernel
theorem d_4_11_34 : decode prog_4_method_11_code 34 = .ok (.lreturn, 1) := by decide +kernel
theorem d_18_49_0 : decode prog_18_method_49_code 0 = .ok (.iload_n 0, 1) := by decide +kernel
theorem d_18_49_1 : decode prog_18_method_49_code 1 = .ok (.iload_n 0, 1) := by decide +kernel
theorem d_18_49_2 : decode prog_18_method_49_code 2 = .ok (.iconst 1, 1) := by decide +kernel
theorem d_18_49_3 : decode prog_18_method_49_code 3 = .ok (.iushr, 1) := by decide +kernel
theorem d_18_49_4 : decode prog_18_method_49_code 4 = .ok (.ldc_w 265, 3) := by decide +kernel
theorem d_18_49_7 : decode prog_18_method_49_code 7 = .ok (.iand, 1) := by decide +kernel
theorem d_18_49_8 : decode prog_18_method_49_code 8 = .ok (.isub, 1) := by decide +kernel
theorem d_18_49_9 : decode prog_18_method_49_code 9 = .ok (.istore_n 0, 1) := by decide +kernel
theorem d_18_49_10 : decode prog_18_method_49_code 10 = .ok (.iload_n 0, 1) := by decide +kernel
theorem d_18_49_11 : decode prog_18_method_49_code 11 = .ok (.ldc_w 266, 3) := by decide +kernel
theorem d_18_49_14 : decode prog_18_method_49_code 14 = .ok (.iand, 1) := by decide +kernel
theorem d_18_49_15 : decode prog_18_method_49_code 15 = .ok (.iload_n 0, 1) := by decide +kernel
theorem d_18_49_16 : decode prog_18_method_49_code 16 = .ok (.iconst 2, 1) := by decide +kernel
theorem d_18_49_17 : decode prog_18_method_49_code 17 = .ok (.iushr, 1) := by decide +kernel
theorem d_18_49_18 : decode prog_18_method_49_code 18 = .ok (.ldc_w 266, 3) := by decide +kernel
theorem d_18_49_21 : decode prog_18_method_49_code 21 = .ok (.iand, 1) := by decide +kernel
theorem d_18_49_22 : decode prog_18_method_49_code 22 = .ok (.iadd, 1) := by decide +kernel
theorem d_18_49_23 : decode prog_18_method_49_code 23 = .ok (.istore_n 0, 1) := by decide +kernel
theorem d_18_49_24 : decode prog_18_method_49_code 24 = .ok (.iload_n 0, 1) := by decide +kernel
theorem d_18_49_25 : decode prog_18_method_49_code 25 = .ok (.iload_n 0, 1) := by decide +kernel
theorem d_18_49_26 : decode prog_18_method_49_code 26 = .ok (.iconst 4, 1) := by decide +kernel
theorem d_18_49_27 : decode prog_18_method_49_code 27 = .ok (.iushr, 1) := by decide +kernel
theorem d_18_49_28 : decode prog_18_method_49_code 28 = .ok (.iadd, 1) := by decide +kernel
theorem d_18_49_29 : decode prog_18_method_49_code 29 = .ok (.ldc_w 267, 3) := by decide +kernel
theorem d_18_49_32 : decode prog_18_method_49_code 32 = .ok (.iand, 1) := by decide +kernel
theorem d_18_49_33 : decode prog_18_method_49_code 33 = .ok (.istore_n 0, 1) := by decide +kernel
theorem d_18_49_34 : decode prog_18_method_49_code 34 = .ok (.iload_n 0, 1) := by decide +kernel
theorem d_18_49_35 : decode prog_18_method_49_code 35 = .ok (.iload_n 0, 1) := by decide +kernel
theorem d_18_49_36 : decode prog_18_method_49_code 36 = .ok (.bipush 8, 2) := by decide +kernel
theorem d_18_49_38 : decode prog_18_method_49_code 38 = .ok (.iushr, 1) := by decide +kernel
theorem d_18_49_39 : decode prog_18_method_49_code 39 = .ok (.iadd, 1) := by decide +kernel
theorem d_18_49_40 : decode prog_18_method_49_code 40 = .ok (.istore_n 0, 1) := by decide +kernel
theorem d_18_49_41 : decode prog_18_method_49_code 41 = .ok (.iload_n 0, 1) := by decide +kernel
theorem d_18_49_42 : decode prog_18_method_49_code 42 = .ok (.iload_n 0, 1) := by decide +kernel
theorem d_18_49_43 : decode prog_18_method_49_code 43 = .ok (.bipush 16, 2) := by decide +kernel
theorem d_18_49_45 : decode prog_18_method_49_code 45 = .ok (.iushr, 1) := by decide +kernel
theorem d_18_49_46 : decode prog_18_method_49_code 46 = .ok (.iadd, 1) := by decide +kernel
theorem d_18_49_47 : decode prog_18_method_49_code 47 = .ok (.istore_n 0, 1) := by decide +kernel
theorem d_18_49_48 : decode prog_18_method_49_code 48 = .ok (.iload_n 0, 1) := by decide +kernel
theorem d_18_49_49 : decode prog_18_method_49_code 49 = .ok (.bipush 63, 2) := by decide +kernel
theorem d_18_49_51 : decode prog_18_method_49_code 51 = .ok (.iand, 1) := by decide +kernel
theorem d_18_49_52 : decode prog_18_method_49_code 52 = .ok (.ireturn, 1) := by decide +kernel
theorem d_7_26_0 : decode prog_7_method_26_code 0 = .ok (.iload_n 0, 1) := by decide +kernel
theorem d_7_26_1 : decode prog_7_method_26_code 1 = .ok (.bipush 12, 2) := by decide +kernel
theorem d_7_26_3 : decode prog_7_method_26_code 3 = .ok (.idiv, 1) := by decide +kernel
theorem d_7_26_4 : decode prog_7_method_26_code 4 = .ok (.istore_n 1, 1) := by decide +kernel
theorem d_7_26_5 : decode prog_7_method_26_code 5 = .ok (.getstatic 298, 3) := by decide +kernel
theorem d_7_26_8 : decode prog_7_method_26_code 8 = .ok (.iload_n 0, 1) := by decide +kernel
theorem d_7_26_9 : decode prog_7_method_26_code 9 = .ok (.bipush 12, 2) := by decide +kernel
theorem d_7_26_11 : decode prog_7_method_26_code 11 = .ok (.irem, 1) := by decide +kernel
theorem d_7_26_12 : decode prog_7_method_26_code 12 = .ok (.laload, 1) := by decide +kernel
theorem d_7_26_13 : decode prog_7_method_26_code 13 = .ok (.lstore_n 2, 1) := by decide +kernel
theorem d_7_26_14 : decode prog_7_method_26_code 14 = .ok (.iload_n 1, 1) := by decide +kernel
theorem d_7_26_15 : decode prog_7_method_26_code 15 = .ok (.bipush 9, 2) := by decide +kernel
theorem d_7_26_17 : decode prog_7_method_26_code 17 = .ok (.if_icmp .gt 12, 3) := by decide +kernel
theorem d_7_26_29 : decode prog_7_method_26_code 29 = .ok (.lload_n 2, 1) := by decide +kernel
theorem d_7_26_30 : decode prog_7_method_26_code 30 = .ok (.iload_n 1, 1) := by decide +kernel
theorem d_7_26_31 : decode prog_7_method_26_code 31 = .ok (.bipush 9, 2) := by decide +kernel
theorem d_7_26_33 : decode prog_7_method_26_code 33 = .ok (.isub, 1) := by decide +kernel
theorem d_7_26_34 : decode prog_7_method_26_code 34 = .ok (.lshl, 1) := by decide +kernel
theorem d_7_26_20 : decode prog_7_method_26_code 20 = .ok (.lload_n 2, 1) := by decide +kernel
theorem d_7_26_21 : decode prog_7_method_26_code 21 = .ok (.bipush 9, 2) := by decide +kernel
theorem d_7_26_23 : decode prog_7_method_26_code 23 = .ok (.iload_n 1, 1) := by decide +kernel
theorem d_7_26_24 : decode prog_7_method_26_code 24 = .ok (.isub, 1) := by decide +kernel
theorem d_7_26_25 : decode prog_7_method_26_code 25 = .ok (.lshr, 1) := by decide +kernel
theorem d_7_26_26 : decode prog_7_method_26_code 26 = .ok (.goto 9, 3) := by decide +kernel
theorem d_7_26_35 : decode prog_7_method_26_code 35 = .ok (.lreturn, 1) := by decide +kernel
theorem d_7_27_0 : decode prog_7_method_27_code 0 = .ok (.iload_n 1, 1) := by decide +kernel
theorem d_7_27_1 : decode prog_7_method_27_code 1 = .ok (.sipush 128, 3) := by decide +kernel
theorem d_7_27_4 : decode prog_7_method_27_code 4 = .ok (.if_icmp .ge 13, 3) := by decide +kernel
theorem d_7_27_17 : decode prog_7_method_27_code 17 = .ok (.sipush 383, 3) := by decide +kernel
theorem d_7_27_20 : decode prog_7_method_27_code 20 = .ok (.iconst 2, 1) := by decide +kernel
theorem d_7_27_21 : decode prog_7_method_27_code 21 = .ok (.iload_n 1, 1) := by decide +kernel
theorem d_7_27_22 : decode prog_7_method_27_code 22 = .ok (.imul, 1) := by decide +kernel
theorem d_7_27_23 : decode prog_7_method_27_code 23 = .ok (.isub, 1) := by decide +kernel
theorem d_7_27_7 : decode prog_7_method_27_code 7 = .ok (.iconst 2, 1) := by decide +kernel
theorem d_7_27_8 : decode prog_7_method_27_code 8 = .ok (.iload_n 1, 1) := by decide +kernel
theorem d_7_27_9 : decode prog_7_method_27_code 9 = .ok (.imul, 1) := by decide +kernel
theorem d_7_27_10 : decode prog_7_method_27_code 10 = .ok (.sipush 128, 3) := by decide +kernel
theorem d_7_27_13 : decode prog_7_method_27_code 13 = .ok (.isub, 1) := by decide +kernel
theorem d_7_27_14 : decode prog_7_method_27_code 14 = .ok (.goto 10, 3) := by decide +kernel
theorem d_7_27_24 : decode prog_7_method_27_code 24 = .ok (.istore_n 2, 1) := by decide +kernel
theorem d_7_27_25 : decode prog_7_method_27_code 25 = .ok (.iload_n 0, 1) := by decide +kernel
theorem d_7_27_26 : decode prog_7_method_27_code 26 = .ok (.tableswitch 49 0 2 #[26, 41, 47], 26) := by decide +kernel
theorem d_7_27_52 : decode prog_7_method_27_code 52 = .ok (.iload_n 1, 1) := by decide +kernel
theorem d_7_27_53 : decode prog_7_method_27_code 53 = .ok (.sipush 128, 3) := by decide +kernel
theorem d_7_27_56 : decode prog_7_method_27_code 56 = .ok (.if_icmp .ge 8, 3) := by decide +kernel
theorem d_7_27_64 : decode prog_7_method_27_code 64 = .ok (.bipush (-96), 2) := by decide +kernel
theorem d_7_27_59 : decode prog_7_method_27_code 59 = .ok (.bipush 96, 2) := by decide +kernel
theorem d_7_27_61 : decode prog_7_method_27_code 61 = .ok (.goto 5, 3) := by decide +kernel
theorem d_7_27_67 : decode prog_7_method_27_code 67 = .ok (.iload_n 1, 1) := by decide +kernel
theorem d_7_27_68 : decode prog_7_method_27_code 68 = .ok (.sipush 128, 3) := by decide +kernel
theorem d_7_27_71 : decode prog_7_method_27_code 71 = .ok (.isub, 1) := by decide +kernel
theorem d_7_27_72 : decode prog_7_method_27_code 72 = .ok (.ireturn, 1) := by decide +kernel
theorem d_7_27_73 : decode prog_7_method_27_code 73 = .ok (.iload_n 2, 1) := by decide +kernel
theorem d_7_27_74 : decode prog_7_method_27_code 74 = .ok (.ireturn, 1) := by decide +kernel
theorem d_7_27_75 : decode prog_7_method_27_code 75 = .ok (.iload_n 2, 1) := by decide +kernel
theorem d_7_27_76 : decode prog_7_method_27_code 76 = .ok (.sipush 128, 3) := by decide +kernel
theorem d_7_27_79 : decode prog_7_method_27_code 79 = .ok (.iload_n 2, 1) := by decide +kernel
theorem d_7_27_80 : decode prog_7_method_27_code 80 = .ok (.invokestatic 301, 3) := by decide +kernel
theorem d_7_27_83 : decode prog_7_method_27_code 83 = .ok (.isub, 1) := by decide +kernel
theorem d_7_27_84 : decode prog_7_method_27_code 84 = .ok (.imul, 1) := by decide +kernel
theorem d_7_27_85 : decode prog_7_method_27_code 85 = .ok (.bipush 32, 2) := by decide +kernel
theorem d_7_27_87 : decode prog_7_method_27_code 87 = .ok (.idiv, 1) := by decide +kernel
theorem d_7_27_88 : decode prog_7_method_27_code 88 = .ok (.ireturn, 1) := by decide +kernel
theorem d_7_27_66 : decode prog_7_method_27_code 66 = .ok (.ireturn, 1) := by decide +kernel
theorem d_7_29_0 : decode prog_7_method_29_code 0 = .ok (.iload_n 0, 1) := by decide +kernel
theorem d_7_29_1 : decode prog_7_method_29_code 1 = .ok (.iload_n 1, 1) := by decide +kernel
theorem d_7_29_2 : decode prog_7_method_29_code 2 = .ok (.if_icmp .ge 10, 3) := by decide +kernel
theorem d_7_29_12 : decode prog_7_method_29_code 12 = .ok (.iload_n 1, 1) := by decide +kernel
theorem d_7_29_13 : decode prog_7_method_29_code 13 = .ok (.invokestatic 304, 3) := by decide +kernel
theorem d_7_28_0 : decode prog_7_method_28_code 0 = .ok (.iload_n 0, 1) := by decide +kernel
theorem d_7_28_1 : decode prog_7_method_28_code 1 = .ok (.bipush 40, 2) := by decide +kernel
theorem d_7_28_3 : decode prog_7_method_28_code 3 = .ok (.if_icmp .ge 14, 3) := by decide +kernel
theorem d_7_28_17 : decode prog_7_method_28_code 17 = .ok (.sipush 256, 3) := by decide +kernel
theorem d_7_28_20 : decode prog_7_method_28_code 20 = .ok (.iload_n 0, 1) := by decide +kernel
theorem d_7_28_21 : decode prog_7_method_28_code 21 = .ok (.bipush 40, 2) := by decide +kernel
theorem d_7_28_23 : decode prog_7_method_28_code 23 = .ok (.isub, 1) := by decide +kernel
theorem d_7_28_24 : decode prog_7_method_28_code 24 = .ok (.bipush 16, 2) := by decide +kernel
theorem d_7_28_26 : decode prog_7_method_28_code 26 = .ok (.idiv, 1) := by decide +kernel
theorem d_7_28_27 : decode prog_7_method_28_code 27 = .ok (.isub, 1) := by decide +kernel
theorem d_7_28_28 : decode prog_7_method_28_code 28 = .ok (.sipush 128, 3) := by decide +kernel
theorem d_7_28_31 : decode prog_7_method_28_code 31 = .ok (.invokestatic 144, 3) := by decide +kernel
theorem d_7_28_6 : decode prog_7_method_28_code 6 = .ok (.sipush 256, 3) := by decide +kernel
theorem d_7_28_9 : decode prog_7_method_28_code 9 = .ok (.iload_n 0, 1) := by decide +kernel
theorem d_7_28_10 : decode prog_7_method_28_code 10 = .ok (.imul, 1) := by decide +kernel
theorem d_7_28_11 : decode prog_7_method_28_code 11 = .ok (.bipush 40, 2) := by decide +kernel
theorem d_7_28_13 : decode prog_7_method_28_code 13 = .ok (.idiv, 1) := by decide +kernel
theorem d_7_28_14 : decode prog_7_method_28_code 14 = .ok (.goto 20, 3) := by decide +kernel
theorem d_7_28_34 : decode prog_7_method_28_code 34 = .ok (.ireturn, 1) := by decide +kernel
theorem d_11_18_0 : decode prog_11_method_18_code 0 = .ok (.iconst 4, 1) := by decide +kernel
theorem d_11_18_1 : decode prog_11_method_18_code 1 = .ok (.aload_n 0, 1) := by decide +kernel
theorem d_11_18_2 : decode prog_11_method_18_code 2 = .ok (.getfield 183, 3) := by decide +kernel
theorem d_11_18_5 : decode prog_11_method_18_code 5 = .ok (.imul, 1) := by decide +kernel
theorem d_11_18_6 : decode prog_11_method_18_code 6 = .ok (.aload_n 0, 1) := by decide +kernel
theorem d_11_18_7 : decode prog_11_method_18_code 7 = .ok (.getfield 186, 3) := by decide +kernel
theorem d_11_18_10 : decode prog_11_method_18_code 10 = .ok (.iconst 1, 1) := by decide +kernel
theorem d_11_18_11 : decode prog_11_method_18_code 11 = .ok (.if_icmp .ne 7, 3) := by decide +kernel
theorem d_11_18_18 : decode prog_11_method_18_code 18 = .ok (.iconst 0, 1) := by decide +kernel
theorem d_11_18_14 : decode prog_11_method_18_code 14 = .ok (.iconst 5, 1) := by decide +kernel
theorem d_11_18_15 : decode prog_11_method_18_code 15 = .ok (.goto 4, 3) := by decide +kernel
theorem d_11_18_19 : decode prog_11_method_18_code 19 = .ok (.iadd, 1) := by decide +kernel
theorem d_11_18_20 : decode prog_11_method_18_code 20 = .ok (.bipush 7, 2) := by decide +kernel
theorem d_11_18_22 : decode prog_11_method_18_code 22 = .ok (.invokestatic 130, 3) := by decide +kernel
theorem d_11_18_25 : decode prog_11_method_18_code 25 = .ok (.ireturn, 1) := by decide +kernel
theorem d_6_29_0 : decode prog_6_method_29_code 0 = .ok (.aload_n 0, 1) := by decide +kernel
theorem d_6_29_1 : decode prog_6_method_29_code 1 = .ok (.getfield 87, 3) := by decide +kernel
theorem d_6_29_4 : decode prog_6_method_29_code 4 = .ok (.aload_n 1, 1) := by decide +kernel
theorem d_6_29_5 : decode prog_6_method_29_code 5 = .ok (.getfield 87, 3) := by decide +kernel
theorem d_6_29_8 : decode prog_6_method_29_code 8 = .ok (.invokestatic 235, 3) := by decide +kernel
theorem d_6_29_11 : decode prog_6_method_29_code 11 = .ok (.lconst 1, 1) := by decide +kernel
theorem d_6_29_12 : decode prog_6_method_29_code 12 = .ok (.invokestatic 238, 3) := by decide +kernel
theorem d_6_29_15 : decode prog_6_method_29_code 15 = .ok (.lstore 4, 2) := by decide +kernel
theorem d_6_29_17 : decode prog_6_method_29_code 17 = .ok (.aload_n 2, 1) := by decide +kernel
theorem d_6_29_18 : decode prog_6_method_29_code 18 = .ok (.getfield 87, 3) := by decide +kernel
theorem d_6_29_21 : decode prog_6_method_29_code 21 = .ok (.aload_n 3, 1) := by decide +kernel
theorem d_6_29_22 : decode prog_6_method_29_code 22 = .ok (.getfield 87, 3) := by decide +kernel
theorem d_6_29_25 : decode prog_6_method_29_code 25 = .ok (.invokestatic 235, 3) := by decide +kernel
theorem d_6_29_28 : decode prog_6_method_29_code 28 = .ok (.lconst 1, 1) := by decide +kernel
theorem d_6_29_29 : decode prog_6_method_29_code 29 = .ok (.invokestatic 238, 3) := by decide +kernel
theorem d_6_29_32 : decode prog_6_method_29_code 32 = .ok (.lstore 6, 2) := by decide +kernel
theorem d_6_29_34 : decode prog_6_method_29_code 34 = .ok (.aload_n 0, 1) := by decide +kernel
theorem d_6_29_35 : decode prog_6_method_29_code 35 = .ok (.getfield 87, 3) := by decide +kernel
theorem d_6_29_38 : decode prog_6_method_29_code 38 = .ok (.lload 4, 2) := by decide +kernel
theorem d_6_29_40 : decode prog_6_method_29_code 40 = .ok (.ldiv, 1) := by decide +kernel
theorem d_6_29_41 : decode prog_6_method_29_code 41 = .ok (.aload_n 2, 1) := by decide +kernel
theorem d_6_29_42 : decode prog_6_method_29_code 42 = .ok (.getfield 87, 3) := by decide +kernel
theorem d_6_29_45 : decode prog_6_method_29_code 45 = .ok (.lload 6, 2) := by decide +kernel
theorem d_6_29_47 : decode prog_6_method_29_code 47 = .ok (.ldiv, 1) := by decide +kernel
theorem d_6_29_48 : decode prog_6_method_29_code 48 = .ok (.lcmp, 1) := by decide +kernel
theorem d_6_29_49 : decode prog_6_method_29_code 49 = .ok (.ifCond .ne 25, 3) := by decide +kernel
theorem d_6_29_52 : decode prog_6_method_29_code 52 = .ok (.aload_n 1, 1) := by decide +kernel
theorem d_6_29_53 : decode prog_6_method_29_code 53 = .ok (.getfield 87, 3) := by decide +kernel
theorem d_6_29_56 : decode prog_6_method_29_code 56 = .ok (.lload 4, 2) := by decide +kernel
theorem d_6_29_58 : decode prog_6_method_29_code 58 = .ok (.ldiv, 1) := by decide +kernel
theorem d_6_29_59 : decode prog_6_method_29_code 59 = .ok (.aload_n 3, 1) := by decide +kernel
theorem d_6_29_60 : decode prog_6_method_29_code 60 = .ok (.getfield 87, 3) := by decide +kernel
theorem d_6_29_63 : decode prog_6_method_29_code 63 = .ok (.lload 6, 2) := by decide +kernel
theorem d_6_29_65 : decode prog_6_method_29_code 65 = .ok (.ldiv, 1) := by decide +kernel
theorem d_6_29_66 : decode prog_6_method_29_code 66 = .ok (.lcmp, 1) := by decide +kernel
theorem d_6_29_67 : decode prog_6_method_29_code 67 = .ok (.ifCond .ne 7, 3) := by decide +kernel
theorem d_6_29_70 : decode prog_6_method_29_code 70 = .ok (.iconst 1, 1) := by decide +kernel
theorem d_6_29_71 : decode prog_6_method_29_code 71 = .ok (.goto 4, 3) := by decide +kernel
theorem d_6_29_75 : decode prog_6_method_29_code 75 = .ok (.ireturn, 1) := by decide +kernel
theorem d_6_29_74 : decode prog_6_method_29_code 74 = .ok (.iconst 0, 1) := by decide +kernel
theorem d_12_14_4 : decode prog_12_method_14_code 4 = .ok (.ifCond .ne 16, 3) := by decide +kernel
theorem d_12_14_7 : decode prog_12_method_14_code 7 = .ok (.iload_n 0, 1) := by decide +kernel
theorem d_12_14_8 : decode prog_12_method_14_code 8 = .ok (.invokestatic 79, 3) := by decide +kernel
theorem d_12_14_11 : decode prog_12_method_14_code 11 = .ok (.ifCond .ne 9, 3) := by decide +kernel
theorem d_12_14_14 : decode prog_12_method_14_code 14 = .ok (.iload_n 0, 1) := by decide +kernel
theorem d_12_14_15 : decode prog_12_method_14_code 15 = .ok (.bipush 35, 2) := by decide +kernel
theorem d_12_14_17 : decode prog_12_method_14_code 17 = .ok (.if_icmp .ne 7, 3) := by decide +kernel
theorem d_12_14_24 : decode prog_12_method_14_code 24 = .ok (.iconst 0, 1) := by decide +kernel
theorem d_12_14_20 : decode prog_12_method_14_code 20 = .ok (.iconst 1, 1) := by decide +kernel
theorem d_12_14_21 : decode prog_12_method_14_code 21 = .ok (.goto 4, 3) := by decide +kernel
theorem d_12_14_25 : decode prog_12_method_14_code 25 = .ok (.ireturn, 1) := by decide +kernel
theorem d_1_37_8 : decode prog_1_method_37_code 8 = .ok (.iconst 1, 1) := by decide +kernel
theorem d_1_37_9 : decode prog_1_method_37_code 9 = .ok (.iadd, 1) := by decide +kernel
theorem d_1_37_10 : decode prog_1_method_37_code 10 = .ok (.imul, 1) := by decide +kernel
theorem d_1_37_11 : decode prog_1_method_37_code 11 = .ok (.getstatic 346, 3) := by decide +kernel
theorem d_1_37_14 : decode prog_1_method_37_code 14 = .ok (.iload_n 0, 1) := by decide +kernel
theorem d_1_37_15 : decode prog_1_method_37_code 15 = .ok (.bipush 7, 2) := by decide +kernel
theorem d_1_37_17 : decode prog_1_method_37_code 17 = .ok (.invokestatic 349, 3) := by decide +kernel
theorem d_1_37_20 : decode prog_1_method_37_code 20 = .ok (.iaload, 1) := by decide +kernel
theorem d_1_37_21 : decode prog_1_method_37_code 21 = .ok (.iadd, 1) := by decide +kernel
theorem d_1_37_22 : decode prog_1_method_37_code 22 = .ok (.ireturn, 1) := by decide +kernel
theorem d_1_41_12 : decode prog_1_method_41_code 12 = .ok (.iload_n 0, 1) := by decide +kernel
theorem d_1_41_13 : decode prog_1_method_41_code 13 = .ok (.if_icmp .gt 5, 3) := by decide +kernel
theorem d_1_41_18 : decode prog_1_method_41_code 18 = .ok (.iinc 1 1, 3) := by decide +kernel
theorem d_1_41_21 : decode prog_1_method_41_code 21 = .ok (.goto (-19), 3) := by decide +kernel
theorem d_1_41_16 : decode prog_1_method_41_code 16 = .ok (.iload_n 1, 1) := by decide +kernel
theorem d_1_41_17 : decode prog_1_method_41_code 17 = .ok (.ireturn, 1) := by decide +kernel
theorem d_1_42_24 : decode prog_1_method_42_code 24 = .ok (.imul, 1) := by decide +kernel
theorem d_1_42_25 : decode prog_1_method_42_code 25 = .ok (.istore 6, 2) := by decide +kernel
theorem d_1_42_27 : decode prog_1_method_42_code 27 = .ok (.iload 5, 2) := by decide +kernel
theorem d_1_42_29 : decode prog_1_method_42_code 29 = .ok (.iload 6, 2) := by decide +kernel
theorem d_1_42_31 : decode prog_1_method_42_code 31 = .ok (.iload 4, 2) := by decide +kernel
theorem d_1_42_33 : decode prog_1_method_42_code 33 = .ok (.iload_n 2, 1) := by decide +kernel
theorem d_1_42_34 : decode prog_1_method_42_code 34 = .ok (.invokestatic 367, 3) := by decide +kernel
theorem d_1_42_37 : decode prog_1_method_42_code 37 = .ok (.istore 7, 2) := by decide +kernel
theorem d_1_42_39 : decode prog_1_method_42_code 39 = .ok (.iconst 0, 1) := by decide +kernel
theorem d_1_42_40 : decode prog_1_method_42_code 40 = .ok (.istore 8, 2) := by decide +kernel
theorem d_1_42_42 : decode prog_1_method_42_code 42 = .ok (.iload 8, 2) := by decide +kernel
theorem d_1_42_44 : decode prog_1_method_42_code 44 = .ok (.bipush 24, 2) := by decide +kernel
theorem d_1_42_46 : decode prog_1_method_42_code 46 = .ok (.if_icmp .ge 64, 3) := by decide +kernel
theorem d_1_42_110 : decode prog_1_method_42_code 110 = .ok (.iload_n 3, 1) := by decide +kernel
theorem d_1_42_111 : decode prog_1_method_42_code 111 = .ok (.invokestatic 375, 3) := by decide +kernel
theorem d_1_42_114 : decode prog_1_method_42_code 114 = .ok (.ireturn, 1) := by decide +kernel
theorem d_1_42_49 : decode prog_1_method_42_code 49 = .ok (.iload_n 2, 1) := by decide +kernel
theorem d_1_42_50 : decode prog_1_method_42_code 50 = .ok (.iload 8, 2) := by decide +kernel
theorem d_1_42_52 : decode prog_1_method_42_code 52 = .ok (.invokestatic 358, 3) := by decide +kernel
theorem d_1_42_55 : decode prog_1_method_42_code 55 = .ok (.iadd, 1) := by decide +kernel
theorem d_1_42_56 : decode prog_1_method_42_code 56 = .ok (.istore 9, 2) := by decide +kernel
theorem d_1_42_58 : decode prog_1_method_42_code 58 = .ok (.iload 9, 2) := by decide +kernel
theorem d_1_42_60 : decode prog_1_method_42_code 60 = .ok (.iload_n 2, 1) := by decide +kernel
theorem d_1_42_61 : decode prog_1_method_42_code 61 = .ok (.iload_n 3, 1) := by decide +kernel
theorem d_1_42_62 : decode prog_1_method_42_code 62 = .ok (.iadd, 1) := by decide +kernel
theorem d_1_42_63 : decode prog_1_method_42_code 63 = .ok (.if_icmp .gt 41, 3) := by decide +kernel
theorem d_1_42_66 : decode prog_1_method_42_code 66 = .ok (.iload 7, 2) := by decide +kernel
theorem d_1_42_68 : decode prog_1_method_42_code 68 = .ok (.iload 5, 2) := by decide +kernel
theorem d_1_42_70 : decode prog_1_method_42_code 70 = .ok (.iload 6, 2) := by decide +kernel
theorem d_1_42_72 : decode prog_1_method_42_code 72 = .ok (.iload 4, 2) := by decide +kernel
theorem d_1_42_74 : decode prog_1_method_42_code 74 = .ok (.iload 9, 2) := by decide +kernel
theorem d_1_42_76 : decode prog_1_method_42_code 76 = .ok (.invokestatic 367, 3) := by decide +kernel
theorem d_1_42_79 : decode prog_1_method_42_code 79 = .ok (.invokestatic 361, 3) := by decide +kernel
theorem d_1_42_82 : decode prog_1_method_42_code 82 = .ok (.istore 10, 2) := by decide +kernel
theorem d_1_42_84 : decode prog_1_method_42_code 84 = .ok (.iload 5, 2) := by decide +kernel
theorem d_1_42_86 : decode prog_1_method_42_code 86 = .ok (.iload 6, 2) := by decide +kernel
theorem d_1_42_88 : decode prog_1_method_42_code 88 = .ok (.iload 4, 2) := by decide +kernel
theorem d_1_42_90 : decode prog_1_method_42_code 90 = .ok (.iload_n 2, 1) := by decide +kernel
theorem d_1_42_91 : decode prog_1_method_42_code 91 = .ok (.iload 9, 2) := by decide +kernel
theorem d_1_42_93 : decode prog_1_method_42_code 93 = .ok (.invokestatic 371, 3) := by decide +kernel
theorem d_1_42_96 : decode prog_1_method_42_code 96 = .ok (.iload 10, 2) := by decide +kernel
theorem d_1_42_98 : decode prog_1_method_42_code 98 = .ok (.if_icmp .gt 6, 3) := by decide +kernel
theorem d_1_42_101 : decode prog_1_method_42_code 101 = .ok (.iload 8, 2) := by decide +kernel
theorem d_1_42_103 : decode prog_1_method_42_code 103 = .ok (.ireturn, 1) := by decide +kernel
theorem d_1_42_104 : decode prog_1_method_42_code 104 = .ok (.iinc 8 1, 3) := by decide +kernel
theorem d_1_42_107 : decode prog_1_method_42_code 107 = .ok (.goto (-65), 3) := by decide +kernel
theorem d_1_35_7 : decode prog_1_method_35_code 7 = .ok (.lstore_n 2, 1) := by decide +kernel
theorem d_1_35_8 : decode prog_1_method_35_code 8 = .ok (.lload_n 2, 1) := by decide +kernel
theorem d_1_35_9 : decode prog_1_method_35_code 9 = .ok (.lconst 0, 1) := by decide +kernel
theorem d_1_35_10 : decode prog_1_method_35_code 10 = .ok (.lcmp, 1) := by decide +kernel
theorem d_1_35_11 : decode prog_1_method_35_code 11 = .ok (.ifCond .ne 7, 3) := by decide +kernel
theorem d_1_35_18 : decode prog_1_method_35_code 18 = .ok (.lload_n 0, 1) := by decide +kernel
theorem d_1_35_19 : decode prog_1_method_35_code 19 = .ok (.lload_n 2, 1) := by decide +kernel
theorem d_1_35_20 : decode prog_1_method_35_code 20 = .ok (.ldiv, 1) := by decide +kernel
theorem d_1_35_14 : decode prog_1_method_35_code 14 = .ok (.lload_n 0, 1) := by decide +kernel
theorem d_1_35_15 : decode prog_1_method_35_code 15 = .ok (.goto 6, 3) := by decide +kernel
theorem d_1_35_21 : decode prog_1_method_35_code 21 = .ok (.lreturn, 1) := by decide +kernel
theorem d_7_29_16 : decode prog_7_method_29_code 16 = .ok (.sipush 400, 3) := by decide +kernel
theorem d_7_29_19 : decode prog_7_method_29_code 19 = .ok (.iload_n 0, 1) := by decide +kernel
theorem d_7_29_20 : decode prog_7_method_29_code 20 = .ok (.iload_n 1, 1) := by decide +kernel
theorem d_7_29_21 : decode prog_7_method_29_code 21 = .ok (.isub, 1) := by decide +kernel
theorem d_7_29_22 : decode prog_7_method_29_code 22 = .ok (.isub, 1) := by decide +kernel
theorem d_7_29_23 : decode prog_7_method_29_code 23 = .ok (.imul, 1) := by decide +kernel
theorem d_7_29_24 : decode prog_7_method_29_code 24 = .ok (.sipush 400, 3) := by decide +kernel
theorem d_7_29_27 : decode prog_7_method_29_code 27 = .ok (.idiv, 1) := by decide +kernel
theorem d_7_29_5 : decode prog_7_method_29_code 5 = .ok (.iload_n 0, 1) := by decide +kernel
theorem d_7_29_6 : decode prog_7_method_29_code 6 = .ok (.invokestatic 304, 3) := by decide +kernel
theorem d_7_29_9 : decode prog_7_method_29_code 9 = .ok (.goto 19, 3) := by decide +kernel
theorem d_7_29_28 : decode prog_7_method_29_code 28 = .ok (.ireturn, 1) := by decide +kernel
abbrev zK : Type := Nat × (Nat → Int)
def lnC (c : Nat) (i : Int) (k : Nat) : Nat := 0
set_option maxRecDepth 20000 in
theorem inW_1 : ∀ w ∈ u_ws RX1 TX1 14, w ∈ wAll := by
  show ∀ w ∈ [(Jvm.Cond.lays "StaveHouse$Event" "StaveHouse$Event" "place" "J"), (Jvm.Cond.lays "StaveHouse$Event" "StaveHouse$Event" "length" "J"), (Jvm.Cond.lays "StaveHouse$Event" "StaveHouse$Event" "value" "I"), (Jvm.Cond.lays "StaveHouse$Event" "StaveHouse$Event" "tupletFirst" "I"), (Jvm.Cond.lays "StaveHouse$Event" "StaveHouse$Event" "tupletSecond" "I"), (Jvm.Cond.lays "StaveHouse$Event" "StaveHouse$Event" "bracket" "I"), (Jvm.Cond.lays "StaveHouse$Event" "StaveHouse$Event" "bracketPlace" "I"), (Jvm.Cond.lays "StaveHouse$Event" "StaveHouse$Event" "marks" "I"), (Jvm.Cond.lays "StaveHouse$Event" "StaveHouse$Event" "loud" "I"), (Jvm.Cond.lays "StaveHouse$Event" "StaveHouse$Event" "token" "I"), (Jvm.Cond.lays "StaveHouse$Event" "StaveHouse$Event" "count" "I"), (Jvm.Cond.lays "StaveHouse$Event" "StaveHouse$Event" "slurred" "Z"), (Jvm.Cond.laysFinal "StaveHouse$Event" "StaveHouse$Event" "steps" "[I"), (Jvm.Cond.laysFinal "StaveHouse$Event" "StaveHouse$Event" "alterations" "[I")], w ∈ wAll
  exact List.forall_mem_cons.mpr ⟨k_2_69, List.forall_mem_cons.mpr ⟨k_2_71, List.forall_mem_cons.mpr ⟨k_2_73, List.forall_mem_cons.mpr ⟨k_2_75, List.forall_mem_cons.mpr ⟨k_2_77, List.forall_mem_cons.mpr ⟨k_2_79, List.forall_mem_cons.mpr ⟨k_2_81, List.forall_mem_cons.mpr ⟨k_2_83, List.forall_mem_cons.mpr ⟨k_2_85, List.forall_mem_cons.mpr ⟨k_2_87, List.forall_mem_cons.mpr ⟨k_2_89, List.forall_mem_cons.mpr ⟨k_2_91, List.forall_mem_cons.mpr ⟨k_2_93, List.forall_mem_cons.mpr ⟨k_2_95, fun _ h => absurd h List.not_mem_nil⟩⟩⟩⟩⟩⟩⟩⟩⟩⟩⟩⟩⟩⟩
set_option maxRecDepth 20000 in
theorem inW_6 : ∀ w ∈ u_ws RX6 TX6 14, w ∈ wAll := by
  show ∀ w ∈ [(Jvm.Cond.laysFinal "StaveHouse$Piece" "StaveHouse$Piece" "parts" "[LStaveHouse$Part;"), (Jvm.Cond.lays "StaveHouse$Piece" "StaveHouse$Piece" "partCount" "I"), (Jvm.Cond.lays "StaveHouse$Piece" "StaveHouse$Piece" "fifths" "I"), (Jvm.Cond.lays "StaveHouse$Piece" "StaveHouse$Piece" "minor" "I"), (Jvm.Cond.lays "StaveHouse$Piece" "StaveHouse$Piece" "above" "I"), (Jvm.Cond.lays "StaveHouse$Piece" "StaveHouse$Piece" "below" "I"), (Jvm.Cond.lays "StaveHouse$Piece" "StaveHouse$Piece" "tempo" "I"), (Jvm.Cond.lays "StaveHouse$Piece" "StaveHouse$Piece" "bars" "I"), (Jvm.Cond.lays "StaveHouse$Piece" "StaveHouse$Piece" "layout" "LStaveHouse$Layout;"), (Jvm.Cond.lays "StaveHouse$Piece" "StaveHouse$Piece" "performance" "LStaveHouse$Performance;"), (Jvm.Cond.lays "StaveHouse$Piece" "StaveHouse$Piece" "performed" "Z"), (Jvm.Cond.lays "StaveHouse$Piece" "StaveHouse$Piece" "sounded" "Z"), (Jvm.Cond.lays "StaveHouse$Piece" "StaveHouse$Piece" "study" "LStaveHouse$Study;"), (Jvm.Cond.lays "StaveHouse$Piece" "StaveHouse$Piece" "studied" "Z")], w ∈ wAll
  exact List.forall_mem_cons.mpr ⟨k_2_233, List.forall_mem_cons.mpr ⟨k_2_235, List.forall_mem_cons.mpr ⟨k_2_237, List.forall_mem_cons.mpr ⟨k_2_239, List.forall_mem_cons.mpr ⟨k_3_1, List.forall_mem_cons.mpr ⟨k_3_3, List.forall_mem_cons.mpr ⟨k_3_5, List.forall_mem_cons.mpr ⟨k_3_7, List.forall_mem_cons.mpr ⟨k_3_9, List.forall_mem_cons.mpr ⟨k_3_11, List.forall_mem_cons.mpr ⟨k_3_13, List.forall_mem_cons.mpr ⟨k_3_15, List.forall_mem_cons.mpr ⟨k_3_17, List.forall_mem_cons.mpr ⟨k_3_19, fun _ h => absurd h List.not_mem_nil⟩⟩⟩⟩⟩⟩⟩⟩⟩⟩⟩⟩⟩⟩
abbrev Q_Tokens_isBlank (K : zK) (D : va_G) (ca : Nat → ClassId) (ad : Nat → Int → Nat → Nat) (L : List Nat) (r : Int) (F : zF) (B : zB) (A : Nat → Prop) : Array Value → State → Outcome → State → Prop := va_Qi (S := Unit) (fun p _ => p = iI r) (fun _ => zPo D ca ad lnC K.2 L F B A) A
def f_Tokens_isBlank_29 (K : zK) (s0 : Int) (F : zF) (B : zB) : zO := if (s0 = 0 ∨ s0 = 1) then some (s0, F, B) else none
set_option maxHeartbeats 4000000 in
set_option maxRecDepth 100000 in
theorem b_Tokens_isBlank_29 {D : va_G} {ca : Nat → ClassId} {ad : Nat → Int → Nat → Nat} {L : List Nat} {aS vS : Nat → Nat} {A : Nat → Prop} {p : Program} {l : Launch} {e : Env} {s : State} {m : MethodId} {args : Array Value} {below : List Frame} {meth : Method} {c : Code} {K : zK} {r : Int} {F9 : zF} {B9 : zB} (X : zX D ca L aS vS A p s m args meth c prog_12_method_11_code 1 (Option.some Jvm.ClassFile.FieldType.boolean) "StaveHouse$Tokens") {s0 : Int} {F : zF} {B : zB} {H : Heap} {locs : List Loc} {ls : Array Slot} (hf : f_Tokens_isBlank_29 K s0 F B = some (r, F9, B9)) (hZ : zH D ca ad lnC K.2 L F B A H) (hS : va_S A s.heap H locs) (hl : lv_has ls 1 []) : W p l e ({ frames := 0, cells := 0, slots := 0, locals := 0 } : Room) s m args below meth c H locs 0 0 (MQ below (Q_Tokens_isBlank K D ca ad L r F9 B9 A) args s 0 0 A) (F0 m 29 ls [.int (iI s0)]) := by
  obtain ⟨hx, hb, hr, hml, hown, hts, hlk, hK, hA, hL, hX⟩ := id X
  replace hf : (if (s0 = 0 ∨ s0 = 1) then some (s0, F, B) else none) = some (r, F9, B9) := hf
  obtain ⟨g6, hf⟩ := gif hf
  cases hf
  exact W.zret hx hb hr (zbool g6) (fun t ht hW => ⟨⟨_, (), rfl, rfl, by rw [ht]; exact hZ, va_K.moved hW.alike hK⟩, hS.F ht⟩) hS.2.2 d_12_11_29 hlk

def f_Tokens_isBlank_24 (K : zK)  (F : zF) (B : zB) : zO := f_Tokens_isBlank_29 K 1 F B
set_option maxHeartbeats 4000000 in
set_option maxRecDepth 100000 in
theorem b_Tokens_isBlank_24 {D : va_G} {ca : Nat → ClassId} {ad : Nat → Int → Nat → Nat} {L : List Nat} {aS vS : Nat → Nat} {A : Nat → Prop} {p : Program} {l : Launch} {e : Env} {s : State} {m : MethodId} {args : Array Value} {below : List Frame} {meth : Method} {c : Code} {K : zK} {r : Int} {F9 : zF} {B9 : zB} (X : zX D ca L aS vS A p s m args meth c prog_12_method_11_code 1 (Option.some Jvm.ClassFile.FieldType.boolean) "StaveHouse$Tokens")  {F : zF} {B : zB} {H : Heap} {locs : List Loc} {ls : Array Slot} (hf : f_Tokens_isBlank_24 K  F B = some (r, F9, B9)) (hZ : zH D ca ad lnC K.2 L F B A H) (hS : va_S A s.heap H locs) (hl : lv_has ls 1 []) : W p l e ({ frames := 0, cells := 0, slots := 0, locals := 0 } : Room) s m args below meth c H locs 0 0 (MQ below (Q_Tokens_isBlank K D ca ad L r F9 B9 A) args s 0 0 A) (F0 m 24 ls []) := by
  obtain ⟨hx, hb, hr, hml, hown, hts, hlk, hK, hA, hL, hX⟩ := id X
  replace hf : (f_Tokens_isBlank_29 K 1 F B) = some (r, F9, B9) := hf
  refine lv_iconst (v := iI 1) hx hb d_12_11_24 rfl ?_
  refine lv_goto (tgt := 29) hx hb d_12_11_25 (by decide) ?_
  exact b_Tokens_isBlank_29 X hf hZ hS (lv_sub hl [] rfl)

def f_Tokens_isBlank (K : zK) (l0 : Int) (F : zF) (B : zB) : zO := if r32 l0 then (if l0 = 9 then f_Tokens_isBlank_24 K F B else (if l0 = 10 then f_Tokens_isBlank_24 K F B else (if l0 = 13 then f_Tokens_isBlank_24 K F B else (if l0 = 32 then f_Tokens_isBlank_24 K F B else f_Tokens_isBlank_29 K 0 F B)))) else none
set_option maxHeartbeats 4000000 in
set_option maxRecDepth 100000 in
theorem c_Tokens_isBlank {l : Launch} {D : va_G} {ca : Nat → ClassId} {ad : Nat → Int → Nat → Nat} {L : List Nat} {aS vS : Nat → Nat} {sz : Nat} {K : zK}  {l0 : Int} {F F9 : zF} {B B9 : zB} {r : Int} (hf : f_Tokens_isBlank K l0 F B = some (r, F9, B9)) : Met l ({ cls := "StaveHouse$Tokens", name := "isBlank", desc := "(I)Z" } : Jvm.MethodName) (Cond.code ({ cls := "StaveHouse$Tokens", name := "isBlank", desc := "(I)Z" } : Jvm.MethodName) prog_12_method_11_code 1 (Option.some Jvm.ClassFile.FieldType.boolean) :: wAll) ({ frames := 0, cells := 0, slots := 0, locals := 0 } : Room) (va_Pc [.int (iI l0)] (zPre D ca ad lnC K.2 L aS vS F B sz)) (Q_Tokens_isBlank K D ca ad L r F9 B9 (zA L sz)) 0 0 (zA L sz) := by
  refine zMet (Qc := Q_Tokens_isBlank K D ca ad L r F9 B9) (lv := [(0, .int (iI l0))]) (by decide) (Nat.le_of_ble_eq_true rfl) rfl (fun A p e s m below meth c ls X hZ hS hl => ?_)
  obtain ⟨hx, hb, hr, hml, hown, hts, hlk, hK, hA, hL, hX⟩ := id X
  replace hf : (if r32 l0 then (if l0 = 9 then f_Tokens_isBlank_24 K F B else (if l0 = 10 then f_Tokens_isBlank_24 K F B else (if l0 = 13 then f_Tokens_isBlank_24 K F B else (if l0 = 32 then f_Tokens_isBlank_24 K F B else f_Tokens_isBlank_29 K 0 F B)))) else none) = some (r, F9, B9) := hf
  refine lv_iload_n hx hb d_12_11_0 rfl (lv_at hl 0 rfl) ?_
  refine lv_bipush (v := iI 9) hx hb d_12_11_1 (by decide) ?_
  obtain ⟨g1, hf⟩ := gif hf
  refine zeq (tgt := 24) hx hb g1 (by decide) d_12_11_3 (by decide) (fun h2 => ?_) (fun h2 => ?_)
  · replace hf := gpos hf h2
    exact b_Tokens_isBlank_24 X hf hZ hS (lv_sub hl [] rfl)
  · replace hf := gneg hf h2
    refine lv_iload_n hx hb d_12_11_6 rfl (lv_at hl 0 rfl) ?_
    refine lv_bipush (v := iI 10) hx hb d_12_11_7 (by decide) ?_
    refine zeq (tgt := 24) hx hb g1 (by decide) d_12_11_9 (by decide) (fun h3 => ?_) (fun h3 => ?_)
    · replace hf := gpos hf h3
      exact b_Tokens_isBlank_24 X hf hZ hS (lv_sub hl [] rfl)
    · replace hf := gneg hf h3
      refine lv_iload_n hx hb d_12_11_12 rfl (lv_at hl 0 rfl) ?_
      refine lv_bipush (v := iI 13) hx hb d_12_11_13 (by decide) ?_
      refine zeq (tgt := 24) hx hb g1 (by decide) d_12_11_15 (by decide) (fun h4 => ?_) (fun h4 => ?_)
      · replace hf := gpos hf h4
        exact b_Tokens_isBlank_24 X hf hZ hS (lv_sub hl [] rfl)
      · replace hf := gneg hf h4
        refine lv_iload_n hx hb d_12_11_18 rfl (lv_at hl 0 rfl) ?_
        refine lv_bipush (v := iI 32) hx hb d_12_11_19 (by decide) ?_
        refine zne (tgt := 28) hx hb g1 (by decide) d_12_11_21 (by decide) (fun h5 => ?_) (fun h5 => ?_)
        · replace hf := gneg hf h5
          refine lv_iconst (v := iI 0) hx hb d_12_11_28 rfl ?_
          exact b_Tokens_isBlank_29 X hf hZ hS (lv_sub hl [] rfl)
        · replace hf := gpos hf h5
          exact b_Tokens_isBlank_24 X hf hZ hS (lv_sub hl [] rfl)

abbrev Q_Tokens_isLetter (K : zK) (D : va_G) (ca : Nat → ClassId) (ad : Nat → Int → Nat → Nat) (L : List Nat) (r : Int) (F : zF) (B : zB) (A : Nat → Prop) : Array Value → State → Outcome → State → Prop := va_Qi (S := Unit) (fun p _ => p = iI r) (fun _ => zPo D ca ad lnC K.2 L F B A) A
def f_Tokens_isLetter_17 (K : zK) (s0 : Int) (F : zF) (B : zB) : zO := if (s0 = 0 ∨ s0 = 1) then some (s0, F, B) else none
set_option maxHeartbeats 4000000 in
set_option maxRecDepth 100000 in
theorem b_Tokens_isLetter_17 {D : va_G} {ca : Nat → ClassId} {ad : Nat → Int → Nat → Nat} {L : List Nat} {aS vS : Nat → Nat} {A : Nat → Prop} {p : Program} {l : Launch} {e : Env} {s : State} {m : MethodId} {args : Array Value} {below : List Frame} {meth : Method} {c : Code} {K : zK} {r : Int} {F9 : zF} {B9 : zB} (X : zX D ca L aS vS A p s m args meth c prog_12_method_12_code 1 (Option.some Jvm.ClassFile.FieldType.boolean) "StaveHouse$Tokens") {s0 : Int} {F : zF} {B : zB} {H : Heap} {locs : List Loc} {ls : Array Slot} (hf : f_Tokens_isLetter_17 K s0 F B = some (r, F9, B9)) (hZ : zH D ca ad lnC K.2 L F B A H) (hS : va_S A s.heap H locs) (hl : lv_has ls 1 []) : W p l e ({ frames := 0, cells := 0, slots := 0, locals := 0 } : Room) s m args below meth c H locs 0 0 (MQ below (Q_Tokens_isLetter K D ca ad L r F9 B9 A) args s 0 0 A) (F0 m 17 ls [.int (iI s0)]) := by
  obtain ⟨hx, hb, hr, hml, hown, hts, hlk, hK, hA, hL, hX⟩ := id X
  replace hf : (if (s0 = 0 ∨ s0 = 1) then some (s0, F, B) else none) = some (r, F9, B9) := hf
  obtain ⟨g4, hf⟩ := gif hf
  cases hf
  exact W.zret hx hb hr (zbool g4) (fun t ht hW => ⟨⟨_, (), rfl, rfl, by rw [ht]; exact hZ, va_K.moved hW.alike hK⟩, hS.F ht⟩) hS.2.2 d_12_12_17 hlk

def f_Tokens_isLetter_16 (K : zK)  (F : zF) (B : zB) : zO := f_Tokens_isLetter_17 K 0 F B
set_option maxHeartbeats 4000000 in
set_option maxRecDepth 100000 in
theorem b_Tokens_isLetter_16 {D : va_G} {ca : Nat → ClassId} {ad : Nat → Int → Nat → Nat} {L : List Nat} {aS vS : Nat → Nat} {A : Nat → Prop} {p : Program} {l : Launch} {e : Env} {s : State} {m : MethodId} {args : Array Value} {below : List Frame} {meth : Method} {c : Code} {K : zK} {r : Int} {F9 : zF} {B9 : zB} (X : zX D ca L aS vS A p s m args meth c prog_12_method_12_code 1 (Option.some Jvm.ClassFile.FieldType.boolean) "StaveHouse$Tokens")  {F : zF} {B : zB} {H : Heap} {locs : List Loc} {ls : Array Slot} (hf : f_Tokens_isLetter_16 K  F B = some (r, F9, B9)) (hZ : zH D ca ad lnC K.2 L F B A H) (hS : va_S A s.heap H locs) (hl : lv_has ls 1 []) : W p l e ({ frames := 0, cells := 0, slots := 0, locals := 0 } : Room) s m args below meth c H locs 0 0 (MQ below (Q_Tokens_isLetter K D ca ad L r F9 B9 A) args s 0 0 A) (F0 m 16 ls []) := by
  obtain ⟨hx, hb, hr, hml, hown, hts, hlk, hK, hA, hL, hX⟩ := id X
  replace hf : (f_Tokens_isLetter_17 K 0 F B) = some (r, F9, B9) := hf
  refine lv_iconst (v := iI 0) hx hb d_12_12_16 rfl ?_
  exact b_Tokens_isLetter_17 X hf hZ hS (lv_sub hl [] rfl)

def f_Tokens_isLetter (K : zK) (l0 : Int) (F : zF) (B : zB) : zO := if r32 l0 then (if l0 < 97 then f_Tokens_isLetter_16 K F B else (if 122 < l0 then f_Tokens_isLetter_16 K F B else f_Tokens_isLetter_17 K 1 F B)) else none
set_option maxHeartbeats 4000000 in
set_option maxRecDepth 100000 in
theorem c_Tokens_isLetter {l : Launch} {D : va_G} {ca : Nat → ClassId} {ad : Nat → Int → Nat → Nat} {L : List Nat} {aS vS : Nat → Nat} {sz : Nat} {K : zK}  {l0 : Int} {F F9 : zF} {B B9 : zB} {r : Int} (hf : f_Tokens_isLetter K l0 F B = some (r, F9, B9)) : Met l ({ cls := "StaveHouse$Tokens", name := "isLetter", desc := "(I)Z" } : Jvm.MethodName) (Cond.code ({ cls := "StaveHouse$Tokens", name := "isLetter", desc := "(I)Z" } : Jvm.MethodName) prog_12_method_12_code 1 (Option.some Jvm.ClassFile.FieldType.boolean) :: wAll) ({ frames := 0, cells := 0, slots := 0, locals := 0 } : Room) (va_Pc [.int (iI l0)] (zPre D ca ad lnC K.2 L aS vS F B sz)) (Q_Tokens_isLetter K D ca ad L r F9 B9 (zA L sz)) 0 0 (zA L sz) := by
  refine zMet (Qc := Q_Tokens_isLetter K D ca ad L r F9 B9) (lv := [(0, .int (iI l0))]) (by decide) (Nat.le_of_ble_eq_true rfl) rfl (fun A p e s m below meth c ls X hZ hS hl => ?_)
  obtain ⟨hx, hb, hr, hml, hown, hts, hlk, hK, hA, hL, hX⟩ := id X
  replace hf : (if r32 l0 then (if l0 < 97 then f_Tokens_isLetter_16 K F B else (if 122 < l0 then f_Tokens_isLetter_16 K F B else f_Tokens_isLetter_17 K 1 F B)) else none) = some (r, F9, B9) := hf
  refine lv_iload_n hx hb d_12_12_0 rfl (lv_at hl 0 rfl) ?_
  refine lv_bipush (v := iI 97) hx hb d_12_12_1 (by decide) ?_
  obtain ⟨g1, hf⟩ := gif hf
  refine zlt (tgt := 16) hx hb g1 (by decide) d_12_12_3 (by decide) (fun h2 => ?_) (fun h2 => ?_)
  · replace hf := gpos hf h2
    exact b_Tokens_isLetter_16 X hf hZ hS (lv_sub hl [] rfl)
  · replace hf := gneg hf h2
    refine lv_iload_n hx hb d_12_12_6 rfl (lv_at hl 0 rfl) ?_
    refine lv_bipush (v := iI 122) hx hb d_12_12_7 (by decide) ?_
    refine zgt (tgt := 16) hx hb g1 (by decide) d_12_12_9 (by decide) (fun h3 => ?_) (fun h3 => ?_)
    · replace hf := gpos hf h3
      exact b_Tokens_isLetter_16 X hf hZ hS (lv_sub hl [] rfl)
    · replace hf := gneg hf h3
      refine lv_iconst (v := iI 1) hx hb d_12_12_12 rfl ?_
      refine lv_goto (tgt := 17) hx hb d_12_12_13 (by decide) ?_
      exact b_Tokens_isLetter_17 X hf hZ hS (lv_sub hl [] rfl)

abbrev Q_Tokens_isDigit (K : zK) (D : va_G) (ca : Nat → ClassId) (ad : Nat → Int → Nat → Nat) (L : List Nat) (r : Int) (F : zF) (B : zB) (A : Nat → Prop) : Array Value → State → Outcome → State → Prop := va_Qi (S := Unit) (fun p _ => p = iI r) (fun _ => zPo D ca ad lnC K.2 L F B A) A
def f_Tokens_isDigit_17 (K : zK) (s0 : Int) (F : zF) (B : zB) : zO := if (s0 = 0 ∨ s0 = 1) then some (s0, F, B) else none
set_option maxHeartbeats 4000000 in
set_option maxRecDepth 100000 in
theorem b_Tokens_isDigit_17 {D : va_G} {ca : Nat → ClassId} {ad : Nat → Int → Nat → Nat} {L : List Nat} {aS vS : Nat → Nat} {A : Nat → Prop} {p : Program} {l : Launch} {e : Env} {s : State} {m : MethodId} {args : Array Value} {below : List Frame} {meth : Method} {c : Code} {K : zK} {r : Int} {F9 : zF} {B9 : zB} (X : zX D ca L aS vS A p s m args meth c prog_12_method_13_code 1 (Option.some Jvm.ClassFile.FieldType.boolean) "StaveHouse$Tokens") {s0 : Int} {F : zF} {B : zB} {H : Heap} {locs : List Loc} {ls : Array Slot} (hf : f_Tokens_isDigit_17 K s0 F B = some (r, F9, B9)) (hZ : zH D ca ad lnC K.2 L F B A H) (hS : va_S A s.heap H locs) (hl : lv_has ls 1 []) : W p l e ({ frames := 0, cells := 0, slots := 0, locals := 0 } : Room) s m args below meth c H locs 0 0 (MQ below (Q_Tokens_isDigit K D ca ad L r F9 B9 A) args s 0 0 A) (F0 m 17 ls [.int (iI s0)]) := by
  obtain ⟨hx, hb, hr, hml, hown, hts, hlk, hK, hA, hL, hX⟩ := id X
  replace hf : (if (s0 = 0 ∨ s0 = 1) then some (s0, F, B) else none) = some (r, F9, B9) := hf
  obtain ⟨g4, hf⟩ := gif hf
  cases hf
  exact W.zret hx hb hr (zbool g4) (fun t ht hW => ⟨⟨_, (), rfl, rfl, by rw [ht]; exact hZ, va_K.moved hW.alike hK⟩, hS.F ht⟩) hS.2.2 d_12_13_17 hlk

def f_Tokens_isDigit_16 (K : zK)  (F : zF) (B : zB) : zO := f_Tokens_isDigit_17 K 0 F B
set_option maxHeartbeats 4000000 in
set_option maxRecDepth 100000 in
theorem b_Tokens_isDigit_16 {D : va_G} {ca : Nat → ClassId} {ad : Nat → Int → Nat → Nat} {L : List Nat} {aS vS : Nat → Nat} {A : Nat → Prop} {p : Program} {l : Launch} {e : Env} {s : State} {m : MethodId} {args : Array Value} {below : List Frame} {meth : Method} {c : Code} {K : zK} {r : Int} {F9 : zF} {B9 : zB} (X : zX D ca L aS vS A p s m args meth c prog_12_method_13_code 1 (Option.some Jvm.ClassFile.FieldType.boolean) "StaveHouse$Tokens")  {F : zF} {B : zB} {H : Heap} {locs : List Loc} {ls : Array Slot} (hf : f_Tokens_isDigit_16 K  F B = some (r, F9, B9)) (hZ : zH D ca ad lnC K.2 L F B A H) (hS : va_S A s.heap H locs) (hl : lv_has ls 1 []) : W p l e ({ frames := 0, cells := 0, slots := 0, locals := 0 } : Room) s m args below meth c H locs 0 0 (MQ below (Q_Tokens_isDigit K D ca ad L r F9 B9 A) args s 0 0 A) (F0 m 16 ls []) := by
  obtain ⟨hx, hb, hr, hml, hown, hts, hlk, hK, hA, hL, hX⟩ := id X
  replace hf : (f_Tokens_isDigit_17 K 0 F B) = some (r, F9, B9) := hf
  refine lv_iconst (v := iI 0) hx hb d_12_13_16 rfl ?_
  exact b_Tokens_isDigit_17 X hf hZ hS (lv_sub hl [] rfl)

def f_Tokens_isDigit (K : zK) (l0 : Int) (F : zF) (B : zB) : zO := if r32 l0 then (if l0 < 48 then f_Tokens_isDigit_16 K F B else (if 57 < l0 then f_Tokens_isDigit_16 K F B else f_Tokens_isDigit_17 K 1 F B)) else none
set_option maxHeartbeats 4000000 in
set_option maxRecDepth 100000 in
theorem c_Tokens_isDigit {l : Launch} {D : va_G} {ca : Nat → ClassId} {ad : Nat → Int → Nat → Nat} {L : List Nat} {aS vS : Nat → Nat} {sz : Nat} {K : zK}  {l0 : Int} {F F9 : zF} {B B9 : zB} {r : Int} (hf : f_Tokens_isDigit K l0 F B = some (r, F9, B9)) : Met l ({ cls := "StaveHouse$Tokens", name := "isDigit", desc := "(I)Z" } : Jvm.MethodName) (Cond.code ({ cls := "StaveHouse$Tokens", name := "isDigit", desc := "(I)Z" } : Jvm.MethodName) prog_12_method_13_code 1 (Option.some Jvm.ClassFile.FieldType.boolean) :: wAll) ({ frames := 0, cells := 0, slots := 0, locals := 0 } : Room) (va_Pc [.int (iI l0)] (zPre D ca ad lnC K.2 L aS vS F B sz)) (Q_Tokens_isDigit K D ca ad L r F9 B9 (zA L sz)) 0 0 (zA L sz) := by
  refine zMet (Qc := Q_Tokens_isDigit K D ca ad L r F9 B9) (lv := [(0, .int (iI l0))]) (by decide) (Nat.le_of_ble_eq_true rfl) rfl (fun A p e s m below meth c ls X hZ hS hl => ?_)
  obtain ⟨hx, hb, hr, hml, hown, hts, hlk, hK, hA, hL, hX⟩ := id X
  replace hf : (if r32 l0 then (if l0 < 48 then f_Tokens_isDigit_16 K F B else (if 57 < l0 then f_Tokens_isDigit_16 K F B else f_Tokens_isDigit_17 K 1 F B)) else none) = some (r, F9, B9) := hf
  refine lv_iload_n hx hb d_12_13_0 rfl (lv_at hl 0 rfl) ?_
  refine lv_bipush (v := iI 48) hx hb d_12_13_1 (by decide) ?_
  obtain ⟨g1, hf⟩ := gif hf
  refine zlt (tgt := 16) hx hb g1 (by decide) d_12_13_3 (by decide) (fun h2 => ?_) (fun h2 => ?_)
  · replace hf := gpos hf h2
    exact b_Tokens_isDigit_16 X hf hZ hS (lv_sub hl [] rfl)
  · replace hf := gneg hf h2
    refine lv_iload_n hx hb d_12_13_6 rfl (lv_at hl 0 rfl) ?_
    refine lv_bipush (v := iI 57) hx hb d_12_13_7 (by decide) ?_
    refine zgt (tgt := 16) hx hb g1 (by decide) d_12_13_9 (by decide) (fun h3 => ?_) (fun h3 => ?_)
    · replace hf := gpos hf h3
      exact b_Tokens_isDigit_16 X hf hZ hS (lv_sub hl [] rfl)
    · replace hf := gneg hf h3
      refine lv_iconst (v := iI 1) hx hb d_12_13_12 rfl ?_
      refine lv_goto (tgt := 17) hx hb d_12_13_13 (by decide) ?_
      exact b_Tokens_isDigit_17 X hf hZ hS (lv_sub hl [] rfl)

abbrev Q_CString_isLatin1 (K : zK) (D : va_G) (ca : Nat → ClassId) (ad : Nat → Int → Nat → Nat) (L : List Nat) (r : Int) (F : zF) (B : zB) (A : Nat → Prop) : Array Value → State → Outcome → State → Prop := va_Qi (S := Unit) (fun p _ => p = iI r) (fun _ => zPo D ca ad lnC K.2 L F B A) A
def f_CString_isLatin1_18 (K : zK) (s0 : Int) (F : zF) (B : zB) : zO := if (s0 = 0 ∨ s0 = 1) then some (s0, F, B) else none
set_option maxHeartbeats 4000000 in
set_option maxRecDepth 100000 in
theorem b_CString_isLatin1_18 {D : va_G} {ca : Nat → ClassId} {ad : Nat → Int → Nat → Nat} {L : List Nat} {aS vS : Nat → Nat} {A : Nat → Prop} {p : Program} {l : Launch} {e : Env} {s : State} {m : MethodId} {args : Array Value} {below : List Frame} {meth : Method} {c : Code} {K : zK} {r : Int} {F9 : zF} {B9 : zB} (X : zX D ca L aS vS A p s m args meth c prog_21_method_154_code 1 (Option.some Jvm.ClassFile.FieldType.boolean) "java/lang/String") {s0 : Int} {F : zF} {B : zB} {H : Heap} {locs : List Loc} {ls : Array Slot} (hf : f_CString_isLatin1_18 K s0 F B = some (r, F9, B9)) (hZ : zH D ca ad lnC K.2 L F B A H) (hS : va_S A s.heap H locs) (hl : lv_has ls 1 []) : W p l e ({ frames := 0, cells := 0, slots := 0, locals := 0 } : Room) s m args below meth c H locs 0 0 (MQ below (Q_CString_isLatin1 K D ca ad L r F9 B9 A) args s 0 0 A) (F0 m 18 ls [.int (iI s0)]) := by
  obtain ⟨hx, hb, hr, hml, hown, hts, hlk, hK, hA, hL, hX⟩ := id X
  replace hf : (if (s0 = 0 ∨ s0 = 1) then some (s0, F, B) else none) = some (r, F9, B9) := hf
  obtain ⟨g4, hf⟩ := gif hf
  cases hf
  exact W.zret hx hb hr (zbool g4) (fun t ht hW => ⟨⟨_, (), rfl, rfl, by rw [ht]; exact hZ, va_K.moved hW.alike hK⟩, hS.F ht⟩) hS.2.2 d_21_154_18 hlk

def f_CString_isLatin1_17 (K : zK)  (F : zF) (B : zB) : zO := f_CString_isLatin1_18 K 0 F B
set_option maxHeartbeats 4000000 in
set_option maxRecDepth 100000 in
theorem b_CString_isLatin1_17 {D : va_G} {ca : Nat → ClassId} {ad : Nat → Int → Nat → Nat} {L : List Nat} {aS vS : Nat → Nat} {A : Nat → Prop} {p : Program} {l : Launch} {e : Env} {s : State} {m : MethodId} {args : Array Value} {below : List Frame} {meth : Method} {c : Code} {K : zK} {r : Int} {F9 : zF} {B9 : zB} (X : zX D ca L aS vS A p s m args meth c prog_21_method_154_code 1 (Option.some Jvm.ClassFile.FieldType.boolean) "java/lang/String")  {F : zF} {B : zB} {H : Heap} {locs : List Loc} {ls : Array Slot} (hf : f_CString_isLatin1_17 K  F B = some (r, F9, B9)) (hZ : zH D ca ad lnC K.2 L F B A H) (hS : va_S A s.heap H locs) (hl : lv_has ls 1 []) : W p l e ({ frames := 0, cells := 0, slots := 0, locals := 0 } : Room) s m args below meth c H locs 0 0 (MQ below (Q_CString_isLatin1 K D ca ad L r F9 B9 A) args s 0 0 A) (F0 m 17 ls []) := by
  obtain ⟨hx, hb, hr, hml, hown, hts, hlk, hK, hA, hL, hX⟩ := id X
  replace hf : (f_CString_isLatin1_18 K 0 F B) = some (r, F9, B9) := hf
  refine lv_iconst (v := iI 0) hx hb d_21_154_17 rfl ?_
  exact b_CString_isLatin1_18 X hf hZ hS (lv_sub hl [] rfl)

def f_CString_isLatin1 (K : zK) (l0 : Nat) (F : zF) (B : zB) : zO := (if (1 : Int) = 0 then f_CString_isLatin1_17 K F B else if l0 < strL.length then (if (0 : Int) = 0 then f_CString_isLatin1_18 K 1 F B else f_CString_isLatin1_17 K F B) else none)
set_option maxHeartbeats 4000000 in
set_option maxRecDepth 100000 in
theorem c_CString_isLatin1 {l : Launch} {D : va_G} {ca : Nat → ClassId} {ad : Nat → Int → Nat → Nat} {L : List Nat} {aS vS : Nat → Nat} {sz : Nat} {K : zK}  {l0 : Nat} {F F9 : zF} {B B9 : zB} {r : Int} (hf : f_CString_isLatin1 K l0 F B = some (r, F9, B9)) : Met l ({ cls := "java/lang/String", name := "isLatin1", desc := "()Z" } : Jvm.MethodName) (Cond.code ({ cls := "java/lang/String", name := "isLatin1", desc := "()Z" } : Jvm.MethodName) prog_21_method_154_code 1 (Option.some Jvm.ClassFile.FieldType.boolean) :: wAll) ({ frames := 0, cells := 0, slots := 0, locals := 0 } : Room) (va_Pc [.ref (aS l0)] (zPre D ca ad lnC K.2 L aS vS F B sz)) (Q_CString_isLatin1 K D ca ad L r F9 B9 (zA L sz)) 0 0 (zA L sz) := by
  refine zMet (Qc := Q_CString_isLatin1 K D ca ad L r F9 B9) (lv := [(0, .ref (aS l0))]) (by decide) (Nat.le_of_ble_eq_true rfl) rfl (fun A p e s m below meth c ls X hZ hS hl => ?_)
  obtain ⟨hx, hb, hr, hml, hown, hts, hlk, hK, hA, hL, hX⟩ := id X
  replace hf : ((if (1 : Int) = 0 then f_CString_isLatin1_17 K F B else if l0 < strL.length then (if (0 : Int) = 0 then f_CString_isLatin1_18 K 1 F B else f_CString_isLatin1_17 K F B) else none)) = some (r, F9, B9) := hf
  refine va_gets hx hb (hX.2.2.2.1 _ (List.mem_of_getElem? (i := 0) rfl)) hS hown (hts _ k_3_79) (fun _ h => h) d_21_154_0 ?_
  refine W.eq (g2 := F0 m 3 ls [.int (iI 1)]) rfl ?_
  refine z0eq (tgt := 17) hx hb (by decide) d_21_154_3 (by decide) (fun h1 => ?_) (fun h1 => ?_)
  · replace hf := gpos hf h1
    exact b_CString_isLatin1_17 X hf hZ hS (lv_sub hl [] rfl)
  · replace hf := gneg hf h1
    refine lv_aload_n hx hb d_21_154_6 rfl (lv_at hl 0 rfl) ?_
    obtain ⟨g2, hf⟩ := gif hf
    refine vk_getf hx hb (zstr hX g2).1 hS hown (hts _ k_15_171) (fun _ h => h) d_21_154_7 ?_
    refine W.eq (g2 := F0 m 10 ls [.int (iI 0)]) rfl ?_
    refine z0ne (tgt := 17) hx hb (by decide) d_21_154_10 (by decide) (fun h3 => ?_) (fun h3 => ?_)
    · replace hf := gneg hf h3
      exact b_CString_isLatin1_17 X hf hZ hS (lv_sub hl [] rfl)
    · replace hf := gpos hf h3
      refine lv_iconst (v := iI 1) hx hb d_21_154_13 rfl ?_
      refine lv_goto (tgt := 18) hx hb d_21_154_14 (by decide) ?_
      exact b_CString_isLatin1_18 X hf hZ hS (lv_sub hl [] rfl)

abbrev Q_CString_coder (K : zK) (D : va_G) (ca : Nat → ClassId) (ad : Nat → Int → Nat → Nat) (L : List Nat) (r : Int) (F : zF) (B : zB) (A : Nat → Prop) : Array Value → State → Outcome → State → Prop := va_Qi (S := Unit) (fun p _ => p = iI r) (fun _ => zPo D ca ad lnC K.2 L F B A) A
def f_CString_coder_14 (K : zK) (s0 : Int) (F : zF) (B : zB) : zO := if (-128) ≤ s0 ∧ s0 < 128 then some (s0, F, B) else none
set_option maxHeartbeats 4000000 in
set_option maxRecDepth 100000 in
theorem b_CString_coder_14 {D : va_G} {ca : Nat → ClassId} {ad : Nat → Int → Nat → Nat} {L : List Nat} {aS vS : Nat → Nat} {A : Nat → Prop} {p : Program} {l : Launch} {e : Env} {s : State} {m : MethodId} {args : Array Value} {below : List Frame} {meth : Method} {c : Code} {K : zK} {r : Int} {F9 : zF} {B9 : zB} (X : zX D ca L aS vS A p s m args meth c prog_21_method_152_code 1 (Option.some Jvm.ClassFile.FieldType.byte) "java/lang/String") {s0 : Int} {F : zF} {B : zB} {H : Heap} {locs : List Loc} {ls : Array Slot} (hf : f_CString_coder_14 K s0 F B = some (r, F9, B9)) (hZ : zH D ca ad lnC K.2 L F B A H) (hS : va_S A s.heap H locs) (hl : lv_has ls 1 []) : W p l e ({ frames := 0, cells := 0, slots := 0, locals := 0 } : Room) s m args below meth c H locs 0 0 (MQ below (Q_CString_coder K D ca ad L r F9 B9 A) args s 0 0 A) (F0 m 14 ls [.int (iI s0)]) := by
  obtain ⟨hx, hb, hr, hml, hown, hts, hlk, hK, hA, hL, hX⟩ := id X
  replace hf : (if (-128) ≤ s0 ∧ s0 < 128 then some (s0, F, B) else none) = some (r, F9, B9) := hf
  obtain ⟨g3, hf⟩ := gif hf
  cases hf
  exact W.zret hx hb hr (zbyte g3) (fun t ht hW => ⟨⟨_, (), rfl, rfl, by rw [ht]; exact hZ, va_K.moved hW.alike hK⟩, hS.F ht⟩) hS.2.2 d_21_152_14 hlk

def f_CString_coder (K : zK) (l0 : Nat) (F : zF) (B : zB) : zO := (if (1 : Int) = 0 then f_CString_coder_14 K 1 F B else if l0 < strL.length then f_CString_coder_14 K 0 F B else none)
set_option maxHeartbeats 4000000 in
set_option maxRecDepth 100000 in
theorem c_CString_coder {l : Launch} {D : va_G} {ca : Nat → ClassId} {ad : Nat → Int → Nat → Nat} {L : List Nat} {aS vS : Nat → Nat} {sz : Nat} {K : zK}  {l0 : Nat} {F F9 : zF} {B B9 : zB} {r : Int} (hf : f_CString_coder K l0 F B = some (r, F9, B9)) : Met l ({ cls := "java/lang/String", name := "coder", desc := "()B" } : Jvm.MethodName) (Cond.code ({ cls := "java/lang/String", name := "coder", desc := "()B" } : Jvm.MethodName) prog_21_method_152_code 1 (Option.some Jvm.ClassFile.FieldType.byte) :: wAll) ({ frames := 0, cells := 0, slots := 0, locals := 0 } : Room) (va_Pc [.ref (aS l0)] (zPre D ca ad lnC K.2 L aS vS F B sz)) (Q_CString_coder K D ca ad L r F9 B9 (zA L sz)) 0 0 (zA L sz) := by
  refine zMet (Qc := Q_CString_coder K D ca ad L r F9 B9) (lv := [(0, .ref (aS l0))]) (by decide) (Nat.le_of_ble_eq_true rfl) rfl (fun A p e s m below meth c ls X hZ hS hl => ?_)
  obtain ⟨hx, hb, hr, hml, hown, hts, hlk, hK, hA, hL, hX⟩ := id X
  replace hf : ((if (1 : Int) = 0 then f_CString_coder_14 K 1 F B else if l0 < strL.length then f_CString_coder_14 K 0 F B else none)) = some (r, F9, B9) := hf
  refine va_gets hx hb (hX.2.2.2.1 _ (List.mem_of_getElem? (i := 0) rfl)) hS hown (hts _ k_3_79) (fun _ h => h) d_21_152_0 ?_
  refine W.eq (g2 := F0 m 3 ls [.int (iI 1)]) rfl ?_
  refine z0eq (tgt := 13) hx hb (by decide) d_21_152_3 (by decide) (fun h1 => ?_) (fun h1 => ?_)
  · replace hf := gpos hf h1
    refine lv_iconst (v := iI 1) hx hb d_21_152_13 rfl ?_
    exact b_CString_coder_14 X hf hZ hS (lv_sub hl [] rfl)
  · replace hf := gneg hf h1
    refine lv_aload_n hx hb d_21_152_6 rfl (lv_at hl 0 rfl) ?_
    obtain ⟨g2, hf⟩ := gif hf
    refine vk_getf hx hb (zstr hX g2).1 hS hown (hts _ k_15_171) (fun _ h => h) d_21_152_7 ?_
    refine W.eq (g2 := F0 m 10 ls [.int (iI 0)]) rfl ?_
    refine lv_goto (tgt := 14) hx hb d_21_152_10 (by decide) ?_
    exact b_CString_coder_14 X hf hZ hS (lv_sub hl [] rfl)

abbrev Q_Parser_indexOf (K : zK) (D : va_G) (ca : Nat → ClassId) (ad : Nat → Int → Nat → Nat) (L : List Nat) (r : Int) (F : zF) (B : zB) (A : Nat → Prop) : Array Value → State → Outcome → State → Prop := va_Qi (S := Unit) (fun p _ => p = iI r) (fun _ => zPo D ca ad lnC K.2 L F B A) A
def f_Parser_indexOf_2 (K : zK) : Nat → Int → Nat → Int → zF → zB → zO
  | 0, _, _, _, _, _ => none
  | n + 1, l3, l0, l1, F, B => if l0 < staL.length then if r32 l3 then if r32 (ztl l0) then (if (ztl l0) ≤ l3 then some ((-1), F, B) else if (zta l0).2.2.2.1 = true then if 0 ≤ l3 ∧ l3 < ztl l0 then if r64 (ztv l0 l3) then if r64 l1 then (if (zcmp (ztv l0 l3) l1) = 0 then some (l3, F, B) else f_Parser_indexOf_2 K n (l3 + 1) l0 l1 F B) else none else none else none else none) else none else none else none
set_option maxHeartbeats 4000000 in
set_option maxRecDepth 100000 in
theorem b_Parser_indexOf_2 {D : va_G} {ca : Nat → ClassId} {ad : Nat → Int → Nat → Nat} {L : List Nat} {aS vS : Nat → Nat} {A : Nat → Prop} {p : Program} {l : Launch} {e : Env} {s : State} {m : MethodId} {args : Array Value} {below : List Frame} {meth : Method} {c : Code} {K : zK} {r : Int} {F9 : zF} {B9 : zB} (X : zX D ca L aS vS A p s m args meth c prog_5_method_13_code 4 (Option.some Jvm.ClassFile.FieldType.int) "StaveHouse$Parser") : ∀ {n : Nat} {l3 : Int} {l0 : Nat} {l1 : Int} {F : zF} {B : zB} {H : Heap} {locs : List Loc} {ls : Array Slot}, f_Parser_indexOf_2 K n l3 l0 l1 F B = some (r, F9, B9) → zH D ca ad lnC K.2 L F B A H → va_S A s.heap H locs → lv_has ls 4 [(3, .int (iI l3)), (0, .ref (vS (1000 + l0))), (1, .long (lI l1))] → W p l e ({ frames := 0, cells := 0, slots := 0, locals := 0 } : Room) s m args below meth c H locs 0 0 (MQ below (Q_Parser_indexOf K D ca ad L r F9 B9 A) args s 0 0 A) (F0 m 2 ls []) := by
  obtain ⟨hx, hb, hr, hml, hown, hts, hlk, hK, hA, hL, hX⟩ := id X
  intro n
  induction n with
  | zero =>
    intros
    rename_i hf _ _ _
    cases hf
  | succ n ih =>
    intro l3 l0 l1 F B H locs ls hf hZ hS hl
    replace hf : (if l0 < staL.length then if r32 l3 then if r32 (ztl l0) then (if (ztl l0) ≤ l3 then some ((-1), F, B) else if (zta l0).2.2.2.1 = true then if 0 ≤ l3 ∧ l3 < ztl l0 then if r64 (ztv l0 l3) then if r64 l1 then (if (zcmp (ztv l0 l3) l1) = 0 then some (l3, F, B) else f_Parser_indexOf_2 K n (l3 + 1) l0 l1 F B) else none else none else none else none) else none else none else none) = some (r, F9, B9) := hf
    refine lv_iload_n hx hb d_5_13_2 rfl (lv_at hl 0 rfl) ?_
    refine lv_aload_n hx hb d_5_13_3 rfl (lv_at hl 1 rfl) ?_
    obtain ⟨g1, hf⟩ := gif hf
    refine va_tlen (v := iI (ztl l0)) hx hb (ztT hX g1) hS (ztl_n _) d_5_13_4 ?_
    obtain ⟨g2, hf⟩ := gif hf
    obtain ⟨g3, hf⟩ := gif hf
    refine zge (tgt := 24) hx hb g2 g3 d_5_13_5 (by decide) (fun h4 => ?_) (fun h4 => ?_)
    · replace hf := gpos hf h4
      refine lv_iconst (v := iI (-1)) hx hb d_5_13_24 rfl ?_
      cases hf
      exact W.iret hx hb hr (fun t ht hW => ⟨⟨_, (), rfl, rfl, by rw [ht]; exact hZ, va_K.moved hW.alike hK⟩, hS.F ht⟩) hS.2.2 d_5_13_25 hlk
    · replace hf := gneg hf h4
      refine lv_aload_n hx hb d_5_13_8 rfl (lv_at hl 1 rfl) ?_
      refine lv_iload_n hx hb d_5_13_9 rfl (lv_at hl 0 rfl) ?_
      obtain ⟨g5, hf⟩ := gif hf
      obtain ⟨g6, hf⟩ := gif hf
      refine va_tl (v := .long (lI (ztv l0 l3))) hx hb (ztL hX g1 g5) hS (zt_in g1 g6) (ztL_v g1 g6) d_5_13_10 ?_
      refine lv_lload_n hx hb d_5_13_11 rfl (lv_at hl 2 rfl) ?_
      obtain ⟨g7, hf⟩ := gif hf
      obtain ⟨g8, hf⟩ := gif hf
      refine zcmp_r hx hb g7 g8 d_5_13_12 ?_
      refine z0ne (tgt := 18) hx hb zcmp_32 d_5_13_13 (by decide) (fun h9 => ?_) (fun h9 => ?_)
      · replace hf := gneg hf h9
        refine lv_iinc (v := iI (l3 + 1)) (lv' := [(3, .int (iI (l3 + 1))), (0, .ref (vS (1000 + l0))), (1, .long (lI l1))]) hx hb d_5_13_18 hl (k := 0) rfl (iI_add _ 1) (by decide) rfl (fun ls hl => ?_)
        refine lv_goto (tgt := 2) hx hb d_5_13_21 (by decide) ?_
        exact ih hf hZ hS (lv_sub hl [0, 1, 2] rfl)
      · replace hf := gpos hf h9
        refine lv_iload_n hx hb d_5_13_16 rfl (lv_at hl 0 rfl) ?_
        cases hf
        exact W.iret hx hb hr (fun t ht hW => ⟨⟨_, (), rfl, rfl, by rw [ht]; exact hZ, va_K.moved hW.alike hK⟩, hS.F ht⟩) hS.2.2 d_5_13_17 hlk

def f_Parser_indexOf (K : zK) (l0 : Nat) (l1 : Int) (F : zF) (B : zB) : zO := f_Parser_indexOf_2 K K.1 0 l0 l1 F B
set_option maxHeartbeats 4000000 in
set_option maxRecDepth 100000 in
theorem c_Parser_indexOf {l : Launch} {D : va_G} {ca : Nat → ClassId} {ad : Nat → Int → Nat → Nat} {L : List Nat} {aS vS : Nat → Nat} {sz : Nat} {K : zK}  {l0 : Nat} {l1 : Int} {F F9 : zF} {B B9 : zB} {r : Int} (hf : f_Parser_indexOf K l0 l1 F B = some (r, F9, B9)) : Met l ({ cls := "StaveHouse$Parser", name := "indexOf", desc := "([JJ)I" } : Jvm.MethodName) (Cond.code ({ cls := "StaveHouse$Parser", name := "indexOf", desc := "([JJ)I" } : Jvm.MethodName) prog_5_method_13_code 4 (Option.some Jvm.ClassFile.FieldType.int) :: wAll) ({ frames := 0, cells := 0, slots := 0, locals := 0 } : Room) (va_Pc [.ref (vS (1000 + l0)), .long (lI l1)] (zPre D ca ad lnC K.2 L aS vS F B sz)) (Q_Parser_indexOf K D ca ad L r F9 B9 (zA L sz)) 0 0 (zA L sz) := by
  refine zMet (Qc := Q_Parser_indexOf K D ca ad L r F9 B9) (lv := [(0, .ref (vS (1000 + l0))), (1, .long (lI l1))]) (by decide) (Nat.le_of_ble_eq_true rfl) rfl (fun A p e s m below meth c ls X hZ hS hl => ?_)
  obtain ⟨hx, hb, hr, hml, hown, hts, hlk, hK, hA, hL, hX⟩ := id X
  replace hf : (f_Parser_indexOf_2 K K.1 0 l0 l1 F B) = some (r, F9, B9) := hf
  refine lv_iconst (v := iI 0) hx hb d_5_13_0 rfl ?_
  refine lv_istore_n (lv' := [(3, .int (iI 0)), (0, .ref (vS (1000 + l0))), (1, .long (lI l1))]) hx hb d_5_13_1 rfl hl (by decide) rfl (fun ls hl => ?_)
  exact b_Parser_indexOf_2 X hf hZ hS (lv_sub hl [0, 1, 2] rfl)

abbrev Q_Long_bitCount (K : zK) (D : va_G) (ca : Nat → ClassId) (ad : Nat → Int → Nat → Nat) (L : List Nat) (r : Int) (F : zF) (B : zB) (A : Nat → Prop) : Array Value → State → Outcome → State → Prop := va_Qi (S := Unit) (fun p _ => p = iI r) (fun _ => zPo D ca ad lnC K.2 L F B A) A
def f_Long_bitCount (K : zK) (l0 : Int) (F : zF) (B : zB) : zO := if r32 ((((zland (((zland (l0 - (zland (zlushr l0 1) 6148914691236517205)) 3689348814741910323) + (zland (zlushr (l0 - (zland (zlushr l0 1) 6148914691236517205)) 2) 3689348814741910323)) + (zlushr ((zland (l0 - (zland (zlushr l0 1) 6148914691236517205)) 3689348814741910323) + (zland (zlushr (l0 - (zland (zlushr l0 1) 6148914691236517205)) 2) 3689348814741910323)) 4)) 1085102592571150095) + (zlushr (zland (((zland (l0 - (zland (zlushr l0 1) 6148914691236517205)) 3689348814741910323) + (zland (zlushr (l0 - (zland (zlushr l0 1) 6148914691236517205)) 2) 3689348814741910323)) + (zlushr ((zland (l0 - (zland (zlushr l0 1) 6148914691236517205)) 3689348814741910323) + (zland (zlushr (l0 - (zland (zlushr l0 1) 6148914691236517205)) 2) 3689348814741910323)) 4)) 1085102592571150095) 8)) + (zlushr ((zland (((zland (l0 - (zland (zlushr l0 1) 6148914691236517205)) 3689348814741910323) + (zland (zlushr (l0 - (zland (zlushr l0 1) 6148914691236517205)) 2) 3689348814741910323)) + (zlushr ((zland (l0 - (zland (zlushr l0 1) 6148914691236517205)) 3689348814741910323) + (zland (zlushr (l0 - (zland (zlushr l0 1) 6148914691236517205)) 2) 3689348814741910323)) 4)) 1085102592571150095) + (zlushr (zland (((zland (l0 - (zland (zlushr l0 1) 6148914691236517205)) 3689348814741910323) + (zland (zlushr (l0 - (zland (zlushr l0 1) 6148914691236517205)) 2) 3689348814741910323)) + (zlushr ((zland (l0 - (zland (zlushr l0 1) 6148914691236517205)) 3689348814741910323) + (zland (zlushr (l0 - (zland (zlushr l0 1) 6148914691236517205)) 2) 3689348814741910323)) 4)) 1085102592571150095) 8)) 16)) + (zlushr (((zland (((zland (l0 - (zland (zlushr l0 1) 6148914691236517205)) 3689348814741910323) + (zland (zlushr (l0 - (zland (zlushr l0 1) 6148914691236517205)) 2) 3689348814741910323)) + (zlushr ((zland (l0 - (zland (zlushr l0 1) 6148914691236517205)) 3689348814741910323) + (zland (zlushr (l0 - (zland (zlushr l0 1) 6148914691236517205)) 2) 3689348814741910323)) 4)) 1085102592571150095) + (zlushr (zland (((zland (l0 - (zland (zlushr l0 1) 6148914691236517205)) 3689348814741910323) + (zland (zlushr (l0 - (zland (zlushr l0 1) 6148914691236517205)) 2) 3689348814741910323)) + (zlushr ((zland (l0 - (zland (zlushr l0 1) 6148914691236517205)) 3689348814741910323) + (zland (zlushr (l0 - (zland (zlushr l0 1) 6148914691236517205)) 2) 3689348814741910323)) 4)) 1085102592571150095) 8)) + (zlushr ((zland (((zland (l0 - (zland (zlushr l0 1) 6148914691236517205)) 3689348814741910323) + (zland (zlushr (l0 - (zland (zlushr l0 1) 6148914691236517205)) 2) 3689348814741910323)) + (zlushr ((zland (l0 - (zland (zlushr l0 1) 6148914691236517205)) 3689348814741910323) + (zland (zlushr (l0 - (zland (zlushr l0 1) 6148914691236517205)) 2) 3689348814741910323)) 4)) 1085102592571150095) + (zlushr (zland (((zland (l0 - (zland (zlushr l0 1) 6148914691236517205)) 3689348814741910323) + (zland (zlushr (l0 - (zland (zlushr l0 1) 6148914691236517205)) 2) 3689348814741910323)) + (zlushr ((zland (l0 - (zland (zlushr l0 1) 6148914691236517205)) 3689348814741910323) + (zland (zlushr (l0 - (zland (zlushr l0 1) 6148914691236517205)) 2) 3689348814741910323)) 4)) 1085102592571150095) 8)) 16)) 32)) then some (zand ((((zland (((zland (l0 - (zland (zlushr l0 1) 6148914691236517205)) 3689348814741910323) + (zland (zlushr (l0 - (zland (zlushr l0 1) 6148914691236517205)) 2) 3689348814741910323)) + (zlushr ((zland (l0 - (zland (zlushr l0 1) 6148914691236517205)) 3689348814741910323) + (zland (zlushr (l0 - (zland (zlushr l0 1) 6148914691236517205)) 2) 3689348814741910323)) 4)) 1085102592571150095) + (zlushr (zland (((zland (l0 - (zland (zlushr l0 1) 6148914691236517205)) 3689348814741910323) + (zland (zlushr (l0 - (zland (zlushr l0 1) 6148914691236517205)) 2) 3689348814741910323)) + (zlushr ((zland (l0 - (zland (zlushr l0 1) 6148914691236517205)) 3689348814741910323) + (zland (zlushr (l0 - (zland (zlushr l0 1) 6148914691236517205)) 2) 3689348814741910323)) 4)) 1085102592571150095) 8)) + (zlushr ((zland (((zland (l0 - (zland (zlushr l0 1) 6148914691236517205)) 3689348814741910323) + (zland (zlushr (l0 - (zland (zlushr l0 1) 6148914691236517205)) 2) 3689348814741910323)) + (zlushr ((zland (l0 - (zland (zlushr l0 1) 6148914691236517205)) 3689348814741910323) + (zland (zlushr (l0 - (zland (zlushr l0 1) 6148914691236517205)) 2) 3689348814741910323)) 4)) 1085102592571150095) + (zlushr (zland (((zland (l0 - (zland (zlushr l0 1) 6148914691236517205)) 3689348814741910323) + (zland (zlushr (l0 - (zland (zlushr l0 1) 6148914691236517205)) 2) 3689348814741910323)) + (zlushr ((zland (l0 - (zland (zlushr l0 1) 6148914691236517205)) 3689348814741910323) + (zland (zlushr (l0 - (zland (zlushr l0 1) 6148914691236517205)) 2) 3689348814741910323)) 4)) 1085102592571150095) 8)) 16)) + (zlushr (((zland (((zland (l0 - (zland (zlushr l0 1) 6148914691236517205)) 3689348814741910323) + (zland (zlushr (l0 - (zland (zlushr l0 1) 6148914691236517205)) 2) 3689348814741910323)) + (zlushr ((zland (l0 - (zland (zlushr l0 1) 6148914691236517205)) 3689348814741910323) + (zland (zlushr (l0 - (zland (zlushr l0 1) 6148914691236517205)) 2) 3689348814741910323)) 4)) 1085102592571150095) + (zlushr (zland (((zland (l0 - (zland (zlushr l0 1) 6148914691236517205)) 3689348814741910323) + (zland (zlushr (l0 - (zland (zlushr l0 1) 6148914691236517205)) 2) 3689348814741910323)) + (zlushr ((zland (l0 - (zland (zlushr l0 1) 6148914691236517205)) 3689348814741910323) + (zland (zlushr (l0 - (zland (zlushr l0 1) 6148914691236517205)) 2) 3689348814741910323)) 4)) 1085102592571150095) 8)) + (zlushr ((zland (((zland (l0 - (zland (zlushr l0 1) 6148914691236517205)) 3689348814741910323) + (zland (zlushr (l0 - (zland (zlushr l0 1) 6148914691236517205)) 2) 3689348814741910323)) + (zlushr ((zland (l0 - (zland (zlushr l0 1) 6148914691236517205)) 3689348814741910323) + (zland (zlushr (l0 - (zland (zlushr l0 1) 6148914691236517205)) 2) 3689348814741910323)) 4)) 1085102592571150095) + (zlushr (zland (((zland (l0 - (zland (zlushr l0 1) 6148914691236517205)) 3689348814741910323) + (zland (zlushr (l0 - (zland (zlushr l0 1) 6148914691236517205)) 2) 3689348814741910323)) + (zlushr ((zland (l0 - (zland (zlushr l0 1) 6148914691236517205)) 3689348814741910323) + (zland (zlushr (l0 - (zland (zlushr l0 1) 6148914691236517205)) 2) 3689348814741910323)) 4)) 1085102592571150095) 8)) 16)) 32)) 127, F, B) else none
set_option maxHeartbeats 4000000 in
set_option maxRecDepth 100000 in
theorem c_Long_bitCount {l : Launch} {D : va_G} {ca : Nat → ClassId} {ad : Nat → Int → Nat → Nat} {L : List Nat} {aS vS : Nat → Nat} {sz : Nat} {K : zK}  {l0 : Int} {F F9 : zF} {B B9 : zB} {r : Int} (hf : f_Long_bitCount K l0 F B = some (r, F9, B9)) : Met l ({ cls := "java/lang/Long", name := "bitCount", desc := "(J)I" } : Jvm.MethodName) (Cond.code ({ cls := "java/lang/Long", name := "bitCount", desc := "(J)I" } : Jvm.MethodName) prog_19_method_50_code 2 (Option.some Jvm.ClassFile.FieldType.int) :: wAll) ({ frames := 0, cells := 0, slots := 0, locals := 0 } : Room) (va_Pc [.long (lI l0)] (zPre D ca ad lnC K.2 L aS vS F B sz)) (Q_Long_bitCount K D ca ad L r F9 B9 (zA L sz)) 0 0 (zA L sz) := by
  refine zMet (Qc := Q_Long_bitCount K D ca ad L r F9 B9) (lv := [(0, .long (lI l0))]) (by decide) (Nat.le_of_ble_eq_true rfl) rfl (fun A p e s m below meth c ls X hZ hS hl => ?_)
  obtain ⟨hx, hb, hr, hml, hown, hts, hlk, hK, hA, hL, hX⟩ := id X
  replace hf : (if r32 ((((zland (((zland (l0 - (zland (zlushr l0 1) 6148914691236517205)) 3689348814741910323) + (zland (zlushr (l0 - (zland (zlushr l0 1) 6148914691236517205)) 2) 3689348814741910323)) + (zlushr ((zland (l0 - (zland (zlushr l0 1) 6148914691236517205)) 3689348814741910323) + (zland (zlushr (l0 - (zland (zlushr l0 1) 6148914691236517205)) 2) 3689348814741910323)) 4)) 1085102592571150095) + (zlushr (zland (((zland (l0 - (zland (zlushr l0 1) 6148914691236517205)) 3689348814741910323) + (zland (zlushr (l0 - (zland (zlushr l0 1) 6148914691236517205)) 2) 3689348814741910323)) + (zlushr ((zland (l0 - (zland (zlushr l0 1) 6148914691236517205)) 3689348814741910323) + (zland (zlushr (l0 - (zland (zlushr l0 1) 6148914691236517205)) 2) 3689348814741910323)) 4)) 1085102592571150095) 8)) + (zlushr ((zland (((zland (l0 - (zland (zlushr l0 1) 6148914691236517205)) 3689348814741910323) + (zland (zlushr (l0 - (zland (zlushr l0 1) 6148914691236517205)) 2) 3689348814741910323)) + (zlushr ((zland (l0 - (zland (zlushr l0 1) 6148914691236517205)) 3689348814741910323) + (zland (zlushr (l0 - (zland (zlushr l0 1) 6148914691236517205)) 2) 3689348814741910323)) 4)) 1085102592571150095) + (zlushr (zland (((zland (l0 - (zland (zlushr l0 1) 6148914691236517205)) 3689348814741910323) + (zland (zlushr (l0 - (zland (zlushr l0 1) 6148914691236517205)) 2) 3689348814741910323)) + (zlushr ((zland (l0 - (zland (zlushr l0 1) 6148914691236517205)) 3689348814741910323) + (zland (zlushr (l0 - (zland (zlushr l0 1) 6148914691236517205)) 2) 3689348814741910323)) 4)) 1085102592571150095) 8)) 16)) + (zlushr (((zland (((zland (l0 - (zland (zlushr l0 1) 6148914691236517205)) 3689348814741910323) + (zland (zlushr (l0 - (zland (zlushr l0 1) 6148914691236517205)) 2) 3689348814741910323)) + (zlushr ((zland (l0 - (zland (zlushr l0 1) 6148914691236517205)) 3689348814741910323) + (zland (zlushr (l0 - (zland (zlushr l0 1) 6148914691236517205)) 2) 3689348814741910323)) 4)) 1085102592571150095) + (zlushr (zland (((zland (l0 - (zland (zlushr l0 1) 6148914691236517205)) 3689348814741910323) + (zland (zlushr (l0 - (zland (zlushr l0 1) 6148914691236517205)) 2) 3689348814741910323)) + (zlushr ((zland (l0 - (zland (zlushr l0 1) 6148914691236517205)) 3689348814741910323) + (zland (zlushr (l0 - (zland (zlushr l0 1) 6148914691236517205)) 2) 3689348814741910323)) 4)) 1085102592571150095) 8)) + (zlushr ((zland (((zland (l0 - (zland (zlushr l0 1) 6148914691236517205)) 3689348814741910323) + (zland (zlushr (l0 - (zland (zlushr l0 1) 6148914691236517205)) 2) 3689348814741910323)) + (zlushr ((zland (l0 - (zland (zlushr l0 1) 6148914691236517205)) 3689348814741910323) + (zland (zlushr (l0 - (zland (zlushr l0 1) 6148914691236517205)) 2) 3689348814741910323)) 4)) 1085102592571150095) + (zlushr (zland (((zland (l0 - (zland (zlushr l0 1) 6148914691236517205)) 3689348814741910323) + (zland (zlushr (l0 - (zland (zlushr l0 1) 6148914691236517205)) 2) 3689348814741910323)) + (zlushr ((zland (l0 - (zland (zlushr l0 1) 6148914691236517205)) 3689348814741910323) + (zland (zlushr (l0 - (zland (zlushr l0 1) 6148914691236517205)) 2) 3689348814741910323)) 4)) 1085102592571150095) 8)) 16)) 32)) then some (zand ((((zland (((zland (l0 - (zland (zlushr l0 1) 6148914691236517205)) 3689348814741910323) + (zland (zlushr (l0 - (zland (zlushr l0 1) 6148914691236517205)) 2) 3689348814741910323)) + (zlushr ((zland (l0 - (zland (zlushr l0 1) 6148914691236517205)) 3689348814741910323) + (zland (zlushr (l0 - (zland (zlushr l0 1) 6148914691236517205)) 2) 3689348814741910323)) 4)) 1085102592571150095) + (zlushr (zland (((zland (l0 - (zland (zlushr l0 1) 6148914691236517205)) 3689348814741910323) + (zland (zlushr (l0 - (zland (zlushr l0 1) 6148914691236517205)) 2) 3689348814741910323)) + (zlushr ((zland (l0 - (zland (zlushr l0 1) 6148914691236517205)) 3689348814741910323) + (zland (zlushr (l0 - (zland (zlushr l0 1) 6148914691236517205)) 2) 3689348814741910323)) 4)) 1085102592571150095) 8)) + (zlushr ((zland (((zland (l0 - (zland (zlushr l0 1) 6148914691236517205)) 3689348814741910323) + (zland (zlushr (l0 - (zland (zlushr l0 1) 6148914691236517205)) 2) 3689348814741910323)) + (zlushr ((zland (l0 - (zland (zlushr l0 1) 6148914691236517205)) 3689348814741910323) + (zland (zlushr (l0 - (zland (zlushr l0 1) 6148914691236517205)) 2) 3689348814741910323)) 4)) 1085102592571150095) + (zlushr (zland (((zland (l0 - (zland (zlushr l0 1) 6148914691236517205)) 3689348814741910323) + (zland (zlushr (l0 - (zland (zlushr l0 1) 6148914691236517205)) 2) 3689348814741910323)) + (zlushr ((zland (l0 - (zland (zlushr l0 1) 6148914691236517205)) 3689348814741910323) + (zland (zlushr (l0 - (zland (zlushr l0 1) 6148914691236517205)) 2) 3689348814741910323)) 4)) 1085102592571150095) 8)) 16)) + (zlushr (((zland (((zland (l0 - (zland (zlushr l0 1) 6148914691236517205)) 3689348814741910323) + (zland (zlushr (l0 - (zland (zlushr l0 1) 6148914691236517205)) 2) 3689348814741910323)) + (zlushr ((zland (l0 - (zland (zlushr l0 1) 6148914691236517205)) 3689348814741910323) + (zland (zlushr (l0 - (zland (zlushr l0 1) 6148914691236517205)) 2) 3689348814741910323)) 4)) 1085102592571150095) + (zlushr (zland (((zland (l0 - (zland (zlushr l0 1) 6148914691236517205)) 3689348814741910323) + (zland (zlushr (l0 - (zland (zlushr l0 1) 6148914691236517205)) 2) 3689348814741910323)) + (zlushr ((zland (l0 - (zland (zlushr l0 1) 6148914691236517205)) 3689348814741910323) + (zland (zlushr (l0 - (zland (zlushr l0 1) 6148914691236517205)) 2) 3689348814741910323)) 4)) 1085102592571150095) 8)) + (zlushr ((zland (((zland (l0 - (zland (zlushr l0 1) 6148914691236517205)) 3689348814741910323) + (zland (zlushr (l0 - (zland (zlushr l0 1) 6148914691236517205)) 2) 3689348814741910323)) + (zlushr ((zland (l0 - (zland (zlushr l0 1) 6148914691236517205)) 3689348814741910323) + (zland (zlushr (l0 - (zland (zlushr l0 1) 6148914691236517205)) 2) 3689348814741910323)) 4)) 1085102592571150095) + (zlushr (zland (((zland (l0 - (zland (zlushr l0 1) 6148914691236517205)) 3689348814741910323) + (zland (zlushr (l0 - (zland (zlushr l0 1) 6148914691236517205)) 2) 3689348814741910323)) + (zlushr ((zland (l0 - (zland (zlushr l0 1) 6148914691236517205)) 3689348814741910323) + (zland (zlushr (l0 - (zland (zlushr l0 1) 6148914691236517205)) 2) 3689348814741910323)) 4)) 1085102592571150095) 8)) 16)) 32)) 127, F, B) else none) = some (r, F9, B9) := hf
  refine lv_lload_n hx hb d_19_50_0 rfl (lv_at hl 0 rfl) ?_
  refine lv_lload_n hx hb d_19_50_1 rfl (lv_at hl 0 rfl) ?_
  refine lv_iconst (v := iI 1) hx hb d_19_50_2 rfl ?_
  refine zlushr_r hx hb d_19_50_3 ?_
  refine lv_ldc2 hx hb hown (hts _ k_4_16) d_19_50_4 ?_
  refine W.eq (g2 := F0 m 7 ls [.long (lI 6148914691236517205), .long (lI (zlushr l0 1)), .long (lI l0)]) rfl ?_
  refine zland_r hx hb d_19_50_7 ?_
  refine zlsub hx hb d_19_50_8 ?_
  refine lv_lstore_n (lv' := [(0, .long (lI (l0 - (zland (zlushr l0 1) 6148914691236517205))))]) hx hb d_19_50_9 rfl hl (by decide) rfl (fun ls hl => ?_)
  refine lv_lload_n hx hb d_19_50_10 rfl (lv_at hl 0 rfl) ?_
  refine lv_ldc2 hx hb hown (hts _ k_4_17) d_19_50_11 ?_
  refine W.eq (g2 := F0 m 14 ls [.long (lI 3689348814741910323), .long (lI (l0 - (zland (zlushr l0 1) 6148914691236517205)))]) rfl ?_
  refine zland_r hx hb d_19_50_14 ?_
  refine lv_lload_n hx hb d_19_50_15 rfl (lv_at hl 0 rfl) ?_
  refine lv_iconst (v := iI 2) hx hb d_19_50_16 rfl ?_
  refine zlushr_r hx hb d_19_50_17 ?_
  refine lv_ldc2 hx hb hown (hts _ k_4_17) d_19_50_18 ?_
  refine W.eq (g2 := F0 m 21 ls [.long (lI 3689348814741910323), .long (lI (zlushr (l0 - (zland (zlushr l0 1) 6148914691236517205)) 2)), .long (lI (zland (l0 - (zland (zlushr l0 1) 6148914691236517205)) 3689348814741910323))]) rfl ?_
  refine zland_r hx hb d_19_50_21 ?_
  refine zladd hx hb d_19_50_22 ?_
  refine lv_lstore_n (lv' := [(0, .long (lI ((zland (l0 - (zland (zlushr l0 1) 6148914691236517205)) 3689348814741910323) + (zland (zlushr (l0 - (zland (zlushr l0 1) 6148914691236517205)) 2) 3689348814741910323))))]) hx hb d_19_50_23 rfl hl (by decide) rfl (fun ls hl => ?_)
  refine lv_lload_n hx hb d_19_50_24 rfl (lv_at hl 0 rfl) ?_
  refine lv_lload_n hx hb d_19_50_25 rfl (lv_at hl 0 rfl) ?_
  refine lv_iconst (v := iI 4) hx hb d_19_50_26 rfl ?_
  refine zlushr_r hx hb d_19_50_27 ?_
  refine zladd hx hb d_19_50_28 ?_
  refine lv_ldc2 hx hb hown (hts _ k_4_18) d_19_50_29 ?_
  refine W.eq (g2 := F0 m 32 ls [.long (lI 1085102592571150095), .long (lI (((zland (l0 - (zland (zlushr l0 1) 6148914691236517205)) 3689348814741910323) + (zland (zlushr (l0 - (zland (zlushr l0 1) 6148914691236517205)) 2) 3689348814741910323)) + (zlushr ((zland (l0 - (zland (zlushr l0 1) 6148914691236517205)) 3689348814741910323) + (zland (zlushr (l0 - (zland (zlushr l0 1) 6148914691236517205)) 2) 3689348814741910323)) 4)))]) rfl ?_
  refine zland_r hx hb d_19_50_32 ?_
  refine lv_lstore_n (lv' := [(0, .long (lI (zland (((zland (l0 - (zland (zlushr l0 1) 6148914691236517205)) 3689348814741910323) + (zland (zlushr (l0 - (zland (zlushr l0 1) 6148914691236517205)) 2) 3689348814741910323)) + (zlushr ((zland (l0 - (zland (zlushr l0 1) 6148914691236517205)) 3689348814741910323) + (zland (zlushr (l0 - (zland (zlushr l0 1) 6148914691236517205)) 2) 3689348814741910323)) 4)) 1085102592571150095)))]) hx hb d_19_50_33 rfl hl (by decide) rfl (fun ls hl => ?_)
  refine lv_lload_n hx hb d_19_50_34 rfl (lv_at hl 0 rfl) ?_
  refine lv_lload_n hx hb d_19_50_35 rfl (lv_at hl 0 rfl) ?_
  refine lv_bipush (v := iI 8) hx hb d_19_50_36 (by decide) ?_
  refine zlushr_r hx hb d_19_50_38 ?_
  refine zladd hx hb d_19_50_39 ?_
  refine lv_lstore_n (lv' := [(0, .long (lI ((zland (((zland (l0 - (zland (zlushr l0 1) 6148914691236517205)) 3689348814741910323) + (zland (zlushr (l0 - (zland (zlushr l0 1) 6148914691236517205)) 2) 3689348814741910323)) + (zlushr ((zland (l0 - (zland (zlushr l0 1) 6148914691236517205)) 3689348814741910323) + (zland (zlushr (l0 - (zland (zlushr l0 1) 6148914691236517205)) 2) 3689348814741910323)) 4)) 1085102592571150095) + (zlushr (zland (((zland (l0 - (zland (zlushr l0 1) 6148914691236517205)) 3689348814741910323) + (zland (zlushr (l0 - (zland (zlushr l0 1) 6148914691236517205)) 2) 3689348814741910323)) + (zlushr ((zland (l0 - (zland (zlushr l0 1) 6148914691236517205)) 3689348814741910323) + (zland (zlushr (l0 - (zland (zlushr l0 1) 6148914691236517205)) 2) 3689348814741910323)) 4)) 1085102592571150095) 8))))]) hx hb d_19_50_40 rfl hl (by decide) rfl (fun ls hl => ?_)
  refine lv_lload_n hx hb d_19_50_41 rfl (lv_at hl 0 rfl) ?_
  refine lv_lload_n hx hb d_19_50_42 rfl (lv_at hl 0 rfl) ?_
  refine lv_bipush (v := iI 16) hx hb d_19_50_43 (by decide) ?_
  refine zlushr_r hx hb d_19_50_45 ?_
  refine zladd hx hb d_19_50_46 ?_
  refine lv_lstore_n (lv' := [(0, .long (lI (((zland (((zland (l0 - (zland (zlushr l0 1) 6148914691236517205)) 3689348814741910323) + (zland (zlushr (l0 - (zland (zlushr l0 1) 6148914691236517205)) 2) 3689348814741910323)) + (zlushr ((zland (l0 - (zland (zlushr l0 1) 6148914691236517205)) 3689348814741910323) + (zland (zlushr (l0 - (zland (zlushr l0 1) 6148914691236517205)) 2) 3689348814741910323)) 4)) 1085102592571150095) + (zlushr (zland (((zland (l0 - (zland (zlushr l0 1) 6148914691236517205)) 3689348814741910323) + (zland (zlushr (l0 - (zland (zlushr l0 1) 6148914691236517205)) 2) 3689348814741910323)) + (zlushr ((zland (l0 - (zland (zlushr l0 1) 6148914691236517205)) 3689348814741910323) + (zland (zlushr (l0 - (zland (zlushr l0 1) 6148914691236517205)) 2) 3689348814741910323)) 4)) 1085102592571150095) 8)) + (zlushr ((zland (((zland (l0 - (zland (zlushr l0 1) 6148914691236517205)) 3689348814741910323) + (zland (zlushr (l0 - (zland (zlushr l0 1) 6148914691236517205)) 2) 3689348814741910323)) + (zlushr ((zland (l0 - (zland (zlushr l0 1) 6148914691236517205)) 3689348814741910323) + (zland (zlushr (l0 - (zland (zlushr l0 1) 6148914691236517205)) 2) 3689348814741910323)) 4)) 1085102592571150095) + (zlushr (zland (((zland (l0 - (zland (zlushr l0 1) 6148914691236517205)) 3689348814741910323) + (zland (zlushr (l0 - (zland (zlushr l0 1) 6148914691236517205)) 2) 3689348814741910323)) + (zlushr ((zland (l0 - (zland (zlushr l0 1) 6148914691236517205)) 3689348814741910323) + (zland (zlushr (l0 - (zland (zlushr l0 1) 6148914691236517205)) 2) 3689348814741910323)) 4)) 1085102592571150095) 8)) 16))))]) hx hb d_19_50_47 rfl hl (by decide) rfl (fun ls hl => ?_)
  refine lv_lload_n hx hb d_19_50_48 rfl (lv_at hl 0 rfl) ?_
  refine lv_lload_n hx hb d_19_50_49 rfl (lv_at hl 0 rfl) ?_
  refine lv_bipush (v := iI 32) hx hb d_19_50_50 (by decide) ?_
  refine zlushr_r hx hb d_19_50_52 ?_
  refine zladd hx hb d_19_50_53 ?_
  refine lv_lstore_n (lv' := [(0, .long (lI ((((zland (((zland (l0 - (zland (zlushr l0 1) 6148914691236517205)) 3689348814741910323) + (zland (zlushr (l0 - (zland (zlushr l0 1) 6148914691236517205)) 2) 3689348814741910323)) + (zlushr ((zland (l0 - (zland (zlushr l0 1) 6148914691236517205)) 3689348814741910323) + (zland (zlushr (l0 - (zland (zlushr l0 1) 6148914691236517205)) 2) 3689348814741910323)) 4)) 1085102592571150095) + (zlushr (zland (((zland (l0 - (zland (zlushr l0 1) 6148914691236517205)) 3689348814741910323) + (zland (zlushr (l0 - (zland (zlushr l0 1) 6148914691236517205)) 2) 3689348814741910323)) + (zlushr ((zland (l0 - (zland (zlushr l0 1) 6148914691236517205)) 3689348814741910323) + (zland (zlushr (l0 - (zland (zlushr l0 1) 6148914691236517205)) 2) 3689348814741910323)) 4)) 1085102592571150095) 8)) + (zlushr ((zland (((zland (l0 - (zland (zlushr l0 1) 6148914691236517205)) 3689348814741910323) + (zland (zlushr (l0 - (zland (zlushr l0 1) 6148914691236517205)) 2) 3689348814741910323)) + (zlushr ((zland (l0 - (zland (zlushr l0 1) 6148914691236517205)) 3689348814741910323) + (zland (zlushr (l0 - (zland (zlushr l0 1) 6148914691236517205)) 2) 3689348814741910323)) 4)) 1085102592571150095) + (zlushr (zland (((zland (l0 - (zland (zlushr l0 1) 6148914691236517205)) 3689348814741910323) + (zland (zlushr (l0 - (zland (zlushr l0 1) 6148914691236517205)) 2) 3689348814741910323)) + (zlushr ((zland (l0 - (zland (zlushr l0 1) 6148914691236517205)) 3689348814741910323) + (zland (zlushr (l0 - (zland (zlushr l0 1) 6148914691236517205)) 2) 3689348814741910323)) 4)) 1085102592571150095) 8)) 16)) + (zlushr (((zland (((zland (l0 - (zland (zlushr l0 1) 6148914691236517205)) 3689348814741910323) + (zland (zlushr (l0 - (zland (zlushr l0 1) 6148914691236517205)) 2) 3689348814741910323)) + (zlushr ((zland (l0 - (zland (zlushr l0 1) 6148914691236517205)) 3689348814741910323) + (zland (zlushr (l0 - (zland (zlushr l0 1) 6148914691236517205)) 2) 3689348814741910323)) 4)) 1085102592571150095) + (zlushr (zland (((zland (l0 - (zland (zlushr l0 1) 6148914691236517205)) 3689348814741910323) + (zland (zlushr (l0 - (zland (zlushr l0 1) 6148914691236517205)) 2) 3689348814741910323)) + (zlushr ((zland (l0 - (zland (zlushr l0 1) 6148914691236517205)) 3689348814741910323) + (zland (zlushr (l0 - (zland (zlushr l0 1) 6148914691236517205)) 2) 3689348814741910323)) 4)) 1085102592571150095) 8)) + (zlushr ((zland (((zland (l0 - (zland (zlushr l0 1) 6148914691236517205)) 3689348814741910323) + (zland (zlushr (l0 - (zland (zlushr l0 1) 6148914691236517205)) 2) 3689348814741910323)) + (zlushr ((zland (l0 - (zland (zlushr l0 1) 6148914691236517205)) 3689348814741910323) + (zland (zlushr (l0 - (zland (zlushr l0 1) 6148914691236517205)) 2) 3689348814741910323)) 4)) 1085102592571150095) + (zlushr (zland (((zland (l0 - (zland (zlushr l0 1) 6148914691236517205)) 3689348814741910323) + (zland (zlushr (l0 - (zland (zlushr l0 1) 6148914691236517205)) 2) 3689348814741910323)) + (zlushr ((zland (l0 - (zland (zlushr l0 1) 6148914691236517205)) 3689348814741910323) + (zland (zlushr (l0 - (zland (zlushr l0 1) 6148914691236517205)) 2) 3689348814741910323)) 4)) 1085102592571150095) 8)) 16)) 32))))]) hx hb d_19_50_54 rfl hl (by decide) rfl (fun ls hl => ?_)
  refine lv_lload_n hx hb d_19_50_55 rfl (lv_at hl 0 rfl) ?_
  obtain ⟨g1, hf⟩ := gif hf
  refine zl2i hx hb g1 d_19_50_56 ?_
  refine lv_bipush (v := iI 127) hx hb d_19_50_57 (by decide) ?_
  refine zand_r hx hb d_19_50_59 ?_
  cases hf
  exact W.iret hx hb hr (fun t ht hW => ⟨⟨_, (), rfl, rfl, by rw [ht]; exact hZ, va_K.moved hW.alike hK⟩, hS.F ht⟩) hS.2.2 d_19_50_60 hlk

abbrev Q_Math_floorDiv (K : zK) (D : va_G) (ca : Nat → ClassId) (ad : Nat → Int → Nat → Nat) (L : List Nat) (r : Int) (F : zF) (B : zB) (A : Nat → Prop) : Array Value → State → Outcome → State → Prop := va_Qi (S := Unit) (fun p _ => p = iI r) (fun _ => zPo D ca ad lnC K.2 L F B A) A
def f_Math_floorDiv_21 (K : zK) (l2 : Int) (F : zF) (B : zB) : zO := some (l2, F, B)
set_option maxHeartbeats 4000000 in
set_option maxRecDepth 100000 in
theorem b_Math_floorDiv_21 {D : va_G} {ca : Nat → ClassId} {ad : Nat → Int → Nat → Nat} {L : List Nat} {aS vS : Nat → Nat} {A : Nat → Prop} {p : Program} {l : Launch} {e : Env} {s : State} {m : MethodId} {args : Array Value} {below : List Frame} {meth : Method} {c : Code} {K : zK} {r : Int} {F9 : zF} {B9 : zB} (X : zX D ca L aS vS A p s m args meth c prog_20_method_47_code 3 (Option.some Jvm.ClassFile.FieldType.int) "java/lang/Math") {l2 : Int} {F : zF} {B : zB} {H : Heap} {locs : List Loc} {ls : Array Slot} (hf : f_Math_floorDiv_21 K l2 F B = some (r, F9, B9)) (hZ : zH D ca ad lnC K.2 L F B A H) (hS : va_S A s.heap H locs) (hl : lv_has ls 3 [(2, .int (iI l2))]) : W p l e ({ frames := 0, cells := 0, slots := 0, locals := 0 } : Room) s m args below meth c H locs 0 0 (MQ below (Q_Math_floorDiv K D ca ad L r F9 B9 A) args s 0 0 A) (F0 m 21 ls []) := by
  obtain ⟨hx, hb, hr, hml, hown, hts, hlk, hK, hA, hL, hX⟩ := id X
  replace hf : (some (l2, F, B)) = some (r, F9, B9) := hf
  refine lv_iload_n hx hb d_20_47_21 rfl (lv_at hl 0 rfl) ?_
  cases hf
  exact W.iret hx hb hr (fun t ht hW => ⟨⟨_, (), rfl, rfl, by rw [ht]; exact hZ, va_K.moved hW.alike hK⟩, hS.F ht⟩) hS.2.2 d_20_47_22 hlk

def f_Math_floorDiv (K : zK) (l0 : Int) (l1 : Int) (F : zF) (B : zB) : zO := if ¬ iI l1 = 0 then if r32 (zxor l0 l1) then (if 0 ≤ (zxor l0 l1) then f_Math_floorDiv_21 K (zdv l0 l1) F B else if r32 ((zdv l0 l1) * l1) then if r32 l0 then (if ((zdv l0 l1) * l1) = l0 then f_Math_floorDiv_21 K (zdv l0 l1) F B else some ((zdv l0 l1) - 1, F, B)) else none else none) else none else none
set_option maxHeartbeats 4000000 in
set_option maxRecDepth 100000 in
theorem c_Math_floorDiv {l : Launch} {D : va_G} {ca : Nat → ClassId} {ad : Nat → Int → Nat → Nat} {L : List Nat} {aS vS : Nat → Nat} {sz : Nat} {K : zK}  {l0 : Int} {l1 : Int} {F F9 : zF} {B B9 : zB} {r : Int} (hf : f_Math_floorDiv K l0 l1 F B = some (r, F9, B9)) : Met l ({ cls := "java/lang/Math", name := "floorDiv", desc := "(II)I" } : Jvm.MethodName) (Cond.code ({ cls := "java/lang/Math", name := "floorDiv", desc := "(II)I" } : Jvm.MethodName) prog_20_method_47_code 3 (Option.some Jvm.ClassFile.FieldType.int) :: wAll) ({ frames := 0, cells := 0, slots := 0, locals := 0 } : Room) (va_Pc [.int (iI l0), .int (iI l1)] (zPre D ca ad lnC K.2 L aS vS F B sz)) (Q_Math_floorDiv K D ca ad L r F9 B9 (zA L sz)) 0 0 (zA L sz) := by
  refine zMetF (Qc := Q_Math_floorDiv K D ca ad L r F9 B9) (lv := [(0, .int (iI l0)), (1, .int (iI l1))]) (by decide +kernel) (Nat.le_of_ble_eq_true rfl) rfl (fun A p e s m below meth c ls X hZ hS hl => ?_)
  obtain ⟨hx, hb, hr, hml, hown, hts, hlk, hK, hA, hL, hX⟩ := id X
  replace hf : (if ¬ iI l1 = 0 then if r32 (zxor l0 l1) then (if 0 ≤ (zxor l0 l1) then f_Math_floorDiv_21 K (zdv l0 l1) F B else if r32 ((zdv l0 l1) * l1) then if r32 l0 then (if ((zdv l0 l1) * l1) = l0 then f_Math_floorDiv_21 K (zdv l0 l1) F B else some ((zdv l0 l1) - 1, F, B)) else none else none) else none else none) = some (r, F9, B9) := hf
  refine lv_iload_n hx hb d_20_47_0 rfl (lv_at hl 0 rfl) ?_
  refine lv_iload_n hx hb d_20_47_1 rfl (lv_at hl 1 rfl) ?_
  obtain ⟨g1, hf⟩ := gif hf
  refine zdv_r hx hb g1 d_20_47_2 ?_
  refine lv_istore_n (lv' := [(2, .int (iI (zdv l0 l1))), (0, .int (iI l0)), (1, .int (iI l1))]) hx hb d_20_47_3 rfl hl (by decide) rfl (fun ls hl => ?_)
  refine lv_iload_n hx hb d_20_47_4 rfl (lv_at hl 1 rfl) ?_
  refine lv_iload_n hx hb d_20_47_5 rfl (lv_at hl 2 rfl) ?_
  refine zxor_r hx hb d_20_47_6 ?_
  obtain ⟨g2, hf⟩ := gif hf
  refine z0ge (tgt := 21) hx hb g2 d_20_47_7 (by decide) (fun h3 => ?_) (fun h3 => ?_)
  · replace hf := gpos hf h3
    exact b_Math_floorDiv_21 X hf hZ hS (lv_sub hl [0] rfl)
  · replace hf := gneg hf h3
    refine lv_iload_n hx hb d_20_47_10 rfl (lv_at hl 0 rfl) ?_
    refine lv_iload_n hx hb d_20_47_11 rfl (lv_at hl 2 rfl) ?_
    refine zmul hx hb d_20_47_12 ?_
    refine lv_iload_n hx hb d_20_47_13 rfl (lv_at hl 1 rfl) ?_
    obtain ⟨g4, hf⟩ := gif hf
    obtain ⟨g5, hf⟩ := gif hf
    refine zeq (tgt := 21) hx hb g4 g5 d_20_47_14 (by decide) (fun h6 => ?_) (fun h6 => ?_)
    · replace hf := gpos hf h6
      exact b_Math_floorDiv_21 X hf hZ hS (lv_sub hl [0] rfl)
    · replace hf := gneg hf h6
      refine lv_iload_n hx hb d_20_47_17 rfl (lv_at hl 0 rfl) ?_
      refine lv_iconst (v := iI 1) hx hb d_20_47_18 rfl ?_
      refine zsub hx hb d_20_47_19 ?_
      cases hf
      exact W.iret hx hb hr (fun t ht hW => ⟨⟨_, (), rfl, rfl, by rw [ht]; exact hZ, va_K.moved hW.alike hK⟩, hS.F ht⟩) hS.2.2 d_20_47_20 hlk

abbrev Q_Math_floorMod (K : zK) (D : va_G) (ca : Nat → ClassId) (ad : Nat → Int → Nat → Nat) (L : List Nat) (r : Int) (F : zF) (B : zB) (A : Nat → Prop) : Array Value → State → Outcome → State → Prop := va_Qi (S := Unit) (fun p _ => p = iI r) (fun _ => zPo D ca ad lnC K.2 L F B A) A
def f_Math_floorMod_18 (K : zK) (l2 : Int) (F : zF) (B : zB) : zO := some (l2, F, B)
set_option maxHeartbeats 4000000 in
set_option maxRecDepth 100000 in
theorem b_Math_floorMod_18 {D : va_G} {ca : Nat → ClassId} {ad : Nat → Int → Nat → Nat} {L : List Nat} {aS vS : Nat → Nat} {A : Nat → Prop} {p : Program} {l : Launch} {e : Env} {s : State} {m : MethodId} {args : Array Value} {below : List Frame} {meth : Method} {c : Code} {K : zK} {r : Int} {F9 : zF} {B9 : zB} (X : zX D ca L aS vS A p s m args meth c prog_20_method_50_code 3 (Option.some Jvm.ClassFile.FieldType.int) "java/lang/Math") {l2 : Int} {F : zF} {B : zB} {H : Heap} {locs : List Loc} {ls : Array Slot} (hf : f_Math_floorMod_18 K l2 F B = some (r, F9, B9)) (hZ : zH D ca ad lnC K.2 L F B A H) (hS : va_S A s.heap H locs) (hl : lv_has ls 3 [(2, .int (iI l2))]) : W p l e ({ frames := 0, cells := 0, slots := 0, locals := 0 } : Room) s m args below meth c H locs 0 0 (MQ below (Q_Math_floorMod K D ca ad L r F9 B9 A) args s 0 0 A) (F0 m 18 ls []) := by
  obtain ⟨hx, hb, hr, hml, hown, hts, hlk, hK, hA, hL, hX⟩ := id X
  replace hf : (some (l2, F, B)) = some (r, F9, B9) := hf
  refine lv_iload_n hx hb d_20_50_18 rfl (lv_at hl 0 rfl) ?_
  cases hf
  exact W.iret hx hb hr (fun t ht hW => ⟨⟨_, (), rfl, rfl, by rw [ht]; exact hZ, va_K.moved hW.alike hK⟩, hS.F ht⟩) hS.2.2 d_20_50_19 hlk

def f_Math_floorMod (K : zK) (l0 : Int) (l1 : Int) (F : zF) (B : zB) : zO := if ¬ iI l1 = 0 then if r32 (zxor l0 l1) then (if 0 ≤ (zxor l0 l1) then f_Math_floorMod_18 K (zrm l0 l1) F B else if r32 (zrm l0 l1) then (if (zrm l0 l1) = 0 then f_Math_floorMod_18 K (zrm l0 l1) F B else some ((zrm l0 l1) + l1, F, B)) else none) else none else none
set_option maxHeartbeats 4000000 in
set_option maxRecDepth 100000 in
theorem c_Math_floorMod {l : Launch} {D : va_G} {ca : Nat → ClassId} {ad : Nat → Int → Nat → Nat} {L : List Nat} {aS vS : Nat → Nat} {sz : Nat} {K : zK}  {l0 : Int} {l1 : Int} {F F9 : zF} {B B9 : zB} {r : Int} (hf : f_Math_floorMod K l0 l1 F B = some (r, F9, B9)) : Met l ({ cls := "java/lang/Math", name := "floorMod", desc := "(II)I" } : Jvm.MethodName) (Cond.code ({ cls := "java/lang/Math", name := "floorMod", desc := "(II)I" } : Jvm.MethodName) prog_20_method_50_code 3 (Option.some Jvm.ClassFile.FieldType.int) :: wAll) ({ frames := 0, cells := 0, slots := 0, locals := 0 } : Room) (va_Pc [.int (iI l0), .int (iI l1)] (zPre D ca ad lnC K.2 L aS vS F B sz)) (Q_Math_floorMod K D ca ad L r F9 B9 (zA L sz)) 0 0 (zA L sz) := by
  refine zMetF (Qc := Q_Math_floorMod K D ca ad L r F9 B9) (lv := [(0, .int (iI l0)), (1, .int (iI l1))]) (by decide +kernel) (Nat.le_of_ble_eq_true rfl) rfl (fun A p e s m below meth c ls X hZ hS hl => ?_)
  obtain ⟨hx, hb, hr, hml, hown, hts, hlk, hK, hA, hL, hX⟩ := id X
  replace hf : (if ¬ iI l1 = 0 then if r32 (zxor l0 l1) then (if 0 ≤ (zxor l0 l1) then f_Math_floorMod_18 K (zrm l0 l1) F B else if r32 (zrm l0 l1) then (if (zrm l0 l1) = 0 then f_Math_floorMod_18 K (zrm l0 l1) F B else some ((zrm l0 l1) + l1, F, B)) else none) else none else none) = some (r, F9, B9) := hf
  refine lv_iload_n hx hb d_20_50_0 rfl (lv_at hl 0 rfl) ?_
  refine lv_iload_n hx hb d_20_50_1 rfl (lv_at hl 1 rfl) ?_
  obtain ⟨g1, hf⟩ := gif hf
  refine zrm_r hx hb g1 d_20_50_2 ?_
  refine lv_istore_n (lv' := [(2, .int (iI (zrm l0 l1))), (0, .int (iI l0)), (1, .int (iI l1))]) hx hb d_20_50_3 rfl hl (by decide) rfl (fun ls hl => ?_)
  refine lv_iload_n hx hb d_20_50_4 rfl (lv_at hl 1 rfl) ?_
  refine lv_iload_n hx hb d_20_50_5 rfl (lv_at hl 2 rfl) ?_
  refine zxor_r hx hb d_20_50_6 ?_
  obtain ⟨g2, hf⟩ := gif hf
  refine z0ge (tgt := 18) hx hb g2 d_20_50_7 (by decide) (fun h3 => ?_) (fun h3 => ?_)
  · replace hf := gpos hf h3
    exact b_Math_floorMod_18 X hf hZ hS (lv_sub hl [0] rfl)
  · replace hf := gneg hf h3
    refine lv_iload_n hx hb d_20_50_10 rfl (lv_at hl 0 rfl) ?_
    obtain ⟨g4, hf⟩ := gif hf
    refine z0eq (tgt := 18) hx hb g4 d_20_50_11 (by decide) (fun h5 => ?_) (fun h5 => ?_)
    · replace hf := gpos hf h5
      exact b_Math_floorMod_18 X hf hZ hS (lv_sub hl [0] rfl)
    · replace hf := gneg hf h5
      refine lv_iload_n hx hb d_20_50_14 rfl (lv_at hl 0 rfl) ?_
      refine lv_iload_n hx hb d_20_50_15 rfl (lv_at hl 2 rfl) ?_
      refine zadd hx hb d_20_50_16 ?_
      cases hf
      exact W.iret hx hb hr (fun t ht hW => ⟨⟨_, (), rfl, rfl, by rw [ht]; exact hZ, va_K.moved hW.alike hK⟩, hS.F ht⟩) hS.2.2 d_20_50_17 hlk

abbrev Q_S_fineValue (K : zK) (D : va_G) (ca : Nat → ClassId) (ad : Nat → Int → Nat → Nat) (L : List Nat) (r : Int) (F : zF) (B : zB) (A : Nat → Prop) : Array Value → State → Outcome → State → Prop := va_Qi (S := Unit) (fun p _ => p = iI r) (fun _ => zPo D ca ad lnC K.2 L F B A) A
def f_S_fineValue (K : zK) (l0 : Int) (F : zF) (B : zB) : zO := if 0 ≤ (2 - (zrm l0 3)) ∧ (2 - (zrm l0 3)) < ztl 4 then some (zdv ((zshr 512 (zdv l0 3)) * (ztv 4 (2 - (zrm l0 3)))) 4, F, B) else none
set_option maxHeartbeats 4000000 in
set_option maxRecDepth 100000 in
theorem c_S_fineValue {l : Launch} {D : va_G} {ca : Nat → ClassId} {ad : Nat → Int → Nat → Nat} {L : List Nat} {aS vS : Nat → Nat} {sz : Nat} {K : zK}  {l0 : Int} {F F9 : zF} {B B9 : zB} {r : Int} (hf : f_S_fineValue K l0 F B = some (r, F9, B9)) : Met l ({ cls := "StaveHouse", name := "fineValue", desc := "(I)I" } : Jvm.MethodName) (Cond.code ({ cls := "StaveHouse", name := "fineValue", desc := "(I)I" } : Jvm.MethodName) prog_1_method_40_code 1 (Option.some Jvm.ClassFile.FieldType.int) :: wAll) ({ frames := 0, cells := 0, slots := 0, locals := 0 } : Room) (va_Pc [.int (iI l0)] (zPre D ca ad lnC K.2 L aS vS F B sz)) (Q_S_fineValue K D ca ad L r F9 B9 (zA L sz)) 0 0 (zA L sz) := by
  refine zMet (Qc := Q_S_fineValue K D ca ad L r F9 B9) (lv := [(0, .int (iI l0))]) (by decide) (Nat.le_of_ble_eq_true rfl) rfl (fun A p e s m below meth c ls X hZ hS hl => ?_)
  obtain ⟨hx, hb, hr, hml, hown, hts, hlk, hK, hA, hL, hX⟩ := id X
  replace hf : (if 0 ≤ (2 - (zrm l0 3)) ∧ (2 - (zrm l0 3)) < ztl 4 then some (zdv ((zshr 512 (zdv l0 3)) * (ztv 4 (2 - (zrm l0 3)))) 4, F, B) else none) = some (r, F9, B9) := hf
  refine lv_sipush (v := iI 512) hx hb d_1_40_0 (by decide) ?_
  refine lv_iload_n hx hb d_1_40_3 rfl (lv_at hl 0 rfl) ?_
  refine lv_iconst (v := iI 3) hx hb d_1_40_4 rfl ?_
  refine zdv_r hx hb (by decide) d_1_40_5 ?_
  refine zshr_r hx hb d_1_40_6 ?_
  refine va_gets hx hb (hX.2.2.2.2.2.2 4 _ rfl).1 hS hown (hts _ k_5_70) (fun _ h => h) d_1_40_7 ?_
  refine W.eq (g2 := F0 m 10 ls [.ref (vS (1000 + 4)), .int (iI (zshr 512 (zdv l0 3)))]) rfl ?_
  refine lv_iconst (v := iI 2) hx hb d_1_40_10 rfl ?_
  refine lv_iload_n hx hb d_1_40_11 rfl (lv_at hl 0 rfl) ?_
  refine lv_iconst (v := iI 3) hx hb d_1_40_12 rfl ?_
  refine zrm_r hx hb (by decide) d_1_40_13 ?_
  refine zsub hx hb d_1_40_14 ?_
  obtain ⟨g1, hf⟩ := gif hf
  refine va_ti (v := .int (iI (ztv 4 (2 - (zrm l0 3))))) hx hb (ztI hX (by decide) (by decide)) hS (zt_in (by decide) g1) (ztI_v (by decide) g1) d_1_40_15 ?_
  refine zmul hx hb d_1_40_16 ?_
  refine lv_iconst (v := iI 4) hx hb d_1_40_17 rfl ?_
  refine zdv_r hx hb (by decide) d_1_40_18 ?_
  cases hf
  exact W.iret hx hb hr (fun t ht hW => ⟨⟨_, (), rfl, rfl, by rw [ht]; exact hZ, va_K.moved hW.alike hK⟩, hS.F ht⟩) hS.2.2 d_1_40_19 hlk

abbrev Q_S_beatCount (K : zK) (D : va_G) (ca : Nat → ClassId) (ad : Nat → Int → Nat → Nat) (L : List Nat) (r : Int) (F : zF) (B : zB) (A : Nat → Prop) : Array Value → State → Outcome → State → Prop := va_Qi (S := Unit) (fun p _ => p = iI r) (fun _ => zPo D ca ad lnC K.2 L F B A) A
def f_S_beatCount_24 (K : zK) (s0 : Int) (F : zF) (B : zB) : zO := some (s0, F, B)
set_option maxHeartbeats 4000000 in
set_option maxRecDepth 100000 in
theorem b_S_beatCount_24 {D : va_G} {ca : Nat → ClassId} {ad : Nat → Int → Nat → Nat} {L : List Nat} {aS vS : Nat → Nat} {A : Nat → Prop} {p : Program} {l : Launch} {e : Env} {s : State} {m : MethodId} {args : Array Value} {below : List Frame} {meth : Method} {c : Code} {K : zK} {r : Int} {F9 : zF} {B9 : zB} (X : zX D ca L aS vS A p s m args meth c prog_1_method_39_code 2 (Option.some Jvm.ClassFile.FieldType.int) "StaveHouse") {s0 : Int} {F : zF} {B : zB} {H : Heap} {locs : List Loc} {ls : Array Slot} (hf : f_S_beatCount_24 K s0 F B = some (r, F9, B9)) (hZ : zH D ca ad lnC K.2 L F B A H) (hS : va_S A s.heap H locs) (hl : lv_has ls 2 []) : W p l e ({ frames := 0, cells := 0, slots := 0, locals := 0 } : Room) s m args below meth c H locs 0 0 (MQ below (Q_S_beatCount K D ca ad L r F9 B9 A) args s 0 0 A) (F0 m 24 ls [.int (iI s0)]) := by
  obtain ⟨hx, hb, hr, hml, hown, hts, hlk, hK, hA, hL, hX⟩ := id X
  replace hf : (some (s0, F, B)) = some (r, F9, B9) := hf
  cases hf
  exact W.iret hx hb hr (fun t ht hW => ⟨⟨_, (), rfl, rfl, by rw [ht]; exact hZ, va_K.moved hW.alike hK⟩, hS.F ht⟩) hS.2.2 d_1_39_24 hlk

def f_S_beatCount_14 (K : zK) (l1 : Int) (F : zF) (B : zB) : zO := if r32 l1 then (if 4 < l1 then f_S_beatCount_24 K 2 F B else f_S_beatCount_24 K 1 F B) else none
set_option maxHeartbeats 4000000 in
set_option maxRecDepth 100000 in
theorem b_S_beatCount_14 {D : va_G} {ca : Nat → ClassId} {ad : Nat → Int → Nat → Nat} {L : List Nat} {aS vS : Nat → Nat} {A : Nat → Prop} {p : Program} {l : Launch} {e : Env} {s : State} {m : MethodId} {args : Array Value} {below : List Frame} {meth : Method} {c : Code} {K : zK} {r : Int} {F9 : zF} {B9 : zB} (X : zX D ca L aS vS A p s m args meth c prog_1_method_39_code 2 (Option.some Jvm.ClassFile.FieldType.int) "StaveHouse") {l1 : Int} {F : zF} {B : zB} {H : Heap} {locs : List Loc} {ls : Array Slot} (hf : f_S_beatCount_14 K l1 F B = some (r, F9, B9)) (hZ : zH D ca ad lnC K.2 L F B A H) (hS : va_S A s.heap H locs) (hl : lv_has ls 2 [(1, .int (iI l1))]) : W p l e ({ frames := 0, cells := 0, slots := 0, locals := 0 } : Room) s m args below meth c H locs 0 0 (MQ below (Q_S_beatCount K D ca ad L r F9 B9 A) args s 0 0 A) (F0 m 14 ls []) := by
  obtain ⟨hx, hb, hr, hml, hown, hts, hlk, hK, hA, hL, hX⟩ := id X
  replace hf : (if r32 l1 then (if 4 < l1 then f_S_beatCount_24 K 2 F B else f_S_beatCount_24 K 1 F B) else none) = some (r, F9, B9) := hf
  refine lv_iload_n hx hb d_1_39_14 rfl (lv_at hl 0 rfl) ?_
  refine lv_iconst (v := iI 4) hx hb d_1_39_15 rfl ?_
  obtain ⟨g5, hf⟩ := gif hf
  refine zgt (tgt := 23) hx hb g5 (by decide) d_1_39_16 (by decide) (fun h6 => ?_) (fun h6 => ?_)
  · replace hf := gpos hf h6
    refine lv_iconst (v := iI 2) hx hb d_1_39_23 rfl ?_
    exact b_S_beatCount_24 X hf hZ hS (lv_sub hl [] rfl)
  · replace hf := gneg hf h6
    refine lv_iconst (v := iI 1) hx hb d_1_39_19 rfl ?_
    refine lv_goto (tgt := 24) hx hb d_1_39_20 (by decide) ?_
    exact b_S_beatCount_24 X hf hZ hS (lv_sub hl [] rfl)

def f_S_beatCount (K : zK) (l0 : Int) (l1 : Int) (F : zF) (B : zB) : zO := if r32 l1 then (if l1 < 8 then f_S_beatCount_14 K l1 F B else if r32 (zrm l0 3) then (if (zrm l0 3) = 0 then some (3, F, B) else f_S_beatCount_14 K l1 F B) else none) else none
set_option maxHeartbeats 4000000 in
set_option maxRecDepth 100000 in
theorem c_S_beatCount {l : Launch} {D : va_G} {ca : Nat → ClassId} {ad : Nat → Int → Nat → Nat} {L : List Nat} {aS vS : Nat → Nat} {sz : Nat} {K : zK}  {l0 : Int} {l1 : Int} {F F9 : zF} {B B9 : zB} {r : Int} (hf : f_S_beatCount K l0 l1 F B = some (r, F9, B9)) : Met l ({ cls := "StaveHouse", name := "beatCount", desc := "(II)I" } : Jvm.MethodName) (Cond.code ({ cls := "StaveHouse", name := "beatCount", desc := "(II)I" } : Jvm.MethodName) prog_1_method_39_code 2 (Option.some Jvm.ClassFile.FieldType.int) :: wAll) ({ frames := 0, cells := 0, slots := 0, locals := 0 } : Room) (va_Pc [.int (iI l0), .int (iI l1)] (zPre D ca ad lnC K.2 L aS vS F B sz)) (Q_S_beatCount K D ca ad L r F9 B9 (zA L sz)) 0 0 (zA L sz) := by
  refine zMet (Qc := Q_S_beatCount K D ca ad L r F9 B9) (lv := [(0, .int (iI l0)), (1, .int (iI l1))]) (by decide) (Nat.le_of_ble_eq_true rfl) rfl (fun A p e s m below meth c ls X hZ hS hl => ?_)
  obtain ⟨hx, hb, hr, hml, hown, hts, hlk, hK, hA, hL, hX⟩ := id X
  replace hf : (if r32 l1 then (if l1 < 8 then f_S_beatCount_14 K l1 F B else if r32 (zrm l0 3) then (if (zrm l0 3) = 0 then some (3, F, B) else f_S_beatCount_14 K l1 F B) else none) else none) = some (r, F9, B9) := hf
  refine lv_iload_n hx hb d_1_39_0 rfl (lv_at hl 1 rfl) ?_
  refine lv_bipush (v := iI 8) hx hb d_1_39_1 (by decide) ?_
  obtain ⟨g1, hf⟩ := gif hf
  refine zlt (tgt := 14) hx hb g1 (by decide) d_1_39_3 (by decide) (fun h2 => ?_) (fun h2 => ?_)
  · replace hf := gpos hf h2
    exact b_S_beatCount_14 X hf hZ hS (lv_sub hl [1] rfl)
  · replace hf := gneg hf h2
    refine lv_iload_n hx hb d_1_39_6 rfl (lv_at hl 0 rfl) ?_
    refine lv_iconst (v := iI 3) hx hb d_1_39_7 rfl ?_
    refine zrm_r hx hb (by decide) d_1_39_8 ?_
    obtain ⟨g3, hf⟩ := gif hf
    refine z0ne (tgt := 14) hx hb g3 d_1_39_9 (by decide) (fun h4 => ?_) (fun h4 => ?_)
    · replace hf := gneg hf h4
      exact b_S_beatCount_14 X hf hZ hS (lv_sub hl [1] rfl)
    · replace hf := gpos hf h4
      refine lv_iconst (v := iI 3) hx hb d_1_39_12 rfl ?_
      cases hf
      exact W.iret hx hb hr (fun t ht hW => ⟨⟨_, (), rfl, rfl, by rw [ht]; exact hZ, va_K.moved hW.alike hK⟩, hS.F ht⟩) hS.2.2 d_1_39_13 hlk

abbrev Q_S_strength (K : zK) (D : va_G) (ca : Nat → ClassId) (ad : Nat → Int → Nat → Nat) (L : List Nat) (r : Int) (F : zF) (B : zB) (A : Nat → Prop) : Array Value → State → Outcome → State → Prop := va_Qi (S := Unit) (fun p _ => p = iI r) (fun _ => zPo D ca ad lnC K.2 L F B A) A
def f_S_strength_42 (K : zK) : Nat → Int → Int → Int → zF → zB → zO
  | 0, _, _, _, _, _ => none
  | n + 1, l4, l2, l3, F, B => if r32 l4 then (if 5 ≤ l4 then some (1, F, B) else if ¬ iI (zshr l2 l4) = 0 then if r32 (zrm l3 (zshr l2 l4)) then (if (zrm l3 (zshr l2 l4)) = 0 then some (6 - l4, F, B) else f_S_strength_42 K n (l4 + 1) l2 l3 F B) else none else none) else none
set_option maxHeartbeats 4000000 in
set_option maxRecDepth 100000 in
theorem b_S_strength_42 {D : va_G} {ca : Nat → ClassId} {ad : Nat → Int → Nat → Nat} {L : List Nat} {aS vS : Nat → Nat} {A : Nat → Prop} {p : Program} {l : Launch} {e : Env} {s : State} {m : MethodId} {args : Array Value} {below : List Frame} {meth : Method} {c : Code} {K : zK} {r : Int} {F9 : zF} {B9 : zB} (X : zX D ca L aS vS A p s m args meth c prog_1_method_43_code 5 (Option.some Jvm.ClassFile.FieldType.int) "StaveHouse") : ∀ {n : Nat} {l4 : Int} {l2 : Int} {l3 : Int} {F : zF} {B : zB} {H : Heap} {locs : List Loc} {ls : Array Slot}, f_S_strength_42 K n l4 l2 l3 F B = some (r, F9, B9) → zH D ca ad lnC K.2 L F B A H → va_S A s.heap H locs → lv_has ls 5 [(4, .int (iI l4)), (2, .int (iI l2)), (3, .int (iI l3))] → W p l e ({ frames := 0, cells := 0, slots := 0, locals := 0 } : Room) s m args below meth c H locs 0 0 (MQ below (Q_S_strength K D ca ad L r F9 B9 A) args s 0 0 A) (F0 m 42 ls []) := by
  obtain ⟨hx, hb, hr, hml, hown, hts, hlk, hK, hA, hL, hX⟩ := id X
  intro n
  induction n with
  | zero =>
    intros
    rename_i hf _ _ _
    cases hf
  | succ n ih =>
    intro l4 l2 l3 F B H locs ls hf hZ hS hl
    replace hf : (if r32 l4 then (if 5 ≤ l4 then some (1, F, B) else if ¬ iI (zshr l2 l4) = 0 then if r32 (zrm l3 (zshr l2 l4)) then (if (zrm l3 (zshr l2 l4)) = 0 then some (6 - l4, F, B) else f_S_strength_42 K n (l4 + 1) l2 l3 F B) else none else none) else none) = some (r, F9, B9) := hf
    refine lv_iload hx hb d_1_43_42 (lv_at hl 0 rfl) ?_
    refine lv_iconst (v := iI 5) hx hb d_1_43_44 rfl ?_
    obtain ⟨g13, hf⟩ := gif hf
    refine zge (tgt := 69) hx hb g13 (by decide) d_1_43_45 (by decide) (fun h14 => ?_) (fun h14 => ?_)
    · replace hf := gpos hf h14
      refine lv_iconst (v := iI 1) hx hb d_1_43_69 rfl ?_
      cases hf
      exact W.iret hx hb hr (fun t ht hW => ⟨⟨_, (), rfl, rfl, by rw [ht]; exact hZ, va_K.moved hW.alike hK⟩, hS.F ht⟩) hS.2.2 d_1_43_70 hlk
    · replace hf := gneg hf h14
      refine lv_iload_n hx hb d_1_43_48 rfl (lv_at hl 2 rfl) ?_
      refine lv_iload_n hx hb d_1_43_49 rfl (lv_at hl 1 rfl) ?_
      refine lv_iload hx hb d_1_43_50 (lv_at hl 0 rfl) ?_
      refine zshr_r hx hb d_1_43_52 ?_
      obtain ⟨g15, hf⟩ := gif hf
      refine zrm_r hx hb g15 d_1_43_53 ?_
      obtain ⟨g16, hf⟩ := gif hf
      refine z0ne (tgt := 63) hx hb g16 d_1_43_54 (by decide) (fun h17 => ?_) (fun h17 => ?_)
      · replace hf := gneg hf h17
        refine lv_iinc (v := iI (l4 + 1)) (lv' := [(4, .int (iI (l4 + 1))), (2, .int (iI l2)), (3, .int (iI l3))]) hx hb d_1_43_63 hl (k := 0) rfl (iI_add _ 1) (by decide) rfl (fun ls hl => ?_)
        refine lv_goto (tgt := 42) hx hb d_1_43_66 (by decide) ?_
        exact ih hf hZ hS (lv_sub hl [0, 1, 2] rfl)
      · replace hf := gpos hf h17
        refine lv_bipush (v := iI 6) hx hb d_1_43_57 (by decide) ?_
        refine lv_iload hx hb d_1_43_59 (lv_at hl 0 rfl) ?_
        refine zsub hx hb d_1_43_61 ?_
        cases hf
        exact W.iret hx hb hr (fun t ht hW => ⟨⟨_, (), rfl, rfl, by rw [ht]; exact hZ, va_K.moved hW.alike hK⟩, hS.F ht⟩) hS.2.2 d_1_43_62 hlk

def f_S_strength_30 (K : zK) (l1 : Int) (l2 : Int) (l3 : Int) (F : zF) (B : zB) : zO := if ¬ iI l1 = 0 then if r32 (zrm l3 l1) then (if (zrm l3 l1) = 0 then some (7, F, B) else f_S_strength_42 K K.1 0 l2 l3 F B) else none else none
set_option maxHeartbeats 4000000 in
set_option maxRecDepth 100000 in
theorem b_S_strength_30 {D : va_G} {ca : Nat → ClassId} {ad : Nat → Int → Nat → Nat} {L : List Nat} {aS vS : Nat → Nat} {A : Nat → Prop} {p : Program} {l : Launch} {e : Env} {s : State} {m : MethodId} {args : Array Value} {below : List Frame} {meth : Method} {c : Code} {K : zK} {r : Int} {F9 : zF} {B9 : zB} (X : zX D ca L aS vS A p s m args meth c prog_1_method_43_code 5 (Option.some Jvm.ClassFile.FieldType.int) "StaveHouse") {l1 : Int} {l2 : Int} {l3 : Int} {F : zF} {B : zB} {H : Heap} {locs : List Loc} {ls : Array Slot} (hf : f_S_strength_30 K l1 l2 l3 F B = some (r, F9, B9)) (hZ : zH D ca ad lnC K.2 L F B A H) (hS : va_S A s.heap H locs) (hl : lv_has ls 5 [(1, .int (iI l1)), (2, .int (iI l2)), (3, .int (iI l3))]) : W p l e ({ frames := 0, cells := 0, slots := 0, locals := 0 } : Room) s m args below meth c H locs 0 0 (MQ below (Q_S_strength K D ca ad L r F9 B9 A) args s 0 0 A) (F0 m 30 ls []) := by
  obtain ⟨hx, hb, hr, hml, hown, hts, hlk, hK, hA, hL, hX⟩ := id X
  replace hf : (if ¬ iI l1 = 0 then if r32 (zrm l3 l1) then (if (zrm l3 l1) = 0 then some (7, F, B) else f_S_strength_42 K K.1 0 l2 l3 F B) else none else none) = some (r, F9, B9) := hf
  refine lv_iload_n hx hb d_1_43_30 rfl (lv_at hl 2 rfl) ?_
  refine lv_iload_n hx hb d_1_43_31 rfl (lv_at hl 0 rfl) ?_
  obtain ⟨g10, hf⟩ := gif hf
  refine zrm_r hx hb g10 d_1_43_32 ?_
  obtain ⟨g11, hf⟩ := gif hf
  refine z0ne (tgt := 39) hx hb g11 d_1_43_33 (by decide) (fun h12 => ?_) (fun h12 => ?_)
  · replace hf := gneg hf h12
    refine lv_iconst (v := iI 0) hx hb d_1_43_39 rfl ?_
    refine lv_istore (lv' := [(4, .int (iI 0)), (1, .int (iI l1)), (2, .int (iI l2)), (3, .int (iI l3))]) hx hb d_1_43_40 hl (by decide) rfl (fun ls hl => ?_)
    exact b_S_strength_42 X hf hZ hS (lv_sub hl [0, 2, 3] rfl)
  · replace hf := gpos hf h12
    refine lv_bipush (v := iI 7) hx hb d_1_43_36 (by decide) ?_
    cases hf
    exact W.iret hx hb hr (fun t ht hW => ⟨⟨_, (), rfl, rfl, by rw [ht]; exact hZ, va_K.moved hW.alike hK⟩, hS.F ht⟩) hS.2.2 d_1_43_38 hlk

def f_S_strength_9 (K : zK)  (F : zF) (B : zB) : zO := some (9, F, B)
set_option maxHeartbeats 4000000 in
set_option maxRecDepth 100000 in
theorem b_S_strength_9 {D : va_G} {ca : Nat → ClassId} {ad : Nat → Int → Nat → Nat} {L : List Nat} {aS vS : Nat → Nat} {A : Nat → Prop} {p : Program} {l : Launch} {e : Env} {s : State} {m : MethodId} {args : Array Value} {below : List Frame} {meth : Method} {c : Code} {K : zK} {r : Int} {F9 : zF} {B9 : zB} (X : zX D ca L aS vS A p s m args meth c prog_1_method_43_code 5 (Option.some Jvm.ClassFile.FieldType.int) "StaveHouse")  {F : zF} {B : zB} {H : Heap} {locs : List Loc} {ls : Array Slot} (hf : f_S_strength_9 K  F B = some (r, F9, B9)) (hZ : zH D ca ad lnC K.2 L F B A H) (hS : va_S A s.heap H locs) (hl : lv_has ls 5 []) : W p l e ({ frames := 0, cells := 0, slots := 0, locals := 0 } : Room) s m args below meth c H locs 0 0 (MQ below (Q_S_strength K D ca ad L r F9 B9 A) args s 0 0 A) (F0 m 9 ls []) := by
  obtain ⟨hx, hb, hr, hml, hown, hts, hlk, hK, hA, hL, hX⟩ := id X
  replace hf : (some (9, F, B)) = some (r, F9, B9) := hf
  refine lv_bipush (v := iI 9) hx hb d_1_43_9 (by decide) ?_
  cases hf
  exact W.iret hx hb hr (fun t ht hW => ⟨⟨_, (), rfl, rfl, by rw [ht]; exact hZ, va_K.moved hW.alike hK⟩, hS.F ht⟩) hS.2.2 d_1_43_11 hlk

def f_S_strength (K : zK) (l0 : Int) (l1 : Int) (l2 : Int) (l3 : Int) (F : zF) (B : zB) : zO := if r32 l3 then (if l3 = 0 then f_S_strength_9 K F B else if r32 l0 then (if l3 = l0 then f_S_strength_9 K F B else if ¬ iI (2 * l2) = 0 then if r32 (zrm l0 (2 * l2)) then (if (zrm l0 (2 * l2)) = 0 then if r32 (2 * l3) then (if (2 * l3) = l0 then some (8, F, B) else f_S_strength_30 K l1 l2 l3 F B) else none else f_S_strength_30 K l1 l2 l3 F B) else none else none) else none) else none
set_option maxHeartbeats 4000000 in
set_option maxRecDepth 100000 in
theorem c_S_strength {l : Launch} {D : va_G} {ca : Nat → ClassId} {ad : Nat → Int → Nat → Nat} {L : List Nat} {aS vS : Nat → Nat} {sz : Nat} {K : zK}  {l0 : Int} {l1 : Int} {l2 : Int} {l3 : Int} {F F9 : zF} {B B9 : zB} {r : Int} (hf : f_S_strength K l0 l1 l2 l3 F B = some (r, F9, B9)) : Met l ({ cls := "StaveHouse", name := "strength", desc := "(IIII)I" } : Jvm.MethodName) (Cond.code ({ cls := "StaveHouse", name := "strength", desc := "(IIII)I" } : Jvm.MethodName) prog_1_method_43_code 5 (Option.some Jvm.ClassFile.FieldType.int) :: wAll) ({ frames := 0, cells := 0, slots := 0, locals := 0 } : Room) (va_Pc [.int (iI l0), .int (iI l1), .int (iI l2), .int (iI l3)] (zPre D ca ad lnC K.2 L aS vS F B sz)) (Q_S_strength K D ca ad L r F9 B9 (zA L sz)) 0 0 (zA L sz) := by
  refine zMet (Qc := Q_S_strength K D ca ad L r F9 B9) (lv := [(0, .int (iI l0)), (1, .int (iI l1)), (2, .int (iI l2)), (3, .int (iI l3))]) (by decide) (Nat.le_of_ble_eq_true rfl) rfl (fun A p e s m below meth c ls X hZ hS hl => ?_)
  obtain ⟨hx, hb, hr, hml, hown, hts, hlk, hK, hA, hL, hX⟩ := id X
  replace hf : (if r32 l3 then (if l3 = 0 then f_S_strength_9 K F B else if r32 l0 then (if l3 = l0 then f_S_strength_9 K F B else if ¬ iI (2 * l2) = 0 then if r32 (zrm l0 (2 * l2)) then (if (zrm l0 (2 * l2)) = 0 then if r32 (2 * l3) then (if (2 * l3) = l0 then some (8, F, B) else f_S_strength_30 K l1 l2 l3 F B) else none else f_S_strength_30 K l1 l2 l3 F B) else none else none) else none) else none) = some (r, F9, B9) := hf
  refine lv_iload_n hx hb d_1_43_0 rfl (lv_at hl 3 rfl) ?_
  obtain ⟨g1, hf⟩ := gif hf
  refine z0eq (tgt := 9) hx hb g1 d_1_43_1 (by decide) (fun h2 => ?_) (fun h2 => ?_)
  · replace hf := gpos hf h2
    exact b_S_strength_9 X hf hZ hS (lv_sub hl [] rfl)
  · replace hf := gneg hf h2
    refine lv_iload_n hx hb d_1_43_4 rfl (lv_at hl 3 rfl) ?_
    refine lv_iload_n hx hb d_1_43_5 rfl (lv_at hl 0 rfl) ?_
    obtain ⟨g3, hf⟩ := gif hf
    refine zne (tgt := 12) hx hb g1 g3 d_1_43_6 (by decide) (fun h4 => ?_) (fun h4 => ?_)
    · replace hf := gneg hf h4
      refine lv_iload_n hx hb d_1_43_12 rfl (lv_at hl 0 rfl) ?_
      refine lv_iconst (v := iI 2) hx hb d_1_43_13 rfl ?_
      refine lv_iload_n hx hb d_1_43_14 rfl (lv_at hl 2 rfl) ?_
      refine zmul hx hb d_1_43_15 ?_
      obtain ⟨g5, hf⟩ := gif hf
      refine zrm_r hx hb g5 d_1_43_16 ?_
      obtain ⟨g6, hf⟩ := gif hf
      refine z0ne (tgt := 30) hx hb g6 d_1_43_17 (by decide) (fun h7 => ?_) (fun h7 => ?_)
      · replace hf := gneg hf h7
        exact b_S_strength_30 X hf hZ hS (lv_sub hl [1, 2, 3] rfl)
      · replace hf := gpos hf h7
        refine lv_iconst (v := iI 2) hx hb d_1_43_20 rfl ?_
        refine lv_iload_n hx hb d_1_43_21 rfl (lv_at hl 3 rfl) ?_
        refine zmul hx hb d_1_43_22 ?_
        refine lv_iload_n hx hb d_1_43_23 rfl (lv_at hl 0 rfl) ?_
        obtain ⟨g8, hf⟩ := gif hf
        refine zne (tgt := 30) hx hb g8 g3 d_1_43_24 (by decide) (fun h9 => ?_) (fun h9 => ?_)
        · replace hf := gneg hf h9
          exact b_S_strength_30 X hf hZ hS (lv_sub hl [1, 2, 3] rfl)
        · replace hf := gpos hf h9
          refine lv_bipush (v := iI 8) hx hb d_1_43_27 (by decide) ?_
          cases hf
          exact W.iret hx hb hr (fun t ht hW => ⟨⟨_, (), rfl, rfl, by rw [ht]; exact hZ, va_K.moved hW.alike hK⟩, hS.F ht⟩) hS.2.2 d_1_43_29 hlk
    · replace hf := gpos hf h4
      exact b_S_strength_9 X hf hZ hS (lv_sub hl [] rfl)

abbrev Q_S_strengthBetween (K : zK) (D : va_G) (ca : Nat → ClassId) (ad : Nat → Int → Nat → Nat) (L : List Nat) (r : Int) (F : zF) (B : zB) (A : Nat → Prop) : Array Value → State → Outcome → State → Prop := va_Qi (S := Unit) (fun p _ => p = iI r) (fun _ => zPo D ca ad lnC K.2 L F B A) A
def f_S_strengthBetween_44 (K : zK) : Nat → Int → Int → Int → Int → zF → zB → zO
  | 0, _, _, _, _, _, _ => none
  | n + 1, l5, l2, l3, l4, F, B => if r32 l5 then (if 5 ≤ l5 then some (1, F, B) else if ¬ iI (zshr l2 l5) = 0 then if r32 ((zdv (l4 - 1) (zshr l2 l5)) * (zshr l2 l5)) then if r32 l3 then (if ((zdv (l4 - 1) (zshr l2 l5)) * (zshr l2 l5)) ≤ l3 then f_S_strengthBetween_44 K n (l5 + 1) l2 l3 l4 F B else some (6 - l5, F, B)) else none else none else none) else none
set_option maxHeartbeats 4000000 in
set_option maxRecDepth 100000 in
theorem b_S_strengthBetween_44 {D : va_G} {ca : Nat → ClassId} {ad : Nat → Int → Nat → Nat} {L : List Nat} {aS vS : Nat → Nat} {A : Nat → Prop} {p : Program} {l : Launch} {e : Env} {s : State} {m : MethodId} {args : Array Value} {below : List Frame} {meth : Method} {c : Code} {K : zK} {r : Int} {F9 : zF} {B9 : zB} (X : zX D ca L aS vS A p s m args meth c prog_1_method_44_code 7 (Option.some Jvm.ClassFile.FieldType.int) "StaveHouse") : ∀ {n : Nat} {l5 : Int} {l2 : Int} {l3 : Int} {l4 : Int} {F : zF} {B : zB} {H : Heap} {locs : List Loc} {ls : Array Slot}, f_S_strengthBetween_44 K n l5 l2 l3 l4 F B = some (r, F9, B9) → zH D ca ad lnC K.2 L F B A H → va_S A s.heap H locs → lv_has ls 7 [(5, .int (iI l5)), (2, .int (iI l2)), (3, .int (iI l3)), (4, .int (iI l4))] → W p l e ({ frames := 0, cells := 0, slots := 0, locals := 0 } : Room) s m args below meth c H locs 0 0 (MQ below (Q_S_strengthBetween K D ca ad L r F9 B9 A) args s 0 0 A) (F0 m 44 ls []) := by
  obtain ⟨hx, hb, hr, hml, hown, hts, hlk, hK, hA, hL, hX⟩ := id X
  intro n
  induction n with
  | zero =>
    intros
    rename_i hf _ _ _
    cases hf
  | succ n ih =>
    intro l5 l2 l3 l4 F B H locs ls hf hZ hS hl
    replace hf : (if r32 l5 then (if 5 ≤ l5 then some (1, F, B) else if ¬ iI (zshr l2 l5) = 0 then if r32 ((zdv (l4 - 1) (zshr l2 l5)) * (zshr l2 l5)) then if r32 l3 then (if ((zdv (l4 - 1) (zshr l2 l5)) * (zshr l2 l5)) ≤ l3 then f_S_strengthBetween_44 K n (l5 + 1) l2 l3 l4 F B else some (6 - l5, F, B)) else none else none else none) else none) = some (r, F9, B9) := hf
    refine lv_iload hx hb d_1_44_44 (lv_at hl 0 rfl) ?_
    refine lv_iconst (v := iI 5) hx hb d_1_44_46 rfl ?_
    obtain ⟨g13, hf⟩ := gif hf
    refine zge (tgt := 82) hx hb g13 (by decide) d_1_44_47 (by decide) (fun h14 => ?_) (fun h14 => ?_)
    · replace hf := gpos hf h14
      refine lv_iconst (v := iI 1) hx hb d_1_44_82 rfl ?_
      cases hf
      exact W.iret hx hb hr (fun t ht hW => ⟨⟨_, (), rfl, rfl, by rw [ht]; exact hZ, va_K.moved hW.alike hK⟩, hS.F ht⟩) hS.2.2 d_1_44_83 hlk
    · replace hf := gneg hf h14
      refine lv_iload_n hx hb d_1_44_50 rfl (lv_at hl 1 rfl) ?_
      refine lv_iload hx hb d_1_44_51 (lv_at hl 0 rfl) ?_
      refine zshr_r hx hb d_1_44_53 ?_
      refine lv_istore (lv' := [(6, .int (iI (zshr l2 l5))), (5, .int (iI l5)), (2, .int (iI l2)), (3, .int (iI l3)), (4, .int (iI l4))]) hx hb d_1_44_54 hl (by decide) rfl (fun ls hl => ?_)
      refine lv_iload hx hb d_1_44_56 (lv_at hl 4 rfl) ?_
      refine lv_iconst (v := iI 1) hx hb d_1_44_58 rfl ?_
      refine zsub hx hb d_1_44_59 ?_
      refine lv_iload hx hb d_1_44_60 (lv_at hl 0 rfl) ?_
      obtain ⟨g15, hf⟩ := gif hf
      refine zdv_r hx hb g15 d_1_44_62 ?_
      refine lv_iload hx hb d_1_44_63 (lv_at hl 0 rfl) ?_
      refine zmul hx hb d_1_44_65 ?_
      refine lv_iload_n hx hb d_1_44_66 rfl (lv_at hl 3 rfl) ?_
      obtain ⟨g16, hf⟩ := gif hf
      obtain ⟨g17, hf⟩ := gif hf
      refine zle (tgt := 76) hx hb g16 g17 d_1_44_67 (by decide) (fun h18 => ?_) (fun h18 => ?_)
      · replace hf := gpos hf h18
        refine lv_iinc (v := iI (l5 + 1)) (lv' := [(5, .int (iI (l5 + 1))), (6, .int (iI (zshr l2 l5))), (2, .int (iI l2)), (3, .int (iI l3)), (4, .int (iI l4))]) hx hb d_1_44_76 hl (k := 1) rfl (iI_add _ 1) (by decide) rfl (fun ls hl => ?_)
        refine lv_goto (tgt := 44) hx hb d_1_44_79 (by decide) ?_
        exact ih hf hZ hS (lv_sub hl [0, 2, 3, 4] rfl)
      · replace hf := gneg hf h18
        refine lv_bipush (v := iI 6) hx hb d_1_44_70 (by decide) ?_
        refine lv_iload hx hb d_1_44_72 (lv_at hl 1 rfl) ?_
        refine zsub hx hb d_1_44_74 ?_
        cases hf
        exact W.iret hx hb hr (fun t ht hW => ⟨⟨_, (), rfl, rfl, by rw [ht]; exact hZ, va_K.moved hW.alike hK⟩, hS.F ht⟩) hS.2.2 d_1_44_75 hlk

def f_S_strengthBetween_26 (K : zK) (l1 : Int) (l2 : Int) (l3 : Int) (l4 : Int) (F : zF) (B : zB) : zO := if ¬ iI l1 = 0 then if r32 ((zdv (l4 - 1) l1) * l1) then if r32 l3 then (if ((zdv (l4 - 1) l1) * l1) ≤ l3 then f_S_strengthBetween_44 K K.1 0 l2 l3 l4 F B else some (7, F, B)) else none else none else none
set_option maxHeartbeats 4000000 in
set_option maxRecDepth 100000 in
theorem b_S_strengthBetween_26 {D : va_G} {ca : Nat → ClassId} {ad : Nat → Int → Nat → Nat} {L : List Nat} {aS vS : Nat → Nat} {A : Nat → Prop} {p : Program} {l : Launch} {e : Env} {s : State} {m : MethodId} {args : Array Value} {below : List Frame} {meth : Method} {c : Code} {K : zK} {r : Int} {F9 : zF} {B9 : zB} (X : zX D ca L aS vS A p s m args meth c prog_1_method_44_code 7 (Option.some Jvm.ClassFile.FieldType.int) "StaveHouse") {l1 : Int} {l2 : Int} {l3 : Int} {l4 : Int} {F : zF} {B : zB} {H : Heap} {locs : List Loc} {ls : Array Slot} (hf : f_S_strengthBetween_26 K l1 l2 l3 l4 F B = some (r, F9, B9)) (hZ : zH D ca ad lnC K.2 L F B A H) (hS : va_S A s.heap H locs) (hl : lv_has ls 7 [(1, .int (iI l1)), (2, .int (iI l2)), (3, .int (iI l3)), (4, .int (iI l4))]) : W p l e ({ frames := 0, cells := 0, slots := 0, locals := 0 } : Room) s m args below meth c H locs 0 0 (MQ below (Q_S_strengthBetween K D ca ad L r F9 B9 A) args s 0 0 A) (F0 m 26 ls []) := by
  obtain ⟨hx, hb, hr, hml, hown, hts, hlk, hK, hA, hL, hX⟩ := id X
  replace hf : (if ¬ iI l1 = 0 then if r32 ((zdv (l4 - 1) l1) * l1) then if r32 l3 then (if ((zdv (l4 - 1) l1) * l1) ≤ l3 then f_S_strengthBetween_44 K K.1 0 l2 l3 l4 F B else some (7, F, B)) else none else none else none) = some (r, F9, B9) := hf
  refine lv_iload hx hb d_1_44_26 (lv_at hl 3 rfl) ?_
  refine lv_iconst (v := iI 1) hx hb d_1_44_28 rfl ?_
  refine zsub hx hb d_1_44_29 ?_
  refine lv_iload_n hx hb d_1_44_30 rfl (lv_at hl 0 rfl) ?_
  obtain ⟨g9, hf⟩ := gif hf
  refine zdv_r hx hb g9 d_1_44_31 ?_
  refine lv_iload_n hx hb d_1_44_32 rfl (lv_at hl 0 rfl) ?_
  refine zmul hx hb d_1_44_33 ?_
  refine lv_iload_n hx hb d_1_44_34 rfl (lv_at hl 2 rfl) ?_
  obtain ⟨g10, hf⟩ := gif hf
  obtain ⟨g11, hf⟩ := gif hf
  refine zle (tgt := 41) hx hb g10 g11 d_1_44_35 (by decide) (fun h12 => ?_) (fun h12 => ?_)
  · replace hf := gpos hf h12
    refine lv_iconst (v := iI 0) hx hb d_1_44_41 rfl ?_
    refine lv_istore (lv' := [(5, .int (iI 0)), (1, .int (iI l1)), (2, .int (iI l2)), (3, .int (iI l3)), (4, .int (iI l4))]) hx hb d_1_44_42 hl (by decide) rfl (fun ls hl => ?_)
    exact b_S_strengthBetween_44 X hf hZ hS (lv_sub hl [0, 2, 3, 4] rfl)
  · replace hf := gneg hf h12
    refine lv_bipush (v := iI 7) hx hb d_1_44_38 (by decide) ?_
    cases hf
    exact W.iret hx hb hr (fun t ht hW => ⟨⟨_, (), rfl, rfl, by rw [ht]; exact hZ, va_K.moved hW.alike hK⟩, hS.F ht⟩) hS.2.2 d_1_44_40 hlk

def f_S_strengthBetween (K : zK) (l0 : Int) (l1 : Int) (l2 : Int) (l3 : Int) (l4 : Int) (F : zF) (B : zB) : zO := if ¬ iI (2 * l2) = 0 then if r32 (zrm l0 (2 * l2)) then (if (zrm l0 (2 * l2)) = 0 then if r32 (2 * l3) then if r32 l0 then (if l0 ≤ (2 * l3) then f_S_strengthBetween_26 K l1 l2 l3 l4 F B else if r32 (2 * l4) then (if (2 * l4) ≤ l0 then f_S_strengthBetween_26 K l1 l2 l3 l4 F B else some (8, F, B)) else none) else none else none else f_S_strengthBetween_26 K l1 l2 l3 l4 F B) else none else none
set_option maxHeartbeats 4000000 in
set_option maxRecDepth 100000 in
theorem c_S_strengthBetween {l : Launch} {D : va_G} {ca : Nat → ClassId} {ad : Nat → Int → Nat → Nat} {L : List Nat} {aS vS : Nat → Nat} {sz : Nat} {K : zK}  {l0 : Int} {l1 : Int} {l2 : Int} {l3 : Int} {l4 : Int} {F F9 : zF} {B B9 : zB} {r : Int} (hf : f_S_strengthBetween K l0 l1 l2 l3 l4 F B = some (r, F9, B9)) : Met l ({ cls := "StaveHouse", name := "strengthBetween", desc := "(IIIII)I" } : Jvm.MethodName) (Cond.code ({ cls := "StaveHouse", name := "strengthBetween", desc := "(IIIII)I" } : Jvm.MethodName) prog_1_method_44_code 7 (Option.some Jvm.ClassFile.FieldType.int) :: wAll) ({ frames := 0, cells := 0, slots := 0, locals := 0 } : Room) (va_Pc [.int (iI l0), .int (iI l1), .int (iI l2), .int (iI l3), .int (iI l4)] (zPre D ca ad lnC K.2 L aS vS F B sz)) (Q_S_strengthBetween K D ca ad L r F9 B9 (zA L sz)) 0 0 (zA L sz) := by
  refine zMet (Qc := Q_S_strengthBetween K D ca ad L r F9 B9) (lv := [(0, .int (iI l0)), (1, .int (iI l1)), (2, .int (iI l2)), (3, .int (iI l3)), (4, .int (iI l4))]) (by decide) (Nat.le_of_ble_eq_true rfl) rfl (fun A p e s m below meth c ls X hZ hS hl => ?_)
  obtain ⟨hx, hb, hr, hml, hown, hts, hlk, hK, hA, hL, hX⟩ := id X
  replace hf : (if ¬ iI (2 * l2) = 0 then if r32 (zrm l0 (2 * l2)) then (if (zrm l0 (2 * l2)) = 0 then if r32 (2 * l3) then if r32 l0 then (if l0 ≤ (2 * l3) then f_S_strengthBetween_26 K l1 l2 l3 l4 F B else if r32 (2 * l4) then (if (2 * l4) ≤ l0 then f_S_strengthBetween_26 K l1 l2 l3 l4 F B else some (8, F, B)) else none) else none else none else f_S_strengthBetween_26 K l1 l2 l3 l4 F B) else none else none) = some (r, F9, B9) := hf
  refine lv_iload_n hx hb d_1_44_0 rfl (lv_at hl 0 rfl) ?_
  refine lv_iconst (v := iI 2) hx hb d_1_44_1 rfl ?_
  refine lv_iload_n hx hb d_1_44_2 rfl (lv_at hl 2 rfl) ?_
  refine zmul hx hb d_1_44_3 ?_
  obtain ⟨g1, hf⟩ := gif hf
  refine zrm_r hx hb g1 d_1_44_4 ?_
  obtain ⟨g2, hf⟩ := gif hf
  refine z0ne (tgt := 26) hx hb g2 d_1_44_5 (by decide) (fun h3 => ?_) (fun h3 => ?_)
  · replace hf := gneg hf h3
    exact b_S_strengthBetween_26 X hf hZ hS (lv_sub hl [1, 2, 3, 4] rfl)
  · replace hf := gpos hf h3
    refine lv_iconst (v := iI 2) hx hb d_1_44_8 rfl ?_
    refine lv_iload_n hx hb d_1_44_9 rfl (lv_at hl 3 rfl) ?_
    refine zmul hx hb d_1_44_10 ?_
    refine lv_iload_n hx hb d_1_44_11 rfl (lv_at hl 0 rfl) ?_
    obtain ⟨g4, hf⟩ := gif hf
    obtain ⟨g5, hf⟩ := gif hf
    refine zge (tgt := 26) hx hb g4 g5 d_1_44_12 (by decide) (fun h6 => ?_) (fun h6 => ?_)
    · replace hf := gpos hf h6
      exact b_S_strengthBetween_26 X hf hZ hS (lv_sub hl [1, 2, 3, 4] rfl)
    · replace hf := gneg hf h6
      refine lv_iload_n hx hb d_1_44_15 rfl (lv_at hl 0 rfl) ?_
      refine lv_iconst (v := iI 2) hx hb d_1_44_16 rfl ?_
      refine lv_iload hx hb d_1_44_17 (lv_at hl 4 rfl) ?_
      refine zmul hx hb d_1_44_19 ?_
      obtain ⟨g7, hf⟩ := gif hf
      refine zge (tgt := 26) hx hb g5 g7 d_1_44_20 (by decide) (fun h8 => ?_) (fun h8 => ?_)
      · replace hf := gpos hf h8
        exact b_S_strengthBetween_26 X hf hZ hS (lv_sub hl [1, 2, 3, 4] rfl)
      · replace hf := gneg hf h8
        refine lv_bipush (v := iI 8) hx hb d_1_44_23 (by decide) ?_
        cases hf
        exact W.iret hx hb hr (fun t ht hW => ⟨⟨_, (), rfl, rfl, by rw [ht]; exact hZ, va_K.moved hW.alike hK⟩, hS.F ht⟩) hS.2.2 d_1_44_25 hlk

abbrev Q_S_keyAlteration (K : zK) (D : va_G) (ca : Nat → ClassId) (ad : Nat → Int → Nat → Nat) (L : List Nat) (r : Int) (F : zF) (B : zB) (A : Nat → Prop) : Array Value → State → Outcome → State → Prop := va_Qi (S := Unit) (fun p _ => p = iI r) (fun _ => zPo D ca ad lnC K.2 L F B A) A
def f_S_keyAlteration_40 (K : zK) (s0 : Int) (F : zF) (B : zB) : zO := some (s0, F, B)
set_option maxHeartbeats 4000000 in
set_option maxRecDepth 100000 in
theorem b_S_keyAlteration_40 {D : va_G} {ca : Nat → ClassId} {ad : Nat → Int → Nat → Nat} {L : List Nat} {aS vS : Nat → Nat} {A : Nat → Prop} {p : Program} {l : Launch} {e : Env} {s : State} {m : MethodId} {args : Array Value} {below : List Frame} {meth : Method} {c : Code} {K : zK} {r : Int} {F9 : zF} {B9 : zB} (X : zX D ca L aS vS A p s m args meth c prog_1_method_38_code 3 (Option.some Jvm.ClassFile.FieldType.int) "StaveHouse") {s0 : Int} {F : zF} {B : zB} {H : Heap} {locs : List Loc} {ls : Array Slot} (hf : f_S_keyAlteration_40 K s0 F B = some (r, F9, B9)) (hZ : zH D ca ad lnC K.2 L F B A H) (hS : va_S A s.heap H locs) (hl : lv_has ls 3 []) : W p l e ({ frames := 1, cells := 0, slots := 0, locals := 22 } : Room) s m args below meth c H locs 0 0 (MQ below (Q_S_keyAlteration K D ca ad L r F9 B9 A) args s 0 0 A) (F0 m 40 ls [.int (iI s0)]) := by
  obtain ⟨hx, hb, hr, hml, hown, hts, hlk, hK, hA, hL, hX⟩ := id X
  replace hf : (some (s0, F, B)) = some (r, F9, B9) := hf
  cases hf
  exact W.iret hx hb hr (fun t ht hW => ⟨⟨_, (), rfl, rfl, by rw [ht]; exact hZ, va_K.moved hW.alike hK⟩, hS.F ht⟩) hS.2.2 d_1_38_40 hlk

def f_S_keyAlteration_25 (K : zK) (s0 : Int) (F : zF) (B : zB) : zO := some (s0, F, B)
set_option maxHeartbeats 4000000 in
set_option maxRecDepth 100000 in
theorem b_S_keyAlteration_25 {D : va_G} {ca : Nat → ClassId} {ad : Nat → Int → Nat → Nat} {L : List Nat} {aS vS : Nat → Nat} {A : Nat → Prop} {p : Program} {l : Launch} {e : Env} {s : State} {m : MethodId} {args : Array Value} {below : List Frame} {meth : Method} {c : Code} {K : zK} {r : Int} {F9 : zF} {B9 : zB} (X : zX D ca L aS vS A p s m args meth c prog_1_method_38_code 3 (Option.some Jvm.ClassFile.FieldType.int) "StaveHouse") {s0 : Int} {F : zF} {B : zB} {H : Heap} {locs : List Loc} {ls : Array Slot} (hf : f_S_keyAlteration_25 K s0 F B = some (r, F9, B9)) (hZ : zH D ca ad lnC K.2 L F B A H) (hS : va_S A s.heap H locs) (hl : lv_has ls 3 []) : W p l e ({ frames := 1, cells := 0, slots := 0, locals := 22 } : Room) s m args below meth c H locs 0 0 (MQ below (Q_S_keyAlteration K D ca ad L r F9 B9 A) args s 0 0 A) (F0 m 25 ls [.int (iI s0)]) := by
  obtain ⟨hx, hb, hr, hml, hown, hts, hlk, hK, hA, hL, hX⟩ := id X
  replace hf : (some (s0, F, B)) = some (r, F9, B9) := hf
  cases hf
  exact W.iret hx hb hr (fun t ht hW => ⟨⟨_, (), rfl, rfl, by rw [ht]; exact hZ, va_K.moved hW.alike hK⟩, hS.F ht⟩) hS.2.2 d_1_38_25 hlk

def f_S_keyAlteration (K : zK) (l0 : Int) (l1 : Int) (F : zF) (B : zB) : zO := zbind (f_Math_floorMod K l1 7 F B) (fun r1 F1 B1 => if 0 ≤ r1 ∧ r1 < ztl 7 then if r32 l0 then (if l0 ≤ 0 then if r32 (6 - (ztv 7 r1)) then if r32 (-l0) then (if (-l0) ≤ (6 - (ztv 7 r1)) then f_S_keyAlteration_40 K 0 F1 B1 else f_S_keyAlteration_40 K (-1) F1 B1) else none else none else if r32 (ztv 7 r1) then (if l0 ≤ (ztv 7 r1) then f_S_keyAlteration_25 K 0 F1 B1 else f_S_keyAlteration_25 K 1 F1 B1) else none) else none else none)
set_option maxHeartbeats 4000000 in
set_option maxRecDepth 100000 in
theorem c_S_keyAlteration {l : Launch} {D : va_G} {ca : Nat → ClassId} {ad : Nat → Int → Nat → Nat} {L : List Nat} {aS vS : Nat → Nat} {sz : Nat} {K : zK}  {l0 : Int} {l1 : Int} {F F9 : zF} {B B9 : zB} {r : Int} (hf : f_S_keyAlteration K l0 l1 F B = some (r, F9, B9)) : Met l ({ cls := "StaveHouse", name := "keyAlteration", desc := "(II)I" } : Jvm.MethodName) (Cond.code ({ cls := "StaveHouse", name := "keyAlteration", desc := "(II)I" } : Jvm.MethodName) prog_1_method_38_code 3 (Option.some Jvm.ClassFile.FieldType.int) :: wAll) ({ frames := 1, cells := 0, slots := 0, locals := 22 } : Room) (va_Pc [.int (iI l0), .int (iI l1)] (zPre D ca ad lnC K.2 L aS vS F B sz)) (Q_S_keyAlteration K D ca ad L r F9 B9 (zA L sz)) 0 0 (zA L sz) := by
  refine zMet (Qc := Q_S_keyAlteration K D ca ad L r F9 B9) (lv := [(0, .int (iI l0)), (1, .int (iI l1))]) (by decide) (Nat.le_of_ble_eq_true rfl) rfl (fun A p e s m below meth c ls X hZ hS hl => ?_)
  obtain ⟨hx, hb, hr, hml, hown, hts, hlk, hK, hA, hL, hX⟩ := id X
  replace hf : (zbind (f_Math_floorMod K l1 7 F B) (fun r1 F1 B1 => if 0 ≤ r1 ∧ r1 < ztl 7 then if r32 l0 then (if l0 ≤ 0 then if r32 (6 - (ztv 7 r1)) then if r32 (-l0) then (if (-l0) ≤ (6 - (ztv 7 r1)) then f_S_keyAlteration_40 K 0 F1 B1 else f_S_keyAlteration_40 K (-1) F1 B1) else none else none else if r32 (ztv 7 r1) then (if l0 ≤ (ztv 7 r1) then f_S_keyAlteration_25 K 0 F1 B1 else f_S_keyAlteration_25 K 1 F1 B1) else none) else none else none)) = some (r, F9, B9) := hf
  refine va_gets hx hb (hX.2.2.2.2.2.2 7 _ rfl).1 hS hown (hts _ k_5_119) (fun _ h => h) d_1_38_0 ?_
  refine W.eq (g2 := F0 m 3 ls [.ref (vS (1000 + 7))]) rfl ?_
  refine lv_iload_n hx hb d_1_38_3 rfl (lv_at hl 1 rfl) ?_
  refine lv_bipush (v := iI 7) hx hb d_1_38_4 (by decide) ?_
  obtain ⟨r1, F1, B1, hc1, hf⟩ := gbind hf
  refine va_calli (va_runS (As := [.int (iI l1), .int (iI 7)]) (rest := [.ref (vS (1000 + 7))]) ⟨hx, hb, hml, hown, hts⟩ (c_Math_floorMod (l := l) hc1) (va_cwS 2 hts (gdS k_4_70 k_4_71 k_1_3 k_4_72) rfl rfl rfl (by decide +kernel) ⟨Nat.le_of_ble_eq_true rfl, Nat.le_of_ble_eq_true rfl⟩) (zPS X hZ hS [.int (iI l1), .int (iI 7)]) rfl rfl hl.1 rfl (lv_room (Nat.le_of_ble_eq_true rfl)) d_1_38_6 ⟨Nat.le_of_ble_eq_true rfl, Nat.le_of_ble_eq_true rfl⟩) hS (fun q _ h => zAin X hS q h) (zAin X hS) (fun p1 u1 t1 H1 locs1 ht1 hv1 hw1 hB1 hz1 hk1 hS1 => ?_)
  have hZ1 := zBack X ht1 hB1
  subst hw1
  obtain ⟨g2, hf⟩ := gif hf
  refine va_ti (v := .int (iI (ztv 7 r1))) hx hb (ztI hX (by decide) (by decide)) hS1 (zt_in (by decide) g2) (ztI_v (by decide) g2) d_1_38_9 ?_
  refine lv_istore_n (lv' := [(2, .int (iI (ztv 7 r1))), (0, .int (iI l0)), (1, .int (iI l1))]) hx hb d_1_38_10 rfl hl (by decide) rfl (fun ls hl => ?_)
  refine lv_iload_n hx hb d_1_38_11 rfl (lv_at hl 1 rfl) ?_
  obtain ⟨g3, hf⟩ := gif hf
  refine z0le (tgt := 26) hx hb g3 d_1_38_12 (by decide) (fun h4 => ?_) (fun h4 => ?_)
  · replace hf := gpos hf h4
    refine lv_bipush (v := iI 6) hx hb d_1_38_26 (by decide) ?_
    refine lv_iload_n hx hb d_1_38_28 rfl (lv_at hl 0 rfl) ?_
    refine zsub hx hb d_1_38_29 ?_
    refine lv_iload_n hx hb d_1_38_30 rfl (lv_at hl 1 rfl) ?_
    refine zneg hx hb d_1_38_31 ?_
    obtain ⟨g5, hf⟩ := gif hf
    obtain ⟨g6, hf⟩ := gif hf
    refine zge (tgt := 39) hx hb g5 g6 d_1_38_32 (by decide) (fun h7 => ?_) (fun h7 => ?_)
    · replace hf := gpos hf h7
      refine lv_iconst (v := iI 0) hx hb d_1_38_39 rfl ?_
      exact b_S_keyAlteration_40 X hf hZ1 hS1 (lv_sub hl [] rfl)
    · replace hf := gneg hf h7
      refine lv_iconst (v := iI (-1)) hx hb d_1_38_35 rfl ?_
      refine lv_goto (tgt := 40) hx hb d_1_38_36 (by decide) ?_
      exact b_S_keyAlteration_40 X hf hZ1 hS1 (lv_sub hl [] rfl)
  · replace hf := gneg hf h4
    refine lv_iload_n hx hb d_1_38_15 rfl (lv_at hl 0 rfl) ?_
    refine lv_iload_n hx hb d_1_38_16 rfl (lv_at hl 1 rfl) ?_
    obtain ⟨g8, hf⟩ := gif hf
    refine zge (tgt := 24) hx hb g8 g3 d_1_38_17 (by decide) (fun h9 => ?_) (fun h9 => ?_)
    · replace hf := gpos hf h9
      refine lv_iconst (v := iI 0) hx hb d_1_38_24 rfl ?_
      exact b_S_keyAlteration_25 X hf hZ1 hS1 (lv_sub hl [] rfl)
    · replace hf := gneg hf h9
      refine lv_iconst (v := iI 1) hx hb d_1_38_20 rfl ?_
      refine lv_goto (tgt := 25) hx hb d_1_38_21 (by decide) ?_
      exact b_S_keyAlteration_25 X hf hZ1 hS1 (lv_sub hl [] rfl)

abbrev Q_Study_consonance (K : zK) (D : va_G) (ca : Nat → ClassId) (ad : Nat → Int → Nat → Nat) (L : List Nat) (r : Int) (F : zF) (B : zB) (A : Nat → Prop) : Array Value → State → Outcome → State → Prop := va_Qi (S := Unit) (fun p _ => p = iI r) (fun _ => zPo D ca ad lnC K.2 L F B A) A
def f_Study_consonance_74 (K : zK) (s0 : Int) (F : zF) (B : zB) : zO := some (s0, F, B)
set_option maxHeartbeats 4000000 in
set_option maxRecDepth 100000 in
theorem b_Study_consonance_74 {D : va_G} {ca : Nat → ClassId} {ad : Nat → Int → Nat → Nat} {L : List Nat} {aS vS : Nat → Nat} {A : Nat → Prop} {p : Program} {l : Launch} {e : Env} {s : State} {m : MethodId} {args : Array Value} {below : List Frame} {meth : Method} {c : Code} {K : zK} {r : Int} {F9 : zF} {B9 : zB} (X : zX D ca L aS vS A p s m args meth c prog_11_method_10_code 7 (Option.some Jvm.ClassFile.FieldType.int) "StaveHouse$Study") {s0 : Int} {F : zF} {B : zB} {H : Heap} {locs : List Loc} {ls : Array Slot} (hf : f_Study_consonance_74 K s0 F B = some (r, F9, B9)) (hZ : zH D ca ad lnC K.2 L F B A H) (hS : va_S A s.heap H locs) (hl : lv_has ls 7 []) : W p l e ({ frames := 1, cells := 0, slots := 0, locals := 22 } : Room) s m args below meth c H locs 0 0 (MQ below (Q_Study_consonance K D ca ad L r F9 B9 A) args s 0 0 A) (F0 m 74 ls [.int (iI s0)]) := by
  obtain ⟨hx, hb, hr, hml, hown, hts, hlk, hK, hA, hL, hX⟩ := id X
  replace hf : (some (s0, F, B)) = some (r, F9, B9) := hf
  cases hf
  exact W.iret hx hb hr (fun t ht hW => ⟨⟨_, (), rfl, rfl, by rw [ht]; exact hZ, va_K.moved hW.alike hK⟩, hS.F ht⟩) hS.2.2 d_11_10_74 hlk

def f_Study_consonance_73 (K : zK)  (F : zF) (B : zB) : zO := f_Study_consonance_74 K 0 F B
set_option maxHeartbeats 4000000 in
set_option maxRecDepth 100000 in
theorem b_Study_consonance_73 {D : va_G} {ca : Nat → ClassId} {ad : Nat → Int → Nat → Nat} {L : List Nat} {aS vS : Nat → Nat} {A : Nat → Prop} {p : Program} {l : Launch} {e : Env} {s : State} {m : MethodId} {args : Array Value} {below : List Frame} {meth : Method} {c : Code} {K : zK} {r : Int} {F9 : zF} {B9 : zB} (X : zX D ca L aS vS A p s m args meth c prog_11_method_10_code 7 (Option.some Jvm.ClassFile.FieldType.int) "StaveHouse$Study")  {F : zF} {B : zB} {H : Heap} {locs : List Loc} {ls : Array Slot} (hf : f_Study_consonance_73 K  F B = some (r, F9, B9)) (hZ : zH D ca ad lnC K.2 L F B A H) (hS : va_S A s.heap H locs) (hl : lv_has ls 7 []) : W p l e ({ frames := 1, cells := 0, slots := 0, locals := 22 } : Room) s m args below meth c H locs 0 0 (MQ below (Q_Study_consonance K D ca ad L r F9 B9 A) args s 0 0 A) (F0 m 73 ls []) := by
  obtain ⟨hx, hb, hr, hml, hown, hts, hlk, hK, hA, hL, hX⟩ := id X
  replace hf : (f_Study_consonance_74 K 0 F B) = some (r, F9, B9) := hf
  refine lv_iconst (v := iI 0) hx hb d_11_10_73 rfl ?_
  exact b_Study_consonance_74 X hf hZ hS (lv_sub hl [] rfl)

def f_Study_consonance_56 (K : zK) (l6 : Int) (l5 : Int) (F : zF) (B : zB) : zO := if r32 l5 then (if l5 = 4 then if r32 l6 then (if l6 = 7 then f_Study_consonance_74 K 2 F B else f_Study_consonance_73 K F B) else none else f_Study_consonance_73 K F B) else none
set_option maxHeartbeats 4000000 in
set_option maxRecDepth 100000 in
theorem b_Study_consonance_56 {D : va_G} {ca : Nat → ClassId} {ad : Nat → Int → Nat → Nat} {L : List Nat} {aS vS : Nat → Nat} {A : Nat → Prop} {p : Program} {l : Launch} {e : Env} {s : State} {m : MethodId} {args : Array Value} {below : List Frame} {meth : Method} {c : Code} {K : zK} {r : Int} {F9 : zF} {B9 : zB} (X : zX D ca L aS vS A p s m args meth c prog_11_method_10_code 7 (Option.some Jvm.ClassFile.FieldType.int) "StaveHouse$Study") {l6 : Int} {l5 : Int} {F : zF} {B : zB} {H : Heap} {locs : List Loc} {ls : Array Slot} (hf : f_Study_consonance_56 K l6 l5 F B = some (r, F9, B9)) (hZ : zH D ca ad lnC K.2 L F B A H) (hS : va_S A s.heap H locs) (hl : lv_has ls 7 [(6, .int (iI l6)), (5, .int (iI l5))]) : W p l e ({ frames := 1, cells := 0, slots := 0, locals := 22 } : Room) s m args below meth c H locs 0 0 (MQ below (Q_Study_consonance K D ca ad L r F9 B9 A) args s 0 0 A) (F0 m 56 ls []) := by
  obtain ⟨hx, hb, hr, hml, hown, hts, hlk, hK, hA, hL, hX⟩ := id X
  replace hf : (if r32 l5 then (if l5 = 4 then if r32 l6 then (if l6 = 7 then f_Study_consonance_74 K 2 F B else f_Study_consonance_73 K F B) else none else f_Study_consonance_73 K F B) else none) = some (r, F9, B9) := hf
  refine lv_iload hx hb d_11_10_56 (lv_at hl 1 rfl) ?_
  refine lv_iconst (v := iI 4) hx hb d_11_10_58 rfl ?_
  obtain ⟨g12, hf⟩ := gif hf
  refine zne (tgt := 73) hx hb g12 (by decide) d_11_10_59 (by decide) (fun h13 => ?_) (fun h13 => ?_)
  · replace hf := gneg hf h13
    exact b_Study_consonance_73 X hf hZ hS (lv_sub hl [] rfl)
  · replace hf := gpos hf h13
    refine lv_iload hx hb d_11_10_62 (lv_at hl 0 rfl) ?_
    refine lv_bipush (v := iI 7) hx hb d_11_10_64 (by decide) ?_
    obtain ⟨g14, hf⟩ := gif hf
    refine zne (tgt := 73) hx hb g14 (by decide) d_11_10_66 (by decide) (fun h15 => ?_) (fun h15 => ?_)
    · replace hf := gneg hf h15
      exact b_Study_consonance_73 X hf hZ hS (lv_sub hl [] rfl)
    · replace hf := gpos hf h15
      refine lv_iconst (v := iI 2) hx hb d_11_10_69 rfl ?_
      refine lv_goto (tgt := 74) hx hb d_11_10_70 (by decide) ?_
      exact b_Study_consonance_74 X hf hZ hS (lv_sub hl [] rfl)

def f_Study_consonance_26 (K : zK) (l1 : Int) (l3 : Int) (s0 : Int) (F : zF) (B : zB) : zO := zbind (f_Math_floorMod K s0 7 F B) (fun r6 F6 B6 => if r32 (l1 - l3) then if r32 r6 then (if r6 = 0 then if r32 (zrm (zabs (l1 - l3)) 12) then (if (zrm (zabs (l1 - l3)) 12) = 0 then some (1, F6, B6) else f_Study_consonance_56 K (zrm (zabs (l1 - l3)) 12) r6 F6 B6) else none else f_Study_consonance_56 K (zrm (zabs (l1 - l3)) 12) r6 F6 B6) else none else none)
set_option maxHeartbeats 4000000 in
set_option maxRecDepth 100000 in
theorem b_Study_consonance_26 {D : va_G} {ca : Nat → ClassId} {ad : Nat → Int → Nat → Nat} {L : List Nat} {aS vS : Nat → Nat} {A : Nat → Prop} {p : Program} {l : Launch} {e : Env} {s : State} {m : MethodId} {args : Array Value} {below : List Frame} {meth : Method} {c : Code} {K : zK} {r : Int} {F9 : zF} {B9 : zB} (X : zX D ca L aS vS A p s m args meth c prog_11_method_10_code 7 (Option.some Jvm.ClassFile.FieldType.int) "StaveHouse$Study") {l1 : Int} {l3 : Int} {s0 : Int} {F : zF} {B : zB} {H : Heap} {locs : List Loc} {ls : Array Slot} (hf : f_Study_consonance_26 K l1 l3 s0 F B = some (r, F9, B9)) (hZ : zH D ca ad lnC K.2 L F B A H) (hS : va_S A s.heap H locs) (hl : lv_has ls 7 [(1, .int (iI l1)), (3, .int (iI l3))]) : W p l e ({ frames := 1, cells := 0, slots := 0, locals := 22 } : Room) s m args below meth c H locs 0 0 (MQ below (Q_Study_consonance K D ca ad L r F9 B9 A) args s 0 0 A) (F0 m 26 ls [.int (iI s0)]) := by
  obtain ⟨hx, hb, hr, hml, hown, hts, hlk, hK, hA, hL, hX⟩ := id X
  replace hf : (zbind (f_Math_floorMod K s0 7 F B) (fun r6 F6 B6 => if r32 (l1 - l3) then if r32 r6 then (if r6 = 0 then if r32 (zrm (zabs (l1 - l3)) 12) then (if (zrm (zabs (l1 - l3)) 12) = 0 then some (1, F6, B6) else f_Study_consonance_56 K (zrm (zabs (l1 - l3)) 12) r6 F6 B6) else none else f_Study_consonance_56 K (zrm (zabs (l1 - l3)) 12) r6 F6 B6) else none else none)) = some (r, F9, B9) := hf
  refine lv_bipush (v := iI 7) hx hb d_11_10_26 (by decide) ?_
  obtain ⟨r6, F6, B6, hc6, hf⟩ := gbind hf
  refine va_calli (va_runS (As := [.int (iI s0), .int (iI 7)]) (rest := []) ⟨hx, hb, hml, hown, hts⟩ (c_Math_floorMod (l := l) hc6) (va_cwS 2 hts (gdS k_6_38 k_4_71 k_1_3 k_4_72) rfl rfl rfl (by decide +kernel) ⟨Nat.le_of_ble_eq_true rfl, Nat.le_of_ble_eq_true rfl⟩) (zPS X hZ hS [.int (iI s0), .int (iI 7)]) rfl rfl hl.1 rfl (lv_room (Nat.le_of_ble_eq_true rfl)) d_11_10_28 ⟨Nat.le_of_ble_eq_true rfl, Nat.le_of_ble_eq_true rfl⟩) hS (fun q _ h => zAin X hS q h) (zAin X hS) (fun p6 u6 t6 H6 locs6 ht6 hv6 hw6 hB6 hz6 hk6 hS6 => ?_)
  have hZ6 := zBack X ht6 hB6
  subst hw6
  refine lv_istore (lv' := [(5, .int (iI r6)), (1, .int (iI l1)), (3, .int (iI l3))]) hx hb d_11_10_31 hl (by decide) rfl (fun ls hl => ?_)
  refine lv_iload_n hx hb d_11_10_33 rfl (lv_at hl 1 rfl) ?_
  refine lv_iload_n hx hb d_11_10_34 rfl (lv_at hl 2 rfl) ?_
  refine zsub hx hb d_11_10_35 ?_
  obtain ⟨g7, hf⟩ := gif hf
  refine va_mabs hx hb (by rw [hml]; exact hl.1.symm) hown (hts _ k_6_39) (hts _ k_4_229) (hts _ k_1_3) (hts _ k_4_230) (Nat.le_of_ble_eq_true rfl) (Nat.le_of_ble_eq_true rfl) (Nat.le_of_ble_eq_true rfl) (Nat.le_of_ble_eq_true rfl) d_11_10_36 ?_
  rw [zabs_e g7]
  refine lv_bipush (v := iI 12) hx hb d_11_10_39 (by decide) ?_
  refine zrm_r hx hb (by decide) d_11_10_41 ?_
  refine lv_istore (lv' := [(6, .int (iI (zrm (zabs (l1 - l3)) 12))), (5, .int (iI r6)), (1, .int (iI l1)), (3, .int (iI l3))]) hx hb d_11_10_42 hl (by decide) rfl (fun ls hl => ?_)
  refine lv_iload hx hb d_11_10_44 (lv_at hl 1 rfl) ?_
  obtain ⟨g8, hf⟩ := gif hf
  refine z0ne (tgt := 56) hx hb g8 d_11_10_46 (by decide) (fun h9 => ?_) (fun h9 => ?_)
  · replace hf := gneg hf h9
    exact b_Study_consonance_56 X hf hZ6 hS6 (lv_sub hl [0, 1] rfl)
  · replace hf := gpos hf h9
    refine lv_iload hx hb d_11_10_49 (lv_at hl 0 rfl) ?_
    obtain ⟨g10, hf⟩ := gif hf
    refine z0ne (tgt := 56) hx hb g10 d_11_10_51 (by decide) (fun h11 => ?_) (fun h11 => ?_)
    · replace hf := gneg hf h11
      exact b_Study_consonance_56 X hf hZ6 hS6 (lv_sub hl [0, 1] rfl)
    · replace hf := gpos hf h11
      refine lv_iconst (v := iI 1) hx hb d_11_10_54 rfl ?_
      cases hf
      exact W.iret hx hb hr (fun t ht hW => ⟨⟨_, (), rfl, rfl, by rw [ht]; exact hZ6, va_K.moved hW.alike hK⟩, hS6.F ht⟩) hS6.2.2 d_11_10_55 hlk

def f_Study_consonance_10 (K : zK) (l0 : Int) (l1 : Int) (l2 : Int) (l3 : Int) (s0 : Int) (F : zF) (B : zB) : zO := if r32 s0 then (if s0 = 0 then f_Study_consonance_26 K l1 l3 (l0 - l2) F B else f_Study_consonance_26 K l1 l3 (l2 - l0) F B) else none
set_option maxHeartbeats 4000000 in
set_option maxRecDepth 100000 in
theorem b_Study_consonance_10 {D : va_G} {ca : Nat → ClassId} {ad : Nat → Int → Nat → Nat} {L : List Nat} {aS vS : Nat → Nat} {A : Nat → Prop} {p : Program} {l : Launch} {e : Env} {s : State} {m : MethodId} {args : Array Value} {below : List Frame} {meth : Method} {c : Code} {K : zK} {r : Int} {F9 : zF} {B9 : zB} (X : zX D ca L aS vS A p s m args meth c prog_11_method_10_code 7 (Option.some Jvm.ClassFile.FieldType.int) "StaveHouse$Study") {l0 : Int} {l1 : Int} {l2 : Int} {l3 : Int} {s0 : Int} {F : zF} {B : zB} {H : Heap} {locs : List Loc} {ls : Array Slot} (hf : f_Study_consonance_10 K l0 l1 l2 l3 s0 F B = some (r, F9, B9)) (hZ : zH D ca ad lnC K.2 L F B A H) (hS : va_S A s.heap H locs) (hl : lv_has ls 7 [(0, .int (iI l0)), (1, .int (iI l1)), (2, .int (iI l2)), (3, .int (iI l3))]) : W p l e ({ frames := 1, cells := 0, slots := 0, locals := 22 } : Room) s m args below meth c H locs 0 0 (MQ below (Q_Study_consonance K D ca ad L r F9 B9 A) args s 0 0 A) (F0 m 10 ls [.int (iI s0)]) := by
  obtain ⟨hx, hb, hr, hml, hown, hts, hlk, hK, hA, hL, hX⟩ := id X
  replace hf : (if r32 s0 then (if s0 = 0 then f_Study_consonance_26 K l1 l3 (l0 - l2) F B else f_Study_consonance_26 K l1 l3 (l2 - l0) F B) else none) = some (r, F9, B9) := hf
  refine lv_istore (lv' := [(4, .int (iI s0)), (0, .int (iI l0)), (1, .int (iI l1)), (2, .int (iI l2)), (3, .int (iI l3))]) hx hb d_11_10_10 hl (by decide) rfl (fun ls hl => ?_)
  refine lv_iload hx hb d_11_10_12 (lv_at hl 0 rfl) ?_
  obtain ⟨g4, hf⟩ := gif hf
  refine z0eq (tgt := 23) hx hb g4 d_11_10_14 (by decide) (fun h5 => ?_) (fun h5 => ?_)
  · replace hf := gpos hf h5
    refine lv_iload_n hx hb d_11_10_23 rfl (lv_at hl 1 rfl) ?_
    refine lv_iload_n hx hb d_11_10_24 rfl (lv_at hl 3 rfl) ?_
    refine zsub hx hb d_11_10_25 ?_
    exact b_Study_consonance_26 X hf hZ hS (lv_sub hl [2, 4] rfl)
  · replace hf := gneg hf h5
    refine lv_iload_n hx hb d_11_10_17 rfl (lv_at hl 3 rfl) ?_
    refine lv_iload_n hx hb d_11_10_18 rfl (lv_at hl 1 rfl) ?_
    refine zsub hx hb d_11_10_19 ?_
    refine lv_goto (tgt := 26) hx hb d_11_10_20 (by decide) ?_
    exact b_Study_consonance_26 X hf hZ hS (lv_sub hl [2, 4] rfl)

def f_Study_consonance (K : zK) (l0 : Int) (l1 : Int) (l2 : Int) (l3 : Int) (F : zF) (B : zB) : zO := if r32 l3 then if r32 l1 then (if l3 ≤ l1 then f_Study_consonance_10 K l0 l1 l2 l3 0 F B else f_Study_consonance_10 K l0 l1 l2 l3 1 F B) else none else none
set_option maxHeartbeats 4000000 in
set_option maxRecDepth 100000 in
theorem c_Study_consonance {l : Launch} {D : va_G} {ca : Nat → ClassId} {ad : Nat → Int → Nat → Nat} {L : List Nat} {aS vS : Nat → Nat} {sz : Nat} {K : zK}  {l0 : Int} {l1 : Int} {l2 : Int} {l3 : Int} {F F9 : zF} {B B9 : zB} {r : Int} (hf : f_Study_consonance K l0 l1 l2 l3 F B = some (r, F9, B9)) : Met l ({ cls := "StaveHouse$Study", name := "consonance", desc := "(IIII)I" } : Jvm.MethodName) (Cond.code ({ cls := "StaveHouse$Study", name := "consonance", desc := "(IIII)I" } : Jvm.MethodName) prog_11_method_10_code 7 (Option.some Jvm.ClassFile.FieldType.int) :: wAll) ({ frames := 1, cells := 0, slots := 0, locals := 22 } : Room) (va_Pc [.int (iI l0), .int (iI l1), .int (iI l2), .int (iI l3)] (zPre D ca ad lnC K.2 L aS vS F B sz)) (Q_Study_consonance K D ca ad L r F9 B9 (zA L sz)) 0 0 (zA L sz) := by
  refine zMet (Qc := Q_Study_consonance K D ca ad L r F9 B9) (lv := [(0, .int (iI l0)), (1, .int (iI l1)), (2, .int (iI l2)), (3, .int (iI l3))]) (by decide) (Nat.le_of_ble_eq_true rfl) rfl (fun A p e s m below meth c ls X hZ hS hl => ?_)
  obtain ⟨hx, hb, hr, hml, hown, hts, hlk, hK, hA, hL, hX⟩ := id X
  replace hf : (if r32 l3 then if r32 l1 then (if l3 ≤ l1 then f_Study_consonance_10 K l0 l1 l2 l3 0 F B else f_Study_consonance_10 K l0 l1 l2 l3 1 F B) else none else none) = some (r, F9, B9) := hf
  refine lv_iload_n hx hb d_11_10_0 rfl (lv_at hl 3 rfl) ?_
  refine lv_iload_n hx hb d_11_10_1 rfl (lv_at hl 1 rfl) ?_
  obtain ⟨g1, hf⟩ := gif hf
  obtain ⟨g2, hf⟩ := gif hf
  refine zle (tgt := 9) hx hb g1 g2 d_11_10_2 (by decide) (fun h3 => ?_) (fun h3 => ?_)
  · replace hf := gpos hf h3
    refine lv_iconst (v := iI 0) hx hb d_11_10_9 rfl ?_
    exact b_Study_consonance_10 X hf hZ hS (lv_sub hl [0, 1, 2, 3] rfl)
  · replace hf := gneg hf h3
    refine lv_iconst (v := iI 1) hx hb d_11_10_5 rfl ?_
    refine lv_goto (tgt := 10) hx hb d_11_10_6 (by decide) ?_
    exact b_Study_consonance_10 X hf hZ hS (lv_sub hl [0, 1, 2, 3] rfl)

abbrev Q_Performance_tick (K : zK) (D : va_G) (ca : Nat → ClassId) (ad : Nat → Int → Nat → Nat) (L : List Nat) (r : Int) (F : zF) (B : zB) (A : Nat → Prop) : Array Value → State → Outcome → State → Prop := va_Qi (S := Unit) (fun p _ => p = iI r) (fun _ => zPo D ca ad lnC K.2 L F B A) A
def f_Performance_tick (K : zK) (l0 : Int) (F : zF) (B : zB) : zO := if r32 (zldv (384 * l0) 812851200) then some (zldv (384 * l0) 812851200, F, B) else none
set_option maxHeartbeats 4000000 in
set_option maxRecDepth 100000 in
theorem c_Performance_tick {l : Launch} {D : va_G} {ca : Nat → ClassId} {ad : Nat → Int → Nat → Nat} {L : List Nat} {aS vS : Nat → Nat} {sz : Nat} {K : zK}  {l0 : Int} {F F9 : zF} {B B9 : zB} {r : Int} (hf : f_Performance_tick K l0 F B = some (r, F9, B9)) : Met l ({ cls := "StaveHouse$Performance", name := "tick", desc := "(J)I" } : Jvm.MethodName) (Cond.code ({ cls := "StaveHouse$Performance", name := "tick", desc := "(J)I" } : Jvm.MethodName) prog_7_method_4_code 2 (Option.some Jvm.ClassFile.FieldType.int) :: wAll) ({ frames := 0, cells := 0, slots := 0, locals := 0 } : Room) (va_Pc [.long (lI l0)] (zPre D ca ad lnC K.2 L aS vS F B sz)) (Q_Performance_tick K D ca ad L r F9 B9 (zA L sz)) 0 0 (zA L sz) := by
  refine zMet (Qc := Q_Performance_tick K D ca ad L r F9 B9) (lv := [(0, .long (lI l0))]) (by decide) (Nat.le_of_ble_eq_true rfl) rfl (fun A p e s m below meth c ls X hZ hS hl => ?_)
  obtain ⟨hx, hb, hr, hml, hown, hts, hlk, hK, hA, hL, hX⟩ := id X
  replace hf : (if r32 (zldv (384 * l0) 812851200) then some (zldv (384 * l0) 812851200, F, B) else none) = some (r, F9, B9) := hf
  refine lv_ldc2 hx hb hown (hts _ k_6_129) d_7_4_0 ?_
  refine W.eq (g2 := F0 m 3 ls [.long (lI 384)]) rfl ?_
  refine lv_lload_n hx hb d_7_4_3 rfl (lv_at hl 0 rfl) ?_
  refine zlmul hx hb d_7_4_4 ?_
  refine lv_ldc2 hx hb hown (hts _ k_6_130) d_7_4_5 ?_
  refine W.eq (g2 := F0 m 8 ls [.long (lI 812851200), .long (lI (384 * l0))]) rfl ?_
  refine zldv_r hx hb (by decide) d_7_4_8 ?_
  obtain ⟨g1, hf⟩ := gif hf
  refine zl2i hx hb g1 d_7_4_9 ?_
  cases hf
  exact W.iret hx hb hr (fun t ht hW => ⟨⟨_, (), rfl, rfl, by rw [ht]; exact hZ, va_K.moved hW.alike hK⟩, hS.F ht⟩) hS.2.2 d_7_4_10 hlk

abbrev Q_S_gcd (K : zK) (D : va_G) (ca : Nat → ClassId) (ad : Nat → Int → Nat → Nat) (L : List Nat) (r : Int) (F : zF) (B : zB) (A : Nat → Prop) : Array Value → State → Outcome → State → Prop := va_Ql (S := Unit) (fun p _ => p = lI r) (fun _ => zPo D ca ad lnC K.2 L F B A) A
def f_S_gcd_45 (K : zK) (l4 : Int) (F : zF) (B : zB) : zO := some (l4, F, B)
set_option maxHeartbeats 4000000 in
set_option maxRecDepth 100000 in
theorem b_S_gcd_45 {D : va_G} {ca : Nat → ClassId} {ad : Nat → Int → Nat → Nat} {L : List Nat} {aS vS : Nat → Nat} {A : Nat → Prop} {p : Program} {l : Launch} {e : Env} {s : State} {m : MethodId} {args : Array Value} {below : List Frame} {meth : Method} {c : Code} {K : zK} {r : Int} {F9 : zF} {B9 : zB} (X : zX D ca L aS vS A p s m args meth c prog_1_method_34_code 11 (Option.some Jvm.ClassFile.FieldType.long) "StaveHouse") {l4 : Int} {F : zF} {B : zB} {H : Heap} {locs : List Loc} {ls : Array Slot} (hf : f_S_gcd_45 K l4 F B = some (r, F9, B9)) (hZ : zH D ca ad lnC K.2 L F B A H) (hS : va_S A s.heap H locs) (hl : lv_has ls 11 [(4, .long (lI l4))]) : W p l e ({ frames := 0, cells := 0, slots := 0, locals := 0 } : Room) s m args below meth c H locs 0 0 (MQ below (Q_S_gcd K D ca ad L r F9 B9 A) args s 0 0 A) (F0 m 45 ls []) := by
  obtain ⟨hx, hb, hr, hml, hown, hts, hlk, hK, hA, hL, hX⟩ := id X
  replace hf : (some (l4, F, B)) = some (r, F9, B9) := hf
  refine lv_lload hx hb d_1_34_45 (lv_at hl 0 rfl) ?_
  cases hf
  exact W.lret hx hb hr (fun t ht hW => ⟨⟨_, (), rfl, rfl, by rw [ht]; exact hZ, va_K.moved hW.alike hK⟩, hS.F ht⟩) hS.2.2 d_1_34_47 hlk

def f_S_gcd_9 (K : zK) : Nat → Int → Int → Int → zF → zB → zO
  | 0, _, _, _, _, _ => none
  | n + 1, l8, l6, l4, F, B => if r32 l8 then (if 200 ≤ l8 then f_S_gcd_45 K l4 F B else if r64 l6 then (if (zcmp l6 0) = 0 then f_S_gcd_45 K l4 F B else if ¬ lI l6 = 0 then f_S_gcd_9 K n (l8 + 1) (zlrm l4 l6) l6 F B else none) else none) else none
set_option maxHeartbeats 4000000 in
set_option maxRecDepth 100000 in
theorem b_S_gcd_9 {D : va_G} {ca : Nat → ClassId} {ad : Nat → Int → Nat → Nat} {L : List Nat} {aS vS : Nat → Nat} {A : Nat → Prop} {p : Program} {l : Launch} {e : Env} {s : State} {m : MethodId} {args : Array Value} {below : List Frame} {meth : Method} {c : Code} {K : zK} {r : Int} {F9 : zF} {B9 : zB} (X : zX D ca L aS vS A p s m args meth c prog_1_method_34_code 11 (Option.some Jvm.ClassFile.FieldType.long) "StaveHouse") : ∀ {n : Nat} {l8 : Int} {l6 : Int} {l4 : Int} {F : zF} {B : zB} {H : Heap} {locs : List Loc} {ls : Array Slot}, f_S_gcd_9 K n l8 l6 l4 F B = some (r, F9, B9) → zH D ca ad lnC K.2 L F B A H → va_S A s.heap H locs → lv_has ls 11 [(8, .int (iI l8)), (6, .long (lI l6)), (4, .long (lI l4))] → W p l e ({ frames := 0, cells := 0, slots := 0, locals := 0 } : Room) s m args below meth c H locs 0 0 (MQ below (Q_S_gcd K D ca ad L r F9 B9 A) args s 0 0 A) (F0 m 9 ls []) := by
  obtain ⟨hx, hb, hr, hml, hown, hts, hlk, hK, hA, hL, hX⟩ := id X
  intro n
  induction n with
  | zero =>
    intros
    rename_i hf _ _ _
    cases hf
  | succ n ih =>
    intro l8 l6 l4 F B H locs ls hf hZ hS hl
    replace hf : (if r32 l8 then (if 200 ≤ l8 then f_S_gcd_45 K l4 F B else if r64 l6 then (if (zcmp l6 0) = 0 then f_S_gcd_45 K l4 F B else if ¬ lI l6 = 0 then f_S_gcd_9 K n (l8 + 1) (zlrm l4 l6) l6 F B else none) else none) else none) = some (r, F9, B9) := hf
    refine lv_iload hx hb d_1_34_9 (lv_at hl 0 rfl) ?_
    refine lv_sipush (v := iI 200) hx hb d_1_34_11 (by decide) ?_
    obtain ⟨g1, hf⟩ := gif hf
    refine zge (tgt := 45) hx hb g1 (by decide) d_1_34_14 (by decide) (fun h2 => ?_) (fun h2 => ?_)
    · replace hf := gpos hf h2
      exact b_S_gcd_45 X hf hZ hS (lv_sub hl [2] rfl)
    · replace hf := gneg hf h2
      refine lv_lload hx hb d_1_34_17 (lv_at hl 1 rfl) ?_
      refine lv_lconst (v := lI 0) hx hb d_1_34_19 (by decide) ?_
      obtain ⟨g3, hf⟩ := gif hf
      refine zcmp_r hx hb g3 (by decide) d_1_34_20 ?_
      refine z0eq (tgt := 45) hx hb zcmp_32 d_1_34_21 (by decide) (fun h4 => ?_) (fun h4 => ?_)
      · replace hf := gpos hf h4
        exact b_S_gcd_45 X hf hZ hS (lv_sub hl [2] rfl)
      · replace hf := gneg hf h4
        refine lv_lload hx hb d_1_34_24 (lv_at hl 2 rfl) ?_
        refine lv_lload hx hb d_1_34_26 (lv_at hl 1 rfl) ?_
        obtain ⟨g5, hf⟩ := gif hf
        refine zlrm_r hx hb g5 d_1_34_28 ?_
        refine lv_lstore (lv' := [(9, .long (lI (zlrm l4 l6))), (8, .int (iI l8)), (6, .long (lI l6)), (4, .long (lI l4))]) hx hb d_1_34_29 hl (by decide) rfl (fun ls hl => ?_)
        refine lv_lload hx hb d_1_34_31 (lv_at hl 2 rfl) ?_
        refine lv_lstore (lv' := [(4, .long (lI l6)), (9, .long (lI (zlrm l4 l6))), (8, .int (iI l8)), (6, .long (lI l6))]) hx hb d_1_34_33 hl (by decide) rfl (fun ls hl => ?_)
        refine lv_lload hx hb d_1_34_35 (lv_at hl 1 rfl) ?_
        refine lv_lstore (lv' := [(6, .long (lI (zlrm l4 l6))), (4, .long (lI l6)), (9, .long (lI (zlrm l4 l6))), (8, .int (iI l8))]) hx hb d_1_34_37 hl (by decide) rfl (fun ls hl => ?_)
        refine lv_iinc (v := iI (l8 + 1)) (lv' := [(8, .int (iI (l8 + 1))), (6, .long (lI (zlrm l4 l6))), (4, .long (lI l6)), (9, .long (lI (zlrm l4 l6)))]) hx hb d_1_34_39 hl (k := 3) rfl (iI_add _ 1) (by decide) rfl (fun ls hl => ?_)
        refine lv_goto (tgt := 9) hx hb d_1_34_42 (by decide) ?_
        exact ih hf hZ hS (lv_sub hl [0, 1, 2] rfl)

def f_S_gcd (K : zK) (l0 : Int) (l2 : Int) (F : zF) (B : zB) : zO := f_S_gcd_9 K K.1 0 l2 l0 F B
set_option maxHeartbeats 4000000 in
set_option maxRecDepth 100000 in
theorem c_S_gcd {l : Launch} {D : va_G} {ca : Nat → ClassId} {ad : Nat → Int → Nat → Nat} {L : List Nat} {aS vS : Nat → Nat} {sz : Nat} {K : zK}  {l0 : Int} {l2 : Int} {F F9 : zF} {B B9 : zB} {r : Int} (hf : f_S_gcd K l0 l2 F B = some (r, F9, B9)) : Met l ({ cls := "StaveHouse", name := "gcd", desc := "(JJ)J" } : Jvm.MethodName) (Cond.code ({ cls := "StaveHouse", name := "gcd", desc := "(JJ)J" } : Jvm.MethodName) prog_1_method_34_code 11 (Option.some Jvm.ClassFile.FieldType.long) :: wAll) ({ frames := 0, cells := 0, slots := 0, locals := 0 } : Room) (va_Pc [.long (lI l0), .long (lI l2)] (zPre D ca ad lnC K.2 L aS vS F B sz)) (Q_S_gcd K D ca ad L r F9 B9 (zA L sz)) 0 0 (zA L sz) := by
  refine zMet (Qc := Q_S_gcd K D ca ad L r F9 B9) (lv := [(0, .long (lI l0)), (2, .long (lI l2))]) (by decide) (Nat.le_of_ble_eq_true rfl) rfl (fun A p e s m below meth c ls X hZ hS hl => ?_)
  obtain ⟨hx, hb, hr, hml, hown, hts, hlk, hK, hA, hL, hX⟩ := id X
  replace hf : (f_S_gcd_9 K K.1 0 l2 l0 F B) = some (r, F9, B9) := hf
  refine lv_lload_n hx hb d_1_34_0 rfl (lv_at hl 0 rfl) ?_
  refine lv_lstore (lv' := [(4, .long (lI l0)), (0, .long (lI l0)), (2, .long (lI l2))]) hx hb d_1_34_1 hl (by decide) rfl (fun ls hl => ?_)
  refine lv_lload_n hx hb d_1_34_3 rfl (lv_at hl 2 rfl) ?_
  refine lv_lstore (lv' := [(6, .long (lI l2)), (4, .long (lI l0)), (0, .long (lI l0)), (2, .long (lI l2))]) hx hb d_1_34_4 hl (by decide) rfl (fun ls hl => ?_)
  refine lv_iconst (v := iI 0) hx hb d_1_34_6 rfl ?_
  refine lv_istore (lv' := [(8, .int (iI 0)), (6, .long (lI l2)), (4, .long (lI l0)), (0, .long (lI l0)), (2, .long (lI l2))]) hx hb d_1_34_7 hl (by decide) rfl (fun ls hl => ?_)
  exact b_S_gcd_9 X hf hZ hS (lv_sub hl [0, 1, 2] rfl)

abbrev Q_S_below (K : zK) (D : va_G) (ca : Nat → ClassId) (ad : Nat → Int → Nat → Nat) (L : List Nat) (r : Int) (F : zF) (B : zB) (A : Nat → Prop) : Array Value → State → Outcome → State → Prop := va_Ql (S := Unit) (fun p _ => p = lI r) (fun _ => zPo D ca ad lnC K.2 L F B A) A
def f_S_below_25 (K : zK) (s0 : Int) (F : zF) (B : zB) : zO := some (s0, F, B)
set_option maxHeartbeats 4000000 in
set_option maxRecDepth 100000 in
theorem b_S_below_25 {D : va_G} {ca : Nat → ClassId} {ad : Nat → Int → Nat → Nat} {L : List Nat} {aS vS : Nat → Nat} {A : Nat → Prop} {p : Program} {l : Launch} {e : Env} {s : State} {m : MethodId} {args : Array Value} {below : List Frame} {meth : Method} {c : Code} {K : zK} {r : Int} {F9 : zF} {B9 : zB} (X : zX D ca L aS vS A p s m args meth c prog_1_method_36_code 4 (Option.some Jvm.ClassFile.FieldType.long) "StaveHouse") {s0 : Int} {F : zF} {B : zB} {H : Heap} {locs : List Loc} {ls : Array Slot} (hf : f_S_below_25 K s0 F B = some (r, F9, B9)) (hZ : zH D ca ad lnC K.2 L F B A H) (hS : va_S A s.heap H locs) (hl : lv_has ls 4 []) : W p l e ({ frames := 1, cells := 0, slots := 0, locals := 30 } : Room) s m args below meth c H locs 0 0 (MQ below (Q_S_below K D ca ad L r F9 B9 A) args s 0 0 A) (F0 m 25 ls [.long (lI s0)]) := by
  obtain ⟨hx, hb, hr, hml, hown, hts, hlk, hK, hA, hL, hX⟩ := id X
  replace hf : (some (s0, F, B)) = some (r, F9, B9) := hf
  cases hf
  exact W.lret hx hb hr (fun t ht hW => ⟨⟨_, (), rfl, rfl, by rw [ht]; exact hZ, va_K.moved hW.alike hK⟩, hS.F ht⟩) hS.2.2 d_1_36_25 hlk

def f_S_below (K : zK) (l0 : Int) (F : zF) (B : zB) : zO := zbind (f_S_gcd K l0 812851200 F B) (fun r1 F1 B1 => if r64 r1 then (if (zcmp r1 0) = 0 then f_S_below_25 K 812851200 F1 B1 else if ¬ lI r1 = 0 then f_S_below_25 K (zldv 812851200 r1) F1 B1 else none) else none)
set_option maxHeartbeats 4000000 in
set_option maxRecDepth 100000 in
theorem c_S_below {l : Launch} {D : va_G} {ca : Nat → ClassId} {ad : Nat → Int → Nat → Nat} {L : List Nat} {aS vS : Nat → Nat} {sz : Nat} {K : zK}  {l0 : Int} {F F9 : zF} {B B9 : zB} {r : Int} (hf : f_S_below K l0 F B = some (r, F9, B9)) : Met l ({ cls := "StaveHouse", name := "below", desc := "(J)J" } : Jvm.MethodName) (Cond.code ({ cls := "StaveHouse", name := "below", desc := "(J)J" } : Jvm.MethodName) prog_1_method_36_code 4 (Option.some Jvm.ClassFile.FieldType.long) :: wAll) ({ frames := 1, cells := 0, slots := 0, locals := 30 } : Room) (va_Pc [.long (lI l0)] (zPre D ca ad lnC K.2 L aS vS F B sz)) (Q_S_below K D ca ad L r F9 B9 (zA L sz)) 0 0 (zA L sz) := by
  refine zMet (Qc := Q_S_below K D ca ad L r F9 B9) (lv := [(0, .long (lI l0))]) (by decide) (Nat.le_of_ble_eq_true rfl) rfl (fun A p e s m below meth c ls X hZ hS hl => ?_)
  obtain ⟨hx, hb, hr, hml, hown, hts, hlk, hK, hA, hL, hX⟩ := id X
  replace hf : (zbind (f_S_gcd K l0 812851200 F B) (fun r1 F1 B1 => if r64 r1 then (if (zcmp r1 0) = 0 then f_S_below_25 K 812851200 F1 B1 else if ¬ lI r1 = 0 then f_S_below_25 K (zldv 812851200 r1) F1 B1 else none) else none)) = some (r, F9, B9) := hf
  refine lv_lload_n hx hb d_1_36_0 rfl (lv_at hl 0 rfl) ?_
  refine lv_ldc2 hx hb hown (hts _ k_6_188) d_1_36_1 ?_
  refine W.eq (g2 := F0 m 4 ls [.long (lI 812851200), .long (lI l0)]) rfl ?_
  obtain ⟨r1, F1, B1, hc1, hf⟩ := gbind hf
  refine va_calll (va_runS (As := [.long (lI l0), .long (lI 812851200)]) (rest := []) ⟨hx, hb, hml, hown, hts⟩ (c_S_gcd (l := l) hc1) (va_cwS 2 hts (gdS k_6_189 k_6_190 k_1_1 k_6_191) rfl rfl rfl (by decide +kernel) ⟨Nat.le_of_ble_eq_true rfl, Nat.le_of_ble_eq_true rfl⟩) (zPS X hZ hS [.long (lI l0), .long (lI 812851200)]) rfl rfl hl.1 rfl (lv_room (Nat.le_of_ble_eq_true rfl)) d_1_36_4 ⟨Nat.le_of_ble_eq_true rfl, Nat.le_of_ble_eq_true rfl⟩) hS (fun q _ h => zAin X hS q h) (zAin X hS) (fun p1 u1 t1 H1 locs1 ht1 hv1 hw1 hB1 hz1 hk1 hS1 => ?_)
  have hZ1 := zBack X ht1 hB1
  subst hw1
  refine lv_lstore_n (lv' := [(2, .long (lI r1)), (0, .long (lI l0))]) hx hb d_1_36_7 rfl hl (by decide) rfl (fun ls hl => ?_)
  refine lv_lload_n hx hb d_1_36_8 rfl (lv_at hl 0 rfl) ?_
  refine lv_lconst (v := lI 0) hx hb d_1_36_9 (by decide) ?_
  obtain ⟨g2, hf⟩ := gif hf
  refine zcmp_r hx hb g2 (by decide) d_1_36_10 ?_
  refine z0ne (tgt := 20) hx hb zcmp_32 d_1_36_11 (by decide) (fun h3 => ?_) (fun h3 => ?_)
  · replace hf := gneg hf h3
    refine lv_ldc2 hx hb hown (hts _ k_6_188) d_1_36_20 ?_
    refine W.eq (g2 := F0 m 23 ls [.long (lI 812851200)]) rfl ?_
    refine lv_lload_n hx hb d_1_36_23 rfl (lv_at hl 0 rfl) ?_
    obtain ⟨g4, hf⟩ := gif hf
    refine zldv_r hx hb g4 d_1_36_24 ?_
    exact b_S_below_25 X hf hZ1 hS1 (lv_sub hl [] rfl)
  · replace hf := gpos hf h3
    refine lv_ldc2 hx hb hown (hts _ k_6_188) d_1_36_14 ?_
    refine W.eq (g2 := F0 m 17 ls [.long (lI 812851200)]) rfl ?_
    refine lv_goto (tgt := 25) hx hb d_1_36_17 (by decide) ?_
    exact b_S_below_25 X hf hZ1 hS1 (lv_sub hl [] rfl)

abbrev Q_Layout_lead (K : zK) (D : va_G) (ca : Nat → ClassId) (ad : Nat → Int → Nat → Nat) (L : List Nat) (r : Int) (F : zF) (B : zB) (A : Nat → Prop) : Array Value → State → Outcome → State → Prop := va_Qi (S := Unit) (fun p _ => p = iI r) (fun _ => zPo D ca ad lnC K.2 L F B A) A
def f_Layout_lead_22 (K : zK) (s0 : Int) (s1 : Int) (F : zF) (B : zB) : zO := some (s0 + s1, F, B)
set_option maxHeartbeats 4000000 in
set_option maxRecDepth 100000 in
theorem b_Layout_lead_22 {D : va_G} {ca : Nat → ClassId} {ad : Nat → Int → Nat → Nat} {L : List Nat} {aS vS : Nat → Nat} {A : Nat → Prop} {p : Program} {l : Launch} {e : Env} {s : State} {m : MethodId} {args : Array Value} {below : List Frame} {meth : Method} {c : Code} {K : zK} {r : Int} {F9 : zF} {B9 : zB} (X : zX D ca L aS vS A p s m args meth c prog_4_method_8_code 2 (Option.some Jvm.ClassFile.FieldType.int) "StaveHouse$Layout") {s0 : Int} {s1 : Int} {F : zF} {B : zB} {H : Heap} {locs : List Loc} {ls : Array Slot} (hf : f_Layout_lead_22 K s0 s1 F B = some (r, F9, B9)) (hZ : zH D ca ad lnC K.2 L F B A H) (hS : va_S A s.heap H locs) (hl : lv_has ls 2 []) : W p l e ({ frames := 1, cells := 0, slots := 0, locals := 15 } : Room) s m args below meth c H locs 0 0 (MQ below (Q_Layout_lead K D ca ad L r F9 B9 A) args s 0 0 A) (F0 m 22 ls [.int (iI s1), .int (iI s0)]) := by
  obtain ⟨hx, hb, hr, hml, hown, hts, hlk, hK, hA, hL, hX⟩ := id X
  replace hf : (some (s0 + s1, F, B)) = some (r, F9, B9) := hf
  refine zadd hx hb d_4_8_22 ?_
  cases hf
  exact W.iret hx hb hr (fun t ht hW => ⟨⟨_, (), rfl, rfl, by rw [ht]; exact hZ, va_K.moved hW.alike hK⟩, hS.F ht⟩) hS.2.2 d_4_8_23 hlk

def f_Layout_lead (K : zK) (l0 : Int) (l1 : Int) (F : zF) (B : zB) : zO := if 0 ≤ l0 ∧ l0 < K.2 6 then if r32 (F 6 l0 2) then if r32 l1 then (if l1 = 0 then f_Layout_lead_22 K (24 + (5 * (zabs (F 6 l0 2)))) 12 F B else f_Layout_lead_22 K (24 + (5 * (zabs (F 6 l0 2)))) 0 F B) else none else none else none
set_option maxHeartbeats 4000000 in
set_option maxRecDepth 100000 in
theorem c_Layout_lead {l : Launch} {D : va_G} {ca : Nat → ClassId} {ad : Nat → Int → Nat → Nat} {L : List Nat} {aS vS : Nat → Nat} {sz : Nat} {K : zK}  {l0 : Int} {l1 : Int} {F F9 : zF} {B B9 : zB} {r : Int} (hf : f_Layout_lead K l0 l1 F B = some (r, F9, B9)) : Met l ({ cls := "StaveHouse$Layout", name := "lead", desc := "(LStaveHouse$Piece;I)I" } : Jvm.MethodName) (Cond.code ({ cls := "StaveHouse$Layout", name := "lead", desc := "(LStaveHouse$Piece;I)I" } : Jvm.MethodName) prog_4_method_8_code 2 (Option.some Jvm.ClassFile.FieldType.int) :: wAll) ({ frames := 1, cells := 0, slots := 0, locals := 15 } : Room) (va_Pc [.ref (ad 6 l0 0), .int (iI l1)] (zPre D ca ad lnC K.2 L aS vS F B sz)) (Q_Layout_lead K D ca ad L r F9 B9 (zA L sz)) 0 0 (zA L sz) := by
  refine zMet (Qc := Q_Layout_lead K D ca ad L r F9 B9) (lv := [(0, .ref (ad 6 l0 0)), (1, .int (iI l1))]) (by decide) (Nat.le_of_ble_eq_true rfl) rfl (fun A p e s m below meth c ls X hZ hS hl => ?_)
  obtain ⟨hx, hb, hr, hml, hown, hts, hlk, hK, hA, hL, hX⟩ := id X
  replace hf : (if 0 ≤ l0 ∧ l0 < K.2 6 then if r32 (F 6 l0 2) then if r32 l1 then (if l1 = 0 then f_Layout_lead_22 K (24 + (5 * (zabs (F 6 l0 2)))) 12 F B else f_Layout_lead_22 K (24 + (5 * (zabs (F 6 l0 2)))) 0 F B) else none else none else none) = some (r, F9, B9) := hf
  refine lv_bipush (v := iI 24) hx hb d_4_8_0 (by decide) ?_
  refine lv_iconst (v := iI 5) hx hb d_4_8_2 rfl ?_
  refine lv_aload_n hx hb d_4_8_3 rfl (lv_at hl 0 rfl) ?_
  obtain ⟨g1, hf⟩ := gif hf
  refine zget (ci := 6) (C := RX6) (T := TX6) (v := .int (iI (F 6 l0 2))) (k := 2) hx hb hts inW_6 hown hK hZ g1.1 g1.2 rfl (by decide) k_2_196 rfl d_4_8_4 ?_
  obtain ⟨g2, hf⟩ := gif hf
  refine va_mabs hx hb (by rw [hml]; exact hl.1.symm) hown (hts _ k_7_53) (hts _ k_4_229) (hts _ k_1_3) (hts _ k_4_230) (Nat.le_of_ble_eq_true rfl) (Nat.le_of_ble_eq_true rfl) (Nat.le_of_ble_eq_true rfl) (Nat.le_of_ble_eq_true rfl) d_4_8_7 ?_
  rw [zabs_e g2]
  refine zmul hx hb d_4_8_10 ?_
  refine zadd hx hb d_4_8_11 ?_
  refine lv_iload_n hx hb d_4_8_12 rfl (lv_at hl 1 rfl) ?_
  obtain ⟨g3, hf⟩ := gif hf
  refine z0ne (tgt := 21) hx hb g3 d_4_8_13 (by decide) (fun h4 => ?_) (fun h4 => ?_)
  · replace hf := gneg hf h4
    refine lv_iconst (v := iI 0) hx hb d_4_8_21 rfl ?_
    exact b_Layout_lead_22 X hf hZ hS (lv_sub hl [] rfl)
  · replace hf := gpos hf h4
    refine lv_bipush (v := iI 12) hx hb d_4_8_16 (by decide) ?_
    refine lv_goto (tgt := 22) hx hb d_4_8_18 (by decide) ?_
    exact b_Layout_lead_22 X hf hZ hS (lv_sub hl [] rfl)

abbrev Q_Layout_price (K : zK) (D : va_G) (ca : Nat → ClassId) (ad : Nat → Int → Nat → Nat) (L : List Nat) (r : Int) (F : zF) (B : zB) (A : Nat → Prop) : Array Value → State → Outcome → State → Prop := va_Ql (S := Unit) (fun p _ => p = lI r) (fun _ => zPo D ca ad lnC K.2 L F B A) A
def f_Layout_price_34 (K : zK) (s0 : Int) (F : zF) (B : zB) : zO := some (s0, F, B)
set_option maxHeartbeats 4000000 in
set_option maxRecDepth 100000 in
theorem b_Layout_price_34 {D : va_G} {ca : Nat → ClassId} {ad : Nat → Int → Nat → Nat} {L : List Nat} {aS vS : Nat → Nat} {A : Nat → Prop} {p : Program} {l : Launch} {e : Env} {s : State} {m : MethodId} {args : Array Value} {below : List Frame} {meth : Method} {c : Code} {K : zK} {r : Int} {F9 : zF} {B9 : zB} (X : zX D ca L aS vS A p s m args meth c prog_4_method_11_code 5 (Option.some Jvm.ClassFile.FieldType.long) "StaveHouse$Layout") {s0 : Int} {F : zF} {B : zB} {H : Heap} {locs : List Loc} {ls : Array Slot} (hf : f_Layout_price_34 K s0 F B = some (r, F9, B9)) (hZ : zH D ca ad lnC K.2 L F B A H) (hS : va_S A s.heap H locs) (hl : lv_has ls 5 []) : W p l e ({ frames := 0, cells := 0, slots := 0, locals := 0 } : Room) s m args below meth c H locs 0 0 (MQ below (Q_Layout_price K D ca ad L r F9 B9 A) args s 0 0 A) (F0 m 34 ls [.long (lI s0)]) := by
  obtain ⟨hx, hb, hr, hml, hown, hts, hlk, hK, hA, hL, hX⟩ := id X
  replace hf : (some (s0, F, B)) = some (r, F9, B9) := hf
  cases hf
  exact W.lret hx hb hr (fun t ht hW => ⟨⟨_, (), rfl, rfl, by rw [ht]; exact hZ, va_K.moved hW.alike hK⟩, hS.F ht⟩) hS.2.2 d_4_11_34 hlk

def f_Layout_price (K : zK) (l0 : Int) (l2 : Int) (l4 : Int) (F : zF) (B : zB) : zO := if r64 l2 then if r64 l0 then (if (zcmp l2 l0) ≤ 0 then if r32 l4 then (if l4 = 0 then f_Layout_price_34 K ((l0 - l2) * (l0 - l2)) F B else f_Layout_price_34 K 0 F B) else none else some ((4 * (l2 - l0)) * (l2 - l0), F, B)) else none else none
set_option maxHeartbeats 4000000 in
set_option maxRecDepth 100000 in
theorem c_Layout_price {l : Launch} {D : va_G} {ca : Nat → ClassId} {ad : Nat → Int → Nat → Nat} {L : List Nat} {aS vS : Nat → Nat} {sz : Nat} {K : zK}  {l0 : Int} {l2 : Int} {l4 : Int} {F F9 : zF} {B B9 : zB} {r : Int} (hf : f_Layout_price K l0 l2 l4 F B = some (r, F9, B9)) : Met l ({ cls := "StaveHouse$Layout", name := "price", desc := "(JJZ)J" } : Jvm.MethodName) (Cond.code ({ cls := "StaveHouse$Layout", name := "price", desc := "(JJZ)J" } : Jvm.MethodName) prog_4_method_11_code 5 (Option.some Jvm.ClassFile.FieldType.long) :: wAll) ({ frames := 0, cells := 0, slots := 0, locals := 0 } : Room) (va_Pc [.long (lI l0), .long (lI l2), .int (iI l4)] (zPre D ca ad lnC K.2 L aS vS F B sz)) (Q_Layout_price K D ca ad L r F9 B9 (zA L sz)) 0 0 (zA L sz) := by
  refine zMet (Qc := Q_Layout_price K D ca ad L r F9 B9) (lv := [(0, .long (lI l0)), (2, .long (lI l2)), (4, .int (iI l4))]) (by decide) (Nat.le_of_ble_eq_true rfl) rfl (fun A p e s m below meth c ls X hZ hS hl => ?_)
  obtain ⟨hx, hb, hr, hml, hown, hts, hlk, hK, hA, hL, hX⟩ := id X
  replace hf : (if r64 l2 then if r64 l0 then (if (zcmp l2 l0) ≤ 0 then if r32 l4 then (if l4 = 0 then f_Layout_price_34 K ((l0 - l2) * (l0 - l2)) F B else f_Layout_price_34 K 0 F B) else none else some ((4 * (l2 - l0)) * (l2 - l0), F, B)) else none else none) = some (r, F9, B9) := hf
  refine lv_lload_n hx hb d_4_11_0 rfl (lv_at hl 1 rfl) ?_
  refine lv_lload_n hx hb d_4_11_1 rfl (lv_at hl 0 rfl) ?_
  obtain ⟨g1, hf⟩ := gif hf
  obtain ⟨g2, hf⟩ := gif hf
  refine zcmp_r hx hb g1 g2 d_4_11_2 ?_
  refine z0le (tgt := 18) hx hb zcmp_32 d_4_11_3 (by decide) (fun h3 => ?_) (fun h3 => ?_)
  · replace hf := gpos hf h3
    refine lv_iload hx hb d_4_11_18 (lv_at hl 2 rfl) ?_
    obtain ⟨g4, hf⟩ := gif hf
    refine z0eq (tgt := 27) hx hb g4 d_4_11_20 (by decide) (fun h5 => ?_) (fun h5 => ?_)
    · replace hf := gpos hf h5
      refine lv_lload_n hx hb d_4_11_27 rfl (lv_at hl 0 rfl) ?_
      refine lv_lload_n hx hb d_4_11_28 rfl (lv_at hl 1 rfl) ?_
      refine zlsub hx hb d_4_11_29 ?_
      refine lv_lload_n hx hb d_4_11_30 rfl (lv_at hl 0 rfl) ?_
      refine lv_lload_n hx hb d_4_11_31 rfl (lv_at hl 1 rfl) ?_
      refine zlsub hx hb d_4_11_32 ?_
      refine zlmul hx hb d_4_11_33 ?_
      exact b_Layout_price_34 X hf hZ hS (lv_sub hl [] rfl)
    · replace hf := gneg hf h5
      refine lv_lconst (v := lI 0) hx hb d_4_11_23 (by decide) ?_
      refine lv_goto (tgt := 34) hx hb d_4_11_24 (by decide) ?_
      exact b_Layout_price_34 X hf hZ hS (lv_sub hl [] rfl)
  · replace hf := gneg hf h3
    refine lv_ldc2 hx hb hown (hts _ k_7_58) d_4_11_6 ?_
    refine W.eq (g2 := F0 m 9 ls [.long (lI 4)]) rfl ?_
    refine lv_lload_n hx hb d_4_11_9 rfl (lv_at hl 1 rfl) ?_
    refine lv_lload_n hx hb d_4_11_10 rfl (lv_at hl 0 rfl) ?_
    refine zlsub hx hb d_4_11_11 ?_
    refine zlmul hx hb d_4_11_12 ?_
    refine lv_lload_n hx hb d_4_11_13 rfl (lv_at hl 1 rfl) ?_
    refine lv_lload_n hx hb d_4_11_14 rfl (lv_at hl 0 rfl) ?_
    refine zlsub hx hb d_4_11_15 ?_
    refine zlmul hx hb d_4_11_16 ?_
    cases hf
    exact W.lret hx hb hr (fun t ht hW => ⟨⟨_, (), rfl, rfl, by rw [ht]; exact hZ, va_K.moved hW.alike hK⟩, hS.F ht⟩) hS.2.2 d_4_11_17 hlk

abbrev Q_CString_checkIndex (K : zK) (D : va_G) (ca : Nat → ClassId) (ad : Nat → Int → Nat → Nat) (L : List Nat) (r : Int) (F : zF) (B : zB) (A : Nat → Prop) : Array Value → State → Outcome → State → Prop := va_Qv (S := Unit) (fun _ => True) (fun _ => zPo D ca ad lnC K.2 L F B A) A
def f_CString_checkIndex (K : zK) (l0 : Int) (l1 : Int) (F : zF) (B : zB) : zO := none
set_option maxHeartbeats 4000000 in
set_option maxRecDepth 100000 in
theorem c_CString_checkIndex {l : Launch} {D : va_G} {ca : Nat → ClassId} {ad : Nat → Int → Nat → Nat} {L : List Nat} {aS vS : Nat → Nat} {sz : Nat} {K : zK}  {l0 : Int} {l1 : Int} {F F9 : zF} {B B9 : zB} {r : Int} (hf : f_CString_checkIndex K l0 l1 F B = some (r, F9, B9)) : Met l ({ cls := "java/lang/String", name := "checkIndex", desc := "(II)V" } : Jvm.MethodName) (Cond.code ({ cls := "java/lang/String", name := "checkIndex", desc := "(II)V" } : Jvm.MethodName) prog_21_method_155_code 2 (Option.none : Option Jvm.ClassFile.FieldType) :: wAll) ({ frames := 0, cells := 0, slots := 0, locals := 0 } : Room) (va_Pc [.int (iI l0), .int (iI l1)] (zPre D ca ad lnC K.2 L aS vS F B sz)) (Q_CString_checkIndex K D ca ad L r F9 B9 (zA L sz)) 0 0 (zA L sz) := by
  refine zMet (Qc := Q_CString_checkIndex K D ca ad L r F9 B9) (lv := [(0, .int (iI l0)), (1, .int (iI l1))]) (by decide) (Nat.le_of_ble_eq_true rfl) rfl (fun A p e s m below meth c ls X hZ hS hl => ?_)
  obtain ⟨hx, hb, hr, hml, hown, hts, hlk, hK, hA, hL, hX⟩ := id X
  replace hf : (none) = some (r, F9, B9) := hf
  refine lv_iload_n hx hb d_21_155_0 rfl (lv_at hl 0 rfl) ?_
  refine lv_iload_n hx hb d_21_155_1 rfl (lv_at hl 1 rfl) ?_
  obtain ⟨o1, ho1⟩ := zfmt hX
  refine va_gets hx hb ho1 hS hown (hts _ k_3_120) (fun _ h => h) d_21_155_2 ?_
  cases hf

abbrev Q_CPreconditions_checkIndex (K : zK) (D : va_G) (ca : Nat → ClassId) (ad : Nat → Int → Nat → Nat) (L : List Nat) (r : Int) (F : zF) (B : zB) (A : Nat → Prop) : Array Value → State → Outcome → State → Prop := va_Qi (S := Unit) (fun p _ => p = iI r) (fun _ => zPo D ca ad lnC K.2 L F B A) A
def f_CPreconditions_checkIndex_9 (K : zK) (l0 : Int) (l1 : Int) (F : zF) (B : zB) : zO := none
set_option maxHeartbeats 4000000 in
set_option maxRecDepth 100000 in
theorem b_CPreconditions_checkIndex_9 {D : va_G} {ca : Nat → ClassId} {ad : Nat → Int → Nat → Nat} {L : List Nat} {aS vS : Nat → Nat} {A : Nat → Prop} {p : Program} {l : Launch} {e : Env} {s : State} {m : MethodId} {args : Array Value} {below : List Frame} {meth : Method} {c : Code} {K : zK} {r : Int} {F9 : zF} {B9 : zB} (X : zX D ca L aS vS A p s m args meth c prog_24_method_11_code 3 (Option.some Jvm.ClassFile.FieldType.int) "jdk/internal/util/Preconditions") {l0 : Int} {l1 : Int} {F : zF} {B : zB} {H : Heap} {locs : List Loc} {ls : Array Slot} (hf : f_CPreconditions_checkIndex_9 K l0 l1 F B = some (r, F9, B9)) (hZ : zH D ca ad lnC K.2 L F B A H) (hS : va_S A s.heap H locs) (hl : lv_has ls 3 [(0, .int (iI l0)), (1, .int (iI l1))]) : W p l e ({ frames := 0, cells := 0, slots := 0, locals := 0 } : Room) s m args below meth c H locs 0 0 (MQ below (Q_CPreconditions_checkIndex K D ca ad L r F9 B9 A) args s 0 0 A) (F0 m 9 ls []) := by
  obtain ⟨hx, hb, hr, hml, hown, hts, hlk, hK, hA, hL, hX⟩ := id X
  replace hf : (none) = some (r, F9, B9) := hf
  cases hf

def f_CPreconditions_checkIndex (K : zK) (l0 : Int) (l1 : Int) (F : zF) (B : zB) : zO := if r32 l0 then (if l0 < 0 then f_CPreconditions_checkIndex_9 K l0 l1 F B else if r32 l1 then (if l0 < l1 then some (l0, F, B) else f_CPreconditions_checkIndex_9 K l0 l1 F B) else none) else none
set_option maxHeartbeats 4000000 in
set_option maxRecDepth 100000 in
theorem c_CPreconditions_checkIndex {l : Launch} {D : va_G} {ca : Nat → ClassId} {ad : Nat → Int → Nat → Nat} {L : List Nat} {aS vS : Nat → Nat} {sz : Nat} {K : zK} {l2 : Option Nat} {l0 : Int} {l1 : Int} {F F9 : zF} {B B9 : zB} {r : Int} (hf : f_CPreconditions_checkIndex K l0 l1 F B = some (r, F9, B9)) : Met l ({ cls := "jdk/internal/util/Preconditions", name := "checkIndex", desc := "(IILjava/util/function/BiFunction;)I" } : Jvm.MethodName) (Cond.code ({ cls := "jdk/internal/util/Preconditions", name := "checkIndex", desc := "(IILjava/util/function/BiFunction;)I" } : Jvm.MethodName) prog_24_method_11_code 3 (Option.some Jvm.ClassFile.FieldType.int) :: wAll) ({ frames := 0, cells := 0, slots := 0, locals := 0 } : Room) (va_Pc [.int (iI l0), .int (iI l1), va_rf l2] (zPre D ca ad lnC K.2 L aS vS F B sz)) (Q_CPreconditions_checkIndex K D ca ad L r F9 B9 (zA L sz)) 0 0 (zA L sz) := by
  refine zMet (Qc := Q_CPreconditions_checkIndex K D ca ad L r F9 B9) (lv := [(0, .int (iI l0)), (1, .int (iI l1)), (2, va_rf l2)]) (by decide) (by cases l2 <;> exact Nat.le_of_ble_eq_true rfl) (by cases l2 <;> rfl) (fun A p e s m below meth c ls X hZ hS hl => ?_)
  obtain ⟨hx, hb, hr, hml, hown, hts, hlk, hK, hA, hL, hX⟩ := id X
  replace hf : (if r32 l0 then (if l0 < 0 then f_CPreconditions_checkIndex_9 K l0 l1 F B else if r32 l1 then (if l0 < l1 then some (l0, F, B) else f_CPreconditions_checkIndex_9 K l0 l1 F B) else none) else none) = some (r, F9, B9) := hf
  refine lv_iload_n hx hb d_24_11_0 rfl (lv_at hl 0 rfl) ?_
  obtain ⟨g1, hf⟩ := gif hf
  refine z0lt (tgt := 9) hx hb g1 d_24_11_1 (by decide) (fun h2 => ?_) (fun h2 => ?_)
  · replace hf := gpos hf h2
    exact b_CPreconditions_checkIndex_9 X hf hZ hS (lv_sub hl [0, 1] rfl)
  · replace hf := gneg hf h2
    refine lv_iload_n hx hb d_24_11_4 rfl (lv_at hl 0 rfl) ?_
    refine lv_iload_n hx hb d_24_11_5 rfl (lv_at hl 1 rfl) ?_
    obtain ⟨g3, hf⟩ := gif hf
    refine zlt (tgt := 16) hx hb g1 g3 d_24_11_6 (by decide) (fun h4 => ?_) (fun h4 => ?_)
    · replace hf := gpos hf h4
      refine lv_iload_n hx hb d_24_11_16 rfl (lv_at hl 0 rfl) ?_
      cases hf
      exact W.iret hx hb hr (fun t ht hW => ⟨⟨_, (), rfl, rfl, by rw [ht]; exact hZ, va_K.moved hW.alike hK⟩, hS.F ht⟩) hS.2.2 d_24_11_17 hlk
    · replace hf := gneg hf h4
      exact b_CPreconditions_checkIndex_9 X hf hZ hS (lv_sub hl [0, 1] rfl)

abbrev Q_Integer_bitCount (K : zK) (D : va_G) (ca : Nat → ClassId) (ad : Nat → Int → Nat → Nat) (L : List Nat) (r : Int) (F : zF) (B : zB) (A : Nat → Prop) : Array Value → State → Outcome → State → Prop := va_Qi (S := Unit) (fun p _ => p = iI r) (fun _ => zPo D ca ad lnC K.2 L F B A) A
def f_Integer_bitCount (K : zK) (l0 : Int) (F : zF) (B : zB) : zO := some (zand (((zand (((zand (l0 - (zand (zushr l0 1) 1431655765)) 858993459) + (zand (zushr (l0 - (zand (zushr l0 1) 1431655765)) 2) 858993459)) + (zushr ((zand (l0 - (zand (zushr l0 1) 1431655765)) 858993459) + (zand (zushr (l0 - (zand (zushr l0 1) 1431655765)) 2) 858993459)) 4)) 252645135) + (zushr (zand (((zand (l0 - (zand (zushr l0 1) 1431655765)) 858993459) + (zand (zushr (l0 - (zand (zushr l0 1) 1431655765)) 2) 858993459)) + (zushr ((zand (l0 - (zand (zushr l0 1) 1431655765)) 858993459) + (zand (zushr (l0 - (zand (zushr l0 1) 1431655765)) 2) 858993459)) 4)) 252645135) 8)) + (zushr ((zand (((zand (l0 - (zand (zushr l0 1) 1431655765)) 858993459) + (zand (zushr (l0 - (zand (zushr l0 1) 1431655765)) 2) 858993459)) + (zushr ((zand (l0 - (zand (zushr l0 1) 1431655765)) 858993459) + (zand (zushr (l0 - (zand (zushr l0 1) 1431655765)) 2) 858993459)) 4)) 252645135) + (zushr (zand (((zand (l0 - (zand (zushr l0 1) 1431655765)) 858993459) + (zand (zushr (l0 - (zand (zushr l0 1) 1431655765)) 2) 858993459)) + (zushr ((zand (l0 - (zand (zushr l0 1) 1431655765)) 858993459) + (zand (zushr (l0 - (zand (zushr l0 1) 1431655765)) 2) 858993459)) 4)) 252645135) 8)) 16)) 63, F, B)
set_option maxHeartbeats 4000000 in
set_option maxRecDepth 100000 in
theorem c_Integer_bitCount {l : Launch} {D : va_G} {ca : Nat → ClassId} {ad : Nat → Int → Nat → Nat} {L : List Nat} {aS vS : Nat → Nat} {sz : Nat} {K : zK}  {l0 : Int} {F F9 : zF} {B B9 : zB} {r : Int} (hf : f_Integer_bitCount K l0 F B = some (r, F9, B9)) : Met l ({ cls := "java/lang/Integer", name := "bitCount", desc := "(I)I" } : Jvm.MethodName) (Cond.code ({ cls := "java/lang/Integer", name := "bitCount", desc := "(I)I" } : Jvm.MethodName) prog_18_method_49_code 1 (Option.some Jvm.ClassFile.FieldType.int) :: wAll) ({ frames := 0, cells := 0, slots := 0, locals := 0 } : Room) (va_Pc [.int (iI l0)] (zPre D ca ad lnC K.2 L aS vS F B sz)) (Q_Integer_bitCount K D ca ad L r F9 B9 (zA L sz)) 0 0 (zA L sz) := by
  refine zMet (Qc := Q_Integer_bitCount K D ca ad L r F9 B9) (lv := [(0, .int (iI l0))]) (by decide) (Nat.le_of_ble_eq_true rfl) rfl (fun A p e s m below meth c ls X hZ hS hl => ?_)
  obtain ⟨hx, hb, hr, hml, hown, hts, hlk, hK, hA, hL, hX⟩ := id X
  replace hf : (some (zand (((zand (((zand (l0 - (zand (zushr l0 1) 1431655765)) 858993459) + (zand (zushr (l0 - (zand (zushr l0 1) 1431655765)) 2) 858993459)) + (zushr ((zand (l0 - (zand (zushr l0 1) 1431655765)) 858993459) + (zand (zushr (l0 - (zand (zushr l0 1) 1431655765)) 2) 858993459)) 4)) 252645135) + (zushr (zand (((zand (l0 - (zand (zushr l0 1) 1431655765)) 858993459) + (zand (zushr (l0 - (zand (zushr l0 1) 1431655765)) 2) 858993459)) + (zushr ((zand (l0 - (zand (zushr l0 1) 1431655765)) 858993459) + (zand (zushr (l0 - (zand (zushr l0 1) 1431655765)) 2) 858993459)) 4)) 252645135) 8)) + (zushr ((zand (((zand (l0 - (zand (zushr l0 1) 1431655765)) 858993459) + (zand (zushr (l0 - (zand (zushr l0 1) 1431655765)) 2) 858993459)) + (zushr ((zand (l0 - (zand (zushr l0 1) 1431655765)) 858993459) + (zand (zushr (l0 - (zand (zushr l0 1) 1431655765)) 2) 858993459)) 4)) 252645135) + (zushr (zand (((zand (l0 - (zand (zushr l0 1) 1431655765)) 858993459) + (zand (zushr (l0 - (zand (zushr l0 1) 1431655765)) 2) 858993459)) + (zushr ((zand (l0 - (zand (zushr l0 1) 1431655765)) 858993459) + (zand (zushr (l0 - (zand (zushr l0 1) 1431655765)) 2) 858993459)) 4)) 252645135) 8)) 16)) 63, F, B)) = some (r, F9, B9) := hf
  refine lv_iload_n hx hb d_18_49_0 rfl (lv_at hl 0 rfl) ?_
  refine lv_iload_n hx hb d_18_49_1 rfl (lv_at hl 0 rfl) ?_
  refine lv_iconst (v := iI 1) hx hb d_18_49_2 rfl ?_
  refine zushr_r hx hb d_18_49_3 ?_
  refine lv_ldcw hx hb hown (hts _ k_7_172) d_18_49_4 ?_
  refine W.eq (g2 := F0 m 7 ls [.int (iI 1431655765), .int (iI (zushr l0 1)), .int (iI l0)]) rfl ?_
  refine zand_r hx hb d_18_49_7 ?_
  refine zsub hx hb d_18_49_8 ?_
  refine lv_istore_n (lv' := [(0, .int (iI (l0 - (zand (zushr l0 1) 1431655765))))]) hx hb d_18_49_9 rfl hl (by decide) rfl (fun ls hl => ?_)
  refine lv_iload_n hx hb d_18_49_10 rfl (lv_at hl 0 rfl) ?_
  refine lv_ldcw hx hb hown (hts _ k_7_173) d_18_49_11 ?_
  refine W.eq (g2 := F0 m 14 ls [.int (iI 858993459), .int (iI (l0 - (zand (zushr l0 1) 1431655765)))]) rfl ?_
  refine zand_r hx hb d_18_49_14 ?_
  refine lv_iload_n hx hb d_18_49_15 rfl (lv_at hl 0 rfl) ?_
  refine lv_iconst (v := iI 2) hx hb d_18_49_16 rfl ?_
  refine zushr_r hx hb d_18_49_17 ?_
  refine lv_ldcw hx hb hown (hts _ k_7_173) d_18_49_18 ?_
  refine W.eq (g2 := F0 m 21 ls [.int (iI 858993459), .int (iI (zushr (l0 - (zand (zushr l0 1) 1431655765)) 2)), .int (iI (zand (l0 - (zand (zushr l0 1) 1431655765)) 858993459))]) rfl ?_
  refine zand_r hx hb d_18_49_21 ?_
  refine zadd hx hb d_18_49_22 ?_
  refine lv_istore_n (lv' := [(0, .int (iI ((zand (l0 - (zand (zushr l0 1) 1431655765)) 858993459) + (zand (zushr (l0 - (zand (zushr l0 1) 1431655765)) 2) 858993459))))]) hx hb d_18_49_23 rfl hl (by decide) rfl (fun ls hl => ?_)
  refine lv_iload_n hx hb d_18_49_24 rfl (lv_at hl 0 rfl) ?_
  refine lv_iload_n hx hb d_18_49_25 rfl (lv_at hl 0 rfl) ?_
  refine lv_iconst (v := iI 4) hx hb d_18_49_26 rfl ?_
  refine zushr_r hx hb d_18_49_27 ?_
  refine zadd hx hb d_18_49_28 ?_
  refine lv_ldcw hx hb hown (hts _ k_7_174) d_18_49_29 ?_
  refine W.eq (g2 := F0 m 32 ls [.int (iI 252645135), .int (iI (((zand (l0 - (zand (zushr l0 1) 1431655765)) 858993459) + (zand (zushr (l0 - (zand (zushr l0 1) 1431655765)) 2) 858993459)) + (zushr ((zand (l0 - (zand (zushr l0 1) 1431655765)) 858993459) + (zand (zushr (l0 - (zand (zushr l0 1) 1431655765)) 2) 858993459)) 4)))]) rfl ?_
  refine zand_r hx hb d_18_49_32 ?_
  refine lv_istore_n (lv' := [(0, .int (iI (zand (((zand (l0 - (zand (zushr l0 1) 1431655765)) 858993459) + (zand (zushr (l0 - (zand (zushr l0 1) 1431655765)) 2) 858993459)) + (zushr ((zand (l0 - (zand (zushr l0 1) 1431655765)) 858993459) + (zand (zushr (l0 - (zand (zushr l0 1) 1431655765)) 2) 858993459)) 4)) 252645135)))]) hx hb d_18_49_33 rfl hl (by decide) rfl (fun ls hl => ?_)
  refine lv_iload_n hx hb d_18_49_34 rfl (lv_at hl 0 rfl) ?_
  refine lv_iload_n hx hb d_18_49_35 rfl (lv_at hl 0 rfl) ?_
  refine lv_bipush (v := iI 8) hx hb d_18_49_36 (by decide) ?_
  refine zushr_r hx hb d_18_49_38 ?_
  refine zadd hx hb d_18_49_39 ?_
  refine lv_istore_n (lv' := [(0, .int (iI ((zand (((zand (l0 - (zand (zushr l0 1) 1431655765)) 858993459) + (zand (zushr (l0 - (zand (zushr l0 1) 1431655765)) 2) 858993459)) + (zushr ((zand (l0 - (zand (zushr l0 1) 1431655765)) 858993459) + (zand (zushr (l0 - (zand (zushr l0 1) 1431655765)) 2) 858993459)) 4)) 252645135) + (zushr (zand (((zand (l0 - (zand (zushr l0 1) 1431655765)) 858993459) + (zand (zushr (l0 - (zand (zushr l0 1) 1431655765)) 2) 858993459)) + (zushr ((zand (l0 - (zand (zushr l0 1) 1431655765)) 858993459) + (zand (zushr (l0 - (zand (zushr l0 1) 1431655765)) 2) 858993459)) 4)) 252645135) 8))))]) hx hb d_18_49_40 rfl hl (by decide) rfl (fun ls hl => ?_)
  refine lv_iload_n hx hb d_18_49_41 rfl (lv_at hl 0 rfl) ?_
  refine lv_iload_n hx hb d_18_49_42 rfl (lv_at hl 0 rfl) ?_
  refine lv_bipush (v := iI 16) hx hb d_18_49_43 (by decide) ?_
  refine zushr_r hx hb d_18_49_45 ?_
  refine zadd hx hb d_18_49_46 ?_
  refine lv_istore_n (lv' := [(0, .int (iI (((zand (((zand (l0 - (zand (zushr l0 1) 1431655765)) 858993459) + (zand (zushr (l0 - (zand (zushr l0 1) 1431655765)) 2) 858993459)) + (zushr ((zand (l0 - (zand (zushr l0 1) 1431655765)) 858993459) + (zand (zushr (l0 - (zand (zushr l0 1) 1431655765)) 2) 858993459)) 4)) 252645135) + (zushr (zand (((zand (l0 - (zand (zushr l0 1) 1431655765)) 858993459) + (zand (zushr (l0 - (zand (zushr l0 1) 1431655765)) 2) 858993459)) + (zushr ((zand (l0 - (zand (zushr l0 1) 1431655765)) 858993459) + (zand (zushr (l0 - (zand (zushr l0 1) 1431655765)) 2) 858993459)) 4)) 252645135) 8)) + (zushr ((zand (((zand (l0 - (zand (zushr l0 1) 1431655765)) 858993459) + (zand (zushr (l0 - (zand (zushr l0 1) 1431655765)) 2) 858993459)) + (zushr ((zand (l0 - (zand (zushr l0 1) 1431655765)) 858993459) + (zand (zushr (l0 - (zand (zushr l0 1) 1431655765)) 2) 858993459)) 4)) 252645135) + (zushr (zand (((zand (l0 - (zand (zushr l0 1) 1431655765)) 858993459) + (zand (zushr (l0 - (zand (zushr l0 1) 1431655765)) 2) 858993459)) + (zushr ((zand (l0 - (zand (zushr l0 1) 1431655765)) 858993459) + (zand (zushr (l0 - (zand (zushr l0 1) 1431655765)) 2) 858993459)) 4)) 252645135) 8)) 16))))]) hx hb d_18_49_47 rfl hl (by decide) rfl (fun ls hl => ?_)
  refine lv_iload_n hx hb d_18_49_48 rfl (lv_at hl 0 rfl) ?_
  refine lv_bipush (v := iI 63) hx hb d_18_49_49 (by decide) ?_
  refine zand_r hx hb d_18_49_51 ?_
  cases hf
  exact W.iret hx hb hr (fun t ht hW => ⟨⟨_, (), rfl, rfl, by rw [ht]; exact hZ, va_K.moved hW.alike hK⟩, hS.F ht⟩) hS.2.2 d_18_49_52 hlk

abbrev Q_Performance_turn (K : zK) (D : va_G) (ca : Nat → ClassId) (ad : Nat → Int → Nat → Nat) (L : List Nat) (r : Int) (F : zF) (B : zB) (A : Nat → Prop) : Array Value → State → Outcome → State → Prop := va_Ql (S := Unit) (fun p _ => p = lI r) (fun _ => zPo D ca ad lnC K.2 L F B A) A
def f_Performance_turn_35 (K : zK) (s0 : Int) (F : zF) (B : zB) : zO := some (s0, F, B)
set_option maxHeartbeats 4000000 in
set_option maxRecDepth 100000 in
theorem b_Performance_turn_35 {D : va_G} {ca : Nat → ClassId} {ad : Nat → Int → Nat → Nat} {L : List Nat} {aS vS : Nat → Nat} {A : Nat → Prop} {p : Program} {l : Launch} {e : Env} {s : State} {m : MethodId} {args : Array Value} {below : List Frame} {meth : Method} {c : Code} {K : zK} {r : Int} {F9 : zF} {B9 : zB} (X : zX D ca L aS vS A p s m args meth c prog_7_method_26_code 4 (Option.some Jvm.ClassFile.FieldType.long) "StaveHouse$Performance") {s0 : Int} {F : zF} {B : zB} {H : Heap} {locs : List Loc} {ls : Array Slot} (hf : f_Performance_turn_35 K s0 F B = some (r, F9, B9)) (hZ : zH D ca ad lnC K.2 L F B A H) (hS : va_S A s.heap H locs) (hl : lv_has ls 4 []) : W p l e ({ frames := 0, cells := 0, slots := 0, locals := 0 } : Room) s m args below meth c H locs 0 0 (MQ below (Q_Performance_turn K D ca ad L r F9 B9 A) args s 0 0 A) (F0 m 35 ls [.long (lI s0)]) := by
  obtain ⟨hx, hb, hr, hml, hown, hts, hlk, hK, hA, hL, hX⟩ := id X
  replace hf : (some (s0, F, B)) = some (r, F9, B9) := hf
  cases hf
  exact W.lret hx hb hr (fun t ht hW => ⟨⟨_, (), rfl, rfl, by rw [ht]; exact hZ, va_K.moved hW.alike hK⟩, hS.F ht⟩) hS.2.2 d_7_26_35 hlk

def f_Performance_turn (K : zK) (l0 : Int) (F : zF) (B : zB) : zO := if 0 ≤ (zrm l0 12) ∧ (zrm l0 12) < ztl 13 then if r32 (zdv l0 12) then (if 9 < (zdv l0 12) then f_Performance_turn_35 K (zlshl (ztv 13 (zrm l0 12)) ((zdv l0 12) - 9)) F B else f_Performance_turn_35 K (zlshr (ztv 13 (zrm l0 12)) (9 - (zdv l0 12))) F B) else none else none
set_option maxHeartbeats 4000000 in
set_option maxRecDepth 100000 in
theorem c_Performance_turn {l : Launch} {D : va_G} {ca : Nat → ClassId} {ad : Nat → Int → Nat → Nat} {L : List Nat} {aS vS : Nat → Nat} {sz : Nat} {K : zK}  {l0 : Int} {F F9 : zF} {B B9 : zB} {r : Int} (hf : f_Performance_turn K l0 F B = some (r, F9, B9)) : Met l ({ cls := "StaveHouse$Performance", name := "turn", desc := "(I)J" } : Jvm.MethodName) (Cond.code ({ cls := "StaveHouse$Performance", name := "turn", desc := "(I)J" } : Jvm.MethodName) prog_7_method_26_code 4 (Option.some Jvm.ClassFile.FieldType.long) :: wAll) ({ frames := 0, cells := 0, slots := 0, locals := 0 } : Room) (va_Pc [.int (iI l0)] (zPre D ca ad lnC K.2 L aS vS F B sz)) (Q_Performance_turn K D ca ad L r F9 B9 (zA L sz)) 0 0 (zA L sz) := by
  refine zMet (Qc := Q_Performance_turn K D ca ad L r F9 B9) (lv := [(0, .int (iI l0))]) (by decide) (Nat.le_of_ble_eq_true rfl) rfl (fun A p e s m below meth c ls X hZ hS hl => ?_)
  obtain ⟨hx, hb, hr, hml, hown, hts, hlk, hK, hA, hL, hX⟩ := id X
  replace hf : (if 0 ≤ (zrm l0 12) ∧ (zrm l0 12) < ztl 13 then if r32 (zdv l0 12) then (if 9 < (zdv l0 12) then f_Performance_turn_35 K (zlshl (ztv 13 (zrm l0 12)) ((zdv l0 12) - 9)) F B else f_Performance_turn_35 K (zlshr (ztv 13 (zrm l0 12)) (9 - (zdv l0 12))) F B) else none else none) = some (r, F9, B9) := hf
  refine lv_iload_n hx hb d_7_26_0 rfl (lv_at hl 0 rfl) ?_
  refine lv_bipush (v := iI 12) hx hb d_7_26_1 (by decide) ?_
  refine zdv_r hx hb (by decide) d_7_26_3 ?_
  refine lv_istore_n (lv' := [(1, .int (iI (zdv l0 12))), (0, .int (iI l0))]) hx hb d_7_26_4 rfl hl (by decide) rfl (fun ls hl => ?_)
  refine va_gets hx hb (hX.2.2.2.2.2.2 13 _ rfl).1 hS hown (hts _ k_9_10) (fun _ h => h) d_7_26_5 ?_
  refine W.eq (g2 := F0 m 8 ls [.ref (vS (1000 + 13))]) rfl ?_
  refine lv_iload_n hx hb d_7_26_8 rfl (lv_at hl 1 rfl) ?_
  refine lv_bipush (v := iI 12) hx hb d_7_26_9 (by decide) ?_
  refine zrm_r hx hb (by decide) d_7_26_11 ?_
  obtain ⟨g1, hf⟩ := gif hf
  refine va_tl (v := .long (lI (ztv 13 (zrm l0 12)))) hx hb (ztL hX (by decide) (by decide)) hS (zt_in (by decide) g1) (ztL_v (by decide) g1) d_7_26_12 ?_
  refine lv_lstore_n (lv' := [(2, .long (lI (ztv 13 (zrm l0 12)))), (1, .int (iI (zdv l0 12))), (0, .int (iI l0))]) hx hb d_7_26_13 rfl hl (by decide) rfl (fun ls hl => ?_)
  refine lv_iload_n hx hb d_7_26_14 rfl (lv_at hl 1 rfl) ?_
  refine lv_bipush (v := iI 9) hx hb d_7_26_15 (by decide) ?_
  obtain ⟨g2, hf⟩ := gif hf
  refine zgt (tgt := 29) hx hb g2 (by decide) d_7_26_17 (by decide) (fun h3 => ?_) (fun h3 => ?_)
  · replace hf := gpos hf h3
    refine lv_lload_n hx hb d_7_26_29 rfl (lv_at hl 0 rfl) ?_
    refine lv_iload_n hx hb d_7_26_30 rfl (lv_at hl 1 rfl) ?_
    refine lv_bipush (v := iI 9) hx hb d_7_26_31 (by decide) ?_
    refine zsub hx hb d_7_26_33 ?_
    refine zlshl_r hx hb d_7_26_34 ?_
    exact b_Performance_turn_35 X hf hZ hS (lv_sub hl [] rfl)
  · replace hf := gneg hf h3
    refine lv_lload_n hx hb d_7_26_20 rfl (lv_at hl 0 rfl) ?_
    refine lv_bipush (v := iI 9) hx hb d_7_26_21 (by decide) ?_
    refine lv_iload_n hx hb d_7_26_23 rfl (lv_at hl 1 rfl) ?_
    refine zsub hx hb d_7_26_24 ?_
    refine zlshr_r hx hb d_7_26_25 ?_
    refine lv_goto (tgt := 35) hx hb d_7_26_26 (by decide) ?_
    exact b_Performance_turn_35 X hf hZ hS (lv_sub hl [] rfl)

abbrev Q_Performance_wave (K : zK) (D : va_G) (ca : Nat → ClassId) (ad : Nat → Int → Nat → Nat) (L : List Nat) (r : Int) (F : zF) (B : zB) (A : Nat → Prop) : Array Value → State → Outcome → State → Prop := va_Qi (S := Unit) (fun p _ => p = iI r) (fun _ => zPo D ca ad lnC K.2 L F B A) A
def f_Performance_wave_66 (K : zK) (s0 : Int) (F : zF) (B : zB) : zO := some (s0, F, B)
set_option maxHeartbeats 4000000 in
set_option maxRecDepth 100000 in
theorem b_Performance_wave_66 {D : va_G} {ca : Nat → ClassId} {ad : Nat → Int → Nat → Nat} {L : List Nat} {aS vS : Nat → Nat} {A : Nat → Prop} {p : Program} {l : Launch} {e : Env} {s : State} {m : MethodId} {args : Array Value} {below : List Frame} {meth : Method} {c : Code} {K : zK} {r : Int} {F9 : zF} {B9 : zB} (X : zX D ca L aS vS A p s m args meth c prog_7_method_27_code 3 (Option.some Jvm.ClassFile.FieldType.int) "StaveHouse$Performance") {s0 : Int} {F : zF} {B : zB} {H : Heap} {locs : List Loc} {ls : Array Slot} (hf : f_Performance_wave_66 K s0 F B = some (r, F9, B9)) (hZ : zH D ca ad lnC K.2 L F B A H) (hS : va_S A s.heap H locs) (hl : lv_has ls 3 []) : W p l e ({ frames := 1, cells := 0, slots := 0, locals := 15 } : Room) s m args below meth c H locs 0 0 (MQ below (Q_Performance_wave K D ca ad L r F9 B9 A) args s 0 0 A) (F0 m 66 ls [.int (iI s0)]) := by
  obtain ⟨hx, hb, hr, hml, hown, hts, hlk, hK, hA, hL, hX⟩ := id X
  replace hf : (some (s0, F, B)) = some (r, F9, B9) := hf
  cases hf
  exact W.iret hx hb hr (fun t ht hW => ⟨⟨_, (), rfl, rfl, by rw [ht]; exact hZ, va_K.moved hW.alike hK⟩, hS.F ht⟩) hS.2.2 d_7_27_66 hlk

def f_Performance_wave_24 (K : zK) (l0 : Int) (l1 : Int) (s0 : Int) (F : zF) (B : zB) : zO := if r32 l0 then (if l0 = 0 then if r32 l1 then (if 128 ≤ l1 then f_Performance_wave_66 K (-96) F B else f_Performance_wave_66 K 96 F B) else none else (if l0 = 1 then some (l1 - 128, F, B) else (if l0 = 2 then some (s0, F, B) else if r32 s0 then some (zdv (s0 * (128 - (zabs s0))) 32, F, B) else none))) else none
set_option maxHeartbeats 4000000 in
set_option maxRecDepth 100000 in
theorem b_Performance_wave_24 {D : va_G} {ca : Nat → ClassId} {ad : Nat → Int → Nat → Nat} {L : List Nat} {aS vS : Nat → Nat} {A : Nat → Prop} {p : Program} {l : Launch} {e : Env} {s : State} {m : MethodId} {args : Array Value} {below : List Frame} {meth : Method} {c : Code} {K : zK} {r : Int} {F9 : zF} {B9 : zB} (X : zX D ca L aS vS A p s m args meth c prog_7_method_27_code 3 (Option.some Jvm.ClassFile.FieldType.int) "StaveHouse$Performance") {l0 : Int} {l1 : Int} {s0 : Int} {F : zF} {B : zB} {H : Heap} {locs : List Loc} {ls : Array Slot} (hf : f_Performance_wave_24 K l0 l1 s0 F B = some (r, F9, B9)) (hZ : zH D ca ad lnC K.2 L F B A H) (hS : va_S A s.heap H locs) (hl : lv_has ls 3 [(0, .int (iI l0)), (1, .int (iI l1))]) : W p l e ({ frames := 1, cells := 0, slots := 0, locals := 15 } : Room) s m args below meth c H locs 0 0 (MQ below (Q_Performance_wave K D ca ad L r F9 B9 A) args s 0 0 A) (F0 m 24 ls [.int (iI s0)]) := by
  obtain ⟨hx, hb, hr, hml, hown, hts, hlk, hK, hA, hL, hX⟩ := id X
  replace hf : (if r32 l0 then (if l0 = 0 then if r32 l1 then (if 128 ≤ l1 then f_Performance_wave_66 K (-96) F B else f_Performance_wave_66 K 96 F B) else none else (if l0 = 1 then some (l1 - 128, F, B) else (if l0 = 2 then some (s0, F, B) else if r32 s0 then some (zdv (s0 * (128 - (zabs s0))) 32, F, B) else none))) else none) = some (r, F9, B9) := hf
  refine lv_istore_n (lv' := [(2, .int (iI s0)), (0, .int (iI l0)), (1, .int (iI l1))]) hx hb d_7_27_24 rfl hl (by decide) rfl (fun ls hl => ?_)
  refine lv_iload_n hx hb d_7_27_25 rfl (lv_at hl 1 rfl) ?_
  obtain ⟨g3, hf⟩ := gif hf
  by_cases h4 : l0 = 0
  · replace hf := gpos hf h4
    refine lv_tableIn (off := 26) (tgt := 52) hx hb d_7_27_26 (by rw [iI_to g3, h4]; decide) (by rw [iI_to g3, h4]; decide) (by rw [iI_to g3, h4]; rfl) (by decide) ?_
    refine lv_iload_n hx hb d_7_27_52 rfl (lv_at hl 2 rfl) ?_
    refine lv_sipush (v := iI 128) hx hb d_7_27_53 (by decide) ?_
    obtain ⟨g5, hf⟩ := gif hf
    refine zge (tgt := 64) hx hb g5 (by decide) d_7_27_56 (by decide) (fun h6 => ?_) (fun h6 => ?_)
    · replace hf := gpos hf h6
      refine lv_bipush (v := iI (-96)) hx hb d_7_27_64 (by decide) ?_
      exact b_Performance_wave_66 X hf hZ hS (lv_sub hl [] rfl)
    · replace hf := gneg hf h6
      refine lv_bipush (v := iI 96) hx hb d_7_27_59 (by decide) ?_
      refine lv_goto (tgt := 66) hx hb d_7_27_61 (by decide) ?_
      exact b_Performance_wave_66 X hf hZ hS (lv_sub hl [] rfl)
  replace hf := gneg hf h4
  by_cases h7 : l0 = 1
  · replace hf := gpos hf h7
    refine lv_tableIn (off := 41) (tgt := 67) hx hb d_7_27_26 (by rw [iI_to g3, h7]; decide) (by rw [iI_to g3, h7]; decide) (by rw [iI_to g3, h7]; rfl) (by decide) ?_
    refine lv_iload_n hx hb d_7_27_67 rfl (lv_at hl 2 rfl) ?_
    refine lv_sipush (v := iI 128) hx hb d_7_27_68 (by decide) ?_
    refine zsub hx hb d_7_27_71 ?_
    cases hf
    exact W.iret hx hb hr (fun t ht hW => ⟨⟨_, (), rfl, rfl, by rw [ht]; exact hZ, va_K.moved hW.alike hK⟩, hS.F ht⟩) hS.2.2 d_7_27_72 hlk
  replace hf := gneg hf h7
  by_cases h8 : l0 = 2
  · replace hf := gpos hf h8
    refine lv_tableIn (off := 47) (tgt := 73) hx hb d_7_27_26 (by rw [iI_to g3, h8]; decide) (by rw [iI_to g3, h8]; decide) (by rw [iI_to g3, h8]; rfl) (by decide) ?_
    refine lv_iload_n hx hb d_7_27_73 rfl (lv_at hl 0 rfl) ?_
    cases hf
    exact W.iret hx hb hr (fun t ht hW => ⟨⟨_, (), rfl, rfl, by rw [ht]; exact hZ, va_K.moved hW.alike hK⟩, hS.F ht⟩) hS.2.2 d_7_27_74 hlk
  replace hf := gneg hf h8
  refine lv_tableOut (tgt := 75) hx hb d_7_27_26 (by rw [iI_to g3]; omega) (by decide) ?_
  refine lv_iload_n hx hb d_7_27_75 rfl (lv_at hl 0 rfl) ?_
  refine lv_sipush (v := iI 128) hx hb d_7_27_76 (by decide) ?_
  refine lv_iload_n hx hb d_7_27_79 rfl (lv_at hl 0 rfl) ?_
  obtain ⟨g9, hf⟩ := gif hf
  refine va_mabs hx hb (by rw [hml]; exact hl.1.symm) hown (hts _ k_9_15) (hts _ k_4_229) (hts _ k_1_3) (hts _ k_4_230) (Nat.le_of_ble_eq_true rfl) (Nat.le_of_ble_eq_true rfl) (Nat.le_of_ble_eq_true rfl) (Nat.le_of_ble_eq_true rfl) d_7_27_80 ?_
  rw [zabs_e g9]
  refine zsub hx hb d_7_27_83 ?_
  refine zmul hx hb d_7_27_84 ?_
  refine lv_bipush (v := iI 32) hx hb d_7_27_85 (by decide) ?_
  refine zdv_r hx hb (by decide) d_7_27_87 ?_
  cases hf
  exact W.iret hx hb hr (fun t ht hW => ⟨⟨_, (), rfl, rfl, by rw [ht]; exact hZ, va_K.moved hW.alike hK⟩, hS.F ht⟩) hS.2.2 d_7_27_88 hlk

def f_Performance_wave (K : zK) (l0 : Int) (l1 : Int) (F : zF) (B : zB) : zO := if r32 l1 then (if 128 ≤ l1 then f_Performance_wave_24 K l0 l1 (383 - (2 * l1)) F B else f_Performance_wave_24 K l0 l1 ((2 * l1) - 128) F B) else none
set_option maxHeartbeats 4000000 in
set_option maxRecDepth 100000 in
theorem c_Performance_wave {l : Launch} {D : va_G} {ca : Nat → ClassId} {ad : Nat → Int → Nat → Nat} {L : List Nat} {aS vS : Nat → Nat} {sz : Nat} {K : zK}  {l0 : Int} {l1 : Int} {F F9 : zF} {B B9 : zB} {r : Int} (hf : f_Performance_wave K l0 l1 F B = some (r, F9, B9)) : Met l ({ cls := "StaveHouse$Performance", name := "wave", desc := "(II)I" } : Jvm.MethodName) (Cond.code ({ cls := "StaveHouse$Performance", name := "wave", desc := "(II)I" } : Jvm.MethodName) prog_7_method_27_code 3 (Option.some Jvm.ClassFile.FieldType.int) :: wAll) ({ frames := 1, cells := 0, slots := 0, locals := 15 } : Room) (va_Pc [.int (iI l0), .int (iI l1)] (zPre D ca ad lnC K.2 L aS vS F B sz)) (Q_Performance_wave K D ca ad L r F9 B9 (zA L sz)) 0 0 (zA L sz) := by
  refine zMet (Qc := Q_Performance_wave K D ca ad L r F9 B9) (lv := [(0, .int (iI l0)), (1, .int (iI l1))]) (by decide) (Nat.le_of_ble_eq_true rfl) rfl (fun A p e s m below meth c ls X hZ hS hl => ?_)
  obtain ⟨hx, hb, hr, hml, hown, hts, hlk, hK, hA, hL, hX⟩ := id X
  replace hf : (if r32 l1 then (if 128 ≤ l1 then f_Performance_wave_24 K l0 l1 (383 - (2 * l1)) F B else f_Performance_wave_24 K l0 l1 ((2 * l1) - 128) F B) else none) = some (r, F9, B9) := hf
  refine lv_iload_n hx hb d_7_27_0 rfl (lv_at hl 1 rfl) ?_
  refine lv_sipush (v := iI 128) hx hb d_7_27_1 (by decide) ?_
  obtain ⟨g1, hf⟩ := gif hf
  refine zge (tgt := 17) hx hb g1 (by decide) d_7_27_4 (by decide) (fun h2 => ?_) (fun h2 => ?_)
  · replace hf := gpos hf h2
    refine lv_sipush (v := iI 383) hx hb d_7_27_17 (by decide) ?_
    refine lv_iconst (v := iI 2) hx hb d_7_27_20 rfl ?_
    refine lv_iload_n hx hb d_7_27_21 rfl (lv_at hl 1 rfl) ?_
    refine zmul hx hb d_7_27_22 ?_
    refine zsub hx hb d_7_27_23 ?_
    exact b_Performance_wave_24 X hf hZ hS (lv_sub hl [0, 1] rfl)
  · replace hf := gneg hf h2
    refine lv_iconst (v := iI 2) hx hb d_7_27_7 rfl ?_
    refine lv_iload_n hx hb d_7_27_8 rfl (lv_at hl 1 rfl) ?_
    refine zmul hx hb d_7_27_9 ?_
    refine lv_sipush (v := iI 128) hx hb d_7_27_10 (by decide) ?_
    refine zsub hx hb d_7_27_13 ?_
    refine lv_goto (tgt := 24) hx hb d_7_27_14 (by decide) ?_
    exact b_Performance_wave_24 X hf hZ hS (lv_sub hl [0, 1] rfl)

abbrev Q_Performance_rise (K : zK) (D : va_G) (ca : Nat → ClassId) (ad : Nat → Int → Nat → Nat) (L : List Nat) (r : Int) (F : zF) (B : zB) (A : Nat → Prop) : Array Value → State → Outcome → State → Prop := va_Qi (S := Unit) (fun p _ => p = iI r) (fun _ => zPo D ca ad lnC K.2 L F B A) A
def f_Performance_rise_34 (K : zK) (s0 : Int) (F : zF) (B : zB) : zO := some (s0, F, B)
set_option maxHeartbeats 4000000 in
set_option maxRecDepth 100000 in
theorem b_Performance_rise_34 {D : va_G} {ca : Nat → ClassId} {ad : Nat → Int → Nat → Nat} {L : List Nat} {aS vS : Nat → Nat} {A : Nat → Prop} {p : Program} {l : Launch} {e : Env} {s : State} {m : MethodId} {args : Array Value} {below : List Frame} {meth : Method} {c : Code} {K : zK} {r : Int} {F9 : zF} {B9 : zB} (X : zX D ca L aS vS A p s m args meth c prog_7_method_28_code 1 (Option.some Jvm.ClassFile.FieldType.int) "StaveHouse$Performance") {s0 : Int} {F : zF} {B : zB} {H : Heap} {locs : List Loc} {ls : Array Slot} (hf : f_Performance_rise_34 K s0 F B = some (r, F9, B9)) (hZ : zH D ca ad lnC K.2 L F B A H) (hS : va_S A s.heap H locs) (hl : lv_has ls 1 []) : W p l e ({ frames := 1, cells := 0, slots := 0, locals := 13 } : Room) s m args below meth c H locs 0 0 (MQ below (Q_Performance_rise K D ca ad L r F9 B9 A) args s 0 0 A) (F0 m 34 ls [.int (iI s0)]) := by
  obtain ⟨hx, hb, hr, hml, hown, hts, hlk, hK, hA, hL, hX⟩ := id X
  replace hf : (some (s0, F, B)) = some (r, F9, B9) := hf
  cases hf
  exact W.iret hx hb hr (fun t ht hW => ⟨⟨_, (), rfl, rfl, by rw [ht]; exact hZ, va_K.moved hW.alike hK⟩, hS.F ht⟩) hS.2.2 d_7_28_34 hlk

def f_Performance_rise (K : zK) (l0 : Int) (F : zF) (B : zB) : zO := if r32 l0 then (if 40 ≤ l0 then if r32 (256 - (zdv (l0 - 40) 16)) then f_Performance_rise_34 K (zmax (256 - (zdv (l0 - 40) 16)) 128) F B else none else f_Performance_rise_34 K (zdv (256 * l0) 40) F B) else none
set_option maxHeartbeats 4000000 in
set_option maxRecDepth 100000 in
theorem c_Performance_rise {l : Launch} {D : va_G} {ca : Nat → ClassId} {ad : Nat → Int → Nat → Nat} {L : List Nat} {aS vS : Nat → Nat} {sz : Nat} {K : zK}  {l0 : Int} {F F9 : zF} {B B9 : zB} {r : Int} (hf : f_Performance_rise K l0 F B = some (r, F9, B9)) : Met l ({ cls := "StaveHouse$Performance", name := "rise", desc := "(I)I" } : Jvm.MethodName) (Cond.code ({ cls := "StaveHouse$Performance", name := "rise", desc := "(I)I" } : Jvm.MethodName) prog_7_method_28_code 1 (Option.some Jvm.ClassFile.FieldType.int) :: wAll) ({ frames := 1, cells := 0, slots := 0, locals := 13 } : Room) (va_Pc [.int (iI l0)] (zPre D ca ad lnC K.2 L aS vS F B sz)) (Q_Performance_rise K D ca ad L r F9 B9 (zA L sz)) 0 0 (zA L sz) := by
  refine zMet (Qc := Q_Performance_rise K D ca ad L r F9 B9) (lv := [(0, .int (iI l0))]) (by decide) (Nat.le_of_ble_eq_true rfl) rfl (fun A p e s m below meth c ls X hZ hS hl => ?_)
  obtain ⟨hx, hb, hr, hml, hown, hts, hlk, hK, hA, hL, hX⟩ := id X
  replace hf : (if r32 l0 then (if 40 ≤ l0 then if r32 (256 - (zdv (l0 - 40) 16)) then f_Performance_rise_34 K (zmax (256 - (zdv (l0 - 40) 16)) 128) F B else none else f_Performance_rise_34 K (zdv (256 * l0) 40) F B) else none) = some (r, F9, B9) := hf
  refine lv_iload_n hx hb d_7_28_0 rfl (lv_at hl 0 rfl) ?_
  refine lv_bipush (v := iI 40) hx hb d_7_28_1 (by decide) ?_
  obtain ⟨g1, hf⟩ := gif hf
  refine zge (tgt := 17) hx hb g1 (by decide) d_7_28_3 (by decide) (fun h2 => ?_) (fun h2 => ?_)
  · replace hf := gpos hf h2
    refine lv_sipush (v := iI 256) hx hb d_7_28_17 (by decide) ?_
    refine lv_iload_n hx hb d_7_28_20 rfl (lv_at hl 0 rfl) ?_
    refine lv_bipush (v := iI 40) hx hb d_7_28_21 (by decide) ?_
    refine zsub hx hb d_7_28_23 ?_
    refine lv_bipush (v := iI 16) hx hb d_7_28_24 (by decide) ?_
    refine zdv_r hx hb (by decide) d_7_28_26 ?_
    refine zsub hx hb d_7_28_27 ?_
    refine lv_sipush (v := iI 128) hx hb d_7_28_28 (by decide) ?_
    obtain ⟨g3, hf⟩ := gif hf
    refine va_mmax hx hb (by rw [hml]; exact hl.1.symm) hown (hts _ k_6_153) (hts _ k_1_39) (hts _ k_1_3) (hts _ k_1_40) (Nat.le_of_ble_eq_true rfl) (Nat.le_of_ble_eq_true rfl) (Nat.le_of_ble_eq_true rfl) (Nat.le_of_ble_eq_true rfl) d_7_28_31 ?_
    rw [zmax_e g3 (by decide)]
    exact b_Performance_rise_34 X hf hZ hS (lv_sub hl [] rfl)
  · replace hf := gneg hf h2
    refine lv_sipush (v := iI 256) hx hb d_7_28_6 (by decide) ?_
    refine lv_iload_n hx hb d_7_28_9 rfl (lv_at hl 0 rfl) ?_
    refine zmul hx hb d_7_28_10 ?_
    refine lv_bipush (v := iI 40) hx hb d_7_28_11 (by decide) ?_
    refine zdv_r hx hb (by decide) d_7_28_13 ?_
    refine lv_goto (tgt := 34) hx hb d_7_28_14 (by decide) ?_
    exact b_Performance_rise_34 X hf hZ hS (lv_sub hl [] rfl)

abbrev Q_Study_tonic (K : zK) (D : va_G) (ca : Nat → ClassId) (ad : Nat → Int → Nat → Nat) (L : List Nat) (r : Int) (F : zF) (B : zB) (A : Nat → Prop) : Array Value → State → Outcome → State → Prop := va_Qi (S := Unit) (fun p _ => p = iI r) (fun _ => zPo D ca ad lnC K.2 L F B A) A
def f_Study_tonic_19 (K : zK) (s0 : Int) (s1 : Int) (F : zF) (B : zB) : zO := zbind (f_Math_floorMod K (s0 + s1) 7 F B) (fun r4 F4 B4 => some (r4, F4, B4))
set_option maxHeartbeats 4000000 in
set_option maxRecDepth 100000 in
theorem b_Study_tonic_19 {D : va_G} {ca : Nat → ClassId} {ad : Nat → Int → Nat → Nat} {L : List Nat} {aS vS : Nat → Nat} {A : Nat → Prop} {p : Program} {l : Launch} {e : Env} {s : State} {m : MethodId} {args : Array Value} {below : List Frame} {meth : Method} {c : Code} {K : zK} {r : Int} {F9 : zF} {B9 : zB} (X : zX D ca L aS vS A p s m args meth c prog_11_method_18_code 1 (Option.some Jvm.ClassFile.FieldType.int) "StaveHouse$Study") {s0 : Int} {s1 : Int} {F : zF} {B : zB} {H : Heap} {locs : List Loc} {ls : Array Slot} (hf : f_Study_tonic_19 K s0 s1 F B = some (r, F9, B9)) (hZ : zH D ca ad lnC K.2 L F B A H) (hS : va_S A s.heap H locs) (hl : lv_has ls 1 []) : W p l e ({ frames := 1, cells := 0, slots := 0, locals := 22 } : Room) s m args below meth c H locs 0 0 (MQ below (Q_Study_tonic K D ca ad L r F9 B9 A) args s 0 0 A) (F0 m 19 ls [.int (iI s1), .int (iI s0)]) := by
  obtain ⟨hx, hb, hr, hml, hown, hts, hlk, hK, hA, hL, hX⟩ := id X
  replace hf : (zbind (f_Math_floorMod K (s0 + s1) 7 F B) (fun r4 F4 B4 => some (r4, F4, B4))) = some (r, F9, B9) := hf
  refine zadd hx hb d_11_18_19 ?_
  refine lv_bipush (v := iI 7) hx hb d_11_18_20 (by decide) ?_
  obtain ⟨r4, F4, B4, hc4, hf⟩ := gbind hf
  refine va_calli (va_runS (As := [.int (iI (s0 + s1)), .int (iI 7)]) (rest := []) ⟨hx, hb, hml, hown, hts⟩ (c_Math_floorMod (l := l) hc4) (va_cwS 2 hts (gdS k_6_38 k_4_71 k_1_3 k_4_72) rfl rfl rfl (by decide +kernel) ⟨Nat.le_of_ble_eq_true rfl, Nat.le_of_ble_eq_true rfl⟩) (zPS X hZ hS [.int (iI (s0 + s1)), .int (iI 7)]) rfl rfl hl.1 rfl (lv_room (Nat.le_of_ble_eq_true rfl)) d_11_18_22 ⟨Nat.le_of_ble_eq_true rfl, Nat.le_of_ble_eq_true rfl⟩) hS (fun q _ h => zAin X hS q h) (zAin X hS) (fun p4 u4 t4 H4 locs4 ht4 hv4 hw4 hB4 hz4 hk4 hS4 => ?_)
  have hZ4 := zBack X ht4 hB4
  subst hw4
  cases hf
  exact W.iret hx hb hr (fun t ht hW => ⟨⟨_, (), rfl, rfl, by rw [ht]; exact hZ4, va_K.moved hW.alike hK⟩, hS4.F ht⟩) hS4.2.2 d_11_18_25 hlk

def f_Study_tonic (K : zK) (l0 : Int) (F : zF) (B : zB) : zO := if 0 ≤ l0 ∧ l0 < K.2 6 then if r32 (F 6 l0 3) then (if (F 6 l0 3) = 1 then f_Study_tonic_19 K (4 * (F 6 l0 2)) 5 F B else f_Study_tonic_19 K (4 * (F 6 l0 2)) 0 F B) else none else none
set_option maxHeartbeats 4000000 in
set_option maxRecDepth 100000 in
theorem c_Study_tonic {l : Launch} {D : va_G} {ca : Nat → ClassId} {ad : Nat → Int → Nat → Nat} {L : List Nat} {aS vS : Nat → Nat} {sz : Nat} {K : zK}  {l0 : Int} {F F9 : zF} {B B9 : zB} {r : Int} (hf : f_Study_tonic K l0 F B = some (r, F9, B9)) : Met l ({ cls := "StaveHouse$Study", name := "tonic", desc := "(LStaveHouse$Piece;)I" } : Jvm.MethodName) (Cond.code ({ cls := "StaveHouse$Study", name := "tonic", desc := "(LStaveHouse$Piece;)I" } : Jvm.MethodName) prog_11_method_18_code 1 (Option.some Jvm.ClassFile.FieldType.int) :: wAll) ({ frames := 1, cells := 0, slots := 0, locals := 22 } : Room) (va_Pc [.ref (ad 6 l0 0)] (zPre D ca ad lnC K.2 L aS vS F B sz)) (Q_Study_tonic K D ca ad L r F9 B9 (zA L sz)) 0 0 (zA L sz) := by
  refine zMet (Qc := Q_Study_tonic K D ca ad L r F9 B9) (lv := [(0, .ref (ad 6 l0 0))]) (by decide) (Nat.le_of_ble_eq_true rfl) rfl (fun A p e s m below meth c ls X hZ hS hl => ?_)
  obtain ⟨hx, hb, hr, hml, hown, hts, hlk, hK, hA, hL, hX⟩ := id X
  replace hf : (if 0 ≤ l0 ∧ l0 < K.2 6 then if r32 (F 6 l0 3) then (if (F 6 l0 3) = 1 then f_Study_tonic_19 K (4 * (F 6 l0 2)) 5 F B else f_Study_tonic_19 K (4 * (F 6 l0 2)) 0 F B) else none else none) = some (r, F9, B9) := hf
  refine lv_iconst (v := iI 4) hx hb d_11_18_0 rfl ?_
  refine lv_aload_n hx hb d_11_18_1 rfl (lv_at hl 0 rfl) ?_
  obtain ⟨g1, hf⟩ := gif hf
  refine zget (ci := 6) (C := RX6) (T := TX6) (v := .int (iI (F 6 l0 2))) (k := 2) hx hb hts inW_6 hown hK hZ g1.1 g1.2 rfl (by decide) k_2_201 rfl d_11_18_2 ?_
  refine zmul hx hb d_11_18_5 ?_
  refine lv_aload_n hx hb d_11_18_6 rfl (lv_at hl 0 rfl) ?_
  refine zget (ci := 6) (C := RX6) (T := TX6) (v := .int (iI (F 6 l0 3))) (k := 3) hx hb hts inW_6 hown hK hZ g1.1 g1.2 rfl (by decide) k_2_205 rfl d_11_18_7 ?_
  refine lv_iconst (v := iI 1) hx hb d_11_18_10 rfl ?_
  obtain ⟨g2, hf⟩ := gif hf
  refine zne (tgt := 18) hx hb g2 (by decide) d_11_18_11 (by decide) (fun h3 => ?_) (fun h3 => ?_)
  · replace hf := gneg hf h3
    refine lv_iconst (v := iI 0) hx hb d_11_18_18 rfl ?_
    exact b_Study_tonic_19 X hf hZ hS (lv_sub hl [] rfl)
  · replace hf := gpos hf h3
    refine lv_iconst (v := iI 5) hx hb d_11_18_14 rfl ?_
    refine lv_goto (tgt := 19) hx hb d_11_18_15 (by decide) ?_
    exact b_Study_tonic_19 X hf hZ hS (lv_sub hl [] rfl)

abbrev Q_Part_sameFraction (K : zK) (D : va_G) (ca : Nat → ClassId) (ad : Nat → Int → Nat → Nat) (L : List Nat) (r : Int) (F : zF) (B : zB) (A : Nat → Prop) : Array Value → State → Outcome → State → Prop := va_Qi (S := Unit) (fun p _ => p = iI r) (fun _ => zPo D ca ad lnC K.2 L F B A) A
def f_Part_sameFraction_75 (K : zK) (s0 : Int) (F : zF) (B : zB) : zO := if (s0 = 0 ∨ s0 = 1) then some (s0, F, B) else none
set_option maxHeartbeats 4000000 in
set_option maxRecDepth 100000 in
theorem b_Part_sameFraction_75 {D : va_G} {ca : Nat → ClassId} {ad : Nat → Int → Nat → Nat} {L : List Nat} {aS vS : Nat → Nat} {A : Nat → Prop} {p : Program} {l : Launch} {e : Env} {s : State} {m : MethodId} {args : Array Value} {below : List Frame} {meth : Method} {c : Code} {K : zK} {r : Int} {F9 : zF} {B9 : zB} (X : zX D ca L aS vS A p s m args meth c prog_6_method_29_code 8 (Option.some Jvm.ClassFile.FieldType.boolean) "StaveHouse$Part") {s0 : Int} {F : zF} {B : zB} {H : Heap} {locs : List Loc} {ls : Array Slot} (hf : f_Part_sameFraction_75 K s0 F B = some (r, F9, B9)) (hZ : zH D ca ad lnC K.2 L F B A H) (hS : va_S A s.heap H locs) (hl : lv_has ls 8 []) : W p l e ({ frames := 1, cells := 0, slots := 0, locals := 30 } : Room) s m args below meth c H locs 0 0 (MQ below (Q_Part_sameFraction K D ca ad L r F9 B9 A) args s 0 0 A) (F0 m 75 ls [.int (iI s0)]) := by
  obtain ⟨hx, hb, hr, hml, hown, hts, hlk, hK, hA, hL, hX⟩ := id X
  replace hf : (if (s0 = 0 ∨ s0 = 1) then some (s0, F, B) else none) = some (r, F9, B9) := hf
  obtain ⟨g17, hf⟩ := gif hf
  cases hf
  exact W.zret hx hb hr (zbool g17) (fun t ht hW => ⟨⟨_, (), rfl, rfl, by rw [ht]; exact hZ, va_K.moved hW.alike hK⟩, hS.F ht⟩) hS.2.2 d_6_29_75 hlk

def f_Part_sameFraction_74 (K : zK)  (F : zF) (B : zB) : zO := f_Part_sameFraction_75 K 0 F B
set_option maxHeartbeats 4000000 in
set_option maxRecDepth 100000 in
theorem b_Part_sameFraction_74 {D : va_G} {ca : Nat → ClassId} {ad : Nat → Int → Nat → Nat} {L : List Nat} {aS vS : Nat → Nat} {A : Nat → Prop} {p : Program} {l : Launch} {e : Env} {s : State} {m : MethodId} {args : Array Value} {below : List Frame} {meth : Method} {c : Code} {K : zK} {r : Int} {F9 : zF} {B9 : zB} (X : zX D ca L aS vS A p s m args meth c prog_6_method_29_code 8 (Option.some Jvm.ClassFile.FieldType.boolean) "StaveHouse$Part")  {F : zF} {B : zB} {H : Heap} {locs : List Loc} {ls : Array Slot} (hf : f_Part_sameFraction_74 K  F B = some (r, F9, B9)) (hZ : zH D ca ad lnC K.2 L F B A H) (hS : va_S A s.heap H locs) (hl : lv_has ls 8 []) : W p l e ({ frames := 1, cells := 0, slots := 0, locals := 30 } : Room) s m args below meth c H locs 0 0 (MQ below (Q_Part_sameFraction K D ca ad L r F9 B9 A) args s 0 0 A) (F0 m 74 ls []) := by
  obtain ⟨hx, hb, hr, hml, hown, hts, hlk, hK, hA, hL, hX⟩ := id X
  replace hf : (f_Part_sameFraction_75 K 0 F B) = some (r, F9, B9) := hf
  refine lv_iconst (v := iI 0) hx hb d_6_29_74 rfl ?_
  exact b_Part_sameFraction_75 X hf hZ hS (lv_sub hl [] rfl)

def f_Part_sameFraction (K : zK) (l0 : Int) (l1 : Int) (l2 : Int) (l3 : Int) (F : zF) (B : zB) : zO := if 0 ≤ l0 ∧ l0 < K.2 1 then if 0 ≤ l1 ∧ l1 < K.2 1 then zbind (f_S_gcd K (F 1 l0 1) (F 1 l1 1) F B) (fun r3 F3 B3 => if r64 r3 then if 0 ≤ l2 ∧ l2 < K.2 1 then if 0 ≤ l3 ∧ l3 < K.2 1 then zbind (f_S_gcd K (F3 1 l2 1) (F3 1 l3 1) F3 B3) (fun r7 F7 B7 => if r64 r7 then if ¬ lI (zmax r3 1) = 0 then if ¬ lI (zmax r7 1) = 0 then if r64 (zldv (F7 1 l0 1) (zmax r3 1)) then if r64 (zldv (F7 1 l2 1) (zmax r7 1)) then (if (zcmp (zldv (F7 1 l0 1) (zmax r3 1)) (zldv (F7 1 l2 1) (zmax r7 1))) = 0 then if r64 (zldv (F7 1 l1 1) (zmax r3 1)) then if r64 (zldv (F7 1 l3 1) (zmax r7 1)) then (if (zcmp (zldv (F7 1 l1 1) (zmax r3 1)) (zldv (F7 1 l3 1) (zmax r7 1))) = 0 then f_Part_sameFraction_75 K 1 F7 B7 else f_Part_sameFraction_74 K F7 B7) else none else none else f_Part_sameFraction_74 K F7 B7) else none else none else none else none else none) else none else none else none) else none else none
set_option maxHeartbeats 4000000 in
set_option maxRecDepth 100000 in
theorem c_Part_sameFraction {l : Launch} {D : va_G} {ca : Nat → ClassId} {ad : Nat → Int → Nat → Nat} {L : List Nat} {aS vS : Nat → Nat} {sz : Nat} {K : zK}  {l0 : Int} {l1 : Int} {l2 : Int} {l3 : Int} {F F9 : zF} {B B9 : zB} {r : Int} (hf : f_Part_sameFraction K l0 l1 l2 l3 F B = some (r, F9, B9)) : Met l ({ cls := "StaveHouse$Part", name := "sameFraction", desc := "(LStaveHouse$Event;LStaveHouse$Event;LStaveHouse$Event;LStaveHouse$Event;)Z" } : Jvm.MethodName) (Cond.code ({ cls := "StaveHouse$Part", name := "sameFraction", desc := "(LStaveHouse$Event;LStaveHouse$Event;LStaveHouse$Event;LStaveHouse$Event;)Z" } : Jvm.MethodName) prog_6_method_29_code 8 (Option.some Jvm.ClassFile.FieldType.boolean) :: wAll) ({ frames := 1, cells := 0, slots := 0, locals := 30 } : Room) (va_Pc [.ref (ad 1 l0 0), .ref (ad 1 l1 0), .ref (ad 1 l2 0), .ref (ad 1 l3 0)] (zPre D ca ad lnC K.2 L aS vS F B sz)) (Q_Part_sameFraction K D ca ad L r F9 B9 (zA L sz)) 0 0 (zA L sz) := by
  refine zMet (Qc := Q_Part_sameFraction K D ca ad L r F9 B9) (lv := [(0, .ref (ad 1 l0 0)), (1, .ref (ad 1 l1 0)), (2, .ref (ad 1 l2 0)), (3, .ref (ad 1 l3 0))]) (by decide) (Nat.le_of_ble_eq_true rfl) rfl (fun A p e s m below meth c ls X hZ hS hl => ?_)
  obtain ⟨hx, hb, hr, hml, hown, hts, hlk, hK, hA, hL, hX⟩ := id X
  replace hf : (if 0 ≤ l0 ∧ l0 < K.2 1 then if 0 ≤ l1 ∧ l1 < K.2 1 then zbind (f_S_gcd K (F 1 l0 1) (F 1 l1 1) F B) (fun r3 F3 B3 => if r64 r3 then if 0 ≤ l2 ∧ l2 < K.2 1 then if 0 ≤ l3 ∧ l3 < K.2 1 then zbind (f_S_gcd K (F3 1 l2 1) (F3 1 l3 1) F3 B3) (fun r7 F7 B7 => if r64 r7 then if ¬ lI (zmax r3 1) = 0 then if ¬ lI (zmax r7 1) = 0 then if r64 (zldv (F7 1 l0 1) (zmax r3 1)) then if r64 (zldv (F7 1 l2 1) (zmax r7 1)) then (if (zcmp (zldv (F7 1 l0 1) (zmax r3 1)) (zldv (F7 1 l2 1) (zmax r7 1))) = 0 then if r64 (zldv (F7 1 l1 1) (zmax r3 1)) then if r64 (zldv (F7 1 l3 1) (zmax r7 1)) then (if (zcmp (zldv (F7 1 l1 1) (zmax r3 1)) (zldv (F7 1 l3 1) (zmax r7 1))) = 0 then f_Part_sameFraction_75 K 1 F7 B7 else f_Part_sameFraction_74 K F7 B7) else none else none else f_Part_sameFraction_74 K F7 B7) else none else none else none else none else none) else none else none else none) else none else none) = some (r, F9, B9) := hf
  refine lv_aload_n hx hb d_6_29_0 rfl (lv_at hl 0 rfl) ?_
  obtain ⟨g1, hf⟩ := gif hf
  refine zget (ci := 1) (C := RX1) (T := TX1) (v := .long (lI (F 1 l0 1))) (k := 1) hx hb hts inW_1 hown hK hZ g1.1 g1.2 rfl (by decide) k_2_24 rfl d_6_29_1 ?_
  refine lv_aload_n hx hb d_6_29_4 rfl (lv_at hl 1 rfl) ?_
  obtain ⟨g2, hf⟩ := gif hf
  refine zget (ci := 1) (C := RX1) (T := TX1) (v := .long (lI (F 1 l1 1))) (k := 1) hx hb hts inW_1 hown hK hZ g2.1 g2.2 rfl (by decide) k_2_24 rfl d_6_29_5 ?_
  obtain ⟨r3, F3, B3, hc3, hf⟩ := gbind hf
  refine va_calll (va_runSN (As := [.long (lI (F 1 l0 1)), .long (lI (F 1 l1 1))]) (rest := []) ⟨hx, hb, hml, hown, hts⟩ (c_S_gcd (l := l) hc3) ⟨va_cnB 2 hts (gdC k_6_191) rfl rfl rfl (hX.1 _ (List.mem_of_getElem? (i := 25) rfl)) (hts _ k_1_1) (by decide +kernel) ⟨Nat.le_of_ble_eq_true rfl, Nat.le_of_ble_eq_true rfl⟩, hts _ k_6_190, trivial⟩ (zPS X hZ hS [.long (lI (F 1 l0 1)), .long (lI (F 1 l1 1))]) rfl rfl hl.1 rfl (lv_room (Nat.le_of_ble_eq_true rfl)) d_6_29_8 ⟨Nat.le_of_ble_eq_true rfl, Nat.le_of_ble_eq_true rfl⟩) hS (fun q _ h => zAin X hS q h) (zAin X hS) (fun p3 u3 t3 H3 locs3 ht3 hv3 hw3 hB3 hz3 hk3 hS3 => ?_)
  have hZ3 := zBack X ht3 hB3
  subst hw3
  refine lv_lconst (v := lI 1) hx hb d_6_29_11 (by decide) ?_
  obtain ⟨g4, hf⟩ := gif hf
  refine va_mmax_long hx hb (by rw [hml]; exact hl.1.symm) hown (hts _ k_9_111) (hts _ k_5_176) (hts _ k_1_3) (hts _ k_5_177) (Nat.le_of_ble_eq_true rfl) (Nat.le_of_ble_eq_true rfl) (Nat.le_of_ble_eq_true rfl) (Nat.le_of_ble_eq_true rfl) d_6_29_12 ?_
  rw [zlmax_e g4 (by decide)]
  refine lv_lstore (lv' := [(4, .long (lI (zmax r3 1))), (0, .ref (ad 1 l0 0)), (1, .ref (ad 1 l1 0)), (2, .ref (ad 1 l2 0)), (3, .ref (ad 1 l3 0))]) hx hb d_6_29_15 hl (by decide) rfl (fun ls hl => ?_)
  refine lv_aload_n hx hb d_6_29_17 rfl (lv_at hl 3 rfl) ?_
  obtain ⟨g5, hf⟩ := gif hf
  refine zget (ci := 1) (C := RX1) (T := TX1) (v := .long (lI (F3 1 l2 1))) (k := 1) hx hb hts inW_1 hown hK hZ3 g5.1 g5.2 rfl (by decide) k_2_24 rfl d_6_29_18 ?_
  refine lv_aload_n hx hb d_6_29_21 rfl (lv_at hl 4 rfl) ?_
  obtain ⟨g6, hf⟩ := gif hf
  refine zget (ci := 1) (C := RX1) (T := TX1) (v := .long (lI (F3 1 l3 1))) (k := 1) hx hb hts inW_1 hown hK hZ3 g6.1 g6.2 rfl (by decide) k_2_24 rfl d_6_29_22 ?_
  obtain ⟨r7, F7, B7, hc7, hf⟩ := gbind hf
  refine va_calll (va_runSN (As := [.long (lI (F3 1 l2 1)), .long (lI (F3 1 l3 1))]) (rest := []) ⟨hx, hb, hml, hown, hts⟩ (c_S_gcd (l := l) hc7) ⟨va_cnB 2 hts (gdC k_6_191) rfl rfl rfl (hX.1 _ (List.mem_of_getElem? (i := 25) rfl)) (hts _ k_1_1) (by decide +kernel) ⟨Nat.le_of_ble_eq_true rfl, Nat.le_of_ble_eq_true rfl⟩, hts _ k_6_190, trivial⟩ (zPS X hZ3 hS3 [.long (lI (F3 1 l2 1)), .long (lI (F3 1 l3 1))]) rfl rfl hl.1 rfl (lv_room (Nat.le_of_ble_eq_true rfl)) d_6_29_25 ⟨Nat.le_of_ble_eq_true rfl, Nat.le_of_ble_eq_true rfl⟩) hS3 (fun q _ h => zAin X hS3 q h) (zAin X hS3) (fun p7 u7 t7 H7 locs7 ht7 hv7 hw7 hB7 hz7 hk7 hS7 => ?_)
  have hZ7 := zBack X ht7 hB7
  subst hw7
  refine lv_lconst (v := lI 1) hx hb d_6_29_28 (by decide) ?_
  obtain ⟨g8, hf⟩ := gif hf
  refine va_mmax_long hx hb (by rw [hml]; exact hl.1.symm) hown (hts _ k_9_111) (hts _ k_5_176) (hts _ k_1_3) (hts _ k_5_177) (Nat.le_of_ble_eq_true rfl) (Nat.le_of_ble_eq_true rfl) (Nat.le_of_ble_eq_true rfl) (Nat.le_of_ble_eq_true rfl) d_6_29_29 ?_
  rw [zlmax_e g8 (by decide)]
  refine lv_lstore (lv' := [(6, .long (lI (zmax r7 1))), (4, .long (lI (zmax r3 1))), (0, .ref (ad 1 l0 0)), (1, .ref (ad 1 l1 0)), (2, .ref (ad 1 l2 0)), (3, .ref (ad 1 l3 0))]) hx hb d_6_29_32 hl (by decide) rfl (fun ls hl => ?_)
  refine lv_aload_n hx hb d_6_29_34 rfl (lv_at hl 2 rfl) ?_
  refine zget (ci := 1) (C := RX1) (T := TX1) (v := .long (lI (F7 1 l0 1))) (k := 1) hx hb hts inW_1 hown hK hZ7 g1.1 g1.2 rfl (by decide) k_2_24 rfl d_6_29_35 ?_
  refine lv_lload hx hb d_6_29_38 (lv_at hl 1 rfl) ?_
  obtain ⟨g9, hf⟩ := gif hf
  refine zldv_r hx hb g9 d_6_29_40 ?_
  refine lv_aload_n hx hb d_6_29_41 rfl (lv_at hl 4 rfl) ?_
  refine zget (ci := 1) (C := RX1) (T := TX1) (v := .long (lI (F7 1 l2 1))) (k := 1) hx hb hts inW_1 hown hK hZ7 g5.1 g5.2 rfl (by decide) k_2_24 rfl d_6_29_42 ?_
  refine lv_lload hx hb d_6_29_45 (lv_at hl 0 rfl) ?_
  obtain ⟨g10, hf⟩ := gif hf
  refine zldv_r hx hb g10 d_6_29_47 ?_
  obtain ⟨g11, hf⟩ := gif hf
  obtain ⟨g12, hf⟩ := gif hf
  refine zcmp_r hx hb g11 g12 d_6_29_48 ?_
  refine z0ne (tgt := 74) hx hb zcmp_32 d_6_29_49 (by decide) (fun h13 => ?_) (fun h13 => ?_)
  · replace hf := gneg hf h13
    exact b_Part_sameFraction_74 X hf hZ7 hS7 (lv_sub hl [] rfl)
  · replace hf := gpos hf h13
    refine lv_aload_n hx hb d_6_29_52 rfl (lv_at hl 3 rfl) ?_
    refine zget (ci := 1) (C := RX1) (T := TX1) (v := .long (lI (F7 1 l1 1))) (k := 1) hx hb hts inW_1 hown hK hZ7 g2.1 g2.2 rfl (by decide) k_2_24 rfl d_6_29_53 ?_
    refine lv_lload hx hb d_6_29_56 (lv_at hl 1 rfl) ?_
    refine zldv_r hx hb g9 d_6_29_58 ?_
    refine lv_aload_n hx hb d_6_29_59 rfl (lv_at hl 5 rfl) ?_
    refine zget (ci := 1) (C := RX1) (T := TX1) (v := .long (lI (F7 1 l3 1))) (k := 1) hx hb hts inW_1 hown hK hZ7 g6.1 g6.2 rfl (by decide) k_2_24 rfl d_6_29_60 ?_
    refine lv_lload hx hb d_6_29_63 (lv_at hl 0 rfl) ?_
    refine zldv_r hx hb g10 d_6_29_65 ?_
    obtain ⟨g14, hf⟩ := gif hf
    obtain ⟨g15, hf⟩ := gif hf
    refine zcmp_r hx hb g14 g15 d_6_29_66 ?_
    refine z0ne (tgt := 74) hx hb zcmp_32 d_6_29_67 (by decide) (fun h16 => ?_) (fun h16 => ?_)
    · replace hf := gneg hf h16
      exact b_Part_sameFraction_74 X hf hZ7 hS7 (lv_sub hl [] rfl)
    · replace hf := gpos hf h16
      refine lv_iconst (v := iI 1) hx hb d_6_29_70 rfl ?_
      refine lv_goto (tgt := 75) hx hb d_6_29_71 (by decide) ?_
      exact b_Part_sameFraction_75 X hf hZ7 hS7 (lv_sub hl [] rfl)

abbrev Q_Tokens_isRunByte (K : zK) (D : va_G) (ca : Nat → ClassId) (ad : Nat → Int → Nat → Nat) (L : List Nat) (r : Int) (F : zF) (B : zB) (A : Nat → Prop) : Array Value → State → Outcome → State → Prop := va_Qi (S := Unit) (fun p _ => p = iI r) (fun _ => zPo D ca ad lnC K.2 L F B A) A
def f_Tokens_isRunByte_25 (K : zK) (s0 : Int) (F : zF) (B : zB) : zO := if (s0 = 0 ∨ s0 = 1) then some (s0, F, B) else none
set_option maxHeartbeats 4000000 in
set_option maxRecDepth 100000 in
theorem b_Tokens_isRunByte_25 {D : va_G} {ca : Nat → ClassId} {ad : Nat → Int → Nat → Nat} {L : List Nat} {aS vS : Nat → Nat} {A : Nat → Prop} {p : Program} {l : Launch} {e : Env} {s : State} {m : MethodId} {args : Array Value} {below : List Frame} {meth : Method} {c : Code} {K : zK} {r : Int} {F9 : zF} {B9 : zB} (X : zX D ca L aS vS A p s m args meth c prog_12_method_14_code 1 (Option.some Jvm.ClassFile.FieldType.boolean) "StaveHouse$Tokens") {s0 : Int} {F : zF} {B : zB} {H : Heap} {locs : List Loc} {ls : Array Slot} (hf : f_Tokens_isRunByte_25 K s0 F B = some (r, F9, B9)) (hZ : zH D ca ad lnC K.2 L F B A H) (hS : va_S A s.heap H locs) (hl : lv_has ls 1 []) : W p l e ({ frames := 1, cells := 0, slots := 0, locals := 20 } : Room) s m args below meth c H locs 0 0 (MQ below (Q_Tokens_isRunByte K D ca ad L r F9 B9 A) args s 0 0 A) (F0 m 25 ls [.int (iI s0)]) := by
  obtain ⟨hx, hb, hr, hml, hown, hts, hlk, hK, hA, hL, hX⟩ := id X
  replace hf : (if (s0 = 0 ∨ s0 = 1) then some (s0, F, B) else none) = some (r, F9, B9) := hf
  obtain ⟨g9, hf⟩ := gif hf
  cases hf
  exact W.zret hx hb hr (zbool g9) (fun t ht hW => ⟨⟨_, (), rfl, rfl, by rw [ht]; exact hZ, va_K.moved hW.alike hK⟩, hS.F ht⟩) hS.2.2 d_12_14_25 hlk

def f_Tokens_isRunByte_20 (K : zK)  (F : zF) (B : zB) : zO := f_Tokens_isRunByte_25 K 1 F B
set_option maxHeartbeats 4000000 in
set_option maxRecDepth 100000 in
theorem b_Tokens_isRunByte_20 {D : va_G} {ca : Nat → ClassId} {ad : Nat → Int → Nat → Nat} {L : List Nat} {aS vS : Nat → Nat} {A : Nat → Prop} {p : Program} {l : Launch} {e : Env} {s : State} {m : MethodId} {args : Array Value} {below : List Frame} {meth : Method} {c : Code} {K : zK} {r : Int} {F9 : zF} {B9 : zB} (X : zX D ca L aS vS A p s m args meth c prog_12_method_14_code 1 (Option.some Jvm.ClassFile.FieldType.boolean) "StaveHouse$Tokens")  {F : zF} {B : zB} {H : Heap} {locs : List Loc} {ls : Array Slot} (hf : f_Tokens_isRunByte_20 K  F B = some (r, F9, B9)) (hZ : zH D ca ad lnC K.2 L F B A H) (hS : va_S A s.heap H locs) (hl : lv_has ls 1 []) : W p l e ({ frames := 1, cells := 0, slots := 0, locals := 20 } : Room) s m args below meth c H locs 0 0 (MQ below (Q_Tokens_isRunByte K D ca ad L r F9 B9 A) args s 0 0 A) (F0 m 20 ls []) := by
  obtain ⟨hx, hb, hr, hml, hown, hts, hlk, hK, hA, hL, hX⟩ := id X
  replace hf : (f_Tokens_isRunByte_25 K 1 F B) = some (r, F9, B9) := hf
  refine lv_iconst (v := iI 1) hx hb d_12_14_20 rfl ?_
  refine lv_goto (tgt := 25) hx hb d_12_14_21 (by decide) ?_
  exact b_Tokens_isRunByte_25 X hf hZ hS (lv_sub hl [] rfl)

def f_Tokens_isRunByte (K : zK) (l0 : Int) (F : zF) (B : zB) : zO := zbind (f_Tokens_isLetter K l0 F B) (fun r1 F1 B1 => if r32 r1 then (if r1 = 0 then zbind (f_Tokens_isDigit K l0 F1 B1) (fun r4 F4 B4 => if r32 r4 then (if r4 = 0 then if r32 l0 then (if l0 = 35 then f_Tokens_isRunByte_20 K F4 B4 else f_Tokens_isRunByte_25 K 0 F4 B4) else none else f_Tokens_isRunByte_20 K F4 B4) else none) else f_Tokens_isRunByte_20 K F1 B1) else none)
set_option maxHeartbeats 4000000 in
set_option maxRecDepth 100000 in
theorem c_Tokens_isRunByte {l : Launch} {D : va_G} {ca : Nat → ClassId} {ad : Nat → Int → Nat → Nat} {L : List Nat} {aS vS : Nat → Nat} {sz : Nat} {K : zK}  {l0 : Int} {F F9 : zF} {B B9 : zB} {r : Int} (hf : f_Tokens_isRunByte K l0 F B = some (r, F9, B9)) : Met l ({ cls := "StaveHouse$Tokens", name := "isRunByte", desc := "(I)Z" } : Jvm.MethodName) (Cond.code ({ cls := "StaveHouse$Tokens", name := "isRunByte", desc := "(I)Z" } : Jvm.MethodName) prog_12_method_14_code 1 (Option.some Jvm.ClassFile.FieldType.boolean) :: wAll) ({ frames := 1, cells := 0, slots := 0, locals := 20 } : Room) (va_Pc [.int (iI l0)] (zPre D ca ad lnC K.2 L aS vS F B sz)) (Q_Tokens_isRunByte K D ca ad L r F9 B9 (zA L sz)) 0 0 (zA L sz) := by
  refine zMet (Qc := Q_Tokens_isRunByte K D ca ad L r F9 B9) (lv := [(0, .int (iI l0))]) (by decide) (Nat.le_of_ble_eq_true rfl) rfl (fun A p e s m below meth c ls X hZ hS hl => ?_)
  obtain ⟨hx, hb, hr, hml, hown, hts, hlk, hK, hA, hL, hX⟩ := id X
  replace hf : (zbind (f_Tokens_isLetter K l0 F B) (fun r1 F1 B1 => if r32 r1 then (if r1 = 0 then zbind (f_Tokens_isDigit K l0 F1 B1) (fun r4 F4 B4 => if r32 r4 then (if r4 = 0 then if r32 l0 then (if l0 = 35 then f_Tokens_isRunByte_20 K F4 B4 else f_Tokens_isRunByte_25 K 0 F4 B4) else none else f_Tokens_isRunByte_20 K F4 B4) else none) else f_Tokens_isRunByte_20 K F1 B1) else none)) = some (r, F9, B9) := hf
  refine lv_iload_n hx hb d_12_14_0 rfl (lv_at hl 0 rfl) ?_
  obtain ⟨r1, F1, B1, hc1, hf⟩ := gbind hf
  refine va_calli (va_runS (As := [.int (iI l0)]) (rest := []) ⟨hx, hb, hml, hown, hts⟩ (c_Tokens_isLetter (l := l) hc1) (va_cwS 1 hts (gdS k_3_44 k_3_45 k_1_5 k_3_46) rfl rfl rfl (by decide +kernel) ⟨Nat.le_of_ble_eq_true rfl, Nat.le_of_ble_eq_true rfl⟩) (zPS X hZ hS [.int (iI l0)]) rfl rfl hl.1 rfl (lv_room (Nat.le_of_ble_eq_true rfl)) d_12_14_1 ⟨Nat.le_of_ble_eq_true rfl, Nat.le_of_ble_eq_true rfl⟩) hS (fun q _ h => zAin X hS q h) (zAin X hS) (fun p1 u1 t1 H1 locs1 ht1 hv1 hw1 hB1 hz1 hk1 hS1 => ?_)
  have hZ1 := zBack X ht1 hB1
  subst hw1
  obtain ⟨g2, hf⟩ := gif hf
  refine z0ne (tgt := 20) hx hb g2 d_12_14_4 (by decide) (fun h3 => ?_) (fun h3 => ?_)
  · replace hf := gneg hf h3
    exact b_Tokens_isRunByte_20 X hf hZ1 hS1 (lv_sub hl [] rfl)
  · replace hf := gpos hf h3
    refine lv_iload_n hx hb d_12_14_7 rfl (lv_at hl 0 rfl) ?_
    obtain ⟨r4, F4, B4, hc4, hf⟩ := gbind hf
    refine va_calli (va_runS (As := [.int (iI l0)]) (rest := []) ⟨hx, hb, hml, hown, hts⟩ (c_Tokens_isDigit (l := l) hc4) (va_cwS 1 hts (gdS k_3_47 k_3_48 k_1_5 k_3_49) rfl rfl rfl (by decide +kernel) ⟨Nat.le_of_ble_eq_true rfl, Nat.le_of_ble_eq_true rfl⟩) (zPS X hZ1 hS1 [.int (iI l0)]) rfl rfl hl.1 rfl (lv_room (Nat.le_of_ble_eq_true rfl)) d_12_14_8 ⟨Nat.le_of_ble_eq_true rfl, Nat.le_of_ble_eq_true rfl⟩) hS1 (fun q _ h => zAin X hS1 q h) (zAin X hS1) (fun p4 u4 t4 H4 locs4 ht4 hv4 hw4 hB4 hz4 hk4 hS4 => ?_)
    have hZ4 := zBack X ht4 hB4
    subst hw4
    obtain ⟨g5, hf⟩ := gif hf
    refine z0ne (tgt := 20) hx hb g5 d_12_14_11 (by decide) (fun h6 => ?_) (fun h6 => ?_)
    · replace hf := gneg hf h6
      exact b_Tokens_isRunByte_20 X hf hZ4 hS4 (lv_sub hl [] rfl)
    · replace hf := gpos hf h6
      refine lv_iload_n hx hb d_12_14_14 rfl (lv_at hl 0 rfl) ?_
      refine lv_bipush (v := iI 35) hx hb d_12_14_15 (by decide) ?_
      obtain ⟨g7, hf⟩ := gif hf
      refine zne (tgt := 24) hx hb g7 (by decide) d_12_14_17 (by decide) (fun h8 => ?_) (fun h8 => ?_)
      · replace hf := gneg hf h8
        refine lv_iconst (v := iI 0) hx hb d_12_14_24 rfl ?_
        exact b_Tokens_isRunByte_25 X hf hZ4 hS4 (lv_sub hl [] rfl)
      · replace hf := gpos hf h8
        exact b_Tokens_isRunByte_20 X hf hZ4 hS4 (lv_sub hl [] rfl)

abbrev Q_CString_length (K : zK) (D : va_G) (ca : Nat → ClassId) (ad : Nat → Int → Nat → Nat) (L : List Nat) (r : Int) (F : zF) (B : zB) (A : Nat → Prop) : Array Value → State → Outcome → State → Prop := va_Qi (S := Unit) (fun p _ => p = iI r) (fun _ => zPo D ca ad lnC K.2 L F B A) A
def f_CString_length (K : zK) (l0 : Nat) (F : zF) (B : zB) : zO := if l0 < strL.length then zbind (f_CString_coder K l0 F B) (fun r2 F2 B2 => some (zshr (zsl l0) r2, F2, B2)) else none
set_option maxHeartbeats 4000000 in
set_option maxRecDepth 100000 in
theorem c_CString_length {l : Launch} {D : va_G} {ca : Nat → ClassId} {ad : Nat → Int → Nat → Nat} {L : List Nat} {aS vS : Nat → Nat} {sz : Nat} {K : zK}  {l0 : Nat} {F F9 : zF} {B B9 : zB} {r : Int} (hf : f_CString_length K l0 F B = some (r, F9, B9)) : Met l ({ cls := "java/lang/String", name := "length", desc := "()I" } : Jvm.MethodName) (Cond.code ({ cls := "java/lang/String", name := "length", desc := "()I" } : Jvm.MethodName) prog_21_method_54_code 1 (Option.some Jvm.ClassFile.FieldType.int) :: wAll) ({ frames := 1, cells := 0, slots := 0, locals := 20 } : Room) (va_Pc [.ref (aS l0)] (zPre D ca ad lnC K.2 L aS vS F B sz)) (Q_CString_length K D ca ad L r F9 B9 (zA L sz)) 0 0 (zA L sz) := by
  refine zMet (Qc := Q_CString_length K D ca ad L r F9 B9) (lv := [(0, .ref (aS l0))]) (by decide) (Nat.le_of_ble_eq_true rfl) rfl (fun A p e s m below meth c ls X hZ hS hl => ?_)
  obtain ⟨hx, hb, hr, hml, hown, hts, hlk, hK, hA, hL, hX⟩ := id X
  replace hf : (if l0 < strL.length then zbind (f_CString_coder K l0 F B) (fun r2 F2 B2 => some (zshr (zsl l0) r2, F2, B2)) else none) = some (r, F9, B9) := hf
  refine lv_aload_n hx hb d_21_54_0 rfl (lv_at hl 0 rfl) ?_
  obtain ⟨g1, hf⟩ := gif hf
  refine vk_getf hx hb (zstr hX g1).2.1 hS hown (hts _ k_15_170) (fun _ h => h) d_21_54_1 ?_
  refine W.eq (g2 := F0 m 4 ls [.ref (vS l0)]) rfl ?_
  refine va_tlen (v := iI (zsl l0)) hx hb (zstr hX g1).2.2.1 hS (zsl_n _) d_21_54_4 ?_
  refine lv_aload_n hx hb d_21_54_5 rfl (lv_at hl 0 rfl) ?_
  obtain ⟨r2, F2, B2, hc2, hf⟩ := gbind hf
  refine va_calli (va_runV (As := []) (rest := [.int (iI (zsl l0))]) ⟨hx, hb, hml, hown, hts⟩ (c_CString_coder (l := l) hc2) (cwV 0 hts (gdV k_3_85 k_3_86 k_3_87 k_1_11 k_3_88) rfl rfl rfl (by decide +kernel) ⟨Nat.le_of_ble_eq_true rfl, Nat.le_of_ble_eq_true rfl⟩) ⟨zBlind, zsrecv hX g1 hS, zAt X hZ hS [.ref (aS l0)]⟩ rfl rfl hl.1 rfl (lv_room (Nat.le_of_ble_eq_true rfl)) d_21_54_6 ⟨Nat.le_of_ble_eq_true rfl, Nat.le_of_ble_eq_true rfl⟩) hS (fun q _ h => zAin X hS q h) (zAin X hS) (fun p2 u2 t2 H2 locs2 ht2 hv2 hw2 hB2 hz2 hk2 hS2 => ?_)
  have hZ2 := zBack X ht2 hB2
  subst hw2
  refine zshr_r hx hb d_21_54_9 ?_
  cases hf
  exact W.iret hx hb hr (fun t ht hW => ⟨⟨_, (), rfl, rfl, by rw [ht]; exact hZ2, va_K.moved hW.alike hK⟩, hS2.F ht⟩) hS2.2.2 d_21_54_10 hlk

abbrev Q_S_naturalTone (K : zK) (D : va_G) (ca : Nat → ClassId) (ad : Nat → Int → Nat → Nat) (L : List Nat) (r : Int) (F : zF) (B : zB) (A : Nat → Prop) : Array Value → State → Outcome → State → Prop := va_Qi (S := Unit) (fun p _ => p = iI r) (fun _ => zPo D ca ad lnC K.2 L F B A) A
def f_S_naturalTone (K : zK) (l0 : Int) (F : zF) (B : zB) : zO := zbind (f_Math_floorDiv K l0 7 F B) (fun r1 F1 B1 => zbind (f_Math_floorMod K l0 7 F1 B1) (fun r2 F2 B2 => if 0 ≤ r2 ∧ r2 < ztl 5 then some ((12 * (r1 + 1)) + (ztv 5 r2), F2, B2) else none))
set_option maxHeartbeats 4000000 in
set_option maxRecDepth 100000 in
theorem c_S_naturalTone {l : Launch} {D : va_G} {ca : Nat → ClassId} {ad : Nat → Int → Nat → Nat} {L : List Nat} {aS vS : Nat → Nat} {sz : Nat} {K : zK}  {l0 : Int} {F F9 : zF} {B B9 : zB} {r : Int} (hf : f_S_naturalTone K l0 F B = some (r, F9, B9)) : Met l ({ cls := "StaveHouse", name := "naturalTone", desc := "(I)I" } : Jvm.MethodName) (Cond.code ({ cls := "StaveHouse", name := "naturalTone", desc := "(I)I" } : Jvm.MethodName) prog_1_method_37_code 1 (Option.some Jvm.ClassFile.FieldType.int) :: wAll) ({ frames := 1, cells := 0, slots := 0, locals := 22 } : Room) (va_Pc [.int (iI l0)] (zPre D ca ad lnC K.2 L aS vS F B sz)) (Q_S_naturalTone K D ca ad L r F9 B9 (zA L sz)) 0 0 (zA L sz) := by
  refine zMet (Qc := Q_S_naturalTone K D ca ad L r F9 B9) (lv := [(0, .int (iI l0))]) (by decide) (Nat.le_of_ble_eq_true rfl) rfl (fun A p e s m below meth c ls X hZ hS hl => ?_)
  obtain ⟨hx, hb, hr, hml, hown, hts, hlk, hK, hA, hL, hX⟩ := id X
  replace hf : (zbind (f_Math_floorDiv K l0 7 F B) (fun r1 F1 B1 => zbind (f_Math_floorMod K l0 7 F1 B1) (fun r2 F2 B2 => if 0 ≤ r2 ∧ r2 < ztl 5 then some ((12 * (r1 + 1)) + (ztv 5 r2), F2, B2) else none))) = some (r, F9, B9) := hf
  refine lv_bipush (v := iI 12) hx hb d_1_37_0 (by decide) ?_
  refine lv_iload_n hx hb d_1_37_2 rfl (lv_at hl 0 rfl) ?_
  refine lv_bipush (v := iI 7) hx hb d_1_37_3 (by decide) ?_
  obtain ⟨r1, F1, B1, hc1, hf⟩ := gbind hf
  refine va_calli (va_runS (As := [.int (iI l0), .int (iI 7)]) (rest := [.int (iI 12)]) ⟨hx, hb, hml, hown, hts⟩ (c_Math_floorDiv (l := l) hc1) (va_cwS 2 hts (gdS k_4_65 k_4_66 k_1_3 k_4_67) rfl rfl rfl (by decide +kernel) ⟨Nat.le_of_ble_eq_true rfl, Nat.le_of_ble_eq_true rfl⟩) (zPS X hZ hS [.int (iI l0), .int (iI 7)]) rfl rfl hl.1 rfl (lv_room (Nat.le_of_ble_eq_true rfl)) d_1_37_5 ⟨Nat.le_of_ble_eq_true rfl, Nat.le_of_ble_eq_true rfl⟩) hS (fun q _ h => zAin X hS q h) (zAin X hS) (fun p1 u1 t1 H1 locs1 ht1 hv1 hw1 hB1 hz1 hk1 hS1 => ?_)
  have hZ1 := zBack X ht1 hB1
  subst hw1
  refine lv_iconst (v := iI 1) hx hb d_1_37_8 rfl ?_
  refine zadd hx hb d_1_37_9 ?_
  refine zmul hx hb d_1_37_10 ?_
  refine va_gets hx hb (hX.2.2.2.2.2.2 5 _ rfl).1 hS1 hown (hts _ k_4_68) (fun _ h => h) d_1_37_11 ?_
  refine W.eq (g2 := F0 m 14 ls [.ref (vS (1000 + 5)), .int (iI (12 * (r1 + 1)))]) rfl ?_
  refine lv_iload_n hx hb d_1_37_14 rfl (lv_at hl 0 rfl) ?_
  refine lv_bipush (v := iI 7) hx hb d_1_37_15 (by decide) ?_
  obtain ⟨r2, F2, B2, hc2, hf⟩ := gbind hf
  refine va_calli (va_runS (As := [.int (iI l0), .int (iI 7)]) (rest := [.ref (vS (1000 + 5)), .int (iI (12 * (r1 + 1)))]) ⟨hx, hb, hml, hown, hts⟩ (c_Math_floorMod (l := l) hc2) (va_cwS 2 hts (gdS k_4_70 k_4_71 k_1_3 k_4_72) rfl rfl rfl (by decide +kernel) ⟨Nat.le_of_ble_eq_true rfl, Nat.le_of_ble_eq_true rfl⟩) (zPS X hZ1 hS1 [.int (iI l0), .int (iI 7)]) rfl rfl hl.1 rfl (lv_room (Nat.le_of_ble_eq_true rfl)) d_1_37_17 ⟨Nat.le_of_ble_eq_true rfl, Nat.le_of_ble_eq_true rfl⟩) hS1 (fun q _ h => zAin X hS1 q h) (zAin X hS1) (fun p2 u2 t2 H2 locs2 ht2 hv2 hw2 hB2 hz2 hk2 hS2 => ?_)
  have hZ2 := zBack X ht2 hB2
  subst hw2
  obtain ⟨g3, hf⟩ := gif hf
  refine va_ti (v := .int (iI (ztv 5 r2))) hx hb (ztI hX (by decide) (by decide)) hS2 (zt_in (by decide) g3) (ztI_v (by decide) g3) d_1_37_20 ?_
  refine zadd hx hb d_1_37_21 ?_
  cases hf
  exact W.iret hx hb hr (fun t ht hW => ⟨⟨_, (), rfl, rfl, by rw [ht]; exact hZ2, va_K.moved hW.alike hK⟩, hS2.F ht⟩) hS2.2.2 d_1_37_22 hlk

abbrev Q_S_greatestValue (K : zK) (D : va_G) (ca : Nat → ClassId) (ad : Nat → Int → Nat → Nat) (L : List Nat) (r : Int) (F : zF) (B : zB) (A : Nat → Prop) : Array Value → State → Outcome → State → Prop := va_Qi (S := Unit) (fun p _ => p = iI r) (fun _ => zPo D ca ad lnC K.2 L F B A) A
def f_S_greatestValue_2 (K : zK) : Nat → Int → Int → zF → zB → zO
  | 0, _, _, _, _ => none
  | n + 1, l1, l0, F, B => if r32 l1 then (if 24 ≤ l1 then some (23, F, B) else zbind (f_S_fineValue K l1 F B) (fun r3 F3 B3 => if r32 r3 then if r32 l0 then (if l0 < r3 then f_S_greatestValue_2 K n (l1 + 1) l0 F3 B3 else some (l1, F3, B3)) else none else none)) else none
set_option maxHeartbeats 4000000 in
set_option maxRecDepth 100000 in
theorem b_S_greatestValue_2 {D : va_G} {ca : Nat → ClassId} {ad : Nat → Int → Nat → Nat} {L : List Nat} {aS vS : Nat → Nat} {A : Nat → Prop} {p : Program} {l : Launch} {e : Env} {s : State} {m : MethodId} {args : Array Value} {below : List Frame} {meth : Method} {c : Code} {K : zK} {r : Int} {F9 : zF} {B9 : zB} (X : zX D ca L aS vS A p s m args meth c prog_1_method_41_code 2 (Option.some Jvm.ClassFile.FieldType.int) "StaveHouse") : ∀ {n : Nat} {l1 : Int} {l0 : Int} {F : zF} {B : zB} {H : Heap} {locs : List Loc} {ls : Array Slot}, f_S_greatestValue_2 K n l1 l0 F B = some (r, F9, B9) → zH D ca ad lnC K.2 L F B A H → va_S A s.heap H locs → lv_has ls 2 [(1, .int (iI l1)), (0, .int (iI l0))] → W p l e ({ frames := 1, cells := 0, slots := 0, locals := 20 } : Room) s m args below meth c H locs 0 0 (MQ below (Q_S_greatestValue K D ca ad L r F9 B9 A) args s 0 0 A) (F0 m 2 ls []) := by
  obtain ⟨hx, hb, hr, hml, hown, hts, hlk, hK, hA, hL, hX⟩ := id X
  intro n
  induction n with
  | zero =>
    intros
    rename_i hf _ _ _
    cases hf
  | succ n ih =>
    intro l1 l0 F B H locs ls hf hZ hS hl
    replace hf : (if r32 l1 then (if 24 ≤ l1 then some (23, F, B) else zbind (f_S_fineValue K l1 F B) (fun r3 F3 B3 => if r32 r3 then if r32 l0 then (if l0 < r3 then f_S_greatestValue_2 K n (l1 + 1) l0 F3 B3 else some (l1, F3, B3)) else none else none)) else none) = some (r, F9, B9) := hf
    refine lv_iload_n hx hb d_1_41_2 rfl (lv_at hl 0 rfl) ?_
    refine lv_bipush (v := iI 24) hx hb d_1_41_3 (by decide) ?_
    obtain ⟨g1, hf⟩ := gif hf
    refine zge (tgt := 24) hx hb g1 (by decide) d_1_41_5 (by decide) (fun h2 => ?_) (fun h2 => ?_)
    · replace hf := gpos hf h2
      refine lv_bipush (v := iI 23) hx hb d_1_41_24 (by decide) ?_
      cases hf
      exact W.iret hx hb hr (fun t ht hW => ⟨⟨_, (), rfl, rfl, by rw [ht]; exact hZ, va_K.moved hW.alike hK⟩, hS.F ht⟩) hS.2.2 d_1_41_26 hlk
    · replace hf := gneg hf h2
      refine lv_iload_n hx hb d_1_41_8 rfl (lv_at hl 0 rfl) ?_
      obtain ⟨r3, F3, B3, hc3, hf⟩ := gbind hf
      refine va_calli (va_runS (As := [.int (iI l1)]) (rest := []) ⟨hx, hb, hml, hown, hts⟩ (c_S_fineValue (l := l) hc3) (va_cwS 1 hts (gdS k_5_67 k_5_68 k_1_1 k_5_69) rfl rfl rfl (by decide +kernel) ⟨Nat.le_of_ble_eq_true rfl, Nat.le_of_ble_eq_true rfl⟩) (zPS X hZ hS [.int (iI l1)]) rfl rfl hl.1 rfl (lv_room (Nat.le_of_ble_eq_true rfl)) d_1_41_9 ⟨Nat.le_of_ble_eq_true rfl, Nat.le_of_ble_eq_true rfl⟩) hS (fun q _ h => zAin X hS q h) (zAin X hS) (fun p3 u3 t3 H3 locs3 ht3 hv3 hw3 hB3 hz3 hk3 hS3 => ?_)
      have hZ3 := zBack X ht3 hB3
      subst hw3
      refine lv_iload_n hx hb d_1_41_12 rfl (lv_at hl 1 rfl) ?_
      obtain ⟨g4, hf⟩ := gif hf
      obtain ⟨g5, hf⟩ := gif hf
      refine zgt (tgt := 18) hx hb g4 g5 d_1_41_13 (by decide) (fun h6 => ?_) (fun h6 => ?_)
      · replace hf := gpos hf h6
        refine lv_iinc (v := iI (l1 + 1)) (lv' := [(1, .int (iI (l1 + 1))), (0, .int (iI l0))]) hx hb d_1_41_18 hl (k := 0) rfl (iI_add _ 1) (by decide) rfl (fun ls hl => ?_)
        refine lv_goto (tgt := 2) hx hb d_1_41_21 (by decide) ?_
        exact ih hf hZ3 hS3 (lv_sub hl [0, 1] rfl)
      · replace hf := gneg hf h6
        refine lv_iload_n hx hb d_1_41_16 rfl (lv_at hl 0 rfl) ?_
        cases hf
        exact W.iret hx hb hr (fun t ht hW => ⟨⟨_, (), rfl, rfl, by rw [ht]; exact hZ3, va_K.moved hW.alike hK⟩, hS3.F ht⟩) hS3.2.2 d_1_41_17 hlk

def f_S_greatestValue (K : zK) (l0 : Int) (F : zF) (B : zB) : zO := f_S_greatestValue_2 K K.1 0 l0 F B
set_option maxHeartbeats 4000000 in
set_option maxRecDepth 100000 in
theorem c_S_greatestValue {l : Launch} {D : va_G} {ca : Nat → ClassId} {ad : Nat → Int → Nat → Nat} {L : List Nat} {aS vS : Nat → Nat} {sz : Nat} {K : zK}  {l0 : Int} {F F9 : zF} {B B9 : zB} {r : Int} (hf : f_S_greatestValue K l0 F B = some (r, F9, B9)) : Met l ({ cls := "StaveHouse", name := "greatestValue", desc := "(I)I" } : Jvm.MethodName) (Cond.code ({ cls := "StaveHouse", name := "greatestValue", desc := "(I)I" } : Jvm.MethodName) prog_1_method_41_code 2 (Option.some Jvm.ClassFile.FieldType.int) :: wAll) ({ frames := 1, cells := 0, slots := 0, locals := 20 } : Room) (va_Pc [.int (iI l0)] (zPre D ca ad lnC K.2 L aS vS F B sz)) (Q_S_greatestValue K D ca ad L r F9 B9 (zA L sz)) 0 0 (zA L sz) := by
  refine zMet (Qc := Q_S_greatestValue K D ca ad L r F9 B9) (lv := [(0, .int (iI l0))]) (by decide) (Nat.le_of_ble_eq_true rfl) rfl (fun A p e s m below meth c ls X hZ hS hl => ?_)
  obtain ⟨hx, hb, hr, hml, hown, hts, hlk, hK, hA, hL, hX⟩ := id X
  replace hf : (f_S_greatestValue_2 K K.1 0 l0 F B) = some (r, F9, B9) := hf
  refine lv_iconst (v := iI 0) hx hb d_1_41_0 rfl ?_
  refine lv_istore_n (lv' := [(1, .int (iI 0)), (0, .int (iI l0))]) hx hb d_1_41_1 rfl hl (by decide) rfl (fun ls hl => ?_)
  exact b_S_greatestValue_2 X hf hZ hS (lv_sub hl [0, 1] rfl)

abbrev Q_S_nextValue (K : zK) (D : va_G) (ca : Nat → ClassId) (ad : Nat → Int → Nat → Nat) (L : List Nat) (r : Int) (F : zF) (B : zB) (A : Nat → Prop) : Array Value → State → Outcome → State → Prop := va_Qi (S := Unit) (fun p _ => p = iI r) (fun _ => zPo D ca ad lnC K.2 L F B A) A
def f_S_nextValue_104 (rec42 : Int → Int → Int → Int → Int → Int → Int → zF → zB → zO) (K : zK) (l8 : Int) (l7 : Int) (l6 : Int) (l5 : Int) (l4 : Int) (l2 : Int) (l3 : Int) (F : zF) (B : zB) : zO := rec42 (l8 + 1) l7 l6 l5 l4 l2 l3 F B
set_option maxHeartbeats 4000000 in
set_option maxRecDepth 100000 in
theorem b_S_nextValue_104 {D : va_G} {ca : Nat → ClassId} {ad : Nat → Int → Nat → Nat} {L : List Nat} {aS vS : Nat → Nat} {A : Nat → Prop} {p : Program} {l : Launch} {e : Env} {s : State} {m : MethodId} {args : Array Value} {below : List Frame} {meth : Method} {c : Code} {K : zK} {r : Int} {F9 : zF} {B9 : zB} (X : zX D ca L aS vS A p s m args meth c prog_1_method_42_code 11 (Option.some Jvm.ClassFile.FieldType.int) "StaveHouse") {rec42 : Int → Int → Int → Int → Int → Int → Int → zF → zB → zO} (hrec42 : ∀ {l8 : Int} {l7 : Int} {l6 : Int} {l5 : Int} {l4 : Int} {l2 : Int} {l3 : Int} {F : zF} {B : zB} {H : Heap} {locs : List Loc} {ls : Array Slot}, rec42 l8 l7 l6 l5 l4 l2 l3 F B = some (r, F9, B9) → zH D ca ad lnC K.2 L F B A H → va_S A s.heap H locs → lv_has ls 11 [(8, .int (iI l8)), (7, .int (iI l7)), (6, .int (iI l6)), (5, .int (iI l5)), (4, .int (iI l4)), (2, .int (iI l2)), (3, .int (iI l3))] → W p l e ({ frames := 2, cells := 0, slots := 0, locals := 41 } : Room) s m args below meth c H locs 0 0 (MQ below (Q_S_nextValue K D ca ad L r F9 B9 A) args s 0 0 A) (F0 m 42 ls [])) {l8 : Int} {l7 : Int} {l6 : Int} {l5 : Int} {l4 : Int} {l2 : Int} {l3 : Int} {F : zF} {B : zB} {H : Heap} {locs : List Loc} {ls : Array Slot} (hf : f_S_nextValue_104 rec42 K l8 l7 l6 l5 l4 l2 l3 F B = some (r, F9, B9)) (hZ : zH D ca ad lnC K.2 L F B A H) (hS : va_S A s.heap H locs) (hl : lv_has ls 11 [(8, .int (iI l8)), (7, .int (iI l7)), (6, .int (iI l6)), (5, .int (iI l5)), (4, .int (iI l4)), (2, .int (iI l2)), (3, .int (iI l3))]) : W p l e ({ frames := 2, cells := 0, slots := 0, locals := 41 } : Room) s m args below meth c H locs 0 0 (MQ below (Q_S_nextValue K D ca ad L r F9 B9 A) args s 0 0 A) (F0 m 104 ls []) := by
  obtain ⟨hx, hb, hr, hml, hown, hts, hlk, hK, hA, hL, hX⟩ := id X
  replace hf : (rec42 (l8 + 1) l7 l6 l5 l4 l2 l3 F B) = some (r, F9, B9) := hf
  refine lv_iinc (v := iI (l8 + 1)) (lv' := [(8, .int (iI (l8 + 1))), (7, .int (iI l7)), (6, .int (iI l6)), (5, .int (iI l5)), (4, .int (iI l4)), (2, .int (iI l2)), (3, .int (iI l3))]) hx hb d_1_42_104 hl (k := 0) rfl (iI_add _ 1) (by decide) rfl (fun ls hl => ?_)
  refine lv_goto (tgt := 42) hx hb d_1_42_107 (by decide) ?_
  exact hrec42 hf hZ hS (lv_sub hl [0, 1, 2, 3, 4, 5, 6] rfl)

def f_S_nextValue_42 (K : zK) : Nat → Int → Int → Int → Int → Int → Int → Int → zF → zB → zO
  | 0, _, _, _, _, _, _, _, _, _ => none
  | n + 1, l8, l7, l6, l5, l4, l2, l3, F, B => if r32 l8 then (if 24 ≤ l8 then zbind (f_S_greatestValue K l3 F B) (fun r7 F7 B7 => some (r7, F7, B7)) else zbind (f_S_fineValue K l8 F B) (fun r8 F8 B8 => if r32 (l2 + r8) then if r32 (l2 + l3) then (if (l2 + l3) < (l2 + r8) then f_S_nextValue_104 (f_S_nextValue_42 K n) K l8 l7 l6 l5 l4 l2 l3 F8 B8 else zbind (f_S_strength K l5 l6 l4 (l2 + r8) F8 B8) (fun r12 F12 B12 => if r32 l7 then if r32 r12 then zbind (f_S_strengthBetween K l5 l6 l4 l2 (l2 + r8) F12 B12) (fun r15 F15 B15 => if r32 r15 then if r32 (zmax l7 r12) then (if (zmax l7 r12) < r15 then f_S_nextValue_104 (f_S_nextValue_42 K n) K l8 l7 l6 l5 l4 l2 l3 F15 B15 else some (l8, F15, B15)) else none else none) else none else none)) else none else none)) else none
set_option maxHeartbeats 4000000 in
set_option maxRecDepth 100000 in
theorem b_S_nextValue_42 {D : va_G} {ca : Nat → ClassId} {ad : Nat → Int → Nat → Nat} {L : List Nat} {aS vS : Nat → Nat} {A : Nat → Prop} {p : Program} {l : Launch} {e : Env} {s : State} {m : MethodId} {args : Array Value} {below : List Frame} {meth : Method} {c : Code} {K : zK} {r : Int} {F9 : zF} {B9 : zB} (X : zX D ca L aS vS A p s m args meth c prog_1_method_42_code 11 (Option.some Jvm.ClassFile.FieldType.int) "StaveHouse") : ∀ {n : Nat} {l8 : Int} {l7 : Int} {l6 : Int} {l5 : Int} {l4 : Int} {l2 : Int} {l3 : Int} {F : zF} {B : zB} {H : Heap} {locs : List Loc} {ls : Array Slot}, f_S_nextValue_42 K n l8 l7 l6 l5 l4 l2 l3 F B = some (r, F9, B9) → zH D ca ad lnC K.2 L F B A H → va_S A s.heap H locs → lv_has ls 11 [(8, .int (iI l8)), (7, .int (iI l7)), (6, .int (iI l6)), (5, .int (iI l5)), (4, .int (iI l4)), (2, .int (iI l2)), (3, .int (iI l3))] → W p l e ({ frames := 2, cells := 0, slots := 0, locals := 41 } : Room) s m args below meth c H locs 0 0 (MQ below (Q_S_nextValue K D ca ad L r F9 B9 A) args s 0 0 A) (F0 m 42 ls []) := by
  obtain ⟨hx, hb, hr, hml, hown, hts, hlk, hK, hA, hL, hX⟩ := id X
  intro n
  induction n with
  | zero =>
    intros
    rename_i hf _ _ _
    cases hf
  | succ n ih =>
    intro l8 l7 l6 l5 l4 l2 l3 F B H locs ls hf hZ hS hl
    replace hf : (if r32 l8 then (if 24 ≤ l8 then zbind (f_S_greatestValue K l3 F B) (fun r7 F7 B7 => some (r7, F7, B7)) else zbind (f_S_fineValue K l8 F B) (fun r8 F8 B8 => if r32 (l2 + r8) then if r32 (l2 + l3) then (if (l2 + l3) < (l2 + r8) then f_S_nextValue_104 (f_S_nextValue_42 K n) K l8 l7 l6 l5 l4 l2 l3 F8 B8 else zbind (f_S_strength K l5 l6 l4 (l2 + r8) F8 B8) (fun r12 F12 B12 => if r32 l7 then if r32 r12 then zbind (f_S_strengthBetween K l5 l6 l4 l2 (l2 + r8) F12 B12) (fun r15 F15 B15 => if r32 r15 then if r32 (zmax l7 r12) then (if (zmax l7 r12) < r15 then f_S_nextValue_104 (f_S_nextValue_42 K n) K l8 l7 l6 l5 l4 l2 l3 F15 B15 else some (l8, F15, B15)) else none else none) else none else none)) else none else none)) else none) = some (r, F9, B9) := hf
    refine lv_iload hx hb d_1_42_42 (lv_at hl 0 rfl) ?_
    refine lv_bipush (v := iI 24) hx hb d_1_42_44 (by decide) ?_
    obtain ⟨g5, hf⟩ := gif hf
    refine zge (tgt := 110) hx hb g5 (by decide) d_1_42_46 (by decide) (fun h6 => ?_) (fun h6 => ?_)
    · replace hf := gpos hf h6
      refine lv_iload_n hx hb d_1_42_110 rfl (lv_at hl 6 rfl) ?_
      obtain ⟨r7, F7, B7, hc7, hf⟩ := gbind hf
      refine va_calli (va_runS (As := [.int (iI l3)]) (rest := []) ⟨hx, hb, hml, hown, hts⟩ (c_S_greatestValue (l := l) hc7) (va_cwS 1 hts (gdS k_5_99 k_5_65 k_1_1 k_5_66) rfl rfl rfl (by decide +kernel) ⟨Nat.le_of_ble_eq_true rfl, Nat.le_of_ble_eq_true rfl⟩) (zPS X hZ hS [.int (iI l3)]) rfl rfl hl.1 rfl (lv_room (Nat.le_of_ble_eq_true rfl)) d_1_42_111 ⟨Nat.le_of_ble_eq_true rfl, Nat.le_of_ble_eq_true rfl⟩) hS (fun q _ h => zAin X hS q h) (zAin X hS) (fun p7 u7 t7 H7 locs7 ht7 hv7 hw7 hB7 hz7 hk7 hS7 => ?_)
      have hZ7 := zBack X ht7 hB7
      subst hw7
      cases hf
      exact W.iret hx hb hr (fun t ht hW => ⟨⟨_, (), rfl, rfl, by rw [ht]; exact hZ7, va_K.moved hW.alike hK⟩, hS7.F ht⟩) hS7.2.2 d_1_42_114 hlk
    · replace hf := gneg hf h6
      refine lv_iload_n hx hb d_1_42_49 rfl (lv_at hl 5 rfl) ?_
      refine lv_iload hx hb d_1_42_50 (lv_at hl 0 rfl) ?_
      obtain ⟨r8, F8, B8, hc8, hf⟩ := gbind hf
      refine va_calli (va_runS (As := [.int (iI l8)]) (rest := [.int (iI l2)]) ⟨hx, hb, hml, hown, hts⟩ (c_S_fineValue (l := l) hc8) (va_cwS 1 hts (gdS k_5_67 k_5_68 k_1_1 k_5_69) rfl rfl rfl (by decide +kernel) ⟨Nat.le_of_ble_eq_true rfl, Nat.le_of_ble_eq_true rfl⟩) (zPS X hZ hS [.int (iI l8)]) rfl rfl hl.1 rfl (lv_room (Nat.le_of_ble_eq_true rfl)) d_1_42_52 ⟨Nat.le_of_ble_eq_true rfl, Nat.le_of_ble_eq_true rfl⟩) hS (fun q _ h => zAin X hS q h) (zAin X hS) (fun p8 u8 t8 H8 locs8 ht8 hv8 hw8 hB8 hz8 hk8 hS8 => ?_)
      have hZ8 := zBack X ht8 hB8
      subst hw8
      refine zadd hx hb d_1_42_55 ?_
      refine lv_istore (lv' := [(9, .int (iI (l2 + r8))), (8, .int (iI l8)), (7, .int (iI l7)), (6, .int (iI l6)), (5, .int (iI l5)), (4, .int (iI l4)), (2, .int (iI l2)), (3, .int (iI l3))]) hx hb d_1_42_56 hl (by decide) rfl (fun ls hl => ?_)
      refine lv_iload hx hb d_1_42_58 (lv_at hl 0 rfl) ?_
      refine lv_iload_n hx hb d_1_42_60 rfl (lv_at hl 6 rfl) ?_
      refine lv_iload_n hx hb d_1_42_61 rfl (lv_at hl 7 rfl) ?_
      refine zadd hx hb d_1_42_62 ?_
      obtain ⟨g9, hf⟩ := gif hf
      obtain ⟨g10, hf⟩ := gif hf
      refine zgt (tgt := 104) hx hb g9 g10 d_1_42_63 (by decide) (fun h11 => ?_) (fun h11 => ?_)
      · replace hf := gpos hf h11
        exact b_S_nextValue_104 X ih hf hZ8 hS8 (lv_sub hl [1, 2, 3, 4, 5, 6, 7] rfl)
      · replace hf := gneg hf h11
        refine lv_iload hx hb d_1_42_66 (lv_at hl 2 rfl) ?_
        refine lv_iload hx hb d_1_42_68 (lv_at hl 4 rfl) ?_
        refine lv_iload hx hb d_1_42_70 (lv_at hl 3 rfl) ?_
        refine lv_iload hx hb d_1_42_72 (lv_at hl 5 rfl) ?_
        refine lv_iload hx hb d_1_42_74 (lv_at hl 0 rfl) ?_
        obtain ⟨r12, F12, B12, hc12, hf⟩ := gbind hf
        refine va_calli (va_runS (As := [.int (iI l5), .int (iI l6), .int (iI l4), .int (iI (l2 + r8))]) (rest := [.int (iI l7)]) ⟨hx, hb, hml, hown, hts⟩ (c_S_strength (l := l) hc12) (va_cwS 4 hts (gdS k_5_93 k_5_94 k_1_1 k_5_95) rfl rfl rfl (by decide +kernel) ⟨Nat.le_of_ble_eq_true rfl, Nat.le_of_ble_eq_true rfl⟩) (zPS X hZ8 hS8 [.int (iI l5), .int (iI l6), .int (iI l4), .int (iI (l2 + r8))]) rfl rfl hl.1 rfl (lv_room (Nat.le_of_ble_eq_true rfl)) d_1_42_76 ⟨Nat.le_of_ble_eq_true rfl, Nat.le_of_ble_eq_true rfl⟩) hS8 (fun q _ h => zAin X hS8 q h) (zAin X hS8) (fun p12 u12 t12 H12 locs12 ht12 hv12 hw12 hB12 hz12 hk12 hS12 => ?_)
        have hZ12 := zBack X ht12 hB12
        subst hw12
        obtain ⟨g13, hf⟩ := gif hf
        obtain ⟨g14, hf⟩ := gif hf
        refine va_mmax hx hb (by rw [hml]; exact hl.1.symm) hown (hts _ k_5_89) (hts _ k_1_39) (hts _ k_1_3) (hts _ k_1_40) (Nat.le_of_ble_eq_true rfl) (Nat.le_of_ble_eq_true rfl) (Nat.le_of_ble_eq_true rfl) (Nat.le_of_ble_eq_true rfl) d_1_42_79 ?_
        rw [zmax_e g13 g14]
        refine lv_istore (lv' := [(10, .int (iI (zmax l7 r12))), (9, .int (iI (l2 + r8))), (8, .int (iI l8)), (7, .int (iI l7)), (6, .int (iI l6)), (5, .int (iI l5)), (4, .int (iI l4)), (2, .int (iI l2)), (3, .int (iI l3))]) hx hb d_1_42_82 hl (by decide) rfl (fun ls hl => ?_)
        refine lv_iload hx hb d_1_42_84 (lv_at hl 5 rfl) ?_
        refine lv_iload hx hb d_1_42_86 (lv_at hl 4 rfl) ?_
        refine lv_iload hx hb d_1_42_88 (lv_at hl 6 rfl) ?_
        refine lv_iload_n hx hb d_1_42_90 rfl (lv_at hl 7 rfl) ?_
        refine lv_iload hx hb d_1_42_91 (lv_at hl 1 rfl) ?_
        obtain ⟨r15, F15, B15, hc15, hf⟩ := gbind hf
        refine va_calli (va_runS (As := [.int (iI l5), .int (iI l6), .int (iI l4), .int (iI l2), .int (iI (l2 + r8))]) (rest := []) ⟨hx, hb, hml, hown, hts⟩ (c_S_strengthBetween (l := l) hc15) (va_cwS 5 hts (gdS k_5_96 k_5_97 k_1_1 k_5_98) rfl rfl rfl (by decide +kernel) ⟨Nat.le_of_ble_eq_true rfl, Nat.le_of_ble_eq_true rfl⟩) (zPS X hZ12 hS12 [.int (iI l5), .int (iI l6), .int (iI l4), .int (iI l2), .int (iI (l2 + r8))]) rfl rfl hl.1 rfl (lv_room (Nat.le_of_ble_eq_true rfl)) d_1_42_93 ⟨Nat.le_of_ble_eq_true rfl, Nat.le_of_ble_eq_true rfl⟩) hS12 (fun q _ h => zAin X hS12 q h) (zAin X hS12) (fun p15 u15 t15 H15 locs15 ht15 hv15 hw15 hB15 hz15 hk15 hS15 => ?_)
        have hZ15 := zBack X ht15 hB15
        subst hw15
        refine lv_iload hx hb d_1_42_96 (lv_at hl 0 rfl) ?_
        obtain ⟨g16, hf⟩ := gif hf
        obtain ⟨g17, hf⟩ := gif hf
        refine zgt (tgt := 104) hx hb g16 g17 d_1_42_98 (by decide) (fun h18 => ?_) (fun h18 => ?_)
        · replace hf := gpos hf h18
          exact b_S_nextValue_104 X ih hf hZ15 hS15 (lv_sub hl [2, 3, 4, 5, 6, 7, 8] rfl)
        · replace hf := gneg hf h18
          refine lv_iload hx hb d_1_42_101 (lv_at hl 2 rfl) ?_
          cases hf
          exact W.iret hx hb hr (fun t ht hW => ⟨⟨_, (), rfl, rfl, by rw [ht]; exact hZ15, va_K.moved hW.alike hK⟩, hS15.F ht⟩) hS15.2.2 d_1_42_103 hlk

def f_S_nextValue (K : zK) (l0 : Int) (l1 : Int) (l2 : Int) (l3 : Int) (F : zF) (B : zB) : zO := if r32 l1 then if ¬ iI (zmax l1 1) = 0 then zbind (f_S_beatCount K l0 l1 F B) (fun r3 F3 B3 => zbind (f_S_strength K ((zdv 512 (zmax l1 1)) * l0) ((zdv 512 (zmax l1 1)) * r3) (zdv 512 (zmax l1 1)) l2 F3 B3) (fun r4 F4 B4 => f_S_nextValue_42 K K.1 0 r4 ((zdv 512 (zmax l1 1)) * r3) ((zdv 512 (zmax l1 1)) * l0) (zdv 512 (zmax l1 1)) l2 l3 F4 B4)) else none else none
set_option maxHeartbeats 4000000 in
set_option maxRecDepth 100000 in
theorem c_S_nextValue {l : Launch} {D : va_G} {ca : Nat → ClassId} {ad : Nat → Int → Nat → Nat} {L : List Nat} {aS vS : Nat → Nat} {sz : Nat} {K : zK}  {l0 : Int} {l1 : Int} {l2 : Int} {l3 : Int} {F F9 : zF} {B B9 : zB} {r : Int} (hf : f_S_nextValue K l0 l1 l2 l3 F B = some (r, F9, B9)) : Met l ({ cls := "StaveHouse", name := "nextValue", desc := "(IIII)I" } : Jvm.MethodName) (Cond.code ({ cls := "StaveHouse", name := "nextValue", desc := "(IIII)I" } : Jvm.MethodName) prog_1_method_42_code 11 (Option.some Jvm.ClassFile.FieldType.int) :: wAll) ({ frames := 2, cells := 0, slots := 0, locals := 41 } : Room) (va_Pc [.int (iI l0), .int (iI l1), .int (iI l2), .int (iI l3)] (zPre D ca ad lnC K.2 L aS vS F B sz)) (Q_S_nextValue K D ca ad L r F9 B9 (zA L sz)) 0 0 (zA L sz) := by
  refine zMet (Qc := Q_S_nextValue K D ca ad L r F9 B9) (lv := [(0, .int (iI l0)), (1, .int (iI l1)), (2, .int (iI l2)), (3, .int (iI l3))]) (by decide) (Nat.le_of_ble_eq_true rfl) rfl (fun A p e s m below meth c ls X hZ hS hl => ?_)
  obtain ⟨hx, hb, hr, hml, hown, hts, hlk, hK, hA, hL, hX⟩ := id X
  replace hf : (if r32 l1 then if ¬ iI (zmax l1 1) = 0 then zbind (f_S_beatCount K l0 l1 F B) (fun r3 F3 B3 => zbind (f_S_strength K ((zdv 512 (zmax l1 1)) * l0) ((zdv 512 (zmax l1 1)) * r3) (zdv 512 (zmax l1 1)) l2 F3 B3) (fun r4 F4 B4 => f_S_nextValue_42 K K.1 0 r4 ((zdv 512 (zmax l1 1)) * r3) ((zdv 512 (zmax l1 1)) * l0) (zdv 512 (zmax l1 1)) l2 l3 F4 B4)) else none else none) = some (r, F9, B9) := hf
  refine lv_sipush (v := iI 512) hx hb d_1_42_0 (by decide) ?_
  refine lv_iload_n hx hb d_1_42_3 rfl (lv_at hl 1 rfl) ?_
  refine lv_iconst (v := iI 1) hx hb d_1_42_4 rfl ?_
  obtain ⟨g1, hf⟩ := gif hf
  refine va_mmax hx hb (by rw [hml]; exact hl.1.symm) hown (hts _ k_5_89) (hts _ k_1_39) (hts _ k_1_3) (hts _ k_1_40) (Nat.le_of_ble_eq_true rfl) (Nat.le_of_ble_eq_true rfl) (Nat.le_of_ble_eq_true rfl) (Nat.le_of_ble_eq_true rfl) d_1_42_5 ?_
  rw [zmax_e g1 (by decide)]
  obtain ⟨g2, hf⟩ := gif hf
  refine zdv_r hx hb g2 d_1_42_8 ?_
  refine lv_istore (lv' := [(4, .int (iI (zdv 512 (zmax l1 1)))), (0, .int (iI l0)), (1, .int (iI l1)), (2, .int (iI l2)), (3, .int (iI l3))]) hx hb d_1_42_9 hl (by decide) rfl (fun ls hl => ?_)
  refine lv_iload hx hb d_1_42_11 (lv_at hl 0 rfl) ?_
  refine lv_iload_n hx hb d_1_42_13 rfl (lv_at hl 1 rfl) ?_
  refine zmul hx hb d_1_42_14 ?_
  refine lv_istore (lv' := [(5, .int (iI ((zdv 512 (zmax l1 1)) * l0))), (4, .int (iI (zdv 512 (zmax l1 1)))), (0, .int (iI l0)), (1, .int (iI l1)), (2, .int (iI l2)), (3, .int (iI l3))]) hx hb d_1_42_15 hl (by decide) rfl (fun ls hl => ?_)
  refine lv_iload hx hb d_1_42_17 (lv_at hl 1 rfl) ?_
  refine lv_iload_n hx hb d_1_42_19 rfl (lv_at hl 2 rfl) ?_
  refine lv_iload_n hx hb d_1_42_20 rfl (lv_at hl 3 rfl) ?_
  obtain ⟨r3, F3, B3, hc3, hf⟩ := gbind hf
  refine va_calli (va_runS (As := [.int (iI l0), .int (iI l1)]) (rest := [.int (iI (zdv 512 (zmax l1 1)))]) ⟨hx, hb, hml, hown, hts⟩ (c_S_beatCount (l := l) hc3) (va_cwS 2 hts (gdS k_5_90 k_5_91 k_1_1 k_5_92) rfl rfl rfl (by decide +kernel) ⟨Nat.le_of_ble_eq_true rfl, Nat.le_of_ble_eq_true rfl⟩) (zPS X hZ hS [.int (iI l0), .int (iI l1)]) rfl rfl hl.1 rfl (lv_room (Nat.le_of_ble_eq_true rfl)) d_1_42_21 ⟨Nat.le_of_ble_eq_true rfl, Nat.le_of_ble_eq_true rfl⟩) hS (fun q _ h => zAin X hS q h) (zAin X hS) (fun p3 u3 t3 H3 locs3 ht3 hv3 hw3 hB3 hz3 hk3 hS3 => ?_)
  have hZ3 := zBack X ht3 hB3
  subst hw3
  refine zmul hx hb d_1_42_24 ?_
  refine lv_istore (lv' := [(6, .int (iI ((zdv 512 (zmax l1 1)) * r3))), (5, .int (iI ((zdv 512 (zmax l1 1)) * l0))), (4, .int (iI (zdv 512 (zmax l1 1)))), (0, .int (iI l0)), (1, .int (iI l1)), (2, .int (iI l2)), (3, .int (iI l3))]) hx hb d_1_42_25 hl (by decide) rfl (fun ls hl => ?_)
  refine lv_iload hx hb d_1_42_27 (lv_at hl 1 rfl) ?_
  refine lv_iload hx hb d_1_42_29 (lv_at hl 0 rfl) ?_
  refine lv_iload hx hb d_1_42_31 (lv_at hl 2 rfl) ?_
  refine lv_iload_n hx hb d_1_42_33 rfl (lv_at hl 5 rfl) ?_
  obtain ⟨r4, F4, B4, hc4, hf⟩ := gbind hf
  refine va_calli (va_runS (As := [.int (iI ((zdv 512 (zmax l1 1)) * l0)), .int (iI ((zdv 512 (zmax l1 1)) * r3)), .int (iI (zdv 512 (zmax l1 1))), .int (iI l2)]) (rest := []) ⟨hx, hb, hml, hown, hts⟩ (c_S_strength (l := l) hc4) (va_cwS 4 hts (gdS k_5_93 k_5_94 k_1_1 k_5_95) rfl rfl rfl (by decide +kernel) ⟨Nat.le_of_ble_eq_true rfl, Nat.le_of_ble_eq_true rfl⟩) (zPS X hZ3 hS3 [.int (iI ((zdv 512 (zmax l1 1)) * l0)), .int (iI ((zdv 512 (zmax l1 1)) * r3)), .int (iI (zdv 512 (zmax l1 1))), .int (iI l2)]) rfl rfl hl.1 rfl (lv_room (Nat.le_of_ble_eq_true rfl)) d_1_42_34 ⟨Nat.le_of_ble_eq_true rfl, Nat.le_of_ble_eq_true rfl⟩) hS3 (fun q _ h => zAin X hS3 q h) (zAin X hS3) (fun p4 u4 t4 H4 locs4 ht4 hv4 hw4 hB4 hz4 hk4 hS4 => ?_)
  have hZ4 := zBack X ht4 hB4
  subst hw4
  refine lv_istore (lv' := [(7, .int (iI r4)), (6, .int (iI ((zdv 512 (zmax l1 1)) * r3))), (5, .int (iI ((zdv 512 (zmax l1 1)) * l0))), (4, .int (iI (zdv 512 (zmax l1 1)))), (0, .int (iI l0)), (1, .int (iI l1)), (2, .int (iI l2)), (3, .int (iI l3))]) hx hb d_1_42_37 hl (by decide) rfl (fun ls hl => ?_)
  refine lv_iconst (v := iI 0) hx hb d_1_42_39 rfl ?_
  refine lv_istore (lv' := [(8, .int (iI 0)), (7, .int (iI r4)), (6, .int (iI ((zdv 512 (zmax l1 1)) * r3))), (5, .int (iI ((zdv 512 (zmax l1 1)) * l0))), (4, .int (iI (zdv 512 (zmax l1 1)))), (0, .int (iI l0)), (1, .int (iI l1)), (2, .int (iI l2)), (3, .int (iI l3))]) hx hb d_1_42_40 hl (by decide) rfl (fun ls hl => ?_)
  exact b_S_nextValue_42 X hf hZ4 hS4 (lv_sub hl [0, 1, 2, 3, 4, 7, 8] rfl)

abbrev Q_S_above (K : zK) (D : va_G) (ca : Nat → ClassId) (ad : Nat → Int → Nat → Nat) (L : List Nat) (r : Int) (F : zF) (B : zB) (A : Nat → Prop) : Array Value → State → Outcome → State → Prop := va_Ql (S := Unit) (fun p _ => p = lI r) (fun _ => zPo D ca ad lnC K.2 L F B A) A
def f_S_above_21 (K : zK) (s0 : Int) (F : zF) (B : zB) : zO := some (s0, F, B)
set_option maxHeartbeats 4000000 in
set_option maxRecDepth 100000 in
theorem b_S_above_21 {D : va_G} {ca : Nat → ClassId} {ad : Nat → Int → Nat → Nat} {L : List Nat} {aS vS : Nat → Nat} {A : Nat → Prop} {p : Program} {l : Launch} {e : Env} {s : State} {m : MethodId} {args : Array Value} {below : List Frame} {meth : Method} {c : Code} {K : zK} {r : Int} {F9 : zF} {B9 : zB} (X : zX D ca L aS vS A p s m args meth c prog_1_method_35_code 4 (Option.some Jvm.ClassFile.FieldType.long) "StaveHouse") {s0 : Int} {F : zF} {B : zB} {H : Heap} {locs : List Loc} {ls : Array Slot} (hf : f_S_above_21 K s0 F B = some (r, F9, B9)) (hZ : zH D ca ad lnC K.2 L F B A H) (hS : va_S A s.heap H locs) (hl : lv_has ls 4 []) : W p l e ({ frames := 1, cells := 0, slots := 0, locals := 30 } : Room) s m args below meth c H locs 0 0 (MQ below (Q_S_above K D ca ad L r F9 B9 A) args s 0 0 A) (F0 m 21 ls [.long (lI s0)]) := by
  obtain ⟨hx, hb, hr, hml, hown, hts, hlk, hK, hA, hL, hX⟩ := id X
  replace hf : (some (s0, F, B)) = some (r, F9, B9) := hf
  cases hf
  exact W.lret hx hb hr (fun t ht hW => ⟨⟨_, (), rfl, rfl, by rw [ht]; exact hZ, va_K.moved hW.alike hK⟩, hS.F ht⟩) hS.2.2 d_1_35_21 hlk

def f_S_above (K : zK) (l0 : Int) (F : zF) (B : zB) : zO := zbind (f_S_gcd K l0 812851200 F B) (fun r1 F1 B1 => if r64 r1 then (if (zcmp r1 0) = 0 then f_S_above_21 K l0 F1 B1 else if ¬ lI r1 = 0 then f_S_above_21 K (zldv l0 r1) F1 B1 else none) else none)
set_option maxHeartbeats 4000000 in
set_option maxRecDepth 100000 in
theorem c_S_above {l : Launch} {D : va_G} {ca : Nat → ClassId} {ad : Nat → Int → Nat → Nat} {L : List Nat} {aS vS : Nat → Nat} {sz : Nat} {K : zK}  {l0 : Int} {F F9 : zF} {B B9 : zB} {r : Int} (hf : f_S_above K l0 F B = some (r, F9, B9)) : Met l ({ cls := "StaveHouse", name := "above", desc := "(J)J" } : Jvm.MethodName) (Cond.code ({ cls := "StaveHouse", name := "above", desc := "(J)J" } : Jvm.MethodName) prog_1_method_35_code 4 (Option.some Jvm.ClassFile.FieldType.long) :: wAll) ({ frames := 1, cells := 0, slots := 0, locals := 30 } : Room) (va_Pc [.long (lI l0)] (zPre D ca ad lnC K.2 L aS vS F B sz)) (Q_S_above K D ca ad L r F9 B9 (zA L sz)) 0 0 (zA L sz) := by
  refine zMet (Qc := Q_S_above K D ca ad L r F9 B9) (lv := [(0, .long (lI l0))]) (by decide) (Nat.le_of_ble_eq_true rfl) rfl (fun A p e s m below meth c ls X hZ hS hl => ?_)
  obtain ⟨hx, hb, hr, hml, hown, hts, hlk, hK, hA, hL, hX⟩ := id X
  replace hf : (zbind (f_S_gcd K l0 812851200 F B) (fun r1 F1 B1 => if r64 r1 then (if (zcmp r1 0) = 0 then f_S_above_21 K l0 F1 B1 else if ¬ lI r1 = 0 then f_S_above_21 K (zldv l0 r1) F1 B1 else none) else none)) = some (r, F9, B9) := hf
  refine lv_lload_n hx hb d_1_35_0 rfl (lv_at hl 0 rfl) ?_
  refine lv_ldc2 hx hb hown (hts _ k_6_188) d_1_35_1 ?_
  refine W.eq (g2 := F0 m 4 ls [.long (lI 812851200), .long (lI l0)]) rfl ?_
  obtain ⟨r1, F1, B1, hc1, hf⟩ := gbind hf
  refine va_calll (va_runS (As := [.long (lI l0), .long (lI 812851200)]) (rest := []) ⟨hx, hb, hml, hown, hts⟩ (c_S_gcd (l := l) hc1) (va_cwS 2 hts (gdS k_6_189 k_6_190 k_1_1 k_6_191) rfl rfl rfl (by decide +kernel) ⟨Nat.le_of_ble_eq_true rfl, Nat.le_of_ble_eq_true rfl⟩) (zPS X hZ hS [.long (lI l0), .long (lI 812851200)]) rfl rfl hl.1 rfl (lv_room (Nat.le_of_ble_eq_true rfl)) d_1_35_4 ⟨Nat.le_of_ble_eq_true rfl, Nat.le_of_ble_eq_true rfl⟩) hS (fun q _ h => zAin X hS q h) (zAin X hS) (fun p1 u1 t1 H1 locs1 ht1 hv1 hw1 hB1 hz1 hk1 hS1 => ?_)
  have hZ1 := zBack X ht1 hB1
  subst hw1
  refine lv_lstore_n (lv' := [(2, .long (lI r1)), (0, .long (lI l0))]) hx hb d_1_35_7 rfl hl (by decide) rfl (fun ls hl => ?_)
  refine lv_lload_n hx hb d_1_35_8 rfl (lv_at hl 0 rfl) ?_
  refine lv_lconst (v := lI 0) hx hb d_1_35_9 (by decide) ?_
  obtain ⟨g2, hf⟩ := gif hf
  refine zcmp_r hx hb g2 (by decide) d_1_35_10 ?_
  refine z0ne (tgt := 18) hx hb zcmp_32 d_1_35_11 (by decide) (fun h3 => ?_) (fun h3 => ?_)
  · replace hf := gneg hf h3
    refine lv_lload_n hx hb d_1_35_18 rfl (lv_at hl 1 rfl) ?_
    refine lv_lload_n hx hb d_1_35_19 rfl (lv_at hl 0 rfl) ?_
    obtain ⟨g4, hf⟩ := gif hf
    refine zldv_r hx hb g4 d_1_35_20 ?_
    exact b_S_above_21 X hf hZ1 hS1 (lv_sub hl [] rfl)
  · replace hf := gpos hf h3
    refine lv_lload_n hx hb d_1_35_14 rfl (lv_at hl 1 rfl) ?_
    refine lv_goto (tgt := 21) hx hb d_1_35_15 (by decide) ?_
    exact b_S_above_21 X hf hZ1 hS1 (lv_sub hl [] rfl)

abbrev Q_CStringLatin1_charAt (K : zK) (D : va_G) (ca : Nat → ClassId) (ad : Nat → Int → Nat → Nat) (L : List Nat) (r : Int) (F : zF) (B : zB) (A : Nat → Prop) : Array Value → State → Outcome → State → Prop := va_Qi (S := Unit) (fun p _ => p = iI r) (fun _ => zPo D ca ad lnC K.2 L F B A) A
def f_CStringLatin1_charAt (K : zK) (l0 : Nat) (l1 : Int) (F : zF) (B : zB) : zO := if l0 < strL.length then zbind (f_CString_checkIndex K l1 (zsl l0) F B) (fun r2 F2 B2 => if 0 ≤ l1 ∧ l1 < zsl l0 then if 0 ≤ (zi2c (zand (zsb l0 l1) 255)) ∧ (zi2c (zand (zsb l0 l1) 255)) < 65536 then some (zi2c (zand (zsb l0 l1) 255), F2, B2) else none else none) else none
set_option maxHeartbeats 4000000 in
set_option maxRecDepth 100000 in
theorem c_CStringLatin1_charAt {l : Launch} {D : va_G} {ca : Nat → ClassId} {ad : Nat → Int → Nat → Nat} {L : List Nat} {aS vS : Nat → Nat} {sz : Nat} {K : zK}  {l0 : Nat} {l1 : Int} {F F9 : zF} {B B9 : zB} {r : Int} (hf : f_CStringLatin1_charAt K l0 l1 F B = some (r, F9, B9)) : Met l ({ cls := "java/lang/StringLatin1", name := "charAt", desc := "([BI)C" } : Jvm.MethodName) (Cond.code ({ cls := "java/lang/StringLatin1", name := "charAt", desc := "([BI)C" } : Jvm.MethodName) prog_22_method_2_code 2 (Option.some Jvm.ClassFile.FieldType.char) :: wAll) ({ frames := 1, cells := 0, slots := 0, locals := 21 } : Room) (va_Pc [.ref (vS l0), .int (iI l1)] (zPre D ca ad lnC K.2 L aS vS F B sz)) (Q_CStringLatin1_charAt K D ca ad L r F9 B9 (zA L sz)) 0 0 (zA L sz) := by
  refine zMet (Qc := Q_CStringLatin1_charAt K D ca ad L r F9 B9) (lv := [(0, .ref (vS l0)), (1, .int (iI l1))]) (by decide) (Nat.le_of_ble_eq_true rfl) rfl (fun A p e s m below meth c ls X hZ hS hl => ?_)
  obtain ⟨hx, hb, hr, hml, hown, hts, hlk, hK, hA, hL, hX⟩ := id X
  replace hf : (if l0 < strL.length then zbind (f_CString_checkIndex K l1 (zsl l0) F B) (fun r2 F2 B2 => if 0 ≤ l1 ∧ l1 < zsl l0 then if 0 ≤ (zi2c (zand (zsb l0 l1) 255)) ∧ (zi2c (zand (zsb l0 l1) 255)) < 65536 then some (zi2c (zand (zsb l0 l1) 255), F2, B2) else none else none) else none) = some (r, F9, B9) := hf
  refine lv_iload_n hx hb d_22_2_0 rfl (lv_at hl 1 rfl) ?_
  refine lv_aload_n hx hb d_22_2_1 rfl (lv_at hl 0 rfl) ?_
  obtain ⟨g1, hf⟩ := gif hf
  refine va_tlen (v := iI (zsl l0)) hx hb (zstr hX g1).2.2.1 hS (zsl_n _) d_22_2_2 ?_
  obtain ⟨r2, F2, B2, hc2, hf⟩ := gbind hf
  refine va_callv (va_runS (As := [.int (iI l1), .int (iI (zsl l0))]) (rest := []) ⟨hx, hb, hml, hown, hts⟩ (c_CString_checkIndex (l := l) hc2) (va_cwS 2 hts (gdS k_7_140 k_7_141 k_1_11 k_7_142) rfl rfl rfl (by decide +kernel) ⟨Nat.le_of_ble_eq_true rfl, Nat.le_of_ble_eq_true rfl⟩) (zPS X hZ hS [.int (iI l1), .int (iI (zsl l0))]) rfl rfl hl.1 rfl (lv_room (Nat.le_of_ble_eq_true rfl)) d_22_2_3 ⟨Nat.le_of_ble_eq_true rfl, Nat.le_of_ble_eq_true rfl⟩) hS (fun q _ h => zAin X hS q h) (zAin X hS) (fun u2 t2 H2 locs2 ht2 hv2 hw2 hB2 hz2 hk2 hS2 => ?_)
  have hZ2 := zBack X ht2 hB2
  refine lv_aload_n hx hb d_22_2_6 rfl (lv_at hl 0 rfl) ?_
  refine lv_iload_n hx hb d_22_2_7 rfl (lv_at hl 1 rfl) ?_
  obtain ⟨g3, hf⟩ := gif hf
  refine va_tb (v := .int (iI (zsb l0 l1))) hx hb (zstr hX g1).2.2.1 hS2 (zs_in g1 g3) (zsb_v g1 g3) d_22_2_8 ?_
  refine lv_sipush (v := iI 255) hx hb d_22_2_9 (by decide) ?_
  refine zand_r hx hb d_22_2_12 ?_
  refine zi2c_r hx hb d_22_2_13 ?_
  obtain ⟨g4, hf⟩ := gif hf
  cases hf
  exact W.zret hx hb hr (zchar g4) (fun t ht hW => ⟨⟨_, (), rfl, rfl, by rw [ht]; exact hZ2, va_K.moved hW.alike hK⟩, hS2.F ht⟩) hS2.2.2 d_22_2_14 hlk

abbrev Q_Performance_level (K : zK) (D : va_G) (ca : Nat → ClassId) (ad : Nat → Int → Nat → Nat) (L : List Nat) (r : Int) (F : zF) (B : zB) (A : Nat → Prop) : Array Value → State → Outcome → State → Prop := va_Qi (S := Unit) (fun p _ => p = iI r) (fun _ => zPo D ca ad lnC K.2 L F B A) A
def f_Performance_level_28 (K : zK) (s0 : Int) (F : zF) (B : zB) : zO := some (s0, F, B)
set_option maxHeartbeats 4000000 in
set_option maxRecDepth 100000 in
theorem b_Performance_level_28 {D : va_G} {ca : Nat → ClassId} {ad : Nat → Int → Nat → Nat} {L : List Nat} {aS vS : Nat → Nat} {A : Nat → Prop} {p : Program} {l : Launch} {e : Env} {s : State} {m : MethodId} {args : Array Value} {below : List Frame} {meth : Method} {c : Code} {K : zK} {r : Int} {F9 : zF} {B9 : zB} (X : zX D ca L aS vS A p s m args meth c prog_7_method_29_code 2 (Option.some Jvm.ClassFile.FieldType.int) "StaveHouse$Performance") {s0 : Int} {F : zF} {B : zB} {H : Heap} {locs : List Loc} {ls : Array Slot} (hf : f_Performance_level_28 K s0 F B = some (r, F9, B9)) (hZ : zH D ca ad lnC K.2 L F B A H) (hS : va_S A s.heap H locs) (hl : lv_has ls 2 []) : W p l e ({ frames := 2, cells := 0, slots := 0, locals := 33 } : Room) s m args below meth c H locs 0 0 (MQ below (Q_Performance_level K D ca ad L r F9 B9 A) args s 0 0 A) (F0 m 28 ls [.int (iI s0)]) := by
  obtain ⟨hx, hb, hr, hml, hown, hts, hlk, hK, hA, hL, hX⟩ := id X
  replace hf : (some (s0, F, B)) = some (r, F9, B9) := hf
  cases hf
  exact W.iret hx hb hr (fun t ht hW => ⟨⟨_, (), rfl, rfl, by rw [ht]; exact hZ, va_K.moved hW.alike hK⟩, hS.F ht⟩) hS.2.2 d_7_29_28 hlk

def f_Performance_level (K : zK) (l0 : Int) (l1 : Int) (F : zF) (B : zB) : zO := if r32 l0 then if r32 l1 then (if l1 ≤ l0 then zbind (f_Performance_rise K l1 F B) (fun r4 F4 B4 => f_Performance_level_28 K (zdv (r4 * (400 - (l0 - l1))) 400) F4 B4) else zbind (f_Performance_rise K l0 F B) (fun r5 F5 B5 => f_Performance_level_28 K r5 F5 B5)) else none else none
set_option maxHeartbeats 4000000 in
set_option maxRecDepth 100000 in
theorem c_Performance_level {l : Launch} {D : va_G} {ca : Nat → ClassId} {ad : Nat → Int → Nat → Nat} {L : List Nat} {aS vS : Nat → Nat} {sz : Nat} {K : zK}  {l0 : Int} {l1 : Int} {F F9 : zF} {B B9 : zB} {r : Int} (hf : f_Performance_level K l0 l1 F B = some (r, F9, B9)) : Met l ({ cls := "StaveHouse$Performance", name := "level", desc := "(II)I" } : Jvm.MethodName) (Cond.code ({ cls := "StaveHouse$Performance", name := "level", desc := "(II)I" } : Jvm.MethodName) prog_7_method_29_code 2 (Option.some Jvm.ClassFile.FieldType.int) :: wAll) ({ frames := 2, cells := 0, slots := 0, locals := 33 } : Room) (va_Pc [.int (iI l0), .int (iI l1)] (zPre D ca ad lnC K.2 L aS vS F B sz)) (Q_Performance_level K D ca ad L r F9 B9 (zA L sz)) 0 0 (zA L sz) := by
  refine zMet (Qc := Q_Performance_level K D ca ad L r F9 B9) (lv := [(0, .int (iI l0)), (1, .int (iI l1))]) (by decide) (Nat.le_of_ble_eq_true rfl) rfl (fun A p e s m below meth c ls X hZ hS hl => ?_)
  obtain ⟨hx, hb, hr, hml, hown, hts, hlk, hK, hA, hL, hX⟩ := id X
  replace hf : (if r32 l0 then if r32 l1 then (if l1 ≤ l0 then zbind (f_Performance_rise K l1 F B) (fun r4 F4 B4 => f_Performance_level_28 K (zdv (r4 * (400 - (l0 - l1))) 400) F4 B4) else zbind (f_Performance_rise K l0 F B) (fun r5 F5 B5 => f_Performance_level_28 K r5 F5 B5)) else none else none) = some (r, F9, B9) := hf
  refine lv_iload_n hx hb d_7_29_0 rfl (lv_at hl 0 rfl) ?_
  refine lv_iload_n hx hb d_7_29_1 rfl (lv_at hl 1 rfl) ?_
  obtain ⟨g1, hf⟩ := gif hf
  obtain ⟨g2, hf⟩ := gif hf
  refine zge (tgt := 12) hx hb g1 g2 d_7_29_2 (by decide) (fun h3 => ?_) (fun h3 => ?_)
  · replace hf := gpos hf h3
    refine lv_iload_n hx hb d_7_29_12 rfl (lv_at hl 1 rfl) ?_
    obtain ⟨r4, F4, B4, hc4, hf⟩ := gbind hf
    refine va_calli (va_runS (As := [.int (iI l1)]) (rest := []) ⟨hx, hb, hml, hown, hts⟩ (c_Performance_rise (l := l) hc4) (va_cwS 1 hts (gdS k_9_19 k_9_20 k_1_20 k_9_21) rfl rfl rfl (by decide +kernel) ⟨Nat.le_of_ble_eq_true rfl, Nat.le_of_ble_eq_true rfl⟩) (zPS X hZ hS [.int (iI l1)]) rfl rfl hl.1 rfl (lv_room (Nat.le_of_ble_eq_true rfl)) d_7_29_13 ⟨Nat.le_of_ble_eq_true rfl, Nat.le_of_ble_eq_true rfl⟩) hS (fun q _ h => zAin X hS q h) (zAin X hS) (fun p4 u4 t4 H4 locs4 ht4 hv4 hw4 hB4 hz4 hk4 hS4 => ?_)
    have hZ4 := zBack X ht4 hB4
    subst hw4
    refine lv_sipush (v := iI 400) hx hb d_7_29_16 (by decide) ?_
    refine lv_iload_n hx hb d_7_29_19 rfl (lv_at hl 0 rfl) ?_
    refine lv_iload_n hx hb d_7_29_20 rfl (lv_at hl 1 rfl) ?_
    refine zsub hx hb d_7_29_21 ?_
    refine zsub hx hb d_7_29_22 ?_
    refine zmul hx hb d_7_29_23 ?_
    refine lv_sipush (v := iI 400) hx hb d_7_29_24 (by decide) ?_
    refine zdv_r hx hb (by decide) d_7_29_27 ?_
    exact b_Performance_level_28 X hf hZ4 hS4 (lv_sub hl [] rfl)
  · replace hf := gneg hf h3
    refine lv_iload_n hx hb d_7_29_5 rfl (lv_at hl 0 rfl) ?_
    obtain ⟨r5, F5, B5, hc5, hf⟩ := gbind hf
    refine va_calli (va_runS (As := [.int (iI l0)]) (rest := []) ⟨hx, hb, hml, hown, hts⟩ (c_Performance_rise (l := l) hc5) (va_cwS 1 hts (gdS k_9_19 k_9_20 k_1_20 k_9_21) rfl rfl rfl (by decide +kernel) ⟨Nat.le_of_ble_eq_true rfl, Nat.le_of_ble_eq_true rfl⟩) (zPS X hZ hS [.int (iI l0)]) rfl rfl hl.1 rfl (lv_room (Nat.le_of_ble_eq_true rfl)) d_7_29_6 ⟨Nat.le_of_ble_eq_true rfl, Nat.le_of_ble_eq_true rfl⟩) hS (fun q _ h => zAin X hS q h) (zAin X hS) (fun p5 u5 t5 H5 locs5 ht5 hv5 hw5 hB5 hz5 hk5 hS5 => ?_)
    have hZ5 := zBack X ht5 hB5
    subst hw5
    refine lv_goto (tgt := 28) hx hb d_7_29_9 (by decide) ?_
    exact b_Performance_level_28 X hf hZ5 hS5 (lv_sub hl [] rfl)

abbrev Q_CString_charAt (K : zK) (D : va_G) (ca : Nat → ClassId) (ad : Nat → Int → Nat → Nat) (L : List Nat) (r : Int) (F : zF) (B : zB) (A : Nat → Prop) : Array Value → State → Outcome → State → Prop := va_Qi (S := Unit) (fun p _ => p = iI r) (fun _ => zPo D ca ad lnC K.2 L F B A) A
def f_CString_charAt (K : zK) (l0 : Nat) (l1 : Int) (F : zF) (B : zB) : zO := if l0 < strL.length then zbind (f_CString_isLatin1 K l0 F B) (fun r2 F2 B2 => if r32 r2 then (if r2 = 0 then none else zbind (f_CStringLatin1_charAt K l0 l1 F2 B2) (fun r5 F5 B5 => if 0 ≤ r5 ∧ r5 < 65536 then some (r5, F5, B5) else none)) else none) else none
set_option maxHeartbeats 4000000 in
set_option maxRecDepth 100000 in
theorem c_CString_charAt {l : Launch} {D : va_G} {ca : Nat → ClassId} {ad : Nat → Int → Nat → Nat} {L : List Nat} {aS vS : Nat → Nat} {sz : Nat} {K : zK}  {l0 : Nat} {l1 : Int} {F F9 : zF} {B B9 : zB} {r : Int} (hf : f_CString_charAt K l0 l1 F B = some (r, F9, B9)) : Met l ({ cls := "java/lang/String", name := "charAt", desc := "(I)C" } : Jvm.MethodName) (Cond.code ({ cls := "java/lang/String", name := "charAt", desc := "(I)C" } : Jvm.MethodName) prog_21_method_56_code 2 (Option.some Jvm.ClassFile.FieldType.char) :: wAll) ({ frames := 2, cells := 0, slots := 0, locals := 42 } : Room) (va_Pc [.ref (aS l0), .int (iI l1)] (zPre D ca ad lnC K.2 L aS vS F B sz)) (Q_CString_charAt K D ca ad L r F9 B9 (zA L sz)) 0 0 (zA L sz) := by
  refine zMet (Qc := Q_CString_charAt K D ca ad L r F9 B9) (lv := [(0, .ref (aS l0)), (1, .int (iI l1))]) (by decide) (Nat.le_of_ble_eq_true rfl) rfl (fun A p e s m below meth c ls X hZ hS hl => ?_)
  obtain ⟨hx, hb, hr, hml, hown, hts, hlk, hK, hA, hL, hX⟩ := id X
  replace hf : (if l0 < strL.length then zbind (f_CString_isLatin1 K l0 F B) (fun r2 F2 B2 => if r32 r2 then (if r2 = 0 then none else zbind (f_CStringLatin1_charAt K l0 l1 F2 B2) (fun r5 F5 B5 => if 0 ≤ r5 ∧ r5 < 65536 then some (r5, F5, B5) else none)) else none) else none) = some (r, F9, B9) := hf
  refine lv_aload_n hx hb d_21_56_0 rfl (lv_at hl 0 rfl) ?_
  obtain ⟨g1, hf⟩ := gif hf
  obtain ⟨r2, F2, B2, hc2, hf⟩ := gbind hf
  refine va_calli (va_runV (As := []) (rest := []) ⟨hx, hb, hml, hown, hts⟩ (c_CString_isLatin1 (l := l) hc2) (cwV 0 hts (gdV k_3_75 k_3_76 k_3_77 k_1_11 k_3_78) rfl rfl rfl (by decide +kernel) ⟨Nat.le_of_ble_eq_true rfl, Nat.le_of_ble_eq_true rfl⟩) ⟨zBlind, zsrecv hX g1 hS, zAt X hZ hS [.ref (aS l0)]⟩ rfl rfl hl.1 rfl (lv_room (Nat.le_of_ble_eq_true rfl)) d_21_56_1 ⟨Nat.le_of_ble_eq_true rfl, Nat.le_of_ble_eq_true rfl⟩) hS (fun q _ h => zAin X hS q h) (zAin X hS) (fun p2 u2 t2 H2 locs2 ht2 hv2 hw2 hB2 hz2 hk2 hS2 => ?_)
  have hZ2 := zBack X ht2 hB2
  subst hw2
  obtain ⟨g3, hf⟩ := gif hf
  refine z0eq (tgt := 16) hx hb g3 d_21_56_4 (by decide) (fun h4 => ?_) (fun h4 => ?_)
  · replace hf := gpos hf h4
    refine lv_aload_n hx hb d_21_56_16 rfl (lv_at hl 0 rfl) ?_
    refine vk_getf hx hb (zstr hX g1).2.1 hS2 hown (hts _ k_15_170) (fun _ h => h) d_21_56_17 ?_
    refine W.eq (g2 := F0 m 20 ls [.ref (vS l0)]) rfl ?_
    refine lv_iload_n hx hb d_21_56_20 rfl (lv_at hl 1 rfl) ?_
    cases hf
  · replace hf := gneg hf h4
    refine lv_aload_n hx hb d_21_56_7 rfl (lv_at hl 0 rfl) ?_
    refine vk_getf hx hb (zstr hX g1).2.1 hS2 hown (hts _ k_15_170) (fun _ h => h) d_21_56_8 ?_
    refine W.eq (g2 := F0 m 11 ls [.ref (vS l0)]) rfl ?_
    refine lv_iload_n hx hb d_21_56_11 rfl (lv_at hl 1 rfl) ?_
    obtain ⟨r5, F5, B5, hc5, hf⟩ := gbind hf
    refine va_calli (va_runS (As := [.ref (vS l0), .int (iI l1)]) (rest := []) ⟨hx, hb, hml, hown, hts⟩ (c_CStringLatin1_charAt (l := l) hc5) (va_cwS 2 hts (gdS k_7_137 k_7_138 k_1_12 k_7_139) rfl rfl rfl (by decide +kernel) ⟨Nat.le_of_ble_eq_true rfl, Nat.le_of_ble_eq_true rfl⟩) (zPS X hZ2 hS2 [.ref (vS l0), .int (iI l1)]) rfl rfl hl.1 rfl (lv_room (Nat.le_of_ble_eq_true rfl)) d_21_56_12 ⟨Nat.le_of_ble_eq_true rfl, Nat.le_of_ble_eq_true rfl⟩) hS2 (fun q _ h => zAin X hS2 q h) (zAin X hS2) (fun p5 u5 t5 H5 locs5 ht5 hv5 hw5 hB5 hz5 hk5 hS5 => ?_)
    have hZ5 := zBack X ht5 hB5
    subst hw5
    obtain ⟨g6, hf⟩ := gif hf
    cases hf
    exact W.zret hx hb hr (zchar g6) (fun t ht hW => ⟨⟨_, (), rfl, rfl, by rw [ht]; exact hZ5, va_K.moved hW.alike hK⟩, hS5.F ht⟩) hS5.2.2 d_21_56_15 hlk


theorem k_4_104 : (Jvm.Cond.methodLink "StaveHouse$Piece" (58 : Nat) ({ cls := "java/lang/Math", name := "min", desc := "(II)I" } : Jvm.MethodName)) ∈ wAll := wA_4 (j := 104) rfl rfl
theorem k_4_105 : (Jvm.Cond.instantiable "StaveHouse$Part" (13 : Nat)) ∈ wAll := wA_4 (j := 105) rfl rfl
theorem k_4_108 : (Jvm.Cond.code ({ cls := "StaveHouse$Part", name := "<init>", desc := "()V" } : Jvm.MethodName) prog_6_method_1_code (2 : Nat) (Option.none : Option Jvm.ClassFile.FieldType)) ∈ wAll := wA_4 (j := 108) rfl rfl
theorem k_4_106 : (Jvm.Cond.methodLink "StaveHouse$Piece" (64 : Nat) ({ cls := "StaveHouse$Part", name := "<init>", desc := "()V" } : Jvm.MethodName)) ∈ wAll := wA_4 (j := 106) rfl rfl
theorem k_4_107 : (Jvm.Cond.instanceMethod ({ cls := "StaveHouse$Part", name := "<init>", desc := "()V" } : Jvm.MethodName)) ∈ wAll := wA_4 (j := 107) rfl rfl
theorem k_4_181 : (Jvm.Cond.methodLink "StaveHouse$Piece" (65 : Nat) ({ cls := "StaveHouse$Part", name := "clear", desc := "()V" } : Jvm.MethodName)) ∈ wAll := wA_4 (j := 181) rfl rfl
theorem k_4_182 : (Jvm.Cond.instanceMethod ({ cls := "StaveHouse$Part", name := "clear", desc := "()V" } : Jvm.MethodName)) ∈ wAll := wA_4 (j := 182) rfl rfl
theorem k_4_183 : (Jvm.Cond.selects "StaveHouse$Part" ({ cls := "StaveHouse$Part", name := "clear", desc := "()V" } : Jvm.MethodName) ({ cls := "StaveHouse$Part", name := "clear", desc := "()V" } : Jvm.MethodName)) ∈ wAll := wA_4 (j := 183) rfl rfl
theorem k_4_184 : (Jvm.Cond.code ({ cls := "StaveHouse$Part", name := "clear", desc := "()V" } : Jvm.MethodName) prog_6_method_2_code (1 : Nat) (Option.none : Option Jvm.ClassFile.FieldType)) ∈ wAll := wA_4 (j := 184) rfl rfl
theorem k_4_96 : (Jvm.Cond.methodLink "StaveHouse$Parser" (187 : Nat) ({ cls := "StaveHouse$Piece", name := "hasPartNamed", desc := "(J)Z" } : Jvm.MethodName)) ∈ wAll := wA_4 (j := 96) rfl rfl
theorem k_4_97 : (Jvm.Cond.instanceMethod ({ cls := "StaveHouse$Piece", name := "hasPartNamed", desc := "(J)Z" } : Jvm.MethodName)) ∈ wAll := wA_4 (j := 97) rfl rfl
theorem k_4_98 : (Jvm.Cond.selects "StaveHouse$Piece" ({ cls := "StaveHouse$Piece", name := "hasPartNamed", desc := "(J)Z" } : Jvm.MethodName) ({ cls := "StaveHouse$Piece", name := "hasPartNamed", desc := "(J)Z" } : Jvm.MethodName)) ∈ wAll := wA_4 (j := 98) rfl rfl
theorem k_4_99 : (Jvm.Cond.code ({ cls := "StaveHouse$Piece", name := "hasPartNamed", desc := "(J)Z" } : Jvm.MethodName) prog_8_method_4_code (4 : Nat) (Option.some Jvm.ClassFile.FieldType.boolean)) ∈ wAll := wA_4 (j := 99) rfl rfl
theorem k_4_100 : (Jvm.Cond.methodLink "StaveHouse$Parser" (197 : Nat) ({ cls := "StaveHouse$Piece", name := "newPart", desc := "()LStaveHouse$Part;" } : Jvm.MethodName)) ∈ wAll := wA_4 (j := 100) rfl rfl
theorem k_4_101 : (Jvm.Cond.instanceMethod ({ cls := "StaveHouse$Piece", name := "newPart", desc := "()LStaveHouse$Part;" } : Jvm.MethodName)) ∈ wAll := wA_4 (j := 101) rfl rfl
theorem k_4_102 : (Jvm.Cond.selects "StaveHouse$Piece" ({ cls := "StaveHouse$Piece", name := "newPart", desc := "()LStaveHouse$Part;" } : Jvm.MethodName) ({ cls := "StaveHouse$Piece", name := "newPart", desc := "()LStaveHouse$Part;" } : Jvm.MethodName)) ∈ wAll := wA_4 (j := 102) rfl rfl
theorem k_4_103 : (Jvm.Cond.code ({ cls := "StaveHouse$Piece", name := "newPart", desc := "()LStaveHouse$Part;" } : Jvm.MethodName) prog_8_method_3_code (2 : Nat) (Option.some (Jvm.ClassFile.FieldType.object "StaveHouse$Part"))) ∈ wAll := wA_4 (j := 103) rfl rfl
theorem k_4_116 : (Jvm.Cond.fieldLink "StaveHouse$Parser" (201 : Nat) "StaveHouse$Part" "word" "J") ∈ wAll := wA_4 (j := 116) rfl rfl
theorem k_4_120 : (Jvm.Cond.fieldLink "StaveHouse$Parser" (206 : Nat) "StaveHouse$Part" "clef" "I") ∈ wAll := wA_4 (j := 120) rfl rfl
theorem k_4_123 : (Jvm.Cond.fieldLink "StaveHouse$Parser" (209 : Nat) "StaveHouse$Part" "number" "I") ∈ wAll := wA_4 (j := 123) rfl rfl
theorem k_4_127 : (Jvm.Cond.fieldLink "StaveHouse$Parser" (210 : Nat) "StaveHouse$Part" "token" "I") ∈ wAll := wA_4 (j := 127) rfl rfl
theorem k_4_129 : (Jvm.Cond.fieldLink "StaveHouse$Parser" (212 : Nat) "StaveHouse$Part" "root" "I") ∈ wAll := wA_4 (j := 129) rfl rfl
theorem k_3_30 : (Jvm.Cond.methodLink "StaveHouse$Parser" (78 : Nat) ({ cls := "StaveHouse$Tokens", name := "start", desc := "(LStaveHouse$ByteRow;)V" } : Jvm.MethodName)) ∈ wAll := wA_3 (j := 30) rfl rfl
theorem k_3_31 : (Jvm.Cond.instanceMethod ({ cls := "StaveHouse$Tokens", name := "start", desc := "(LStaveHouse$ByteRow;)V" } : Jvm.MethodName)) ∈ wAll := wA_3 (j := 31) rfl rfl
theorem k_3_32 : (Jvm.Cond.selects "StaveHouse$Tokens" ({ cls := "StaveHouse$Tokens", name := "start", desc := "(LStaveHouse$ByteRow;)V" } : Jvm.MethodName) ({ cls := "StaveHouse$Tokens", name := "start", desc := "(LStaveHouse$ByteRow;)V" } : Jvm.MethodName)) ∈ wAll := wA_3 (j := 32) rfl rfl
theorem k_3_33 : (Jvm.Cond.code ({ cls := "StaveHouse$Tokens", name := "start", desc := "(LStaveHouse$ByteRow;)V" } : Jvm.MethodName) prog_12_method_2_code (7 : Nat) (Option.none : Option Jvm.ClassFile.FieldType)) ∈ wAll := wA_3 (j := 33) rfl rfl
theorem k_3_155 : (Jvm.Cond.methodLink "StaveHouse$Parser" (82 : Nat) ({ cls := "StaveHouse$Parser", name := "beginsHead", desc := "()Z" } : Jvm.MethodName)) ∈ wAll := wA_3 (j := 155) rfl rfl
theorem k_3_157 : (Jvm.Cond.instanceMethod ({ cls := "StaveHouse$Parser", name := "beginsHead", desc := "()Z" } : Jvm.MethodName)) ∈ wAll := wA_3 (j := 157) rfl rfl
theorem ks_2 : (Jvm.Cond.selects "StaveHouse$Parser" ({ cls := "StaveHouse$Parser", name := "beginsHead", desc := "()Z" } : Jvm.MethodName) ({ cls := "StaveHouse$Parser", name := "beginsHead", desc := "()Z" } : Jvm.MethodName)) ∈ wAll := wA_s (j := 2) rfl rfl
theorem k_3_158 : (Jvm.Cond.code ({ cls := "StaveHouse$Parser", name := "beginsHead", desc := "()Z" } : Jvm.MethodName) prog_5_method_4_code (1 : Nat) (Option.some Jvm.ClassFile.FieldType.boolean)) ∈ wAll := wA_3 (j := 158) rfl rfl
theorem k_4_77 : (Jvm.Cond.methodLink "StaveHouse$Parser" (95 : Nat) ({ cls := "StaveHouse$Parser", name := "takeHead", desc := "(LStaveHouse$Piece;)Z" } : Jvm.MethodName)) ∈ wAll := wA_4 (j := 77) rfl rfl
theorem k_4_79 : (Jvm.Cond.instanceMethod ({ cls := "StaveHouse$Parser", name := "takeHead", desc := "(LStaveHouse$Piece;)Z" } : Jvm.MethodName)) ∈ wAll := wA_4 (j := 79) rfl rfl
theorem ks_30 : (Jvm.Cond.selects "StaveHouse$Parser" ({ cls := "StaveHouse$Parser", name := "takeHead", desc := "(LStaveHouse$Piece;)Z" } : Jvm.MethodName) ({ cls := "StaveHouse$Parser", name := "takeHead", desc := "(LStaveHouse$Piece;)Z" } : Jvm.MethodName)) ∈ wAll := wA_s (j := 30) rfl rfl
theorem k_4_80 : (Jvm.Cond.code ({ cls := "StaveHouse$Parser", name := "takeHead", desc := "(LStaveHouse$Piece;)Z" } : Jvm.MethodName) prog_5_method_6_code (3 : Nat) (Option.some Jvm.ClassFile.FieldType.boolean)) ∈ wAll := wA_4 (j := 80) rfl rfl
theorem k_3_171 : (Jvm.Cond.methodLink "StaveHouse$Parser" (92 : Nat) ({ cls := "StaveHouse$Parser", name := "takeLet", desc := "()Z" } : Jvm.MethodName)) ∈ wAll := wA_3 (j := 171) rfl rfl
theorem k_3_173 : (Jvm.Cond.instanceMethod ({ cls := "StaveHouse$Parser", name := "takeLet", desc := "()Z" } : Jvm.MethodName)) ∈ wAll := wA_3 (j := 173) rfl rfl
theorem ks_4 : (Jvm.Cond.selects "StaveHouse$Parser" ({ cls := "StaveHouse$Parser", name := "takeLet", desc := "()Z" } : Jvm.MethodName) ({ cls := "StaveHouse$Parser", name := "takeLet", desc := "()Z" } : Jvm.MethodName)) ∈ wAll := wA_s (j := 4) rfl rfl
theorem k_3_174 : (Jvm.Cond.code ({ cls := "StaveHouse$Parser", name := "takeLet", desc := "()Z" } : Jvm.MethodName) prog_5_method_9_code (4 : Nat) (Option.some Jvm.ClassFile.FieldType.boolean)) ∈ wAll := wA_3 (j := 174) rfl rfl
theorem k_4_91 : (Jvm.Cond.constantLong "StaveHouse$Parser" (99 : Nat) (508675318629 : Int64)) ∈ wAll := wA_4 (j := 91) rfl rfl
theorem k_4_92 : (Jvm.Cond.methodLink "StaveHouse$Parser" (105 : Nat) ({ cls := "StaveHouse$Parser", name := "takeVoice", desc := "(LStaveHouse$Piece;)Z" } : Jvm.MethodName)) ∈ wAll := wA_4 (j := 92) rfl rfl
theorem k_4_94 : (Jvm.Cond.instanceMethod ({ cls := "StaveHouse$Parser", name := "takeVoice", desc := "(LStaveHouse$Piece;)Z" } : Jvm.MethodName)) ∈ wAll := wA_4 (j := 94) rfl rfl
theorem ks_33 : (Jvm.Cond.selects "StaveHouse$Parser" ({ cls := "StaveHouse$Parser", name := "takeVoice", desc := "(LStaveHouse$Piece;)Z" } : Jvm.MethodName) ({ cls := "StaveHouse$Parser", name := "takeVoice", desc := "(LStaveHouse$Piece;)Z" } : Jvm.MethodName)) ∈ wAll := wA_s (j := 33) rfl rfl
theorem k_4_95 : (Jvm.Cond.code ({ cls := "StaveHouse$Parser", name := "takeVoice", desc := "(LStaveHouse$Piece;)Z" } : Jvm.MethodName) prog_5_method_11_code (7 : Nat) (Option.some Jvm.ClassFile.FieldType.boolean)) ∈ wAll := wA_4 (j := 95) rfl rfl
theorem k_2_134 : (Jvm.Cond.fieldLink "StaveHouse" (63 : Nat) "StaveHouse" "spare" "LStaveHouse$Piece;") ∈ wAll := wA_2 (j := 134) rfl rfl
theorem k_2_178 : (Jvm.Cond.instantiable "StaveHouse$Piece" (14 : Nat)) ∈ wAll := wA_2 (j := 178) rfl rfl
theorem k_2_181 : (Jvm.Cond.code ({ cls := "StaveHouse$Piece", name := "<init>", desc := "()V" } : Jvm.MethodName) prog_8_method_1_code (1 : Nat) (Option.none : Option Jvm.ClassFile.FieldType)) ∈ wAll := wA_2 (j := 181) rfl rfl
theorem k_2_180 : (Jvm.Cond.instanceMethod ({ cls := "StaveHouse$Piece", name := "<init>", desc := "()V" } : Jvm.MethodName)) ∈ wAll := wA_2 (j := 180) rfl rfl
theorem k_3_22 : (Jvm.Cond.methodLink "StaveHouse" (68 : Nat) ({ cls := "StaveHouse$Piece", name := "clear", desc := "()V" } : Jvm.MethodName)) ∈ wAll := wA_3 (j := 22) rfl rfl
theorem k_3_23 : (Jvm.Cond.instanceMethod ({ cls := "StaveHouse$Piece", name := "clear", desc := "()V" } : Jvm.MethodName)) ∈ wAll := wA_3 (j := 23) rfl rfl
theorem k_3_24 : (Jvm.Cond.selects "StaveHouse$Piece" ({ cls := "StaveHouse$Piece", name := "clear", desc := "()V" } : Jvm.MethodName) ({ cls := "StaveHouse$Piece", name := "clear", desc := "()V" } : Jvm.MethodName)) ∈ wAll := wA_3 (j := 24) rfl rfl
theorem k_3_25 : (Jvm.Cond.code ({ cls := "StaveHouse$Piece", name := "clear", desc := "()V" } : Jvm.MethodName) prog_8_method_2_code (1 : Nat) (Option.none : Option Jvm.ClassFile.FieldType)) ∈ wAll := wA_3 (j := 25) rfl rfl
theorem k_3_26 : (Jvm.Cond.methodLink "StaveHouse" (71 : Nat) ({ cls := "StaveHouse$Parser", name := "parse", desc := "(LStaveHouse$ByteRow;LStaveHouse$Piece;)I" } : Jvm.MethodName)) ∈ wAll := wA_3 (j := 26) rfl rfl
theorem k_3_27 : (Jvm.Cond.instanceMethod ({ cls := "StaveHouse$Parser", name := "parse", desc := "(LStaveHouse$ByteRow;LStaveHouse$Piece;)I" } : Jvm.MethodName)) ∈ wAll := wA_3 (j := 27) rfl rfl
theorem k_3_28 : (Jvm.Cond.selects "StaveHouse$Parser" ({ cls := "StaveHouse$Parser", name := "parse", desc := "(LStaveHouse$ByteRow;LStaveHouse$Piece;)I" } : Jvm.MethodName) ({ cls := "StaveHouse$Parser", name := "parse", desc := "(LStaveHouse$ByteRow;LStaveHouse$Piece;)I" } : Jvm.MethodName)) ∈ wAll := wA_3 (j := 28) rfl rfl
theorem k_3_29 : (Jvm.Cond.code ({ cls := "StaveHouse$Parser", name := "parse", desc := "(LStaveHouse$ByteRow;LStaveHouse$Piece;)I" } : Jvm.MethodName) prog_5_method_2_code (5 : Nat) (Option.some Jvm.ClassFile.FieldType.int)) ∈ wAll := wA_3 (j := 29) rfl rfl
theorem k_4_185 : (Jvm.Cond.methodLink "StaveHouse" (82 : Nat) ({ cls := "StaveHouse$Walker", name := "goVoice", desc := "(LStaveHouse$Parser;LStaveHouse$Piece;LStaveHouse$Part;)I" } : Jvm.MethodName)) ∈ wAll := wA_4 (j := 185) rfl rfl
theorem k_4_186 : (Jvm.Cond.instanceMethod ({ cls := "StaveHouse$Walker", name := "goVoice", desc := "(LStaveHouse$Parser;LStaveHouse$Piece;LStaveHouse$Part;)I" } : Jvm.MethodName)) ∈ wAll := wA_4 (j := 186) rfl rfl
theorem k_4_187 : (Jvm.Cond.selects "StaveHouse$Walker" ({ cls := "StaveHouse$Walker", name := "goVoice", desc := "(LStaveHouse$Parser;LStaveHouse$Piece;LStaveHouse$Part;)I" } : Jvm.MethodName) ({ cls := "StaveHouse$Walker", name := "goVoice", desc := "(LStaveHouse$Parser;LStaveHouse$Piece;LStaveHouse$Part;)I" } : Jvm.MethodName)) ∈ wAll := wA_4 (j := 187) rfl rfl
theorem k_4_188 : (Jvm.Cond.code ({ cls := "StaveHouse$Walker", name := "goVoice", desc := "(LStaveHouse$Parser;LStaveHouse$Piece;LStaveHouse$Part;)I" } : Jvm.MethodName) prog_13_method_2_code (5 : Nat) (Option.some Jvm.ClassFile.FieldType.int)) ∈ wAll := wA_4 (j := 188) rfl rfl
theorem k_5_23 : (Jvm.Cond.methodLink "StaveHouse" (86 : Nat) ({ cls := "StaveHouse$Part", name := "judge", desc := "(LStaveHouse$Piece;)I" } : Jvm.MethodName)) ∈ wAll := wA_5 (j := 23) rfl rfl
theorem k_5_24 : (Jvm.Cond.instanceMethod ({ cls := "StaveHouse$Part", name := "judge", desc := "(LStaveHouse$Piece;)I" } : Jvm.MethodName)) ∈ wAll := wA_5 (j := 24) rfl rfl
theorem k_5_25 : (Jvm.Cond.selects "StaveHouse$Part" ({ cls := "StaveHouse$Part", name := "judge", desc := "(LStaveHouse$Piece;)I" } : Jvm.MethodName) ({ cls := "StaveHouse$Part", name := "judge", desc := "(LStaveHouse$Piece;)I" } : Jvm.MethodName)) ∈ wAll := wA_5 (j := 25) rfl rfl
theorem k_5_26 : (Jvm.Cond.code ({ cls := "StaveHouse$Part", name := "judge", desc := "(LStaveHouse$Piece;)I" } : Jvm.MethodName) prog_6_method_4_code (6 : Nat) (Option.some Jvm.ClassFile.FieldType.int)) ∈ wAll := wA_5 (j := 26) rfl rfl
theorem k_5_170 : (Jvm.Cond.methodLink "StaveHouse" (93 : Nat) ({ cls := "StaveHouse$Piece", name := "judgeEnds", desc := "()I" } : Jvm.MethodName)) ∈ wAll := wA_5 (j := 170) rfl rfl
theorem k_5_171 : (Jvm.Cond.instanceMethod ({ cls := "StaveHouse$Piece", name := "judgeEnds", desc := "()I" } : Jvm.MethodName)) ∈ wAll := wA_5 (j := 171) rfl rfl
theorem k_5_172 : (Jvm.Cond.selects "StaveHouse$Piece" ({ cls := "StaveHouse$Piece", name := "judgeEnds", desc := "()I" } : Jvm.MethodName) ({ cls := "StaveHouse$Piece", name := "judgeEnds", desc := "()I" } : Jvm.MethodName)) ∈ wAll := wA_5 (j := 172) rfl rfl
theorem k_5_173 : (Jvm.Cond.code ({ cls := "StaveHouse$Piece", name := "judgeEnds", desc := "()I" } : Jvm.MethodName) prog_8_method_7_code (3 : Nat) (Option.some Jvm.ClassFile.FieldType.int)) ∈ wAll := wA_5 (j := 173) rfl rfl
theorem k_2_231 : (Jvm.Cond.fieldLink "StaveHouse$Piece" (104 : Nat) "StaveHouse$Piece" "study" "LStaveHouse$Study;") ∈ wAll := wA_2 (j := 231) rfl rfl
theorem k_5_190 : (Jvm.Cond.classLink "StaveHouse$Piece" (108 : Nat) "StaveHouse$Study") ∈ wAll := wA_5 (j := 190) rfl rfl
theorem k_5_191 : (Jvm.Cond.instantiable "StaveHouse$Study" (11 : Nat)) ∈ wAll := wA_5 (j := 191) rfl rfl
theorem k_5_194 : (Jvm.Cond.code ({ cls := "StaveHouse$Study", name := "<init>", desc := "()V" } : Jvm.MethodName) prog_11_method_1_code (1 : Nat) (Option.none : Option Jvm.ClassFile.FieldType)) ∈ wAll := wA_5 (j := 194) rfl rfl
theorem k_5_193 : (Jvm.Cond.instanceMethod ({ cls := "StaveHouse$Study", name := "<init>", desc := "()V" } : Jvm.MethodName)) ∈ wAll := wA_5 (j := 193) rfl rfl
theorem k_5_235 : (Jvm.Cond.methodLink "StaveHouse$Piece" (111 : Nat) ({ cls := "StaveHouse$Study", name := "lookThrough", desc := "(LStaveHouse$Piece;)V" } : Jvm.MethodName)) ∈ wAll := wA_5 (j := 235) rfl rfl
theorem k_5_236 : (Jvm.Cond.instanceMethod ({ cls := "StaveHouse$Study", name := "lookThrough", desc := "(LStaveHouse$Piece;)V" } : Jvm.MethodName)) ∈ wAll := wA_5 (j := 236) rfl rfl
theorem k_5_237 : (Jvm.Cond.selects "StaveHouse$Study" ({ cls := "StaveHouse$Study", name := "lookThrough", desc := "(LStaveHouse$Piece;)V" } : Jvm.MethodName) ({ cls := "StaveHouse$Study", name := "lookThrough", desc := "(LStaveHouse$Piece;)V" } : Jvm.MethodName)) ∈ wAll := wA_5 (j := 237) rfl rfl
theorem k_5_238 : (Jvm.Cond.code ({ cls := "StaveHouse$Study", name := "lookThrough", desc := "(LStaveHouse$Piece;)V" } : Jvm.MethodName) prog_11_method_2_code (3 : Nat) (Option.none : Option Jvm.ClassFile.FieldType)) ∈ wAll := wA_5 (j := 238) rfl rfl
theorem k_2_226 : (Jvm.Cond.fieldLink "StaveHouse$Piece" (93 : Nat) "StaveHouse$Piece" "performance" "LStaveHouse$Performance;") ∈ wAll := wA_2 (j := 226) rfl rfl
theorem k_6_56 : (Jvm.Cond.classLink "StaveHouse$Piece" (97 : Nat) "StaveHouse$Performance") ∈ wAll := wA_6 (j := 56) rfl rfl
theorem k_6_57 : (Jvm.Cond.instantiable "StaveHouse$Performance" (14 : Nat)) ∈ wAll := wA_6 (j := 57) rfl rfl
theorem k_6_60 : (Jvm.Cond.code ({ cls := "StaveHouse$Performance", name := "<init>", desc := "()V" } : Jvm.MethodName) prog_7_method_1_code (1 : Nat) (Option.none : Option Jvm.ClassFile.FieldType)) ∈ wAll := wA_6 (j := 60) rfl rfl
theorem k_6_59 : (Jvm.Cond.instanceMethod ({ cls := "StaveHouse$Performance", name := "<init>", desc := "()V" } : Jvm.MethodName)) ∈ wAll := wA_6 (j := 59) rfl rfl
theorem k_6_112 : (Jvm.Cond.methodLink "StaveHouse$Piece" (100 : Nat) ({ cls := "StaveHouse$Performance", name := "gather", desc := "(LStaveHouse$Piece;)V" } : Jvm.MethodName)) ∈ wAll := wA_6 (j := 112) rfl rfl
theorem k_6_113 : (Jvm.Cond.instanceMethod ({ cls := "StaveHouse$Performance", name := "gather", desc := "(LStaveHouse$Piece;)V" } : Jvm.MethodName)) ∈ wAll := wA_6 (j := 113) rfl rfl
theorem k_6_114 : (Jvm.Cond.selects "StaveHouse$Performance" ({ cls := "StaveHouse$Performance", name := "gather", desc := "(LStaveHouse$Piece;)V" } : Jvm.MethodName) ({ cls := "StaveHouse$Performance", name := "gather", desc := "(LStaveHouse$Piece;)V" } : Jvm.MethodName)) ∈ wAll := wA_6 (j := 114) rfl rfl
theorem k_6_115 : (Jvm.Cond.code ({ cls := "StaveHouse$Performance", name := "gather", desc := "(LStaveHouse$Piece;)V" } : Jvm.MethodName) prog_7_method_2_code (5 : Nat) (Option.none : Option Jvm.ClassFile.FieldType)) ∈ wAll := wA_6 (j := 115) rfl rfl
theorem k_2_223 : (Jvm.Cond.fieldLink "StaveHouse" (120 : Nat) "StaveHouse$Piece" "bars" "I") ∈ wAll := wA_2 (j := 223) rfl rfl
theorem k_2_200 : (Jvm.Cond.fieldLink "StaveHouse" (123 : Nat) "StaveHouse$Piece" "fifths" "I") ∈ wAll := wA_2 (j := 200) rfl rfl
theorem k_2_204 : (Jvm.Cond.fieldLink "StaveHouse" (126 : Nat) "StaveHouse$Piece" "minor" "I") ∈ wAll := wA_2 (j := 204) rfl rfl
theorem k_2_209 : (Jvm.Cond.fieldLink "StaveHouse" (129 : Nat) "StaveHouse$Piece" "above" "I") ∈ wAll := wA_2 (j := 209) rfl rfl
theorem k_2_214 : (Jvm.Cond.fieldLink "StaveHouse" (132 : Nat) "StaveHouse$Piece" "below" "I") ∈ wAll := wA_2 (j := 214) rfl rfl
theorem k_2_219 : (Jvm.Cond.fieldLink "StaveHouse" (135 : Nat) "StaveHouse$Piece" "tempo" "I") ∈ wAll := wA_2 (j := 219) rfl rfl
theorem k_5_186 : (Jvm.Cond.methodLink "StaveHouse" (138 : Nat) ({ cls := "StaveHouse$Piece", name := "studyMade", desc := "()LStaveHouse$Study;" } : Jvm.MethodName)) ∈ wAll := wA_5 (j := 186) rfl rfl
theorem k_5_187 : (Jvm.Cond.instanceMethod ({ cls := "StaveHouse$Piece", name := "studyMade", desc := "()LStaveHouse$Study;" } : Jvm.MethodName)) ∈ wAll := wA_5 (j := 187) rfl rfl
theorem k_5_188 : (Jvm.Cond.selects "StaveHouse$Piece" ({ cls := "StaveHouse$Piece", name := "studyMade", desc := "()LStaveHouse$Study;" } : Jvm.MethodName) ({ cls := "StaveHouse$Piece", name := "studyMade", desc := "()LStaveHouse$Study;" } : Jvm.MethodName)) ∈ wAll := wA_5 (j := 188) rfl rfl
theorem k_5_189 : (Jvm.Cond.code ({ cls := "StaveHouse$Piece", name := "studyMade", desc := "()LStaveHouse$Study;" } : Jvm.MethodName) prog_8_method_9_code (1 : Nat) (Option.some (Jvm.ClassFile.FieldType.object "StaveHouse$Study"))) ∈ wAll := wA_5 (j := 189) rfl rfl
theorem k_6_52 : (Jvm.Cond.methodLink "StaveHouse" (150 : Nat) ({ cls := "StaveHouse$Piece", name := "soundsMade", desc := "()LStaveHouse$Performance;" } : Jvm.MethodName)) ∈ wAll := wA_6 (j := 52) rfl rfl
theorem k_6_53 : (Jvm.Cond.instanceMethod ({ cls := "StaveHouse$Piece", name := "soundsMade", desc := "()LStaveHouse$Performance;" } : Jvm.MethodName)) ∈ wAll := wA_6 (j := 53) rfl rfl
theorem k_6_54 : (Jvm.Cond.selects "StaveHouse$Piece" ({ cls := "StaveHouse$Piece", name := "soundsMade", desc := "()LStaveHouse$Performance;" } : Jvm.MethodName) ({ cls := "StaveHouse$Piece", name := "soundsMade", desc := "()LStaveHouse$Performance;" } : Jvm.MethodName)) ∈ wAll := wA_6 (j := 54) rfl rfl
theorem k_6_55 : (Jvm.Cond.code ({ cls := "StaveHouse$Piece", name := "soundsMade", desc := "()LStaveHouse$Performance;" } : Jvm.MethodName) prog_8_method_8_code (1 : Nat) (Option.some (Jvm.ClassFile.FieldType.object "StaveHouse$Performance"))) ∈ wAll := wA_6 (j := 55) rfl rfl
theorem k_6_217 : (Jvm.Cond.fieldLink "StaveHouse" (163 : Nat) "StaveHouse$Layout" "lineCount" "I") ∈ wAll := wA_6 (j := 217) rfl rfl
theorem k_6_67 : (Jvm.Cond.fieldLink "StaveHouse" (171 : Nat) "StaveHouse$Performance" "made" "I") ∈ wAll := wA_6 (j := 67) rfl rfl
theorem k_6_64 : (Jvm.Cond.fieldLink "StaveHouse" (168 : Nat) "StaveHouse$Performance" "count" "I") ∈ wAll := wA_6 (j := 64) rfl rfl
theorem k_6_154 : (Jvm.Cond.methodLink "StaveHouse" (154 : Nat) ({ cls := "StaveHouse$Performance", name := "keyHeard", desc := "()I" } : Jvm.MethodName)) ∈ wAll := wA_6 (j := 154) rfl rfl
theorem k_6_155 : (Jvm.Cond.instanceMethod ({ cls := "StaveHouse$Performance", name := "keyHeard", desc := "()I" } : Jvm.MethodName)) ∈ wAll := wA_6 (j := 155) rfl rfl
theorem k_6_156 : (Jvm.Cond.selects "StaveHouse$Performance" ({ cls := "StaveHouse$Performance", name := "keyHeard", desc := "()I" } : Jvm.MethodName) ({ cls := "StaveHouse$Performance", name := "keyHeard", desc := "()I" } : Jvm.MethodName)) ∈ wAll := wA_6 (j := 156) rfl rfl
theorem k_6_157 : (Jvm.Cond.code ({ cls := "StaveHouse$Performance", name := "keyHeard", desc := "()I" } : Jvm.MethodName) prog_7_method_16_code (9 : Nat) (Option.some Jvm.ClassFile.FieldType.int)) ∈ wAll := wA_6 (j := 157) rfl rfl
theorem k_5_202 : (Jvm.Cond.fieldLink "StaveHouse" (147 : Nat) "StaveHouse$Study" "faults" "I") ∈ wAll := wA_5 (j := 202) rfl rfl
theorem k_5_198 : (Jvm.Cond.fieldLink "StaveHouse" (142 : Nat) "StaveHouse$Study" "moments" "I") ∈ wAll := wA_5 (j := 198) rfl rfl
theorem k_6_66 : (Jvm.Cond.fieldLink "StaveHouse" (250 : Nat) "StaveHouse$Performance" "tooMany" "Z") ∈ wAll := wA_6 (j := 66) rfl rfl
theorem k_7_87 : (Jvm.Cond.methodLink "StaveHouse" (253 : Nat) ({ cls := "StaveHouse$Performance", name := "begin", desc := "()V" } : Jvm.MethodName)) ∈ wAll := wA_7 (j := 87) rfl rfl
theorem k_7_88 : (Jvm.Cond.instanceMethod ({ cls := "StaveHouse$Performance", name := "begin", desc := "()V" } : Jvm.MethodName)) ∈ wAll := wA_7 (j := 88) rfl rfl
theorem k_7_89 : (Jvm.Cond.selects "StaveHouse$Performance" ({ cls := "StaveHouse$Performance", name := "begin", desc := "()V" } : Jvm.MethodName) ({ cls := "StaveHouse$Performance", name := "begin", desc := "()V" } : Jvm.MethodName)) ∈ wAll := wA_7 (j := 89) rfl rfl
theorem k_7_90 : (Jvm.Cond.code ({ cls := "StaveHouse$Performance", name := "begin", desc := "()V" } : Jvm.MethodName) prog_7_method_11_code (2 : Nat) (Option.none : Option Jvm.ClassFile.FieldType)) ∈ wAll := wA_7 (j := 90) rfl rfl
theorem k_9_38 : (Jvm.Cond.constantLong "StaveHouse" (309 : Nat) (-2147483648 : Int64)) ∈ wAll := wA_9 (j := 38) rfl rfl
theorem k_5_200 : (Jvm.Cond.fieldLink "StaveHouse" (311 : Nat) "StaveHouse$Study" "places" "[J") ∈ wAll := wA_5 (j := 200) rfl rfl
theorem k_9_39 : (Jvm.Cond.methodLink "StaveHouse" (314 : Nat) ({ cls := "StaveHouse$Study", name := "chordTold", desc := "(LStaveHouse$Piece;II)J" } : Jvm.MethodName)) ∈ wAll := wA_9 (j := 39) rfl rfl
theorem k_9_40 : (Jvm.Cond.instanceMethod ({ cls := "StaveHouse$Study", name := "chordTold", desc := "(LStaveHouse$Piece;II)J" } : Jvm.MethodName)) ∈ wAll := wA_9 (j := 40) rfl rfl
theorem k_9_41 : (Jvm.Cond.selects "StaveHouse$Study" ({ cls := "StaveHouse$Study", name := "chordTold", desc := "(LStaveHouse$Piece;II)J" } : Jvm.MethodName) ({ cls := "StaveHouse$Study", name := "chordTold", desc := "(LStaveHouse$Piece;II)J" } : Jvm.MethodName)) ∈ wAll := wA_9 (j := 41) rfl rfl
theorem k_9_42 : (Jvm.Cond.code ({ cls := "StaveHouse$Study", name := "chordTold", desc := "(LStaveHouse$Piece;II)J" } : Jvm.MethodName) prog_11_method_12_code (7 : Nat) (Option.some Jvm.ClassFile.FieldType.long)) ∈ wAll := wA_9 (j := 42) rfl rfl
theorem k_5_204 : (Jvm.Cond.fieldLink "StaveHouse" (318 : Nat) "StaveHouse$Study" "faultRows" "[[I") ∈ wAll := wA_5 (j := 204) rfl rfl
theorem k_6_209 : (Jvm.Cond.classLink "StaveHouse" (164 : Nat) "StaveHouse$Layout") ∈ wAll := wA_6 (j := 209) rfl rfl
theorem k_6_210 : (Jvm.Cond.instantiable "StaveHouse$Layout" (13 : Nat)) ∈ wAll := wA_6 (j := 210) rfl rfl
theorem k_6_213 : (Jvm.Cond.code ({ cls := "StaveHouse$Layout", name := "<init>", desc := "()V" } : Jvm.MethodName) prog_4_method_1_code (1 : Nat) (Option.none : Option Jvm.ClassFile.FieldType)) ∈ wAll := wA_6 (j := 213) rfl rfl
theorem k_6_212 : (Jvm.Cond.instanceMethod ({ cls := "StaveHouse$Layout", name := "<init>", desc := "()V" } : Jvm.MethodName)) ∈ wAll := wA_6 (j := 212) rfl rfl
theorem k_7_17 : (Jvm.Cond.methodLink "StaveHouse" (238 : Nat) ({ cls := "StaveHouse$Layout", name := "breakLines", desc := "(LStaveHouse$Piece;I)I" } : Jvm.MethodName)) ∈ wAll := wA_7 (j := 17) rfl rfl
theorem k_7_18 : (Jvm.Cond.instanceMethod ({ cls := "StaveHouse$Layout", name := "breakLines", desc := "(LStaveHouse$Piece;I)I" } : Jvm.MethodName)) ∈ wAll := wA_7 (j := 18) rfl rfl
theorem k_7_19 : (Jvm.Cond.selects "StaveHouse$Layout" ({ cls := "StaveHouse$Layout", name := "breakLines", desc := "(LStaveHouse$Piece;I)I" } : Jvm.MethodName) ({ cls := "StaveHouse$Layout", name := "breakLines", desc := "(LStaveHouse$Piece;I)I" } : Jvm.MethodName)) ∈ wAll := wA_7 (j := 19) rfl rfl
theorem k_7_20 : (Jvm.Cond.code ({ cls := "StaveHouse$Layout", name := "breakLines", desc := "(LStaveHouse$Piece;I)I" } : Jvm.MethodName) prog_4_method_2_code (6 : Nat) (Option.some Jvm.ClassFile.FieldType.int)) ∈ wAll := wA_7 (j := 20) rfl rfl
theorem k_2_136 : (Jvm.Cond.fieldLink "StaveHouse" (271 : Nat) "StaveHouse" "spareFile" "LStaveHouse$SoundFile;") ∈ wAll := wA_2 (j := 136) rfl rfl
theorem k_7_209 : (Jvm.Cond.classLink "StaveHouse" (275 : Nat) "StaveHouse$SoundFile") ∈ wAll := wA_7 (j := 209) rfl rfl
theorem k_7_210 : (Jvm.Cond.instantiable "StaveHouse$SoundFile" (15 : Nat)) ∈ wAll := wA_7 (j := 210) rfl rfl
theorem k_7_213 : (Jvm.Cond.code ({ cls := "StaveHouse$SoundFile", name := "<init>", desc := "()V" } : Jvm.MethodName) prog_10_method_1_code (1 : Nat) (Option.none : Option Jvm.ClassFile.FieldType)) ∈ wAll := wA_7 (j := 213) rfl rfl
theorem k_7_212 : (Jvm.Cond.instanceMethod ({ cls := "StaveHouse$SoundFile", name := "<init>", desc := "()V" } : Jvm.MethodName)) ∈ wAll := wA_7 (j := 212) rfl rfl
theorem k_8_30 : (Jvm.Cond.methodLink "StaveHouse" (278 : Nat) ({ cls := "StaveHouse$SoundFile", name := "load", desc := "(LStaveHouse$ByteRow;)I" } : Jvm.MethodName)) ∈ wAll := wA_8 (j := 30) rfl rfl
theorem k_8_31 : (Jvm.Cond.instanceMethod ({ cls := "StaveHouse$SoundFile", name := "load", desc := "(LStaveHouse$ByteRow;)I" } : Jvm.MethodName)) ∈ wAll := wA_8 (j := 31) rfl rfl
theorem k_8_32 : (Jvm.Cond.selects "StaveHouse$SoundFile" ({ cls := "StaveHouse$SoundFile", name := "load", desc := "(LStaveHouse$ByteRow;)I" } : Jvm.MethodName) ({ cls := "StaveHouse$SoundFile", name := "load", desc := "(LStaveHouse$ByteRow;)I" } : Jvm.MethodName)) ∈ wAll := wA_8 (j := 32) rfl rfl
theorem k_8_33 : (Jvm.Cond.code ({ cls := "StaveHouse$SoundFile", name := "load", desc := "(LStaveHouse$ByteRow;)I" } : Jvm.MethodName) prog_10_method_2_code (7 : Nat) (Option.some Jvm.ClassFile.FieldType.int)) ∈ wAll := wA_8 (j := 33) rfl rfl
theorem W_prog_8_method_3_code_0 : chW prog_8_method_3_code 0 [42, 180, 0, 17, 6, 184, 0, 58, 60, 42, 180, 0, 11, 27, 50, 199, 0, 16, 42, 180, 0, 11, 27, 187, 0, 9, 89, 183, 0, 64, 83, 42, 180, 0, 11, 27] := chW_of (by decide +kernel)
theorem d_8_3_0 : decode prog_8_method_3_code 0 = .ok (.aload_n 0, 1) := D_42 W_prog_8_method_3_code_0 0 rfl rfl
theorem d_8_3_1 : decode prog_8_method_3_code 1 = .ok (.getfield 17, 3) := D_180 W_prog_8_method_3_code_0 1 rfl rfl rfl
theorem d_8_3_4 : decode prog_8_method_3_code 4 = .ok (.iconst 3, 1) := D_6 W_prog_8_method_3_code_0 4 rfl rfl
theorem d_8_3_5 : decode prog_8_method_3_code 5 = .ok (.invokestatic 58, 3) := D_184 W_prog_8_method_3_code_0 5 rfl rfl rfl
theorem d_8_3_8 : decode prog_8_method_3_code 8 = .ok (.istore_n 1, 1) := D_60 W_prog_8_method_3_code_0 8 rfl rfl
theorem d_8_3_9 : decode prog_8_method_3_code 9 = .ok (.aload_n 0, 1) := D_42 W_prog_8_method_3_code_0 9 rfl rfl
theorem d_8_3_10 : decode prog_8_method_3_code 10 = .ok (.getfield 11, 3) := D_180 W_prog_8_method_3_code_0 10 rfl rfl rfl
theorem d_8_3_13 : decode prog_8_method_3_code 13 = .ok (.iload_n 1, 1) := D_27 W_prog_8_method_3_code_0 13 rfl rfl
theorem d_8_3_14 : decode prog_8_method_3_code 14 = .ok (.aaload, 1) := D_50 W_prog_8_method_3_code_0 14 rfl rfl
theorem d_8_3_15 : decode prog_8_method_3_code 15 = .ok (.ifnonnull 16, 3) := D_199 W_prog_8_method_3_code_0 15 rfl rfl rfl
theorem d_8_3_18 : decode prog_8_method_3_code 18 = .ok (.aload_n 0, 1) := D_42 W_prog_8_method_3_code_0 18 rfl rfl
theorem d_8_3_19 : decode prog_8_method_3_code 19 = .ok (.getfield 11, 3) := D_180 W_prog_8_method_3_code_0 19 rfl rfl rfl
theorem d_8_3_22 : decode prog_8_method_3_code 22 = .ok (.iload_n 1, 1) := D_27 W_prog_8_method_3_code_0 22 rfl rfl
theorem d_8_3_23 : decode prog_8_method_3_code 23 = .ok (.new 9, 3) := D_187 W_prog_8_method_3_code_0 23 rfl rfl rfl
theorem d_8_3_26 : decode prog_8_method_3_code 26 = .ok (.dup, 1) := D_89 W_prog_8_method_3_code_0 26 rfl rfl
theorem d_8_3_27 : decode prog_8_method_3_code 27 = .ok (.invokespecial 64, 3) := D_183 W_prog_8_method_3_code_0 27 rfl rfl rfl
theorem d_8_3_30 : decode prog_8_method_3_code 30 = .ok (.aastore, 1) := D_83 W_prog_8_method_3_code_0 30 rfl rfl
theorem d_8_3_31 : decode prog_8_method_3_code 31 = .ok (.aload_n 0, 1) := D_42 W_prog_8_method_3_code_0 31 rfl rfl
theorem W_prog_8_method_3_code_32 : chW prog_8_method_3_code 32 [180, 0, 11, 27, 50, 182, 0, 65, 42, 27, 4, 96, 181, 0, 17, 42, 180, 0, 11, 27, 50, 176] := chW_of (by decide +kernel)
theorem d_8_3_32 : decode prog_8_method_3_code 32 = .ok (.getfield 11, 3) := D_180 W_prog_8_method_3_code_32 0 rfl rfl rfl
theorem d_8_3_35 : decode prog_8_method_3_code 35 = .ok (.iload_n 1, 1) := D_27 W_prog_8_method_3_code_32 3 rfl rfl
theorem d_8_3_36 : decode prog_8_method_3_code 36 = .ok (.aaload, 1) := D_50 W_prog_8_method_3_code_32 4 rfl rfl
theorem d_8_3_37 : decode prog_8_method_3_code 37 = .ok (.invokevirtual 65, 3) := D_182 W_prog_8_method_3_code_32 5 rfl rfl rfl
theorem d_8_3_40 : decode prog_8_method_3_code 40 = .ok (.aload_n 0, 1) := D_42 W_prog_8_method_3_code_32 8 rfl rfl
theorem d_8_3_41 : decode prog_8_method_3_code 41 = .ok (.iload_n 1, 1) := D_27 W_prog_8_method_3_code_32 9 rfl rfl
theorem d_8_3_42 : decode prog_8_method_3_code 42 = .ok (.iconst 1, 1) := D_4 W_prog_8_method_3_code_32 10 rfl rfl
theorem d_8_3_43 : decode prog_8_method_3_code 43 = .ok (.iadd, 1) := D_96 W_prog_8_method_3_code_32 11 rfl rfl
theorem d_8_3_44 : decode prog_8_method_3_code 44 = .ok (.putfield 17, 3) := D_181 W_prog_8_method_3_code_32 12 rfl rfl rfl
theorem d_8_3_47 : decode prog_8_method_3_code 47 = .ok (.aload_n 0, 1) := D_42 W_prog_8_method_3_code_32 15 rfl rfl
theorem d_8_3_48 : decode prog_8_method_3_code 48 = .ok (.getfield 11, 3) := D_180 W_prog_8_method_3_code_32 16 rfl rfl rfl
theorem d_8_3_51 : decode prog_8_method_3_code 51 = .ok (.iload_n 1, 1) := D_27 W_prog_8_method_3_code_32 19 rfl rfl
theorem d_8_3_52 : decode prog_8_method_3_code 52 = .ok (.aaload, 1) := D_50 W_prog_8_method_3_code_32 20 rfl rfl
theorem d_8_3_53 : decode prog_8_method_3_code 53 = .ok (.areturn, 1) := D_176 W_prog_8_method_3_code_32 21 rfl rfl
theorem W_prog_5_method_11_code_0 : chW prog_5_method_11_code 0 [42, 16, 10, 182, 0, 166, 61, 42, 180, 0, 48, 182, 0, 122, 42, 182, 0, 170, 154, 0, 9, 42, 5, 182, 0, 101, 172, 42, 180, 0, 48, 180, 0, 173, 66, 43] := chW_of (by decide +kernel)
theorem d_5_11_0 : decode prog_5_method_11_code 0 = .ok (.aload_n 0, 1) := D_42 W_prog_5_method_11_code_0 0 rfl rfl
theorem d_5_11_1 : decode prog_5_method_11_code 1 = .ok (.bipush 10, 2) := D_16 W_prog_5_method_11_code_0 1 rfl rfl rfl
theorem d_5_11_3 : decode prog_5_method_11_code 3 = .ok (.invokevirtual 166, 3) := D_182 W_prog_5_method_11_code_0 3 rfl rfl rfl
theorem d_5_11_6 : decode prog_5_method_11_code 6 = .ok (.istore_n 2, 1) := D_61 W_prog_5_method_11_code_0 6 rfl rfl
theorem d_5_11_7 : decode prog_5_method_11_code 7 = .ok (.aload_n 0, 1) := D_42 W_prog_5_method_11_code_0 7 rfl rfl
theorem d_5_11_8 : decode prog_5_method_11_code 8 = .ok (.getfield 48, 3) := D_180 W_prog_5_method_11_code_0 8 rfl rfl rfl
theorem d_5_11_11 : decode prog_5_method_11_code 11 = .ok (.invokevirtual 122, 3) := D_182 W_prog_5_method_11_code_0 11 rfl rfl rfl
theorem d_5_11_14 : decode prog_5_method_11_code 14 = .ok (.aload_n 0, 1) := D_42 W_prog_5_method_11_code_0 14 rfl rfl
theorem d_5_11_15 : decode prog_5_method_11_code 15 = .ok (.invokevirtual 170, 3) := D_182 W_prog_5_method_11_code_0 15 rfl rfl rfl
theorem d_5_11_18 : decode prog_5_method_11_code 18 = .ok (.ifCond .ne 9, 3) := D_154 W_prog_5_method_11_code_0 18 rfl rfl rfl
theorem d_5_11_27 : decode prog_5_method_11_code 27 = .ok (.aload_n 0, 1) := D_42 W_prog_5_method_11_code_0 27 rfl rfl
theorem d_5_11_28 : decode prog_5_method_11_code 28 = .ok (.getfield 48, 3) := D_180 W_prog_5_method_11_code_0 28 rfl rfl rfl
theorem d_5_11_31 : decode prog_5_method_11_code 31 = .ok (.getfield 173, 3) := D_180 W_prog_5_method_11_code_0 31 rfl rfl rfl
theorem W_prog_5_method_11_code_32 : chW prog_5_method_11_code 32 [0, 173, 66, 43, 33, 182, 0, 187, 153, 0, 9, 42, 7, 182, 0, 101, 172, 42, 180, 0, 48, 182, 0, 122, 42, 180, 0, 48, 180, 0, 108, 7, 160, 0, 19, 178] := chW_of (by decide +kernel)
theorem d_5_11_34 : decode prog_5_method_11_code 34 = .ok (.lstore_n 3, 1) := D_66 W_prog_5_method_11_code_32 2 rfl rfl
theorem d_5_11_35 : decode prog_5_method_11_code 35 = .ok (.aload_n 1, 1) := D_43 W_prog_5_method_11_code_32 3 rfl rfl
theorem d_5_11_36 : decode prog_5_method_11_code 36 = .ok (.lload_n 3, 1) := D_33 W_prog_5_method_11_code_32 4 rfl rfl
theorem d_5_11_37 : decode prog_5_method_11_code 37 = .ok (.invokevirtual 187, 3) := D_182 W_prog_5_method_11_code_32 5 rfl rfl rfl
theorem d_5_11_40 : decode prog_5_method_11_code 40 = .ok (.ifCond .eq 9, 3) := D_153 W_prog_5_method_11_code_32 8 rfl rfl rfl
theorem d_5_11_49 : decode prog_5_method_11_code 49 = .ok (.aload_n 0, 1) := D_42 W_prog_5_method_11_code_32 17 rfl rfl
theorem d_5_11_50 : decode prog_5_method_11_code 50 = .ok (.getfield 48, 3) := D_180 W_prog_5_method_11_code_32 18 rfl rfl rfl
theorem d_5_11_53 : decode prog_5_method_11_code 53 = .ok (.invokevirtual 122, 3) := D_182 W_prog_5_method_11_code_32 21 rfl rfl rfl
theorem d_5_11_56 : decode prog_5_method_11_code 56 = .ok (.aload_n 0, 1) := D_42 W_prog_5_method_11_code_32 24 rfl rfl
theorem d_5_11_57 : decode prog_5_method_11_code 57 = .ok (.getfield 48, 3) := D_180 W_prog_5_method_11_code_32 25 rfl rfl rfl
theorem d_5_11_60 : decode prog_5_method_11_code 60 = .ok (.getfield 108, 3) := D_180 W_prog_5_method_11_code_32 28 rfl rfl rfl
theorem d_5_11_63 : decode prog_5_method_11_code 63 = .ok (.iconst 4, 1) := D_7 W_prog_5_method_11_code_32 31 rfl rfl
theorem W_prog_5_method_11_code_64 : chW prog_5_method_11_code 64 [160, 0, 19, 178, 0, 190, 42, 180, 0, 48, 180, 0, 173, 184, 0, 193, 167, 0, 4, 2, 54, 5, 21, 5, 2, 160, 0, 9, 42, 5, 182, 0, 101, 172, 42, 180] := chW_of (by decide +kernel)
theorem d_5_11_64 : decode prog_5_method_11_code 64 = .ok (.if_icmp .ne 19, 3) := D_160 W_prog_5_method_11_code_64 0 rfl rfl rfl
theorem d_5_11_83 : decode prog_5_method_11_code 83 = .ok (.iconst (-1), 1) := D_2 W_prog_5_method_11_code_64 19 rfl rfl
theorem d_5_11_67 : decode prog_5_method_11_code 67 = .ok (.getstatic 190, 3) := D_178 W_prog_5_method_11_code_64 3 rfl rfl rfl
theorem d_5_11_70 : decode prog_5_method_11_code 70 = .ok (.aload_n 0, 1) := D_42 W_prog_5_method_11_code_64 6 rfl rfl
theorem d_5_11_71 : decode prog_5_method_11_code 71 = .ok (.getfield 48, 3) := D_180 W_prog_5_method_11_code_64 7 rfl rfl rfl
theorem d_5_11_74 : decode prog_5_method_11_code 74 = .ok (.getfield 173, 3) := D_180 W_prog_5_method_11_code_64 10 rfl rfl rfl
theorem d_5_11_77 : decode prog_5_method_11_code 77 = .ok (.invokestatic 193, 3) := D_184 W_prog_5_method_11_code_64 13 rfl rfl rfl
theorem d_5_11_80 : decode prog_5_method_11_code 80 = .ok (.goto 4, 3) := D_167 W_prog_5_method_11_code_64 16 rfl rfl rfl
theorem d_5_11_43 : decode prog_5_method_11_code 43 = .ok (.aload_n 0, 1) := D_42 W_prog_5_method_11_code_32 11 rfl rfl
theorem d_5_11_44 : decode prog_5_method_11_code 44 = .ok (.iconst 4, 1) := D_7 W_prog_5_method_11_code_32 12 rfl rfl
theorem d_5_11_45 : decode prog_5_method_11_code 45 = .ok (.invokevirtual 101, 3) := D_182 W_prog_5_method_11_code_32 13 rfl rfl rfl
theorem d_5_11_48 : decode prog_5_method_11_code 48 = .ok (.ireturn, 1) := D_172 W_prog_5_method_11_code_32 16 rfl rfl
theorem d_5_11_21 : decode prog_5_method_11_code 21 = .ok (.aload_n 0, 1) := D_42 W_prog_5_method_11_code_0 21 rfl rfl
theorem d_5_11_22 : decode prog_5_method_11_code 22 = .ok (.iconst 2, 1) := D_5 W_prog_5_method_11_code_0 22 rfl rfl
theorem d_5_11_23 : decode prog_5_method_11_code 23 = .ok (.invokevirtual 101, 3) := D_182 W_prog_5_method_11_code_0 23 rfl rfl rfl
theorem d_5_11_26 : decode prog_5_method_11_code 26 = .ok (.ireturn, 1) := D_172 W_prog_5_method_11_code_0 26 rfl rfl
theorem d_5_11_84 : decode prog_5_method_11_code 84 = .ok (.istore 5, 2) := D_54 W_prog_5_method_11_code_64 20 rfl rfl
theorem d_5_11_86 : decode prog_5_method_11_code 86 = .ok (.iload 5, 2) := D_21 W_prog_5_method_11_code_64 22 rfl rfl
theorem d_5_11_88 : decode prog_5_method_11_code 88 = .ok (.iconst (-1), 1) := D_2 W_prog_5_method_11_code_64 24 rfl rfl
theorem d_5_11_89 : decode prog_5_method_11_code 89 = .ok (.if_icmp .ne 9, 3) := D_160 W_prog_5_method_11_code_64 25 rfl rfl rfl
theorem W_prog_5_method_11_code_96 : chW prog_5_method_11_code 96 [101, 172, 42, 180, 0, 48, 182, 0, 122, 42, 3, 6, 3, 182, 0, 131, 154, 0, 5, 3, 172, 43, 182, 0, 197, 58, 6, 25, 6, 33, 181, 0, 201, 25, 6, 21] := chW_of (by decide +kernel)
theorem d_5_11_98 : decode prog_5_method_11_code 98 = .ok (.aload_n 0, 1) := D_42 W_prog_5_method_11_code_96 2 rfl rfl
theorem d_5_11_99 : decode prog_5_method_11_code 99 = .ok (.getfield 48, 3) := D_180 W_prog_5_method_11_code_96 3 rfl rfl rfl
theorem d_5_11_102 : decode prog_5_method_11_code 102 = .ok (.invokevirtual 122, 3) := D_182 W_prog_5_method_11_code_96 6 rfl rfl rfl
theorem d_5_11_105 : decode prog_5_method_11_code 105 = .ok (.aload_n 0, 1) := D_42 W_prog_5_method_11_code_96 9 rfl rfl
theorem d_5_11_106 : decode prog_5_method_11_code 106 = .ok (.iconst 0, 1) := D_3 W_prog_5_method_11_code_96 10 rfl rfl
theorem d_5_11_107 : decode prog_5_method_11_code 107 = .ok (.iconst 3, 1) := D_6 W_prog_5_method_11_code_96 11 rfl rfl
theorem d_5_11_108 : decode prog_5_method_11_code 108 = .ok (.iconst 0, 1) := D_3 W_prog_5_method_11_code_96 12 rfl rfl
theorem d_5_11_109 : decode prog_5_method_11_code 109 = .ok (.invokevirtual 131, 3) := D_182 W_prog_5_method_11_code_96 13 rfl rfl rfl
theorem d_5_11_112 : decode prog_5_method_11_code 112 = .ok (.ifCond .ne 5, 3) := D_154 W_prog_5_method_11_code_96 16 rfl rfl rfl
theorem d_5_11_117 : decode prog_5_method_11_code 117 = .ok (.aload_n 1, 1) := D_43 W_prog_5_method_11_code_96 21 rfl rfl
theorem d_5_11_118 : decode prog_5_method_11_code 118 = .ok (.invokevirtual 197, 3) := D_182 W_prog_5_method_11_code_96 22 rfl rfl rfl
theorem d_5_11_115 : decode prog_5_method_11_code 115 = .ok (.iconst 0, 1) := D_3 W_prog_5_method_11_code_96 19 rfl rfl
theorem d_5_11_116 : decode prog_5_method_11_code 116 = .ok (.ireturn, 1) := D_172 W_prog_5_method_11_code_96 20 rfl rfl
theorem d_5_11_92 : decode prog_5_method_11_code 92 = .ok (.aload_n 0, 1) := D_42 W_prog_5_method_11_code_64 28 rfl rfl
theorem d_5_11_93 : decode prog_5_method_11_code 93 = .ok (.iconst 2, 1) := D_5 W_prog_5_method_11_code_64 29 rfl rfl
theorem d_5_11_94 : decode prog_5_method_11_code 94 = .ok (.invokevirtual 101, 3) := D_182 W_prog_5_method_11_code_64 30 rfl rfl rfl
theorem d_5_11_97 : decode prog_5_method_11_code 97 = .ok (.ireturn, 1) := D_172 W_prog_5_method_11_code_96 1 rfl rfl
theorem d_5_11_121 : decode prog_5_method_11_code 121 = .ok (.astore 6, 2) := D_58 W_prog_5_method_11_code_96 25 rfl rfl
theorem d_5_11_123 : decode prog_5_method_11_code 123 = .ok (.aload 6, 2) := D_25 W_prog_5_method_11_code_96 27 rfl rfl
theorem d_5_11_125 : decode prog_5_method_11_code 125 = .ok (.lload_n 3, 1) := D_33 W_prog_5_method_11_code_96 29 rfl rfl
theorem d_5_11_126 : decode prog_5_method_11_code 126 = .ok (.putfield 201, 3) := D_181 W_prog_5_method_11_code_96 30 rfl rfl rfl
theorem W_prog_5_method_11_code_128 : chW prog_5_method_11_code 128 [201, 25, 6, 21, 5, 181, 0, 206, 25, 6, 42, 180, 0, 135, 181, 0, 209, 25, 6, 42, 180, 0, 15, 28, 46, 181, 0, 210, 25, 6, 28, 181, 0, 212, 42, 16] := chW_of (by decide +kernel)
theorem d_5_11_129 : decode prog_5_method_11_code 129 = .ok (.aload 6, 2) := D_25 W_prog_5_method_11_code_128 1 rfl rfl
theorem d_5_11_131 : decode prog_5_method_11_code 131 = .ok (.iload 5, 2) := D_21 W_prog_5_method_11_code_128 3 rfl rfl
theorem d_5_11_133 : decode prog_5_method_11_code 133 = .ok (.putfield 206, 3) := D_181 W_prog_5_method_11_code_128 5 rfl rfl rfl
theorem d_5_11_136 : decode prog_5_method_11_code 136 = .ok (.aload 6, 2) := D_25 W_prog_5_method_11_code_128 8 rfl rfl
theorem d_5_11_138 : decode prog_5_method_11_code 138 = .ok (.aload_n 0, 1) := D_42 W_prog_5_method_11_code_128 10 rfl rfl
theorem d_5_11_139 : decode prog_5_method_11_code 139 = .ok (.getfield 135, 3) := D_180 W_prog_5_method_11_code_128 11 rfl rfl rfl
theorem d_5_11_142 : decode prog_5_method_11_code 142 = .ok (.putfield 209, 3) := D_181 W_prog_5_method_11_code_128 14 rfl rfl rfl
theorem d_5_11_145 : decode prog_5_method_11_code 145 = .ok (.aload 6, 2) := D_25 W_prog_5_method_11_code_128 17 rfl rfl
theorem d_5_11_147 : decode prog_5_method_11_code 147 = .ok (.aload_n 0, 1) := D_42 W_prog_5_method_11_code_128 19 rfl rfl
theorem d_5_11_148 : decode prog_5_method_11_code 148 = .ok (.getfield 15, 3) := D_180 W_prog_5_method_11_code_128 20 rfl rfl rfl
theorem d_5_11_151 : decode prog_5_method_11_code 151 = .ok (.iload_n 2, 1) := D_28 W_prog_5_method_11_code_128 23 rfl rfl
theorem d_5_11_152 : decode prog_5_method_11_code 152 = .ok (.iaload, 1) := D_46 W_prog_5_method_11_code_128 24 rfl rfl
theorem d_5_11_153 : decode prog_5_method_11_code 153 = .ok (.putfield 210, 3) := D_181 W_prog_5_method_11_code_128 25 rfl rfl rfl
theorem d_5_11_156 : decode prog_5_method_11_code 156 = .ok (.aload 6, 2) := D_25 W_prog_5_method_11_code_128 28 rfl rfl
theorem d_5_11_158 : decode prog_5_method_11_code 158 = .ok (.iload_n 2, 1) := D_28 W_prog_5_method_11_code_128 30 rfl rfl
theorem d_5_11_159 : decode prog_5_method_11_code 159 = .ok (.putfield 212, 3) := D_181 W_prog_5_method_11_code_128 31 rfl rfl rfl
theorem W_prog_5_method_11_code_160 : chW prog_5_method_11_code 160 [0, 212, 42, 16, 32, 181, 0, 181, 42, 28, 182, 0, 184, 172] := chW_of (by decide +kernel)
theorem d_5_11_162 : decode prog_5_method_11_code 162 = .ok (.aload_n 0, 1) := D_42 W_prog_5_method_11_code_160 2 rfl rfl
theorem d_5_11_163 : decode prog_5_method_11_code 163 = .ok (.bipush 32, 2) := D_16 W_prog_5_method_11_code_160 3 rfl rfl rfl
theorem d_5_11_165 : decode prog_5_method_11_code 165 = .ok (.putfield 181, 3) := D_181 W_prog_5_method_11_code_160 5 rfl rfl rfl
theorem d_5_11_168 : decode prog_5_method_11_code 168 = .ok (.aload_n 0, 1) := D_42 W_prog_5_method_11_code_160 8 rfl rfl
theorem d_5_11_169 : decode prog_5_method_11_code 169 = .ok (.iload_n 2, 1) := D_28 W_prog_5_method_11_code_160 9 rfl rfl
theorem d_5_11_170 : decode prog_5_method_11_code 170 = .ok (.invokevirtual 184, 3) := D_182 W_prog_5_method_11_code_160 10 rfl rfl rfl
theorem d_5_11_173 : decode prog_5_method_11_code 173 = .ok (.ireturn, 1) := D_172 W_prog_5_method_11_code_160 13 rfl rfl
theorem W_prog_5_method_2_code_0 : chW prog_5_method_2_code 0 [42, 3, 181, 0, 59, 42, 3, 181, 0, 63, 42, 3, 181, 0, 66, 42, 3, 181, 0, 69, 42, 3, 181, 0, 72, 42, 3, 181, 0, 75, 42, 180, 0, 48, 43, 182] := chW_of (by decide +kernel)
theorem d_5_2_0 : decode prog_5_method_2_code 0 = .ok (.aload_n 0, 1) := D_42 W_prog_5_method_2_code_0 0 rfl rfl
theorem d_5_2_1 : decode prog_5_method_2_code 1 = .ok (.iconst 0, 1) := D_3 W_prog_5_method_2_code_0 1 rfl rfl
theorem d_5_2_2 : decode prog_5_method_2_code 2 = .ok (.putfield 59, 3) := D_181 W_prog_5_method_2_code_0 2 rfl rfl rfl
theorem d_5_2_5 : decode prog_5_method_2_code 5 = .ok (.aload_n 0, 1) := D_42 W_prog_5_method_2_code_0 5 rfl rfl
theorem d_5_2_6 : decode prog_5_method_2_code 6 = .ok (.iconst 0, 1) := D_3 W_prog_5_method_2_code_0 6 rfl rfl
theorem d_5_2_7 : decode prog_5_method_2_code 7 = .ok (.putfield 63, 3) := D_181 W_prog_5_method_2_code_0 7 rfl rfl rfl
theorem d_5_2_10 : decode prog_5_method_2_code 10 = .ok (.aload_n 0, 1) := D_42 W_prog_5_method_2_code_0 10 rfl rfl
theorem d_5_2_11 : decode prog_5_method_2_code 11 = .ok (.iconst 0, 1) := D_3 W_prog_5_method_2_code_0 11 rfl rfl
theorem d_5_2_12 : decode prog_5_method_2_code 12 = .ok (.putfield 66, 3) := D_181 W_prog_5_method_2_code_0 12 rfl rfl rfl
theorem d_5_2_15 : decode prog_5_method_2_code 15 = .ok (.aload_n 0, 1) := D_42 W_prog_5_method_2_code_0 15 rfl rfl
theorem d_5_2_16 : decode prog_5_method_2_code 16 = .ok (.iconst 0, 1) := D_3 W_prog_5_method_2_code_0 16 rfl rfl
theorem d_5_2_17 : decode prog_5_method_2_code 17 = .ok (.putfield 69, 3) := D_181 W_prog_5_method_2_code_0 17 rfl rfl rfl
theorem d_5_2_20 : decode prog_5_method_2_code 20 = .ok (.aload_n 0, 1) := D_42 W_prog_5_method_2_code_0 20 rfl rfl
theorem d_5_2_21 : decode prog_5_method_2_code 21 = .ok (.iconst 0, 1) := D_3 W_prog_5_method_2_code_0 21 rfl rfl
theorem d_5_2_22 : decode prog_5_method_2_code 22 = .ok (.putfield 72, 3) := D_181 W_prog_5_method_2_code_0 22 rfl rfl rfl
theorem d_5_2_25 : decode prog_5_method_2_code 25 = .ok (.aload_n 0, 1) := D_42 W_prog_5_method_2_code_0 25 rfl rfl
theorem d_5_2_26 : decode prog_5_method_2_code 26 = .ok (.iconst 0, 1) := D_3 W_prog_5_method_2_code_0 26 rfl rfl
theorem d_5_2_27 : decode prog_5_method_2_code 27 = .ok (.putfield 75, 3) := D_181 W_prog_5_method_2_code_0 27 rfl rfl rfl
theorem d_5_2_30 : decode prog_5_method_2_code 30 = .ok (.aload_n 0, 1) := D_42 W_prog_5_method_2_code_0 30 rfl rfl
theorem d_5_2_31 : decode prog_5_method_2_code 31 = .ok (.getfield 48, 3) := D_180 W_prog_5_method_2_code_0 31 rfl rfl rfl
theorem W_prog_5_method_2_code_32 : chW prog_5_method_2_code 32 [0, 48, 43, 182, 0, 78, 4, 62, 3, 54, 4, 21, 4, 16, 9, 162, 0, 46, 29, 153, 0, 42, 42, 182, 0, 82, 153, 0, 35, 42, 180, 0, 48, 20, 0, 86] := chW_of (by decide +kernel)
theorem d_5_2_34 : decode prog_5_method_2_code 34 = .ok (.aload_n 1, 1) := D_43 W_prog_5_method_2_code_32 2 rfl rfl
theorem d_5_2_35 : decode prog_5_method_2_code 35 = .ok (.invokevirtual 78, 3) := D_182 W_prog_5_method_2_code_32 3 rfl rfl rfl
theorem d_5_2_38 : decode prog_5_method_2_code 38 = .ok (.iconst 1, 1) := D_4 W_prog_5_method_2_code_32 6 rfl rfl
theorem d_5_2_39 : decode prog_5_method_2_code 39 = .ok (.istore_n 3, 1) := D_62 W_prog_5_method_2_code_32 7 rfl rfl
theorem d_5_2_40 : decode prog_5_method_2_code 40 = .ok (.iconst 0, 1) := D_3 W_prog_5_method_2_code_32 8 rfl rfl
theorem d_5_2_41 : decode prog_5_method_2_code 41 = .ok (.istore 4, 2) := D_54 W_prog_5_method_2_code_32 9 rfl rfl
theorem d_5_2_43 : decode prog_5_method_2_code 43 = .ok (.iload 4, 2) := D_21 W_prog_5_method_2_code_32 11 rfl rfl
theorem d_5_2_45 : decode prog_5_method_2_code 45 = .ok (.bipush 9, 2) := D_16 W_prog_5_method_2_code_32 13 rfl rfl rfl
theorem d_5_2_47 : decode prog_5_method_2_code 47 = .ok (.if_icmp .ge 46, 3) := D_162 W_prog_5_method_2_code_32 15 rfl rfl rfl
theorem d_5_2_50 : decode prog_5_method_2_code 50 = .ok (.iload_n 3, 1) := D_29 W_prog_5_method_2_code_32 18 rfl rfl
theorem d_5_2_51 : decode prog_5_method_2_code 51 = .ok (.ifCond .eq 42, 3) := D_153 W_prog_5_method_2_code_32 19 rfl rfl rfl
theorem d_5_2_54 : decode prog_5_method_2_code 54 = .ok (.aload_n 0, 1) := D_42 W_prog_5_method_2_code_32 22 rfl rfl
theorem d_5_2_55 : decode prog_5_method_2_code 55 = .ok (.invokevirtual 82, 3) := D_182 W_prog_5_method_2_code_32 23 rfl rfl rfl
theorem d_5_2_58 : decode prog_5_method_2_code 58 = .ok (.ifCond .eq 35, 3) := D_153 W_prog_5_method_2_code_32 26 rfl rfl rfl
theorem d_5_2_61 : decode prog_5_method_2_code 61 = .ok (.aload_n 0, 1) := D_42 W_prog_5_method_2_code_32 29 rfl rfl
theorem d_5_2_62 : decode prog_5_method_2_code 62 = .ok (.getfield 48, 3) := D_180 W_prog_5_method_2_code_32 30 rfl rfl rfl
theorem W_prog_5_method_2_code_64 : chW prog_5_method_2_code 64 [48, 20, 0, 86, 182, 0, 88, 153, 0, 10, 42, 182, 0, 92, 167, 0, 8, 42, 44, 182, 0, 95, 62, 132, 4, 1, 167, 255, 209, 29, 153, 0, 22, 42, 180, 0] := chW_of (by decide +kernel)
theorem d_5_2_65 : decode prog_5_method_2_code 65 = .ok (.ldc2_w 86, 3) := D_20 W_prog_5_method_2_code_64 1 rfl rfl rfl
theorem d_5_2_68 : decode prog_5_method_2_code 68 = .ok (.invokevirtual 88, 3) := D_182 W_prog_5_method_2_code_64 4 rfl rfl rfl
theorem d_5_2_71 : decode prog_5_method_2_code 71 = .ok (.ifCond .eq 10, 3) := D_153 W_prog_5_method_2_code_64 7 rfl rfl rfl
theorem d_5_2_81 : decode prog_5_method_2_code 81 = .ok (.aload_n 0, 1) := D_42 W_prog_5_method_2_code_64 17 rfl rfl
theorem d_5_2_82 : decode prog_5_method_2_code 82 = .ok (.aload_n 2, 1) := D_44 W_prog_5_method_2_code_64 18 rfl rfl
theorem d_5_2_83 : decode prog_5_method_2_code 83 = .ok (.invokevirtual 95, 3) := D_182 W_prog_5_method_2_code_64 19 rfl rfl rfl
theorem d_5_2_74 : decode prog_5_method_2_code 74 = .ok (.aload_n 0, 1) := D_42 W_prog_5_method_2_code_64 10 rfl rfl
theorem d_5_2_75 : decode prog_5_method_2_code 75 = .ok (.invokevirtual 92, 3) := D_182 W_prog_5_method_2_code_64 11 rfl rfl rfl
theorem d_5_2_78 : decode prog_5_method_2_code 78 = .ok (.goto 8, 3) := D_167 W_prog_5_method_2_code_64 14 rfl rfl rfl
theorem d_5_2_86 : decode prog_5_method_2_code 86 = .ok (.istore_n 3, 1) := D_62 W_prog_5_method_2_code_64 22 rfl rfl
theorem d_5_2_87 : decode prog_5_method_2_code 87 = .ok (.iinc 4 1, 3) := D_132 W_prog_5_method_2_code_64 23 rfl rfl rfl
theorem d_5_2_90 : decode prog_5_method_2_code 90 = .ok (.goto (-47), 3) := D_167 W_prog_5_method_2_code_64 26 rfl rfl rfl
theorem d_5_2_93 : decode prog_5_method_2_code 93 = .ok (.iload_n 3, 1) := D_29 W_prog_5_method_2_code_64 29 rfl rfl
theorem d_5_2_94 : decode prog_5_method_2_code 94 = .ok (.ifCond .eq 22, 3) := D_153 W_prog_5_method_2_code_64 30 rfl rfl rfl
theorem W_prog_5_method_2_code_96 : chW prog_5_method_2_code 96 [22, 42, 180, 0, 48, 20, 0, 99, 182, 0, 88, 154, 0, 9, 42, 5, 182, 0, 101, 62, 3, 54, 4, 21, 4, 7, 162, 0, 32, 29, 153, 0, 28, 42, 180, 0] := chW_of (by decide +kernel)
theorem d_5_2_97 : decode prog_5_method_2_code 97 = .ok (.aload_n 0, 1) := D_42 W_prog_5_method_2_code_96 1 rfl rfl
theorem d_5_2_98 : decode prog_5_method_2_code 98 = .ok (.getfield 48, 3) := D_180 W_prog_5_method_2_code_96 2 rfl rfl rfl
theorem d_5_2_101 : decode prog_5_method_2_code 101 = .ok (.ldc2_w 99, 3) := D_20 W_prog_5_method_2_code_96 5 rfl rfl rfl
theorem d_5_2_104 : decode prog_5_method_2_code 104 = .ok (.invokevirtual 88, 3) := D_182 W_prog_5_method_2_code_96 8 rfl rfl rfl
theorem d_5_2_107 : decode prog_5_method_2_code 107 = .ok (.ifCond .ne 9, 3) := D_154 W_prog_5_method_2_code_96 11 rfl rfl rfl
theorem d_5_2_110 : decode prog_5_method_2_code 110 = .ok (.aload_n 0, 1) := D_42 W_prog_5_method_2_code_96 14 rfl rfl
theorem d_5_2_111 : decode prog_5_method_2_code 111 = .ok (.iconst 2, 1) := D_5 W_prog_5_method_2_code_96 15 rfl rfl
theorem d_5_2_112 : decode prog_5_method_2_code 112 = .ok (.invokevirtual 101, 3) := D_182 W_prog_5_method_2_code_96 16 rfl rfl rfl
theorem d_5_2_115 : decode prog_5_method_2_code 115 = .ok (.istore_n 3, 1) := D_62 W_prog_5_method_2_code_96 19 rfl rfl
theorem d_5_2_116 : decode prog_5_method_2_code 116 = .ok (.iconst 0, 1) := D_3 W_prog_5_method_2_code_96 20 rfl rfl
theorem d_5_2_117 : decode prog_5_method_2_code 117 = .ok (.istore 4, 2) := D_54 W_prog_5_method_2_code_96 21 rfl rfl
theorem d_5_2_119 : decode prog_5_method_2_code 119 = .ok (.iload 4, 2) := D_21 W_prog_5_method_2_code_96 23 rfl rfl
theorem d_5_2_121 : decode prog_5_method_2_code 121 = .ok (.iconst 4, 1) := D_7 W_prog_5_method_2_code_96 25 rfl rfl
theorem d_5_2_122 : decode prog_5_method_2_code 122 = .ok (.if_icmp .ge 32, 3) := D_162 W_prog_5_method_2_code_96 26 rfl rfl rfl
theorem d_5_2_125 : decode prog_5_method_2_code 125 = .ok (.iload_n 3, 1) := D_29 W_prog_5_method_2_code_96 29 rfl rfl
theorem d_5_2_126 : decode prog_5_method_2_code 126 = .ok (.ifCond .eq 28, 3) := D_153 W_prog_5_method_2_code_96 30 rfl rfl rfl
theorem W_prog_5_method_2_code_128 : chW prog_5_method_2_code 128 [28, 42, 180, 0, 48, 20, 0, 99, 182, 0, 88, 153, 0, 15, 42, 44, 182, 0, 105, 62, 132, 4, 1, 167, 255, 224, 29, 153, 0, 19, 42, 180, 0, 48, 180, 0] := chW_of (by decide +kernel)
theorem d_5_2_129 : decode prog_5_method_2_code 129 = .ok (.aload_n 0, 1) := D_42 W_prog_5_method_2_code_128 1 rfl rfl
theorem d_5_2_130 : decode prog_5_method_2_code 130 = .ok (.getfield 48, 3) := D_180 W_prog_5_method_2_code_128 2 rfl rfl rfl
theorem d_5_2_133 : decode prog_5_method_2_code 133 = .ok (.ldc2_w 99, 3) := D_20 W_prog_5_method_2_code_128 5 rfl rfl rfl
theorem d_5_2_136 : decode prog_5_method_2_code 136 = .ok (.invokevirtual 88, 3) := D_182 W_prog_5_method_2_code_128 8 rfl rfl rfl
theorem d_5_2_139 : decode prog_5_method_2_code 139 = .ok (.ifCond .eq 15, 3) := D_153 W_prog_5_method_2_code_128 11 rfl rfl rfl
theorem d_5_2_142 : decode prog_5_method_2_code 142 = .ok (.aload_n 0, 1) := D_42 W_prog_5_method_2_code_128 14 rfl rfl
theorem d_5_2_143 : decode prog_5_method_2_code 143 = .ok (.aload_n 2, 1) := D_44 W_prog_5_method_2_code_128 15 rfl rfl
theorem d_5_2_144 : decode prog_5_method_2_code 144 = .ok (.invokevirtual 105, 3) := D_182 W_prog_5_method_2_code_128 16 rfl rfl rfl
theorem d_5_2_147 : decode prog_5_method_2_code 147 = .ok (.istore_n 3, 1) := D_62 W_prog_5_method_2_code_128 19 rfl rfl
theorem d_5_2_148 : decode prog_5_method_2_code 148 = .ok (.iinc 4 1, 3) := D_132 W_prog_5_method_2_code_128 20 rfl rfl rfl
theorem d_5_2_151 : decode prog_5_method_2_code 151 = .ok (.goto (-32), 3) := D_167 W_prog_5_method_2_code_128 23 rfl rfl rfl
theorem d_5_2_154 : decode prog_5_method_2_code 154 = .ok (.iload_n 3, 1) := D_29 W_prog_5_method_2_code_128 26 rfl rfl
theorem d_5_2_155 : decode prog_5_method_2_code 155 = .ok (.ifCond .eq 19, 3) := D_153 W_prog_5_method_2_code_128 27 rfl rfl rfl
theorem d_5_2_158 : decode prog_5_method_2_code 158 = .ok (.aload_n 0, 1) := D_42 W_prog_5_method_2_code_128 30 rfl rfl
theorem d_5_2_159 : decode prog_5_method_2_code 159 = .ok (.getfield 48, 3) := D_180 W_prog_5_method_2_code_128 31 rfl rfl rfl
theorem W_prog_5_method_2_code_160 : chW prog_5_method_2_code 160 [0, 48, 180, 0, 108, 153, 0, 9, 42, 5, 182, 0, 101, 87, 42, 180, 0, 75, 172] := chW_of (by decide +kernel)
theorem d_5_2_162 : decode prog_5_method_2_code 162 = .ok (.getfield 108, 3) := D_180 W_prog_5_method_2_code_160 2 rfl rfl rfl
theorem d_5_2_165 : decode prog_5_method_2_code 165 = .ok (.ifCond .eq 9, 3) := D_153 W_prog_5_method_2_code_160 5 rfl rfl rfl
theorem d_5_2_168 : decode prog_5_method_2_code 168 = .ok (.aload_n 0, 1) := D_42 W_prog_5_method_2_code_160 8 rfl rfl
theorem d_5_2_169 : decode prog_5_method_2_code 169 = .ok (.iconst 2, 1) := D_5 W_prog_5_method_2_code_160 9 rfl rfl
theorem d_5_2_170 : decode prog_5_method_2_code 170 = .ok (.invokevirtual 101, 3) := D_182 W_prog_5_method_2_code_160 10 rfl rfl rfl
theorem d_5_2_173 : decode prog_5_method_2_code 173 = .ok (.pop, 1) := D_87 W_prog_5_method_2_code_160 13 rfl rfl
theorem d_5_2_174 : decode prog_5_method_2_code 174 = .ok (.aload_n 0, 1) := D_42 W_prog_5_method_2_code_160 14 rfl rfl
theorem d_5_2_175 : decode prog_5_method_2_code 175 = .ok (.getfield 75, 3) := D_180 W_prog_5_method_2_code_160 15 rfl rfl rfl
theorem d_5_2_178 : decode prog_5_method_2_code 178 = .ok (.ireturn, 1) := D_172 W_prog_5_method_2_code_160 18 rfl rfl
theorem W_prog_1_method_5_code_0 : chW prog_1_method_5_code 0 [27, 155, 0, 8, 27, 5, 161, 0, 5, 2, 172, 42, 180, 0, 63, 199, 0, 14, 42, 187, 0, 25, 89, 183, 0, 67, 181, 0, 63, 42, 180, 0, 63, 182, 0, 68] := chW_of (by decide +kernel)
theorem d_1_5_0 : decode prog_1_method_5_code 0 = .ok (.iload_n 1, 1) := D_27 W_prog_1_method_5_code_0 0 rfl rfl
theorem d_1_5_1 : decode prog_1_method_5_code 1 = .ok (.ifCond .lt 8, 3) := D_155 W_prog_1_method_5_code_0 1 rfl rfl rfl
theorem d_1_5_4 : decode prog_1_method_5_code 4 = .ok (.iload_n 1, 1) := D_27 W_prog_1_method_5_code_0 4 rfl rfl
theorem d_1_5_5 : decode prog_1_method_5_code 5 = .ok (.iconst 2, 1) := D_5 W_prog_1_method_5_code_0 5 rfl rfl
theorem d_1_5_6 : decode prog_1_method_5_code 6 = .ok (.if_icmp .lt 5, 3) := D_161 W_prog_1_method_5_code_0 6 rfl rfl rfl
theorem d_1_5_11 : decode prog_1_method_5_code 11 = .ok (.aload_n 0, 1) := D_42 W_prog_1_method_5_code_0 11 rfl rfl
theorem d_1_5_12 : decode prog_1_method_5_code 12 = .ok (.getfield 63, 3) := D_180 W_prog_1_method_5_code_0 12 rfl rfl rfl
theorem d_1_5_15 : decode prog_1_method_5_code 15 = .ok (.ifnonnull 14, 3) := D_199 W_prog_1_method_5_code_0 15 rfl rfl rfl
theorem d_1_5_18 : decode prog_1_method_5_code 18 = .ok (.aload_n 0, 1) := D_42 W_prog_1_method_5_code_0 18 rfl rfl
theorem d_1_5_19 : decode prog_1_method_5_code 19 = .ok (.new 25, 3) := D_187 W_prog_1_method_5_code_0 19 rfl rfl rfl
theorem d_1_5_22 : decode prog_1_method_5_code 22 = .ok (.dup, 1) := D_89 W_prog_1_method_5_code_0 22 rfl rfl
theorem d_1_5_23 : decode prog_1_method_5_code 23 = .ok (.invokespecial 67, 3) := D_183 W_prog_1_method_5_code_0 23 rfl rfl rfl
theorem d_1_5_9 : decode prog_1_method_5_code 9 = .ok (.iconst (-1), 1) := D_2 W_prog_1_method_5_code_0 9 rfl rfl
theorem d_1_5_10 : decode prog_1_method_5_code 10 = .ok (.ireturn, 1) := D_172 W_prog_1_method_5_code_0 10 rfl rfl
theorem d_1_5_26 : decode prog_1_method_5_code 26 = .ok (.putfield 63, 3) := D_181 W_prog_1_method_5_code_0 26 rfl rfl rfl
theorem d_1_5_29 : decode prog_1_method_5_code 29 = .ok (.aload_n 0, 1) := D_42 W_prog_1_method_5_code_0 29 rfl rfl
theorem d_1_5_30 : decode prog_1_method_5_code 30 = .ok (.getfield 63, 3) := D_180 W_prog_1_method_5_code_0 30 rfl rfl rfl
theorem W_prog_1_method_5_code_32 : chW prog_1_method_5_code 32 [63, 182, 0, 68, 42, 180, 0, 34, 42, 180, 0, 14, 42, 180, 0, 63, 182, 0, 71, 61, 3, 62, 29, 42, 180, 0, 63, 180, 0, 75, 162, 0, 59, 28, 154, 0] := chW_of (by decide +kernel)
theorem d_1_5_33 : decode prog_1_method_5_code 33 = .ok (.invokevirtual 68, 3) := D_182 W_prog_1_method_5_code_32 1 rfl rfl rfl
theorem d_1_5_36 : decode prog_1_method_5_code 36 = .ok (.aload_n 0, 1) := D_42 W_prog_1_method_5_code_32 4 rfl rfl
theorem d_1_5_37 : decode prog_1_method_5_code 37 = .ok (.getfield 34, 3) := D_180 W_prog_1_method_5_code_32 5 rfl rfl rfl
theorem d_1_5_40 : decode prog_1_method_5_code 40 = .ok (.aload_n 0, 1) := D_42 W_prog_1_method_5_code_32 8 rfl rfl
theorem d_1_5_41 : decode prog_1_method_5_code 41 = .ok (.getfield 14, 3) := D_180 W_prog_1_method_5_code_32 9 rfl rfl rfl
theorem d_1_5_44 : decode prog_1_method_5_code 44 = .ok (.aload_n 0, 1) := D_42 W_prog_1_method_5_code_32 12 rfl rfl
theorem d_1_5_45 : decode prog_1_method_5_code 45 = .ok (.getfield 63, 3) := D_180 W_prog_1_method_5_code_32 13 rfl rfl rfl
theorem d_1_5_48 : decode prog_1_method_5_code 48 = .ok (.invokevirtual 71, 3) := D_182 W_prog_1_method_5_code_32 16 rfl rfl rfl
theorem d_1_5_51 : decode prog_1_method_5_code 51 = .ok (.istore_n 2, 1) := D_61 W_prog_1_method_5_code_32 19 rfl rfl
theorem d_1_5_52 : decode prog_1_method_5_code 52 = .ok (.iconst 0, 1) := D_3 W_prog_1_method_5_code_32 20 rfl rfl
theorem d_1_5_53 : decode prog_1_method_5_code 53 = .ok (.istore_n 3, 1) := D_62 W_prog_1_method_5_code_32 21 rfl rfl
theorem d_1_5_54 : decode prog_1_method_5_code 54 = .ok (.iload_n 3, 1) := D_29 W_prog_1_method_5_code_32 22 rfl rfl
theorem d_1_5_55 : decode prog_1_method_5_code 55 = .ok (.aload_n 0, 1) := D_42 W_prog_1_method_5_code_32 23 rfl rfl
theorem d_1_5_56 : decode prog_1_method_5_code 56 = .ok (.getfield 63, 3) := D_180 W_prog_1_method_5_code_32 24 rfl rfl rfl
theorem d_1_5_59 : decode prog_1_method_5_code 59 = .ok (.getfield 75, 3) := D_180 W_prog_1_method_5_code_32 27 rfl rfl rfl
theorem d_1_5_62 : decode prog_1_method_5_code 62 = .ok (.if_icmp .ge 59, 3) := D_162 W_prog_1_method_5_code_32 30 rfl rfl rfl
theorem W_prog_1_method_5_code_64 : chW prog_1_method_5_code 64 [59, 28, 154, 0, 55, 42, 180, 0, 41, 42, 180, 0, 34, 42, 180, 0, 63, 42, 180, 0, 63, 180, 0, 78, 29, 50, 182, 0, 82, 61, 28, 154, 0, 20, 42, 180] := chW_of (by decide +kernel)
theorem d_1_5_65 : decode prog_1_method_5_code 65 = .ok (.iload_n 2, 1) := D_28 W_prog_1_method_5_code_64 1 rfl rfl
theorem d_1_5_66 : decode prog_1_method_5_code 66 = .ok (.ifCond .ne 55, 3) := D_154 W_prog_1_method_5_code_64 2 rfl rfl rfl
theorem d_1_5_69 : decode prog_1_method_5_code 69 = .ok (.aload_n 0, 1) := D_42 W_prog_1_method_5_code_64 5 rfl rfl
theorem d_1_5_70 : decode prog_1_method_5_code 70 = .ok (.getfield 41, 3) := D_180 W_prog_1_method_5_code_64 6 rfl rfl rfl
theorem d_1_5_73 : decode prog_1_method_5_code 73 = .ok (.aload_n 0, 1) := D_42 W_prog_1_method_5_code_64 9 rfl rfl
theorem d_1_5_74 : decode prog_1_method_5_code 74 = .ok (.getfield 34, 3) := D_180 W_prog_1_method_5_code_64 10 rfl rfl rfl
theorem d_1_5_77 : decode prog_1_method_5_code 77 = .ok (.aload_n 0, 1) := D_42 W_prog_1_method_5_code_64 13 rfl rfl
theorem d_1_5_78 : decode prog_1_method_5_code 78 = .ok (.getfield 63, 3) := D_180 W_prog_1_method_5_code_64 14 rfl rfl rfl
theorem d_1_5_81 : decode prog_1_method_5_code 81 = .ok (.aload_n 0, 1) := D_42 W_prog_1_method_5_code_64 17 rfl rfl
theorem d_1_5_82 : decode prog_1_method_5_code 82 = .ok (.getfield 63, 3) := D_180 W_prog_1_method_5_code_64 18 rfl rfl rfl
theorem d_1_5_85 : decode prog_1_method_5_code 85 = .ok (.getfield 78, 3) := D_180 W_prog_1_method_5_code_64 21 rfl rfl rfl
theorem d_1_5_88 : decode prog_1_method_5_code 88 = .ok (.iload_n 3, 1) := D_29 W_prog_1_method_5_code_64 24 rfl rfl
theorem d_1_5_89 : decode prog_1_method_5_code 89 = .ok (.aaload, 1) := D_50 W_prog_1_method_5_code_64 25 rfl rfl
theorem d_1_5_90 : decode prog_1_method_5_code 90 = .ok (.invokevirtual 82, 3) := D_182 W_prog_1_method_5_code_64 26 rfl rfl rfl
theorem d_1_5_93 : decode prog_1_method_5_code 93 = .ok (.istore_n 2, 1) := D_61 W_prog_1_method_5_code_64 29 rfl rfl
theorem d_1_5_94 : decode prog_1_method_5_code 94 = .ok (.iload_n 2, 1) := D_28 W_prog_1_method_5_code_64 30 rfl rfl
theorem d_1_5_95 : decode prog_1_method_5_code 95 = .ok (.ifCond .ne 20, 3) := D_154 W_prog_1_method_5_code_64 31 rfl rfl rfl
theorem W_prog_1_method_5_code_96 : chW prog_1_method_5_code 96 [0, 20, 42, 180, 0, 63, 180, 0, 78, 29, 50, 42, 180, 0, 63, 182, 0, 86, 61, 132, 3, 1, 167, 255, 192, 42, 180, 0, 14, 182, 0, 92, 28, 154, 0, 11] := chW_of (by decide +kernel)
theorem d_1_5_98 : decode prog_1_method_5_code 98 = .ok (.aload_n 0, 1) := D_42 W_prog_1_method_5_code_96 2 rfl rfl
theorem d_1_5_99 : decode prog_1_method_5_code 99 = .ok (.getfield 63, 3) := D_180 W_prog_1_method_5_code_96 3 rfl rfl rfl
theorem d_1_5_102 : decode prog_1_method_5_code 102 = .ok (.getfield 78, 3) := D_180 W_prog_1_method_5_code_96 6 rfl rfl rfl
theorem d_1_5_105 : decode prog_1_method_5_code 105 = .ok (.iload_n 3, 1) := D_29 W_prog_1_method_5_code_96 9 rfl rfl
theorem d_1_5_106 : decode prog_1_method_5_code 106 = .ok (.aaload, 1) := D_50 W_prog_1_method_5_code_96 10 rfl rfl
theorem d_1_5_107 : decode prog_1_method_5_code 107 = .ok (.aload_n 0, 1) := D_42 W_prog_1_method_5_code_96 11 rfl rfl
theorem d_1_5_108 : decode prog_1_method_5_code 108 = .ok (.getfield 63, 3) := D_180 W_prog_1_method_5_code_96 12 rfl rfl rfl
theorem d_1_5_111 : decode prog_1_method_5_code 111 = .ok (.invokevirtual 86, 3) := D_182 W_prog_1_method_5_code_96 15 rfl rfl rfl
theorem d_1_5_114 : decode prog_1_method_5_code 114 = .ok (.istore_n 2, 1) := D_61 W_prog_1_method_5_code_96 18 rfl rfl
theorem d_1_5_115 : decode prog_1_method_5_code 115 = .ok (.iinc 3 1, 3) := D_132 W_prog_1_method_5_code_96 19 rfl rfl rfl
theorem d_1_5_118 : decode prog_1_method_5_code 118 = .ok (.goto (-64), 3) := D_167 W_prog_1_method_5_code_96 22 rfl rfl rfl
theorem d_1_5_121 : decode prog_1_method_5_code 121 = .ok (.aload_n 0, 1) := D_42 W_prog_1_method_5_code_96 25 rfl rfl
theorem d_1_5_122 : decode prog_1_method_5_code 122 = .ok (.getfield 14, 3) := D_180 W_prog_1_method_5_code_96 26 rfl rfl rfl
theorem d_1_5_125 : decode prog_1_method_5_code 125 = .ok (.invokevirtual 92, 3) := D_182 W_prog_1_method_5_code_96 29 rfl rfl rfl
theorem W_prog_1_method_5_code_128 : chW prog_1_method_5_code 128 [28, 154, 0, 11, 42, 180, 0, 63, 182, 0, 93, 61, 28, 153, 0, 5, 28, 172, 42, 180, 0, 27, 27, 50, 78, 42, 180, 0, 27, 27, 42, 180, 0, 63, 83, 42] := chW_of (by decide +kernel)
theorem d_1_5_128 : decode prog_1_method_5_code 128 = .ok (.iload_n 2, 1) := D_28 W_prog_1_method_5_code_128 0 rfl rfl
theorem d_1_5_129 : decode prog_1_method_5_code 129 = .ok (.ifCond .ne 11, 3) := D_154 W_prog_1_method_5_code_128 1 rfl rfl rfl
theorem d_1_5_132 : decode prog_1_method_5_code 132 = .ok (.aload_n 0, 1) := D_42 W_prog_1_method_5_code_128 4 rfl rfl
theorem d_1_5_133 : decode prog_1_method_5_code 133 = .ok (.getfield 63, 3) := D_180 W_prog_1_method_5_code_128 5 rfl rfl rfl
theorem d_1_5_136 : decode prog_1_method_5_code 136 = .ok (.invokevirtual 93, 3) := D_182 W_prog_1_method_5_code_128 8 rfl rfl rfl
theorem d_1_5_139 : decode prog_1_method_5_code 139 = .ok (.istore_n 2, 1) := D_61 W_prog_1_method_5_code_128 11 rfl rfl
theorem d_1_5_140 : decode prog_1_method_5_code 140 = .ok (.iload_n 2, 1) := D_28 W_prog_1_method_5_code_128 12 rfl rfl
theorem d_1_5_141 : decode prog_1_method_5_code 141 = .ok (.ifCond .eq 5, 3) := D_153 W_prog_1_method_5_code_128 13 rfl rfl rfl
theorem d_1_5_146 : decode prog_1_method_5_code 146 = .ok (.aload_n 0, 1) := D_42 W_prog_1_method_5_code_128 18 rfl rfl
theorem d_1_5_147 : decode prog_1_method_5_code 147 = .ok (.getfield 27, 3) := D_180 W_prog_1_method_5_code_128 19 rfl rfl rfl
theorem d_1_5_150 : decode prog_1_method_5_code 150 = .ok (.iload_n 1, 1) := D_27 W_prog_1_method_5_code_128 22 rfl rfl
theorem d_1_5_151 : decode prog_1_method_5_code 151 = .ok (.aaload, 1) := D_50 W_prog_1_method_5_code_128 23 rfl rfl
theorem d_1_5_152 : decode prog_1_method_5_code 152 = .ok (.astore_n 3, 1) := D_78 W_prog_1_method_5_code_128 24 rfl rfl
theorem d_1_5_153 : decode prog_1_method_5_code 153 = .ok (.aload_n 0, 1) := D_42 W_prog_1_method_5_code_128 25 rfl rfl
theorem d_1_5_154 : decode prog_1_method_5_code 154 = .ok (.getfield 27, 3) := D_180 W_prog_1_method_5_code_128 26 rfl rfl rfl
theorem d_1_5_157 : decode prog_1_method_5_code 157 = .ok (.iload_n 1, 1) := D_27 W_prog_1_method_5_code_128 29 rfl rfl
theorem d_1_5_158 : decode prog_1_method_5_code 158 = .ok (.aload_n 0, 1) := D_42 W_prog_1_method_5_code_128 30 rfl rfl
theorem d_1_5_159 : decode prog_1_method_5_code 159 = .ok (.getfield 63, 3) := D_180 W_prog_1_method_5_code_128 31 rfl rfl rfl
theorem W_prog_1_method_5_code_160 : chW prog_1_method_5_code 160 [0, 63, 83, 42, 45, 181, 0, 63, 3, 172] := chW_of (by decide +kernel)
theorem d_1_5_162 : decode prog_1_method_5_code 162 = .ok (.aastore, 1) := D_83 W_prog_1_method_5_code_160 2 rfl rfl
theorem d_1_5_163 : decode prog_1_method_5_code 163 = .ok (.aload_n 0, 1) := D_42 W_prog_1_method_5_code_160 3 rfl rfl
theorem d_1_5_164 : decode prog_1_method_5_code 164 = .ok (.aload_n 3, 1) := D_45 W_prog_1_method_5_code_160 4 rfl rfl
theorem d_1_5_165 : decode prog_1_method_5_code 165 = .ok (.putfield 63, 3) := D_181 W_prog_1_method_5_code_160 5 rfl rfl rfl
theorem d_1_5_168 : decode prog_1_method_5_code 168 = .ok (.iconst 0, 1) := D_3 W_prog_1_method_5_code_160 8 rfl rfl
theorem d_1_5_169 : decode prog_1_method_5_code 169 = .ok (.ireturn, 1) := D_172 W_prog_1_method_5_code_160 9 rfl rfl
theorem d_1_5_144 : decode prog_1_method_5_code 144 = .ok (.iload_n 2, 1) := D_28 W_prog_1_method_5_code_128 16 rfl rfl
theorem d_1_5_145 : decode prog_1_method_5_code 145 = .ok (.ireturn, 1) := D_172 W_prog_1_method_5_code_128 17 rfl rfl
theorem W_prog_8_method_9_code_0 : chW prog_8_method_9_code 0 [42, 180, 0, 104, 199, 0, 14, 42, 187, 0, 108, 89, 183, 0, 110, 181, 0, 104, 42, 180, 0, 46, 154, 0, 16, 42, 180, 0, 104, 42, 182, 0, 111, 42, 4, 181] := chW_of (by decide +kernel)
theorem d_8_9_0 : decode prog_8_method_9_code 0 = .ok (.aload_n 0, 1) := D_42 W_prog_8_method_9_code_0 0 rfl rfl
theorem d_8_9_1 : decode prog_8_method_9_code 1 = .ok (.getfield 104, 3) := D_180 W_prog_8_method_9_code_0 1 rfl rfl rfl
theorem d_8_9_4 : decode prog_8_method_9_code 4 = .ok (.ifnonnull 14, 3) := D_199 W_prog_8_method_9_code_0 4 rfl rfl rfl
theorem d_8_9_7 : decode prog_8_method_9_code 7 = .ok (.aload_n 0, 1) := D_42 W_prog_8_method_9_code_0 7 rfl rfl
theorem d_8_9_8 : decode prog_8_method_9_code 8 = .ok (.new 108, 3) := D_187 W_prog_8_method_9_code_0 8 rfl rfl rfl
theorem d_8_9_11 : decode prog_8_method_9_code 11 = .ok (.dup, 1) := D_89 W_prog_8_method_9_code_0 11 rfl rfl
theorem d_8_9_12 : decode prog_8_method_9_code 12 = .ok (.invokespecial 110, 3) := D_183 W_prog_8_method_9_code_0 12 rfl rfl rfl
theorem d_8_9_15 : decode prog_8_method_9_code 15 = .ok (.putfield 104, 3) := D_181 W_prog_8_method_9_code_0 15 rfl rfl rfl
theorem d_8_9_18 : decode prog_8_method_9_code 18 = .ok (.aload_n 0, 1) := D_42 W_prog_8_method_9_code_0 18 rfl rfl
theorem d_8_9_19 : decode prog_8_method_9_code 19 = .ok (.getfield 46, 3) := D_180 W_prog_8_method_9_code_0 19 rfl rfl rfl
theorem d_8_9_22 : decode prog_8_method_9_code 22 = .ok (.ifCond .ne 16, 3) := D_154 W_prog_8_method_9_code_0 22 rfl rfl rfl
theorem d_8_9_25 : decode prog_8_method_9_code 25 = .ok (.aload_n 0, 1) := D_42 W_prog_8_method_9_code_0 25 rfl rfl
theorem d_8_9_26 : decode prog_8_method_9_code 26 = .ok (.getfield 104, 3) := D_180 W_prog_8_method_9_code_0 26 rfl rfl rfl
theorem d_8_9_29 : decode prog_8_method_9_code 29 = .ok (.aload_n 0, 1) := D_42 W_prog_8_method_9_code_0 29 rfl rfl
theorem d_8_9_30 : decode prog_8_method_9_code 30 = .ok (.invokevirtual 111, 3) := D_182 W_prog_8_method_9_code_0 30 rfl rfl rfl
theorem W_prog_8_method_9_code_32 : chW prog_8_method_9_code 32 [111, 42, 4, 181, 0, 46, 42, 180, 0, 104, 176] := chW_of (by decide +kernel)
theorem d_8_9_33 : decode prog_8_method_9_code 33 = .ok (.aload_n 0, 1) := D_42 W_prog_8_method_9_code_32 1 rfl rfl
theorem d_8_9_34 : decode prog_8_method_9_code 34 = .ok (.iconst 1, 1) := D_4 W_prog_8_method_9_code_32 2 rfl rfl
theorem d_8_9_35 : decode prog_8_method_9_code 35 = .ok (.putfield 46, 3) := D_181 W_prog_8_method_9_code_32 3 rfl rfl rfl
theorem d_8_9_38 : decode prog_8_method_9_code 38 = .ok (.aload_n 0, 1) := D_42 W_prog_8_method_9_code_32 6 rfl rfl
theorem d_8_9_39 : decode prog_8_method_9_code 39 = .ok (.getfield 104, 3) := D_180 W_prog_8_method_9_code_32 7 rfl rfl rfl
theorem d_8_9_42 : decode prog_8_method_9_code 42 = .ok (.areturn, 1) := D_176 W_prog_8_method_9_code_32 10 rfl rfl
theorem W_prog_8_method_8_code_0 : chW prog_8_method_8_code 0 [42, 180, 0, 93, 199, 0, 14, 42, 187, 0, 97, 89, 183, 0, 99, 181, 0, 93, 42, 180, 0, 43, 154, 0, 16, 42, 180, 0, 93, 42, 182, 0, 100, 42, 4, 181] := chW_of (by decide +kernel)
theorem d_8_8_0 : decode prog_8_method_8_code 0 = .ok (.aload_n 0, 1) := D_42 W_prog_8_method_8_code_0 0 rfl rfl
theorem d_8_8_1 : decode prog_8_method_8_code 1 = .ok (.getfield 93, 3) := D_180 W_prog_8_method_8_code_0 1 rfl rfl rfl
theorem d_8_8_4 : decode prog_8_method_8_code 4 = .ok (.ifnonnull 14, 3) := D_199 W_prog_8_method_8_code_0 4 rfl rfl rfl
theorem d_8_8_7 : decode prog_8_method_8_code 7 = .ok (.aload_n 0, 1) := D_42 W_prog_8_method_8_code_0 7 rfl rfl
theorem d_8_8_8 : decode prog_8_method_8_code 8 = .ok (.new 97, 3) := D_187 W_prog_8_method_8_code_0 8 rfl rfl rfl
theorem d_8_8_11 : decode prog_8_method_8_code 11 = .ok (.dup, 1) := D_89 W_prog_8_method_8_code_0 11 rfl rfl
theorem d_8_8_12 : decode prog_8_method_8_code 12 = .ok (.invokespecial 99, 3) := D_183 W_prog_8_method_8_code_0 12 rfl rfl rfl
theorem d_8_8_15 : decode prog_8_method_8_code 15 = .ok (.putfield 93, 3) := D_181 W_prog_8_method_8_code_0 15 rfl rfl rfl
theorem d_8_8_18 : decode prog_8_method_8_code 18 = .ok (.aload_n 0, 1) := D_42 W_prog_8_method_8_code_0 18 rfl rfl
theorem d_8_8_19 : decode prog_8_method_8_code 19 = .ok (.getfield 43, 3) := D_180 W_prog_8_method_8_code_0 19 rfl rfl rfl
theorem d_8_8_22 : decode prog_8_method_8_code 22 = .ok (.ifCond .ne 16, 3) := D_154 W_prog_8_method_8_code_0 22 rfl rfl rfl
theorem d_8_8_25 : decode prog_8_method_8_code 25 = .ok (.aload_n 0, 1) := D_42 W_prog_8_method_8_code_0 25 rfl rfl
theorem d_8_8_26 : decode prog_8_method_8_code 26 = .ok (.getfield 93, 3) := D_180 W_prog_8_method_8_code_0 26 rfl rfl rfl
theorem d_8_8_29 : decode prog_8_method_8_code 29 = .ok (.aload_n 0, 1) := D_42 W_prog_8_method_8_code_0 29 rfl rfl
theorem d_8_8_30 : decode prog_8_method_8_code 30 = .ok (.invokevirtual 100, 3) := D_182 W_prog_8_method_8_code_0 30 rfl rfl rfl
theorem W_prog_8_method_8_code_32 : chW prog_8_method_8_code 32 [100, 42, 4, 181, 0, 43, 42, 180, 0, 93, 176] := chW_of (by decide +kernel)
theorem d_8_8_33 : decode prog_8_method_8_code 33 = .ok (.aload_n 0, 1) := D_42 W_prog_8_method_8_code_32 1 rfl rfl
theorem d_8_8_34 : decode prog_8_method_8_code 34 = .ok (.iconst 1, 1) := D_4 W_prog_8_method_8_code_32 2 rfl rfl
theorem d_8_8_35 : decode prog_8_method_8_code 35 = .ok (.putfield 43, 3) := D_181 W_prog_8_method_8_code_32 3 rfl rfl rfl
theorem d_8_8_38 : decode prog_8_method_8_code 38 = .ok (.aload_n 0, 1) := D_42 W_prog_8_method_8_code_32 6 rfl rfl
theorem d_8_8_39 : decode prog_8_method_8_code 39 = .ok (.getfield 93, 3) := D_180 W_prog_8_method_8_code_32 7 rfl rfl rfl
theorem d_8_8_42 : decode prog_8_method_8_code 42 = .ok (.areturn, 1) := D_176 W_prog_8_method_8_code_32 10 rfl rfl
theorem W_prog_1_method_10_code_0 : chW prog_1_method_10_code 0 [42, 27, 182, 0, 97, 78, 45, 199, 0, 5, 2, 172, 28, 170, 0, 0, 0, 0, 0, 208, 0, 0, 0, 0, 0, 0, 0, 13, 0, 0, 0, 71, 0, 0, 0, 76] := chW_of (by decide +kernel)
theorem d_1_10_0 : decode prog_1_method_10_code 0 = .ok (.aload_n 0, 1) := D_42 W_prog_1_method_10_code_0 0 rfl rfl
theorem d_1_10_1 : decode prog_1_method_10_code 1 = .ok (.iload_n 1, 1) := D_27 W_prog_1_method_10_code_0 1 rfl rfl
theorem d_1_10_2 : decode prog_1_method_10_code 2 = .ok (.invokevirtual 97, 3) := D_182 W_prog_1_method_10_code_0 2 rfl rfl rfl
theorem d_1_10_5 : decode prog_1_method_10_code 5 = .ok (.astore_n 3, 1) := D_78 W_prog_1_method_10_code_0 5 rfl rfl
theorem d_1_10_6 : decode prog_1_method_10_code 6 = .ok (.aload_n 3, 1) := D_45 W_prog_1_method_10_code_0 6 rfl rfl
theorem d_1_10_7 : decode prog_1_method_10_code 7 = .ok (.ifnonnull 5, 3) := D_199 W_prog_1_method_10_code_0 7 rfl rfl rfl
theorem d_1_10_12 : decode prog_1_method_10_code 12 = .ok (.iload_n 2, 1) := D_28 W_prog_1_method_10_code_0 12 rfl rfl
theorem d_1_10_13 : decode prog_1_method_10_code 13 = .ok (.tableswitch 208 0 13 #[71, 76, 81, 86, 91, 96, 101, 106, 114, 122, 130, 149, 168, 189], 71) := by decide +kernel
theorem W_prog_1_method_10_code_64 : chW prog_1_method_10_code 64 [0, 0, 0, 122, 0, 0, 0, 130, 0, 0, 0, 149, 0, 0, 0, 168, 0, 0, 0, 189, 45, 180, 0, 75, 172, 45, 180, 0, 120, 172, 45, 180, 0, 123, 172, 45] := chW_of (by decide +kernel)
theorem d_1_10_84 : decode prog_1_method_10_code 84 = .ok (.aload_n 3, 1) := D_45 W_prog_1_method_10_code_64 20 rfl rfl
theorem d_1_10_85 : decode prog_1_method_10_code 85 = .ok (.getfield 75, 3) := D_180 W_prog_1_method_10_code_64 21 rfl rfl rfl
theorem d_1_10_88 : decode prog_1_method_10_code 88 = .ok (.ireturn, 1) := D_172 W_prog_1_method_10_code_64 24 rfl rfl
theorem d_1_10_89 : decode prog_1_method_10_code 89 = .ok (.aload_n 3, 1) := D_45 W_prog_1_method_10_code_64 25 rfl rfl
theorem d_1_10_90 : decode prog_1_method_10_code 90 = .ok (.getfield 120, 3) := D_180 W_prog_1_method_10_code_64 26 rfl rfl rfl
theorem d_1_10_93 : decode prog_1_method_10_code 93 = .ok (.ireturn, 1) := D_172 W_prog_1_method_10_code_64 29 rfl rfl
theorem d_1_10_94 : decode prog_1_method_10_code 94 = .ok (.aload_n 3, 1) := D_45 W_prog_1_method_10_code_64 30 rfl rfl
theorem d_1_10_95 : decode prog_1_method_10_code 95 = .ok (.getfield 123, 3) := D_180 W_prog_1_method_10_code_64 31 rfl rfl rfl
theorem W_prog_1_method_10_code_96 : chW prog_1_method_10_code 96 [0, 123, 172, 45, 180, 0, 126, 172, 45, 180, 0, 129, 172, 45, 180, 0, 132, 172, 45, 180, 0, 135, 172, 45, 182, 0, 138, 180, 0, 142, 172, 45, 182, 0, 138, 180] := chW_of (by decide +kernel)
theorem d_1_10_98 : decode prog_1_method_10_code 98 = .ok (.ireturn, 1) := D_172 W_prog_1_method_10_code_96 2 rfl rfl
theorem d_1_10_99 : decode prog_1_method_10_code 99 = .ok (.aload_n 3, 1) := D_45 W_prog_1_method_10_code_96 3 rfl rfl
theorem d_1_10_100 : decode prog_1_method_10_code 100 = .ok (.getfield 126, 3) := D_180 W_prog_1_method_10_code_96 4 rfl rfl rfl
theorem d_1_10_103 : decode prog_1_method_10_code 103 = .ok (.ireturn, 1) := D_172 W_prog_1_method_10_code_96 7 rfl rfl
theorem d_1_10_104 : decode prog_1_method_10_code 104 = .ok (.aload_n 3, 1) := D_45 W_prog_1_method_10_code_96 8 rfl rfl
theorem d_1_10_105 : decode prog_1_method_10_code 105 = .ok (.getfield 129, 3) := D_180 W_prog_1_method_10_code_96 9 rfl rfl rfl
theorem d_1_10_108 : decode prog_1_method_10_code 108 = .ok (.ireturn, 1) := D_172 W_prog_1_method_10_code_96 12 rfl rfl
theorem d_1_10_109 : decode prog_1_method_10_code 109 = .ok (.aload_n 3, 1) := D_45 W_prog_1_method_10_code_96 13 rfl rfl
theorem d_1_10_110 : decode prog_1_method_10_code 110 = .ok (.getfield 132, 3) := D_180 W_prog_1_method_10_code_96 14 rfl rfl rfl
theorem d_1_10_113 : decode prog_1_method_10_code 113 = .ok (.ireturn, 1) := D_172 W_prog_1_method_10_code_96 17 rfl rfl
theorem d_1_10_114 : decode prog_1_method_10_code 114 = .ok (.aload_n 3, 1) := D_45 W_prog_1_method_10_code_96 18 rfl rfl
theorem d_1_10_115 : decode prog_1_method_10_code 115 = .ok (.getfield 135, 3) := D_180 W_prog_1_method_10_code_96 19 rfl rfl rfl
theorem d_1_10_118 : decode prog_1_method_10_code 118 = .ok (.ireturn, 1) := D_172 W_prog_1_method_10_code_96 22 rfl rfl
theorem d_1_10_119 : decode prog_1_method_10_code 119 = .ok (.aload_n 3, 1) := D_45 W_prog_1_method_10_code_96 23 rfl rfl
theorem d_1_10_120 : decode prog_1_method_10_code 120 = .ok (.invokevirtual 138, 3) := D_182 W_prog_1_method_10_code_96 24 rfl rfl rfl
theorem d_1_10_127 : decode prog_1_method_10_code 127 = .ok (.aload_n 3, 1) := D_45 W_prog_1_method_10_code_96 31 rfl rfl
theorem W_prog_1_method_10_code_128 : chW prog_1_method_10_code 128 [182, 0, 138, 180, 0, 147, 172, 45, 182, 0, 150, 182, 0, 154, 172, 45, 180, 0, 159, 199, 0, 7, 3, 167, 0, 10, 45, 180, 0, 159, 180, 0, 163, 172, 45, 180] := chW_of (by decide +kernel)
theorem d_1_10_128 : decode prog_1_method_10_code 128 = .ok (.invokevirtual 138, 3) := D_182 W_prog_1_method_10_code_128 0 rfl rfl rfl
theorem d_1_10_135 : decode prog_1_method_10_code 135 = .ok (.aload_n 3, 1) := D_45 W_prog_1_method_10_code_128 7 rfl rfl
theorem d_1_10_136 : decode prog_1_method_10_code 136 = .ok (.invokevirtual 150, 3) := D_182 W_prog_1_method_10_code_128 8 rfl rfl rfl
theorem d_1_10_143 : decode prog_1_method_10_code 143 = .ok (.aload_n 3, 1) := D_45 W_prog_1_method_10_code_128 15 rfl rfl
theorem d_1_10_144 : decode prog_1_method_10_code 144 = .ok (.getfield 159, 3) := D_180 W_prog_1_method_10_code_128 16 rfl rfl rfl
theorem d_1_10_147 : decode prog_1_method_10_code 147 = .ok (.ifnonnull 7, 3) := D_199 W_prog_1_method_10_code_128 19 rfl rfl rfl
theorem d_1_10_154 : decode prog_1_method_10_code 154 = .ok (.aload_n 3, 1) := D_45 W_prog_1_method_10_code_128 26 rfl rfl
theorem d_1_10_155 : decode prog_1_method_10_code 155 = .ok (.getfield 159, 3) := D_180 W_prog_1_method_10_code_128 27 rfl rfl rfl
theorem d_1_10_158 : decode prog_1_method_10_code 158 = .ok (.getfield 163, 3) := D_180 W_prog_1_method_10_code_128 30 rfl rfl rfl
theorem d_1_10_150 : decode prog_1_method_10_code 150 = .ok (.iconst 0, 1) := D_3 W_prog_1_method_10_code_128 22 rfl rfl
theorem d_1_10_151 : decode prog_1_method_10_code 151 = .ok (.goto 10, 3) := D_167 W_prog_1_method_10_code_128 23 rfl rfl rfl
theorem W_prog_1_method_10_code_160 : chW prog_1_method_10_code 160 [163, 172, 45, 180, 0, 112, 153, 0, 13, 45, 182, 0, 150, 180, 0, 168, 167, 0, 4, 3, 172, 45, 180, 0, 112, 153, 0, 15, 5, 45, 182, 0, 150, 180, 0, 168] := chW_of (by decide +kernel)
theorem d_1_10_162 : decode prog_1_method_10_code 162 = .ok (.aload_n 3, 1) := D_45 W_prog_1_method_10_code_160 2 rfl rfl
theorem d_1_10_163 : decode prog_1_method_10_code 163 = .ok (.getfield 112, 3) := D_180 W_prog_1_method_10_code_160 3 rfl rfl rfl
theorem d_1_10_166 : decode prog_1_method_10_code 166 = .ok (.ifCond .eq 13, 3) := D_153 W_prog_1_method_10_code_160 6 rfl rfl rfl
theorem d_1_10_179 : decode prog_1_method_10_code 179 = .ok (.iconst 0, 1) := D_3 W_prog_1_method_10_code_160 19 rfl rfl
theorem d_1_10_169 : decode prog_1_method_10_code 169 = .ok (.aload_n 3, 1) := D_45 W_prog_1_method_10_code_160 9 rfl rfl
theorem d_1_10_170 : decode prog_1_method_10_code 170 = .ok (.invokevirtual 150, 3) := D_182 W_prog_1_method_10_code_160 10 rfl rfl rfl
theorem d_1_10_181 : decode prog_1_method_10_code 181 = .ok (.aload_n 3, 1) := D_45 W_prog_1_method_10_code_160 21 rfl rfl
theorem d_1_10_182 : decode prog_1_method_10_code 182 = .ok (.getfield 112, 3) := D_180 W_prog_1_method_10_code_160 22 rfl rfl rfl
theorem d_1_10_185 : decode prog_1_method_10_code 185 = .ok (.ifCond .eq 15, 3) := D_153 W_prog_1_method_10_code_160 25 rfl rfl rfl
theorem W_prog_1_method_10_code_192 : chW prog_1_method_10_code 192 [150, 180, 0, 168, 104, 167, 0, 4, 3, 172, 45, 180, 0, 112, 153, 0, 13, 45, 182, 0, 150, 180, 0, 171, 167, 0, 4, 3, 172, 2, 172] := chW_of (by decide +kernel)
theorem d_1_10_200 : decode prog_1_method_10_code 200 = .ok (.iconst 0, 1) := D_3 W_prog_1_method_10_code_192 8 rfl rfl
theorem d_1_10_188 : decode prog_1_method_10_code 188 = .ok (.iconst 2, 1) := D_5 W_prog_1_method_10_code_160 28 rfl rfl
theorem d_1_10_189 : decode prog_1_method_10_code 189 = .ok (.aload_n 3, 1) := D_45 W_prog_1_method_10_code_160 29 rfl rfl
theorem d_1_10_190 : decode prog_1_method_10_code 190 = .ok (.invokevirtual 150, 3) := D_182 W_prog_1_method_10_code_160 30 rfl rfl rfl
theorem d_1_10_202 : decode prog_1_method_10_code 202 = .ok (.aload_n 3, 1) := D_45 W_prog_1_method_10_code_192 10 rfl rfl
theorem d_1_10_203 : decode prog_1_method_10_code 203 = .ok (.getfield 112, 3) := D_180 W_prog_1_method_10_code_192 11 rfl rfl rfl
theorem d_1_10_206 : decode prog_1_method_10_code 206 = .ok (.ifCond .eq 13, 3) := D_153 W_prog_1_method_10_code_192 14 rfl rfl rfl
theorem d_1_10_219 : decode prog_1_method_10_code 219 = .ok (.iconst 0, 1) := D_3 W_prog_1_method_10_code_192 27 rfl rfl
theorem d_1_10_209 : decode prog_1_method_10_code 209 = .ok (.aload_n 3, 1) := D_45 W_prog_1_method_10_code_192 17 rfl rfl
theorem d_1_10_210 : decode prog_1_method_10_code 210 = .ok (.invokevirtual 150, 3) := D_182 W_prog_1_method_10_code_192 18 rfl rfl rfl
theorem d_1_10_221 : decode prog_1_method_10_code 221 = .ok (.iconst (-1), 1) := D_2 W_prog_1_method_10_code_192 29 rfl rfl
theorem d_1_10_222 : decode prog_1_method_10_code 222 = .ok (.ireturn, 1) := D_172 W_prog_1_method_10_code_192 30 rfl rfl
theorem d_1_10_10 : decode prog_1_method_10_code 10 = .ok (.iconst (-1), 1) := D_2 W_prog_1_method_10_code_0 10 rfl rfl
theorem d_1_10_11 : decode prog_1_method_10_code 11 = .ok (.ireturn, 1) := D_172 W_prog_1_method_10_code_0 11 rfl rfl
theorem d_1_10_213 : decode prog_1_method_10_code 213 = .ok (.getfield 171, 3) := D_180 W_prog_1_method_10_code_192 21 rfl rfl rfl
theorem d_1_10_216 : decode prog_1_method_10_code 216 = .ok (.goto 4, 3) := D_167 W_prog_1_method_10_code_192 24 rfl rfl rfl
theorem d_1_10_220 : decode prog_1_method_10_code 220 = .ok (.ireturn, 1) := D_172 W_prog_1_method_10_code_192 28 rfl rfl
theorem d_1_10_193 : decode prog_1_method_10_code 193 = .ok (.getfield 168, 3) := D_180 W_prog_1_method_10_code_192 1 rfl rfl rfl
theorem d_1_10_196 : decode prog_1_method_10_code 196 = .ok (.imul, 1) := D_104 W_prog_1_method_10_code_192 4 rfl rfl
theorem d_1_10_197 : decode prog_1_method_10_code 197 = .ok (.goto 4, 3) := D_167 W_prog_1_method_10_code_192 5 rfl rfl rfl
theorem d_1_10_201 : decode prog_1_method_10_code 201 = .ok (.ireturn, 1) := D_172 W_prog_1_method_10_code_192 9 rfl rfl
theorem d_1_10_173 : decode prog_1_method_10_code 173 = .ok (.getfield 168, 3) := D_180 W_prog_1_method_10_code_160 13 rfl rfl rfl
theorem d_1_10_176 : decode prog_1_method_10_code 176 = .ok (.goto 4, 3) := D_167 W_prog_1_method_10_code_160 16 rfl rfl rfl
theorem d_1_10_180 : decode prog_1_method_10_code 180 = .ok (.ireturn, 1) := D_172 W_prog_1_method_10_code_160 20 rfl rfl
theorem d_1_10_161 : decode prog_1_method_10_code 161 = .ok (.ireturn, 1) := D_172 W_prog_1_method_10_code_160 1 rfl rfl
theorem d_1_10_139 : decode prog_1_method_10_code 139 = .ok (.invokevirtual 154, 3) := D_182 W_prog_1_method_10_code_128 11 rfl rfl rfl
theorem d_1_10_142 : decode prog_1_method_10_code 142 = .ok (.ireturn, 1) := D_172 W_prog_1_method_10_code_128 14 rfl rfl
theorem d_1_10_131 : decode prog_1_method_10_code 131 = .ok (.getfield 147, 3) := D_180 W_prog_1_method_10_code_128 3 rfl rfl rfl
theorem d_1_10_134 : decode prog_1_method_10_code 134 = .ok (.ireturn, 1) := D_172 W_prog_1_method_10_code_128 6 rfl rfl
theorem d_1_10_123 : decode prog_1_method_10_code 123 = .ok (.getfield 142, 3) := D_180 W_prog_1_method_10_code_96 27 rfl rfl rfl
theorem d_1_10_126 : decode prog_1_method_10_code 126 = .ok (.ireturn, 1) := D_172 W_prog_1_method_10_code_96 30 rfl rfl
theorem W_prog_1_method_19_code_0 : chW prog_1_method_19_code 0 [42, 27, 182, 0, 97, 77, 44, 199, 0, 5, 2, 172, 44, 182, 0, 150, 78, 45, 180, 0, 250, 153, 0, 6, 16, 254, 172, 45, 182, 0, 253, 44, 4, 181, 0, 112] := chW_of (by decide +kernel)
theorem d_1_19_0 : decode prog_1_method_19_code 0 = .ok (.aload_n 0, 1) := D_42 W_prog_1_method_19_code_0 0 rfl rfl
theorem d_1_19_1 : decode prog_1_method_19_code 1 = .ok (.iload_n 1, 1) := D_27 W_prog_1_method_19_code_0 1 rfl rfl
theorem d_1_19_2 : decode prog_1_method_19_code 2 = .ok (.invokevirtual 97, 3) := D_182 W_prog_1_method_19_code_0 2 rfl rfl rfl
theorem d_1_19_5 : decode prog_1_method_19_code 5 = .ok (.astore_n 2, 1) := D_77 W_prog_1_method_19_code_0 5 rfl rfl
theorem d_1_19_6 : decode prog_1_method_19_code 6 = .ok (.aload_n 2, 1) := D_44 W_prog_1_method_19_code_0 6 rfl rfl
theorem d_1_19_7 : decode prog_1_method_19_code 7 = .ok (.ifnonnull 5, 3) := D_199 W_prog_1_method_19_code_0 7 rfl rfl rfl
theorem d_1_19_12 : decode prog_1_method_19_code 12 = .ok (.aload_n 2, 1) := D_44 W_prog_1_method_19_code_0 12 rfl rfl
theorem d_1_19_13 : decode prog_1_method_19_code 13 = .ok (.invokevirtual 150, 3) := D_182 W_prog_1_method_19_code_0 13 rfl rfl rfl
theorem d_1_19_10 : decode prog_1_method_19_code 10 = .ok (.iconst (-1), 1) := D_2 W_prog_1_method_19_code_0 10 rfl rfl
theorem d_1_19_11 : decode prog_1_method_19_code 11 = .ok (.ireturn, 1) := D_172 W_prog_1_method_19_code_0 11 rfl rfl
theorem d_1_19_16 : decode prog_1_method_19_code 16 = .ok (.astore_n 3, 1) := D_78 W_prog_1_method_19_code_0 16 rfl rfl
theorem d_1_19_17 : decode prog_1_method_19_code 17 = .ok (.aload_n 3, 1) := D_45 W_prog_1_method_19_code_0 17 rfl rfl
theorem d_1_19_18 : decode prog_1_method_19_code 18 = .ok (.getfield 250, 3) := D_180 W_prog_1_method_19_code_0 18 rfl rfl rfl
theorem d_1_19_21 : decode prog_1_method_19_code 21 = .ok (.ifCond .eq 6, 3) := D_153 W_prog_1_method_19_code_0 21 rfl rfl rfl
theorem d_1_19_27 : decode prog_1_method_19_code 27 = .ok (.aload_n 3, 1) := D_45 W_prog_1_method_19_code_0 27 rfl rfl
theorem d_1_19_28 : decode prog_1_method_19_code 28 = .ok (.invokevirtual 253, 3) := D_182 W_prog_1_method_19_code_0 28 rfl rfl rfl
theorem d_1_19_31 : decode prog_1_method_19_code 31 = .ok (.aload_n 2, 1) := D_44 W_prog_1_method_19_code_0 31 rfl rfl
theorem W_prog_1_method_19_code_32 : chW prog_1_method_19_code 32 [4, 181, 0, 112, 45, 180, 0, 168, 172] := chW_of (by decide +kernel)
theorem d_1_19_32 : decode prog_1_method_19_code 32 = .ok (.iconst 1, 1) := D_4 W_prog_1_method_19_code_32 0 rfl rfl
theorem d_1_19_33 : decode prog_1_method_19_code 33 = .ok (.putfield 112, 3) := D_181 W_prog_1_method_19_code_32 1 rfl rfl rfl
theorem d_1_19_36 : decode prog_1_method_19_code 36 = .ok (.aload_n 3, 1) := D_45 W_prog_1_method_19_code_32 4 rfl rfl
theorem d_1_19_37 : decode prog_1_method_19_code 37 = .ok (.getfield 168, 3) := D_180 W_prog_1_method_19_code_32 5 rfl rfl rfl
theorem d_1_19_40 : decode prog_1_method_19_code 40 = .ok (.ireturn, 1) := D_172 W_prog_1_method_19_code_32 8 rfl rfl
theorem d_1_19_24 : decode prog_1_method_19_code 24 = .ok (.bipush (-2), 2) := D_16 W_prog_1_method_19_code_0 24 rfl rfl rfl
theorem d_1_19_26 : decode prog_1_method_19_code 26 = .ok (.ireturn, 1) := D_172 W_prog_1_method_19_code_0 26 rfl rfl
theorem W_prog_1_method_30_code_0 : chW prog_1_method_30_code 0 [42, 27, 182, 0, 97, 58, 4, 25, 4, 198, 0, 19, 28, 155, 0, 15, 28, 25, 4, 182, 0, 138, 180, 0, 142, 161, 0, 7, 20, 1, 53, 173, 25, 4, 182, 0] := chW_of (by decide +kernel)
theorem d_1_30_0 : decode prog_1_method_30_code 0 = .ok (.aload_n 0, 1) := D_42 W_prog_1_method_30_code_0 0 rfl rfl
theorem d_1_30_1 : decode prog_1_method_30_code 1 = .ok (.iload_n 1, 1) := D_27 W_prog_1_method_30_code_0 1 rfl rfl
theorem d_1_30_2 : decode prog_1_method_30_code 2 = .ok (.invokevirtual 97, 3) := D_182 W_prog_1_method_30_code_0 2 rfl rfl rfl
theorem d_1_30_5 : decode prog_1_method_30_code 5 = .ok (.astore 4, 2) := D_58 W_prog_1_method_30_code_0 5 rfl rfl
theorem d_1_30_7 : decode prog_1_method_30_code 7 = .ok (.aload 4, 2) := D_25 W_prog_1_method_30_code_0 7 rfl rfl
theorem d_1_30_9 : decode prog_1_method_30_code 9 = .ok (.ifnull 19, 3) := D_198 W_prog_1_method_30_code_0 9 rfl rfl rfl
theorem d_1_30_12 : decode prog_1_method_30_code 12 = .ok (.iload_n 2, 1) := D_28 W_prog_1_method_30_code_0 12 rfl rfl
theorem d_1_30_13 : decode prog_1_method_30_code 13 = .ok (.ifCond .lt 15, 3) := D_155 W_prog_1_method_30_code_0 13 rfl rfl rfl
theorem d_1_30_16 : decode prog_1_method_30_code 16 = .ok (.iload_n 2, 1) := D_28 W_prog_1_method_30_code_0 16 rfl rfl
theorem d_1_30_17 : decode prog_1_method_30_code 17 = .ok (.aload 4, 2) := D_25 W_prog_1_method_30_code_0 17 rfl rfl
theorem d_1_30_19 : decode prog_1_method_30_code 19 = .ok (.invokevirtual 138, 3) := D_182 W_prog_1_method_30_code_0 19 rfl rfl rfl
theorem d_1_30_22 : decode prog_1_method_30_code 22 = .ok (.getfield 142, 3) := D_180 W_prog_1_method_30_code_0 22 rfl rfl rfl
theorem d_1_30_25 : decode prog_1_method_30_code 25 = .ok (.if_icmp .lt 7, 3) := D_161 W_prog_1_method_30_code_0 25 rfl rfl rfl
theorem W_prog_1_method_30_code_32 : chW prog_1_method_30_code 32 [25, 4, 182, 0, 138, 58, 5, 29, 171, 0, 0, 0, 0, 0, 0, 50, 0, 0, 0, 2, 0, 0, 0, 0, 0, 0, 0, 28, 0, 0, 0, 1, 0, 0, 0, 39] := chW_of (by decide +kernel)
theorem d_1_30_32 : decode prog_1_method_30_code 32 = .ok (.aload 4, 2) := D_25 W_prog_1_method_30_code_32 0 rfl rfl
theorem d_1_30_34 : decode prog_1_method_30_code 34 = .ok (.invokevirtual 138, 3) := D_182 W_prog_1_method_30_code_32 2 rfl rfl rfl
theorem d_1_30_28 : decode prog_1_method_30_code 28 = .ok (.ldc2_w 309, 3) := D_20 W_prog_1_method_30_code_0 28 rfl rfl rfl
theorem d_1_30_31 : decode prog_1_method_30_code 31 = .ok (.lreturn, 1) := D_173 W_prog_1_method_30_code_0 31 rfl rfl
theorem d_1_30_37 : decode prog_1_method_30_code 37 = .ok (.astore 5, 2) := D_58 W_prog_1_method_30_code_32 5 rfl rfl
theorem d_1_30_39 : decode prog_1_method_30_code 39 = .ok (.iload_n 3, 1) := D_29 W_prog_1_method_30_code_32 7 rfl rfl
theorem d_1_30_40 : decode prog_1_method_30_code 40 = .ok (.lookupswitch 50 #[(0, 28), (1, 39)], 28) := by decide +kernel
theorem W_prog_1_method_30_code_64 : chW prog_1_method_30_code 64 [0, 0, 0, 39, 25, 5, 180, 1, 55, 28, 47, 184, 0, 198, 173, 25, 5, 180, 1, 55, 28, 47, 184, 0, 201, 173, 29, 155, 0, 9, 29, 16, 8, 164, 0, 9] := chW_of (by decide +kernel)
theorem d_1_30_68 : decode prog_1_method_30_code 68 = .ok (.aload 5, 2) := D_25 W_prog_1_method_30_code_64 4 rfl rfl
theorem d_1_30_70 : decode prog_1_method_30_code 70 = .ok (.getfield 311, 3) := D_180 W_prog_1_method_30_code_64 6 rfl rfl rfl
theorem d_1_30_73 : decode prog_1_method_30_code 73 = .ok (.iload_n 2, 1) := D_28 W_prog_1_method_30_code_64 9 rfl rfl
theorem d_1_30_74 : decode prog_1_method_30_code 74 = .ok (.laload, 1) := D_47 W_prog_1_method_30_code_64 10 rfl rfl
theorem d_1_30_75 : decode prog_1_method_30_code 75 = .ok (.invokestatic 198, 3) := D_184 W_prog_1_method_30_code_64 11 rfl rfl rfl
theorem d_1_30_78 : decode prog_1_method_30_code 78 = .ok (.lreturn, 1) := D_173 W_prog_1_method_30_code_64 14 rfl rfl
theorem d_1_30_79 : decode prog_1_method_30_code 79 = .ok (.aload 5, 2) := D_25 W_prog_1_method_30_code_64 15 rfl rfl
theorem d_1_30_81 : decode prog_1_method_30_code 81 = .ok (.getfield 311, 3) := D_180 W_prog_1_method_30_code_64 17 rfl rfl rfl
theorem d_1_30_84 : decode prog_1_method_30_code 84 = .ok (.iload_n 2, 1) := D_28 W_prog_1_method_30_code_64 20 rfl rfl
theorem d_1_30_85 : decode prog_1_method_30_code 85 = .ok (.laload, 1) := D_47 W_prog_1_method_30_code_64 21 rfl rfl
theorem d_1_30_86 : decode prog_1_method_30_code 86 = .ok (.invokestatic 201, 3) := D_184 W_prog_1_method_30_code_64 22 rfl rfl rfl
theorem d_1_30_89 : decode prog_1_method_30_code 89 = .ok (.lreturn, 1) := D_173 W_prog_1_method_30_code_64 25 rfl rfl
theorem d_1_30_90 : decode prog_1_method_30_code 90 = .ok (.iload_n 3, 1) := D_29 W_prog_1_method_30_code_64 26 rfl rfl
theorem d_1_30_91 : decode prog_1_method_30_code 91 = .ok (.ifCond .lt 9, 3) := D_155 W_prog_1_method_30_code_64 27 rfl rfl rfl
theorem d_1_30_94 : decode prog_1_method_30_code 94 = .ok (.iload_n 3, 1) := D_29 W_prog_1_method_30_code_64 30 rfl rfl
theorem d_1_30_95 : decode prog_1_method_30_code 95 = .ok (.bipush 8, 2) := D_16 W_prog_1_method_30_code_64 31 rfl rfl rfl
theorem W_prog_1_method_30_code_96 : chW prog_1_method_30_code 96 [8, 164, 0, 9, 20, 1, 53, 167, 0, 12, 25, 5, 25, 4, 28, 29, 182, 1, 58, 173] := chW_of (by decide +kernel)
theorem d_1_30_97 : decode prog_1_method_30_code 97 = .ok (.if_icmp .le 9, 3) := D_164 W_prog_1_method_30_code_96 1 rfl rfl rfl
theorem d_1_30_106 : decode prog_1_method_30_code 106 = .ok (.aload 5, 2) := D_25 W_prog_1_method_30_code_96 10 rfl rfl
theorem d_1_30_108 : decode prog_1_method_30_code 108 = .ok (.aload 4, 2) := D_25 W_prog_1_method_30_code_96 12 rfl rfl
theorem d_1_30_110 : decode prog_1_method_30_code 110 = .ok (.iload_n 2, 1) := D_28 W_prog_1_method_30_code_96 14 rfl rfl
theorem d_1_30_111 : decode prog_1_method_30_code 111 = .ok (.iload_n 3, 1) := D_29 W_prog_1_method_30_code_96 15 rfl rfl
theorem d_1_30_112 : decode prog_1_method_30_code 112 = .ok (.invokevirtual 314, 3) := D_182 W_prog_1_method_30_code_96 16 rfl rfl rfl
theorem d_1_30_100 : decode prog_1_method_30_code 100 = .ok (.ldc2_w 309, 3) := D_20 W_prog_1_method_30_code_96 4 rfl rfl rfl
theorem d_1_30_103 : decode prog_1_method_30_code 103 = .ok (.goto 12, 3) := D_167 W_prog_1_method_30_code_96 7 rfl rfl rfl
theorem d_1_30_115 : decode prog_1_method_30_code 115 = .ok (.lreturn, 1) := D_173 W_prog_1_method_30_code_96 19 rfl rfl
theorem W_prog_1_method_31_code_0 : chW prog_1_method_31_code 0 [42, 27, 182, 0, 97, 58, 4, 25, 4, 198, 0, 28, 29, 155, 0, 24, 29, 7, 162, 0, 19, 28, 155, 0, 15, 28, 25, 4, 182, 0, 138, 180, 0, 147, 161, 0] := chW_of (by decide +kernel)
theorem d_1_31_0 : decode prog_1_method_31_code 0 = .ok (.aload_n 0, 1) := D_42 W_prog_1_method_31_code_0 0 rfl rfl
theorem d_1_31_1 : decode prog_1_method_31_code 1 = .ok (.iload_n 1, 1) := D_27 W_prog_1_method_31_code_0 1 rfl rfl
theorem d_1_31_2 : decode prog_1_method_31_code 2 = .ok (.invokevirtual 97, 3) := D_182 W_prog_1_method_31_code_0 2 rfl rfl rfl
theorem d_1_31_5 : decode prog_1_method_31_code 5 = .ok (.astore 4, 2) := D_58 W_prog_1_method_31_code_0 5 rfl rfl
theorem d_1_31_7 : decode prog_1_method_31_code 7 = .ok (.aload 4, 2) := D_25 W_prog_1_method_31_code_0 7 rfl rfl
theorem d_1_31_9 : decode prog_1_method_31_code 9 = .ok (.ifnull 28, 3) := D_198 W_prog_1_method_31_code_0 9 rfl rfl rfl
theorem d_1_31_12 : decode prog_1_method_31_code 12 = .ok (.iload_n 3, 1) := D_29 W_prog_1_method_31_code_0 12 rfl rfl
theorem d_1_31_13 : decode prog_1_method_31_code 13 = .ok (.ifCond .lt 24, 3) := D_155 W_prog_1_method_31_code_0 13 rfl rfl rfl
theorem d_1_31_16 : decode prog_1_method_31_code 16 = .ok (.iload_n 3, 1) := D_29 W_prog_1_method_31_code_0 16 rfl rfl
theorem d_1_31_17 : decode prog_1_method_31_code 17 = .ok (.iconst 4, 1) := D_7 W_prog_1_method_31_code_0 17 rfl rfl
theorem d_1_31_18 : decode prog_1_method_31_code 18 = .ok (.if_icmp .ge 19, 3) := D_162 W_prog_1_method_31_code_0 18 rfl rfl rfl
theorem d_1_31_21 : decode prog_1_method_31_code 21 = .ok (.iload_n 2, 1) := D_28 W_prog_1_method_31_code_0 21 rfl rfl
theorem d_1_31_22 : decode prog_1_method_31_code 22 = .ok (.ifCond .lt 15, 3) := D_155 W_prog_1_method_31_code_0 22 rfl rfl rfl
theorem d_1_31_25 : decode prog_1_method_31_code 25 = .ok (.iload_n 2, 1) := D_28 W_prog_1_method_31_code_0 25 rfl rfl
theorem d_1_31_26 : decode prog_1_method_31_code 26 = .ok (.aload 4, 2) := D_25 W_prog_1_method_31_code_0 26 rfl rfl
theorem d_1_31_28 : decode prog_1_method_31_code 28 = .ok (.invokevirtual 138, 3) := D_182 W_prog_1_method_31_code_0 28 rfl rfl rfl
theorem d_1_31_31 : decode prog_1_method_31_code 31 = .ok (.getfield 147, 3) := D_180 W_prog_1_method_31_code_0 31 rfl rfl rfl
theorem W_prog_1_method_31_code_32 : chW prog_1_method_31_code 32 [0, 147, 161, 0, 5, 2, 172, 25, 4, 182, 0, 138, 180, 1, 62, 29, 50, 28, 46, 172] := chW_of (by decide +kernel)
theorem d_1_31_34 : decode prog_1_method_31_code 34 = .ok (.if_icmp .lt 5, 3) := D_161 W_prog_1_method_31_code_32 2 rfl rfl rfl
theorem d_1_31_39 : decode prog_1_method_31_code 39 = .ok (.aload 4, 2) := D_25 W_prog_1_method_31_code_32 7 rfl rfl
theorem d_1_31_41 : decode prog_1_method_31_code 41 = .ok (.invokevirtual 138, 3) := D_182 W_prog_1_method_31_code_32 9 rfl rfl rfl
theorem d_1_31_37 : decode prog_1_method_31_code 37 = .ok (.iconst (-1), 1) := D_2 W_prog_1_method_31_code_32 5 rfl rfl
theorem d_1_31_38 : decode prog_1_method_31_code 38 = .ok (.ireturn, 1) := D_172 W_prog_1_method_31_code_32 6 rfl rfl
theorem d_1_31_44 : decode prog_1_method_31_code 44 = .ok (.getfield 318, 3) := D_180 W_prog_1_method_31_code_32 12 rfl rfl rfl
theorem d_1_31_47 : decode prog_1_method_31_code 47 = .ok (.iload_n 3, 1) := D_29 W_prog_1_method_31_code_32 15 rfl rfl
theorem d_1_31_48 : decode prog_1_method_31_code 48 = .ok (.aaload, 1) := D_50 W_prog_1_method_31_code_32 16 rfl rfl
theorem d_1_31_49 : decode prog_1_method_31_code 49 = .ok (.iload_n 2, 1) := D_28 W_prog_1_method_31_code_32 17 rfl rfl
theorem d_1_31_50 : decode prog_1_method_31_code 50 = .ok (.iaload, 1) := D_46 W_prog_1_method_31_code_32 18 rfl rfl
theorem d_1_31_51 : decode prog_1_method_31_code 51 = .ok (.ireturn, 1) := D_172 W_prog_1_method_31_code_32 19 rfl rfl
theorem W_prog_1_method_16_code_0 : chW prog_1_method_16_code 0 [42, 27, 182, 0, 97, 78, 45, 198, 0, 17, 28, 17, 0, 200, 161, 0, 10, 28, 17, 7, 208, 164, 0, 5, 2, 172, 45, 180, 0, 159, 199, 0, 14, 45, 187, 0] := chW_of (by decide +kernel)
theorem d_1_16_0 : decode prog_1_method_16_code 0 = .ok (.aload_n 0, 1) := D_42 W_prog_1_method_16_code_0 0 rfl rfl
theorem d_1_16_1 : decode prog_1_method_16_code 1 = .ok (.iload_n 1, 1) := D_27 W_prog_1_method_16_code_0 1 rfl rfl
theorem d_1_16_2 : decode prog_1_method_16_code 2 = .ok (.invokevirtual 97, 3) := D_182 W_prog_1_method_16_code_0 2 rfl rfl rfl
theorem d_1_16_5 : decode prog_1_method_16_code 5 = .ok (.astore_n 3, 1) := D_78 W_prog_1_method_16_code_0 5 rfl rfl
theorem d_1_16_6 : decode prog_1_method_16_code 6 = .ok (.aload_n 3, 1) := D_45 W_prog_1_method_16_code_0 6 rfl rfl
theorem d_1_16_7 : decode prog_1_method_16_code 7 = .ok (.ifnull 17, 3) := D_198 W_prog_1_method_16_code_0 7 rfl rfl rfl
theorem d_1_16_10 : decode prog_1_method_16_code 10 = .ok (.iload_n 2, 1) := D_28 W_prog_1_method_16_code_0 10 rfl rfl
theorem d_1_16_11 : decode prog_1_method_16_code 11 = .ok (.sipush 200, 3) := D_17 W_prog_1_method_16_code_0 11 rfl rfl rfl
theorem d_1_16_14 : decode prog_1_method_16_code 14 = .ok (.if_icmp .lt 10, 3) := D_161 W_prog_1_method_16_code_0 14 rfl rfl rfl
theorem d_1_16_17 : decode prog_1_method_16_code 17 = .ok (.iload_n 2, 1) := D_28 W_prog_1_method_16_code_0 17 rfl rfl
theorem d_1_16_18 : decode prog_1_method_16_code 18 = .ok (.sipush 2000, 3) := D_17 W_prog_1_method_16_code_0 18 rfl rfl rfl
theorem d_1_16_21 : decode prog_1_method_16_code 21 = .ok (.if_icmp .le 5, 3) := D_164 W_prog_1_method_16_code_0 21 rfl rfl rfl
theorem d_1_16_26 : decode prog_1_method_16_code 26 = .ok (.aload_n 3, 1) := D_45 W_prog_1_method_16_code_0 26 rfl rfl
theorem d_1_16_27 : decode prog_1_method_16_code 27 = .ok (.getfield 159, 3) := D_180 W_prog_1_method_16_code_0 27 rfl rfl rfl
theorem d_1_16_30 : decode prog_1_method_16_code 30 = .ok (.ifnonnull 14, 3) := D_199 W_prog_1_method_16_code_0 30 rfl rfl rfl
theorem W_prog_1_method_16_code_32 : chW prog_1_method_16_code 32 [14, 45, 187, 0, 164, 89, 183, 0, 237, 181, 0, 159, 45, 180, 0, 159, 45, 28, 182, 0, 238, 172] := chW_of (by decide +kernel)
theorem d_1_16_33 : decode prog_1_method_16_code 33 = .ok (.aload_n 3, 1) := D_45 W_prog_1_method_16_code_32 1 rfl rfl
theorem d_1_16_34 : decode prog_1_method_16_code 34 = .ok (.new 164, 3) := D_187 W_prog_1_method_16_code_32 2 rfl rfl rfl
theorem d_1_16_37 : decode prog_1_method_16_code 37 = .ok (.dup, 1) := D_89 W_prog_1_method_16_code_32 5 rfl rfl
theorem d_1_16_38 : decode prog_1_method_16_code 38 = .ok (.invokespecial 237, 3) := D_183 W_prog_1_method_16_code_32 6 rfl rfl rfl
theorem d_1_16_24 : decode prog_1_method_16_code 24 = .ok (.iconst (-1), 1) := D_2 W_prog_1_method_16_code_0 24 rfl rfl
theorem d_1_16_25 : decode prog_1_method_16_code 25 = .ok (.ireturn, 1) := D_172 W_prog_1_method_16_code_0 25 rfl rfl
theorem d_1_16_41 : decode prog_1_method_16_code 41 = .ok (.putfield 159, 3) := D_181 W_prog_1_method_16_code_32 9 rfl rfl rfl
theorem d_1_16_44 : decode prog_1_method_16_code 44 = .ok (.aload_n 3, 1) := D_45 W_prog_1_method_16_code_32 12 rfl rfl
theorem d_1_16_45 : decode prog_1_method_16_code 45 = .ok (.getfield 159, 3) := D_180 W_prog_1_method_16_code_32 13 rfl rfl rfl
theorem d_1_16_48 : decode prog_1_method_16_code 48 = .ok (.aload_n 3, 1) := D_45 W_prog_1_method_16_code_32 16 rfl rfl
theorem d_1_16_49 : decode prog_1_method_16_code 49 = .ok (.iload_n 2, 1) := D_28 W_prog_1_method_16_code_32 17 rfl rfl
theorem d_1_16_50 : decode prog_1_method_16_code 50 = .ok (.invokevirtual 238, 3) := D_182 W_prog_1_method_16_code_32 18 rfl rfl rfl
theorem d_1_16_53 : decode prog_1_method_16_code 53 = .ok (.ireturn, 1) := D_172 W_prog_1_method_16_code_32 21 rfl rfl
theorem W_prog_1_method_24_code_0 : chW prog_1_method_24_code 0 [42, 180, 1, 15, 199, 0, 14, 42, 187, 1, 19, 89, 183, 1, 21, 181, 1, 15, 42, 180, 1, 15, 42, 180, 0, 14, 182, 1, 22, 60, 42, 180, 0, 14, 182, 0] := chW_of (by decide +kernel)
theorem d_1_24_0 : decode prog_1_method_24_code 0 = .ok (.aload_n 0, 1) := D_42 W_prog_1_method_24_code_0 0 rfl rfl
theorem d_1_24_1 : decode prog_1_method_24_code 1 = .ok (.getfield 271, 3) := D_180 W_prog_1_method_24_code_0 1 rfl rfl rfl
theorem d_1_24_4 : decode prog_1_method_24_code 4 = .ok (.ifnonnull 14, 3) := D_199 W_prog_1_method_24_code_0 4 rfl rfl rfl
theorem d_1_24_7 : decode prog_1_method_24_code 7 = .ok (.aload_n 0, 1) := D_42 W_prog_1_method_24_code_0 7 rfl rfl
theorem d_1_24_8 : decode prog_1_method_24_code 8 = .ok (.new 275, 3) := D_187 W_prog_1_method_24_code_0 8 rfl rfl rfl
theorem d_1_24_11 : decode prog_1_method_24_code 11 = .ok (.dup, 1) := D_89 W_prog_1_method_24_code_0 11 rfl rfl
theorem d_1_24_12 : decode prog_1_method_24_code 12 = .ok (.invokespecial 277, 3) := D_183 W_prog_1_method_24_code_0 12 rfl rfl rfl
theorem d_1_24_15 : decode prog_1_method_24_code 15 = .ok (.putfield 271, 3) := D_181 W_prog_1_method_24_code_0 15 rfl rfl rfl
theorem d_1_24_18 : decode prog_1_method_24_code 18 = .ok (.aload_n 0, 1) := D_42 W_prog_1_method_24_code_0 18 rfl rfl
theorem d_1_24_19 : decode prog_1_method_24_code 19 = .ok (.getfield 271, 3) := D_180 W_prog_1_method_24_code_0 19 rfl rfl rfl
theorem d_1_24_22 : decode prog_1_method_24_code 22 = .ok (.aload_n 0, 1) := D_42 W_prog_1_method_24_code_0 22 rfl rfl
theorem d_1_24_23 : decode prog_1_method_24_code 23 = .ok (.getfield 14, 3) := D_180 W_prog_1_method_24_code_0 23 rfl rfl rfl
theorem d_1_24_26 : decode prog_1_method_24_code 26 = .ok (.invokevirtual 278, 3) := D_182 W_prog_1_method_24_code_0 26 rfl rfl rfl
theorem d_1_24_29 : decode prog_1_method_24_code 29 = .ok (.istore_n 1, 1) := D_60 W_prog_1_method_24_code_0 29 rfl rfl
theorem d_1_24_30 : decode prog_1_method_24_code 30 = .ok (.aload_n 0, 1) := D_42 W_prog_1_method_24_code_0 30 rfl rfl
theorem d_1_24_31 : decode prog_1_method_24_code 31 = .ok (.getfield 14, 3) := D_180 W_prog_1_method_24_code_0 31 rfl rfl rfl
theorem W_prog_1_method_24_code_32 : chW prog_1_method_24_code 32 [0, 14, 182, 0, 92, 27, 153, 0, 5, 27, 172, 42, 180, 1, 26, 77, 42, 42, 180, 1, 15, 181, 1, 26, 42, 44, 181, 1, 15, 3, 172] := chW_of (by decide +kernel)
theorem d_1_24_34 : decode prog_1_method_24_code 34 = .ok (.invokevirtual 92, 3) := D_182 W_prog_1_method_24_code_32 2 rfl rfl rfl
theorem d_1_24_37 : decode prog_1_method_24_code 37 = .ok (.iload_n 1, 1) := D_27 W_prog_1_method_24_code_32 5 rfl rfl
theorem d_1_24_38 : decode prog_1_method_24_code 38 = .ok (.ifCond .eq 5, 3) := D_153 W_prog_1_method_24_code_32 6 rfl rfl rfl
theorem d_1_24_43 : decode prog_1_method_24_code 43 = .ok (.aload_n 0, 1) := D_42 W_prog_1_method_24_code_32 11 rfl rfl
theorem d_1_24_44 : decode prog_1_method_24_code 44 = .ok (.getfield 282, 3) := D_180 W_prog_1_method_24_code_32 12 rfl rfl rfl
theorem d_1_24_47 : decode prog_1_method_24_code 47 = .ok (.astore_n 2, 1) := D_77 W_prog_1_method_24_code_32 15 rfl rfl
theorem d_1_24_48 : decode prog_1_method_24_code 48 = .ok (.aload_n 0, 1) := D_42 W_prog_1_method_24_code_32 16 rfl rfl
theorem d_1_24_49 : decode prog_1_method_24_code 49 = .ok (.aload_n 0, 1) := D_42 W_prog_1_method_24_code_32 17 rfl rfl
theorem d_1_24_50 : decode prog_1_method_24_code 50 = .ok (.getfield 271, 3) := D_180 W_prog_1_method_24_code_32 18 rfl rfl rfl
theorem d_1_24_53 : decode prog_1_method_24_code 53 = .ok (.putfield 282, 3) := D_181 W_prog_1_method_24_code_32 21 rfl rfl rfl
theorem d_1_24_56 : decode prog_1_method_24_code 56 = .ok (.aload_n 0, 1) := D_42 W_prog_1_method_24_code_32 24 rfl rfl
theorem d_1_24_57 : decode prog_1_method_24_code 57 = .ok (.aload_n 2, 1) := D_44 W_prog_1_method_24_code_32 25 rfl rfl
theorem d_1_24_58 : decode prog_1_method_24_code 58 = .ok (.putfield 271, 3) := D_181 W_prog_1_method_24_code_32 26 rfl rfl rfl
theorem d_1_24_61 : decode prog_1_method_24_code 61 = .ok (.iconst 0, 1) := D_3 W_prog_1_method_24_code_32 29 rfl rfl
theorem d_1_24_62 : decode prog_1_method_24_code 62 = .ok (.ireturn, 1) := D_172 W_prog_1_method_24_code_32 30 rfl rfl
theorem d_1_24_41 : decode prog_1_method_24_code 41 = .ok (.iload_n 1, 1) := D_27 W_prog_1_method_24_code_32 9 rfl rfl
theorem d_1_24_42 : decode prog_1_method_24_code 42 = .ok (.ireturn, 1) := D_172 W_prog_1_method_24_code_32 10 rfl rfl
abbrev Q_Piece_newPart (K : zK) (D : va_G) (ca : Nat → ClassId) (ad : Nat → Int → Nat → Nat) (r : Int) (F : zF) (B : zB) (K9 : zK) (A : Nat → Prop) : Array Value → State → Outcome → State → Prop := va_Qq (S := (Nat → Int → Nat → Nat) × List Nat) (fun p u => p = zrf u.1 4 r ∧ zG ad K.2 u.1 K9.2) (fun u => zPo D ca u.1 lnC K9.2 u.2 F B A) A
def f_Piece_newPart_31 (K : zK) (l1 : Int) (l0 : Int) (F : zF) (B : zB) : zOm := if 0 ≤ l0 ∧ l0 < K.2 6 then if 0 ≤ l1 ∧ l1 < 4 then if 0 ≤ (B 6 l0 0 l1) ∧ (B 6 l0 0 l1) < K.2 4 then zbindN (f_Part_clear K (B 6 l0 0 l1) F B) (fun r13 F13 B13 => some (B13 6 l0 0 l1, (zup3 F13 6 l0 1 (l1 + 1)), B13, K)) else none else none else none
theorem m_Piece_newPart_31 {K : zK} {l1 : Int} {l0 : Int} {F : zF} {B : zB} {r : Int} {F9 : zF} {B9 : zB} {K9 : zK} (hf : f_Piece_newPart_31 K l1 l0 F B = some (r, F9, B9, K9)) : zKle K K9 := by
  replace hf : (if 0 ≤ l0 ∧ l0 < K.2 6 then if 0 ≤ l1 ∧ l1 < 4 then if 0 ≤ (B 6 l0 0 l1) ∧ (B 6 l0 0 l1) < K.2 4 then zbindN (f_Part_clear K (B 6 l0 0 l1) F B) (fun r13 F13 B13 => some (B13 6 l0 0 l1, (zup3 F13 6 l0 1 (l1 + 1)), B13, K)) else none else none else none) = some (r, F9, B9, K9) := hf
  obtain ⟨g10, hf⟩ := gif hf
  obtain ⟨g11, hf⟩ := gif hf
  obtain ⟨g12, hf⟩ := gif hf
  obtain ⟨r13, F13, B13, hc13, hf⟩ := gbindN hf
  cases hf
  exact zKle.rf

set_option maxHeartbeats 4000000 in
set_option maxRecDepth 100000 in
theorem b_Piece_newPart_31 {D : va_G} {ca : Nat → ClassId} {ad0 : Nat → Int → Nat → Nat} {aS vS : Nat → Nat} {A : Nat → Prop} {p : Program} {l : Launch} {e : Env} {s : State} {m : MethodId} {args : Array Value} {below : List Frame} {meth : Method} {c : Code} {K0 : zK} {r : Int} {F9 : zF} {B9 : zB} {K9 : zK} {K : zK} {l1 : Int} {l0 : Int} {F : zF} {B : zB} {ad : Nat → Int → Nat → Nat} {L : List Nat} {H : Heap} {locs : List Loc} {ls : Array Slot} : zX D ca L aS vS A p s m args meth c prog_8_method_3_code 2 (Option.some (Jvm.ClassFile.FieldType.object "StaveHouse$Part")) "StaveHouse$Piece" → zG ad0 K0.2 ad K.2 → f_Piece_newPart_31 K l1 l0 F B = some (r, F9, B9, K9) → zH D ca ad lnC K.2 L F B A H → va_S A s.heap H locs → lv_has ls 2 [(1, .int (iI l1)), (0, .ref (ad 6 l0 0))] → W p l e ({ frames := 3, cells := cwC K0 K9, slots := swC K0 K9, locals := 53 } : Room) s m args below meth c H locs (cwC K0 K) (swC K0 K) (MQ below (Q_Piece_newPart K0 D ca ad0 r F9 B9 K9 A) args s (cwC K0 K9) (swC K0 K9) A) (F0 m 31 ls []) := by
  intro X hG hf hZ hS hl
  obtain ⟨hx, hb, hr, hml, hown, hts, hlk, hK, hA, hL, hX⟩ := id X
  have hk0 := zroom0 (K0 := K0) (m_Piece_newPart_31 hf)
  replace hf : (if 0 ≤ l0 ∧ l0 < K.2 6 then if 0 ≤ l1 ∧ l1 < 4 then if 0 ≤ (B 6 l0 0 l1) ∧ (B 6 l0 0 l1) < K.2 4 then zbindN (f_Part_clear K (B 6 l0 0 l1) F B) (fun r13 F13 B13 => some (B13 6 l0 0 l1, (zup3 F13 6 l0 1 (l1 + 1)), B13, K)) else none else none else none) = some (r, F9, B9, K9) := hf
  refine lv_aload_n hx hb d_8_3_31 rfl (lv_at hl 1 rfl) ?_
  obtain ⟨g10, hf⟩ := gif hf
  refine zget (ci := 6) (C := RX6) (T := TX6) (v := .ref (ad 6 l0 (0 + 1))) (k := 0) hx hb hts inW_6 hown hK hZ g10.1 g10.2 rfl (by decide) k_2_185 rfl d_8_3_32 ?_
  refine lv_iload_n hx hb d_8_3_35 rfl (lv_at hl 0 rfl) ?_
  obtain ⟨g11, hf⟩ := gif hf
  refine zaldR (t := 4) (x := 6) (ci := 6) (k := 0) hx hb hK rfl rfl hZ g10.1 g10.2 rfl (Nat.le_of_ble_eq_true rfl) g11.1 g11.2 d_8_3_36 ?_
  obtain ⟨g12, hf⟩ := gif hf
  refine W.eq (g2 := F0 m 37 ls [.ref (ad 4 (B 6 l0 0 l1) 0)]) (by rw [zrf_pos (ad := ad) (t := 4) g12.1]; try rfl) ?_
  obtain ⟨r13, F13, B13, hc13, hf⟩ := gbindN hf
  refine va_callv (va_runV (As := []) (rest := []) ⟨hx, hb, hml, hown, hts⟩ (c_Part_clear (l := l) hc13) (cwV 0 hts (gdV k_4_181 k_4_182 k_4_183 k_1_18 k_4_184) rfl rfl rfl (by decide +kernel) ⟨Nat.le_of_ble_eq_true rfl, Nat.le_of_ble_eq_true rfl⟩) (zPV X hZ hS (ci := 4) g12.1 g12.2 (r := (RX4, TX4, 13)) rfl []) rfl rfl hl.1 rfl (lv_room (Nat.le_of_ble_eq_true rfl)) d_8_3_37 ⟨hk0.1, hk0.2⟩) hS (fun q _ h => zAin X hS q h) (zAin X hS) (fun u13 t13 H13 locs13 ht13 hv13 hw13 hB13 hz13 hk13 hS13 => ?_)
  have hZ13 := zBack X ht13 hB13
  refine lv_aload_n hx hb d_8_3_40 rfl (lv_at hl 1 rfl) ?_
  refine lv_iload_n hx hb d_8_3_41 rfl (lv_at hl 0 rfl) ?_
  refine lv_iconst (v := iI 1) hx hb d_8_3_42 rfl ?_
  refine zadd hx hb d_8_3_43 ?_
  refine zput (ci := 6) (C := RX6) (T := TX6) (k := 1) (v := (l1 + 1)) (w := .int (iI (l1 + 1))) hx hb hts inW_6 tyX6 tyX6_ok nmX6 hown hK hZ13 hS13 g10.1 g10.2 rfl (by decide) k_2_190 rfl (fun G h => congrArg (fun q => Value.int (iI q)) h) rfl rfl (zno (by decide)) d_8_3_44 (fun H14 locs14 hZ14 hS14 => ?_)
  refine lv_aload_n hx hb d_8_3_47 rfl (lv_at hl 1 rfl) ?_
  refine zget (ci := 6) (C := RX6) (T := TX6) (v := .ref (ad 6 l0 (0 + 1))) (k := 0) hx hb hts inW_6 hown hK hZ14 g10.1 g10.2 rfl (by decide) k_2_185 rfl d_8_3_48 ?_
  refine lv_iload_n hx hb d_8_3_51 rfl (lv_at hl 0 rfl) ?_
  refine zaldR (t := 4) (x := 6) (ci := 6) (k := 0) hx hb hK rfl rfl hZ14 g10.1 g10.2 rfl (Nat.le_of_ble_eq_true rfl) g11.1 g11.2 d_8_3_52 ?_
  cases hf
  exact W.aret hx hb hr (Or.inl ⟨_, rfl⟩) (va_rf_or _) (fun t ht hW => ⟨⟨_, (ad, L), rfl, ⟨rfl, hG⟩, by rw [ht]; exact hZ14, va_K.moved hW.alike hK⟩, hS14.F ht⟩) hS14.2.2 d_8_3_53 hlk

def f_Piece_newPart_30 (K : zK) (l1 : Int) (l0 : Int) (s0 : Int) (s1 : Int) (s2 : Int) (F : zF) (B : zB) : zOm := if 0 ≤ s2 ∧ s2 < K.2 4 then if 0 ≤ s0 ∧ s0 < K.2 6 then if 0 ≤ s1 ∧ s1 < 4 then f_Piece_newPart_31 K l1 l0 F (zup4 B 6 s0 0 s1 s2) else none else none else none
theorem m_Piece_newPart_30 {K : zK} {l1 : Int} {l0 : Int} {s0 : Int} {s1 : Int} {s2 : Int} {F : zF} {B : zB} {r : Int} {F9 : zF} {B9 : zB} {K9 : zK} (hf : f_Piece_newPart_30 K l1 l0 s0 s1 s2 F B = some (r, F9, B9, K9)) : zKle K K9 := by
  replace hf : (if 0 ≤ s2 ∧ s2 < K.2 4 then if 0 ≤ s0 ∧ s0 < K.2 6 then if 0 ≤ s1 ∧ s1 < 4 then f_Piece_newPart_31 K l1 l0 F (zup4 B 6 s0 0 s1 s2) else none else none else none) = some (r, F9, B9, K9) := hf
  obtain ⟨g6, hf⟩ := gif hf
  obtain ⟨g7, hf⟩ := gif hf
  obtain ⟨g8, hf⟩ := gif hf
  exact m_Piece_newPart_31 hf

set_option maxHeartbeats 4000000 in
set_option maxRecDepth 100000 in
theorem b_Piece_newPart_30 {D : va_G} {ca : Nat → ClassId} {ad0 : Nat → Int → Nat → Nat} {aS vS : Nat → Nat} {A : Nat → Prop} {p : Program} {l : Launch} {e : Env} {s : State} {m : MethodId} {args : Array Value} {below : List Frame} {meth : Method} {c : Code} {K0 : zK} {r : Int} {F9 : zF} {B9 : zB} {K9 : zK} {K : zK} {l1 : Int} {l0 : Int} {s0 : Int} {s1 : Int} {s2 : Int} {F : zF} {B : zB} {ad : Nat → Int → Nat → Nat} {L : List Nat} {H : Heap} {locs : List Loc} {ls : Array Slot} : zX D ca L aS vS A p s m args meth c prog_8_method_3_code 2 (Option.some (Jvm.ClassFile.FieldType.object "StaveHouse$Part")) "StaveHouse$Piece" → zG ad0 K0.2 ad K.2 → f_Piece_newPart_30 K l1 l0 s0 s1 s2 F B = some (r, F9, B9, K9) → zH D ca ad lnC K.2 L F B A H → va_S A s.heap H locs → lv_has ls 2 [(1, .int (iI l1)), (0, .ref (ad 6 l0 0))] → W p l e ({ frames := 3, cells := cwC K0 K9, slots := swC K0 K9, locals := 53 } : Room) s m args below meth c H locs (cwC K0 K) (swC K0 K) (MQ below (Q_Piece_newPart K0 D ca ad0 r F9 B9 K9 A) args s (cwC K0 K9) (swC K0 K9) A) (F0 m 30 ls [va_rf (zrf ad 4 s2), .int (iI s1), .ref (ad 6 s0 (0 + 1))]) := by
  intro X hG hf hZ hS hl
  obtain ⟨hx, hb, hr, hml, hown, hts, hlk, hK, hA, hL, hX⟩ := id X
  have hk0 := zroom0 (K0 := K0) (m_Piece_newPart_30 hf)
  replace hf : (if 0 ≤ s2 ∧ s2 < K.2 4 then if 0 ≤ s0 ∧ s0 < K.2 6 then if 0 ≤ s1 ∧ s1 < 4 then f_Piece_newPart_31 K l1 l0 F (zup4 B 6 s0 0 s1 s2) else none else none else none) = some (r, F9, B9, K9) := hf
  obtain ⟨g6, hf⟩ := gif hf
  refine W.eq (g2 := F0 m 30 ls [.ref (ad 4 s2 0), .int (iI s1), .ref (ad 6 s0 (0 + 1))]) (by rw [zrf_pos (ad := ad) (t := 4) g6.1]; try rfl) ?_
  obtain ⟨g7, hf⟩ := gif hf
  obtain ⟨g8, hf⟩ := gif hf
  refine zastR (t := 4) (x := 6) (r := (RX4, TX4, 13)) (ci := 6) (k := 0) hx hb hK rfl rfl rfl hZ hS g7.1 g7.2 rfl (Nat.le_of_ble_eq_true rfl) g6.1 g6.2 g8.1 g8.2 d_8_3_30 (fun H9 locs9 hZ9 hS9 => ?_)
  exact b_Piece_newPart_31 X hG hf hZ9 hS9 (lv_sub hl [0, 1] rfl)

def f_Piece_newPart (K : zK) (l0 : Int) (F : zF) (B : zB) : zOm := if 0 ≤ l0 ∧ l0 < K.2 6 then if r32 (F 6 l0 1) then if 0 ≤ (zmin (F 6 l0 1) 3) ∧ (zmin (F 6 l0 1) 3) < 4 then (if (B 6 l0 0 (zmin (F 6 l0 1) 3)) < 0 then zbindM (f_Part_init K F B) (fun r5 F5 B5 K5 => if 0 ≤ r5 ∧ r5 < K5.2 4 then f_Piece_newPart_30 K5 (zmin (F 6 l0 1) 3) l0 l0 (zmin (F 6 l0 1) 3) r5 F5 B5 else none) else f_Piece_newPart_31 K (zmin (F 6 l0 1) 3) l0 F B) else none else none else none
theorem m_Piece_newPart {K : zK} {l0 : Int} {F : zF} {B : zB} {r : Int} {F9 : zF} {B9 : zB} {K9 : zK} (hf : f_Piece_newPart K l0 F B = some (r, F9, B9, K9)) : zKle K K9 := by
  replace hf : (if 0 ≤ l0 ∧ l0 < K.2 6 then if r32 (F 6 l0 1) then if 0 ≤ (zmin (F 6 l0 1) 3) ∧ (zmin (F 6 l0 1) 3) < 4 then (if (B 6 l0 0 (zmin (F 6 l0 1) 3)) < 0 then zbindM (f_Part_init K F B) (fun r5 F5 B5 K5 => if 0 ≤ r5 ∧ r5 < K5.2 4 then f_Piece_newPart_30 K5 (zmin (F 6 l0 1) 3) l0 l0 (zmin (F 6 l0 1) 3) r5 F5 B5 else none) else f_Piece_newPart_31 K (zmin (F 6 l0 1) 3) l0 F B) else none else none else none) = some (r, F9, B9, K9) := hf
  obtain ⟨g1, hf⟩ := gif hf
  obtain ⟨g2, hf⟩ := gif hf
  obtain ⟨g3, hf⟩ := gif hf
  refine (Classical.em ((B 6 l0 0 (zmin (F 6 l0 1) 3)) < 0)).symm.elim (fun h4 => ?_) (fun h4 => ?_)
  · replace hf := gneg hf h4
    exact m_Piece_newPart_31 hf
  · replace hf := gpos hf h4
    obtain ⟨r5, F5, B5, K5, hc5, hf⟩ := gbindM hf
    obtain ⟨ha5, hf⟩ := gif hf
    exact (m_Part_init hc5).tr (m_Piece_newPart_30 hf)

set_option maxHeartbeats 4000000 in
set_option maxRecDepth 100000 in
theorem c_Piece_newPart {l : Launch} {D : va_G} {ca : Nat → ClassId} {ad : Nat → Int → Nat → Nat} {L : List Nat} {aS vS : Nat → Nat} {sz : Nat} {K : zK} {l0 : Int} {F : zF} {B : zB} {r : Int} {F9 : zF} {B9 : zB} {K9 : zK} (hf : f_Piece_newPart K l0 F B = some (r, F9, B9, K9)) : Met l ({ cls := "StaveHouse$Piece", name := "newPart", desc := "()LStaveHouse$Part;" } : Jvm.MethodName) (Cond.code ({ cls := "StaveHouse$Piece", name := "newPart", desc := "()LStaveHouse$Part;" } : Jvm.MethodName) prog_8_method_3_code 2 (Option.some (Jvm.ClassFile.FieldType.object "StaveHouse$Part")) :: wAll) ({ frames := 3, cells := cwC K K9, slots := swC K K9, locals := 53 } : Room) (va_Pc [.ref (ad 6 l0 0)] (zPre D ca ad lnC K.2 L aS vS F B sz)) (Q_Piece_newPart K D ca ad r F9 B9 K9 (zA L sz)) (cwC K K9) (swC K K9) (zA L sz) := by
  refine zMet (Qc := Q_Piece_newPart K D ca ad r F9 B9 K9) (lv := [(0, .ref (ad 6 l0 0))]) (by decide) (Nat.le_of_ble_eq_true rfl) rfl (fun A p e s m below meth c ls X hZ hS hl => ?_)
  obtain ⟨hx, hb, hr, hml, hown, hts, hlk, hK, hA, hL, hX⟩ := id X
  have hG : zG ad K.2 ad K.2 := zG.rf
  refine W.widen (k := cwC K K) (n := swC K K) (Nat.zero_le _) (Nat.zero_le _) ?_
  have hk0 := zroom0 (K0 := K) (m_Piece_newPart hf)
  replace hf : (if 0 ≤ l0 ∧ l0 < K.2 6 then if r32 (F 6 l0 1) then if 0 ≤ (zmin (F 6 l0 1) 3) ∧ (zmin (F 6 l0 1) 3) < 4 then (if (B 6 l0 0 (zmin (F 6 l0 1) 3)) < 0 then zbindM (f_Part_init K F B) (fun r5 F5 B5 K5 => if 0 ≤ r5 ∧ r5 < K5.2 4 then f_Piece_newPart_30 K5 (zmin (F 6 l0 1) 3) l0 l0 (zmin (F 6 l0 1) 3) r5 F5 B5 else none) else f_Piece_newPart_31 K (zmin (F 6 l0 1) 3) l0 F B) else none else none else none) = some (r, F9, B9, K9) := hf
  refine lv_aload_n hx hb d_8_3_0 rfl (lv_at hl 0 rfl) ?_
  obtain ⟨g1, hf⟩ := gif hf
  refine zget (ci := 6) (C := RX6) (T := TX6) (v := .int (iI (F 6 l0 1))) (k := 1) hx hb hts inW_6 hown hK hZ g1.1 g1.2 rfl (by decide) k_2_190 rfl d_8_3_1 ?_
  refine lv_iconst (v := iI 3) hx hb d_8_3_4 rfl ?_
  obtain ⟨g2, hf⟩ := gif hf
  refine va_mmin hx hb (by rw [hml]; exact hl.1.symm) hown (hts _ k_4_104) (hts _ k_3_97) (hts _ k_1_3) (hts _ k_3_98) (Nat.le_of_ble_eq_true rfl) (Nat.le_of_ble_eq_true rfl) hk0.1 hk0.2 d_8_3_5 ?_
  rw [zmin_e g2 (by decide)]
  refine lv_istore_n (lv' := [(1, .int (iI (zmin (F 6 l0 1) 3))), (0, .ref (ad 6 l0 0))]) hx hb d_8_3_8 rfl hl (by decide) rfl (fun ls hl => ?_)
  refine lv_aload_n hx hb d_8_3_9 rfl (lv_at hl 1 rfl) ?_
  refine zget (ci := 6) (C := RX6) (T := TX6) (v := .ref (ad 6 l0 (0 + 1))) (k := 0) hx hb hts inW_6 hown hK hZ g1.1 g1.2 rfl (by decide) k_2_185 rfl d_8_3_10 ?_
  refine lv_iload_n hx hb d_8_3_13 rfl (lv_at hl 0 rfl) ?_
  obtain ⟨g3, hf⟩ := gif hf
  refine zaldR (t := 4) (x := 6) (ci := 6) (k := 0) hx hb hK rfl rfl hZ g1.1 g1.2 rfl (Nat.le_of_ble_eq_true rfl) g3.1 g3.2 d_8_3_14 ?_
  refine zifnonnull (tgt := 31) hx hb d_8_3_15 (by decide) (fun h4 => ?_) (fun h4 => ?_)
  · replace hf := gneg hf h4
    exact b_Piece_newPart_31 X hG hf hZ hS (lv_sub hl [0, 1] rfl)
  · replace hf := gpos hf h4
    refine lv_aload_n hx hb d_8_3_18 rfl (lv_at hl 1 rfl) ?_
    refine zget (ci := 6) (C := RX6) (T := TX6) (v := .ref (ad 6 l0 (0 + 1))) (k := 0) hx hb hts inW_6 hown hK hZ g1.1 g1.2 rfl (by decide) k_2_185 rfl d_8_3_19 ?_
    refine lv_iload_n hx hb d_8_3_22 rfl (lv_at hl 0 rfl) ?_
    obtain ⟨r5, F5, B5, K5, hc5, hf⟩ := gbindM hf
    have hw5 := w_Part_init hc5
    obtain ⟨ha5, hf⟩ := gif hf
    have hm5 := m_Piece_newPart_30 hf
    have hr5 := zroom hG.1 hw5 hm5
    refine zxnew (C := RX4) (T := TX4) (n := 13) (ci := 4) hx hb hts inW_4 tyX4 tyX4_ok hown k_2_183 k_4_105 k_1_18 hK (zHx.of hZ) hS hA rfl (by have h := hr5.1; dsimp only; omega) (by have h := hr5.2.1; dsimp only; omega) d_8_3_23 (fun q5 Hn5 hZn5 hSn5 => ?_)
    refine lv_dup hx hb d_8_3_26 rfl ?_
    refine va_callv (va_runI (As := []) (rest := .ref q5 :: [.int (iI (zmin (F 6 l0 1) 3)), .ref (ad 6 l0 (0 + 1))]) ⟨hx, hb, hml, hown, hts⟩ (c_Part_init (l := l) hc5) (cwI 0 hts (gdC k_4_108) rfl rfl rfl (hts _ k_1_18) (hts _ k_4_106) (hts _ k_4_107) rfl (by decide +kernel) ⟨Nat.le_of_ble_eq_true rfl, Nat.le_of_ble_eq_true rfl⟩) (zxPS (X := []) X hZn5 hSn5 [.ref q5]) rfl rfl hl.1 rfl (lv_room (Nat.le_of_ble_eq_true rfl)) d_8_3_27 ⟨by have h := hr5.1; dsimp only; omega, by have h := hr5.2.1; dsimp only; omega⟩) hSn5 (fun x _ h => zxAin (X := []) X hZn5 hSn5 x h) (zxAin (X := []) X hZn5 hSn5) (fun u5 t5 H5 locs5 ht5 hv5 hu5 hB5 hz5 hk5 hS5 => ?_)
    obtain ⟨ad5, L5⟩ := u5
    obtain ⟨hg5, hq5⟩ := hu5
    have hZ5 := (zxback (X := []) hZn5 (zxAin (X := []) X hZn5 hSn5) hk5 ht5 hB5).to
    replace hq5 : ad5 4 r5 0 = q5 := hq5
    subst hq5
    refine W.widen (k := cwC K K5) (n := swC K K5) (by have h := hr5.2.2.1; omega) (by have h := hr5.2.2.2; omega) ?_
    have X5 := X.grow hZ5.inA
    have hG5 := hG.tr hg5
    have e5_0 : ad5 6 l0 0 = ad 6 l0 0 := hg5.2 6 l0 0 g1.1 g1.2
    have e5_1 : ad5 6 l0 (0 + 1) = ad 6 l0 (0 + 1) := hg5.2 6 l0 (0 + 1) g1.1 g1.2
    have hl : lv_has ls 2 [(1, .int (iI (zmin (F 6 l0 1) 3))), (0, .ref (ad5 6 l0 0))] := by have h := lv_sub hl [0, 1] rfl; simp only [e5_0, e5_1]; exact h
    refine W.eq (g2 := F0 m 30 ls [.ref (ad5 4 r5 0), .int (iI (zmin (F 6 l0 1) 3)), .ref (ad5 6 l0 (0 + 1))]) (by simp only [e5_0, e5_1]) ?_
    refine W.eq (g2 := F0 m 30 ls [va_rf (zrf ad5 4 r5), .int (iI (zmin (F 6 l0 1) 3)), .ref (ad5 6 l0 (0 + 1))]) (by rw [zrf_pos (ad := ad5) (t := 4) ha5.1]; try rfl) ?_
    exact b_Piece_newPart_30 X5 hG5 hf hZ5 hS5 (lv_sub hl [0, 1] rfl)

abbrev Q_Parser_takeVoice (K : zK) (D : va_G) (ca : Nat → ClassId) (ad : Nat → Int → Nat → Nat) (r : Int) (F : zF) (B : zB) (K9 : zK) (A : Nat → Prop) : Array Value → State → Outcome → State → Prop := va_Qi (S := (Nat → Int → Nat → Nat) × List Nat) (fun p u => p = iI r ∧ zG ad K.2 u.1 K9.2) (fun u => zPo D ca u.1 lnC K9.2 u.2 F B A) A
def f_Parser_takeVoice_121 (K : zK) (l5 : Int) (l3 : Int) (l2 : Int) (l0 : Int) (s0 : Int) (F : zF) (B : zB) : zOm := if 0 ≤ s0 ∧ s0 < K.2 4 then if 0 ≤ l0 ∧ l0 < K.2 3 then if 0 ≤ l2 ∧ l2 < 3000 then zbindN (f_Parser_takeBlock K l0 l2 (zup3 (zup3 (zup3 (zup3 (zup3 (zup3 F 4 s0 0 l3) 4 s0 1 l5) 4 s0 2 (F 3 l0 19)) 4 s0 3 (B 3 l0 1 l2)) 4 s0 4 l2) 3 l0 20 32) B) (fun r46 F46 B46 => if (r46 = 0 ∨ r46 = 1) then some (r46, F46, B46, K) else none) else none else none else none
theorem m_Parser_takeVoice_121 {K : zK} {l5 : Int} {l3 : Int} {l2 : Int} {l0 : Int} {s0 : Int} {F : zF} {B : zB} {r : Int} {F9 : zF} {B9 : zB} {K9 : zK} (hf : f_Parser_takeVoice_121 K l5 l3 l2 l0 s0 F B = some (r, F9, B9, K9)) : zKle K K9 := by
  replace hf : (if 0 ≤ s0 ∧ s0 < K.2 4 then if 0 ≤ l0 ∧ l0 < K.2 3 then if 0 ≤ l2 ∧ l2 < 3000 then zbindN (f_Parser_takeBlock K l0 l2 (zup3 (zup3 (zup3 (zup3 (zup3 (zup3 F 4 s0 0 l3) 4 s0 1 l5) 4 s0 2 (F 3 l0 19)) 4 s0 3 (B 3 l0 1 l2)) 4 s0 4 l2) 3 l0 20 32) B) (fun r46 F46 B46 => if (r46 = 0 ∨ r46 = 1) then some (r46, F46, B46, K) else none) else none else none else none) = some (r, F9, B9, K9) := hf
  obtain ⟨g37, hf⟩ := gif hf
  obtain ⟨g40, hf⟩ := gif hf
  obtain ⟨g42, hf⟩ := gif hf
  obtain ⟨r46, F46, B46, hc46, hf⟩ := gbindN hf
  obtain ⟨g47, hf⟩ := gif hf
  cases hf
  exact zKle.rf

set_option maxHeartbeats 4000000 in
set_option maxRecDepth 100000 in
theorem b_Parser_takeVoice_121 {D : va_G} {ca : Nat → ClassId} {ad0 : Nat → Int → Nat → Nat} {aS vS : Nat → Nat} {A : Nat → Prop} {p : Program} {l : Launch} {e : Env} {s : State} {m : MethodId} {args : Array Value} {below : List Frame} {meth : Method} {c : Code} {K0 : zK} {r : Int} {F9 : zF} {B9 : zB} {K9 : zK} {K : zK} {l5 : Int} {l3 : Int} {l2 : Int} {l0 : Int} {s0 : Int} {F : zF} {B : zB} {ad : Nat → Int → Nat → Nat} {L : List Nat} {H : Heap} {locs : List Loc} {ls : Array Slot} : zX D ca L aS vS A p s m args meth c prog_5_method_11_code 7 (Option.some Jvm.ClassFile.FieldType.boolean) "StaveHouse$Parser" → zG ad0 K0.2 ad K.2 → f_Parser_takeVoice_121 K l5 l3 l2 l0 s0 F B = some (r, F9, B9, K9) → zH D ca ad lnC K.2 L F B A H → va_S A s.heap H locs → lv_has ls 7 [(5, .int (iI l5)), (3, .long (lI l3)), (2, .int (iI l2)), (0, .ref (ad 3 l0 0))] → W p l e ({ frames := 68, cells := cwC K0 K9, slots := swC K0 K9, locals := 1657 } : Room) s m args below meth c H locs (cwC K0 K) (swC K0 K) (MQ below (Q_Parser_takeVoice K0 D ca ad0 r F9 B9 K9 A) args s (cwC K0 K9) (swC K0 K9) A) (F0 m 121 ls [va_rf (zrf ad 4 s0)]) := by
  intro X hG hf hZ hS hl
  obtain ⟨hx, hb, hr, hml, hown, hts, hlk, hK, hA, hL, hX⟩ := id X
  have hk0 := zroom0 (K0 := K0) (m_Parser_takeVoice_121 hf)
  replace hf : (if 0 ≤ s0 ∧ s0 < K.2 4 then if 0 ≤ l0 ∧ l0 < K.2 3 then if 0 ≤ l2 ∧ l2 < 3000 then zbindN (f_Parser_takeBlock K l0 l2 (zup3 (zup3 (zup3 (zup3 (zup3 (zup3 F 4 s0 0 l3) 4 s0 1 l5) 4 s0 2 (F 3 l0 19)) 4 s0 3 (B 3 l0 1 l2)) 4 s0 4 l2) 3 l0 20 32) B) (fun r46 F46 B46 => if (r46 = 0 ∨ r46 = 1) then some (r46, F46, B46, K) else none) else none else none else none) = some (r, F9, B9, K9) := hf
  refine zastore (lv' := [(5, .int (iI l5)), (3, .long (lI l3)), (2, .int (iI l2)), (0, .ref (ad 3 l0 0))]) hx hb d_5_11_121 hl (by decide) (fun _ _ => rfl) (fun ls hl => ?_)
  refine zaload hx hb d_5_11_123 (lv_at hl 0 rfl) ?_
  refine lv_lload_n hx hb d_5_11_125 rfl (lv_at hl 2 rfl) ?_
  obtain ⟨g37, hf⟩ := gif hf
  refine W.eq (g2 := F0 m 126 ls [.long (lI l3), .ref (ad 4 s0 0)]) (by rw [zrf_pos (ad := ad) (t := 4) g37.1]; try rfl) ?_
  refine zput (ci := 4) (C := RX4) (T := TX4) (k := 0) (v := l3) (w := .long (lI l3)) hx hb hts inW_4 tyX4 tyX4_ok nmX4 hown hK hZ hS g37.1 g37.2 rfl (by decide) k_4_116 rfl (fun G h => congrArg (fun q => Value.long (lI q)) h) rfl rfl (zno (by decide)) d_5_11_126 (fun H38 locs38 hZ38 hS38 => ?_)
  refine zaload hx hb d_5_11_129 (lv_at hl 0 rfl) ?_
  refine lv_iload hx hb d_5_11_131 (lv_at hl 1 rfl) ?_
  refine W.eq (g2 := F0 m 133 ls [.int (iI l5), .ref (ad 4 s0 0)]) (by rw [zrf_pos (ad := ad) (t := 4) g37.1]; try rfl) ?_
  refine zput (ci := 4) (C := RX4) (T := TX4) (k := 1) (v := l5) (w := .int (iI l5)) hx hb hts inW_4 tyX4 tyX4_ok nmX4 hown hK hZ38 hS38 g37.1 g37.2 rfl (by decide) k_4_120 rfl (fun G h => congrArg (fun q => Value.int (iI q)) h) rfl rfl (zno (by decide)) d_5_11_133 (fun H39 locs39 hZ39 hS39 => ?_)
  refine zaload hx hb d_5_11_136 (lv_at hl 0 rfl) ?_
  refine lv_aload_n hx hb d_5_11_138 rfl (lv_at hl 4 rfl) ?_
  obtain ⟨g40, hf⟩ := gif hf
  refine zget (ci := 3) (C := RX3) (T := TX3) (v := .int (iI (F 3 l0 19))) (k := 19) hx hb hts inW_3 hown hK hZ39 g40.1 g40.2 rfl (by decide) k_1_136 (congrArg (fun q : Int => Value.int (iI q)) (show (zup3 (zup3 F 4 s0 0 l3) 4 s0 1 l5) 3 l0 19 = F 3 l0 19 by simp [zup3])) d_5_11_139 ?_
  refine W.eq (g2 := F0 m 142 ls [.int (iI (F 3 l0 19)), .ref (ad 4 s0 0)]) (by rw [zrf_pos (ad := ad) (t := 4) g37.1]; try rfl) ?_
  refine zput (ci := 4) (C := RX4) (T := TX4) (k := 2) (v := (F 3 l0 19)) (w := .int (iI (F 3 l0 19))) hx hb hts inW_4 tyX4 tyX4_ok nmX4 hown hK hZ39 hS39 g37.1 g37.2 rfl (by decide) k_4_123 rfl (fun G h => congrArg (fun q => Value.int (iI q)) h) rfl rfl (zno (by decide)) d_5_11_142 (fun H41 locs41 hZ41 hS41 => ?_)
  refine zaload hx hb d_5_11_145 (lv_at hl 0 rfl) ?_
  refine lv_aload_n hx hb d_5_11_147 rfl (lv_at hl 4 rfl) ?_
  refine zget (ci := 3) (C := RX3) (T := TX3) (v := .ref (ad 3 l0 (1 + 1))) (k := 1) hx hb hts inW_3 hown hK hZ41 g40.1 g40.2 rfl (by decide) k_1_108 rfl d_5_11_148 ?_
  refine lv_iload_n hx hb d_5_11_151 rfl (lv_at hl 3 rfl) ?_
  obtain ⟨g42, hf⟩ := gif hf
  refine zald (ci := 3) (k := 1) hx hb hK rfl hZ41 g40.1 g40.2 rfl (Nat.le_of_ble_eq_true rfl) g42.1 g42.2 d_5_11_152 ?_
  refine W.eq (g2 := F0 m 153 ls [.int (iI (B 3 l0 1 l2)), .ref (ad 4 s0 0)]) (by rw [zrf_pos (ad := ad) (t := 4) g37.1]; try rfl) ?_
  refine zput (ci := 4) (C := RX4) (T := TX4) (k := 3) (v := (B 3 l0 1 l2)) (w := .int (iI (B 3 l0 1 l2))) hx hb hts inW_4 tyX4 tyX4_ok nmX4 hown hK hZ41 hS41 g37.1 g37.2 rfl (by decide) k_4_127 rfl (fun G h => congrArg (fun q => Value.int (iI q)) h) rfl rfl (zno (by decide)) d_5_11_153 (fun H43 locs43 hZ43 hS43 => ?_)
  refine zaload hx hb d_5_11_156 (lv_at hl 0 rfl) ?_
  refine lv_iload_n hx hb d_5_11_158 rfl (lv_at hl 3 rfl) ?_
  refine W.eq (g2 := F0 m 159 ls [.int (iI l2), .ref (ad 4 s0 0)]) (by rw [zrf_pos (ad := ad) (t := 4) g37.1]; try rfl) ?_
  refine zput (ci := 4) (C := RX4) (T := TX4) (k := 4) (v := l2) (w := .int (iI l2)) hx hb hts inW_4 tyX4 tyX4_ok nmX4 hown hK hZ43 hS43 g37.1 g37.2 rfl (by decide) k_4_129 rfl (fun G h => congrArg (fun q => Value.int (iI q)) h) rfl rfl (zno (by decide)) d_5_11_159 (fun H44 locs44 hZ44 hS44 => ?_)
  refine lv_aload_n hx hb d_5_11_162 rfl (lv_at hl 4 rfl) ?_
  refine lv_bipush (v := iI 32) hx hb d_5_11_163 (by decide) ?_
  refine zput (ci := 3) (C := RX3) (T := TX3) (k := 20) (v := 32) (w := .int (iI 32)) hx hb hts inW_3 tyX3 tyX3_ok nmX3 hown hK hZ44 hS44 g40.1 g40.2 rfl (by decide) k_1_137 rfl (fun G h => congrArg (fun q => Value.int (iI q)) h) rfl rfl (zno (by decide)) d_5_11_165 (fun H45 locs45 hZ45 hS45 => ?_)
  refine lv_aload_n hx hb d_5_11_168 rfl (lv_at hl 4 rfl) ?_
  refine lv_iload_n hx hb d_5_11_169 rfl (lv_at hl 3 rfl) ?_
  obtain ⟨r46, F46, B46, hc46, hf⟩ := gbindN hf
  refine va_calli (va_runV (As := [.int (iI l2)]) (rest := []) ⟨hx, hb, hml, hown, hts⟩ (c_Parser_takeBlock (l := l) hc46) (cwV 1 hts (gdV k_3_212 k_3_214 ks_10 k_1_4 k_3_215) rfl rfl rfl (by decide +kernel) ⟨Nat.le_of_ble_eq_true rfl, Nat.le_of_ble_eq_true rfl⟩) (zPV X hZ45 hS45 (ci := 3) g40.1 g40.2 (r := (RX3, TX3, 22)) rfl [.int (iI l2)]) rfl rfl hl.1 rfl (lv_room (Nat.le_of_ble_eq_true rfl)) d_5_11_170 ⟨hk0.1, hk0.2⟩) hS45 (fun q _ h => zAin X hS45 q h) (zAin X hS45) (fun p46 u46 t46 H46 locs46 ht46 hv46 hw46 hB46 hz46 hk46 hS46 => ?_)
  have hZ46 := zBack X ht46 hB46
  subst hw46
  obtain ⟨g47, hf⟩ := gif hf
  cases hf
  exact W.zret hx hb hr (zbool g47) (fun t ht hW => ⟨⟨_, (ad, L), rfl, ⟨rfl, hG⟩, by rw [ht]; exact hZ46, va_K.moved hW.alike hK⟩, hS46.F ht⟩) hS46.2.2 d_5_11_173 hlk

def f_Parser_takeVoice_84 (K : zK) (l3 : Int) (l2 : Int) (l0 : Int) (l1 : Int) (s0 : Int) (F : zF) (B : zB) : zOm := if r32 s0 then (if s0 = (-1) then if 0 ≤ l0 ∧ l0 < K.2 3 then zbindN (f_Parser_refuse K l0 2 F B) (fun r35 F35 B35 => if (r35 = 0 ∨ r35 = 1) then some (r35, F35, B35, K) else none) else none else if 0 ≤ l0 ∧ l0 < K.2 3 then if 0 ≤ (F 3 l0 11) ∧ (F 3 l0 11) < K.2 10 then zbindN (f_Tokens_advance K (F 3 l0 11) F B) (fun r27 F27 B27 => zbindN (f_Parser_takeNumber K l0 0 3 0 F27 B27) (fun r28 F28 B28 => if r32 r28 then (if r28 = 0 then some (0, F28, B28, K) else if 0 ≤ l1 ∧ l1 < K.2 6 then zbindM (f_Piece_newPart K l1 F28 B28) (fun r33 F33 B33 K33 => f_Parser_takeVoice_121 K33 s0 l3 l2 l0 r33 F33 B33) else none) else none)) else none else none) else none
theorem m_Parser_takeVoice_84 {K : zK} {l3 : Int} {l2 : Int} {l0 : Int} {l1 : Int} {s0 : Int} {F : zF} {B : zB} {r : Int} {F9 : zF} {B9 : zB} {K9 : zK} (hf : f_Parser_takeVoice_84 K l3 l2 l0 l1 s0 F B = some (r, F9, B9, K9)) : zKle K K9 := by
  replace hf : (if r32 s0 then (if s0 = (-1) then if 0 ≤ l0 ∧ l0 < K.2 3 then zbindN (f_Parser_refuse K l0 2 F B) (fun r35 F35 B35 => if (r35 = 0 ∨ r35 = 1) then some (r35, F35, B35, K) else none) else none else if 0 ≤ l0 ∧ l0 < K.2 3 then if 0 ≤ (F 3 l0 11) ∧ (F 3 l0 11) < K.2 10 then zbindN (f_Tokens_advance K (F 3 l0 11) F B) (fun r27 F27 B27 => zbindN (f_Parser_takeNumber K l0 0 3 0 F27 B27) (fun r28 F28 B28 => if r32 r28 then (if r28 = 0 then some (0, F28, B28, K) else if 0 ≤ l1 ∧ l1 < K.2 6 then zbindM (f_Piece_newPart K l1 F28 B28) (fun r33 F33 B33 K33 => f_Parser_takeVoice_121 K33 s0 l3 l2 l0 r33 F33 B33) else none) else none)) else none else none) else none) = some (r, F9, B9, K9) := hf
  obtain ⟨g23, hf⟩ := gif hf
  refine (Classical.em (s0 = (-1))).symm.elim (fun h24 => ?_) (fun h24 => ?_)
  · replace hf := gneg hf h24
    obtain ⟨g25, hf⟩ := gif hf
    obtain ⟨g26, hf⟩ := gif hf
    obtain ⟨r27, F27, B27, hc27, hf⟩ := gbindN hf
    obtain ⟨r28, F28, B28, hc28, hf⟩ := gbindN hf
    obtain ⟨g29, hf⟩ := gif hf
    refine (Classical.em (r28 = 0)).symm.elim (fun h30 => ?_) (fun h30 => ?_)
    · replace hf := gneg hf h30
      obtain ⟨g31, hf⟩ := gif hf
      obtain ⟨r33, F33, B33, K33, hc33, hf⟩ := gbindM hf
      exact (m_Piece_newPart hc33).tr (m_Parser_takeVoice_121 hf)
    · replace hf := gpos hf h30
      cases hf
      exact zKle.rf
  · replace hf := gpos hf h24
    obtain ⟨g34, hf⟩ := gif hf
    obtain ⟨r35, F35, B35, hc35, hf⟩ := gbindN hf
    obtain ⟨g36, hf⟩ := gif hf
    cases hf
    exact zKle.rf

set_option maxHeartbeats 4000000 in
set_option maxRecDepth 100000 in
theorem b_Parser_takeVoice_84 {D : va_G} {ca : Nat → ClassId} {ad0 : Nat → Int → Nat → Nat} {aS vS : Nat → Nat} {A : Nat → Prop} {p : Program} {l : Launch} {e : Env} {s : State} {m : MethodId} {args : Array Value} {below : List Frame} {meth : Method} {c : Code} {K0 : zK} {r : Int} {F9 : zF} {B9 : zB} {K9 : zK} {K : zK} {l3 : Int} {l2 : Int} {l0 : Int} {l1 : Int} {s0 : Int} {F : zF} {B : zB} {ad : Nat → Int → Nat → Nat} {L : List Nat} {H : Heap} {locs : List Loc} {ls : Array Slot} : zX D ca L aS vS A p s m args meth c prog_5_method_11_code 7 (Option.some Jvm.ClassFile.FieldType.boolean) "StaveHouse$Parser" → zG ad0 K0.2 ad K.2 → f_Parser_takeVoice_84 K l3 l2 l0 l1 s0 F B = some (r, F9, B9, K9) → zH D ca ad lnC K.2 L F B A H → va_S A s.heap H locs → lv_has ls 7 [(3, .long (lI l3)), (2, .int (iI l2)), (0, .ref (ad 3 l0 0)), (1, .ref (ad 6 l1 0))] → W p l e ({ frames := 68, cells := cwC K0 K9, slots := swC K0 K9, locals := 1657 } : Room) s m args below meth c H locs (cwC K0 K) (swC K0 K) (MQ below (Q_Parser_takeVoice K0 D ca ad0 r F9 B9 K9 A) args s (cwC K0 K9) (swC K0 K9) A) (F0 m 84 ls [.int (iI s0)]) := by
  intro X hG hf hZ hS hl
  obtain ⟨hx, hb, hr, hml, hown, hts, hlk, hK, hA, hL, hX⟩ := id X
  have hk0 := zroom0 (K0 := K0) (m_Parser_takeVoice_84 hf)
  replace hf : (if r32 s0 then (if s0 = (-1) then if 0 ≤ l0 ∧ l0 < K.2 3 then zbindN (f_Parser_refuse K l0 2 F B) (fun r35 F35 B35 => if (r35 = 0 ∨ r35 = 1) then some (r35, F35, B35, K) else none) else none else if 0 ≤ l0 ∧ l0 < K.2 3 then if 0 ≤ (F 3 l0 11) ∧ (F 3 l0 11) < K.2 10 then zbindN (f_Tokens_advance K (F 3 l0 11) F B) (fun r27 F27 B27 => zbindN (f_Parser_takeNumber K l0 0 3 0 F27 B27) (fun r28 F28 B28 => if r32 r28 then (if r28 = 0 then some (0, F28, B28, K) else if 0 ≤ l1 ∧ l1 < K.2 6 then zbindM (f_Piece_newPart K l1 F28 B28) (fun r33 F33 B33 K33 => f_Parser_takeVoice_121 K33 s0 l3 l2 l0 r33 F33 B33) else none) else none)) else none else none) else none) = some (r, F9, B9, K9) := hf
  refine lv_istore (lv' := [(5, .int (iI s0)), (3, .long (lI l3)), (2, .int (iI l2)), (0, .ref (ad 3 l0 0)), (1, .ref (ad 6 l1 0))]) hx hb d_5_11_84 hl (by decide) rfl (fun ls hl => ?_)
  refine lv_iload hx hb d_5_11_86 (lv_at hl 0 rfl) ?_
  refine lv_iconst (v := iI (-1)) hx hb d_5_11_88 rfl ?_
  obtain ⟨g23, hf⟩ := gif hf
  refine zne (tgt := 98) hx hb g23 (by decide) d_5_11_89 (by decide) (fun h24 => ?_) (fun h24 => ?_)
  · replace hf := gneg hf h24
    refine lv_aload_n hx hb d_5_11_98 rfl (lv_at hl 3 rfl) ?_
    obtain ⟨g25, hf⟩ := gif hf
    refine zget (ci := 3) (C := RX3) (T := TX3) (v := va_rf (zrf ad 10 (F 3 l0 11))) (k := 11) hx hb hts inW_3 hown hK hZ g25.1 g25.2 rfl (by decide) k_1_128 rfl d_5_11_99 ?_
    obtain ⟨g26, hf⟩ := gif hf
    refine W.eq (g2 := F0 m 102 ls [.ref (ad 10 (F 3 l0 11) 0)]) (by rw [zrf_pos (ad := ad) (t := 10) g26.1]; try rfl) ?_
    obtain ⟨r27, F27, B27, hc27, hf⟩ := gbindN hf
    refine va_callv (va_runV (As := []) (rest := []) ⟨hx, hb, hml, hown, hts⟩ (c_Tokens_advance (l := l) hc27) (cwV 0 hts (gdV k_3_180 k_3_152 k_3_153 k_1_5 k_3_154) rfl rfl rfl (by decide +kernel) ⟨Nat.le_of_ble_eq_true rfl, Nat.le_of_ble_eq_true rfl⟩) (zPV X hZ hS (ci := 10) g26.1 g26.2 (r := (RX10, TX10, 9)) rfl []) rfl rfl hl.1 rfl (lv_room (Nat.le_of_ble_eq_true rfl)) d_5_11_102 ⟨hk0.1, hk0.2⟩) hS (fun q _ h => zAin X hS q h) (zAin X hS) (fun u27 t27 H27 locs27 ht27 hv27 hw27 hB27 hz27 hk27 hS27 => ?_)
    have hZ27 := zBack X ht27 hB27
    refine lv_aload_n hx hb d_5_11_105 rfl (lv_at hl 3 rfl) ?_
    refine lv_iconst (v := iI 0) hx hb d_5_11_106 rfl ?_
    refine lv_iconst (v := iI 3) hx hb d_5_11_107 rfl ?_
    refine lv_iconst (v := iI 0) hx hb d_5_11_108 rfl ?_
    obtain ⟨r28, F28, B28, hc28, hf⟩ := gbindN hf
    refine va_calli (va_runV (As := [.int (iI 0), .int (iI 3), .int (iI 0)]) (rest := []) ⟨hx, hb, hml, hown, hts⟩ (c_Parser_takeNumber (l := l) hc28) (cwV 3 hts (gdV k_4_9 k_4_11 ks_19 k_1_4 k_4_12) rfl rfl rfl (by decide +kernel) ⟨Nat.le_of_ble_eq_true rfl, Nat.le_of_ble_eq_true rfl⟩) (zPV X hZ27 hS27 (ci := 3) g25.1 g25.2 (r := (RX3, TX3, 22)) rfl [.int (iI 0), .int (iI 3), .int (iI 0)]) rfl rfl hl.1 rfl (lv_room (Nat.le_of_ble_eq_true rfl)) d_5_11_109 ⟨hk0.1, hk0.2⟩) hS27 (fun q _ h => zAin X hS27 q h) (zAin X hS27) (fun p28 u28 t28 H28 locs28 ht28 hv28 hw28 hB28 hz28 hk28 hS28 => ?_)
    have hZ28 := zBack X ht28 hB28
    subst hw28
    obtain ⟨g29, hf⟩ := gif hf
    refine z0ne (tgt := 117) hx hb g29 d_5_11_112 (by decide) (fun h30 => ?_) (fun h30 => ?_)
    · replace hf := gneg hf h30
      refine lv_aload_n hx hb d_5_11_117 rfl (lv_at hl 4 rfl) ?_
      obtain ⟨g31, hf⟩ := gif hf
      obtain ⟨r33, F33, B33, K33, hc33, hf⟩ := gbindM hf
      have hm33 := m_Parser_takeVoice_121 hf
      have hn33 := m_Piece_newPart hc33
      have hr33 := zroomC hG.1 hn33 hm33
      refine va_callq (va_runV (As := []) (rest := []) ⟨hx, hb, hml, hown, hts⟩ (c_Piece_newPart (l := l) hc33) (cwV 0 hts (gdV k_4_100 k_4_101 k_4_102 k_1_15 k_4_103) rfl rfl rfl (by decide +kernel) ⟨Nat.le_of_ble_eq_true rfl, Nat.le_of_ble_eq_true rfl⟩) (zPV X hZ28 hS28 (ci := 6) g31.1 g31.2 (r := (RX6, TX6, 14)) rfl []) rfl rfl hl.1 rfl (lv_room (Nat.le_of_ble_eq_true rfl)) d_5_11_118 ⟨hr33.1, hr33.2.1⟩) hS28 (fun q _ h => zAin X hS28 q h) (zAin X hS28) (fun p33 u33 t33 H33 locs33 ht33 hv33 hw33 hB33 hz33 hk33 hS33 => ?_)
      obtain ⟨ad33, L33⟩ := u33
      obtain ⟨hw33, hg33⟩ := hw33
      subst hw33
      have hZ33 := zBackM X hS28 ht33 hB33
      refine W.widen (k := cwC K0 K33) (n := swC K0 K33) (Nat.le_of_eq hr33.2.2.1) (Nat.le_of_eq hr33.2.2.2) ?_
      have X33 := X.grow hZ33.inA
      have hG33 := hG.tr hg33
      have e33_0 : ad33 3 l0 0 = ad 3 l0 0 := hg33.2 3 l0 0 g25.1 g25.2
      have hl : lv_has ls 7 [(5, .int (iI s0)), (3, .long (lI l3)), (2, .int (iI l2)), (0, .ref (ad33 3 l0 0))] := by have h := lv_sub hl [0, 1, 2, 3] rfl; simp only [e33_0]; exact h
      exact b_Parser_takeVoice_121 X33 hG33 hf hZ33 hS33 (lv_sub hl [0, 1, 2, 3] rfl)
    · replace hf := gpos hf h30
      refine lv_iconst (v := iI 0) hx hb d_5_11_115 rfl ?_
      cases hf
      exact W.zret hx hb hr rfl (fun t ht hW => ⟨⟨_, (ad, L), rfl, ⟨rfl, hG⟩, by rw [ht]; exact hZ28, va_K.moved hW.alike hK⟩, hS28.F ht⟩) hS28.2.2 d_5_11_116 hlk
  · replace hf := gpos hf h24
    refine lv_aload_n hx hb d_5_11_92 rfl (lv_at hl 3 rfl) ?_
    refine lv_iconst (v := iI 2) hx hb d_5_11_93 rfl ?_
    obtain ⟨g34, hf⟩ := gif hf
    obtain ⟨r35, F35, B35, hc35, hf⟩ := gbindN hf
    refine va_calli (va_runV (As := [.int (iI 2)]) (rest := []) ⟨hx, hb, hml, hown, hts⟩ (c_Parser_refuse (l := l) hc35) (cwV 1 hts (gdV k_3_196 k_3_198 ks_7 k_1_4 k_3_199) rfl rfl rfl (by decide +kernel) ⟨Nat.le_of_ble_eq_true rfl, Nat.le_of_ble_eq_true rfl⟩) (zPV X hZ hS (ci := 3) g34.1 g34.2 (r := (RX3, TX3, 22)) rfl [.int (iI 2)]) rfl rfl hl.1 rfl (lv_room (Nat.le_of_ble_eq_true rfl)) d_5_11_94 ⟨hk0.1, hk0.2⟩) hS (fun q _ h => zAin X hS q h) (zAin X hS) (fun p35 u35 t35 H35 locs35 ht35 hv35 hw35 hB35 hz35 hk35 hS35 => ?_)
    have hZ35 := zBack X ht35 hB35
    subst hw35
    obtain ⟨g36, hf⟩ := gif hf
    cases hf
    exact W.zret hx hb hr (zbool g36) (fun t ht hW => ⟨⟨_, (ad, L), rfl, ⟨rfl, hG⟩, by rw [ht]; exact hZ35, va_K.moved hW.alike hK⟩, hS35.F ht⟩) hS35.2.2 d_5_11_97 hlk

def f_Parser_takeVoice (K : zK) (l0 : Int) (l1 : Int) (F : zF) (B : zB) : zOm := if 0 ≤ l0 ∧ l0 < K.2 3 then zbindN (f_Parser_newItem K l0 10 F B) (fun r2 F2 B2 => if 0 ≤ (F2 3 l0 11) ∧ (F2 3 l0 11) < K.2 10 then zbindN (f_Tokens_advance K (F2 3 l0 11) F2 B2) (fun r4 F4 B4 => zbindN (f_Parser_isName K l0 F4 B4) (fun r5 F5 B5 => if r32 r5 then (if r5 = 0 then zbindN (f_Parser_refuse K l0 2 F5 B5) (fun r21 F21 B21 => if (r21 = 0 ∨ r21 = 1) then some (r21, F21, B21, K) else none) else if 0 ≤ (F5 3 l0 11) ∧ (F5 3 l0 11) < K.2 10 then if 0 ≤ l1 ∧ l1 < K.2 6 then zbindN (f_Piece_hasPartNamed K l1 (F5 10 (F5 3 l0 11) 2) F5 B5) (fun r10 F10 B10 => if r32 r10 then (if r10 = 0 then if 0 ≤ (F10 3 l0 11) ∧ (F10 3 l0 11) < K.2 10 then zbindN (f_Tokens_advance K (F10 3 l0 11) F10 B10) (fun r14 F14 B14 => if 0 ≤ (F14 3 l0 11) ∧ (F14 3 l0 11) < K.2 10 then if r32 (F14 10 (F14 3 l0 11) 0) then (if (F14 10 (F14 3 l0 11) 0) = 4 then zbindN (f_Parser_indexOf K 0 (F14 10 (F14 3 l0 11) 2) F14 B14) (fun r18 F18 B18 => f_Parser_takeVoice_84 K (F5 10 (F5 3 l0 11) 2) r2 l0 l1 r18 F18 B18) else f_Parser_takeVoice_84 K (F5 10 (F5 3 l0 11) 2) r2 l0 l1 (-1) F14 B14) else none else none) else none else zbindN (f_Parser_refuse K l0 4 F10 B10) (fun r19 F19 B19 => if (r19 = 0 ∨ r19 = 1) then some (r19, F19, B19, K) else none)) else none) else none else none) else none)) else none) else none
theorem m_Parser_takeVoice {K : zK} {l0 : Int} {l1 : Int} {F : zF} {B : zB} {r : Int} {F9 : zF} {B9 : zB} {K9 : zK} (hf : f_Parser_takeVoice K l0 l1 F B = some (r, F9, B9, K9)) : zKle K K9 := by
  replace hf : (if 0 ≤ l0 ∧ l0 < K.2 3 then zbindN (f_Parser_newItem K l0 10 F B) (fun r2 F2 B2 => if 0 ≤ (F2 3 l0 11) ∧ (F2 3 l0 11) < K.2 10 then zbindN (f_Tokens_advance K (F2 3 l0 11) F2 B2) (fun r4 F4 B4 => zbindN (f_Parser_isName K l0 F4 B4) (fun r5 F5 B5 => if r32 r5 then (if r5 = 0 then zbindN (f_Parser_refuse K l0 2 F5 B5) (fun r21 F21 B21 => if (r21 = 0 ∨ r21 = 1) then some (r21, F21, B21, K) else none) else if 0 ≤ (F5 3 l0 11) ∧ (F5 3 l0 11) < K.2 10 then if 0 ≤ l1 ∧ l1 < K.2 6 then zbindN (f_Piece_hasPartNamed K l1 (F5 10 (F5 3 l0 11) 2) F5 B5) (fun r10 F10 B10 => if r32 r10 then (if r10 = 0 then if 0 ≤ (F10 3 l0 11) ∧ (F10 3 l0 11) < K.2 10 then zbindN (f_Tokens_advance K (F10 3 l0 11) F10 B10) (fun r14 F14 B14 => if 0 ≤ (F14 3 l0 11) ∧ (F14 3 l0 11) < K.2 10 then if r32 (F14 10 (F14 3 l0 11) 0) then (if (F14 10 (F14 3 l0 11) 0) = 4 then zbindN (f_Parser_indexOf K 0 (F14 10 (F14 3 l0 11) 2) F14 B14) (fun r18 F18 B18 => f_Parser_takeVoice_84 K (F5 10 (F5 3 l0 11) 2) r2 l0 l1 r18 F18 B18) else f_Parser_takeVoice_84 K (F5 10 (F5 3 l0 11) 2) r2 l0 l1 (-1) F14 B14) else none else none) else none else zbindN (f_Parser_refuse K l0 4 F10 B10) (fun r19 F19 B19 => if (r19 = 0 ∨ r19 = 1) then some (r19, F19, B19, K) else none)) else none) else none else none) else none)) else none) else none) = some (r, F9, B9, K9) := hf
  obtain ⟨g1, hf⟩ := gif hf
  obtain ⟨r2, F2, B2, hc2, hf⟩ := gbindN hf
  obtain ⟨g3, hf⟩ := gif hf
  obtain ⟨r4, F4, B4, hc4, hf⟩ := gbindN hf
  obtain ⟨r5, F5, B5, hc5, hf⟩ := gbindN hf
  obtain ⟨g6, hf⟩ := gif hf
  refine (Classical.em (r5 = 0)).symm.elim (fun h7 => ?_) (fun h7 => ?_)
  · replace hf := gneg hf h7
    obtain ⟨g8, hf⟩ := gif hf
    obtain ⟨g9, hf⟩ := gif hf
    obtain ⟨r10, F10, B10, hc10, hf⟩ := gbindN hf
    obtain ⟨g11, hf⟩ := gif hf
    refine (Classical.em (r10 = 0)).elim (fun h12 => ?_) (fun h12 => ?_)
    · replace hf := gpos hf h12
      obtain ⟨g13, hf⟩ := gif hf
      obtain ⟨r14, F14, B14, hc14, hf⟩ := gbindN hf
      obtain ⟨g15, hf⟩ := gif hf
      obtain ⟨g16, hf⟩ := gif hf
      refine (Classical.em ((F14 10 (F14 3 l0 11) 0) = 4)).symm.elim (fun h17 => ?_) (fun h17 => ?_)
      · replace hf := gneg hf h17
        exact m_Parser_takeVoice_84 hf
      · replace hf := gpos hf h17
        obtain ⟨r18, F18, B18, hc18, hf⟩ := gbindN hf
        exact m_Parser_takeVoice_84 hf
    · replace hf := gneg hf h12
      obtain ⟨r19, F19, B19, hc19, hf⟩ := gbindN hf
      obtain ⟨g20, hf⟩ := gif hf
      cases hf
      exact zKle.rf
  · replace hf := gpos hf h7
    obtain ⟨r21, F21, B21, hc21, hf⟩ := gbindN hf
    obtain ⟨g22, hf⟩ := gif hf
    cases hf
    exact zKle.rf

set_option maxHeartbeats 4000000 in
set_option maxRecDepth 100000 in
theorem c_Parser_takeVoice {l : Launch} {D : va_G} {ca : Nat → ClassId} {ad : Nat → Int → Nat → Nat} {L : List Nat} {aS vS : Nat → Nat} {sz : Nat} {K : zK} {l0 : Int} {l1 : Int} {F : zF} {B : zB} {r : Int} {F9 : zF} {B9 : zB} {K9 : zK} (hf : f_Parser_takeVoice K l0 l1 F B = some (r, F9, B9, K9)) : Met l ({ cls := "StaveHouse$Parser", name := "takeVoice", desc := "(LStaveHouse$Piece;)Z" } : Jvm.MethodName) (Cond.code ({ cls := "StaveHouse$Parser", name := "takeVoice", desc := "(LStaveHouse$Piece;)Z" } : Jvm.MethodName) prog_5_method_11_code 7 (Option.some Jvm.ClassFile.FieldType.boolean) :: wAll) ({ frames := 68, cells := cwC K K9, slots := swC K K9, locals := 1657 } : Room) (va_Pc [.ref (ad 3 l0 0), .ref (ad 6 l1 0)] (zPre D ca ad lnC K.2 L aS vS F B sz)) (Q_Parser_takeVoice K D ca ad r F9 B9 K9 (zA L sz)) (cwC K K9) (swC K K9) (zA L sz) := by
  refine zMet (Qc := Q_Parser_takeVoice K D ca ad r F9 B9 K9) (lv := [(0, .ref (ad 3 l0 0)), (1, .ref (ad 6 l1 0))]) (by decide) (Nat.le_of_ble_eq_true rfl) rfl (fun A p e s m below meth c ls X hZ hS hl => ?_)
  obtain ⟨hx, hb, hr, hml, hown, hts, hlk, hK, hA, hL, hX⟩ := id X
  have hG : zG ad K.2 ad K.2 := zG.rf
  refine W.widen (k := cwC K K) (n := swC K K) (Nat.zero_le _) (Nat.zero_le _) ?_
  have hk0 := zroom0 (K0 := K) (m_Parser_takeVoice hf)
  replace hf : (if 0 ≤ l0 ∧ l0 < K.2 3 then zbindN (f_Parser_newItem K l0 10 F B) (fun r2 F2 B2 => if 0 ≤ (F2 3 l0 11) ∧ (F2 3 l0 11) < K.2 10 then zbindN (f_Tokens_advance K (F2 3 l0 11) F2 B2) (fun r4 F4 B4 => zbindN (f_Parser_isName K l0 F4 B4) (fun r5 F5 B5 => if r32 r5 then (if r5 = 0 then zbindN (f_Parser_refuse K l0 2 F5 B5) (fun r21 F21 B21 => if (r21 = 0 ∨ r21 = 1) then some (r21, F21, B21, K) else none) else if 0 ≤ (F5 3 l0 11) ∧ (F5 3 l0 11) < K.2 10 then if 0 ≤ l1 ∧ l1 < K.2 6 then zbindN (f_Piece_hasPartNamed K l1 (F5 10 (F5 3 l0 11) 2) F5 B5) (fun r10 F10 B10 => if r32 r10 then (if r10 = 0 then if 0 ≤ (F10 3 l0 11) ∧ (F10 3 l0 11) < K.2 10 then zbindN (f_Tokens_advance K (F10 3 l0 11) F10 B10) (fun r14 F14 B14 => if 0 ≤ (F14 3 l0 11) ∧ (F14 3 l0 11) < K.2 10 then if r32 (F14 10 (F14 3 l0 11) 0) then (if (F14 10 (F14 3 l0 11) 0) = 4 then zbindN (f_Parser_indexOf K 0 (F14 10 (F14 3 l0 11) 2) F14 B14) (fun r18 F18 B18 => f_Parser_takeVoice_84 K (F5 10 (F5 3 l0 11) 2) r2 l0 l1 r18 F18 B18) else f_Parser_takeVoice_84 K (F5 10 (F5 3 l0 11) 2) r2 l0 l1 (-1) F14 B14) else none else none) else none else zbindN (f_Parser_refuse K l0 4 F10 B10) (fun r19 F19 B19 => if (r19 = 0 ∨ r19 = 1) then some (r19, F19, B19, K) else none)) else none) else none else none) else none)) else none) else none) = some (r, F9, B9, K9) := hf
  refine lv_aload_n hx hb d_5_11_0 rfl (lv_at hl 0 rfl) ?_
  refine lv_bipush (v := iI 10) hx hb d_5_11_1 (by decide) ?_
  obtain ⟨g1, hf⟩ := gif hf
  obtain ⟨r2, F2, B2, hc2, hf⟩ := gbindN hf
  refine va_calli (va_runV (As := [.int (iI 10)]) (rest := []) ⟨hx, hb, hml, hown, hts⟩ (c_Parser_newItem (l := l) hc2) (cwV 1 hts (gdV k_3_175 k_3_177 ks_5 k_1_4 k_3_178) rfl rfl rfl (by decide +kernel) ⟨Nat.le_of_ble_eq_true rfl, Nat.le_of_ble_eq_true rfl⟩) (zPV X hZ hS (ci := 3) g1.1 g1.2 (r := (RX3, TX3, 22)) rfl [.int (iI 10)]) rfl rfl hl.1 rfl (lv_room (Nat.le_of_ble_eq_true rfl)) d_5_11_3 ⟨hk0.1, hk0.2⟩) hS (fun q _ h => zAin X hS q h) (zAin X hS) (fun p2 u2 t2 H2 locs2 ht2 hv2 hw2 hB2 hz2 hk2 hS2 => ?_)
  have hZ2 := zBack X ht2 hB2
  subst hw2
  refine lv_istore_n (lv' := [(2, .int (iI r2)), (0, .ref (ad 3 l0 0)), (1, .ref (ad 6 l1 0))]) hx hb d_5_11_6 rfl hl (by decide) rfl (fun ls hl => ?_)
  refine lv_aload_n hx hb d_5_11_7 rfl (lv_at hl 1 rfl) ?_
  refine zget (ci := 3) (C := RX3) (T := TX3) (v := va_rf (zrf ad 10 (F2 3 l0 11))) (k := 11) hx hb hts inW_3 hown hK hZ2 g1.1 g1.2 rfl (by decide) k_1_128 rfl d_5_11_8 ?_
  obtain ⟨g3, hf⟩ := gif hf
  refine W.eq (g2 := F0 m 11 ls [.ref (ad 10 (F2 3 l0 11) 0)]) (by rw [zrf_pos (ad := ad) (t := 10) g3.1]; try rfl) ?_
  obtain ⟨r4, F4, B4, hc4, hf⟩ := gbindN hf
  refine va_callv (va_runV (As := []) (rest := []) ⟨hx, hb, hml, hown, hts⟩ (c_Tokens_advance (l := l) hc4) (cwV 0 hts (gdV k_3_180 k_3_152 k_3_153 k_1_5 k_3_154) rfl rfl rfl (by decide +kernel) ⟨Nat.le_of_ble_eq_true rfl, Nat.le_of_ble_eq_true rfl⟩) (zPV X hZ2 hS2 (ci := 10) g3.1 g3.2 (r := (RX10, TX10, 9)) rfl []) rfl rfl hl.1 rfl (lv_room (Nat.le_of_ble_eq_true rfl)) d_5_11_11 ⟨hk0.1, hk0.2⟩) hS2 (fun q _ h => zAin X hS2 q h) (zAin X hS2) (fun u4 t4 H4 locs4 ht4 hv4 hw4 hB4 hz4 hk4 hS4 => ?_)
  have hZ4 := zBack X ht4 hB4
  refine lv_aload_n hx hb d_5_11_14 rfl (lv_at hl 1 rfl) ?_
  obtain ⟨r5, F5, B5, hc5, hf⟩ := gbindN hf
  refine va_calli (va_runV (As := []) (rest := []) ⟨hx, hb, hml, hown, hts⟩ (c_Parser_isName (l := l) hc5) (cwV 0 hts (gdV k_3_181 k_3_183 ks_6 k_1_4 k_3_184) rfl rfl rfl (by decide +kernel) ⟨Nat.le_of_ble_eq_true rfl, Nat.le_of_ble_eq_true rfl⟩) (zPV X hZ4 hS4 (ci := 3) g1.1 g1.2 (r := (RX3, TX3, 22)) rfl []) rfl rfl hl.1 rfl (lv_room (Nat.le_of_ble_eq_true rfl)) d_5_11_15 ⟨hk0.1, hk0.2⟩) hS4 (fun q _ h => zAin X hS4 q h) (zAin X hS4) (fun p5 u5 t5 H5 locs5 ht5 hv5 hw5 hB5 hz5 hk5 hS5 => ?_)
  have hZ5 := zBack X ht5 hB5
  subst hw5
  obtain ⟨g6, hf⟩ := gif hf
  refine z0ne (tgt := 27) hx hb g6 d_5_11_18 (by decide) (fun h7 => ?_) (fun h7 => ?_)
  · replace hf := gneg hf h7
    refine lv_aload_n hx hb d_5_11_27 rfl (lv_at hl 1 rfl) ?_
    refine zget (ci := 3) (C := RX3) (T := TX3) (v := va_rf (zrf ad 10 (F5 3 l0 11))) (k := 11) hx hb hts inW_3 hown hK hZ5 g1.1 g1.2 rfl (by decide) k_1_128 rfl d_5_11_28 ?_
    obtain ⟨g8, hf⟩ := gif hf
    refine zunrf g8.1 ?_
    refine zget (ci := 10) (C := RX10) (T := TX10) (v := .long (lI (F5 10 (F5 3 l0 11) 2))) (k := 2) hx hb hts inW_10 hown hK hZ5 g8.1 g8.2 rfl (by decide) k_1_77 rfl d_5_11_31 ?_
    refine lv_lstore_n (lv' := [(3, .long (lI (F5 10 (F5 3 l0 11) 2))), (2, .int (iI r2)), (0, .ref (ad 3 l0 0)), (1, .ref (ad 6 l1 0))]) hx hb d_5_11_34 rfl hl (by decide) rfl (fun ls hl => ?_)
    refine lv_aload_n hx hb d_5_11_35 rfl (lv_at hl 3 rfl) ?_
    refine lv_lload_n hx hb d_5_11_36 rfl (lv_at hl 0 rfl) ?_
    obtain ⟨g9, hf⟩ := gif hf
    obtain ⟨r10, F10, B10, hc10, hf⟩ := gbindN hf
    refine va_calli (va_runV (As := [.long (lI (F5 10 (F5 3 l0 11) 2))]) (rest := []) ⟨hx, hb, hml, hown, hts⟩ (c_Piece_hasPartNamed (l := l) hc10) (cwV 1 hts (gdV k_4_96 k_4_97 k_4_98 k_1_15 k_4_99) rfl rfl rfl (by decide +kernel) ⟨Nat.le_of_ble_eq_true rfl, Nat.le_of_ble_eq_true rfl⟩) (zPV X hZ5 hS5 (ci := 6) g9.1 g9.2 (r := (RX6, TX6, 14)) rfl [.long (lI (F5 10 (F5 3 l0 11) 2))]) rfl rfl hl.1 rfl (lv_room (Nat.le_of_ble_eq_true rfl)) d_5_11_37 ⟨hk0.1, hk0.2⟩) hS5 (fun q _ h => zAin X hS5 q h) (zAin X hS5) (fun p10 u10 t10 H10 locs10 ht10 hv10 hw10 hB10 hz10 hk10 hS10 => ?_)
    have hZ10 := zBack X ht10 hB10
    subst hw10
    obtain ⟨g11, hf⟩ := gif hf
    refine z0eq (tgt := 49) hx hb g11 d_5_11_40 (by decide) (fun h12 => ?_) (fun h12 => ?_)
    · replace hf := gpos hf h12
      refine lv_aload_n hx hb d_5_11_49 rfl (lv_at hl 2 rfl) ?_
      refine zget (ci := 3) (C := RX3) (T := TX3) (v := va_rf (zrf ad 10 (F10 3 l0 11))) (k := 11) hx hb hts inW_3 hown hK hZ10 g1.1 g1.2 rfl (by decide) k_1_128 rfl d_5_11_50 ?_
      obtain ⟨g13, hf⟩ := gif hf
      refine W.eq (g2 := F0 m 53 ls [.ref (ad 10 (F10 3 l0 11) 0)]) (by rw [zrf_pos (ad := ad) (t := 10) g13.1]; try rfl) ?_
      obtain ⟨r14, F14, B14, hc14, hf⟩ := gbindN hf
      refine va_callv (va_runV (As := []) (rest := []) ⟨hx, hb, hml, hown, hts⟩ (c_Tokens_advance (l := l) hc14) (cwV 0 hts (gdV k_3_180 k_3_152 k_3_153 k_1_5 k_3_154) rfl rfl rfl (by decide +kernel) ⟨Nat.le_of_ble_eq_true rfl, Nat.le_of_ble_eq_true rfl⟩) (zPV X hZ10 hS10 (ci := 10) g13.1 g13.2 (r := (RX10, TX10, 9)) rfl []) rfl rfl hl.1 rfl (lv_room (Nat.le_of_ble_eq_true rfl)) d_5_11_53 ⟨hk0.1, hk0.2⟩) hS10 (fun q _ h => zAin X hS10 q h) (zAin X hS10) (fun u14 t14 H14 locs14 ht14 hv14 hw14 hB14 hz14 hk14 hS14 => ?_)
      have hZ14 := zBack X ht14 hB14
      refine lv_aload_n hx hb d_5_11_56 rfl (lv_at hl 2 rfl) ?_
      refine zget (ci := 3) (C := RX3) (T := TX3) (v := va_rf (zrf ad 10 (F14 3 l0 11))) (k := 11) hx hb hts inW_3 hown hK hZ14 g1.1 g1.2 rfl (by decide) k_1_128 rfl d_5_11_57 ?_
      obtain ⟨g15, hf⟩ := gif hf
      refine zunrf g15.1 ?_
      refine zget (ci := 10) (C := RX10) (T := TX10) (v := .int (iI (F14 10 (F14 3 l0 11) 0))) (k := 0) hx hb hts inW_10 hown hK hZ14 g15.1 g15.2 rfl (by decide) k_1_72 rfl d_5_11_60 ?_
      refine lv_iconst (v := iI 4) hx hb d_5_11_63 rfl ?_
      obtain ⟨g16, hf⟩ := gif hf
      refine zne (tgt := 83) hx hb g16 (by decide) d_5_11_64 (by decide) (fun h17 => ?_) (fun h17 => ?_)
      · replace hf := gneg hf h17
        refine lv_iconst (v := iI (-1)) hx hb d_5_11_83 rfl ?_
        exact b_Parser_takeVoice_84 X hG hf hZ14 hS14 (lv_sub hl [0, 1, 2, 3] rfl)
      · replace hf := gpos hf h17
        refine va_gets hx hb (hX.2.2.2.2.2.2 0 _ rfl).1 hS14 hown (hts _ k_3_185) (fun _ h => h) d_5_11_67 ?_
        refine W.eq (g2 := F0 m 70 ls [.ref (vS (1000 + 0))]) rfl ?_
        refine lv_aload_n hx hb d_5_11_70 rfl (lv_at hl 2 rfl) ?_
        refine zget (ci := 3) (C := RX3) (T := TX3) (v := va_rf (zrf ad 10 (F14 3 l0 11))) (k := 11) hx hb hts inW_3 hown hK hZ14 g1.1 g1.2 rfl (by decide) k_1_128 rfl d_5_11_71 ?_
        refine zunrf g15.1 ?_
        refine zget (ci := 10) (C := RX10) (T := TX10) (v := .long (lI (F14 10 (F14 3 l0 11) 2))) (k := 2) hx hb hts inW_10 hown hK hZ14 g15.1 g15.2 rfl (by decide) k_1_77 rfl d_5_11_74 ?_
        obtain ⟨r18, F18, B18, hc18, hf⟩ := gbindN hf
        refine va_calli (va_runS (As := [.ref (vS (1000 + 0)), .long (lI (F14 10 (F14 3 l0 11) 2))]) (rest := []) ⟨hx, hb, hml, hown, hts⟩ (c_Parser_indexOf (l := l) hc18) (va_cwS 2 hts (gdS k_3_187 k_3_188 k_1_4 k_3_189) rfl rfl rfl (by decide +kernel) ⟨Nat.le_of_ble_eq_true rfl, Nat.le_of_ble_eq_true rfl⟩) (zPS X hZ14 hS14 [.ref (vS (1000 + 0)), .long (lI (F14 10 (F14 3 l0 11) 2))]) rfl rfl hl.1 rfl (lv_room (Nat.le_of_ble_eq_true rfl)) d_5_11_77 ⟨hk0.1, hk0.2⟩) hS14 (fun q _ h => zAin X hS14 q h) (zAin X hS14) (fun p18 u18 t18 H18 locs18 ht18 hv18 hw18 hB18 hz18 hk18 hS18 => ?_)
        have hZ18 := zBack X ht18 hB18
        subst hw18
        refine lv_goto (tgt := 84) hx hb d_5_11_80 (by decide) ?_
        exact b_Parser_takeVoice_84 X hG hf hZ18 hS18 (lv_sub hl [0, 1, 2, 3] rfl)
    · replace hf := gneg hf h12
      refine lv_aload_n hx hb d_5_11_43 rfl (lv_at hl 2 rfl) ?_
      refine lv_iconst (v := iI 4) hx hb d_5_11_44 rfl ?_
      obtain ⟨r19, F19, B19, hc19, hf⟩ := gbindN hf
      refine va_calli (va_runV (As := [.int (iI 4)]) (rest := []) ⟨hx, hb, hml, hown, hts⟩ (c_Parser_refuse (l := l) hc19) (cwV 1 hts (gdV k_3_196 k_3_198 ks_7 k_1_4 k_3_199) rfl rfl rfl (by decide +kernel) ⟨Nat.le_of_ble_eq_true rfl, Nat.le_of_ble_eq_true rfl⟩) (zPV X hZ10 hS10 (ci := 3) g1.1 g1.2 (r := (RX3, TX3, 22)) rfl [.int (iI 4)]) rfl rfl hl.1 rfl (lv_room (Nat.le_of_ble_eq_true rfl)) d_5_11_45 ⟨hk0.1, hk0.2⟩) hS10 (fun q _ h => zAin X hS10 q h) (zAin X hS10) (fun p19 u19 t19 H19 locs19 ht19 hv19 hw19 hB19 hz19 hk19 hS19 => ?_)
      have hZ19 := zBack X ht19 hB19
      subst hw19
      obtain ⟨g20, hf⟩ := gif hf
      cases hf
      exact W.zret hx hb hr (zbool g20) (fun t ht hW => ⟨⟨_, (ad, L), rfl, ⟨rfl, hG⟩, by rw [ht]; exact hZ19, va_K.moved hW.alike hK⟩, hS19.F ht⟩) hS19.2.2 d_5_11_48 hlk
  · replace hf := gpos hf h7
    refine lv_aload_n hx hb d_5_11_21 rfl (lv_at hl 1 rfl) ?_
    refine lv_iconst (v := iI 2) hx hb d_5_11_22 rfl ?_
    obtain ⟨r21, F21, B21, hc21, hf⟩ := gbindN hf
    refine va_calli (va_runV (As := [.int (iI 2)]) (rest := []) ⟨hx, hb, hml, hown, hts⟩ (c_Parser_refuse (l := l) hc21) (cwV 1 hts (gdV k_3_196 k_3_198 ks_7 k_1_4 k_3_199) rfl rfl rfl (by decide +kernel) ⟨Nat.le_of_ble_eq_true rfl, Nat.le_of_ble_eq_true rfl⟩) (zPV X hZ5 hS5 (ci := 3) g1.1 g1.2 (r := (RX3, TX3, 22)) rfl [.int (iI 2)]) rfl rfl hl.1 rfl (lv_room (Nat.le_of_ble_eq_true rfl)) d_5_11_23 ⟨hk0.1, hk0.2⟩) hS5 (fun q _ h => zAin X hS5 q h) (zAin X hS5) (fun p21 u21 t21 H21 locs21 ht21 hv21 hw21 hB21 hz21 hk21 hS21 => ?_)
    have hZ21 := zBack X ht21 hB21
    subst hw21
    obtain ⟨g22, hf⟩ := gif hf
    cases hf
    exact W.zret hx hb hr (zbool g22) (fun t ht hW => ⟨⟨_, (ad, L), rfl, ⟨rfl, hG⟩, by rw [ht]; exact hZ21, va_K.moved hW.alike hK⟩, hS21.F ht⟩) hS21.2.2 d_5_11_26 hlk

abbrev Q_Parser_parse (K : zK) (D : va_G) (ca : Nat → ClassId) (ad : Nat → Int → Nat → Nat) (r : Int) (F : zF) (B : zB) (K9 : zK) (A : Nat → Prop) : Array Value → State → Outcome → State → Prop := va_Qi (S := (Nat → Int → Nat → Nat) × List Nat) (fun p u => p = iI r ∧ zG ad K.2 u.1 K9.2) (fun u => zPo D ca u.1 lnC K9.2 u.2 F B A) A
def f_Parser_parse_174 (K : zK) (l0 : Int) (F : zF) (B : zB) : zOm := if 0 ≤ l0 ∧ l0 < K.2 3 then some (F 3 l0 21, F, B, K) else none
theorem m_Parser_parse_174 {K : zK} {l0 : Int} {F : zF} {B : zB} {r : Int} {F9 : zF} {B9 : zB} {K9 : zK} (hf : f_Parser_parse_174 K l0 F B = some (r, F9, B9, K9)) : zKle K K9 := by
  replace hf : (if 0 ≤ l0 ∧ l0 < K.2 3 then some (F 3 l0 21, F, B, K) else none) = some (r, F9, B9, K9) := hf
  obtain ⟨g51, hf⟩ := gif hf
  cases hf
  exact zKle.rf

set_option maxHeartbeats 4000000 in
set_option maxRecDepth 100000 in
theorem b_Parser_parse_174 {D : va_G} {ca : Nat → ClassId} {ad0 : Nat → Int → Nat → Nat} {aS vS : Nat → Nat} {A : Nat → Prop} {p : Program} {l : Launch} {e : Env} {s : State} {m : MethodId} {args : Array Value} {below : List Frame} {meth : Method} {c : Code} {K0 : zK} {r : Int} {F9 : zF} {B9 : zB} {K9 : zK} {K : zK} {l0 : Int} {F : zF} {B : zB} {ad : Nat → Int → Nat → Nat} {L : List Nat} {H : Heap} {locs : List Loc} {ls : Array Slot} : zX D ca L aS vS A p s m args meth c prog_5_method_2_code 5 (Option.some Jvm.ClassFile.FieldType.int) "StaveHouse$Parser" → zG ad0 K0.2 ad K.2 → f_Parser_parse_174 K l0 F B = some (r, F9, B9, K9) → zH D ca ad lnC K.2 L F B A H → va_S A s.heap H locs → lv_has ls 5 [(0, .ref (ad 3 l0 0))] → W p l e ({ frames := 69, cells := cwC K0 K9, slots := swC K0 K9, locals := 1683 } : Room) s m args below meth c H locs (cwC K0 K) (swC K0 K) (MQ below (Q_Parser_parse K0 D ca ad0 r F9 B9 K9 A) args s (cwC K0 K9) (swC K0 K9) A) (F0 m 174 ls []) := by
  intro X hG hf hZ hS hl
  obtain ⟨hx, hb, hr, hml, hown, hts, hlk, hK, hA, hL, hX⟩ := id X
  have hk0 := zroom0 (K0 := K0) (m_Parser_parse_174 hf)
  replace hf : (if 0 ≤ l0 ∧ l0 < K.2 3 then some (F 3 l0 21, F, B, K) else none) = some (r, F9, B9, K9) := hf
  refine lv_aload_n hx hb d_5_2_174 rfl (lv_at hl 0 rfl) ?_
  obtain ⟨g51, hf⟩ := gif hf
  refine zget (ci := 3) (C := RX3) (T := TX3) (v := .int (iI (F 3 l0 21))) (k := 21) hx hb hts inW_3 hown hK hZ g51.1 g51.2 rfl (by decide) k_1_138 rfl d_5_2_175 ?_
  cases hf
  exact W.iret hx hb hr (fun t ht hW => ⟨⟨_, (ad, L), rfl, ⟨rfl, hG⟩, by rw [ht]; exact hZ, va_K.moved hW.alike hK⟩, hS.F ht⟩) hS.2.2 d_5_2_178 hlk

def f_Parser_parse_154 (K : zK) (l3 : Int) (l0 : Int) (F : zF) (B : zB) : zOm := if r32 l3 then (if l3 = 0 then f_Parser_parse_174 K l0 F B else if 0 ≤ l0 ∧ l0 < K.2 3 then if 0 ≤ (F 3 l0 11) ∧ (F 3 l0 11) < K.2 10 then if r32 (F 10 (F 3 l0 11) 0) then (if (F 10 (F 3 l0 11) 0) = 0 then f_Parser_parse_174 K l0 F B else zbindN (f_Parser_refuse K l0 2 F B) (fun r50 F50 B50 => f_Parser_parse_174 K l0 F50 B50)) else none else none else none) else none
theorem m_Parser_parse_154 {K : zK} {l3 : Int} {l0 : Int} {F : zF} {B : zB} {r : Int} {F9 : zF} {B9 : zB} {K9 : zK} (hf : f_Parser_parse_154 K l3 l0 F B = some (r, F9, B9, K9)) : zKle K K9 := by
  replace hf : (if r32 l3 then (if l3 = 0 then f_Parser_parse_174 K l0 F B else if 0 ≤ l0 ∧ l0 < K.2 3 then if 0 ≤ (F 3 l0 11) ∧ (F 3 l0 11) < K.2 10 then if r32 (F 10 (F 3 l0 11) 0) then (if (F 10 (F 3 l0 11) 0) = 0 then f_Parser_parse_174 K l0 F B else zbindN (f_Parser_refuse K l0 2 F B) (fun r50 F50 B50 => f_Parser_parse_174 K l0 F50 B50)) else none else none else none) else none) = some (r, F9, B9, K9) := hf
  obtain ⟨g44, hf⟩ := gif hf
  refine (Classical.em (l3 = 0)).elim (fun h45 => ?_) (fun h45 => ?_)
  · replace hf := gpos hf h45
    exact m_Parser_parse_174 hf
  · replace hf := gneg hf h45
    obtain ⟨g46, hf⟩ := gif hf
    obtain ⟨g47, hf⟩ := gif hf
    obtain ⟨g48, hf⟩ := gif hf
    refine (Classical.em ((F 10 (F 3 l0 11) 0) = 0)).elim (fun h49 => ?_) (fun h49 => ?_)
    · replace hf := gpos hf h49
      exact m_Parser_parse_174 hf
    · replace hf := gneg hf h49
      obtain ⟨r50, F50, B50, hc50, hf⟩ := gbindN hf
      exact m_Parser_parse_174 hf

set_option maxHeartbeats 4000000 in
set_option maxRecDepth 100000 in
theorem b_Parser_parse_154 {D : va_G} {ca : Nat → ClassId} {ad0 : Nat → Int → Nat → Nat} {aS vS : Nat → Nat} {A : Nat → Prop} {p : Program} {l : Launch} {e : Env} {s : State} {m : MethodId} {args : Array Value} {below : List Frame} {meth : Method} {c : Code} {K0 : zK} {r : Int} {F9 : zF} {B9 : zB} {K9 : zK} {K : zK} {l3 : Int} {l0 : Int} {F : zF} {B : zB} {ad : Nat → Int → Nat → Nat} {L : List Nat} {H : Heap} {locs : List Loc} {ls : Array Slot} : zX D ca L aS vS A p s m args meth c prog_5_method_2_code 5 (Option.some Jvm.ClassFile.FieldType.int) "StaveHouse$Parser" → zG ad0 K0.2 ad K.2 → f_Parser_parse_154 K l3 l0 F B = some (r, F9, B9, K9) → zH D ca ad lnC K.2 L F B A H → va_S A s.heap H locs → lv_has ls 5 [(3, .int (iI l3)), (0, .ref (ad 3 l0 0))] → W p l e ({ frames := 69, cells := cwC K0 K9, slots := swC K0 K9, locals := 1683 } : Room) s m args below meth c H locs (cwC K0 K) (swC K0 K) (MQ below (Q_Parser_parse K0 D ca ad0 r F9 B9 K9 A) args s (cwC K0 K9) (swC K0 K9) A) (F0 m 154 ls []) := by
  intro X hG hf hZ hS hl
  obtain ⟨hx, hb, hr, hml, hown, hts, hlk, hK, hA, hL, hX⟩ := id X
  have hk0 := zroom0 (K0 := K0) (m_Parser_parse_154 hf)
  replace hf : (if r32 l3 then (if l3 = 0 then f_Parser_parse_174 K l0 F B else if 0 ≤ l0 ∧ l0 < K.2 3 then if 0 ≤ (F 3 l0 11) ∧ (F 3 l0 11) < K.2 10 then if r32 (F 10 (F 3 l0 11) 0) then (if (F 10 (F 3 l0 11) 0) = 0 then f_Parser_parse_174 K l0 F B else zbindN (f_Parser_refuse K l0 2 F B) (fun r50 F50 B50 => f_Parser_parse_174 K l0 F50 B50)) else none else none else none) else none) = some (r, F9, B9, K9) := hf
  refine lv_iload_n hx hb d_5_2_154 rfl (lv_at hl 0 rfl) ?_
  obtain ⟨g44, hf⟩ := gif hf
  refine z0eq (tgt := 174) hx hb g44 d_5_2_155 (by decide) (fun h45 => ?_) (fun h45 => ?_)
  · replace hf := gpos hf h45
    exact b_Parser_parse_174 X hG hf hZ hS (lv_sub hl [1] rfl)
  · replace hf := gneg hf h45
    refine lv_aload_n hx hb d_5_2_158 rfl (lv_at hl 1 rfl) ?_
    obtain ⟨g46, hf⟩ := gif hf
    refine zget (ci := 3) (C := RX3) (T := TX3) (v := va_rf (zrf ad 10 (F 3 l0 11))) (k := 11) hx hb hts inW_3 hown hK hZ g46.1 g46.2 rfl (by decide) k_1_128 rfl d_5_2_159 ?_
    obtain ⟨g47, hf⟩ := gif hf
    refine zunrf g47.1 ?_
    refine zget (ci := 10) (C := RX10) (T := TX10) (v := .int (iI (F 10 (F 3 l0 11) 0))) (k := 0) hx hb hts inW_10 hown hK hZ g47.1 g47.2 rfl (by decide) k_1_72 rfl d_5_2_162 ?_
    obtain ⟨g48, hf⟩ := gif hf
    refine z0eq (tgt := 174) hx hb g48 d_5_2_165 (by decide) (fun h49 => ?_) (fun h49 => ?_)
    · replace hf := gpos hf h49
      exact b_Parser_parse_174 X hG hf hZ hS (lv_sub hl [1] rfl)
    · replace hf := gneg hf h49
      refine lv_aload_n hx hb d_5_2_168 rfl (lv_at hl 1 rfl) ?_
      refine lv_iconst (v := iI 2) hx hb d_5_2_169 rfl ?_
      obtain ⟨r50, F50, B50, hc50, hf⟩ := gbindN hf
      refine va_calli (va_runV (As := [.int (iI 2)]) (rest := []) ⟨hx, hb, hml, hown, hts⟩ (c_Parser_refuse (l := l) hc50) (cwV 1 hts (gdV k_3_196 k_3_198 ks_7 k_1_4 k_3_199) rfl rfl rfl (by decide +kernel) ⟨Nat.le_of_ble_eq_true rfl, Nat.le_of_ble_eq_true rfl⟩) (zPV X hZ hS (ci := 3) g46.1 g46.2 (r := (RX3, TX3, 22)) rfl [.int (iI 2)]) rfl rfl hl.1 rfl (lv_room (Nat.le_of_ble_eq_true rfl)) d_5_2_170 ⟨hk0.1, hk0.2⟩) hS (fun q _ h => zAin X hS q h) (zAin X hS) (fun p50 u50 t50 H50 locs50 ht50 hv50 hw50 hB50 hz50 hk50 hS50 => ?_)
      have hZ50 := zBack X ht50 hB50
      subst hw50
      refine lv_pop hx hb d_5_2_173 rfl ?_
      exact b_Parser_parse_174 X hG hf hZ50 hS50 (lv_sub hl [1] rfl)

def f_Parser_parse_147 (rec119 : zK → Int → Int → Int → Int → zF → zB → zOm) (K : zK) (l4 : Int) (l0 : Int) (l2 : Int) (s0 : Int) (F : zF) (B : zB) : zOm := rec119 K (l4 + 1) s0 l0 l2 F B
theorem m_Parser_parse_147 {rec119 : zK → Int → Int → Int → Int → zF → zB → zOm} (mrec119 : ∀ {K : zK} {l4 : Int} {l3 : Int} {l0 : Int} {l2 : Int} {F : zF} {B : zB} {r : Int} {F9 : zF} {B9 : zB} {K9 : zK}, rec119 K l4 l3 l0 l2 F B = some (r, F9, B9, K9) → zKle K K9) {K : zK} {l4 : Int} {l0 : Int} {l2 : Int} {s0 : Int} {F : zF} {B : zB} {r : Int} {F9 : zF} {B9 : zB} {K9 : zK} (hf : f_Parser_parse_147 rec119 K l4 l0 l2 s0 F B = some (r, F9, B9, K9)) : zKle K K9 := by
  replace hf : (rec119 K (l4 + 1) s0 l0 l2 F B) = some (r, F9, B9, K9) := hf
  exact mrec119 hf

set_option maxHeartbeats 4000000 in
set_option maxRecDepth 100000 in
theorem b_Parser_parse_147 {D : va_G} {ca : Nat → ClassId} {ad0 : Nat → Int → Nat → Nat} {aS vS : Nat → Nat} {A : Nat → Prop} {p : Program} {l : Launch} {e : Env} {s : State} {m : MethodId} {args : Array Value} {below : List Frame} {meth : Method} {c : Code} {K0 : zK} {r : Int} {F9 : zF} {B9 : zB} {K9 : zK} {rec119 : zK → Int → Int → Int → Int → zF → zB → zOm} (hrec119 : ∀ {K : zK} {l4 : Int} {l3 : Int} {l0 : Int} {l2 : Int} {F : zF} {B : zB} {ad : Nat → Int → Nat → Nat} {L : List Nat} {H : Heap} {locs : List Loc} {ls : Array Slot}, zX D ca L aS vS A p s m args meth c prog_5_method_2_code 5 (Option.some Jvm.ClassFile.FieldType.int) "StaveHouse$Parser" → zG ad0 K0.2 ad K.2 → rec119 K l4 l3 l0 l2 F B = some (r, F9, B9, K9) → zH D ca ad lnC K.2 L F B A H → va_S A s.heap H locs → lv_has ls 5 [(4, .int (iI l4)), (3, .int (iI l3)), (0, .ref (ad 3 l0 0)), (2, .ref (ad 6 l2 0))] → W p l e ({ frames := 69, cells := cwC K0 K9, slots := swC K0 K9, locals := 1683 } : Room) s m args below meth c H locs (cwC K0 K) (swC K0 K) (MQ below (Q_Parser_parse K0 D ca ad0 r F9 B9 K9 A) args s (cwC K0 K9) (swC K0 K9) A) (F0 m 119 ls [])) (mrec119 : ∀ {K : zK} {l4 : Int} {l3 : Int} {l0 : Int} {l2 : Int} {F : zF} {B : zB} {r : Int} {F9 : zF} {B9 : zB} {K9 : zK}, rec119 K l4 l3 l0 l2 F B = some (r, F9, B9, K9) → zKle K K9) {K : zK} {l4 : Int} {l0 : Int} {l2 : Int} {s0 : Int} {F : zF} {B : zB} {ad : Nat → Int → Nat → Nat} {L : List Nat} {H : Heap} {locs : List Loc} {ls : Array Slot} : zX D ca L aS vS A p s m args meth c prog_5_method_2_code 5 (Option.some Jvm.ClassFile.FieldType.int) "StaveHouse$Parser" → zG ad0 K0.2 ad K.2 → f_Parser_parse_147 rec119 K l4 l0 l2 s0 F B = some (r, F9, B9, K9) → zH D ca ad lnC K.2 L F B A H → va_S A s.heap H locs → lv_has ls 5 [(4, .int (iI l4)), (0, .ref (ad 3 l0 0)), (2, .ref (ad 6 l2 0))] → W p l e ({ frames := 69, cells := cwC K0 K9, slots := swC K0 K9, locals := 1683 } : Room) s m args below meth c H locs (cwC K0 K) (swC K0 K) (MQ below (Q_Parser_parse K0 D ca ad0 r F9 B9 K9 A) args s (cwC K0 K9) (swC K0 K9) A) (F0 m 147 ls [.int (iI s0)]) := by
  intro X hG hf hZ hS hl
  obtain ⟨hx, hb, hr, hml, hown, hts, hlk, hK, hA, hL, hX⟩ := id X
  have hk0 := zroom0 (K0 := K0) (m_Parser_parse_147 mrec119 hf)
  replace hf : (rec119 K (l4 + 1) s0 l0 l2 F B) = some (r, F9, B9, K9) := hf
  refine lv_istore_n (lv' := [(3, .int (iI s0)), (4, .int (iI l4)), (0, .ref (ad 3 l0 0)), (2, .ref (ad 6 l2 0))]) hx hb d_5_2_147 rfl hl (by decide) rfl (fun ls hl => ?_)
  refine lv_iinc (v := iI (l4 + 1)) (lv' := [(4, .int (iI (l4 + 1))), (3, .int (iI s0)), (0, .ref (ad 3 l0 0)), (2, .ref (ad 6 l2 0))]) hx hb d_5_2_148 hl (k := 1) rfl (iI_add _ 1) (by decide) rfl (fun ls hl => ?_)
  refine lv_goto (tgt := 119) hx hb d_5_2_151 (by decide) ?_
  exact hrec119 X hG hf hZ hS (lv_sub hl [0, 1, 2, 3] rfl)

def f_Parser_parse_119 : Nat → zK → Int → Int → Int → Int → zF → zB → zOm
  | 0, _, _, _, _, _, _, _ => none
  | n + 1, K, l4, l3, l0, l2, F, B => if r32 l4 then (if 4 ≤ l4 then f_Parser_parse_154 K l3 l0 F B else if r32 l3 then (if l3 = 0 then f_Parser_parse_154 K l3 l0 F B else if 0 ≤ l0 ∧ l0 < K.2 3 then if 0 ≤ (F 3 l0 11) ∧ (F 3 l0 11) < K.2 10 then zbindN (f_Tokens_isWord K (F 3 l0 11) 508675318629 F B) (fun r39 F39 B39 => if r32 r39 then (if r39 = 0 then f_Parser_parse_154 K l3 l0 F39 B39 else if 0 ≤ l2 ∧ l2 < K.2 6 then zbindM (f_Parser_takeVoice K l0 l2 F39 B39) (fun r43 F43 B43 K43 => f_Parser_parse_147 (f_Parser_parse_119 n) K43 l4 l0 l2 r43 F43 B43) else none) else none) else none else none) else none) else none
theorem m_Parser_parse_119 : ∀ {n : Nat} {K : zK} {l4 : Int} {l3 : Int} {l0 : Int} {l2 : Int} {F : zF} {B : zB} {r : Int} {F9 : zF} {B9 : zB} {K9 : zK}, f_Parser_parse_119 n K l4 l3 l0 l2 F B = some (r, F9, B9, K9) → zKle K K9 := by
  intro n
  induction n with
  | zero =>
    intros
    rename_i hf
    cases hf
  | succ n mih =>
    intro K l4 l3 l0 l2 F B r F9 B9 K9 hf
    replace hf : (if r32 l4 then (if 4 ≤ l4 then f_Parser_parse_154 K l3 l0 F B else if r32 l3 then (if l3 = 0 then f_Parser_parse_154 K l3 l0 F B else if 0 ≤ l0 ∧ l0 < K.2 3 then if 0 ≤ (F 3 l0 11) ∧ (F 3 l0 11) < K.2 10 then zbindN (f_Tokens_isWord K (F 3 l0 11) 508675318629 F B) (fun r39 F39 B39 => if r32 r39 then (if r39 = 0 then f_Parser_parse_154 K l3 l0 F39 B39 else if 0 ≤ l2 ∧ l2 < K.2 6 then zbindM (f_Parser_takeVoice K l0 l2 F39 B39) (fun r43 F43 B43 K43 => f_Parser_parse_147 (f_Parser_parse_119 n) K43 l4 l0 l2 r43 F43 B43) else none) else none) else none else none) else none) else none) = some (r, F9, B9, K9) := hf
    obtain ⟨g33, hf⟩ := gif hf
    refine (Classical.em (4 ≤ l4)).elim (fun h34 => ?_) (fun h34 => ?_)
    · replace hf := gpos hf h34
      exact m_Parser_parse_154 hf
    · replace hf := gneg hf h34
      obtain ⟨g35, hf⟩ := gif hf
      refine (Classical.em (l3 = 0)).elim (fun h36 => ?_) (fun h36 => ?_)
      · replace hf := gpos hf h36
        exact m_Parser_parse_154 hf
      · replace hf := gneg hf h36
        obtain ⟨g37, hf⟩ := gif hf
        obtain ⟨g38, hf⟩ := gif hf
        obtain ⟨r39, F39, B39, hc39, hf⟩ := gbindN hf
        obtain ⟨g40, hf⟩ := gif hf
        refine (Classical.em (r39 = 0)).elim (fun h41 => ?_) (fun h41 => ?_)
        · replace hf := gpos hf h41
          exact m_Parser_parse_154 hf
        · replace hf := gneg hf h41
          obtain ⟨g42, hf⟩ := gif hf
          obtain ⟨r43, F43, B43, K43, hc43, hf⟩ := gbindM hf
          exact (m_Parser_takeVoice hc43).tr ((m_Parser_parse_147 mih) hf)

set_option maxHeartbeats 4000000 in
set_option maxRecDepth 100000 in
theorem b_Parser_parse_119 {D : va_G} {ca : Nat → ClassId} {ad0 : Nat → Int → Nat → Nat} {aS vS : Nat → Nat} {A : Nat → Prop} {p : Program} {l : Launch} {e : Env} {s : State} {m : MethodId} {args : Array Value} {below : List Frame} {meth : Method} {c : Code} {K0 : zK} {r : Int} {F9 : zF} {B9 : zB} {K9 : zK} : ∀ {n : Nat} {K : zK} {l4 : Int} {l3 : Int} {l0 : Int} {l2 : Int} {F : zF} {B : zB} {ad : Nat → Int → Nat → Nat} {L : List Nat} {H : Heap} {locs : List Loc} {ls : Array Slot}, zX D ca L aS vS A p s m args meth c prog_5_method_2_code 5 (Option.some Jvm.ClassFile.FieldType.int) "StaveHouse$Parser" → zG ad0 K0.2 ad K.2 → f_Parser_parse_119 n K l4 l3 l0 l2 F B = some (r, F9, B9, K9) → zH D ca ad lnC K.2 L F B A H → va_S A s.heap H locs → lv_has ls 5 [(4, .int (iI l4)), (3, .int (iI l3)), (0, .ref (ad 3 l0 0)), (2, .ref (ad 6 l2 0))] → W p l e ({ frames := 69, cells := cwC K0 K9, slots := swC K0 K9, locals := 1683 } : Room) s m args below meth c H locs (cwC K0 K) (swC K0 K) (MQ below (Q_Parser_parse K0 D ca ad0 r F9 B9 K9 A) args s (cwC K0 K9) (swC K0 K9) A) (F0 m 119 ls []) := by
  intro n
  have mih : ∀ {K : zK} {l4 : Int} {l3 : Int} {l0 : Int} {l2 : Int} {F : zF} {B : zB} {r : Int} {F9 : zF} {B9 : zB} {K9 : zK}, f_Parser_parse_119 n K l4 l3 l0 l2 F B = some (r, F9, B9, K9) → zKle K K9 := m_Parser_parse_119
  induction n with
  | zero =>
    intros
    rename_i hf _ _ _
    cases hf
  | succ n ih0 =>
    clear mih
    have mih : ∀ {K : zK} {l4 : Int} {l3 : Int} {l0 : Int} {l2 : Int} {F : zF} {B : zB} {r : Int} {F9 : zF} {B9 : zB} {K9 : zK}, f_Parser_parse_119 n K l4 l3 l0 l2 F B = some (r, F9, B9, K9) → zKle K K9 := m_Parser_parse_119
    have ih := @ih0 mih
    intro K l4 l3 l0 l2 F B ad L H locs ls X hG hf hZ hS hl
    obtain ⟨hx, hb, hr, hml, hown, hts, hlk, hK, hA, hL, hX⟩ := id X
    have hk0 := zroom0 (K0 := K0) (m_Parser_parse_119 hf)
    replace hf : (if r32 l4 then (if 4 ≤ l4 then f_Parser_parse_154 K l3 l0 F B else if r32 l3 then (if l3 = 0 then f_Parser_parse_154 K l3 l0 F B else if 0 ≤ l0 ∧ l0 < K.2 3 then if 0 ≤ (F 3 l0 11) ∧ (F 3 l0 11) < K.2 10 then zbindN (f_Tokens_isWord K (F 3 l0 11) 508675318629 F B) (fun r39 F39 B39 => if r32 r39 then (if r39 = 0 then f_Parser_parse_154 K l3 l0 F39 B39 else if 0 ≤ l2 ∧ l2 < K.2 6 then zbindM (f_Parser_takeVoice K l0 l2 F39 B39) (fun r43 F43 B43 K43 => f_Parser_parse_147 (f_Parser_parse_119 n) K43 l4 l0 l2 r43 F43 B43) else none) else none) else none else none) else none) else none) = some (r, F9, B9, K9) := hf
    refine lv_iload hx hb d_5_2_119 (lv_at hl 0 rfl) ?_
    refine lv_iconst (v := iI 4) hx hb d_5_2_121 rfl ?_
    obtain ⟨g33, hf⟩ := gif hf
    refine zge (tgt := 154) hx hb g33 (by decide) d_5_2_122 (by decide) (fun h34 => ?_) (fun h34 => ?_)
    · replace hf := gpos hf h34
      exact b_Parser_parse_154 X hG hf hZ hS (lv_sub hl [1, 2] rfl)
    · replace hf := gneg hf h34
      refine lv_iload_n hx hb d_5_2_125 rfl (lv_at hl 1 rfl) ?_
      obtain ⟨g35, hf⟩ := gif hf
      refine z0eq (tgt := 154) hx hb g35 d_5_2_126 (by decide) (fun h36 => ?_) (fun h36 => ?_)
      · replace hf := gpos hf h36
        exact b_Parser_parse_154 X hG hf hZ hS (lv_sub hl [1, 2] rfl)
      · replace hf := gneg hf h36
        refine lv_aload_n hx hb d_5_2_129 rfl (lv_at hl 2 rfl) ?_
        obtain ⟨g37, hf⟩ := gif hf
        refine zget (ci := 3) (C := RX3) (T := TX3) (v := va_rf (zrf ad 10 (F 3 l0 11))) (k := 11) hx hb hts inW_3 hown hK hZ g37.1 g37.2 rfl (by decide) k_1_128 rfl d_5_2_130 ?_
        refine lv_ldc2 hx hb hown (hts _ k_4_91) d_5_2_133 ?_
        refine W.eq (g2 := F0 m 136 ls [.long (lI 508675318629), va_rf (zrf ad 10 (F 3 l0 11))]) rfl ?_
        obtain ⟨g38, hf⟩ := gif hf
        refine W.eq (g2 := F0 m 136 ls [.long (lI 508675318629), .ref (ad 10 (F 3 l0 11) 0)]) (by rw [zrf_pos (ad := ad) (t := 10) g38.1]; try rfl) ?_
        obtain ⟨r39, F39, B39, hc39, hf⟩ := gbindN hf
        refine va_calli (va_runV (As := [.long (lI 508675318629)]) (rest := []) ⟨hx, hb, hml, hown, hts⟩ (c_Tokens_isWord (l := l) hc39) (cwV 1 hts (gdV k_3_160 k_3_161 k_3_162 k_1_5 k_3_163) rfl rfl rfl (by decide +kernel) ⟨Nat.le_of_ble_eq_true rfl, Nat.le_of_ble_eq_true rfl⟩) (zPV X hZ hS (ci := 10) g38.1 g38.2 (r := (RX10, TX10, 9)) rfl [.long (lI 508675318629)]) rfl rfl hl.1 rfl (lv_room (Nat.le_of_ble_eq_true rfl)) d_5_2_136 ⟨hk0.1, hk0.2⟩) hS (fun q _ h => zAin X hS q h) (zAin X hS) (fun p39 u39 t39 H39 locs39 ht39 hv39 hw39 hB39 hz39 hk39 hS39 => ?_)
        have hZ39 := zBack X ht39 hB39
        subst hw39
        obtain ⟨g40, hf⟩ := gif hf
        refine z0eq (tgt := 154) hx hb g40 d_5_2_139 (by decide) (fun h41 => ?_) (fun h41 => ?_)
        · replace hf := gpos hf h41
          exact b_Parser_parse_154 X hG hf hZ39 hS39 (lv_sub hl [1, 2] rfl)
        · replace hf := gneg hf h41
          refine lv_aload_n hx hb d_5_2_142 rfl (lv_at hl 2 rfl) ?_
          refine lv_aload_n hx hb d_5_2_143 rfl (lv_at hl 3 rfl) ?_
          obtain ⟨g42, hf⟩ := gif hf
          obtain ⟨r43, F43, B43, K43, hc43, hf⟩ := gbindM hf
          have hm43 := (m_Parser_parse_147 mih) hf
          have hn43 := m_Parser_takeVoice hc43
          have hr43 := zroomC hG.1 hn43 hm43
          refine va_calli (va_runV (As := [.ref (ad 6 l2 0)]) (rest := []) ⟨hx, hb, hml, hown, hts⟩ (c_Parser_takeVoice (l := l) hc43) (cwV 1 hts (gdV k_4_92 k_4_94 ks_33 k_1_4 k_4_95) rfl rfl rfl (by decide +kernel) ⟨Nat.le_of_ble_eq_true rfl, Nat.le_of_ble_eq_true rfl⟩) (zPV X hZ39 hS39 (ci := 3) g37.1 g37.2 (r := (RX3, TX3, 22)) rfl [.ref (ad 6 l2 0)]) rfl rfl hl.1 rfl (lv_room (Nat.le_of_ble_eq_true rfl)) d_5_2_144 ⟨hr43.1, hr43.2.1⟩) hS39 (fun q _ h => zAin X hS39 q h) (zAin X hS39) (fun p43 u43 t43 H43 locs43 ht43 hv43 hw43 hB43 hz43 hk43 hS43 => ?_)
          obtain ⟨ad43, L43⟩ := u43
          obtain ⟨hw43, hg43⟩ := hw43
          subst hw43
          have hZ43 := zBackM X hS39 ht43 hB43
          refine W.widen (k := cwC K0 K43) (n := swC K0 K43) (Nat.le_of_eq hr43.2.2.1) (Nat.le_of_eq hr43.2.2.2) ?_
          have X43 := X.grow hZ43.inA
          have hG43 := hG.tr hg43
          have e43_0 : ad43 3 l0 0 = ad 3 l0 0 := hg43.2 3 l0 0 g37.1 g37.2
          have e43_1 : ad43 6 l2 0 = ad 6 l2 0 := hg43.2 6 l2 0 g42.1 g42.2
          have hl : lv_has ls 5 [(4, .int (iI l4)), (0, .ref (ad43 3 l0 0)), (2, .ref (ad43 6 l2 0))] := by have h := lv_sub hl [0, 2, 3] rfl; simp only [e43_0, e43_1]; exact h
          exact b_Parser_parse_147 ih mih X43 hG43 hf hZ43 hS43 (lv_sub hl [0, 1, 2] rfl)

def f_Parser_parse_116 (K : zK) (l3 : Int) (l0 : Int) (l2 : Int) (F : zF) (B : zB) : zOm := f_Parser_parse_119 K.1 K 0 l3 l0 l2 F B
theorem m_Parser_parse_116 {K : zK} {l3 : Int} {l0 : Int} {l2 : Int} {F : zF} {B : zB} {r : Int} {F9 : zF} {B9 : zB} {K9 : zK} (hf : f_Parser_parse_116 K l3 l0 l2 F B = some (r, F9, B9, K9)) : zKle K K9 := by
  replace hf : (f_Parser_parse_119 K.1 K 0 l3 l0 l2 F B) = some (r, F9, B9, K9) := hf
  exact m_Parser_parse_119 hf

set_option maxHeartbeats 4000000 in
set_option maxRecDepth 100000 in
theorem b_Parser_parse_116 {D : va_G} {ca : Nat → ClassId} {ad0 : Nat → Int → Nat → Nat} {aS vS : Nat → Nat} {A : Nat → Prop} {p : Program} {l : Launch} {e : Env} {s : State} {m : MethodId} {args : Array Value} {below : List Frame} {meth : Method} {c : Code} {K0 : zK} {r : Int} {F9 : zF} {B9 : zB} {K9 : zK} {K : zK} {l3 : Int} {l0 : Int} {l2 : Int} {F : zF} {B : zB} {ad : Nat → Int → Nat → Nat} {L : List Nat} {H : Heap} {locs : List Loc} {ls : Array Slot} : zX D ca L aS vS A p s m args meth c prog_5_method_2_code 5 (Option.some Jvm.ClassFile.FieldType.int) "StaveHouse$Parser" → zG ad0 K0.2 ad K.2 → f_Parser_parse_116 K l3 l0 l2 F B = some (r, F9, B9, K9) → zH D ca ad lnC K.2 L F B A H → va_S A s.heap H locs → lv_has ls 5 [(3, .int (iI l3)), (0, .ref (ad 3 l0 0)), (2, .ref (ad 6 l2 0))] → W p l e ({ frames := 69, cells := cwC K0 K9, slots := swC K0 K9, locals := 1683 } : Room) s m args below meth c H locs (cwC K0 K) (swC K0 K) (MQ below (Q_Parser_parse K0 D ca ad0 r F9 B9 K9 A) args s (cwC K0 K9) (swC K0 K9) A) (F0 m 116 ls []) := by
  intro X hG hf hZ hS hl
  obtain ⟨hx, hb, hr, hml, hown, hts, hlk, hK, hA, hL, hX⟩ := id X
  have hk0 := zroom0 (K0 := K0) (m_Parser_parse_116 hf)
  replace hf : (f_Parser_parse_119 K.1 K 0 l3 l0 l2 F B) = some (r, F9, B9, K9) := hf
  refine lv_iconst (v := iI 0) hx hb d_5_2_116 rfl ?_
  refine lv_istore (lv' := [(4, .int (iI 0)), (3, .int (iI l3)), (0, .ref (ad 3 l0 0)), (2, .ref (ad 6 l2 0))]) hx hb d_5_2_117 hl (by decide) rfl (fun ls hl => ?_)
  exact b_Parser_parse_119 X hG hf hZ hS (lv_sub hl [0, 1, 2, 3] rfl)

def f_Parser_parse_93 (K : zK) (l3 : Int) (l0 : Int) (l2 : Int) (F : zF) (B : zB) : zOm := if r32 l3 then (if l3 = 0 then f_Parser_parse_116 K l3 l0 l2 F B else if 0 ≤ l0 ∧ l0 < K.2 3 then if 0 ≤ (F 3 l0 11) ∧ (F 3 l0 11) < K.2 10 then zbindN (f_Tokens_isWord K (F 3 l0 11) 508675318629 F B) (fun r28 F28 B28 => if r32 r28 then (if r28 = 0 then zbindN (f_Parser_refuse K l0 2 F28 B28) (fun r31 F31 B31 => f_Parser_parse_116 K r31 l0 l2 F31 B31) else f_Parser_parse_116 K l3 l0 l2 F28 B28) else none) else none else none) else none
theorem m_Parser_parse_93 {K : zK} {l3 : Int} {l0 : Int} {l2 : Int} {F : zF} {B : zB} {r : Int} {F9 : zF} {B9 : zB} {K9 : zK} (hf : f_Parser_parse_93 K l3 l0 l2 F B = some (r, F9, B9, K9)) : zKle K K9 := by
  replace hf : (if r32 l3 then (if l3 = 0 then f_Parser_parse_116 K l3 l0 l2 F B else if 0 ≤ l0 ∧ l0 < K.2 3 then if 0 ≤ (F 3 l0 11) ∧ (F 3 l0 11) < K.2 10 then zbindN (f_Tokens_isWord K (F 3 l0 11) 508675318629 F B) (fun r28 F28 B28 => if r32 r28 then (if r28 = 0 then zbindN (f_Parser_refuse K l0 2 F28 B28) (fun r31 F31 B31 => f_Parser_parse_116 K r31 l0 l2 F31 B31) else f_Parser_parse_116 K l3 l0 l2 F28 B28) else none) else none else none) else none) = some (r, F9, B9, K9) := hf
  obtain ⟨g24, hf⟩ := gif hf
  refine (Classical.em (l3 = 0)).elim (fun h25 => ?_) (fun h25 => ?_)
  · replace hf := gpos hf h25
    exact m_Parser_parse_116 hf
  · replace hf := gneg hf h25
    obtain ⟨g26, hf⟩ := gif hf
    obtain ⟨g27, hf⟩ := gif hf
    obtain ⟨r28, F28, B28, hc28, hf⟩ := gbindN hf
    obtain ⟨g29, hf⟩ := gif hf
    refine (Classical.em (r28 = 0)).symm.elim (fun h30 => ?_) (fun h30 => ?_)
    · replace hf := gneg hf h30
      exact m_Parser_parse_116 hf
    · replace hf := gpos hf h30
      obtain ⟨r31, F31, B31, hc31, hf⟩ := gbindN hf
      exact m_Parser_parse_116 hf

set_option maxHeartbeats 4000000 in
set_option maxRecDepth 100000 in
theorem b_Parser_parse_93 {D : va_G} {ca : Nat → ClassId} {ad0 : Nat → Int → Nat → Nat} {aS vS : Nat → Nat} {A : Nat → Prop} {p : Program} {l : Launch} {e : Env} {s : State} {m : MethodId} {args : Array Value} {below : List Frame} {meth : Method} {c : Code} {K0 : zK} {r : Int} {F9 : zF} {B9 : zB} {K9 : zK} {K : zK} {l3 : Int} {l0 : Int} {l2 : Int} {F : zF} {B : zB} {ad : Nat → Int → Nat → Nat} {L : List Nat} {H : Heap} {locs : List Loc} {ls : Array Slot} : zX D ca L aS vS A p s m args meth c prog_5_method_2_code 5 (Option.some Jvm.ClassFile.FieldType.int) "StaveHouse$Parser" → zG ad0 K0.2 ad K.2 → f_Parser_parse_93 K l3 l0 l2 F B = some (r, F9, B9, K9) → zH D ca ad lnC K.2 L F B A H → va_S A s.heap H locs → lv_has ls 5 [(3, .int (iI l3)), (0, .ref (ad 3 l0 0)), (2, .ref (ad 6 l2 0))] → W p l e ({ frames := 69, cells := cwC K0 K9, slots := swC K0 K9, locals := 1683 } : Room) s m args below meth c H locs (cwC K0 K) (swC K0 K) (MQ below (Q_Parser_parse K0 D ca ad0 r F9 B9 K9 A) args s (cwC K0 K9) (swC K0 K9) A) (F0 m 93 ls []) := by
  intro X hG hf hZ hS hl
  obtain ⟨hx, hb, hr, hml, hown, hts, hlk, hK, hA, hL, hX⟩ := id X
  have hk0 := zroom0 (K0 := K0) (m_Parser_parse_93 hf)
  replace hf : (if r32 l3 then (if l3 = 0 then f_Parser_parse_116 K l3 l0 l2 F B else if 0 ≤ l0 ∧ l0 < K.2 3 then if 0 ≤ (F 3 l0 11) ∧ (F 3 l0 11) < K.2 10 then zbindN (f_Tokens_isWord K (F 3 l0 11) 508675318629 F B) (fun r28 F28 B28 => if r32 r28 then (if r28 = 0 then zbindN (f_Parser_refuse K l0 2 F28 B28) (fun r31 F31 B31 => f_Parser_parse_116 K r31 l0 l2 F31 B31) else f_Parser_parse_116 K l3 l0 l2 F28 B28) else none) else none else none) else none) = some (r, F9, B9, K9) := hf
  refine lv_iload_n hx hb d_5_2_93 rfl (lv_at hl 0 rfl) ?_
  obtain ⟨g24, hf⟩ := gif hf
  refine z0eq (tgt := 116) hx hb g24 d_5_2_94 (by decide) (fun h25 => ?_) (fun h25 => ?_)
  · replace hf := gpos hf h25
    exact b_Parser_parse_116 X hG hf hZ hS (lv_sub hl [0, 1, 2] rfl)
  · replace hf := gneg hf h25
    refine lv_aload_n hx hb d_5_2_97 rfl (lv_at hl 1 rfl) ?_
    obtain ⟨g26, hf⟩ := gif hf
    refine zget (ci := 3) (C := RX3) (T := TX3) (v := va_rf (zrf ad 10 (F 3 l0 11))) (k := 11) hx hb hts inW_3 hown hK hZ g26.1 g26.2 rfl (by decide) k_1_128 rfl d_5_2_98 ?_
    refine lv_ldc2 hx hb hown (hts _ k_4_91) d_5_2_101 ?_
    refine W.eq (g2 := F0 m 104 ls [.long (lI 508675318629), va_rf (zrf ad 10 (F 3 l0 11))]) rfl ?_
    obtain ⟨g27, hf⟩ := gif hf
    refine W.eq (g2 := F0 m 104 ls [.long (lI 508675318629), .ref (ad 10 (F 3 l0 11) 0)]) (by rw [zrf_pos (ad := ad) (t := 10) g27.1]; try rfl) ?_
    obtain ⟨r28, F28, B28, hc28, hf⟩ := gbindN hf
    refine va_calli (va_runV (As := [.long (lI 508675318629)]) (rest := []) ⟨hx, hb, hml, hown, hts⟩ (c_Tokens_isWord (l := l) hc28) (cwV 1 hts (gdV k_3_160 k_3_161 k_3_162 k_1_5 k_3_163) rfl rfl rfl (by decide +kernel) ⟨Nat.le_of_ble_eq_true rfl, Nat.le_of_ble_eq_true rfl⟩) (zPV X hZ hS (ci := 10) g27.1 g27.2 (r := (RX10, TX10, 9)) rfl [.long (lI 508675318629)]) rfl rfl hl.1 rfl (lv_room (Nat.le_of_ble_eq_true rfl)) d_5_2_104 ⟨hk0.1, hk0.2⟩) hS (fun q _ h => zAin X hS q h) (zAin X hS) (fun p28 u28 t28 H28 locs28 ht28 hv28 hw28 hB28 hz28 hk28 hS28 => ?_)
    have hZ28 := zBack X ht28 hB28
    subst hw28
    obtain ⟨g29, hf⟩ := gif hf
    refine z0ne (tgt := 116) hx hb g29 d_5_2_107 (by decide) (fun h30 => ?_) (fun h30 => ?_)
    · replace hf := gneg hf h30
      exact b_Parser_parse_116 X hG hf hZ28 hS28 (lv_sub hl [0, 1, 2] rfl)
    · replace hf := gpos hf h30
      refine lv_aload_n hx hb d_5_2_110 rfl (lv_at hl 1 rfl) ?_
      refine lv_iconst (v := iI 2) hx hb d_5_2_111 rfl ?_
      obtain ⟨r31, F31, B31, hc31, hf⟩ := gbindN hf
      refine va_calli (va_runV (As := [.int (iI 2)]) (rest := []) ⟨hx, hb, hml, hown, hts⟩ (c_Parser_refuse (l := l) hc31) (cwV 1 hts (gdV k_3_196 k_3_198 ks_7 k_1_4 k_3_199) rfl rfl rfl (by decide +kernel) ⟨Nat.le_of_ble_eq_true rfl, Nat.le_of_ble_eq_true rfl⟩) (zPV X hZ28 hS28 (ci := 3) g26.1 g26.2 (r := (RX3, TX3, 22)) rfl [.int (iI 2)]) rfl rfl hl.1 rfl (lv_room (Nat.le_of_ble_eq_true rfl)) d_5_2_112 ⟨hk0.1, hk0.2⟩) hS28 (fun q _ h => zAin X hS28 q h) (zAin X hS28) (fun p31 u31 t31 H31 locs31 ht31 hv31 hw31 hB31 hz31 hk31 hS31 => ?_)
      have hZ31 := zBack X ht31 hB31
      subst hw31
      refine lv_istore_n (lv' := [(3, .int (iI r31)), (0, .ref (ad 3 l0 0)), (2, .ref (ad 6 l2 0))]) hx hb d_5_2_115 rfl hl (by decide) rfl (fun ls hl => ?_)
      exact b_Parser_parse_116 X hG hf hZ31 hS31 (lv_sub hl [0, 1, 2] rfl)

def f_Parser_parse_86 (rec43 : zK → Int → Int → Int → Int → zF → zB → zOm) (K : zK) (l4 : Int) (l0 : Int) (l2 : Int) (s0 : Int) (F : zF) (B : zB) : zOm := rec43 K (l4 + 1) s0 l0 l2 F B
theorem m_Parser_parse_86 {rec43 : zK → Int → Int → Int → Int → zF → zB → zOm} (mrec43 : ∀ {K : zK} {l4 : Int} {l3 : Int} {l0 : Int} {l2 : Int} {F : zF} {B : zB} {r : Int} {F9 : zF} {B9 : zB} {K9 : zK}, rec43 K l4 l3 l0 l2 F B = some (r, F9, B9, K9) → zKle K K9) {K : zK} {l4 : Int} {l0 : Int} {l2 : Int} {s0 : Int} {F : zF} {B : zB} {r : Int} {F9 : zF} {B9 : zB} {K9 : zK} (hf : f_Parser_parse_86 rec43 K l4 l0 l2 s0 F B = some (r, F9, B9, K9)) : zKle K K9 := by
  replace hf : (rec43 K (l4 + 1) s0 l0 l2 F B) = some (r, F9, B9, K9) := hf
  exact mrec43 hf

set_option maxHeartbeats 4000000 in
set_option maxRecDepth 100000 in
theorem b_Parser_parse_86 {D : va_G} {ca : Nat → ClassId} {ad0 : Nat → Int → Nat → Nat} {aS vS : Nat → Nat} {A : Nat → Prop} {p : Program} {l : Launch} {e : Env} {s : State} {m : MethodId} {args : Array Value} {below : List Frame} {meth : Method} {c : Code} {K0 : zK} {r : Int} {F9 : zF} {B9 : zB} {K9 : zK} {rec43 : zK → Int → Int → Int → Int → zF → zB → zOm} (hrec43 : ∀ {K : zK} {l4 : Int} {l3 : Int} {l0 : Int} {l2 : Int} {F : zF} {B : zB} {ad : Nat → Int → Nat → Nat} {L : List Nat} {H : Heap} {locs : List Loc} {ls : Array Slot}, zX D ca L aS vS A p s m args meth c prog_5_method_2_code 5 (Option.some Jvm.ClassFile.FieldType.int) "StaveHouse$Parser" → zG ad0 K0.2 ad K.2 → rec43 K l4 l3 l0 l2 F B = some (r, F9, B9, K9) → zH D ca ad lnC K.2 L F B A H → va_S A s.heap H locs → lv_has ls 5 [(4, .int (iI l4)), (3, .int (iI l3)), (0, .ref (ad 3 l0 0)), (2, .ref (ad 6 l2 0))] → W p l e ({ frames := 69, cells := cwC K0 K9, slots := swC K0 K9, locals := 1683 } : Room) s m args below meth c H locs (cwC K0 K) (swC K0 K) (MQ below (Q_Parser_parse K0 D ca ad0 r F9 B9 K9 A) args s (cwC K0 K9) (swC K0 K9) A) (F0 m 43 ls [])) (mrec43 : ∀ {K : zK} {l4 : Int} {l3 : Int} {l0 : Int} {l2 : Int} {F : zF} {B : zB} {r : Int} {F9 : zF} {B9 : zB} {K9 : zK}, rec43 K l4 l3 l0 l2 F B = some (r, F9, B9, K9) → zKle K K9) {K : zK} {l4 : Int} {l0 : Int} {l2 : Int} {s0 : Int} {F : zF} {B : zB} {ad : Nat → Int → Nat → Nat} {L : List Nat} {H : Heap} {locs : List Loc} {ls : Array Slot} : zX D ca L aS vS A p s m args meth c prog_5_method_2_code 5 (Option.some Jvm.ClassFile.FieldType.int) "StaveHouse$Parser" → zG ad0 K0.2 ad K.2 → f_Parser_parse_86 rec43 K l4 l0 l2 s0 F B = some (r, F9, B9, K9) → zH D ca ad lnC K.2 L F B A H → va_S A s.heap H locs → lv_has ls 5 [(4, .int (iI l4)), (0, .ref (ad 3 l0 0)), (2, .ref (ad 6 l2 0))] → W p l e ({ frames := 69, cells := cwC K0 K9, slots := swC K0 K9, locals := 1683 } : Room) s m args below meth c H locs (cwC K0 K) (swC K0 K) (MQ below (Q_Parser_parse K0 D ca ad0 r F9 B9 K9 A) args s (cwC K0 K9) (swC K0 K9) A) (F0 m 86 ls [.int (iI s0)]) := by
  intro X hG hf hZ hS hl
  obtain ⟨hx, hb, hr, hml, hown, hts, hlk, hK, hA, hL, hX⟩ := id X
  have hk0 := zroom0 (K0 := K0) (m_Parser_parse_86 mrec43 hf)
  replace hf : (rec43 K (l4 + 1) s0 l0 l2 F B) = some (r, F9, B9, K9) := hf
  refine lv_istore_n (lv' := [(3, .int (iI s0)), (4, .int (iI l4)), (0, .ref (ad 3 l0 0)), (2, .ref (ad 6 l2 0))]) hx hb d_5_2_86 rfl hl (by decide) rfl (fun ls hl => ?_)
  refine lv_iinc (v := iI (l4 + 1)) (lv' := [(4, .int (iI (l4 + 1))), (3, .int (iI s0)), (0, .ref (ad 3 l0 0)), (2, .ref (ad 6 l2 0))]) hx hb d_5_2_87 hl (k := 1) rfl (iI_add _ 1) (by decide) rfl (fun ls hl => ?_)
  refine lv_goto (tgt := 43) hx hb d_5_2_90 (by decide) ?_
  exact hrec43 X hG hf hZ hS (lv_sub hl [0, 1, 2, 3] rfl)

def f_Parser_parse_43 : Nat → zK → Int → Int → Int → Int → zF → zB → zOm
  | 0, _, _, _, _, _, _, _ => none
  | n + 1, K, l4, l3, l0, l2, F, B => if r32 l4 then (if 9 ≤ l4 then f_Parser_parse_93 K l3 l0 l2 F B else if r32 l3 then (if l3 = 0 then f_Parser_parse_93 K l3 l0 l2 F B else if 0 ≤ l0 ∧ l0 < K.2 3 then zbindN (f_Parser_beginsHead K l0 F B) (fun r15 F15 B15 => if r32 r15 then (if r15 = 0 then f_Parser_parse_93 K l3 l0 l2 F15 B15 else if 0 ≤ (F15 3 l0 11) ∧ (F15 3 l0 11) < K.2 10 then zbindN (f_Tokens_isWord K (F15 3 l0 11) 7103860 F15 B15) (fun r19 F19 B19 => if r32 r19 then (if r19 = 0 then zbindN (f_Parser_takeHead K l0 l2 F19 B19) (fun r22 F22 B22 => f_Parser_parse_86 (f_Parser_parse_43 n) K l4 l0 l2 r22 F22 B22) else zbindN (f_Parser_takeLet K l0 F19 B19) (fun r23 F23 B23 => f_Parser_parse_86 (f_Parser_parse_43 n) K l4 l0 l2 r23 F23 B23)) else none) else none) else none) else none) else none) else none
theorem m_Parser_parse_43 : ∀ {n : Nat} {K : zK} {l4 : Int} {l3 : Int} {l0 : Int} {l2 : Int} {F : zF} {B : zB} {r : Int} {F9 : zF} {B9 : zB} {K9 : zK}, f_Parser_parse_43 n K l4 l3 l0 l2 F B = some (r, F9, B9, K9) → zKle K K9 := by
  intro n
  induction n with
  | zero =>
    intros
    rename_i hf
    cases hf
  | succ n mih =>
    intro K l4 l3 l0 l2 F B r F9 B9 K9 hf
    replace hf : (if r32 l4 then (if 9 ≤ l4 then f_Parser_parse_93 K l3 l0 l2 F B else if r32 l3 then (if l3 = 0 then f_Parser_parse_93 K l3 l0 l2 F B else if 0 ≤ l0 ∧ l0 < K.2 3 then zbindN (f_Parser_beginsHead K l0 F B) (fun r15 F15 B15 => if r32 r15 then (if r15 = 0 then f_Parser_parse_93 K l3 l0 l2 F15 B15 else if 0 ≤ (F15 3 l0 11) ∧ (F15 3 l0 11) < K.2 10 then zbindN (f_Tokens_isWord K (F15 3 l0 11) 7103860 F15 B15) (fun r19 F19 B19 => if r32 r19 then (if r19 = 0 then zbindN (f_Parser_takeHead K l0 l2 F19 B19) (fun r22 F22 B22 => f_Parser_parse_86 (f_Parser_parse_43 n) K l4 l0 l2 r22 F22 B22) else zbindN (f_Parser_takeLet K l0 F19 B19) (fun r23 F23 B23 => f_Parser_parse_86 (f_Parser_parse_43 n) K l4 l0 l2 r23 F23 B23)) else none) else none) else none) else none) else none) else none) = some (r, F9, B9, K9) := hf
    obtain ⟨g10, hf⟩ := gif hf
    refine (Classical.em (9 ≤ l4)).elim (fun h11 => ?_) (fun h11 => ?_)
    · replace hf := gpos hf h11
      exact m_Parser_parse_93 hf
    · replace hf := gneg hf h11
      obtain ⟨g12, hf⟩ := gif hf
      refine (Classical.em (l3 = 0)).elim (fun h13 => ?_) (fun h13 => ?_)
      · replace hf := gpos hf h13
        exact m_Parser_parse_93 hf
      · replace hf := gneg hf h13
        obtain ⟨g14, hf⟩ := gif hf
        obtain ⟨r15, F15, B15, hc15, hf⟩ := gbindN hf
        obtain ⟨g16, hf⟩ := gif hf
        refine (Classical.em (r15 = 0)).elim (fun h17 => ?_) (fun h17 => ?_)
        · replace hf := gpos hf h17
          exact m_Parser_parse_93 hf
        · replace hf := gneg hf h17
          obtain ⟨g18, hf⟩ := gif hf
          obtain ⟨r19, F19, B19, hc19, hf⟩ := gbindN hf
          obtain ⟨g20, hf⟩ := gif hf
          refine (Classical.em (r19 = 0)).elim (fun h21 => ?_) (fun h21 => ?_)
          · replace hf := gpos hf h21
            obtain ⟨r22, F22, B22, hc22, hf⟩ := gbindN hf
            exact (m_Parser_parse_86 mih) hf
          · replace hf := gneg hf h21
            obtain ⟨r23, F23, B23, hc23, hf⟩ := gbindN hf
            exact (m_Parser_parse_86 mih) hf

set_option maxHeartbeats 4000000 in
set_option maxRecDepth 100000 in
theorem b_Parser_parse_43 {D : va_G} {ca : Nat → ClassId} {ad0 : Nat → Int → Nat → Nat} {aS vS : Nat → Nat} {A : Nat → Prop} {p : Program} {l : Launch} {e : Env} {s : State} {m : MethodId} {args : Array Value} {below : List Frame} {meth : Method} {c : Code} {K0 : zK} {r : Int} {F9 : zF} {B9 : zB} {K9 : zK} : ∀ {n : Nat} {K : zK} {l4 : Int} {l3 : Int} {l0 : Int} {l2 : Int} {F : zF} {B : zB} {ad : Nat → Int → Nat → Nat} {L : List Nat} {H : Heap} {locs : List Loc} {ls : Array Slot}, zX D ca L aS vS A p s m args meth c prog_5_method_2_code 5 (Option.some Jvm.ClassFile.FieldType.int) "StaveHouse$Parser" → zG ad0 K0.2 ad K.2 → f_Parser_parse_43 n K l4 l3 l0 l2 F B = some (r, F9, B9, K9) → zH D ca ad lnC K.2 L F B A H → va_S A s.heap H locs → lv_has ls 5 [(4, .int (iI l4)), (3, .int (iI l3)), (0, .ref (ad 3 l0 0)), (2, .ref (ad 6 l2 0))] → W p l e ({ frames := 69, cells := cwC K0 K9, slots := swC K0 K9, locals := 1683 } : Room) s m args below meth c H locs (cwC K0 K) (swC K0 K) (MQ below (Q_Parser_parse K0 D ca ad0 r F9 B9 K9 A) args s (cwC K0 K9) (swC K0 K9) A) (F0 m 43 ls []) := by
  intro n
  have mih : ∀ {K : zK} {l4 : Int} {l3 : Int} {l0 : Int} {l2 : Int} {F : zF} {B : zB} {r : Int} {F9 : zF} {B9 : zB} {K9 : zK}, f_Parser_parse_43 n K l4 l3 l0 l2 F B = some (r, F9, B9, K9) → zKle K K9 := m_Parser_parse_43
  induction n with
  | zero =>
    intros
    rename_i hf _ _ _
    cases hf
  | succ n ih0 =>
    clear mih
    have mih : ∀ {K : zK} {l4 : Int} {l3 : Int} {l0 : Int} {l2 : Int} {F : zF} {B : zB} {r : Int} {F9 : zF} {B9 : zB} {K9 : zK}, f_Parser_parse_43 n K l4 l3 l0 l2 F B = some (r, F9, B9, K9) → zKle K K9 := m_Parser_parse_43
    have ih := @ih0 mih
    intro K l4 l3 l0 l2 F B ad L H locs ls X hG hf hZ hS hl
    obtain ⟨hx, hb, hr, hml, hown, hts, hlk, hK, hA, hL, hX⟩ := id X
    have hk0 := zroom0 (K0 := K0) (m_Parser_parse_43 hf)
    replace hf : (if r32 l4 then (if 9 ≤ l4 then f_Parser_parse_93 K l3 l0 l2 F B else if r32 l3 then (if l3 = 0 then f_Parser_parse_93 K l3 l0 l2 F B else if 0 ≤ l0 ∧ l0 < K.2 3 then zbindN (f_Parser_beginsHead K l0 F B) (fun r15 F15 B15 => if r32 r15 then (if r15 = 0 then f_Parser_parse_93 K l3 l0 l2 F15 B15 else if 0 ≤ (F15 3 l0 11) ∧ (F15 3 l0 11) < K.2 10 then zbindN (f_Tokens_isWord K (F15 3 l0 11) 7103860 F15 B15) (fun r19 F19 B19 => if r32 r19 then (if r19 = 0 then zbindN (f_Parser_takeHead K l0 l2 F19 B19) (fun r22 F22 B22 => f_Parser_parse_86 (f_Parser_parse_43 n) K l4 l0 l2 r22 F22 B22) else zbindN (f_Parser_takeLet K l0 F19 B19) (fun r23 F23 B23 => f_Parser_parse_86 (f_Parser_parse_43 n) K l4 l0 l2 r23 F23 B23)) else none) else none) else none) else none) else none) else none) = some (r, F9, B9, K9) := hf
    refine lv_iload hx hb d_5_2_43 (lv_at hl 0 rfl) ?_
    refine lv_bipush (v := iI 9) hx hb d_5_2_45 (by decide) ?_
    obtain ⟨g10, hf⟩ := gif hf
    refine zge (tgt := 93) hx hb g10 (by decide) d_5_2_47 (by decide) (fun h11 => ?_) (fun h11 => ?_)
    · replace hf := gpos hf h11
      exact b_Parser_parse_93 X hG hf hZ hS (lv_sub hl [1, 2, 3] rfl)
    · replace hf := gneg hf h11
      refine lv_iload_n hx hb d_5_2_50 rfl (lv_at hl 1 rfl) ?_
      obtain ⟨g12, hf⟩ := gif hf
      refine z0eq (tgt := 93) hx hb g12 d_5_2_51 (by decide) (fun h13 => ?_) (fun h13 => ?_)
      · replace hf := gpos hf h13
        exact b_Parser_parse_93 X hG hf hZ hS (lv_sub hl [1, 2, 3] rfl)
      · replace hf := gneg hf h13
        refine lv_aload_n hx hb d_5_2_54 rfl (lv_at hl 2 rfl) ?_
        obtain ⟨g14, hf⟩ := gif hf
        obtain ⟨r15, F15, B15, hc15, hf⟩ := gbindN hf
        refine va_calli (va_runV (As := []) (rest := []) ⟨hx, hb, hml, hown, hts⟩ (c_Parser_beginsHead (l := l) hc15) (cwV 0 hts (gdV k_3_155 k_3_157 ks_2 k_1_4 k_3_158) rfl rfl rfl (by decide +kernel) ⟨Nat.le_of_ble_eq_true rfl, Nat.le_of_ble_eq_true rfl⟩) (zPV X hZ hS (ci := 3) g14.1 g14.2 (r := (RX3, TX3, 22)) rfl []) rfl rfl hl.1 rfl (lv_room (Nat.le_of_ble_eq_true rfl)) d_5_2_55 ⟨hk0.1, hk0.2⟩) hS (fun q _ h => zAin X hS q h) (zAin X hS) (fun p15 u15 t15 H15 locs15 ht15 hv15 hw15 hB15 hz15 hk15 hS15 => ?_)
        have hZ15 := zBack X ht15 hB15
        subst hw15
        obtain ⟨g16, hf⟩ := gif hf
        refine z0eq (tgt := 93) hx hb g16 d_5_2_58 (by decide) (fun h17 => ?_) (fun h17 => ?_)
        · replace hf := gpos hf h17
          exact b_Parser_parse_93 X hG hf hZ15 hS15 (lv_sub hl [1, 2, 3] rfl)
        · replace hf := gneg hf h17
          refine lv_aload_n hx hb d_5_2_61 rfl (lv_at hl 2 rfl) ?_
          refine zget (ci := 3) (C := RX3) (T := TX3) (v := va_rf (zrf ad 10 (F15 3 l0 11))) (k := 11) hx hb hts inW_3 hown hK hZ15 g14.1 g14.2 rfl (by decide) k_1_128 rfl d_5_2_62 ?_
          refine lv_ldc2 hx hb hown (hts _ k_3_159) d_5_2_65 ?_
          refine W.eq (g2 := F0 m 68 ls [.long (lI 7103860), va_rf (zrf ad 10 (F15 3 l0 11))]) rfl ?_
          obtain ⟨g18, hf⟩ := gif hf
          refine W.eq (g2 := F0 m 68 ls [.long (lI 7103860), .ref (ad 10 (F15 3 l0 11) 0)]) (by rw [zrf_pos (ad := ad) (t := 10) g18.1]; try rfl) ?_
          obtain ⟨r19, F19, B19, hc19, hf⟩ := gbindN hf
          refine va_calli (va_runV (As := [.long (lI 7103860)]) (rest := []) ⟨hx, hb, hml, hown, hts⟩ (c_Tokens_isWord (l := l) hc19) (cwV 1 hts (gdV k_3_160 k_3_161 k_3_162 k_1_5 k_3_163) rfl rfl rfl (by decide +kernel) ⟨Nat.le_of_ble_eq_true rfl, Nat.le_of_ble_eq_true rfl⟩) (zPV X hZ15 hS15 (ci := 10) g18.1 g18.2 (r := (RX10, TX10, 9)) rfl [.long (lI 7103860)]) rfl rfl hl.1 rfl (lv_room (Nat.le_of_ble_eq_true rfl)) d_5_2_68 ⟨hk0.1, hk0.2⟩) hS15 (fun q _ h => zAin X hS15 q h) (zAin X hS15) (fun p19 u19 t19 H19 locs19 ht19 hv19 hw19 hB19 hz19 hk19 hS19 => ?_)
          have hZ19 := zBack X ht19 hB19
          subst hw19
          obtain ⟨g20, hf⟩ := gif hf
          refine z0eq (tgt := 81) hx hb g20 d_5_2_71 (by decide) (fun h21 => ?_) (fun h21 => ?_)
          · replace hf := gpos hf h21
            refine lv_aload_n hx hb d_5_2_81 rfl (lv_at hl 2 rfl) ?_
            refine lv_aload_n hx hb d_5_2_82 rfl (lv_at hl 3 rfl) ?_
            obtain ⟨r22, F22, B22, hc22, hf⟩ := gbindN hf
            refine va_calli (va_runV (As := [.ref (ad 6 l2 0)]) (rest := []) ⟨hx, hb, hml, hown, hts⟩ (c_Parser_takeHead (l := l) hc22) (cwV 1 hts (gdV k_4_77 k_4_79 ks_30 k_1_4 k_4_80) rfl rfl rfl (by decide +kernel) ⟨Nat.le_of_ble_eq_true rfl, Nat.le_of_ble_eq_true rfl⟩) (zPV X hZ19 hS19 (ci := 3) g14.1 g14.2 (r := (RX3, TX3, 22)) rfl [.ref (ad 6 l2 0)]) rfl rfl hl.1 rfl (lv_room (Nat.le_of_ble_eq_true rfl)) d_5_2_83 ⟨hk0.1, hk0.2⟩) hS19 (fun q _ h => zAin X hS19 q h) (zAin X hS19) (fun p22 u22 t22 H22 locs22 ht22 hv22 hw22 hB22 hz22 hk22 hS22 => ?_)
            have hZ22 := zBack X ht22 hB22
            subst hw22
            exact b_Parser_parse_86 ih mih X hG hf hZ22 hS22 (lv_sub hl [0, 2, 3] rfl)
          · replace hf := gneg hf h21
            refine lv_aload_n hx hb d_5_2_74 rfl (lv_at hl 2 rfl) ?_
            obtain ⟨r23, F23, B23, hc23, hf⟩ := gbindN hf
            refine va_calli (va_runV (As := []) (rest := []) ⟨hx, hb, hml, hown, hts⟩ (c_Parser_takeLet (l := l) hc23) (cwV 0 hts (gdV k_3_171 k_3_173 ks_4 k_1_4 k_3_174) rfl rfl rfl (by decide +kernel) ⟨Nat.le_of_ble_eq_true rfl, Nat.le_of_ble_eq_true rfl⟩) (zPV X hZ19 hS19 (ci := 3) g14.1 g14.2 (r := (RX3, TX3, 22)) rfl []) rfl rfl hl.1 rfl (lv_room (Nat.le_of_ble_eq_true rfl)) d_5_2_75 ⟨hk0.1, hk0.2⟩) hS19 (fun q _ h => zAin X hS19 q h) (zAin X hS19) (fun p23 u23 t23 H23 locs23 ht23 hv23 hw23 hB23 hz23 hk23 hS23 => ?_)
            have hZ23 := zBack X ht23 hB23
            subst hw23
            refine lv_goto (tgt := 86) hx hb d_5_2_78 (by decide) ?_
            exact b_Parser_parse_86 ih mih X hG hf hZ23 hS23 (lv_sub hl [0, 2, 3] rfl)

def f_Parser_parse (K : zK) (l0 : Int) (l1 : Int) (l2 : Int) (F : zF) (B : zB) : zOm := if 0 ≤ l0 ∧ l0 < K.2 3 then if 0 ≤ (F 3 l0 11) ∧ (F 3 l0 11) < K.2 10 then zbindN (f_Tokens_start K (F 3 l0 11) l1 (zup3 (zup3 (zup3 (zup3 (zup3 (zup3 F 3 l0 14 0) 3 l0 15 0) 3 l0 16 0) 3 l0 17 0) 3 l0 18 0) 3 l0 21 0) B) (fun r9 F9 B9 => f_Parser_parse_43 K.1 K 0 1 l0 l2 F9 B9) else none else none
theorem m_Parser_parse {K : zK} {l0 : Int} {l1 : Int} {l2 : Int} {F : zF} {B : zB} {r : Int} {F9 : zF} {B9 : zB} {K9 : zK} (hf : f_Parser_parse K l0 l1 l2 F B = some (r, F9, B9, K9)) : zKle K K9 := by
  replace hf : (if 0 ≤ l0 ∧ l0 < K.2 3 then if 0 ≤ (F 3 l0 11) ∧ (F 3 l0 11) < K.2 10 then zbindN (f_Tokens_start K (F 3 l0 11) l1 (zup3 (zup3 (zup3 (zup3 (zup3 (zup3 F 3 l0 14 0) 3 l0 15 0) 3 l0 16 0) 3 l0 17 0) 3 l0 18 0) 3 l0 21 0) B) (fun r9 F9 B9 => f_Parser_parse_43 K.1 K 0 1 l0 l2 F9 B9) else none else none) = some (r, F9, B9, K9) := hf
  obtain ⟨g1, hf⟩ := gif hf
  obtain ⟨g8, hf⟩ := gif hf
  obtain ⟨r9, F9, B9, hc9, hf⟩ := gbindN hf
  exact m_Parser_parse_43 hf

set_option maxHeartbeats 4000000 in
set_option maxRecDepth 100000 in
theorem c_Parser_parse {l : Launch} {D : va_G} {ca : Nat → ClassId} {ad : Nat → Int → Nat → Nat} {L : List Nat} {aS vS : Nat → Nat} {sz : Nat} {K : zK} {l0 : Int} {l1 : Int} {l2 : Int} {F : zF} {B : zB} {r : Int} {F9 : zF} {B9 : zB} {K9 : zK} (hf : f_Parser_parse K l0 l1 l2 F B = some (r, F9, B9, K9)) : Met l ({ cls := "StaveHouse$Parser", name := "parse", desc := "(LStaveHouse$ByteRow;LStaveHouse$Piece;)I" } : Jvm.MethodName) (Cond.code ({ cls := "StaveHouse$Parser", name := "parse", desc := "(LStaveHouse$ByteRow;LStaveHouse$Piece;)I" } : Jvm.MethodName) prog_5_method_2_code 5 (Option.some Jvm.ClassFile.FieldType.int) :: wAll) ({ frames := 69, cells := cwC K K9, slots := swC K K9, locals := 1683 } : Room) (va_Pc [.ref (ad 3 l0 0), .ref (ad 0 l1 0), .ref (ad 6 l2 0)] (zPre D ca ad lnC K.2 L aS vS F B sz)) (Q_Parser_parse K D ca ad r F9 B9 K9 (zA L sz)) (cwC K K9) (swC K K9) (zA L sz) := by
  refine zMet (Qc := Q_Parser_parse K D ca ad r F9 B9 K9) (lv := [(0, .ref (ad 3 l0 0)), (1, .ref (ad 0 l1 0)), (2, .ref (ad 6 l2 0))]) (by decide) (Nat.le_of_ble_eq_true rfl) rfl (fun A p e s m below meth c ls X hZ hS hl => ?_)
  obtain ⟨hx, hb, hr, hml, hown, hts, hlk, hK, hA, hL, hX⟩ := id X
  have hG : zG ad K.2 ad K.2 := zG.rf
  refine W.widen (k := cwC K K) (n := swC K K) (Nat.zero_le _) (Nat.zero_le _) ?_
  have hk0 := zroom0 (K0 := K) (m_Parser_parse hf)
  replace hf : (if 0 ≤ l0 ∧ l0 < K.2 3 then if 0 ≤ (F 3 l0 11) ∧ (F 3 l0 11) < K.2 10 then zbindN (f_Tokens_start K (F 3 l0 11) l1 (zup3 (zup3 (zup3 (zup3 (zup3 (zup3 F 3 l0 14 0) 3 l0 15 0) 3 l0 16 0) 3 l0 17 0) 3 l0 18 0) 3 l0 21 0) B) (fun r9 F9 B9 => f_Parser_parse_43 K.1 K 0 1 l0 l2 F9 B9) else none else none) = some (r, F9, B9, K9) := hf
  refine lv_aload_n hx hb d_5_2_0 rfl (lv_at hl 0 rfl) ?_
  refine lv_iconst (v := iI 0) hx hb d_5_2_1 rfl ?_
  obtain ⟨g1, hf⟩ := gif hf
  refine zput (ci := 3) (C := RX3) (T := TX3) (k := 14) (v := 0) (w := .int (iI 0)) hx hb hts inW_3 tyX3 tyX3_ok nmX3 hown hK hZ hS g1.1 g1.2 rfl (by decide) k_1_131 rfl (fun G h => congrArg (fun q => Value.int (iI q)) h) rfl rfl (zno (by decide)) d_5_2_2 (fun H2 locs2 hZ2 hS2 => ?_)
  refine lv_aload_n hx hb d_5_2_5 rfl (lv_at hl 0 rfl) ?_
  refine lv_iconst (v := iI 0) hx hb d_5_2_6 rfl ?_
  refine zput (ci := 3) (C := RX3) (T := TX3) (k := 15) (v := 0) (w := .int (iI 0)) hx hb hts inW_3 tyX3 tyX3_ok nmX3 hown hK hZ2 hS2 g1.1 g1.2 rfl (by decide) k_1_132 rfl (fun G h => congrArg (fun q => Value.int (iI q)) h) rfl rfl (zno (by decide)) d_5_2_7 (fun H3 locs3 hZ3 hS3 => ?_)
  refine lv_aload_n hx hb d_5_2_10 rfl (lv_at hl 0 rfl) ?_
  refine lv_iconst (v := iI 0) hx hb d_5_2_11 rfl ?_
  refine zput (ci := 3) (C := RX3) (T := TX3) (k := 16) (v := 0) (w := .int (iI 0)) hx hb hts inW_3 tyX3 tyX3_ok nmX3 hown hK hZ3 hS3 g1.1 g1.2 rfl (by decide) k_1_133 rfl (fun G h => congrArg (fun q => Value.int (iI q)) h) rfl rfl (zno (by decide)) d_5_2_12 (fun H4 locs4 hZ4 hS4 => ?_)
  refine lv_aload_n hx hb d_5_2_15 rfl (lv_at hl 0 rfl) ?_
  refine lv_iconst (v := iI 0) hx hb d_5_2_16 rfl ?_
  refine zput (ci := 3) (C := RX3) (T := TX3) (k := 17) (v := 0) (w := .int (iI 0)) hx hb hts inW_3 tyX3 tyX3_ok nmX3 hown hK hZ4 hS4 g1.1 g1.2 rfl (by decide) k_1_134 rfl (fun G h => congrArg (fun q => Value.int (iI q)) h) rfl rfl (zno (by decide)) d_5_2_17 (fun H5 locs5 hZ5 hS5 => ?_)
  refine lv_aload_n hx hb d_5_2_20 rfl (lv_at hl 0 rfl) ?_
  refine lv_iconst (v := iI 0) hx hb d_5_2_21 rfl ?_
  refine zput (ci := 3) (C := RX3) (T := TX3) (k := 18) (v := 0) (w := .int (iI 0)) hx hb hts inW_3 tyX3 tyX3_ok nmX3 hown hK hZ5 hS5 g1.1 g1.2 rfl (by decide) k_1_135 rfl (fun G h => congrArg (fun q => Value.int (iI q)) h) rfl rfl (zno (by decide)) d_5_2_22 (fun H6 locs6 hZ6 hS6 => ?_)
  refine lv_aload_n hx hb d_5_2_25 rfl (lv_at hl 0 rfl) ?_
  refine lv_iconst (v := iI 0) hx hb d_5_2_26 rfl ?_
  refine zput (ci := 3) (C := RX3) (T := TX3) (k := 21) (v := 0) (w := .int (iI 0)) hx hb hts inW_3 tyX3 tyX3_ok nmX3 hown hK hZ6 hS6 g1.1 g1.2 rfl (by decide) k_1_138 rfl (fun G h => congrArg (fun q => Value.int (iI q)) h) rfl rfl (zno (by decide)) d_5_2_27 (fun H7 locs7 hZ7 hS7 => ?_)
  refine lv_aload_n hx hb d_5_2_30 rfl (lv_at hl 0 rfl) ?_
  refine zget (ci := 3) (C := RX3) (T := TX3) (v := va_rf (zrf ad 10 (F 3 l0 11))) (k := 11) hx hb hts inW_3 hown hK hZ7 g1.1 g1.2 rfl (by decide) k_1_128 (congrArg (fun q : Int => va_rf (zrf ad 10 q)) (show (zup3 (zup3 (zup3 (zup3 (zup3 (zup3 F 3 l0 14 0) 3 l0 15 0) 3 l0 16 0) 3 l0 17 0) 3 l0 18 0) 3 l0 21 0) 3 l0 11 = F 3 l0 11 by simp [zup3])) d_5_2_31 ?_
  refine lv_aload_n hx hb d_5_2_34 rfl (lv_at hl 1 rfl) ?_
  obtain ⟨g8, hf⟩ := gif hf
  refine W.eq (g2 := F0 m 35 ls [.ref (ad 0 l1 0), .ref (ad 10 (F 3 l0 11) 0)]) (by rw [zrf_pos (ad := ad) (t := 10) g8.1]; try rfl) ?_
  obtain ⟨r9, F9, B9, hc9, hf⟩ := gbindN hf
  refine va_callv (va_runV (As := [.ref (ad 0 l1 0)]) (rest := []) ⟨hx, hb, hml, hown, hts⟩ (c_Tokens_start (l := l) hc9) (cwV 1 hts (gdV k_3_30 k_3_31 k_3_32 k_1_5 k_3_33) rfl rfl rfl (by decide +kernel) ⟨Nat.le_of_ble_eq_true rfl, Nat.le_of_ble_eq_true rfl⟩) (zPV X hZ7 hS7 (ci := 10) g8.1 g8.2 (r := (RX10, TX10, 9)) rfl [.ref (ad 0 l1 0)]) rfl rfl hl.1 rfl (lv_room (Nat.le_of_ble_eq_true rfl)) d_5_2_35 ⟨hk0.1, hk0.2⟩) hS7 (fun q _ h => zAin X hS7 q h) (zAin X hS7) (fun u9 t9 H9 locs9 ht9 hv9 hw9 hB9 hz9 hk9 hS9 => ?_)
  have hZ9 := zBack X ht9 hB9
  refine lv_iconst (v := iI 1) hx hb d_5_2_38 rfl ?_
  refine lv_istore_n (lv' := [(3, .int (iI 1)), (0, .ref (ad 3 l0 0)), (1, .ref (ad 0 l1 0)), (2, .ref (ad 6 l2 0))]) hx hb d_5_2_39 rfl hl (by decide) rfl (fun ls hl => ?_)
  refine lv_iconst (v := iI 0) hx hb d_5_2_40 rfl ?_
  refine lv_istore (lv' := [(4, .int (iI 0)), (3, .int (iI 1)), (0, .ref (ad 3 l0 0)), (1, .ref (ad 0 l1 0)), (2, .ref (ad 6 l2 0))]) hx hb d_5_2_41 hl (by decide) rfl (fun ls hl => ?_)
  exact b_Parser_parse_43 X hG hf hZ9 hS9 (lv_sub hl [0, 1, 2, 4] rfl)

abbrev Q_S_read (K : zK) (D : va_G) (ca : Nat → ClassId) (ad : Nat → Int → Nat → Nat) (r : Int) (F : zF) (B : zB) (K9 : zK) (A : Nat → Prop) : Array Value → State → Outcome → State → Prop := va_Qi (S := (Nat → Int → Nat → Nat) × List Nat) (fun p u => p = iI r ∧ zG ad K.2 u.1 K9.2) (fun u => zPo D ca u.1 lnC K9.2 u.2 F B A) A
def f_S_read_140 (K : zK) (l2 : Int) (l0 : Int) (l1 : Int) (F : zF) (B : zB) : zOm := if r32 l2 then (if l2 = 0 then if 0 ≤ l0 ∧ l0 < K.2 12 then if 0 ≤ l1 ∧ l1 < 2 then if 0 ≤ (F 12 l0 7) ∧ (F 12 l0 7) < K.2 6 then if (B 12 l0 3 l1) < K.2 6 then some (0, (zup3 F 12 l0 7 (B 12 l0 3 l1)), (zup4 B 12 l0 3 l1 (F 12 l0 7)), K) else none else none else none else none else some (l2, F, B, K)) else none
theorem m_S_read_140 {K : zK} {l2 : Int} {l0 : Int} {l1 : Int} {F : zF} {B : zB} {r : Int} {F9 : zF} {B9 : zB} {K9 : zK} (hf : f_S_read_140 K l2 l0 l1 F B = some (r, F9, B9, K9)) : zKle K K9 := by
  replace hf : (if r32 l2 then (if l2 = 0 then if 0 ≤ l0 ∧ l0 < K.2 12 then if 0 ≤ l1 ∧ l1 < 2 then if 0 ≤ (F 12 l0 7) ∧ (F 12 l0 7) < K.2 6 then if (B 12 l0 3 l1) < K.2 6 then some (0, (zup3 F 12 l0 7 (B 12 l0 3 l1)), (zup4 B 12 l0 3 l1 (F 12 l0 7)), K) else none else none else none else none else some (l2, F, B, K)) else none) = some (r, F9, B9, K9) := hf
  obtain ⟨g42, hf⟩ := gif hf
  refine (Classical.em (l2 = 0)).elim (fun h43 => ?_) (fun h43 => ?_)
  · replace hf := gpos hf h43
    obtain ⟨g44, hf⟩ := gif hf
    obtain ⟨g45, hf⟩ := gif hf
    obtain ⟨g46, hf⟩ := gif hf
    obtain ⟨g49, hf⟩ := gif hf
    cases hf
    exact zKle.rf
  · replace hf := gneg hf h43
    cases hf
    exact zKle.rf

set_option maxHeartbeats 4000000 in
set_option maxRecDepth 100000 in
theorem b_S_read_140 {D : va_G} {ca : Nat → ClassId} {ad0 : Nat → Int → Nat → Nat} {aS vS : Nat → Nat} {A : Nat → Prop} {p : Program} {l : Launch} {e : Env} {s : State} {m : MethodId} {args : Array Value} {below : List Frame} {meth : Method} {c : Code} {K0 : zK} {r : Int} {F9 : zF} {B9 : zB} {K9 : zK} {K : zK} {l2 : Int} {l0 : Int} {l1 : Int} {F : zF} {B : zB} {ad : Nat → Int → Nat → Nat} {L : List Nat} {H : Heap} {locs : List Loc} {ls : Array Slot} : zX D ca L aS vS A p s m args meth c prog_1_method_5_code 4 (Option.some Jvm.ClassFile.FieldType.int) "StaveHouse" → zG ad0 K0.2 ad K.2 → f_S_read_140 K l2 l0 l1 F B = some (r, F9, B9, K9) → zH D ca ad lnC K.2 L F B A H → va_S A s.heap H locs → lv_has ls 4 [(2, .int (iI l2)), (0, .ref (ad 12 l0 0)), (1, .int (iI l1))] → W p l e ({ frames := 207, cells := cwC K0 K9, slots := swC K0 K9, locals := 5143 } : Room) s m args below meth c H locs (cwC K0 K) (swC K0 K) (MQ below (Q_S_read K0 D ca ad0 r F9 B9 K9 A) args s (cwC K0 K9) (swC K0 K9) A) (F0 m 140 ls []) := by
  intro X hG hf hZ hS hl
  obtain ⟨hx, hb, hr, hml, hown, hts, hlk, hK, hA, hL, hX⟩ := id X
  have hk0 := zroom0 (K0 := K0) (m_S_read_140 hf)
  replace hf : (if r32 l2 then (if l2 = 0 then if 0 ≤ l0 ∧ l0 < K.2 12 then if 0 ≤ l1 ∧ l1 < 2 then if 0 ≤ (F 12 l0 7) ∧ (F 12 l0 7) < K.2 6 then if (B 12 l0 3 l1) < K.2 6 then some (0, (zup3 F 12 l0 7 (B 12 l0 3 l1)), (zup4 B 12 l0 3 l1 (F 12 l0 7)), K) else none else none else none else none else some (l2, F, B, K)) else none) = some (r, F9, B9, K9) := hf
  refine lv_iload_n hx hb d_1_5_140 rfl (lv_at hl 0 rfl) ?_
  obtain ⟨g42, hf⟩ := gif hf
  refine z0eq (tgt := 146) hx hb g42 d_1_5_141 (by decide) (fun h43 => ?_) (fun h43 => ?_)
  · replace hf := gpos hf h43
    refine lv_aload_n hx hb d_1_5_146 rfl (lv_at hl 1 rfl) ?_
    obtain ⟨g44, hf⟩ := gif hf
    refine zget (ci := 12) (C := RX12) (T := TX12) (v := .ref (ad 12 l0 (3 + 1))) (k := 3) hx hb hts inW_12 hown hK hZ g44.1 g44.2 rfl (by decide) k_2_130 rfl d_1_5_147 ?_
    refine lv_iload_n hx hb d_1_5_150 rfl (lv_at hl 2 rfl) ?_
    obtain ⟨g45, hf⟩ := gif hf
    refine zaldR (t := 6) (x := 4) (ci := 12) (k := 3) hx hb hK rfl rfl hZ g44.1 g44.2 rfl (Nat.le_of_ble_eq_true rfl) g45.1 g45.2 d_1_5_151 ?_
    refine zastore_n (lv' := [(2, .int (iI l2)), (0, .ref (ad 12 l0 0)), (1, .int (iI l1))]) hx hb d_1_5_152 rfl hl (by decide) (fun _ _ => rfl) (fun ls hl => ?_)
    refine lv_aload_n hx hb d_1_5_153 rfl (lv_at hl 2 rfl) ?_
    refine zget (ci := 12) (C := RX12) (T := TX12) (v := .ref (ad 12 l0 (3 + 1))) (k := 3) hx hb hts inW_12 hown hK hZ g44.1 g44.2 rfl (by decide) k_2_130 rfl d_1_5_154 ?_
    refine lv_iload_n hx hb d_1_5_157 rfl (lv_at hl 3 rfl) ?_
    refine lv_aload_n hx hb d_1_5_158 rfl (lv_at hl 2 rfl) ?_
    refine zget (ci := 12) (C := RX12) (T := TX12) (v := va_rf (zrf ad 6 (F 12 l0 7))) (k := 7) hx hb hts inW_12 hown hK hZ g44.1 g44.2 rfl (by decide) k_2_134 rfl d_1_5_159 ?_
    obtain ⟨g46, hf⟩ := gif hf
    refine W.eq (g2 := F0 m 162 ls [.ref (ad 6 (F 12 l0 7) 0), .int (iI l1), .ref (ad 12 l0 (3 + 1))]) (by rw [zrf_pos (ad := ad) (t := 6) g46.1]; try rfl) ?_
    refine zastR (t := 6) (x := 4) (r := (RX6, TX6, 14)) (ci := 12) (k := 3) hx hb hK rfl rfl rfl hZ hS g44.1 g44.2 rfl (Nat.le_of_ble_eq_true rfl) g46.1 g46.2 g45.1 g45.2 d_1_5_162 (fun H47 locs47 hZ47 hS47 => ?_)
    refine lv_aload_n hx hb d_1_5_163 rfl (lv_at hl 2 rfl) ?_
    refine zaload_n hx hb d_1_5_164 rfl (lv_at hl 0 rfl) ?_
    obtain ⟨g49, hf⟩ := gif hf
    refine zput (ci := 12) (C := RX12) (T := TX12) (k := 7) (v := (B 12 l0 3 l1)) (w := va_rf (zrf ad 6 (B 12 l0 3 l1))) hx hb hts inW_12 tyX12 tyX12_ok nmX12 hown hK hZ47 hS47 g44.1 g44.2 rfl (by decide) k_2_134 rfl (fun G h => congrArg (fun q => va_rf (zrf ad 6 q)) h) (zrf_nar rfl _) (zrf_fit rfl _) (zyes (t0 := 6) rfl g49) d_1_5_165 (fun H48 locs48 hZ48 hS48 => ?_)
    refine lv_iconst (v := iI 0) hx hb d_1_5_168 rfl ?_
    cases hf
    exact W.iret hx hb hr (fun t ht hW => ⟨⟨_, (ad, L), rfl, ⟨rfl, hG⟩, by rw [ht]; exact hZ48, va_K.moved hW.alike hK⟩, hS48.F ht⟩) hS48.2.2 d_1_5_169 hlk
  · replace hf := gneg hf h43
    refine lv_iload_n hx hb d_1_5_144 rfl (lv_at hl 0 rfl) ?_
    cases hf
    exact W.iret hx hb hr (fun t ht hW => ⟨⟨_, (ad, L), rfl, ⟨rfl, hG⟩, by rw [ht]; exact hZ, va_K.moved hW.alike hK⟩, hS.F ht⟩) hS.2.2 d_1_5_145 hlk

def f_S_read_121 (K : zK) (l2 : Int) (l0 : Int) (l1 : Int) (F : zF) (B : zB) : zOm := if 0 ≤ l0 ∧ l0 < K.2 12 then if 0 ≤ (F 12 l0 0) ∧ (F 12 l0 0) < K.2 0 then zbindN (f_ByteRow_clear K (F 12 l0 0) F B) (fun r37 F37 B37 => if r32 l2 then (if l2 = 0 then if 0 ≤ (F37 12 l0 7) ∧ (F37 12 l0 7) < K.2 6 then zbindN (f_Piece_judgeEnds K (F37 12 l0 7) F37 B37) (fun r41 F41 B41 => f_S_read_140 K r41 l0 l1 F41 B41) else none else f_S_read_140 K l2 l0 l1 F37 B37) else none) else none else none
theorem m_S_read_121 {K : zK} {l2 : Int} {l0 : Int} {l1 : Int} {F : zF} {B : zB} {r : Int} {F9 : zF} {B9 : zB} {K9 : zK} (hf : f_S_read_121 K l2 l0 l1 F B = some (r, F9, B9, K9)) : zKle K K9 := by
  replace hf : (if 0 ≤ l0 ∧ l0 < K.2 12 then if 0 ≤ (F 12 l0 0) ∧ (F 12 l0 0) < K.2 0 then zbindN (f_ByteRow_clear K (F 12 l0 0) F B) (fun r37 F37 B37 => if r32 l2 then (if l2 = 0 then if 0 ≤ (F37 12 l0 7) ∧ (F37 12 l0 7) < K.2 6 then zbindN (f_Piece_judgeEnds K (F37 12 l0 7) F37 B37) (fun r41 F41 B41 => f_S_read_140 K r41 l0 l1 F41 B41) else none else f_S_read_140 K l2 l0 l1 F37 B37) else none) else none else none) = some (r, F9, B9, K9) := hf
  obtain ⟨g35, hf⟩ := gif hf
  obtain ⟨g36, hf⟩ := gif hf
  obtain ⟨r37, F37, B37, hc37, hf⟩ := gbindN hf
  obtain ⟨g38, hf⟩ := gif hf
  refine (Classical.em (l2 = 0)).symm.elim (fun h39 => ?_) (fun h39 => ?_)
  · replace hf := gneg hf h39
    exact m_S_read_140 hf
  · replace hf := gpos hf h39
    obtain ⟨g40, hf⟩ := gif hf
    obtain ⟨r41, F41, B41, hc41, hf⟩ := gbindN hf
    exact m_S_read_140 hf

set_option maxHeartbeats 4000000 in
set_option maxRecDepth 100000 in
theorem b_S_read_121 {D : va_G} {ca : Nat → ClassId} {ad0 : Nat → Int → Nat → Nat} {aS vS : Nat → Nat} {A : Nat → Prop} {p : Program} {l : Launch} {e : Env} {s : State} {m : MethodId} {args : Array Value} {below : List Frame} {meth : Method} {c : Code} {K0 : zK} {r : Int} {F9 : zF} {B9 : zB} {K9 : zK} {K : zK} {l2 : Int} {l0 : Int} {l1 : Int} {F : zF} {B : zB} {ad : Nat → Int → Nat → Nat} {L : List Nat} {H : Heap} {locs : List Loc} {ls : Array Slot} : zX D ca L aS vS A p s m args meth c prog_1_method_5_code 4 (Option.some Jvm.ClassFile.FieldType.int) "StaveHouse" → zG ad0 K0.2 ad K.2 → f_S_read_121 K l2 l0 l1 F B = some (r, F9, B9, K9) → zH D ca ad lnC K.2 L F B A H → va_S A s.heap H locs → lv_has ls 4 [(2, .int (iI l2)), (0, .ref (ad 12 l0 0)), (1, .int (iI l1))] → W p l e ({ frames := 207, cells := cwC K0 K9, slots := swC K0 K9, locals := 5143 } : Room) s m args below meth c H locs (cwC K0 K) (swC K0 K) (MQ below (Q_S_read K0 D ca ad0 r F9 B9 K9 A) args s (cwC K0 K9) (swC K0 K9) A) (F0 m 121 ls []) := by
  intro X hG hf hZ hS hl
  obtain ⟨hx, hb, hr, hml, hown, hts, hlk, hK, hA, hL, hX⟩ := id X
  have hk0 := zroom0 (K0 := K0) (m_S_read_121 hf)
  replace hf : (if 0 ≤ l0 ∧ l0 < K.2 12 then if 0 ≤ (F 12 l0 0) ∧ (F 12 l0 0) < K.2 0 then zbindN (f_ByteRow_clear K (F 12 l0 0) F B) (fun r37 F37 B37 => if r32 l2 then (if l2 = 0 then if 0 ≤ (F37 12 l0 7) ∧ (F37 12 l0 7) < K.2 6 then zbindN (f_Piece_judgeEnds K (F37 12 l0 7) F37 B37) (fun r41 F41 B41 => f_S_read_140 K r41 l0 l1 F41 B41) else none else f_S_read_140 K l2 l0 l1 F37 B37) else none) else none else none) = some (r, F9, B9, K9) := hf
  refine lv_aload_n hx hb d_1_5_121 rfl (lv_at hl 1 rfl) ?_
  obtain ⟨g35, hf⟩ := gif hf
  refine zget (ci := 12) (C := RX12) (T := TX12) (v := va_rf (zrf ad 0 (F 12 l0 0))) (k := 0) hx hb hts inW_12 hown hK hZ g35.1 g35.2 rfl (by decide) k_2_127 rfl d_1_5_122 ?_
  obtain ⟨g36, hf⟩ := gif hf
  refine W.eq (g2 := F0 m 125 ls [.ref (ad 0 (F 12 l0 0) 0)]) (by rw [zrf_pos (ad := ad) (t := 0) g36.1]; try rfl) ?_
  obtain ⟨r37, F37, B37, hc37, hf⟩ := gbindN hf
  refine va_callv (va_runV (As := []) (rest := []) ⟨hx, hb, hml, hown, hts⟩ (c_ByteRow_clear (l := l) hc37) (cwV 0 hts (gdV k_5_166 k_5_167 k_5_168 k_1_2 k_5_169) rfl rfl rfl (by decide +kernel) ⟨Nat.le_of_ble_eq_true rfl, Nat.le_of_ble_eq_true rfl⟩) (zPV X hZ hS (ci := 0) g36.1 g36.2 (r := (RX0, TX0, 3)) rfl []) rfl rfl hl.1 rfl (lv_room (Nat.le_of_ble_eq_true rfl)) d_1_5_125 ⟨hk0.1, hk0.2⟩) hS (fun q _ h => zAin X hS q h) (zAin X hS) (fun u37 t37 H37 locs37 ht37 hv37 hw37 hB37 hz37 hk37 hS37 => ?_)
  have hZ37 := zBack X ht37 hB37
  refine lv_iload_n hx hb d_1_5_128 rfl (lv_at hl 0 rfl) ?_
  obtain ⟨g38, hf⟩ := gif hf
  refine z0ne (tgt := 140) hx hb g38 d_1_5_129 (by decide) (fun h39 => ?_) (fun h39 => ?_)
  · replace hf := gneg hf h39
    exact b_S_read_140 X hG hf hZ37 hS37 (lv_sub hl [0, 1, 2] rfl)
  · replace hf := gpos hf h39
    refine lv_aload_n hx hb d_1_5_132 rfl (lv_at hl 1 rfl) ?_
    refine zget (ci := 12) (C := RX12) (T := TX12) (v := va_rf (zrf ad 6 (F37 12 l0 7))) (k := 7) hx hb hts inW_12 hown hK hZ37 g35.1 g35.2 rfl (by decide) k_2_134 rfl d_1_5_133 ?_
    obtain ⟨g40, hf⟩ := gif hf
    refine W.eq (g2 := F0 m 136 ls [.ref (ad 6 (F37 12 l0 7) 0)]) (by rw [zrf_pos (ad := ad) (t := 6) g40.1]; try rfl) ?_
    obtain ⟨r41, F41, B41, hc41, hf⟩ := gbindN hf
    refine va_calli (va_runV (As := []) (rest := []) ⟨hx, hb, hml, hown, hts⟩ (c_Piece_judgeEnds (l := l) hc41) (cwV 0 hts (gdV k_5_170 k_5_171 k_5_172 k_1_15 k_5_173) rfl rfl rfl (by decide +kernel) ⟨Nat.le_of_ble_eq_true rfl, Nat.le_of_ble_eq_true rfl⟩) (zPV X hZ37 hS37 (ci := 6) g40.1 g40.2 (r := (RX6, TX6, 14)) rfl []) rfl rfl hl.1 rfl (lv_room (Nat.le_of_ble_eq_true rfl)) d_1_5_136 ⟨hk0.1, hk0.2⟩) hS37 (fun q _ h => zAin X hS37 q h) (zAin X hS37) (fun p41 u41 t41 H41 locs41 ht41 hv41 hw41 hB41 hz41 hk41 hS41 => ?_)
    have hZ41 := zBack X ht41 hB41
    subst hw41
    refine lv_istore_n (lv' := [(2, .int (iI r41)), (0, .ref (ad 12 l0 0)), (1, .int (iI l1))]) hx hb d_1_5_139 rfl hl (by decide) rfl (fun ls hl => ?_)
    exact b_S_read_140 X hG hf hZ41 hS41 (lv_sub hl [0, 1, 2] rfl)

def f_S_read_115 (rec54 : zK → Int → Int → Int → Int → zF → zB → zOm) (K : zK) (l2 : Int) (l3 : Int) (l0 : Int) (l1 : Int) (F : zF) (B : zB) : zOm := rec54 K (l3 + 1) l2 l0 l1 F B
theorem m_S_read_115 {rec54 : zK → Int → Int → Int → Int → zF → zB → zOm} (mrec54 : ∀ {K : zK} {l3 : Int} {l2 : Int} {l0 : Int} {l1 : Int} {F : zF} {B : zB} {r : Int} {F9 : zF} {B9 : zB} {K9 : zK}, rec54 K l3 l2 l0 l1 F B = some (r, F9, B9, K9) → zKle K K9) {K : zK} {l2 : Int} {l3 : Int} {l0 : Int} {l1 : Int} {F : zF} {B : zB} {r : Int} {F9 : zF} {B9 : zB} {K9 : zK} (hf : f_S_read_115 rec54 K l2 l3 l0 l1 F B = some (r, F9, B9, K9)) : zKle K K9 := by
  replace hf : (rec54 K (l3 + 1) l2 l0 l1 F B) = some (r, F9, B9, K9) := hf
  exact mrec54 hf

set_option maxHeartbeats 4000000 in
set_option maxRecDepth 100000 in
theorem b_S_read_115 {D : va_G} {ca : Nat → ClassId} {ad0 : Nat → Int → Nat → Nat} {aS vS : Nat → Nat} {A : Nat → Prop} {p : Program} {l : Launch} {e : Env} {s : State} {m : MethodId} {args : Array Value} {below : List Frame} {meth : Method} {c : Code} {K0 : zK} {r : Int} {F9 : zF} {B9 : zB} {K9 : zK} {rec54 : zK → Int → Int → Int → Int → zF → zB → zOm} (hrec54 : ∀ {K : zK} {l3 : Int} {l2 : Int} {l0 : Int} {l1 : Int} {F : zF} {B : zB} {ad : Nat → Int → Nat → Nat} {L : List Nat} {H : Heap} {locs : List Loc} {ls : Array Slot}, zX D ca L aS vS A p s m args meth c prog_1_method_5_code 4 (Option.some Jvm.ClassFile.FieldType.int) "StaveHouse" → zG ad0 K0.2 ad K.2 → rec54 K l3 l2 l0 l1 F B = some (r, F9, B9, K9) → zH D ca ad lnC K.2 L F B A H → va_S A s.heap H locs → lv_has ls 4 [(3, .int (iI l3)), (2, .int (iI l2)), (0, .ref (ad 12 l0 0)), (1, .int (iI l1))] → W p l e ({ frames := 207, cells := cwC K0 K9, slots := swC K0 K9, locals := 5143 } : Room) s m args below meth c H locs (cwC K0 K) (swC K0 K) (MQ below (Q_S_read K0 D ca ad0 r F9 B9 K9 A) args s (cwC K0 K9) (swC K0 K9) A) (F0 m 54 ls [])) (mrec54 : ∀ {K : zK} {l3 : Int} {l2 : Int} {l0 : Int} {l1 : Int} {F : zF} {B : zB} {r : Int} {F9 : zF} {B9 : zB} {K9 : zK}, rec54 K l3 l2 l0 l1 F B = some (r, F9, B9, K9) → zKle K K9) {K : zK} {l2 : Int} {l3 : Int} {l0 : Int} {l1 : Int} {F : zF} {B : zB} {ad : Nat → Int → Nat → Nat} {L : List Nat} {H : Heap} {locs : List Loc} {ls : Array Slot} : zX D ca L aS vS A p s m args meth c prog_1_method_5_code 4 (Option.some Jvm.ClassFile.FieldType.int) "StaveHouse" → zG ad0 K0.2 ad K.2 → f_S_read_115 rec54 K l2 l3 l0 l1 F B = some (r, F9, B9, K9) → zH D ca ad lnC K.2 L F B A H → va_S A s.heap H locs → lv_has ls 4 [(2, .int (iI l2)), (3, .int (iI l3)), (0, .ref (ad 12 l0 0)), (1, .int (iI l1))] → W p l e ({ frames := 207, cells := cwC K0 K9, slots := swC K0 K9, locals := 5143 } : Room) s m args below meth c H locs (cwC K0 K) (swC K0 K) (MQ below (Q_S_read K0 D ca ad0 r F9 B9 K9 A) args s (cwC K0 K9) (swC K0 K9) A) (F0 m 115 ls []) := by
  intro X hG hf hZ hS hl
  obtain ⟨hx, hb, hr, hml, hown, hts, hlk, hK, hA, hL, hX⟩ := id X
  have hk0 := zroom0 (K0 := K0) (m_S_read_115 mrec54 hf)
  replace hf : (rec54 K (l3 + 1) l2 l0 l1 F B) = some (r, F9, B9, K9) := hf
  refine lv_iinc (v := iI (l3 + 1)) (lv' := [(3, .int (iI (l3 + 1))), (2, .int (iI l2)), (0, .ref (ad 12 l0 0)), (1, .int (iI l1))]) hx hb d_1_5_115 hl (k := 1) rfl (iI_add _ 1) (by decide) rfl (fun ls hl => ?_)
  refine lv_goto (tgt := 54) hx hb d_1_5_118 (by decide) ?_
  exact hrec54 X hG hf hZ hS (lv_sub hl [0, 1, 2, 3] rfl)

def f_S_read_54 : Nat → zK → Int → Int → Int → Int → zF → zB → zOm
  | 0, _, _, _, _, _, _, _ => none
  | n + 1, K, l3, l2, l0, l1, F, B => if 0 ≤ l0 ∧ l0 < K.2 12 then if 0 ≤ (F 12 l0 7) ∧ (F 12 l0 7) < K.2 6 then if r32 l3 then if r32 (F 6 (F 12 l0 7) 1) then (if (F 6 (F 12 l0 7) 1) ≤ l3 then f_S_read_121 K l2 l0 l1 F B else if r32 l2 then (if l2 = 0 then if 0 ≤ l3 ∧ l3 < 4 then if 0 ≤ (F 12 l0 5) ∧ (F 12 l0 5) < K.2 11 then if 0 ≤ (F 12 l0 4) ∧ (F 12 l0 4) < K.2 3 then if 0 ≤ (B 6 (F 12 l0 7) 0 l3) ∧ (B 6 (F 12 l0 7) 0 l3) < K.2 4 then zbindN (f_Walker_goVoice K (F 12 l0 5) (F 12 l0 4) (F 12 l0 7) (B 6 (F 12 l0 7) 0 l3) F B) (fun r28 F28 B28 => if r32 r28 then (if r28 = 0 then if 0 ≤ (F28 12 l0 7) ∧ (F28 12 l0 7) < K.2 6 then if 0 ≤ (B28 6 (F28 12 l0 7) 0 l3) ∧ (B28 6 (F28 12 l0 7) 0 l3) < K.2 4 then zbindN (f_Part_judge K (B28 6 (F28 12 l0 7) 0 l3) (F28 12 l0 7) F28 B28) (fun r34 F34 B34 => f_S_read_115 (f_S_read_54 n) K r34 l3 l0 l1 F34 B34) else none else none else f_S_read_115 (f_S_read_54 n) K r28 l3 l0 l1 F28 B28) else none) else none else none else none else none else f_S_read_121 K l2 l0 l1 F B) else none) else none else none else none else none
theorem m_S_read_54 : ∀ {n : Nat} {K : zK} {l3 : Int} {l2 : Int} {l0 : Int} {l1 : Int} {F : zF} {B : zB} {r : Int} {F9 : zF} {B9 : zB} {K9 : zK}, f_S_read_54 n K l3 l2 l0 l1 F B = some (r, F9, B9, K9) → zKle K K9 := by
  intro n
  induction n with
  | zero =>
    intros
    rename_i hf
    cases hf
  | succ n mih =>
    intro K l3 l2 l0 l1 F B r F9 B9 K9 hf
    replace hf : (if 0 ≤ l0 ∧ l0 < K.2 12 then if 0 ≤ (F 12 l0 7) ∧ (F 12 l0 7) < K.2 6 then if r32 l3 then if r32 (F 6 (F 12 l0 7) 1) then (if (F 6 (F 12 l0 7) 1) ≤ l3 then f_S_read_121 K l2 l0 l1 F B else if r32 l2 then (if l2 = 0 then if 0 ≤ l3 ∧ l3 < 4 then if 0 ≤ (F 12 l0 5) ∧ (F 12 l0 5) < K.2 11 then if 0 ≤ (F 12 l0 4) ∧ (F 12 l0 4) < K.2 3 then if 0 ≤ (B 6 (F 12 l0 7) 0 l3) ∧ (B 6 (F 12 l0 7) 0 l3) < K.2 4 then zbindN (f_Walker_goVoice K (F 12 l0 5) (F 12 l0 4) (F 12 l0 7) (B 6 (F 12 l0 7) 0 l3) F B) (fun r28 F28 B28 => if r32 r28 then (if r28 = 0 then if 0 ≤ (F28 12 l0 7) ∧ (F28 12 l0 7) < K.2 6 then if 0 ≤ (B28 6 (F28 12 l0 7) 0 l3) ∧ (B28 6 (F28 12 l0 7) 0 l3) < K.2 4 then zbindN (f_Part_judge K (B28 6 (F28 12 l0 7) 0 l3) (F28 12 l0 7) F28 B28) (fun r34 F34 B34 => f_S_read_115 (f_S_read_54 n) K r34 l3 l0 l1 F34 B34) else none else none else f_S_read_115 (f_S_read_54 n) K r28 l3 l0 l1 F28 B28) else none) else none else none else none else none else f_S_read_121 K l2 l0 l1 F B) else none) else none else none else none else none) = some (r, F9, B9, K9) := hf
    obtain ⟨g17, hf⟩ := gif hf
    obtain ⟨g18, hf⟩ := gif hf
    obtain ⟨g19, hf⟩ := gif hf
    obtain ⟨g20, hf⟩ := gif hf
    refine (Classical.em ((F 6 (F 12 l0 7) 1) ≤ l3)).elim (fun h21 => ?_) (fun h21 => ?_)
    · replace hf := gpos hf h21
      exact m_S_read_121 hf
    · replace hf := gneg hf h21
      obtain ⟨g22, hf⟩ := gif hf
      refine (Classical.em (l2 = 0)).symm.elim (fun h23 => ?_) (fun h23 => ?_)
      · replace hf := gneg hf h23
        exact m_S_read_121 hf
      · replace hf := gpos hf h23
        obtain ⟨g24, hf⟩ := gif hf
        obtain ⟨g25, hf⟩ := gif hf
        obtain ⟨g26, hf⟩ := gif hf
        obtain ⟨g27, hf⟩ := gif hf
        obtain ⟨r28, F28, B28, hc28, hf⟩ := gbindN hf
        obtain ⟨g29, hf⟩ := gif hf
        refine (Classical.em (r28 = 0)).symm.elim (fun h30 => ?_) (fun h30 => ?_)
        · replace hf := gneg hf h30
          exact (m_S_read_115 mih) hf
        · replace hf := gpos hf h30
          obtain ⟨g31, hf⟩ := gif hf
          obtain ⟨g33, hf⟩ := gif hf
          obtain ⟨r34, F34, B34, hc34, hf⟩ := gbindN hf
          exact (m_S_read_115 mih) hf

set_option maxHeartbeats 4000000 in
set_option maxRecDepth 100000 in
theorem b_S_read_54 {D : va_G} {ca : Nat → ClassId} {ad0 : Nat → Int → Nat → Nat} {aS vS : Nat → Nat} {A : Nat → Prop} {p : Program} {l : Launch} {e : Env} {s : State} {m : MethodId} {args : Array Value} {below : List Frame} {meth : Method} {c : Code} {K0 : zK} {r : Int} {F9 : zF} {B9 : zB} {K9 : zK} : ∀ {n : Nat} {K : zK} {l3 : Int} {l2 : Int} {l0 : Int} {l1 : Int} {F : zF} {B : zB} {ad : Nat → Int → Nat → Nat} {L : List Nat} {H : Heap} {locs : List Loc} {ls : Array Slot}, zX D ca L aS vS A p s m args meth c prog_1_method_5_code 4 (Option.some Jvm.ClassFile.FieldType.int) "StaveHouse" → zG ad0 K0.2 ad K.2 → f_S_read_54 n K l3 l2 l0 l1 F B = some (r, F9, B9, K9) → zH D ca ad lnC K.2 L F B A H → va_S A s.heap H locs → lv_has ls 4 [(3, .int (iI l3)), (2, .int (iI l2)), (0, .ref (ad 12 l0 0)), (1, .int (iI l1))] → W p l e ({ frames := 207, cells := cwC K0 K9, slots := swC K0 K9, locals := 5143 } : Room) s m args below meth c H locs (cwC K0 K) (swC K0 K) (MQ below (Q_S_read K0 D ca ad0 r F9 B9 K9 A) args s (cwC K0 K9) (swC K0 K9) A) (F0 m 54 ls []) := by
  intro n
  have mih : ∀ {K : zK} {l3 : Int} {l2 : Int} {l0 : Int} {l1 : Int} {F : zF} {B : zB} {r : Int} {F9 : zF} {B9 : zB} {K9 : zK}, f_S_read_54 n K l3 l2 l0 l1 F B = some (r, F9, B9, K9) → zKle K K9 := m_S_read_54
  induction n with
  | zero =>
    intros
    rename_i hf _ _ _
    cases hf
  | succ n ih0 =>
    clear mih
    have mih : ∀ {K : zK} {l3 : Int} {l2 : Int} {l0 : Int} {l1 : Int} {F : zF} {B : zB} {r : Int} {F9 : zF} {B9 : zB} {K9 : zK}, f_S_read_54 n K l3 l2 l0 l1 F B = some (r, F9, B9, K9) → zKle K K9 := m_S_read_54
    have ih := @ih0 mih
    intro K l3 l2 l0 l1 F B ad L H locs ls X hG hf hZ hS hl
    obtain ⟨hx, hb, hr, hml, hown, hts, hlk, hK, hA, hL, hX⟩ := id X
    have hk0 := zroom0 (K0 := K0) (m_S_read_54 hf)
    replace hf : (if 0 ≤ l0 ∧ l0 < K.2 12 then if 0 ≤ (F 12 l0 7) ∧ (F 12 l0 7) < K.2 6 then if r32 l3 then if r32 (F 6 (F 12 l0 7) 1) then (if (F 6 (F 12 l0 7) 1) ≤ l3 then f_S_read_121 K l2 l0 l1 F B else if r32 l2 then (if l2 = 0 then if 0 ≤ l3 ∧ l3 < 4 then if 0 ≤ (F 12 l0 5) ∧ (F 12 l0 5) < K.2 11 then if 0 ≤ (F 12 l0 4) ∧ (F 12 l0 4) < K.2 3 then if 0 ≤ (B 6 (F 12 l0 7) 0 l3) ∧ (B 6 (F 12 l0 7) 0 l3) < K.2 4 then zbindN (f_Walker_goVoice K (F 12 l0 5) (F 12 l0 4) (F 12 l0 7) (B 6 (F 12 l0 7) 0 l3) F B) (fun r28 F28 B28 => if r32 r28 then (if r28 = 0 then if 0 ≤ (F28 12 l0 7) ∧ (F28 12 l0 7) < K.2 6 then if 0 ≤ (B28 6 (F28 12 l0 7) 0 l3) ∧ (B28 6 (F28 12 l0 7) 0 l3) < K.2 4 then zbindN (f_Part_judge K (B28 6 (F28 12 l0 7) 0 l3) (F28 12 l0 7) F28 B28) (fun r34 F34 B34 => f_S_read_115 (f_S_read_54 n) K r34 l3 l0 l1 F34 B34) else none else none else f_S_read_115 (f_S_read_54 n) K r28 l3 l0 l1 F28 B28) else none) else none else none else none else none else f_S_read_121 K l2 l0 l1 F B) else none) else none else none else none else none) = some (r, F9, B9, K9) := hf
    refine lv_iload_n hx hb d_1_5_54 rfl (lv_at hl 0 rfl) ?_
    refine lv_aload_n hx hb d_1_5_55 rfl (lv_at hl 2 rfl) ?_
    obtain ⟨g17, hf⟩ := gif hf
    refine zget (ci := 12) (C := RX12) (T := TX12) (v := va_rf (zrf ad 6 (F 12 l0 7))) (k := 7) hx hb hts inW_12 hown hK hZ g17.1 g17.2 rfl (by decide) k_2_134 rfl d_1_5_56 ?_
    obtain ⟨g18, hf⟩ := gif hf
    refine zunrf g18.1 ?_
    refine zget (ci := 6) (C := RX6) (T := TX6) (v := .int (iI (F 6 (F 12 l0 7) 1))) (k := 1) hx hb hts inW_6 hown hK hZ g18.1 g18.2 rfl (by decide) k_2_194 rfl d_1_5_59 ?_
    obtain ⟨g19, hf⟩ := gif hf
    obtain ⟨g20, hf⟩ := gif hf
    refine zge (tgt := 121) hx hb g19 g20 d_1_5_62 (by decide) (fun h21 => ?_) (fun h21 => ?_)
    · replace hf := gpos hf h21
      exact b_S_read_121 X hG hf hZ hS (lv_sub hl [1, 2, 3] rfl)
    · replace hf := gneg hf h21
      refine lv_iload_n hx hb d_1_5_65 rfl (lv_at hl 1 rfl) ?_
      obtain ⟨g22, hf⟩ := gif hf
      refine z0ne (tgt := 121) hx hb g22 d_1_5_66 (by decide) (fun h23 => ?_) (fun h23 => ?_)
      · replace hf := gneg hf h23
        exact b_S_read_121 X hG hf hZ hS (lv_sub hl [1, 2, 3] rfl)
      · replace hf := gpos hf h23
        refine lv_aload_n hx hb d_1_5_69 rfl (lv_at hl 2 rfl) ?_
        refine zget (ci := 12) (C := RX12) (T := TX12) (v := va_rf (zrf ad 11 (F 12 l0 5))) (k := 5) hx hb hts inW_12 hown hK hZ g17.1 g17.2 rfl (by decide) k_2_132 rfl d_1_5_70 ?_
        refine lv_aload_n hx hb d_1_5_73 rfl (lv_at hl 2 rfl) ?_
        refine zget (ci := 12) (C := RX12) (T := TX12) (v := va_rf (zrf ad 3 (F 12 l0 4))) (k := 4) hx hb hts inW_12 hown hK hZ g17.1 g17.2 rfl (by decide) k_2_131 rfl d_1_5_74 ?_
        refine lv_aload_n hx hb d_1_5_77 rfl (lv_at hl 2 rfl) ?_
        refine zget (ci := 12) (C := RX12) (T := TX12) (v := va_rf (zrf ad 6 (F 12 l0 7))) (k := 7) hx hb hts inW_12 hown hK hZ g17.1 g17.2 rfl (by decide) k_2_134 rfl d_1_5_78 ?_
        refine lv_aload_n hx hb d_1_5_81 rfl (lv_at hl 2 rfl) ?_
        refine zget (ci := 12) (C := RX12) (T := TX12) (v := va_rf (zrf ad 6 (F 12 l0 7))) (k := 7) hx hb hts inW_12 hown hK hZ g17.1 g17.2 rfl (by decide) k_2_134 rfl d_1_5_82 ?_
        refine zunrf g18.1 ?_
        refine zget (ci := 6) (C := RX6) (T := TX6) (v := .ref (ad 6 (F 12 l0 7) (0 + 1))) (k := 0) hx hb hts inW_6 hown hK hZ g18.1 g18.2 rfl (by decide) k_2_189 rfl d_1_5_85 ?_
        refine lv_iload_n hx hb d_1_5_88 rfl (lv_at hl 0 rfl) ?_
        obtain ⟨g24, hf⟩ := gif hf
        refine zaldR (t := 4) (x := 6) (ci := 6) (k := 0) hx hb hK rfl rfl hZ g18.1 g18.2 rfl (Nat.le_of_ble_eq_true rfl) g24.1 g24.2 d_1_5_89 ?_
        obtain ⟨g25, hf⟩ := gif hf
        refine W.eq (g2 := F0 m 90 ls [va_rf (zrf ad 4 (B 6 (F 12 l0 7) 0 l3)), va_rf (zrf ad 6 (F 12 l0 7)), va_rf (zrf ad 3 (F 12 l0 4)), .ref (ad 11 (F 12 l0 5) 0)]) (by rw [zrf_pos (ad := ad) (t := 11) g25.1]; try rfl) ?_
        obtain ⟨g26, hf⟩ := gif hf
        refine W.eq (g2 := F0 m 90 ls [va_rf (zrf ad 4 (B 6 (F 12 l0 7) 0 l3)), va_rf (zrf ad 6 (F 12 l0 7)), .ref (ad 3 (F 12 l0 4) 0), .ref (ad 11 (F 12 l0 5) 0)]) (by rw [zrf_pos (ad := ad) (t := 3) g26.1]; try rfl) ?_
        refine W.eq (g2 := F0 m 90 ls [va_rf (zrf ad 4 (B 6 (F 12 l0 7) 0 l3)), .ref (ad 6 (F 12 l0 7) 0), .ref (ad 3 (F 12 l0 4) 0), .ref (ad 11 (F 12 l0 5) 0)]) (by rw [zrf_pos (ad := ad) (t := 6) g18.1]; try rfl) ?_
        obtain ⟨g27, hf⟩ := gif hf
        refine W.eq (g2 := F0 m 90 ls [.ref (ad 4 (B 6 (F 12 l0 7) 0 l3) 0), .ref (ad 6 (F 12 l0 7) 0), .ref (ad 3 (F 12 l0 4) 0), .ref (ad 11 (F 12 l0 5) 0)]) (by rw [zrf_pos (ad := ad) (t := 4) g27.1]; try rfl) ?_
        obtain ⟨r28, F28, B28, hc28, hf⟩ := gbindN hf
        refine va_calli (va_runV (As := [.ref (ad 3 (F 12 l0 4) 0), .ref (ad 6 (F 12 l0 7) 0), .ref (ad 4 (B 6 (F 12 l0 7) 0 l3) 0)]) (rest := []) ⟨hx, hb, hml, hown, hts⟩ (c_Walker_goVoice (l := l) hc28) (cwV 3 hts (gdV k_4_185 k_4_186 k_4_187 k_1_6 k_4_188) rfl rfl rfl (by decide +kernel) ⟨Nat.le_of_ble_eq_true rfl, Nat.le_of_ble_eq_true rfl⟩) (zPV X hZ hS (ci := 11) g25.1 g25.2 (r := (RX11, TX11, 19)) rfl [.ref (ad 3 (F 12 l0 4) 0), .ref (ad 6 (F 12 l0 7) 0), .ref (ad 4 (B 6 (F 12 l0 7) 0 l3) 0)]) rfl rfl hl.1 rfl (lv_room (Nat.le_of_ble_eq_true rfl)) d_1_5_90 ⟨hk0.1, hk0.2⟩) hS (fun q _ h => zAin X hS q h) (zAin X hS) (fun p28 u28 t28 H28 locs28 ht28 hv28 hw28 hB28 hz28 hk28 hS28 => ?_)
        have hZ28 := zBack X ht28 hB28
        subst hw28
        refine lv_istore_n (lv' := [(2, .int (iI r28)), (3, .int (iI l3)), (0, .ref (ad 12 l0 0)), (1, .int (iI l1))]) hx hb d_1_5_93 rfl hl (by decide) rfl (fun ls hl => ?_)
        refine lv_iload_n hx hb d_1_5_94 rfl (lv_at hl 0 rfl) ?_
        obtain ⟨g29, hf⟩ := gif hf
        refine z0ne (tgt := 115) hx hb g29 d_1_5_95 (by decide) (fun h30 => ?_) (fun h30 => ?_)
        · replace hf := gneg hf h30
          exact b_S_read_115 ih mih X hG hf hZ28 hS28 (lv_sub hl [0, 1, 2, 3] rfl)
        · replace hf := gpos hf h30
          refine lv_aload_n hx hb d_1_5_98 rfl (lv_at hl 2 rfl) ?_
          refine zget (ci := 12) (C := RX12) (T := TX12) (v := va_rf (zrf ad 6 (F28 12 l0 7))) (k := 7) hx hb hts inW_12 hown hK hZ28 g17.1 g17.2 rfl (by decide) k_2_134 rfl d_1_5_99 ?_
          obtain ⟨g31, hf⟩ := gif hf
          refine zunrf g31.1 ?_
          refine zget (ci := 6) (C := RX6) (T := TX6) (v := .ref (ad 6 (F28 12 l0 7) (0 + 1))) (k := 0) hx hb hts inW_6 hown hK hZ28 g31.1 g31.2 rfl (by decide) k_2_189 rfl d_1_5_102 ?_
          refine lv_iload_n hx hb d_1_5_105 rfl (lv_at hl 1 rfl) ?_
          refine zaldR (t := 4) (x := 6) (ci := 6) (k := 0) hx hb hK rfl rfl hZ28 g31.1 g31.2 rfl (Nat.le_of_ble_eq_true rfl) g24.1 g24.2 d_1_5_106 ?_
          refine lv_aload_n hx hb d_1_5_107 rfl (lv_at hl 2 rfl) ?_
          refine zget (ci := 12) (C := RX12) (T := TX12) (v := va_rf (zrf ad 6 (F28 12 l0 7))) (k := 7) hx hb hts inW_12 hown hK hZ28 g17.1 g17.2 rfl (by decide) k_2_134 rfl d_1_5_108 ?_
          obtain ⟨g33, hf⟩ := gif hf
          refine W.eq (g2 := F0 m 111 ls [va_rf (zrf ad 6 (F28 12 l0 7)), .ref (ad 4 (B28 6 (F28 12 l0 7) 0 l3) 0)]) (by rw [zrf_pos (ad := ad) (t := 4) g33.1]; try rfl) ?_
          refine W.eq (g2 := F0 m 111 ls [.ref (ad 6 (F28 12 l0 7) 0), .ref (ad 4 (B28 6 (F28 12 l0 7) 0 l3) 0)]) (by rw [zrf_pos (ad := ad) (t := 6) g31.1]; try rfl) ?_
          obtain ⟨r34, F34, B34, hc34, hf⟩ := gbindN hf
          refine va_calli (va_runV (As := [.ref (ad 6 (F28 12 l0 7) 0)]) (rest := []) ⟨hx, hb, hml, hown, hts⟩ (c_Part_judge (l := l) hc34) (cwV 1 hts (gdV k_5_23 k_5_24 k_5_25 k_1_18 k_5_26) rfl rfl rfl (by decide +kernel) ⟨Nat.le_of_ble_eq_true rfl, Nat.le_of_ble_eq_true rfl⟩) (zPV X hZ28 hS28 (ci := 4) g33.1 g33.2 (r := (RX4, TX4, 13)) rfl [.ref (ad 6 (F28 12 l0 7) 0)]) rfl rfl hl.1 rfl (lv_room (Nat.le_of_ble_eq_true rfl)) d_1_5_111 ⟨hk0.1, hk0.2⟩) hS28 (fun q _ h => zAin X hS28 q h) (zAin X hS28) (fun p34 u34 t34 H34 locs34 ht34 hv34 hw34 hB34 hz34 hk34 hS34 => ?_)
          have hZ34 := zBack X ht34 hB34
          subst hw34
          refine lv_istore_n (lv' := [(2, .int (iI r34)), (3, .int (iI l3)), (0, .ref (ad 12 l0 0)), (1, .int (iI l1))]) hx hb d_1_5_114 rfl hl (by decide) rfl (fun ls hl => ?_)
          exact b_S_read_115 ih mih X hG hf hZ34 hS34 (lv_sub hl [0, 1, 2, 3] rfl)

def f_S_read_51 (K : zK) (l0 : Int) (l1 : Int) (s0 : Int) (F : zF) (B : zB) : zOm := f_S_read_54 K.1 K 0 s0 l0 l1 F B
theorem m_S_read_51 {K : zK} {l0 : Int} {l1 : Int} {s0 : Int} {F : zF} {B : zB} {r : Int} {F9 : zF} {B9 : zB} {K9 : zK} (hf : f_S_read_51 K l0 l1 s0 F B = some (r, F9, B9, K9)) : zKle K K9 := by
  replace hf : (f_S_read_54 K.1 K 0 s0 l0 l1 F B) = some (r, F9, B9, K9) := hf
  exact m_S_read_54 hf

set_option maxHeartbeats 4000000 in
set_option maxRecDepth 100000 in
theorem b_S_read_51 {D : va_G} {ca : Nat → ClassId} {ad0 : Nat → Int → Nat → Nat} {aS vS : Nat → Nat} {A : Nat → Prop} {p : Program} {l : Launch} {e : Env} {s : State} {m : MethodId} {args : Array Value} {below : List Frame} {meth : Method} {c : Code} {K0 : zK} {r : Int} {F9 : zF} {B9 : zB} {K9 : zK} {K : zK} {l0 : Int} {l1 : Int} {s0 : Int} {F : zF} {B : zB} {ad : Nat → Int → Nat → Nat} {L : List Nat} {H : Heap} {locs : List Loc} {ls : Array Slot} : zX D ca L aS vS A p s m args meth c prog_1_method_5_code 4 (Option.some Jvm.ClassFile.FieldType.int) "StaveHouse" → zG ad0 K0.2 ad K.2 → f_S_read_51 K l0 l1 s0 F B = some (r, F9, B9, K9) → zH D ca ad lnC K.2 L F B A H → va_S A s.heap H locs → lv_has ls 4 [(0, .ref (ad 12 l0 0)), (1, .int (iI l1))] → W p l e ({ frames := 207, cells := cwC K0 K9, slots := swC K0 K9, locals := 5143 } : Room) s m args below meth c H locs (cwC K0 K) (swC K0 K) (MQ below (Q_S_read K0 D ca ad0 r F9 B9 K9 A) args s (cwC K0 K9) (swC K0 K9) A) (F0 m 51 ls [.int (iI s0)]) := by
  intro X hG hf hZ hS hl
  obtain ⟨hx, hb, hr, hml, hown, hts, hlk, hK, hA, hL, hX⟩ := id X
  have hk0 := zroom0 (K0 := K0) (m_S_read_51 hf)
  replace hf : (f_S_read_54 K.1 K 0 s0 l0 l1 F B) = some (r, F9, B9, K9) := hf
  refine lv_istore_n (lv' := [(2, .int (iI s0)), (0, .ref (ad 12 l0 0)), (1, .int (iI l1))]) hx hb d_1_5_51 rfl hl (by decide) rfl (fun ls hl => ?_)
  refine lv_iconst (v := iI 0) hx hb d_1_5_52 rfl ?_
  refine lv_istore_n (lv' := [(3, .int (iI 0)), (2, .int (iI s0)), (0, .ref (ad 12 l0 0)), (1, .int (iI l1))]) hx hb d_1_5_53 rfl hl (by decide) rfl (fun ls hl => ?_)
  exact b_S_read_54 X hG hf hZ hS (lv_sub hl [0, 1, 2, 3] rfl)

def f_S_read_29 (K : zK) (l0 : Int) (l1 : Int) (F : zF) (B : zB) : zOm := if 0 ≤ l0 ∧ l0 < K.2 12 then if 0 ≤ (F 12 l0 7) ∧ (F 12 l0 7) < K.2 6 then zbindN (f_Piece_clear K (F 12 l0 7) F B) (fun r12 F12 B12 => if 0 ≤ (F12 12 l0 4) ∧ (F12 12 l0 4) < K.2 3 then if 0 ≤ (F12 12 l0 0) ∧ (F12 12 l0 0) < K.2 0 then if 0 ≤ (F12 12 l0 7) ∧ (F12 12 l0 7) < K.2 6 then zbindM (f_Parser_parse K (F12 12 l0 4) (F12 12 l0 0) (F12 12 l0 7) F12 B12) (fun r16 F16 B16 K16 => f_S_read_51 K16 l0 l1 r16 F16 B16) else none else none else none) else none else none
theorem m_S_read_29 {K : zK} {l0 : Int} {l1 : Int} {F : zF} {B : zB} {r : Int} {F9 : zF} {B9 : zB} {K9 : zK} (hf : f_S_read_29 K l0 l1 F B = some (r, F9, B9, K9)) : zKle K K9 := by
  replace hf : (if 0 ≤ l0 ∧ l0 < K.2 12 then if 0 ≤ (F 12 l0 7) ∧ (F 12 l0 7) < K.2 6 then zbindN (f_Piece_clear K (F 12 l0 7) F B) (fun r12 F12 B12 => if 0 ≤ (F12 12 l0 4) ∧ (F12 12 l0 4) < K.2 3 then if 0 ≤ (F12 12 l0 0) ∧ (F12 12 l0 0) < K.2 0 then if 0 ≤ (F12 12 l0 7) ∧ (F12 12 l0 7) < K.2 6 then zbindM (f_Parser_parse K (F12 12 l0 4) (F12 12 l0 0) (F12 12 l0 7) F12 B12) (fun r16 F16 B16 K16 => f_S_read_51 K16 l0 l1 r16 F16 B16) else none else none else none) else none else none) = some (r, F9, B9, K9) := hf
  obtain ⟨g10, hf⟩ := gif hf
  obtain ⟨g11, hf⟩ := gif hf
  obtain ⟨r12, F12, B12, hc12, hf⟩ := gbindN hf
  obtain ⟨g13, hf⟩ := gif hf
  obtain ⟨g14, hf⟩ := gif hf
  obtain ⟨g15, hf⟩ := gif hf
  obtain ⟨r16, F16, B16, K16, hc16, hf⟩ := gbindM hf
  exact (m_Parser_parse hc16).tr (m_S_read_51 hf)

set_option maxHeartbeats 4000000 in
set_option maxRecDepth 100000 in
theorem b_S_read_29 {D : va_G} {ca : Nat → ClassId} {ad0 : Nat → Int → Nat → Nat} {aS vS : Nat → Nat} {A : Nat → Prop} {p : Program} {l : Launch} {e : Env} {s : State} {m : MethodId} {args : Array Value} {below : List Frame} {meth : Method} {c : Code} {K0 : zK} {r : Int} {F9 : zF} {B9 : zB} {K9 : zK} {K : zK} {l0 : Int} {l1 : Int} {F : zF} {B : zB} {ad : Nat → Int → Nat → Nat} {L : List Nat} {H : Heap} {locs : List Loc} {ls : Array Slot} : zX D ca L aS vS A p s m args meth c prog_1_method_5_code 4 (Option.some Jvm.ClassFile.FieldType.int) "StaveHouse" → zG ad0 K0.2 ad K.2 → f_S_read_29 K l0 l1 F B = some (r, F9, B9, K9) → zH D ca ad lnC K.2 L F B A H → va_S A s.heap H locs → lv_has ls 4 [(0, .ref (ad 12 l0 0)), (1, .int (iI l1))] → W p l e ({ frames := 207, cells := cwC K0 K9, slots := swC K0 K9, locals := 5143 } : Room) s m args below meth c H locs (cwC K0 K) (swC K0 K) (MQ below (Q_S_read K0 D ca ad0 r F9 B9 K9 A) args s (cwC K0 K9) (swC K0 K9) A) (F0 m 29 ls []) := by
  intro X hG hf hZ hS hl
  obtain ⟨hx, hb, hr, hml, hown, hts, hlk, hK, hA, hL, hX⟩ := id X
  have hk0 := zroom0 (K0 := K0) (m_S_read_29 hf)
  replace hf : (if 0 ≤ l0 ∧ l0 < K.2 12 then if 0 ≤ (F 12 l0 7) ∧ (F 12 l0 7) < K.2 6 then zbindN (f_Piece_clear K (F 12 l0 7) F B) (fun r12 F12 B12 => if 0 ≤ (F12 12 l0 4) ∧ (F12 12 l0 4) < K.2 3 then if 0 ≤ (F12 12 l0 0) ∧ (F12 12 l0 0) < K.2 0 then if 0 ≤ (F12 12 l0 7) ∧ (F12 12 l0 7) < K.2 6 then zbindM (f_Parser_parse K (F12 12 l0 4) (F12 12 l0 0) (F12 12 l0 7) F12 B12) (fun r16 F16 B16 K16 => f_S_read_51 K16 l0 l1 r16 F16 B16) else none else none else none) else none else none) = some (r, F9, B9, K9) := hf
  refine lv_aload_n hx hb d_1_5_29 rfl (lv_at hl 0 rfl) ?_
  obtain ⟨g10, hf⟩ := gif hf
  refine zget (ci := 12) (C := RX12) (T := TX12) (v := va_rf (zrf ad 6 (F 12 l0 7))) (k := 7) hx hb hts inW_12 hown hK hZ g10.1 g10.2 rfl (by decide) k_2_134 rfl d_1_5_30 ?_
  obtain ⟨g11, hf⟩ := gif hf
  refine W.eq (g2 := F0 m 33 ls [.ref (ad 6 (F 12 l0 7) 0)]) (by rw [zrf_pos (ad := ad) (t := 6) g11.1]; try rfl) ?_
  obtain ⟨r12, F12, B12, hc12, hf⟩ := gbindN hf
  refine va_callv (va_runV (As := []) (rest := []) ⟨hx, hb, hml, hown, hts⟩ (c_Piece_clear (l := l) hc12) (cwV 0 hts (gdV k_3_22 k_3_23 k_3_24 k_1_15 k_3_25) rfl rfl rfl (by decide +kernel) ⟨Nat.le_of_ble_eq_true rfl, Nat.le_of_ble_eq_true rfl⟩) (zPV X hZ hS (ci := 6) g11.1 g11.2 (r := (RX6, TX6, 14)) rfl []) rfl rfl hl.1 rfl (lv_room (Nat.le_of_ble_eq_true rfl)) d_1_5_33 ⟨hk0.1, hk0.2⟩) hS (fun q _ h => zAin X hS q h) (zAin X hS) (fun u12 t12 H12 locs12 ht12 hv12 hw12 hB12 hz12 hk12 hS12 => ?_)
  have hZ12 := zBack X ht12 hB12
  refine lv_aload_n hx hb d_1_5_36 rfl (lv_at hl 0 rfl) ?_
  refine zget (ci := 12) (C := RX12) (T := TX12) (v := va_rf (zrf ad 3 (F12 12 l0 4))) (k := 4) hx hb hts inW_12 hown hK hZ12 g10.1 g10.2 rfl (by decide) k_2_131 rfl d_1_5_37 ?_
  refine lv_aload_n hx hb d_1_5_40 rfl (lv_at hl 0 rfl) ?_
  refine zget (ci := 12) (C := RX12) (T := TX12) (v := va_rf (zrf ad 0 (F12 12 l0 0))) (k := 0) hx hb hts inW_12 hown hK hZ12 g10.1 g10.2 rfl (by decide) k_2_127 rfl d_1_5_41 ?_
  refine lv_aload_n hx hb d_1_5_44 rfl (lv_at hl 0 rfl) ?_
  refine zget (ci := 12) (C := RX12) (T := TX12) (v := va_rf (zrf ad 6 (F12 12 l0 7))) (k := 7) hx hb hts inW_12 hown hK hZ12 g10.1 g10.2 rfl (by decide) k_2_134 rfl d_1_5_45 ?_
  obtain ⟨g13, hf⟩ := gif hf
  refine W.eq (g2 := F0 m 48 ls [va_rf (zrf ad 6 (F12 12 l0 7)), va_rf (zrf ad 0 (F12 12 l0 0)), .ref (ad 3 (F12 12 l0 4) 0)]) (by rw [zrf_pos (ad := ad) (t := 3) g13.1]; try rfl) ?_
  obtain ⟨g14, hf⟩ := gif hf
  refine W.eq (g2 := F0 m 48 ls [va_rf (zrf ad 6 (F12 12 l0 7)), .ref (ad 0 (F12 12 l0 0) 0), .ref (ad 3 (F12 12 l0 4) 0)]) (by rw [zrf_pos (ad := ad) (t := 0) g14.1]; try rfl) ?_
  obtain ⟨g15, hf⟩ := gif hf
  refine W.eq (g2 := F0 m 48 ls [.ref (ad 6 (F12 12 l0 7) 0), .ref (ad 0 (F12 12 l0 0) 0), .ref (ad 3 (F12 12 l0 4) 0)]) (by rw [zrf_pos (ad := ad) (t := 6) g15.1]; try rfl) ?_
  obtain ⟨r16, F16, B16, K16, hc16, hf⟩ := gbindM hf
  have hm16 := m_S_read_51 hf
  have hn16 := m_Parser_parse hc16
  have hr16 := zroomC hG.1 hn16 hm16
  refine va_calli (va_runV (As := [.ref (ad 0 (F12 12 l0 0) 0), .ref (ad 6 (F12 12 l0 7) 0)]) (rest := []) ⟨hx, hb, hml, hown, hts⟩ (c_Parser_parse (l := l) hc16) (cwV 2 hts (gdV k_3_26 k_3_27 k_3_28 k_1_4 k_3_29) rfl rfl rfl (by decide +kernel) ⟨Nat.le_of_ble_eq_true rfl, Nat.le_of_ble_eq_true rfl⟩) (zPV X hZ12 hS12 (ci := 3) g13.1 g13.2 (r := (RX3, TX3, 22)) rfl [.ref (ad 0 (F12 12 l0 0) 0), .ref (ad 6 (F12 12 l0 7) 0)]) rfl rfl hl.1 rfl (lv_room (Nat.le_of_ble_eq_true rfl)) d_1_5_48 ⟨hr16.1, hr16.2.1⟩) hS12 (fun q _ h => zAin X hS12 q h) (zAin X hS12) (fun p16 u16 t16 H16 locs16 ht16 hv16 hw16 hB16 hz16 hk16 hS16 => ?_)
  obtain ⟨ad16, L16⟩ := u16
  obtain ⟨hw16, hg16⟩ := hw16
  subst hw16
  have hZ16 := zBackM X hS12 ht16 hB16
  refine W.widen (k := cwC K0 K16) (n := swC K0 K16) (Nat.le_of_eq hr16.2.2.1) (Nat.le_of_eq hr16.2.2.2) ?_
  have X16 := X.grow hZ16.inA
  have hG16 := hG.tr hg16
  have e16_0 : ad16 12 l0 0 = ad 12 l0 0 := hg16.2 12 l0 0 g10.1 g10.2
  have hl : lv_has ls 4 [(0, .ref (ad16 12 l0 0)), (1, .int (iI l1))] := by have h := lv_sub hl [0, 1] rfl; simp only [e16_0]; exact h
  exact b_S_read_51 X16 hG16 hf hZ16 hS16 (lv_sub hl [0, 1] rfl)

def f_S_read_26 (K : zK) (l0 : Int) (l1 : Int) (s0 : Int) (s1 : Int) (F : zF) (B : zB) : zOm := if 0 ≤ s0 ∧ s0 < K.2 12 then if s1 < K.2 6 then f_S_read_29 K l0 l1 (zup3 F 12 s0 7 s1) B else none else none
theorem m_S_read_26 {K : zK} {l0 : Int} {l1 : Int} {s0 : Int} {s1 : Int} {F : zF} {B : zB} {r : Int} {F9 : zF} {B9 : zB} {K9 : zK} (hf : f_S_read_26 K l0 l1 s0 s1 F B = some (r, F9, B9, K9)) : zKle K K9 := by
  replace hf : (if 0 ≤ s0 ∧ s0 < K.2 12 then if s1 < K.2 6 then f_S_read_29 K l0 l1 (zup3 F 12 s0 7 s1) B else none else none) = some (r, F9, B9, K9) := hf
  obtain ⟨g7, hf⟩ := gif hf
  obtain ⟨g9, hf⟩ := gif hf
  exact m_S_read_29 hf

set_option maxHeartbeats 4000000 in
set_option maxRecDepth 100000 in
theorem b_S_read_26 {D : va_G} {ca : Nat → ClassId} {ad0 : Nat → Int → Nat → Nat} {aS vS : Nat → Nat} {A : Nat → Prop} {p : Program} {l : Launch} {e : Env} {s : State} {m : MethodId} {args : Array Value} {below : List Frame} {meth : Method} {c : Code} {K0 : zK} {r : Int} {F9 : zF} {B9 : zB} {K9 : zK} {K : zK} {l0 : Int} {l1 : Int} {s0 : Int} {s1 : Int} {F : zF} {B : zB} {ad : Nat → Int → Nat → Nat} {L : List Nat} {H : Heap} {locs : List Loc} {ls : Array Slot} : zX D ca L aS vS A p s m args meth c prog_1_method_5_code 4 (Option.some Jvm.ClassFile.FieldType.int) "StaveHouse" → zG ad0 K0.2 ad K.2 → f_S_read_26 K l0 l1 s0 s1 F B = some (r, F9, B9, K9) → zH D ca ad lnC K.2 L F B A H → va_S A s.heap H locs → lv_has ls 4 [(0, .ref (ad 12 l0 0)), (1, .int (iI l1))] → W p l e ({ frames := 207, cells := cwC K0 K9, slots := swC K0 K9, locals := 5143 } : Room) s m args below meth c H locs (cwC K0 K) (swC K0 K) (MQ below (Q_S_read K0 D ca ad0 r F9 B9 K9 A) args s (cwC K0 K9) (swC K0 K9) A) (F0 m 26 ls [va_rf (zrf ad 6 s1), va_rf (zrf ad 12 s0)]) := by
  intro X hG hf hZ hS hl
  obtain ⟨hx, hb, hr, hml, hown, hts, hlk, hK, hA, hL, hX⟩ := id X
  have hk0 := zroom0 (K0 := K0) (m_S_read_26 hf)
  replace hf : (if 0 ≤ s0 ∧ s0 < K.2 12 then if s1 < K.2 6 then f_S_read_29 K l0 l1 (zup3 F 12 s0 7 s1) B else none else none) = some (r, F9, B9, K9) := hf
  obtain ⟨g7, hf⟩ := gif hf
  refine W.eq (g2 := F0 m 26 ls [va_rf (zrf ad 6 s1), .ref (ad 12 s0 0)]) (by rw [zrf_pos (ad := ad) (t := 12) g7.1]; try rfl) ?_
  obtain ⟨g9, hf⟩ := gif hf
  refine zput (ci := 12) (C := RX12) (T := TX12) (k := 7) (v := s1) (w := va_rf (zrf ad 6 s1)) hx hb hts inW_12 tyX12 tyX12_ok nmX12 hown hK hZ hS g7.1 g7.2 rfl (by decide) k_2_134 rfl (fun G h => congrArg (fun q => va_rf (zrf ad 6 q)) h) (zrf_nar rfl _) (zrf_fit rfl _) (zyes (t0 := 6) rfl g9) d_1_5_26 (fun H8 locs8 hZ8 hS8 => ?_)
  exact b_S_read_29 X hG hf hZ8 hS8 (lv_sub hl [0, 1] rfl)

def f_S_read_9 (K : zK)  (F : zF) (B : zB) : zOm := some ((-1), F, B, K)
theorem m_S_read_9 {K : zK}  {F : zF} {B : zB} {r : Int} {F9 : zF} {B9 : zB} {K9 : zK} (hf : f_S_read_9 K  F B = some (r, F9, B9, K9)) : zKle K K9 := by
  replace hf : (some ((-1), F, B, K)) = some (r, F9, B9, K9) := hf
  cases hf
  exact zKle.rf

set_option maxHeartbeats 4000000 in
set_option maxRecDepth 100000 in
theorem b_S_read_9 {D : va_G} {ca : Nat → ClassId} {ad0 : Nat → Int → Nat → Nat} {aS vS : Nat → Nat} {A : Nat → Prop} {p : Program} {l : Launch} {e : Env} {s : State} {m : MethodId} {args : Array Value} {below : List Frame} {meth : Method} {c : Code} {K0 : zK} {r : Int} {F9 : zF} {B9 : zB} {K9 : zK} {K : zK}  {F : zF} {B : zB} {ad : Nat → Int → Nat → Nat} {L : List Nat} {H : Heap} {locs : List Loc} {ls : Array Slot} : zX D ca L aS vS A p s m args meth c prog_1_method_5_code 4 (Option.some Jvm.ClassFile.FieldType.int) "StaveHouse" → zG ad0 K0.2 ad K.2 → f_S_read_9 K  F B = some (r, F9, B9, K9) → zH D ca ad lnC K.2 L F B A H → va_S A s.heap H locs → lv_has ls 4 [] → W p l e ({ frames := 207, cells := cwC K0 K9, slots := swC K0 K9, locals := 5143 } : Room) s m args below meth c H locs (cwC K0 K) (swC K0 K) (MQ below (Q_S_read K0 D ca ad0 r F9 B9 K9 A) args s (cwC K0 K9) (swC K0 K9) A) (F0 m 9 ls []) := by
  intro X hG hf hZ hS hl
  obtain ⟨hx, hb, hr, hml, hown, hts, hlk, hK, hA, hL, hX⟩ := id X
  have hk0 := zroom0 (K0 := K0) (m_S_read_9 hf)
  replace hf : (some ((-1), F, B, K)) = some (r, F9, B9, K9) := hf
  refine lv_iconst (v := iI (-1)) hx hb d_1_5_9 rfl ?_
  cases hf
  exact W.iret hx hb hr (fun t ht hW => ⟨⟨_, (ad, L), rfl, ⟨rfl, hG⟩, by rw [ht]; exact hZ, va_K.moved hW.alike hK⟩, hS.F ht⟩) hS.2.2 d_1_5_10 hlk

def f_S_read (K : zK) (l0 : Int) (l1 : Int) (F : zF) (B : zB) : zOm := if r32 l1 then (if l1 < 0 then f_S_read_9 K F B else (if l1 < 2 then if 0 ≤ l0 ∧ l0 < K.2 12 then (if (F 12 l0 7) < 0 then zbindM (f_Piece_init K F B) (fun r6 F6 B6 K6 => if 0 ≤ r6 ∧ r6 < K6.2 6 then if 0 ≤ l0 ∧ l0 < K6.2 12 then f_S_read_26 K6 l0 l1 l0 r6 F6 B6 else none else none) else f_S_read_29 K l0 l1 F B) else none else f_S_read_9 K F B)) else none
theorem m_S_read {K : zK} {l0 : Int} {l1 : Int} {F : zF} {B : zB} {r : Int} {F9 : zF} {B9 : zB} {K9 : zK} (hf : f_S_read K l0 l1 F B = some (r, F9, B9, K9)) : zKle K K9 := by
  replace hf : (if r32 l1 then (if l1 < 0 then f_S_read_9 K F B else (if l1 < 2 then if 0 ≤ l0 ∧ l0 < K.2 12 then (if (F 12 l0 7) < 0 then zbindM (f_Piece_init K F B) (fun r6 F6 B6 K6 => if 0 ≤ r6 ∧ r6 < K6.2 6 then if 0 ≤ l0 ∧ l0 < K6.2 12 then f_S_read_26 K6 l0 l1 l0 r6 F6 B6 else none else none) else f_S_read_29 K l0 l1 F B) else none else f_S_read_9 K F B)) else none) = some (r, F9, B9, K9) := hf
  obtain ⟨g1, hf⟩ := gif hf
  refine (Classical.em (l1 < 0)).elim (fun h2 => ?_) (fun h2 => ?_)
  · replace hf := gpos hf h2
    exact m_S_read_9 hf
  · replace hf := gneg hf h2
    refine (Classical.em (l1 < 2)).elim (fun h3 => ?_) (fun h3 => ?_)
    · replace hf := gpos hf h3
      obtain ⟨g4, hf⟩ := gif hf
      refine (Classical.em ((F 12 l0 7) < 0)).symm.elim (fun h5 => ?_) (fun h5 => ?_)
      · replace hf := gneg hf h5
        exact m_S_read_29 hf
      · replace hf := gpos hf h5
        obtain ⟨r6, F6, B6, K6, hc6, hf⟩ := gbindM hf
        obtain ⟨ha6, hf⟩ := gif hf
        obtain ⟨hs6_0, hf⟩ := gif hf
        exact (m_Piece_init hc6).tr (m_S_read_26 hf)
    · replace hf := gneg hf h3
      exact m_S_read_9 hf

set_option maxHeartbeats 4000000 in
set_option maxRecDepth 100000 in
theorem c_S_read {l : Launch} {D : va_G} {ca : Nat → ClassId} {ad : Nat → Int → Nat → Nat} {L : List Nat} {aS vS : Nat → Nat} {sz : Nat} {K : zK} {l0 : Int} {l1 : Int} {F : zF} {B : zB} {r : Int} {F9 : zF} {B9 : zB} {K9 : zK} (hf : f_S_read K l0 l1 F B = some (r, F9, B9, K9)) : Met l ({ cls := "StaveHouse", name := "read", desc := "(I)I" } : Jvm.MethodName) (Cond.code ({ cls := "StaveHouse", name := "read", desc := "(I)I" } : Jvm.MethodName) prog_1_method_5_code 4 (Option.some Jvm.ClassFile.FieldType.int) :: wAll) ({ frames := 207, cells := cwC K K9, slots := swC K K9, locals := 5143 } : Room) (va_Pc [.ref (ad 12 l0 0), .int (iI l1)] (zPre D ca ad lnC K.2 L aS vS F B sz)) (Q_S_read K D ca ad r F9 B9 K9 (zA L sz)) (cwC K K9) (swC K K9) (zA L sz) := by
  refine zMet (Qc := Q_S_read K D ca ad r F9 B9 K9) (lv := [(0, .ref (ad 12 l0 0)), (1, .int (iI l1))]) (by decide) (Nat.le_of_ble_eq_true rfl) rfl (fun A p e s m below meth c ls X hZ hS hl => ?_)
  obtain ⟨hx, hb, hr, hml, hown, hts, hlk, hK, hA, hL, hX⟩ := id X
  have hG : zG ad K.2 ad K.2 := zG.rf
  refine W.widen (k := cwC K K) (n := swC K K) (Nat.zero_le _) (Nat.zero_le _) ?_
  have hk0 := zroom0 (K0 := K) (m_S_read hf)
  replace hf : (if r32 l1 then (if l1 < 0 then f_S_read_9 K F B else (if l1 < 2 then if 0 ≤ l0 ∧ l0 < K.2 12 then (if (F 12 l0 7) < 0 then zbindM (f_Piece_init K F B) (fun r6 F6 B6 K6 => if 0 ≤ r6 ∧ r6 < K6.2 6 then if 0 ≤ l0 ∧ l0 < K6.2 12 then f_S_read_26 K6 l0 l1 l0 r6 F6 B6 else none else none) else f_S_read_29 K l0 l1 F B) else none else f_S_read_9 K F B)) else none) = some (r, F9, B9, K9) := hf
  refine lv_iload_n hx hb d_1_5_0 rfl (lv_at hl 1 rfl) ?_
  obtain ⟨g1, hf⟩ := gif hf
  refine z0lt (tgt := 9) hx hb g1 d_1_5_1 (by decide) (fun h2 => ?_) (fun h2 => ?_)
  · replace hf := gpos hf h2
    exact b_S_read_9 X hG hf hZ hS (lv_sub hl [] rfl)
  · replace hf := gneg hf h2
    refine lv_iload_n hx hb d_1_5_4 rfl (lv_at hl 1 rfl) ?_
    refine lv_iconst (v := iI 2) hx hb d_1_5_5 rfl ?_
    refine zlt (tgt := 11) hx hb g1 (by decide) d_1_5_6 (by decide) (fun h3 => ?_) (fun h3 => ?_)
    · replace hf := gpos hf h3
      refine lv_aload_n hx hb d_1_5_11 rfl (lv_at hl 0 rfl) ?_
      obtain ⟨g4, hf⟩ := gif hf
      refine zget (ci := 12) (C := RX12) (T := TX12) (v := va_rf (zrf ad 6 (F 12 l0 7))) (k := 7) hx hb hts inW_12 hown hK hZ g4.1 g4.2 rfl (by decide) k_2_134 rfl d_1_5_12 ?_
      refine zifnonnull (tgt := 29) hx hb d_1_5_15 (by decide) (fun h5 => ?_) (fun h5 => ?_)
      · replace hf := gneg hf h5
        exact b_S_read_29 X hG hf hZ hS (lv_sub hl [0, 1] rfl)
      · replace hf := gpos hf h5
        refine lv_aload_n hx hb d_1_5_18 rfl (lv_at hl 0 rfl) ?_
        obtain ⟨r6, F6, B6, K6, hc6, hf⟩ := gbindM hf
        have hw6 := w_Piece_init hc6
        obtain ⟨ha6, hf⟩ := gif hf
        obtain ⟨hs6_0, hf⟩ := gif hf
        have hm6 := m_S_read_26 hf
        have hr6 := zroom hG.1 hw6 hm6
        refine zxnew (C := RX6) (T := TX6) (n := 14) (ci := 6) hx hb hts inW_6 tyX6 tyX6_ok hown k_1_58 k_2_178 k_1_15 hK (zHx.of hZ) hS hA rfl (by have h := hr6.1; dsimp only; omega) (by have h := hr6.2.1; dsimp only; omega) d_1_5_19 (fun q6 Hn6 hZn6 hSn6 => ?_)
        refine lv_dup hx hb d_1_5_22 rfl ?_
        refine va_callv (va_runIN (As := []) (rest := .ref q6 :: [.ref (ad 12 l0 0)]) ⟨hx, hb, hml, hown, hts⟩ (c_Piece_init (l := l) hc6) ⟨va_cnB 0 hts (gdC k_2_181) rfl rfl rfl (hX.1 _ (List.mem_of_getElem? (i := 5) rfl) :) (hts _ k_1_15) (by decide +kernel) ⟨Nat.le_of_ble_eq_true rfl, Nat.le_of_ble_eq_true rfl⟩, rfl, hts _ k_2_180⟩ (zxPS (X := []) X hZn6 hSn6 [.ref q6]) rfl rfl hl.1 rfl (lv_room (Nat.le_of_ble_eq_true rfl)) d_1_5_23 ⟨by have h := hr6.1; dsimp only; omega, by have h := hr6.2.1; dsimp only; omega⟩) hSn6 (fun x _ h => zxAin (X := []) X hZn6 hSn6 x h) (zxAin (X := []) X hZn6 hSn6) (fun u6 t6 H6 locs6 ht6 hv6 hu6 hB6 hz6 hk6 hS6 => ?_)
        obtain ⟨ad6, L6⟩ := u6
        obtain ⟨hg6, hq6⟩ := hu6
        have hZ6 := (zxback (X := []) hZn6 (zxAin (X := []) X hZn6 hSn6) hk6 ht6 hB6).to
        replace hq6 : ad6 6 r6 0 = q6 := hq6
        subst hq6
        refine W.widen (k := cwC K K6) (n := swC K K6) (by have h := hr6.2.2.1; omega) (by have h := hr6.2.2.2; omega) ?_
        have X6 := X.grow hZ6.inA
        have hG6 := hG.tr hg6
        have e6_0 : ad6 12 l0 0 = ad 12 l0 0 := hg6.2 12 l0 0 g4.1 g4.2
        have hl : lv_has ls 4 [(0, .ref (ad6 12 l0 0)), (1, .int (iI l1))] := by have h := lv_sub hl [0, 1] rfl; simp only [e6_0]; exact h
        refine W.eq (g2 := F0 m 26 ls [.ref (ad6 6 r6 0), .ref (ad6 12 l0 0)]) (by simp only [e6_0]) ?_
        refine W.eq (g2 := F0 m 26 ls [.ref (ad6 6 r6 0), va_rf (zrf ad6 12 l0)]) (by rw [zrf_pos (ad := ad6) (t := 12) hs6_0.1]; try rfl) ?_
        refine W.eq (g2 := F0 m 26 ls [va_rf (zrf ad6 6 r6), va_rf (zrf ad6 12 l0)]) (by rw [zrf_pos (ad := ad6) (t := 6) ha6.1]; try rfl) ?_
        exact b_S_read_26 X6 hG6 hf hZ6 hS6 (lv_sub hl [0, 1] rfl)
    · replace hf := gneg hf h3
      exact b_S_read_9 X hG hf hZ hS (lv_sub hl [] rfl)

abbrev Q_Piece_studyMade (K : zK) (D : va_G) (ca : Nat → ClassId) (ad : Nat → Int → Nat → Nat) (r : Int) (F : zF) (B : zB) (K9 : zK) (A : Nat → Prop) : Array Value → State → Outcome → State → Prop := va_Qq (S := (Nat → Int → Nat → Nat) × List Nat) (fun p u => p = zrf u.1 9 r ∧ zG ad K.2 u.1 K9.2) (fun u => zPo D ca u.1 lnC K9.2 u.2 F B A) A
def f_Piece_studyMade_38 (K : zK) (l0 : Int) (F : zF) (B : zB) : zOm := if 0 ≤ l0 ∧ l0 < K.2 6 then some (F 6 l0 12, F, B, K) else none
theorem m_Piece_studyMade_38 {K : zK} {l0 : Int} {F : zF} {B : zB} {r : Int} {F9 : zF} {B9 : zB} {K9 : zK} (hf : f_Piece_studyMade_38 K l0 F B = some (r, F9, B9, K9)) : zKle K K9 := by
  replace hf : (if 0 ≤ l0 ∧ l0 < K.2 6 then some (F 6 l0 12, F, B, K) else none) = some (r, F9, B9, K9) := hf
  obtain ⟨g13, hf⟩ := gif hf
  cases hf
  exact zKle.rf

set_option maxHeartbeats 4000000 in
set_option maxRecDepth 100000 in
theorem b_Piece_studyMade_38 {D : va_G} {ca : Nat → ClassId} {ad0 : Nat → Int → Nat → Nat} {aS vS : Nat → Nat} {A : Nat → Prop} {p : Program} {l : Launch} {e : Env} {s : State} {m : MethodId} {args : Array Value} {below : List Frame} {meth : Method} {c : Code} {K0 : zK} {r : Int} {F9 : zF} {B9 : zB} {K9 : zK} {K : zK} {l0 : Int} {F : zF} {B : zB} {ad : Nat → Int → Nat → Nat} {L : List Nat} {H : Heap} {locs : List Loc} {ls : Array Slot} : zX D ca L aS vS A p s m args meth c prog_8_method_9_code 1 (Option.some (Jvm.ClassFile.FieldType.object "StaveHouse$Study")) "StaveHouse$Piece" → zG ad0 K0.2 ad K.2 → f_Piece_studyMade_38 K l0 F B = some (r, F9, B9, K9) → zH D ca ad lnC K.2 L F B A H → va_S A s.heap H locs → lv_has ls 1 [(0, .ref (ad 6 l0 0))] → W p l e ({ frames := 6, cells := cwC K0 K9, slots := swC K0 K9, locals := 132 } : Room) s m args below meth c H locs (cwC K0 K) (swC K0 K) (MQ below (Q_Piece_studyMade K0 D ca ad0 r F9 B9 K9 A) args s (cwC K0 K9) (swC K0 K9) A) (F0 m 38 ls []) := by
  intro X hG hf hZ hS hl
  obtain ⟨hx, hb, hr, hml, hown, hts, hlk, hK, hA, hL, hX⟩ := id X
  have hk0 := zroom0 (K0 := K0) (m_Piece_studyMade_38 hf)
  replace hf : (if 0 ≤ l0 ∧ l0 < K.2 6 then some (F 6 l0 12, F, B, K) else none) = some (r, F9, B9, K9) := hf
  refine lv_aload_n hx hb d_8_9_38 rfl (lv_at hl 0 rfl) ?_
  obtain ⟨g13, hf⟩ := gif hf
  refine zget (ci := 6) (C := RX6) (T := TX6) (v := va_rf (zrf ad 9 (F 6 l0 12))) (k := 12) hx hb hts inW_6 hown hK hZ g13.1 g13.2 rfl (by decide) k_2_231 rfl d_8_9_39 ?_
  cases hf
  exact W.aret hx hb hr (Or.inl ⟨_, rfl⟩) (va_rf_or _) (fun t ht hW => ⟨⟨_, (ad, L), rfl, ⟨rfl, hG⟩, by rw [ht]; exact hZ, va_K.moved hW.alike hK⟩, hS.F ht⟩) hS.2.2 d_8_9_42 hlk

def f_Piece_studyMade_18 (K : zK) (l0 : Int) (F : zF) (B : zB) : zOm := if 0 ≤ l0 ∧ l0 < K.2 6 then if r32 (F 6 l0 13) then (if (F 6 l0 13) = 0 then if 0 ≤ (F 6 l0 12) ∧ (F 6 l0 12) < K.2 9 then zbindN (f_Study_lookThrough K (F 6 l0 12) l0 F B) (fun r11 F11 B11 => f_Piece_studyMade_38 K l0 (zup3 F11 6 l0 13 1) B11) else none else f_Piece_studyMade_38 K l0 F B) else none else none
theorem m_Piece_studyMade_18 {K : zK} {l0 : Int} {F : zF} {B : zB} {r : Int} {F9 : zF} {B9 : zB} {K9 : zK} (hf : f_Piece_studyMade_18 K l0 F B = some (r, F9, B9, K9)) : zKle K K9 := by
  replace hf : (if 0 ≤ l0 ∧ l0 < K.2 6 then if r32 (F 6 l0 13) then (if (F 6 l0 13) = 0 then if 0 ≤ (F 6 l0 12) ∧ (F 6 l0 12) < K.2 9 then zbindN (f_Study_lookThrough K (F 6 l0 12) l0 F B) (fun r11 F11 B11 => f_Piece_studyMade_38 K l0 (zup3 F11 6 l0 13 1) B11) else none else f_Piece_studyMade_38 K l0 F B) else none else none) = some (r, F9, B9, K9) := hf
  obtain ⟨g7, hf⟩ := gif hf
  obtain ⟨g8, hf⟩ := gif hf
  refine (Classical.em ((F 6 l0 13) = 0)).symm.elim (fun h9 => ?_) (fun h9 => ?_)
  · replace hf := gneg hf h9
    exact m_Piece_studyMade_38 hf
  · replace hf := gpos hf h9
    obtain ⟨g10, hf⟩ := gif hf
    obtain ⟨r11, F11, B11, hc11, hf⟩ := gbindN hf
    exact m_Piece_studyMade_38 hf

set_option maxHeartbeats 4000000 in
set_option maxRecDepth 100000 in
theorem b_Piece_studyMade_18 {D : va_G} {ca : Nat → ClassId} {ad0 : Nat → Int → Nat → Nat} {aS vS : Nat → Nat} {A : Nat → Prop} {p : Program} {l : Launch} {e : Env} {s : State} {m : MethodId} {args : Array Value} {below : List Frame} {meth : Method} {c : Code} {K0 : zK} {r : Int} {F9 : zF} {B9 : zB} {K9 : zK} {K : zK} {l0 : Int} {F : zF} {B : zB} {ad : Nat → Int → Nat → Nat} {L : List Nat} {H : Heap} {locs : List Loc} {ls : Array Slot} : zX D ca L aS vS A p s m args meth c prog_8_method_9_code 1 (Option.some (Jvm.ClassFile.FieldType.object "StaveHouse$Study")) "StaveHouse$Piece" → zG ad0 K0.2 ad K.2 → f_Piece_studyMade_18 K l0 F B = some (r, F9, B9, K9) → zH D ca ad lnC K.2 L F B A H → va_S A s.heap H locs → lv_has ls 1 [(0, .ref (ad 6 l0 0))] → W p l e ({ frames := 6, cells := cwC K0 K9, slots := swC K0 K9, locals := 132 } : Room) s m args below meth c H locs (cwC K0 K) (swC K0 K) (MQ below (Q_Piece_studyMade K0 D ca ad0 r F9 B9 K9 A) args s (cwC K0 K9) (swC K0 K9) A) (F0 m 18 ls []) := by
  intro X hG hf hZ hS hl
  obtain ⟨hx, hb, hr, hml, hown, hts, hlk, hK, hA, hL, hX⟩ := id X
  have hk0 := zroom0 (K0 := K0) (m_Piece_studyMade_18 hf)
  replace hf : (if 0 ≤ l0 ∧ l0 < K.2 6 then if r32 (F 6 l0 13) then (if (F 6 l0 13) = 0 then if 0 ≤ (F 6 l0 12) ∧ (F 6 l0 12) < K.2 9 then zbindN (f_Study_lookThrough K (F 6 l0 12) l0 F B) (fun r11 F11 B11 => f_Piece_studyMade_38 K l0 (zup3 F11 6 l0 13 1) B11) else none else f_Piece_studyMade_38 K l0 F B) else none else none) = some (r, F9, B9, K9) := hf
  refine lv_aload_n hx hb d_8_9_18 rfl (lv_at hl 0 rfl) ?_
  obtain ⟨g7, hf⟩ := gif hf
  refine zget (ci := 6) (C := RX6) (T := TX6) (v := .int (iI (F 6 l0 13))) (k := 13) hx hb hts inW_6 hown hK hZ g7.1 g7.2 rfl (by decide) k_2_232 rfl d_8_9_19 ?_
  obtain ⟨g8, hf⟩ := gif hf
  refine z0ne (tgt := 38) hx hb g8 d_8_9_22 (by decide) (fun h9 => ?_) (fun h9 => ?_)
  · replace hf := gneg hf h9
    exact b_Piece_studyMade_38 X hG hf hZ hS (lv_sub hl [0] rfl)
  · replace hf := gpos hf h9
    refine lv_aload_n hx hb d_8_9_25 rfl (lv_at hl 0 rfl) ?_
    refine zget (ci := 6) (C := RX6) (T := TX6) (v := va_rf (zrf ad 9 (F 6 l0 12))) (k := 12) hx hb hts inW_6 hown hK hZ g7.1 g7.2 rfl (by decide) k_2_231 rfl d_8_9_26 ?_
    refine lv_aload_n hx hb d_8_9_29 rfl (lv_at hl 0 rfl) ?_
    obtain ⟨g10, hf⟩ := gif hf
    refine W.eq (g2 := F0 m 30 ls [.ref (ad 6 l0 0), .ref (ad 9 (F 6 l0 12) 0)]) (by rw [zrf_pos (ad := ad) (t := 9) g10.1]; try rfl) ?_
    obtain ⟨r11, F11, B11, hc11, hf⟩ := gbindN hf
    refine va_callv (va_runV (As := [.ref (ad 6 l0 0)]) (rest := []) ⟨hx, hb, hml, hown, hts⟩ (c_Study_lookThrough (l := l) hc11) (cwV 1 hts (gdV k_5_235 k_5_236 k_5_237 k_1_19 k_5_238) rfl rfl rfl (by decide +kernel) ⟨Nat.le_of_ble_eq_true rfl, Nat.le_of_ble_eq_true rfl⟩) (zPV X hZ hS (ci := 9) g10.1 g10.2 (r := (RX9, TX9, 11)) rfl [.ref (ad 6 l0 0)]) rfl rfl hl.1 rfl (lv_room (Nat.le_of_ble_eq_true rfl)) d_8_9_30 ⟨hk0.1, hk0.2⟩) hS (fun q _ h => zAin X hS q h) (zAin X hS) (fun u11 t11 H11 locs11 ht11 hv11 hw11 hB11 hz11 hk11 hS11 => ?_)
    have hZ11 := zBack X ht11 hB11
    refine lv_aload_n hx hb d_8_9_33 rfl (lv_at hl 0 rfl) ?_
    refine lv_iconst (v := iI 1) hx hb d_8_9_34 rfl ?_
    refine zput (ci := 6) (C := RX6) (T := TX6) (k := 13) (v := 1) (w := .int (iI 1)) hx hb hts inW_6 tyX6 tyX6_ok nmX6 hown hK hZ11 hS11 g7.1 g7.2 rfl (by decide) k_2_232 rfl (fun G h => congrArg (fun q => Value.int (iI q)) h) rfl rfl (zno (by decide)) d_8_9_35 (fun H12 locs12 hZ12 hS12 => ?_)
    exact b_Piece_studyMade_38 X hG hf hZ12 hS12 (lv_sub hl [0] rfl)

def f_Piece_studyMade_15 (K : zK) (l0 : Int) (s0 : Int) (s1 : Int) (F : zF) (B : zB) : zOm := if 0 ≤ s0 ∧ s0 < K.2 6 then if s1 < K.2 9 then f_Piece_studyMade_18 K l0 (zup3 F 6 s0 12 s1) B else none else none
theorem m_Piece_studyMade_15 {K : zK} {l0 : Int} {s0 : Int} {s1 : Int} {F : zF} {B : zB} {r : Int} {F9 : zF} {B9 : zB} {K9 : zK} (hf : f_Piece_studyMade_15 K l0 s0 s1 F B = some (r, F9, B9, K9)) : zKle K K9 := by
  replace hf : (if 0 ≤ s0 ∧ s0 < K.2 6 then if s1 < K.2 9 then f_Piece_studyMade_18 K l0 (zup3 F 6 s0 12 s1) B else none else none) = some (r, F9, B9, K9) := hf
  obtain ⟨g4, hf⟩ := gif hf
  obtain ⟨g6, hf⟩ := gif hf
  exact m_Piece_studyMade_18 hf

set_option maxHeartbeats 4000000 in
set_option maxRecDepth 100000 in
theorem b_Piece_studyMade_15 {D : va_G} {ca : Nat → ClassId} {ad0 : Nat → Int → Nat → Nat} {aS vS : Nat → Nat} {A : Nat → Prop} {p : Program} {l : Launch} {e : Env} {s : State} {m : MethodId} {args : Array Value} {below : List Frame} {meth : Method} {c : Code} {K0 : zK} {r : Int} {F9 : zF} {B9 : zB} {K9 : zK} {K : zK} {l0 : Int} {s0 : Int} {s1 : Int} {F : zF} {B : zB} {ad : Nat → Int → Nat → Nat} {L : List Nat} {H : Heap} {locs : List Loc} {ls : Array Slot} : zX D ca L aS vS A p s m args meth c prog_8_method_9_code 1 (Option.some (Jvm.ClassFile.FieldType.object "StaveHouse$Study")) "StaveHouse$Piece" → zG ad0 K0.2 ad K.2 → f_Piece_studyMade_15 K l0 s0 s1 F B = some (r, F9, B9, K9) → zH D ca ad lnC K.2 L F B A H → va_S A s.heap H locs → lv_has ls 1 [(0, .ref (ad 6 l0 0))] → W p l e ({ frames := 6, cells := cwC K0 K9, slots := swC K0 K9, locals := 132 } : Room) s m args below meth c H locs (cwC K0 K) (swC K0 K) (MQ below (Q_Piece_studyMade K0 D ca ad0 r F9 B9 K9 A) args s (cwC K0 K9) (swC K0 K9) A) (F0 m 15 ls [va_rf (zrf ad 9 s1), va_rf (zrf ad 6 s0)]) := by
  intro X hG hf hZ hS hl
  obtain ⟨hx, hb, hr, hml, hown, hts, hlk, hK, hA, hL, hX⟩ := id X
  have hk0 := zroom0 (K0 := K0) (m_Piece_studyMade_15 hf)
  replace hf : (if 0 ≤ s0 ∧ s0 < K.2 6 then if s1 < K.2 9 then f_Piece_studyMade_18 K l0 (zup3 F 6 s0 12 s1) B else none else none) = some (r, F9, B9, K9) := hf
  obtain ⟨g4, hf⟩ := gif hf
  refine W.eq (g2 := F0 m 15 ls [va_rf (zrf ad 9 s1), .ref (ad 6 s0 0)]) (by rw [zrf_pos (ad := ad) (t := 6) g4.1]; try rfl) ?_
  obtain ⟨g6, hf⟩ := gif hf
  refine zput (ci := 6) (C := RX6) (T := TX6) (k := 12) (v := s1) (w := va_rf (zrf ad 9 s1)) hx hb hts inW_6 tyX6 tyX6_ok nmX6 hown hK hZ hS g4.1 g4.2 rfl (by decide) k_2_231 rfl (fun G h => congrArg (fun q => va_rf (zrf ad 9 q)) h) (zrf_nar rfl _) (zrf_fit rfl _) (zyes (t0 := 9) rfl g6) d_8_9_15 (fun H5 locs5 hZ5 hS5 => ?_)
  exact b_Piece_studyMade_18 X hG hf hZ5 hS5 (lv_sub hl [0] rfl)

def f_Piece_studyMade (K : zK) (l0 : Int) (F : zF) (B : zB) : zOm := if 0 ≤ l0 ∧ l0 < K.2 6 then (if (F 6 l0 12) < 0 then zbindM (f_Study_init K F B) (fun r3 F3 B3 K3 => if 0 ≤ r3 ∧ r3 < K3.2 9 then if 0 ≤ l0 ∧ l0 < K3.2 6 then f_Piece_studyMade_15 K3 l0 l0 r3 F3 B3 else none else none) else f_Piece_studyMade_18 K l0 F B) else none
theorem m_Piece_studyMade {K : zK} {l0 : Int} {F : zF} {B : zB} {r : Int} {F9 : zF} {B9 : zB} {K9 : zK} (hf : f_Piece_studyMade K l0 F B = some (r, F9, B9, K9)) : zKle K K9 := by
  replace hf : (if 0 ≤ l0 ∧ l0 < K.2 6 then (if (F 6 l0 12) < 0 then zbindM (f_Study_init K F B) (fun r3 F3 B3 K3 => if 0 ≤ r3 ∧ r3 < K3.2 9 then if 0 ≤ l0 ∧ l0 < K3.2 6 then f_Piece_studyMade_15 K3 l0 l0 r3 F3 B3 else none else none) else f_Piece_studyMade_18 K l0 F B) else none) = some (r, F9, B9, K9) := hf
  obtain ⟨g1, hf⟩ := gif hf
  refine (Classical.em ((F 6 l0 12) < 0)).symm.elim (fun h2 => ?_) (fun h2 => ?_)
  · replace hf := gneg hf h2
    exact m_Piece_studyMade_18 hf
  · replace hf := gpos hf h2
    obtain ⟨r3, F3, B3, K3, hc3, hf⟩ := gbindM hf
    obtain ⟨ha3, hf⟩ := gif hf
    obtain ⟨hs3_0, hf⟩ := gif hf
    exact (m_Study_init hc3).tr (m_Piece_studyMade_15 hf)

set_option maxHeartbeats 4000000 in
set_option maxRecDepth 100000 in
theorem c_Piece_studyMade {l : Launch} {D : va_G} {ca : Nat → ClassId} {ad : Nat → Int → Nat → Nat} {L : List Nat} {aS vS : Nat → Nat} {sz : Nat} {K : zK} {l0 : Int} {F : zF} {B : zB} {r : Int} {F9 : zF} {B9 : zB} {K9 : zK} (hf : f_Piece_studyMade K l0 F B = some (r, F9, B9, K9)) : Met l ({ cls := "StaveHouse$Piece", name := "studyMade", desc := "()LStaveHouse$Study;" } : Jvm.MethodName) (Cond.code ({ cls := "StaveHouse$Piece", name := "studyMade", desc := "()LStaveHouse$Study;" } : Jvm.MethodName) prog_8_method_9_code 1 (Option.some (Jvm.ClassFile.FieldType.object "StaveHouse$Study")) :: wAll) ({ frames := 6, cells := cwC K K9, slots := swC K K9, locals := 132 } : Room) (va_Pc [.ref (ad 6 l0 0)] (zPre D ca ad lnC K.2 L aS vS F B sz)) (Q_Piece_studyMade K D ca ad r F9 B9 K9 (zA L sz)) (cwC K K9) (swC K K9) (zA L sz) := by
  refine zMet (Qc := Q_Piece_studyMade K D ca ad r F9 B9 K9) (lv := [(0, .ref (ad 6 l0 0))]) (by decide) (Nat.le_of_ble_eq_true rfl) rfl (fun A p e s m below meth c ls X hZ hS hl => ?_)
  obtain ⟨hx, hb, hr, hml, hown, hts, hlk, hK, hA, hL, hX⟩ := id X
  have hG : zG ad K.2 ad K.2 := zG.rf
  refine W.widen (k := cwC K K) (n := swC K K) (Nat.zero_le _) (Nat.zero_le _) ?_
  have hk0 := zroom0 (K0 := K) (m_Piece_studyMade hf)
  replace hf : (if 0 ≤ l0 ∧ l0 < K.2 6 then (if (F 6 l0 12) < 0 then zbindM (f_Study_init K F B) (fun r3 F3 B3 K3 => if 0 ≤ r3 ∧ r3 < K3.2 9 then if 0 ≤ l0 ∧ l0 < K3.2 6 then f_Piece_studyMade_15 K3 l0 l0 r3 F3 B3 else none else none) else f_Piece_studyMade_18 K l0 F B) else none) = some (r, F9, B9, K9) := hf
  refine lv_aload_n hx hb d_8_9_0 rfl (lv_at hl 0 rfl) ?_
  obtain ⟨g1, hf⟩ := gif hf
  refine zget (ci := 6) (C := RX6) (T := TX6) (v := va_rf (zrf ad 9 (F 6 l0 12))) (k := 12) hx hb hts inW_6 hown hK hZ g1.1 g1.2 rfl (by decide) k_2_231 rfl d_8_9_1 ?_
  refine zifnonnull (tgt := 18) hx hb d_8_9_4 (by decide) (fun h2 => ?_) (fun h2 => ?_)
  · replace hf := gneg hf h2
    exact b_Piece_studyMade_18 X hG hf hZ hS (lv_sub hl [0] rfl)
  · replace hf := gpos hf h2
    refine lv_aload_n hx hb d_8_9_7 rfl (lv_at hl 0 rfl) ?_
    obtain ⟨r3, F3, B3, K3, hc3, hf⟩ := gbindM hf
    have hw3 := w_Study_init hc3
    obtain ⟨ha3, hf⟩ := gif hf
    obtain ⟨hs3_0, hf⟩ := gif hf
    have hm3 := m_Piece_studyMade_15 hf
    have hr3 := zroom hG.1 hw3 hm3
    refine zxnew (C := RX9) (T := TX9) (n := 11) (ci := 9) hx hb hts inW_9 tyX9 tyX9_ok hown k_5_190 k_5_191 k_1_19 hK (zHx.of hZ) hS hA rfl (by have h := hr3.1; dsimp only; omega) (by have h := hr3.2.1; dsimp only; omega) d_8_9_8 (fun q3 Hn3 hZn3 hSn3 => ?_)
    refine lv_dup hx hb d_8_9_11 rfl ?_
    refine va_callv (va_runIN (As := []) (rest := .ref q3 :: [.ref (ad 6 l0 0)]) ⟨hx, hb, hml, hown, hts⟩ (c_Study_init (l := l) hc3) ⟨va_cnB 0 hts (gdC k_5_194) rfl rfl rfl (hX.1 _ (List.mem_of_getElem? (i := 7) rfl) :) (hts _ k_1_19) (by decide +kernel) ⟨Nat.le_of_ble_eq_true rfl, Nat.le_of_ble_eq_true rfl⟩, rfl, hts _ k_5_193⟩ (zxPS (X := []) X hZn3 hSn3 [.ref q3]) rfl rfl hl.1 rfl (lv_room (Nat.le_of_ble_eq_true rfl)) d_8_9_12 ⟨by have h := hr3.1; dsimp only; omega, by have h := hr3.2.1; dsimp only; omega⟩) hSn3 (fun x _ h => zxAin (X := []) X hZn3 hSn3 x h) (zxAin (X := []) X hZn3 hSn3) (fun u3 t3 H3 locs3 ht3 hv3 hu3 hB3 hz3 hk3 hS3 => ?_)
    obtain ⟨ad3, L3⟩ := u3
    obtain ⟨hg3, hq3⟩ := hu3
    have hZ3 := (zxback (X := []) hZn3 (zxAin (X := []) X hZn3 hSn3) hk3 ht3 hB3).to
    replace hq3 : ad3 9 r3 0 = q3 := hq3
    subst hq3
    refine W.widen (k := cwC K K3) (n := swC K K3) (by have h := hr3.2.2.1; omega) (by have h := hr3.2.2.2; omega) ?_
    have X3 := X.grow hZ3.inA
    have hG3 := hG.tr hg3
    have e3_0 : ad3 6 l0 0 = ad 6 l0 0 := hg3.2 6 l0 0 g1.1 g1.2
    have hl : lv_has ls 1 [(0, .ref (ad3 6 l0 0))] := by have h := lv_sub hl [0] rfl; simp only [e3_0]; exact h
    refine W.eq (g2 := F0 m 15 ls [.ref (ad3 9 r3 0), .ref (ad3 6 l0 0)]) (by simp only [e3_0]) ?_
    refine W.eq (g2 := F0 m 15 ls [.ref (ad3 9 r3 0), va_rf (zrf ad3 6 l0)]) (by rw [zrf_pos (ad := ad3) (t := 6) hs3_0.1]; try rfl) ?_
    refine W.eq (g2 := F0 m 15 ls [va_rf (zrf ad3 9 r3), va_rf (zrf ad3 6 l0)]) (by rw [zrf_pos (ad := ad3) (t := 9) ha3.1]; try rfl) ?_
    exact b_Piece_studyMade_15 X3 hG3 hf hZ3 hS3 (lv_sub hl [0] rfl)

abbrev Q_Piece_soundsMade (K : zK) (D : va_G) (ca : Nat → ClassId) (ad : Nat → Int → Nat → Nat) (r : Int) (F : zF) (B : zB) (K9 : zK) (A : Nat → Prop) : Array Value → State → Outcome → State → Prop := va_Qq (S := (Nat → Int → Nat → Nat) × List Nat) (fun p u => p = zrf u.1 5 r ∧ zG ad K.2 u.1 K9.2) (fun u => zPo D ca u.1 lnC K9.2 u.2 F B A) A
def f_Piece_soundsMade_38 (K : zK) (l0 : Int) (F : zF) (B : zB) : zOm := if 0 ≤ l0 ∧ l0 < K.2 6 then some (F 6 l0 9, F, B, K) else none
theorem m_Piece_soundsMade_38 {K : zK} {l0 : Int} {F : zF} {B : zB} {r : Int} {F9 : zF} {B9 : zB} {K9 : zK} (hf : f_Piece_soundsMade_38 K l0 F B = some (r, F9, B9, K9)) : zKle K K9 := by
  replace hf : (if 0 ≤ l0 ∧ l0 < K.2 6 then some (F 6 l0 9, F, B, K) else none) = some (r, F9, B9, K9) := hf
  obtain ⟨g13, hf⟩ := gif hf
  cases hf
  exact zKle.rf

set_option maxHeartbeats 4000000 in
set_option maxRecDepth 100000 in
theorem b_Piece_soundsMade_38 {D : va_G} {ca : Nat → ClassId} {ad0 : Nat → Int → Nat → Nat} {aS vS : Nat → Nat} {A : Nat → Prop} {p : Program} {l : Launch} {e : Env} {s : State} {m : MethodId} {args : Array Value} {below : List Frame} {meth : Method} {c : Code} {K0 : zK} {r : Int} {F9 : zF} {B9 : zB} {K9 : zK} {K : zK} {l0 : Int} {F : zF} {B : zB} {ad : Nat → Int → Nat → Nat} {L : List Nat} {H : Heap} {locs : List Loc} {ls : Array Slot} : zX D ca L aS vS A p s m args meth c prog_8_method_8_code 1 (Option.some (Jvm.ClassFile.FieldType.object "StaveHouse$Performance")) "StaveHouse$Piece" → zG ad0 K0.2 ad K.2 → f_Piece_soundsMade_38 K l0 F B = some (r, F9, B9, K9) → zH D ca ad lnC K.2 L F B A H → va_S A s.heap H locs → lv_has ls 1 [(0, .ref (ad 6 l0 0))] → W p l e ({ frames := 5, cells := cwC K0 K9, slots := swC K0 K9, locals := 121 } : Room) s m args below meth c H locs (cwC K0 K) (swC K0 K) (MQ below (Q_Piece_soundsMade K0 D ca ad0 r F9 B9 K9 A) args s (cwC K0 K9) (swC K0 K9) A) (F0 m 38 ls []) := by
  intro X hG hf hZ hS hl
  obtain ⟨hx, hb, hr, hml, hown, hts, hlk, hK, hA, hL, hX⟩ := id X
  have hk0 := zroom0 (K0 := K0) (m_Piece_soundsMade_38 hf)
  replace hf : (if 0 ≤ l0 ∧ l0 < K.2 6 then some (F 6 l0 9, F, B, K) else none) = some (r, F9, B9, K9) := hf
  refine lv_aload_n hx hb d_8_8_38 rfl (lv_at hl 0 rfl) ?_
  obtain ⟨g13, hf⟩ := gif hf
  refine zget (ci := 6) (C := RX6) (T := TX6) (v := va_rf (zrf ad 5 (F 6 l0 9))) (k := 9) hx hb hts inW_6 hown hK hZ g13.1 g13.2 rfl (by decide) k_2_226 rfl d_8_8_39 ?_
  cases hf
  exact W.aret hx hb hr (Or.inl ⟨_, rfl⟩) (va_rf_or _) (fun t ht hW => ⟨⟨_, (ad, L), rfl, ⟨rfl, hG⟩, by rw [ht]; exact hZ, va_K.moved hW.alike hK⟩, hS.F ht⟩) hS.2.2 d_8_8_42 hlk

def f_Piece_soundsMade_18 (K : zK) (l0 : Int) (F : zF) (B : zB) : zOm := if 0 ≤ l0 ∧ l0 < K.2 6 then if r32 (F 6 l0 11) then (if (F 6 l0 11) = 0 then if 0 ≤ (F 6 l0 9) ∧ (F 6 l0 9) < K.2 5 then zbindN (f_Performance_gather K (F 6 l0 9) l0 F B) (fun r11 F11 B11 => f_Piece_soundsMade_38 K l0 (zup3 F11 6 l0 11 1) B11) else none else f_Piece_soundsMade_38 K l0 F B) else none else none
theorem m_Piece_soundsMade_18 {K : zK} {l0 : Int} {F : zF} {B : zB} {r : Int} {F9 : zF} {B9 : zB} {K9 : zK} (hf : f_Piece_soundsMade_18 K l0 F B = some (r, F9, B9, K9)) : zKle K K9 := by
  replace hf : (if 0 ≤ l0 ∧ l0 < K.2 6 then if r32 (F 6 l0 11) then (if (F 6 l0 11) = 0 then if 0 ≤ (F 6 l0 9) ∧ (F 6 l0 9) < K.2 5 then zbindN (f_Performance_gather K (F 6 l0 9) l0 F B) (fun r11 F11 B11 => f_Piece_soundsMade_38 K l0 (zup3 F11 6 l0 11 1) B11) else none else f_Piece_soundsMade_38 K l0 F B) else none else none) = some (r, F9, B9, K9) := hf
  obtain ⟨g7, hf⟩ := gif hf
  obtain ⟨g8, hf⟩ := gif hf
  refine (Classical.em ((F 6 l0 11) = 0)).symm.elim (fun h9 => ?_) (fun h9 => ?_)
  · replace hf := gneg hf h9
    exact m_Piece_soundsMade_38 hf
  · replace hf := gpos hf h9
    obtain ⟨g10, hf⟩ := gif hf
    obtain ⟨r11, F11, B11, hc11, hf⟩ := gbindN hf
    exact m_Piece_soundsMade_38 hf

set_option maxHeartbeats 4000000 in
set_option maxRecDepth 100000 in
theorem b_Piece_soundsMade_18 {D : va_G} {ca : Nat → ClassId} {ad0 : Nat → Int → Nat → Nat} {aS vS : Nat → Nat} {A : Nat → Prop} {p : Program} {l : Launch} {e : Env} {s : State} {m : MethodId} {args : Array Value} {below : List Frame} {meth : Method} {c : Code} {K0 : zK} {r : Int} {F9 : zF} {B9 : zB} {K9 : zK} {K : zK} {l0 : Int} {F : zF} {B : zB} {ad : Nat → Int → Nat → Nat} {L : List Nat} {H : Heap} {locs : List Loc} {ls : Array Slot} : zX D ca L aS vS A p s m args meth c prog_8_method_8_code 1 (Option.some (Jvm.ClassFile.FieldType.object "StaveHouse$Performance")) "StaveHouse$Piece" → zG ad0 K0.2 ad K.2 → f_Piece_soundsMade_18 K l0 F B = some (r, F9, B9, K9) → zH D ca ad lnC K.2 L F B A H → va_S A s.heap H locs → lv_has ls 1 [(0, .ref (ad 6 l0 0))] → W p l e ({ frames := 5, cells := cwC K0 K9, slots := swC K0 K9, locals := 121 } : Room) s m args below meth c H locs (cwC K0 K) (swC K0 K) (MQ below (Q_Piece_soundsMade K0 D ca ad0 r F9 B9 K9 A) args s (cwC K0 K9) (swC K0 K9) A) (F0 m 18 ls []) := by
  intro X hG hf hZ hS hl
  obtain ⟨hx, hb, hr, hml, hown, hts, hlk, hK, hA, hL, hX⟩ := id X
  have hk0 := zroom0 (K0 := K0) (m_Piece_soundsMade_18 hf)
  replace hf : (if 0 ≤ l0 ∧ l0 < K.2 6 then if r32 (F 6 l0 11) then (if (F 6 l0 11) = 0 then if 0 ≤ (F 6 l0 9) ∧ (F 6 l0 9) < K.2 5 then zbindN (f_Performance_gather K (F 6 l0 9) l0 F B) (fun r11 F11 B11 => f_Piece_soundsMade_38 K l0 (zup3 F11 6 l0 11 1) B11) else none else f_Piece_soundsMade_38 K l0 F B) else none else none) = some (r, F9, B9, K9) := hf
  refine lv_aload_n hx hb d_8_8_18 rfl (lv_at hl 0 rfl) ?_
  obtain ⟨g7, hf⟩ := gif hf
  refine zget (ci := 6) (C := RX6) (T := TX6) (v := .int (iI (F 6 l0 11))) (k := 11) hx hb hts inW_6 hown hK hZ g7.1 g7.2 rfl (by decide) k_2_230 rfl d_8_8_19 ?_
  obtain ⟨g8, hf⟩ := gif hf
  refine z0ne (tgt := 38) hx hb g8 d_8_8_22 (by decide) (fun h9 => ?_) (fun h9 => ?_)
  · replace hf := gneg hf h9
    exact b_Piece_soundsMade_38 X hG hf hZ hS (lv_sub hl [0] rfl)
  · replace hf := gpos hf h9
    refine lv_aload_n hx hb d_8_8_25 rfl (lv_at hl 0 rfl) ?_
    refine zget (ci := 6) (C := RX6) (T := TX6) (v := va_rf (zrf ad 5 (F 6 l0 9))) (k := 9) hx hb hts inW_6 hown hK hZ g7.1 g7.2 rfl (by decide) k_2_226 rfl d_8_8_26 ?_
    refine lv_aload_n hx hb d_8_8_29 rfl (lv_at hl 0 rfl) ?_
    obtain ⟨g10, hf⟩ := gif hf
    refine W.eq (g2 := F0 m 30 ls [.ref (ad 6 l0 0), .ref (ad 5 (F 6 l0 9) 0)]) (by rw [zrf_pos (ad := ad) (t := 5) g10.1]; try rfl) ?_
    obtain ⟨r11, F11, B11, hc11, hf⟩ := gbindN hf
    refine va_callv (va_runV (As := [.ref (ad 6 l0 0)]) (rest := []) ⟨hx, hb, hml, hown, hts⟩ (c_Performance_gather (l := l) hc11) (cwV 1 hts (gdV k_6_112 k_6_113 k_6_114 k_1_20 k_6_115) rfl rfl rfl (by decide +kernel) ⟨Nat.le_of_ble_eq_true rfl, Nat.le_of_ble_eq_true rfl⟩) (zPV X hZ hS (ci := 5) g10.1 g10.2 (r := (RX5, TX5, 14)) rfl [.ref (ad 6 l0 0)]) rfl rfl hl.1 rfl (lv_room (Nat.le_of_ble_eq_true rfl)) d_8_8_30 ⟨hk0.1, hk0.2⟩) hS (fun q _ h => zAin X hS q h) (zAin X hS) (fun u11 t11 H11 locs11 ht11 hv11 hw11 hB11 hz11 hk11 hS11 => ?_)
    have hZ11 := zBack X ht11 hB11
    refine lv_aload_n hx hb d_8_8_33 rfl (lv_at hl 0 rfl) ?_
    refine lv_iconst (v := iI 1) hx hb d_8_8_34 rfl ?_
    refine zput (ci := 6) (C := RX6) (T := TX6) (k := 11) (v := 1) (w := .int (iI 1)) hx hb hts inW_6 tyX6 tyX6_ok nmX6 hown hK hZ11 hS11 g7.1 g7.2 rfl (by decide) k_2_230 rfl (fun G h => congrArg (fun q => Value.int (iI q)) h) rfl rfl (zno (by decide)) d_8_8_35 (fun H12 locs12 hZ12 hS12 => ?_)
    exact b_Piece_soundsMade_38 X hG hf hZ12 hS12 (lv_sub hl [0] rfl)

def f_Piece_soundsMade_15 (K : zK) (l0 : Int) (s0 : Int) (s1 : Int) (F : zF) (B : zB) : zOm := if 0 ≤ s0 ∧ s0 < K.2 6 then if s1 < K.2 5 then f_Piece_soundsMade_18 K l0 (zup3 F 6 s0 9 s1) B else none else none
theorem m_Piece_soundsMade_15 {K : zK} {l0 : Int} {s0 : Int} {s1 : Int} {F : zF} {B : zB} {r : Int} {F9 : zF} {B9 : zB} {K9 : zK} (hf : f_Piece_soundsMade_15 K l0 s0 s1 F B = some (r, F9, B9, K9)) : zKle K K9 := by
  replace hf : (if 0 ≤ s0 ∧ s0 < K.2 6 then if s1 < K.2 5 then f_Piece_soundsMade_18 K l0 (zup3 F 6 s0 9 s1) B else none else none) = some (r, F9, B9, K9) := hf
  obtain ⟨g4, hf⟩ := gif hf
  obtain ⟨g6, hf⟩ := gif hf
  exact m_Piece_soundsMade_18 hf

set_option maxHeartbeats 4000000 in
set_option maxRecDepth 100000 in
theorem b_Piece_soundsMade_15 {D : va_G} {ca : Nat → ClassId} {ad0 : Nat → Int → Nat → Nat} {aS vS : Nat → Nat} {A : Nat → Prop} {p : Program} {l : Launch} {e : Env} {s : State} {m : MethodId} {args : Array Value} {below : List Frame} {meth : Method} {c : Code} {K0 : zK} {r : Int} {F9 : zF} {B9 : zB} {K9 : zK} {K : zK} {l0 : Int} {s0 : Int} {s1 : Int} {F : zF} {B : zB} {ad : Nat → Int → Nat → Nat} {L : List Nat} {H : Heap} {locs : List Loc} {ls : Array Slot} : zX D ca L aS vS A p s m args meth c prog_8_method_8_code 1 (Option.some (Jvm.ClassFile.FieldType.object "StaveHouse$Performance")) "StaveHouse$Piece" → zG ad0 K0.2 ad K.2 → f_Piece_soundsMade_15 K l0 s0 s1 F B = some (r, F9, B9, K9) → zH D ca ad lnC K.2 L F B A H → va_S A s.heap H locs → lv_has ls 1 [(0, .ref (ad 6 l0 0))] → W p l e ({ frames := 5, cells := cwC K0 K9, slots := swC K0 K9, locals := 121 } : Room) s m args below meth c H locs (cwC K0 K) (swC K0 K) (MQ below (Q_Piece_soundsMade K0 D ca ad0 r F9 B9 K9 A) args s (cwC K0 K9) (swC K0 K9) A) (F0 m 15 ls [va_rf (zrf ad 5 s1), va_rf (zrf ad 6 s0)]) := by
  intro X hG hf hZ hS hl
  obtain ⟨hx, hb, hr, hml, hown, hts, hlk, hK, hA, hL, hX⟩ := id X
  have hk0 := zroom0 (K0 := K0) (m_Piece_soundsMade_15 hf)
  replace hf : (if 0 ≤ s0 ∧ s0 < K.2 6 then if s1 < K.2 5 then f_Piece_soundsMade_18 K l0 (zup3 F 6 s0 9 s1) B else none else none) = some (r, F9, B9, K9) := hf
  obtain ⟨g4, hf⟩ := gif hf
  refine W.eq (g2 := F0 m 15 ls [va_rf (zrf ad 5 s1), .ref (ad 6 s0 0)]) (by rw [zrf_pos (ad := ad) (t := 6) g4.1]; try rfl) ?_
  obtain ⟨g6, hf⟩ := gif hf
  refine zput (ci := 6) (C := RX6) (T := TX6) (k := 9) (v := s1) (w := va_rf (zrf ad 5 s1)) hx hb hts inW_6 tyX6 tyX6_ok nmX6 hown hK hZ hS g4.1 g4.2 rfl (by decide) k_2_226 rfl (fun G h => congrArg (fun q => va_rf (zrf ad 5 q)) h) (zrf_nar rfl _) (zrf_fit rfl _) (zyes (t0 := 5) rfl g6) d_8_8_15 (fun H5 locs5 hZ5 hS5 => ?_)
  exact b_Piece_soundsMade_18 X hG hf hZ5 hS5 (lv_sub hl [0] rfl)

def f_Piece_soundsMade (K : zK) (l0 : Int) (F : zF) (B : zB) : zOm := if 0 ≤ l0 ∧ l0 < K.2 6 then (if (F 6 l0 9) < 0 then zbindM (f_Performance_init K F B) (fun r3 F3 B3 K3 => if 0 ≤ r3 ∧ r3 < K3.2 5 then if 0 ≤ l0 ∧ l0 < K3.2 6 then f_Piece_soundsMade_15 K3 l0 l0 r3 F3 B3 else none else none) else f_Piece_soundsMade_18 K l0 F B) else none
theorem m_Piece_soundsMade {K : zK} {l0 : Int} {F : zF} {B : zB} {r : Int} {F9 : zF} {B9 : zB} {K9 : zK} (hf : f_Piece_soundsMade K l0 F B = some (r, F9, B9, K9)) : zKle K K9 := by
  replace hf : (if 0 ≤ l0 ∧ l0 < K.2 6 then (if (F 6 l0 9) < 0 then zbindM (f_Performance_init K F B) (fun r3 F3 B3 K3 => if 0 ≤ r3 ∧ r3 < K3.2 5 then if 0 ≤ l0 ∧ l0 < K3.2 6 then f_Piece_soundsMade_15 K3 l0 l0 r3 F3 B3 else none else none) else f_Piece_soundsMade_18 K l0 F B) else none) = some (r, F9, B9, K9) := hf
  obtain ⟨g1, hf⟩ := gif hf
  refine (Classical.em ((F 6 l0 9) < 0)).symm.elim (fun h2 => ?_) (fun h2 => ?_)
  · replace hf := gneg hf h2
    exact m_Piece_soundsMade_18 hf
  · replace hf := gpos hf h2
    obtain ⟨r3, F3, B3, K3, hc3, hf⟩ := gbindM hf
    obtain ⟨ha3, hf⟩ := gif hf
    obtain ⟨hs3_0, hf⟩ := gif hf
    exact (m_Performance_init hc3).tr (m_Piece_soundsMade_15 hf)

set_option maxHeartbeats 4000000 in
set_option maxRecDepth 100000 in
theorem c_Piece_soundsMade {l : Launch} {D : va_G} {ca : Nat → ClassId} {ad : Nat → Int → Nat → Nat} {L : List Nat} {aS vS : Nat → Nat} {sz : Nat} {K : zK} {l0 : Int} {F : zF} {B : zB} {r : Int} {F9 : zF} {B9 : zB} {K9 : zK} (hf : f_Piece_soundsMade K l0 F B = some (r, F9, B9, K9)) : Met l ({ cls := "StaveHouse$Piece", name := "soundsMade", desc := "()LStaveHouse$Performance;" } : Jvm.MethodName) (Cond.code ({ cls := "StaveHouse$Piece", name := "soundsMade", desc := "()LStaveHouse$Performance;" } : Jvm.MethodName) prog_8_method_8_code 1 (Option.some (Jvm.ClassFile.FieldType.object "StaveHouse$Performance")) :: wAll) ({ frames := 5, cells := cwC K K9, slots := swC K K9, locals := 121 } : Room) (va_Pc [.ref (ad 6 l0 0)] (zPre D ca ad lnC K.2 L aS vS F B sz)) (Q_Piece_soundsMade K D ca ad r F9 B9 K9 (zA L sz)) (cwC K K9) (swC K K9) (zA L sz) := by
  refine zMet (Qc := Q_Piece_soundsMade K D ca ad r F9 B9 K9) (lv := [(0, .ref (ad 6 l0 0))]) (by decide) (Nat.le_of_ble_eq_true rfl) rfl (fun A p e s m below meth c ls X hZ hS hl => ?_)
  obtain ⟨hx, hb, hr, hml, hown, hts, hlk, hK, hA, hL, hX⟩ := id X
  have hG : zG ad K.2 ad K.2 := zG.rf
  refine W.widen (k := cwC K K) (n := swC K K) (Nat.zero_le _) (Nat.zero_le _) ?_
  have hk0 := zroom0 (K0 := K) (m_Piece_soundsMade hf)
  replace hf : (if 0 ≤ l0 ∧ l0 < K.2 6 then (if (F 6 l0 9) < 0 then zbindM (f_Performance_init K F B) (fun r3 F3 B3 K3 => if 0 ≤ r3 ∧ r3 < K3.2 5 then if 0 ≤ l0 ∧ l0 < K3.2 6 then f_Piece_soundsMade_15 K3 l0 l0 r3 F3 B3 else none else none) else f_Piece_soundsMade_18 K l0 F B) else none) = some (r, F9, B9, K9) := hf
  refine lv_aload_n hx hb d_8_8_0 rfl (lv_at hl 0 rfl) ?_
  obtain ⟨g1, hf⟩ := gif hf
  refine zget (ci := 6) (C := RX6) (T := TX6) (v := va_rf (zrf ad 5 (F 6 l0 9))) (k := 9) hx hb hts inW_6 hown hK hZ g1.1 g1.2 rfl (by decide) k_2_226 rfl d_8_8_1 ?_
  refine zifnonnull (tgt := 18) hx hb d_8_8_4 (by decide) (fun h2 => ?_) (fun h2 => ?_)
  · replace hf := gneg hf h2
    exact b_Piece_soundsMade_18 X hG hf hZ hS (lv_sub hl [0] rfl)
  · replace hf := gpos hf h2
    refine lv_aload_n hx hb d_8_8_7 rfl (lv_at hl 0 rfl) ?_
    obtain ⟨r3, F3, B3, K3, hc3, hf⟩ := gbindM hf
    have hw3 := w_Performance_init hc3
    obtain ⟨ha3, hf⟩ := gif hf
    obtain ⟨hs3_0, hf⟩ := gif hf
    have hm3 := m_Piece_soundsMade_15 hf
    have hr3 := zroom hG.1 hw3 hm3
    refine zxnew (C := RX5) (T := TX5) (n := 14) (ci := 5) hx hb hts inW_5 tyX5 tyX5_ok hown k_6_56 k_6_57 k_1_20 hK (zHx.of hZ) hS hA rfl (by have h := hr3.1; dsimp only; omega) (by have h := hr3.2.1; dsimp only; omega) d_8_8_8 (fun q3 Hn3 hZn3 hSn3 => ?_)
    refine lv_dup hx hb d_8_8_11 rfl ?_
    refine va_callv (va_runIN (As := []) (rest := .ref q3 :: [.ref (ad 6 l0 0)]) ⟨hx, hb, hml, hown, hts⟩ (c_Performance_init (l := l) hc3) ⟨va_cnB 0 hts (gdC k_6_60) rfl rfl rfl (hX.1 _ (List.mem_of_getElem? (i := 8) rfl) :) (hts _ k_1_20) (by decide +kernel) ⟨Nat.le_of_ble_eq_true rfl, Nat.le_of_ble_eq_true rfl⟩, rfl, hts _ k_6_59⟩ (zxPS (X := []) X hZn3 hSn3 [.ref q3]) rfl rfl hl.1 rfl (lv_room (Nat.le_of_ble_eq_true rfl)) d_8_8_12 ⟨by have h := hr3.1; dsimp only; omega, by have h := hr3.2.1; dsimp only; omega⟩) hSn3 (fun x _ h => zxAin (X := []) X hZn3 hSn3 x h) (zxAin (X := []) X hZn3 hSn3) (fun u3 t3 H3 locs3 ht3 hv3 hu3 hB3 hz3 hk3 hS3 => ?_)
    obtain ⟨ad3, L3⟩ := u3
    obtain ⟨hg3, hq3⟩ := hu3
    have hZ3 := (zxback (X := []) hZn3 (zxAin (X := []) X hZn3 hSn3) hk3 ht3 hB3).to
    replace hq3 : ad3 5 r3 0 = q3 := hq3
    subst hq3
    refine W.widen (k := cwC K K3) (n := swC K K3) (by have h := hr3.2.2.1; omega) (by have h := hr3.2.2.2; omega) ?_
    have X3 := X.grow hZ3.inA
    have hG3 := hG.tr hg3
    have e3_0 : ad3 6 l0 0 = ad 6 l0 0 := hg3.2 6 l0 0 g1.1 g1.2
    have hl : lv_has ls 1 [(0, .ref (ad3 6 l0 0))] := by have h := lv_sub hl [0] rfl; simp only [e3_0]; exact h
    refine W.eq (g2 := F0 m 15 ls [.ref (ad3 5 r3 0), .ref (ad3 6 l0 0)]) (by simp only [e3_0]) ?_
    refine W.eq (g2 := F0 m 15 ls [.ref (ad3 5 r3 0), va_rf (zrf ad3 6 l0)]) (by rw [zrf_pos (ad := ad3) (t := 6) hs3_0.1]; try rfl) ?_
    refine W.eq (g2 := F0 m 15 ls [va_rf (zrf ad3 5 r3), va_rf (zrf ad3 6 l0)]) (by rw [zrf_pos (ad := ad3) (t := 5) ha3.1]; try rfl) ?_
    exact b_Piece_soundsMade_15 X3 hG3 hf hZ3 hS3 (lv_sub hl [0] rfl)

abbrev Q_S_look (K : zK) (D : va_G) (ca : Nat → ClassId) (ad : Nat → Int → Nat → Nat) (r : Int) (F : zF) (B : zB) (K9 : zK) (A : Nat → Prop) : Array Value → State → Outcome → State → Prop := va_Qi (S := (Nat → Int → Nat → Nat) × List Nat) (fun p u => p = iI r ∧ zG ad K.2 u.1 K9.2) (fun u => zPo D ca u.1 lnC K9.2 u.2 F B A) A
def f_S_look_220 (K : zK) (s0 : Int) (F : zF) (B : zB) : zOm := some (s0, F, B, K)
theorem m_S_look_220 {K : zK} {s0 : Int} {F : zF} {B : zB} {r : Int} {F9 : zF} {B9 : zB} {K9 : zK} (hf : f_S_look_220 K s0 F B = some (r, F9, B9, K9)) : zKle K K9 := by
  replace hf : (some (s0, F, B, K)) = some (r, F9, B9, K9) := hf
  cases hf
  exact zKle.rf

set_option maxHeartbeats 4000000 in
set_option maxRecDepth 100000 in
theorem b_S_look_220 {D : va_G} {ca : Nat → ClassId} {ad0 : Nat → Int → Nat → Nat} {aS vS : Nat → Nat} {A : Nat → Prop} {p : Program} {l : Launch} {e : Env} {s : State} {m : MethodId} {args : Array Value} {below : List Frame} {meth : Method} {c : Code} {K0 : zK} {r : Int} {F9 : zF} {B9 : zB} {K9 : zK} {K : zK} {s0 : Int} {F : zF} {B : zB} {ad : Nat → Int → Nat → Nat} {L : List Nat} {H : Heap} {locs : List Loc} {ls : Array Slot} : zX D ca L aS vS A p s m args meth c prog_1_method_10_code 4 (Option.some Jvm.ClassFile.FieldType.int) "StaveHouse" → zG ad0 K0.2 ad K.2 → f_S_look_220 K s0 F B = some (r, F9, B9, K9) → zH D ca ad lnC K.2 L F B A H → va_S A s.heap H locs → lv_has ls 4 [] → W p l e ({ frames := 7, cells := cwC K0 K9, slots := swC K0 K9, locals := 152 } : Room) s m args below meth c H locs (cwC K0 K) (swC K0 K) (MQ below (Q_S_look K0 D ca ad0 r F9 B9 K9 A) args s (cwC K0 K9) (swC K0 K9) A) (F0 m 220 ls [.int (iI s0)]) := by
  intro X hG hf hZ hS hl
  obtain ⟨hx, hb, hr, hml, hown, hts, hlk, hK, hA, hL, hX⟩ := id X
  have hk0 := zroom0 (K0 := K0) (m_S_look_220 hf)
  replace hf : (some (s0, F, B, K)) = some (r, F9, B9, K9) := hf
  cases hf
  exact W.iret hx hb hr (fun t ht hW => ⟨⟨_, (ad, L), rfl, ⟨rfl, hG⟩, by rw [ht]; exact hZ, va_K.moved hW.alike hK⟩, hS.F ht⟩) hS.2.2 d_1_10_220 hlk

def f_S_look_213 (K : zK) (s0 : Int) (F : zF) (B : zB) : zOm := if 0 ≤ s0 ∧ s0 < K.2 5 then f_S_look_220 K (F 5 s0 2) F B else none
theorem m_S_look_213 {K : zK} {s0 : Int} {F : zF} {B : zB} {r : Int} {F9 : zF} {B9 : zB} {K9 : zK} (hf : f_S_look_213 K s0 F B = some (r, F9, B9, K9)) : zKle K K9 := by
  replace hf : (if 0 ≤ s0 ∧ s0 < K.2 5 then f_S_look_220 K (F 5 s0 2) F B else none) = some (r, F9, B9, K9) := hf
  obtain ⟨g48, hf⟩ := gif hf
  exact m_S_look_220 hf

set_option maxHeartbeats 4000000 in
set_option maxRecDepth 100000 in
theorem b_S_look_213 {D : va_G} {ca : Nat → ClassId} {ad0 : Nat → Int → Nat → Nat} {aS vS : Nat → Nat} {A : Nat → Prop} {p : Program} {l : Launch} {e : Env} {s : State} {m : MethodId} {args : Array Value} {below : List Frame} {meth : Method} {c : Code} {K0 : zK} {r : Int} {F9 : zF} {B9 : zB} {K9 : zK} {K : zK} {s0 : Int} {F : zF} {B : zB} {ad : Nat → Int → Nat → Nat} {L : List Nat} {H : Heap} {locs : List Loc} {ls : Array Slot} : zX D ca L aS vS A p s m args meth c prog_1_method_10_code 4 (Option.some Jvm.ClassFile.FieldType.int) "StaveHouse" → zG ad0 K0.2 ad K.2 → f_S_look_213 K s0 F B = some (r, F9, B9, K9) → zH D ca ad lnC K.2 L F B A H → va_S A s.heap H locs → lv_has ls 4 [] → W p l e ({ frames := 7, cells := cwC K0 K9, slots := swC K0 K9, locals := 152 } : Room) s m args below meth c H locs (cwC K0 K) (swC K0 K) (MQ below (Q_S_look K0 D ca ad0 r F9 B9 K9 A) args s (cwC K0 K9) (swC K0 K9) A) (F0 m 213 ls [va_rf (zrf ad 5 s0)]) := by
  intro X hG hf hZ hS hl
  obtain ⟨hx, hb, hr, hml, hown, hts, hlk, hK, hA, hL, hX⟩ := id X
  have hk0 := zroom0 (K0 := K0) (m_S_look_213 hf)
  replace hf : (if 0 ≤ s0 ∧ s0 < K.2 5 then f_S_look_220 K (F 5 s0 2) F B else none) = some (r, F9, B9, K9) := hf
  obtain ⟨g48, hf⟩ := gif hf
  refine zunrf g48.1 ?_
  refine zget (ci := 5) (C := RX5) (T := TX5) (v := .int (iI (F 5 s0 2))) (k := 2) hx hb hts inW_5 hown hK hZ g48.1 g48.2 rfl (by decide) k_6_67 rfl d_1_10_213 ?_
  refine lv_goto (tgt := 220) hx hb d_1_10_216 (by decide) ?_
  exact b_S_look_220 X hG hf hZ hS (lv_sub hl [] rfl)

def f_S_look_201 (K : zK) (s0 : Int) (F : zF) (B : zB) : zOm := some (s0, F, B, K)
theorem m_S_look_201 {K : zK} {s0 : Int} {F : zF} {B : zB} {r : Int} {F9 : zF} {B9 : zB} {K9 : zK} (hf : f_S_look_201 K s0 F B = some (r, F9, B9, K9)) : zKle K K9 := by
  replace hf : (some (s0, F, B, K)) = some (r, F9, B9, K9) := hf
  cases hf
  exact zKle.rf

set_option maxHeartbeats 4000000 in
set_option maxRecDepth 100000 in
theorem b_S_look_201 {D : va_G} {ca : Nat → ClassId} {ad0 : Nat → Int → Nat → Nat} {aS vS : Nat → Nat} {A : Nat → Prop} {p : Program} {l : Launch} {e : Env} {s : State} {m : MethodId} {args : Array Value} {below : List Frame} {meth : Method} {c : Code} {K0 : zK} {r : Int} {F9 : zF} {B9 : zB} {K9 : zK} {K : zK} {s0 : Int} {F : zF} {B : zB} {ad : Nat → Int → Nat → Nat} {L : List Nat} {H : Heap} {locs : List Loc} {ls : Array Slot} : zX D ca L aS vS A p s m args meth c prog_1_method_10_code 4 (Option.some Jvm.ClassFile.FieldType.int) "StaveHouse" → zG ad0 K0.2 ad K.2 → f_S_look_201 K s0 F B = some (r, F9, B9, K9) → zH D ca ad lnC K.2 L F B A H → va_S A s.heap H locs → lv_has ls 4 [] → W p l e ({ frames := 7, cells := cwC K0 K9, slots := swC K0 K9, locals := 152 } : Room) s m args below meth c H locs (cwC K0 K) (swC K0 K) (MQ below (Q_S_look K0 D ca ad0 r F9 B9 K9 A) args s (cwC K0 K9) (swC K0 K9) A) (F0 m 201 ls [.int (iI s0)]) := by
  intro X hG hf hZ hS hl
  obtain ⟨hx, hb, hr, hml, hown, hts, hlk, hK, hA, hL, hX⟩ := id X
  have hk0 := zroom0 (K0 := K0) (m_S_look_201 hf)
  replace hf : (some (s0, F, B, K)) = some (r, F9, B9, K9) := hf
  cases hf
  exact W.iret hx hb hr (fun t ht hW => ⟨⟨_, (ad, L), rfl, ⟨rfl, hG⟩, by rw [ht]; exact hZ, va_K.moved hW.alike hK⟩, hS.F ht⟩) hS.2.2 d_1_10_201 hlk

def f_S_look_193 (K : zK) (s0 : Int) (s1 : Int) (F : zF) (B : zB) : zOm := if 0 ≤ s1 ∧ s1 < K.2 5 then f_S_look_201 K (s0 * (F 5 s1 0)) F B else none
theorem m_S_look_193 {K : zK} {s0 : Int} {s1 : Int} {F : zF} {B : zB} {r : Int} {F9 : zF} {B9 : zB} {K9 : zK} (hf : f_S_look_193 K s0 s1 F B = some (r, F9, B9, K9)) : zKle K K9 := by
  replace hf : (if 0 ≤ s1 ∧ s1 < K.2 5 then f_S_look_201 K (s0 * (F 5 s1 0)) F B else none) = some (r, F9, B9, K9) := hf
  obtain ⟨g49, hf⟩ := gif hf
  exact m_S_look_201 hf

set_option maxHeartbeats 4000000 in
set_option maxRecDepth 100000 in
theorem b_S_look_193 {D : va_G} {ca : Nat → ClassId} {ad0 : Nat → Int → Nat → Nat} {aS vS : Nat → Nat} {A : Nat → Prop} {p : Program} {l : Launch} {e : Env} {s : State} {m : MethodId} {args : Array Value} {below : List Frame} {meth : Method} {c : Code} {K0 : zK} {r : Int} {F9 : zF} {B9 : zB} {K9 : zK} {K : zK} {s0 : Int} {s1 : Int} {F : zF} {B : zB} {ad : Nat → Int → Nat → Nat} {L : List Nat} {H : Heap} {locs : List Loc} {ls : Array Slot} : zX D ca L aS vS A p s m args meth c prog_1_method_10_code 4 (Option.some Jvm.ClassFile.FieldType.int) "StaveHouse" → zG ad0 K0.2 ad K.2 → f_S_look_193 K s0 s1 F B = some (r, F9, B9, K9) → zH D ca ad lnC K.2 L F B A H → va_S A s.heap H locs → lv_has ls 4 [] → W p l e ({ frames := 7, cells := cwC K0 K9, slots := swC K0 K9, locals := 152 } : Room) s m args below meth c H locs (cwC K0 K) (swC K0 K) (MQ below (Q_S_look K0 D ca ad0 r F9 B9 K9 A) args s (cwC K0 K9) (swC K0 K9) A) (F0 m 193 ls [va_rf (zrf ad 5 s1), .int (iI s0)]) := by
  intro X hG hf hZ hS hl
  obtain ⟨hx, hb, hr, hml, hown, hts, hlk, hK, hA, hL, hX⟩ := id X
  have hk0 := zroom0 (K0 := K0) (m_S_look_193 hf)
  replace hf : (if 0 ≤ s1 ∧ s1 < K.2 5 then f_S_look_201 K (s0 * (F 5 s1 0)) F B else none) = some (r, F9, B9, K9) := hf
  obtain ⟨g49, hf⟩ := gif hf
  refine zunrf g49.1 ?_
  refine zget (ci := 5) (C := RX5) (T := TX5) (v := .int (iI (F 5 s1 0))) (k := 0) hx hb hts inW_5 hown hK hZ g49.1 g49.2 rfl (by decide) k_6_64 rfl d_1_10_193 ?_
  refine zmul hx hb d_1_10_196 ?_
  refine lv_goto (tgt := 201) hx hb d_1_10_197 (by decide) ?_
  exact b_S_look_201 X hG hf hZ hS (lv_sub hl [] rfl)

def f_S_look_180 (K : zK) (s0 : Int) (F : zF) (B : zB) : zOm := some (s0, F, B, K)
theorem m_S_look_180 {K : zK} {s0 : Int} {F : zF} {B : zB} {r : Int} {F9 : zF} {B9 : zB} {K9 : zK} (hf : f_S_look_180 K s0 F B = some (r, F9, B9, K9)) : zKle K K9 := by
  replace hf : (some (s0, F, B, K)) = some (r, F9, B9, K9) := hf
  cases hf
  exact zKle.rf

set_option maxHeartbeats 4000000 in
set_option maxRecDepth 100000 in
theorem b_S_look_180 {D : va_G} {ca : Nat → ClassId} {ad0 : Nat → Int → Nat → Nat} {aS vS : Nat → Nat} {A : Nat → Prop} {p : Program} {l : Launch} {e : Env} {s : State} {m : MethodId} {args : Array Value} {below : List Frame} {meth : Method} {c : Code} {K0 : zK} {r : Int} {F9 : zF} {B9 : zB} {K9 : zK} {K : zK} {s0 : Int} {F : zF} {B : zB} {ad : Nat → Int → Nat → Nat} {L : List Nat} {H : Heap} {locs : List Loc} {ls : Array Slot} : zX D ca L aS vS A p s m args meth c prog_1_method_10_code 4 (Option.some Jvm.ClassFile.FieldType.int) "StaveHouse" → zG ad0 K0.2 ad K.2 → f_S_look_180 K s0 F B = some (r, F9, B9, K9) → zH D ca ad lnC K.2 L F B A H → va_S A s.heap H locs → lv_has ls 4 [] → W p l e ({ frames := 7, cells := cwC K0 K9, slots := swC K0 K9, locals := 152 } : Room) s m args below meth c H locs (cwC K0 K) (swC K0 K) (MQ below (Q_S_look K0 D ca ad0 r F9 B9 K9 A) args s (cwC K0 K9) (swC K0 K9) A) (F0 m 180 ls [.int (iI s0)]) := by
  intro X hG hf hZ hS hl
  obtain ⟨hx, hb, hr, hml, hown, hts, hlk, hK, hA, hL, hX⟩ := id X
  have hk0 := zroom0 (K0 := K0) (m_S_look_180 hf)
  replace hf : (some (s0, F, B, K)) = some (r, F9, B9, K9) := hf
  cases hf
  exact W.iret hx hb hr (fun t ht hW => ⟨⟨_, (ad, L), rfl, ⟨rfl, hG⟩, by rw [ht]; exact hZ, va_K.moved hW.alike hK⟩, hS.F ht⟩) hS.2.2 d_1_10_180 hlk

def f_S_look_173 (K : zK) (s0 : Int) (F : zF) (B : zB) : zOm := if 0 ≤ s0 ∧ s0 < K.2 5 then f_S_look_180 K (F 5 s0 0) F B else none
theorem m_S_look_173 {K : zK} {s0 : Int} {F : zF} {B : zB} {r : Int} {F9 : zF} {B9 : zB} {K9 : zK} (hf : f_S_look_173 K s0 F B = some (r, F9, B9, K9)) : zKle K K9 := by
  replace hf : (if 0 ≤ s0 ∧ s0 < K.2 5 then f_S_look_180 K (F 5 s0 0) F B else none) = some (r, F9, B9, K9) := hf
  obtain ⟨g50, hf⟩ := gif hf
  exact m_S_look_180 hf

set_option maxHeartbeats 4000000 in
set_option maxRecDepth 100000 in
theorem b_S_look_173 {D : va_G} {ca : Nat → ClassId} {ad0 : Nat → Int → Nat → Nat} {aS vS : Nat → Nat} {A : Nat → Prop} {p : Program} {l : Launch} {e : Env} {s : State} {m : MethodId} {args : Array Value} {below : List Frame} {meth : Method} {c : Code} {K0 : zK} {r : Int} {F9 : zF} {B9 : zB} {K9 : zK} {K : zK} {s0 : Int} {F : zF} {B : zB} {ad : Nat → Int → Nat → Nat} {L : List Nat} {H : Heap} {locs : List Loc} {ls : Array Slot} : zX D ca L aS vS A p s m args meth c prog_1_method_10_code 4 (Option.some Jvm.ClassFile.FieldType.int) "StaveHouse" → zG ad0 K0.2 ad K.2 → f_S_look_173 K s0 F B = some (r, F9, B9, K9) → zH D ca ad lnC K.2 L F B A H → va_S A s.heap H locs → lv_has ls 4 [] → W p l e ({ frames := 7, cells := cwC K0 K9, slots := swC K0 K9, locals := 152 } : Room) s m args below meth c H locs (cwC K0 K) (swC K0 K) (MQ below (Q_S_look K0 D ca ad0 r F9 B9 K9 A) args s (cwC K0 K9) (swC K0 K9) A) (F0 m 173 ls [va_rf (zrf ad 5 s0)]) := by
  intro X hG hf hZ hS hl
  obtain ⟨hx, hb, hr, hml, hown, hts, hlk, hK, hA, hL, hX⟩ := id X
  have hk0 := zroom0 (K0 := K0) (m_S_look_173 hf)
  replace hf : (if 0 ≤ s0 ∧ s0 < K.2 5 then f_S_look_180 K (F 5 s0 0) F B else none) = some (r, F9, B9, K9) := hf
  obtain ⟨g50, hf⟩ := gif hf
  refine zunrf g50.1 ?_
  refine zget (ci := 5) (C := RX5) (T := TX5) (v := .int (iI (F 5 s0 0))) (k := 0) hx hb hts inW_5 hown hK hZ g50.1 g50.2 rfl (by decide) k_6_64 rfl d_1_10_173 ?_
  refine lv_goto (tgt := 180) hx hb d_1_10_176 (by decide) ?_
  exact b_S_look_180 X hG hf hZ hS (lv_sub hl [] rfl)

def f_S_look_161 (K : zK) (s0 : Int) (F : zF) (B : zB) : zOm := some (s0, F, B, K)
theorem m_S_look_161 {K : zK} {s0 : Int} {F : zF} {B : zB} {r : Int} {F9 : zF} {B9 : zB} {K9 : zK} (hf : f_S_look_161 K s0 F B = some (r, F9, B9, K9)) : zKle K K9 := by
  replace hf : (some (s0, F, B, K)) = some (r, F9, B9, K9) := hf
  cases hf
  exact zKle.rf

set_option maxHeartbeats 4000000 in
set_option maxRecDepth 100000 in
theorem b_S_look_161 {D : va_G} {ca : Nat → ClassId} {ad0 : Nat → Int → Nat → Nat} {aS vS : Nat → Nat} {A : Nat → Prop} {p : Program} {l : Launch} {e : Env} {s : State} {m : MethodId} {args : Array Value} {below : List Frame} {meth : Method} {c : Code} {K0 : zK} {r : Int} {F9 : zF} {B9 : zB} {K9 : zK} {K : zK} {s0 : Int} {F : zF} {B : zB} {ad : Nat → Int → Nat → Nat} {L : List Nat} {H : Heap} {locs : List Loc} {ls : Array Slot} : zX D ca L aS vS A p s m args meth c prog_1_method_10_code 4 (Option.some Jvm.ClassFile.FieldType.int) "StaveHouse" → zG ad0 K0.2 ad K.2 → f_S_look_161 K s0 F B = some (r, F9, B9, K9) → zH D ca ad lnC K.2 L F B A H → va_S A s.heap H locs → lv_has ls 4 [] → W p l e ({ frames := 7, cells := cwC K0 K9, slots := swC K0 K9, locals := 152 } : Room) s m args below meth c H locs (cwC K0 K) (swC K0 K) (MQ below (Q_S_look K0 D ca ad0 r F9 B9 K9 A) args s (cwC K0 K9) (swC K0 K9) A) (F0 m 161 ls [.int (iI s0)]) := by
  intro X hG hf hZ hS hl
  obtain ⟨hx, hb, hr, hml, hown, hts, hlk, hK, hA, hL, hX⟩ := id X
  have hk0 := zroom0 (K0 := K0) (m_S_look_161 hf)
  replace hf : (some (s0, F, B, K)) = some (r, F9, B9, K9) := hf
  cases hf
  exact W.iret hx hb hr (fun t ht hW => ⟨⟨_, (ad, L), rfl, ⟨rfl, hG⟩, by rw [ht]; exact hZ, va_K.moved hW.alike hK⟩, hS.F ht⟩) hS.2.2 d_1_10_161 hlk

def f_S_look_139 (K : zK) (s0 : Int) (F : zF) (B : zB) : zOm := if 0 ≤ s0 ∧ s0 < K.2 5 then zbindN (f_Performance_keyHeard K s0 F B) (fun r52 F52 B52 => some (r52, F52, B52, K)) else none
theorem m_S_look_139 {K : zK} {s0 : Int} {F : zF} {B : zB} {r : Int} {F9 : zF} {B9 : zB} {K9 : zK} (hf : f_S_look_139 K s0 F B = some (r, F9, B9, K9)) : zKle K K9 := by
  replace hf : (if 0 ≤ s0 ∧ s0 < K.2 5 then zbindN (f_Performance_keyHeard K s0 F B) (fun r52 F52 B52 => some (r52, F52, B52, K)) else none) = some (r, F9, B9, K9) := hf
  obtain ⟨g51, hf⟩ := gif hf
  obtain ⟨r52, F52, B52, hc52, hf⟩ := gbindN hf
  cases hf
  exact zKle.rf

set_option maxHeartbeats 4000000 in
set_option maxRecDepth 100000 in
theorem b_S_look_139 {D : va_G} {ca : Nat → ClassId} {ad0 : Nat → Int → Nat → Nat} {aS vS : Nat → Nat} {A : Nat → Prop} {p : Program} {l : Launch} {e : Env} {s : State} {m : MethodId} {args : Array Value} {below : List Frame} {meth : Method} {c : Code} {K0 : zK} {r : Int} {F9 : zF} {B9 : zB} {K9 : zK} {K : zK} {s0 : Int} {F : zF} {B : zB} {ad : Nat → Int → Nat → Nat} {L : List Nat} {H : Heap} {locs : List Loc} {ls : Array Slot} : zX D ca L aS vS A p s m args meth c prog_1_method_10_code 4 (Option.some Jvm.ClassFile.FieldType.int) "StaveHouse" → zG ad0 K0.2 ad K.2 → f_S_look_139 K s0 F B = some (r, F9, B9, K9) → zH D ca ad lnC K.2 L F B A H → va_S A s.heap H locs → lv_has ls 4 [] → W p l e ({ frames := 7, cells := cwC K0 K9, slots := swC K0 K9, locals := 152 } : Room) s m args below meth c H locs (cwC K0 K) (swC K0 K) (MQ below (Q_S_look K0 D ca ad0 r F9 B9 K9 A) args s (cwC K0 K9) (swC K0 K9) A) (F0 m 139 ls [va_rf (zrf ad 5 s0)]) := by
  intro X hG hf hZ hS hl
  obtain ⟨hx, hb, hr, hml, hown, hts, hlk, hK, hA, hL, hX⟩ := id X
  have hk0 := zroom0 (K0 := K0) (m_S_look_139 hf)
  replace hf : (if 0 ≤ s0 ∧ s0 < K.2 5 then zbindN (f_Performance_keyHeard K s0 F B) (fun r52 F52 B52 => some (r52, F52, B52, K)) else none) = some (r, F9, B9, K9) := hf
  obtain ⟨g51, hf⟩ := gif hf
  refine W.eq (g2 := F0 m 139 ls [.ref (ad 5 s0 0)]) (by rw [zrf_pos (ad := ad) (t := 5) g51.1]; try rfl) ?_
  obtain ⟨r52, F52, B52, hc52, hf⟩ := gbindN hf
  refine va_calli (va_runV (As := []) (rest := []) ⟨hx, hb, hml, hown, hts⟩ (c_Performance_keyHeard (l := l) hc52) (cwV 0 hts (gdV k_6_154 k_6_155 k_6_156 k_1_20 k_6_157) rfl rfl rfl (by decide +kernel) ⟨Nat.le_of_ble_eq_true rfl, Nat.le_of_ble_eq_true rfl⟩) (zPV X hZ hS (ci := 5) g51.1 g51.2 (r := (RX5, TX5, 14)) rfl []) rfl rfl hl.1 rfl (lv_room (Nat.le_of_ble_eq_true rfl)) d_1_10_139 ⟨hk0.1, hk0.2⟩) hS (fun q _ h => zAin X hS q h) (zAin X hS) (fun p52 u52 t52 H52 locs52 ht52 hv52 hw52 hB52 hz52 hk52 hS52 => ?_)
  have hZ52 := zBack X ht52 hB52
  subst hw52
  cases hf
  exact W.iret hx hb hr (fun t ht hW => ⟨⟨_, (ad, L), rfl, ⟨rfl, hG⟩, by rw [ht]; exact hZ52, va_K.moved hW.alike hK⟩, hS52.F ht⟩) hS52.2.2 d_1_10_142 hlk

def f_S_look_131 (K : zK) (s0 : Int) (F : zF) (B : zB) : zOm := if 0 ≤ s0 ∧ s0 < K.2 9 then some (F 9 s0 2, F, B, K) else none
theorem m_S_look_131 {K : zK} {s0 : Int} {F : zF} {B : zB} {r : Int} {F9 : zF} {B9 : zB} {K9 : zK} (hf : f_S_look_131 K s0 F B = some (r, F9, B9, K9)) : zKle K K9 := by
  replace hf : (if 0 ≤ s0 ∧ s0 < K.2 9 then some (F 9 s0 2, F, B, K) else none) = some (r, F9, B9, K9) := hf
  obtain ⟨g53, hf⟩ := gif hf
  cases hf
  exact zKle.rf

set_option maxHeartbeats 4000000 in
set_option maxRecDepth 100000 in
theorem b_S_look_131 {D : va_G} {ca : Nat → ClassId} {ad0 : Nat → Int → Nat → Nat} {aS vS : Nat → Nat} {A : Nat → Prop} {p : Program} {l : Launch} {e : Env} {s : State} {m : MethodId} {args : Array Value} {below : List Frame} {meth : Method} {c : Code} {K0 : zK} {r : Int} {F9 : zF} {B9 : zB} {K9 : zK} {K : zK} {s0 : Int} {F : zF} {B : zB} {ad : Nat → Int → Nat → Nat} {L : List Nat} {H : Heap} {locs : List Loc} {ls : Array Slot} : zX D ca L aS vS A p s m args meth c prog_1_method_10_code 4 (Option.some Jvm.ClassFile.FieldType.int) "StaveHouse" → zG ad0 K0.2 ad K.2 → f_S_look_131 K s0 F B = some (r, F9, B9, K9) → zH D ca ad lnC K.2 L F B A H → va_S A s.heap H locs → lv_has ls 4 [] → W p l e ({ frames := 7, cells := cwC K0 K9, slots := swC K0 K9, locals := 152 } : Room) s m args below meth c H locs (cwC K0 K) (swC K0 K) (MQ below (Q_S_look K0 D ca ad0 r F9 B9 K9 A) args s (cwC K0 K9) (swC K0 K9) A) (F0 m 131 ls [va_rf (zrf ad 9 s0)]) := by
  intro X hG hf hZ hS hl
  obtain ⟨hx, hb, hr, hml, hown, hts, hlk, hK, hA, hL, hX⟩ := id X
  have hk0 := zroom0 (K0 := K0) (m_S_look_131 hf)
  replace hf : (if 0 ≤ s0 ∧ s0 < K.2 9 then some (F 9 s0 2, F, B, K) else none) = some (r, F9, B9, K9) := hf
  obtain ⟨g53, hf⟩ := gif hf
  refine zunrf g53.1 ?_
  refine zget (ci := 9) (C := RX9) (T := TX9) (v := .int (iI (F 9 s0 2))) (k := 2) hx hb hts inW_9 hown hK hZ g53.1 g53.2 rfl (by decide) k_5_202 rfl d_1_10_131 ?_
  cases hf
  exact W.iret hx hb hr (fun t ht hW => ⟨⟨_, (ad, L), rfl, ⟨rfl, hG⟩, by rw [ht]; exact hZ, va_K.moved hW.alike hK⟩, hS.F ht⟩) hS.2.2 d_1_10_134 hlk

def f_S_look_123 (K : zK) (s0 : Int) (F : zF) (B : zB) : zOm := if 0 ≤ s0 ∧ s0 < K.2 9 then some (F 9 s0 0, F, B, K) else none
theorem m_S_look_123 {K : zK} {s0 : Int} {F : zF} {B : zB} {r : Int} {F9 : zF} {B9 : zB} {K9 : zK} (hf : f_S_look_123 K s0 F B = some (r, F9, B9, K9)) : zKle K K9 := by
  replace hf : (if 0 ≤ s0 ∧ s0 < K.2 9 then some (F 9 s0 0, F, B, K) else none) = some (r, F9, B9, K9) := hf
  obtain ⟨g54, hf⟩ := gif hf
  cases hf
  exact zKle.rf

set_option maxHeartbeats 4000000 in
set_option maxRecDepth 100000 in
theorem b_S_look_123 {D : va_G} {ca : Nat → ClassId} {ad0 : Nat → Int → Nat → Nat} {aS vS : Nat → Nat} {A : Nat → Prop} {p : Program} {l : Launch} {e : Env} {s : State} {m : MethodId} {args : Array Value} {below : List Frame} {meth : Method} {c : Code} {K0 : zK} {r : Int} {F9 : zF} {B9 : zB} {K9 : zK} {K : zK} {s0 : Int} {F : zF} {B : zB} {ad : Nat → Int → Nat → Nat} {L : List Nat} {H : Heap} {locs : List Loc} {ls : Array Slot} : zX D ca L aS vS A p s m args meth c prog_1_method_10_code 4 (Option.some Jvm.ClassFile.FieldType.int) "StaveHouse" → zG ad0 K0.2 ad K.2 → f_S_look_123 K s0 F B = some (r, F9, B9, K9) → zH D ca ad lnC K.2 L F B A H → va_S A s.heap H locs → lv_has ls 4 [] → W p l e ({ frames := 7, cells := cwC K0 K9, slots := swC K0 K9, locals := 152 } : Room) s m args below meth c H locs (cwC K0 K) (swC K0 K) (MQ below (Q_S_look K0 D ca ad0 r F9 B9 K9 A) args s (cwC K0 K9) (swC K0 K9) A) (F0 m 123 ls [va_rf (zrf ad 9 s0)]) := by
  intro X hG hf hZ hS hl
  obtain ⟨hx, hb, hr, hml, hown, hts, hlk, hK, hA, hL, hX⟩ := id X
  have hk0 := zroom0 (K0 := K0) (m_S_look_123 hf)
  replace hf : (if 0 ≤ s0 ∧ s0 < K.2 9 then some (F 9 s0 0, F, B, K) else none) = some (r, F9, B9, K9) := hf
  obtain ⟨g54, hf⟩ := gif hf
  refine zunrf g54.1 ?_
  refine zget (ci := 9) (C := RX9) (T := TX9) (v := .int (iI (F 9 s0 0))) (k := 0) hx hb hts inW_9 hown hK hZ g54.1 g54.2 rfl (by decide) k_5_198 rfl d_1_10_123 ?_
  cases hf
  exact W.iret hx hb hr (fun t ht hW => ⟨⟨_, (ad, L), rfl, ⟨rfl, hG⟩, by rw [ht]; exact hZ, va_K.moved hW.alike hK⟩, hS.F ht⟩) hS.2.2 d_1_10_126 hlk

def f_S_look (K : zK) (l0 : Int) (l1 : Int) (l2 : Int) (F : zF) (B : zB) : zOm := if 0 ≤ l0 ∧ l0 < K.2 12 then zbindN (f_S_pieceAt K l0 l1 F B) (fun r2 F2 B2 => (if r2 < 0 then some ((-1), F2, B2, K) else if r32 l2 then (if l2 = 0 then if 0 ≤ r2 ∧ r2 < K.2 6 then some (F2 6 r2 1, F2, B2, K) else none else (if l2 = 1 then if 0 ≤ r2 ∧ r2 < K.2 6 then some (F2 6 r2 7, F2, B2, K) else none else (if l2 = 2 then if 0 ≤ r2 ∧ r2 < K.2 6 then some (F2 6 r2 2, F2, B2, K) else none else (if l2 = 3 then if 0 ≤ r2 ∧ r2 < K.2 6 then some (F2 6 r2 3, F2, B2, K) else none else (if l2 = 4 then if 0 ≤ r2 ∧ r2 < K.2 6 then some (F2 6 r2 4, F2, B2, K) else none else (if l2 = 5 then if 0 ≤ r2 ∧ r2 < K.2 6 then some (F2 6 r2 5, F2, B2, K) else none else (if l2 = 6 then if 0 ≤ r2 ∧ r2 < K.2 6 then some (F2 6 r2 6, F2, B2, K) else none else (if l2 = 7 then if 0 ≤ r2 ∧ r2 < K.2 6 then zbindM (f_Piece_studyMade K r2 F2 B2) (fun r21 F21 B21 K21 => f_S_look_123 K21 r21 F21 B21) else none else (if l2 = 8 then if 0 ≤ r2 ∧ r2 < K.2 6 then zbindM (f_Piece_studyMade K r2 F2 B2) (fun r24 F24 B24 K24 => f_S_look_131 K24 r24 F24 B24) else none else (if l2 = 9 then if 0 ≤ r2 ∧ r2 < K.2 6 then zbindM (f_Piece_soundsMade K r2 F2 B2) (fun r27 F27 B27 K27 => f_S_look_139 K27 r27 F27 B27) else none else (if l2 = 10 then if 0 ≤ r2 ∧ r2 < K.2 6 then (if (F2 6 r2 8) < 0 then f_S_look_161 K 0 F2 B2 else if 0 ≤ (F2 6 r2 8) ∧ (F2 6 r2 8) < K.2 2 then f_S_look_161 K (F2 2 (F2 6 r2 8) 0) F2 B2 else none) else none else (if l2 = 11 then if 0 ≤ r2 ∧ r2 < K.2 6 then if r32 (F2 6 r2 10) then (if (F2 6 r2 10) = 0 then f_S_look_180 K 0 F2 B2 else zbindM (f_Piece_soundsMade K r2 F2 B2) (fun r37 F37 B37 K37 => f_S_look_173 K37 r37 F37 B37)) else none else none else (if l2 = 12 then if 0 ≤ r2 ∧ r2 < K.2 6 then if r32 (F2 6 r2 10) then (if (F2 6 r2 10) = 0 then f_S_look_201 K 0 F2 B2 else zbindM (f_Piece_soundsMade K r2 F2 B2) (fun r42 F42 B42 K42 => f_S_look_193 K42 2 r42 F42 B42)) else none else none else (if l2 = 13 then if 0 ≤ r2 ∧ r2 < K.2 6 then if r32 (F2 6 r2 10) then (if (F2 6 r2 10) = 0 then f_S_look_220 K 0 F2 B2 else zbindM (f_Piece_soundsMade K r2 F2 B2) (fun r47 F47 B47 K47 => f_S_look_213 K47 r47 F47 B47)) else none else none else some ((-1), F2, B2, K))))))))))))))) else none)) else none
theorem m_S_look {K : zK} {l0 : Int} {l1 : Int} {l2 : Int} {F : zF} {B : zB} {r : Int} {F9 : zF} {B9 : zB} {K9 : zK} (hf : f_S_look K l0 l1 l2 F B = some (r, F9, B9, K9)) : zKle K K9 := by
  replace hf : (if 0 ≤ l0 ∧ l0 < K.2 12 then zbindN (f_S_pieceAt K l0 l1 F B) (fun r2 F2 B2 => (if r2 < 0 then some ((-1), F2, B2, K) else if r32 l2 then (if l2 = 0 then if 0 ≤ r2 ∧ r2 < K.2 6 then some (F2 6 r2 1, F2, B2, K) else none else (if l2 = 1 then if 0 ≤ r2 ∧ r2 < K.2 6 then some (F2 6 r2 7, F2, B2, K) else none else (if l2 = 2 then if 0 ≤ r2 ∧ r2 < K.2 6 then some (F2 6 r2 2, F2, B2, K) else none else (if l2 = 3 then if 0 ≤ r2 ∧ r2 < K.2 6 then some (F2 6 r2 3, F2, B2, K) else none else (if l2 = 4 then if 0 ≤ r2 ∧ r2 < K.2 6 then some (F2 6 r2 4, F2, B2, K) else none else (if l2 = 5 then if 0 ≤ r2 ∧ r2 < K.2 6 then some (F2 6 r2 5, F2, B2, K) else none else (if l2 = 6 then if 0 ≤ r2 ∧ r2 < K.2 6 then some (F2 6 r2 6, F2, B2, K) else none else (if l2 = 7 then if 0 ≤ r2 ∧ r2 < K.2 6 then zbindM (f_Piece_studyMade K r2 F2 B2) (fun r21 F21 B21 K21 => f_S_look_123 K21 r21 F21 B21) else none else (if l2 = 8 then if 0 ≤ r2 ∧ r2 < K.2 6 then zbindM (f_Piece_studyMade K r2 F2 B2) (fun r24 F24 B24 K24 => f_S_look_131 K24 r24 F24 B24) else none else (if l2 = 9 then if 0 ≤ r2 ∧ r2 < K.2 6 then zbindM (f_Piece_soundsMade K r2 F2 B2) (fun r27 F27 B27 K27 => f_S_look_139 K27 r27 F27 B27) else none else (if l2 = 10 then if 0 ≤ r2 ∧ r2 < K.2 6 then (if (F2 6 r2 8) < 0 then f_S_look_161 K 0 F2 B2 else if 0 ≤ (F2 6 r2 8) ∧ (F2 6 r2 8) < K.2 2 then f_S_look_161 K (F2 2 (F2 6 r2 8) 0) F2 B2 else none) else none else (if l2 = 11 then if 0 ≤ r2 ∧ r2 < K.2 6 then if r32 (F2 6 r2 10) then (if (F2 6 r2 10) = 0 then f_S_look_180 K 0 F2 B2 else zbindM (f_Piece_soundsMade K r2 F2 B2) (fun r37 F37 B37 K37 => f_S_look_173 K37 r37 F37 B37)) else none else none else (if l2 = 12 then if 0 ≤ r2 ∧ r2 < K.2 6 then if r32 (F2 6 r2 10) then (if (F2 6 r2 10) = 0 then f_S_look_201 K 0 F2 B2 else zbindM (f_Piece_soundsMade K r2 F2 B2) (fun r42 F42 B42 K42 => f_S_look_193 K42 2 r42 F42 B42)) else none else none else (if l2 = 13 then if 0 ≤ r2 ∧ r2 < K.2 6 then if r32 (F2 6 r2 10) then (if (F2 6 r2 10) = 0 then f_S_look_220 K 0 F2 B2 else zbindM (f_Piece_soundsMade K r2 F2 B2) (fun r47 F47 B47 K47 => f_S_look_213 K47 r47 F47 B47)) else none else none else some ((-1), F2, B2, K))))))))))))))) else none)) else none) = some (r, F9, B9, K9) := hf
  obtain ⟨g1, hf⟩ := gif hf
  obtain ⟨r2, F2, B2, hc2, hf⟩ := gbindN hf
  refine (Classical.em (r2 < 0)).symm.elim (fun h3 => ?_) (fun h3 => ?_)
  · replace hf := gneg hf h3
    obtain ⟨g4, hf⟩ := gif hf
    by_cases h5 : l2 = 0
    · replace hf := gpos hf h5
      obtain ⟨g6, hf⟩ := gif hf
      cases hf
      exact zKle.rf
    replace hf := gneg hf h5
    by_cases h7 : l2 = 1
    · replace hf := gpos hf h7
      obtain ⟨g8, hf⟩ := gif hf
      cases hf
      exact zKle.rf
    replace hf := gneg hf h7
    by_cases h9 : l2 = 2
    · replace hf := gpos hf h9
      obtain ⟨g10, hf⟩ := gif hf
      cases hf
      exact zKle.rf
    replace hf := gneg hf h9
    by_cases h11 : l2 = 3
    · replace hf := gpos hf h11
      obtain ⟨g12, hf⟩ := gif hf
      cases hf
      exact zKle.rf
    replace hf := gneg hf h11
    by_cases h13 : l2 = 4
    · replace hf := gpos hf h13
      obtain ⟨g14, hf⟩ := gif hf
      cases hf
      exact zKle.rf
    replace hf := gneg hf h13
    by_cases h15 : l2 = 5
    · replace hf := gpos hf h15
      obtain ⟨g16, hf⟩ := gif hf
      cases hf
      exact zKle.rf
    replace hf := gneg hf h15
    by_cases h17 : l2 = 6
    · replace hf := gpos hf h17
      obtain ⟨g18, hf⟩ := gif hf
      cases hf
      exact zKle.rf
    replace hf := gneg hf h17
    by_cases h19 : l2 = 7
    · replace hf := gpos hf h19
      obtain ⟨g20, hf⟩ := gif hf
      obtain ⟨r21, F21, B21, K21, hc21, hf⟩ := gbindM hf
      exact (m_Piece_studyMade hc21).tr (m_S_look_123 hf)
    replace hf := gneg hf h19
    by_cases h22 : l2 = 8
    · replace hf := gpos hf h22
      obtain ⟨g23, hf⟩ := gif hf
      obtain ⟨r24, F24, B24, K24, hc24, hf⟩ := gbindM hf
      exact (m_Piece_studyMade hc24).tr (m_S_look_131 hf)
    replace hf := gneg hf h22
    by_cases h25 : l2 = 9
    · replace hf := gpos hf h25
      obtain ⟨g26, hf⟩ := gif hf
      obtain ⟨r27, F27, B27, K27, hc27, hf⟩ := gbindM hf
      exact (m_Piece_soundsMade hc27).tr (m_S_look_139 hf)
    replace hf := gneg hf h25
    by_cases h28 : l2 = 10
    · replace hf := gpos hf h28
      obtain ⟨g29, hf⟩ := gif hf
      refine (Classical.em ((F2 6 r2 8) < 0)).symm.elim (fun h30 => ?_) (fun h30 => ?_)
      · replace hf := gneg hf h30
        obtain ⟨g31, hf⟩ := gif hf
        exact m_S_look_161 hf
      · replace hf := gpos hf h30
        exact m_S_look_161 hf
    replace hf := gneg hf h28
    by_cases h33 : l2 = 11
    · replace hf := gpos hf h33
      obtain ⟨g34, hf⟩ := gif hf
      obtain ⟨g35, hf⟩ := gif hf
      refine (Classical.em ((F2 6 r2 10) = 0)).elim (fun h36 => ?_) (fun h36 => ?_)
      · replace hf := gpos hf h36
        exact m_S_look_180 hf
      · replace hf := gneg hf h36
        obtain ⟨r37, F37, B37, K37, hc37, hf⟩ := gbindM hf
        exact (m_Piece_soundsMade hc37).tr (m_S_look_173 hf)
    replace hf := gneg hf h33
    by_cases h38 : l2 = 12
    · replace hf := gpos hf h38
      obtain ⟨g39, hf⟩ := gif hf
      obtain ⟨g40, hf⟩ := gif hf
      refine (Classical.em ((F2 6 r2 10) = 0)).elim (fun h41 => ?_) (fun h41 => ?_)
      · replace hf := gpos hf h41
        exact m_S_look_201 hf
      · replace hf := gneg hf h41
        obtain ⟨r42, F42, B42, K42, hc42, hf⟩ := gbindM hf
        exact (m_Piece_soundsMade hc42).tr (m_S_look_193 hf)
    replace hf := gneg hf h38
    by_cases h43 : l2 = 13
    · replace hf := gpos hf h43
      obtain ⟨g44, hf⟩ := gif hf
      obtain ⟨g45, hf⟩ := gif hf
      refine (Classical.em ((F2 6 r2 10) = 0)).elim (fun h46 => ?_) (fun h46 => ?_)
      · replace hf := gpos hf h46
        exact m_S_look_220 hf
      · replace hf := gneg hf h46
        obtain ⟨r47, F47, B47, K47, hc47, hf⟩ := gbindM hf
        exact (m_Piece_soundsMade hc47).tr (m_S_look_213 hf)
    replace hf := gneg hf h43
    cases hf
    exact zKle.rf
  · replace hf := gpos hf h3
    cases hf
    exact zKle.rf

set_option maxHeartbeats 4000000 in
set_option maxRecDepth 100000 in
theorem c_S_look {l : Launch} {D : va_G} {ca : Nat → ClassId} {ad : Nat → Int → Nat → Nat} {L : List Nat} {aS vS : Nat → Nat} {sz : Nat} {K : zK} {l0 : Int} {l1 : Int} {l2 : Int} {F : zF} {B : zB} {r : Int} {F9 : zF} {B9 : zB} {K9 : zK} (hf : f_S_look K l0 l1 l2 F B = some (r, F9, B9, K9)) : Met l ({ cls := "StaveHouse", name := "look", desc := "(II)I" } : Jvm.MethodName) (Cond.code ({ cls := "StaveHouse", name := "look", desc := "(II)I" } : Jvm.MethodName) prog_1_method_10_code 4 (Option.some Jvm.ClassFile.FieldType.int) :: wAll) ({ frames := 7, cells := cwC K K9, slots := swC K K9, locals := 152 } : Room) (va_Pc [.ref (ad 12 l0 0), .int (iI l1), .int (iI l2)] (zPre D ca ad lnC K.2 L aS vS F B sz)) (Q_S_look K D ca ad r F9 B9 K9 (zA L sz)) (cwC K K9) (swC K K9) (zA L sz) := by
  refine zMet (Qc := Q_S_look K D ca ad r F9 B9 K9) (lv := [(0, .ref (ad 12 l0 0)), (1, .int (iI l1)), (2, .int (iI l2))]) (by decide) (Nat.le_of_ble_eq_true rfl) rfl (fun A p e s m below meth c ls X hZ hS hl => ?_)
  obtain ⟨hx, hb, hr, hml, hown, hts, hlk, hK, hA, hL, hX⟩ := id X
  have hG : zG ad K.2 ad K.2 := zG.rf
  refine W.widen (k := cwC K K) (n := swC K K) (Nat.zero_le _) (Nat.zero_le _) ?_
  have hk0 := zroom0 (K0 := K) (m_S_look hf)
  replace hf : (if 0 ≤ l0 ∧ l0 < K.2 12 then zbindN (f_S_pieceAt K l0 l1 F B) (fun r2 F2 B2 => (if r2 < 0 then some ((-1), F2, B2, K) else if r32 l2 then (if l2 = 0 then if 0 ≤ r2 ∧ r2 < K.2 6 then some (F2 6 r2 1, F2, B2, K) else none else (if l2 = 1 then if 0 ≤ r2 ∧ r2 < K.2 6 then some (F2 6 r2 7, F2, B2, K) else none else (if l2 = 2 then if 0 ≤ r2 ∧ r2 < K.2 6 then some (F2 6 r2 2, F2, B2, K) else none else (if l2 = 3 then if 0 ≤ r2 ∧ r2 < K.2 6 then some (F2 6 r2 3, F2, B2, K) else none else (if l2 = 4 then if 0 ≤ r2 ∧ r2 < K.2 6 then some (F2 6 r2 4, F2, B2, K) else none else (if l2 = 5 then if 0 ≤ r2 ∧ r2 < K.2 6 then some (F2 6 r2 5, F2, B2, K) else none else (if l2 = 6 then if 0 ≤ r2 ∧ r2 < K.2 6 then some (F2 6 r2 6, F2, B2, K) else none else (if l2 = 7 then if 0 ≤ r2 ∧ r2 < K.2 6 then zbindM (f_Piece_studyMade K r2 F2 B2) (fun r21 F21 B21 K21 => f_S_look_123 K21 r21 F21 B21) else none else (if l2 = 8 then if 0 ≤ r2 ∧ r2 < K.2 6 then zbindM (f_Piece_studyMade K r2 F2 B2) (fun r24 F24 B24 K24 => f_S_look_131 K24 r24 F24 B24) else none else (if l2 = 9 then if 0 ≤ r2 ∧ r2 < K.2 6 then zbindM (f_Piece_soundsMade K r2 F2 B2) (fun r27 F27 B27 K27 => f_S_look_139 K27 r27 F27 B27) else none else (if l2 = 10 then if 0 ≤ r2 ∧ r2 < K.2 6 then (if (F2 6 r2 8) < 0 then f_S_look_161 K 0 F2 B2 else if 0 ≤ (F2 6 r2 8) ∧ (F2 6 r2 8) < K.2 2 then f_S_look_161 K (F2 2 (F2 6 r2 8) 0) F2 B2 else none) else none else (if l2 = 11 then if 0 ≤ r2 ∧ r2 < K.2 6 then if r32 (F2 6 r2 10) then (if (F2 6 r2 10) = 0 then f_S_look_180 K 0 F2 B2 else zbindM (f_Piece_soundsMade K r2 F2 B2) (fun r37 F37 B37 K37 => f_S_look_173 K37 r37 F37 B37)) else none else none else (if l2 = 12 then if 0 ≤ r2 ∧ r2 < K.2 6 then if r32 (F2 6 r2 10) then (if (F2 6 r2 10) = 0 then f_S_look_201 K 0 F2 B2 else zbindM (f_Piece_soundsMade K r2 F2 B2) (fun r42 F42 B42 K42 => f_S_look_193 K42 2 r42 F42 B42)) else none else none else (if l2 = 13 then if 0 ≤ r2 ∧ r2 < K.2 6 then if r32 (F2 6 r2 10) then (if (F2 6 r2 10) = 0 then f_S_look_220 K 0 F2 B2 else zbindM (f_Piece_soundsMade K r2 F2 B2) (fun r47 F47 B47 K47 => f_S_look_213 K47 r47 F47 B47)) else none else none else some ((-1), F2, B2, K))))))))))))))) else none)) else none) = some (r, F9, B9, K9) := hf
  refine lv_aload_n hx hb d_1_10_0 rfl (lv_at hl 0 rfl) ?_
  refine lv_iload_n hx hb d_1_10_1 rfl (lv_at hl 1 rfl) ?_
  obtain ⟨g1, hf⟩ := gif hf
  obtain ⟨r2, F2, B2, hc2, hf⟩ := gbindN hf
  refine va_callq (va_runV (As := [.int (iI l1)]) (rest := []) ⟨hx, hb, hml, hown, hts⟩ (c_S_pieceAt (l := l) hc2) (cwV 1 hts (gdV k_5_182 k_5_184 ks_65 k_1_1 k_5_185) rfl rfl rfl (by decide +kernel) ⟨Nat.le_of_ble_eq_true rfl, Nat.le_of_ble_eq_true rfl⟩) (zPV X hZ hS (ci := 12) g1.1 g1.2 (r := (RX12, TX12, 10)) rfl [.int (iI l1)]) rfl rfl hl.1 rfl (lv_room (Nat.le_of_ble_eq_true rfl)) d_1_10_2 ⟨hk0.1, hk0.2⟩) hS (fun q _ h => zAin X hS q h) (zAin X hS) (fun p2 u2 t2 H2 locs2 ht2 hv2 hw2 hB2 hz2 hk2 hS2 => ?_)
  have hZ2 := zBack X ht2 hB2
  subst hw2
  refine zastore_n (lv' := [(0, .ref (ad 12 l0 0)), (1, .int (iI l1)), (2, .int (iI l2))]) hx hb d_1_10_5 rfl hl (by decide) (fun _ _ => rfl) (fun ls hl => ?_)
  refine zaload_n hx hb d_1_10_6 rfl (lv_at hl 0 rfl) ?_
  refine zifnonnull (tgt := 12) hx hb d_1_10_7 (by decide) (fun h3 => ?_) (fun h3 => ?_)
  · replace hf := gneg hf h3
    refine lv_iload_n hx hb d_1_10_12 rfl (lv_at hl 3 rfl) ?_
    obtain ⟨g4, hf⟩ := gif hf
    by_cases h5 : l2 = 0
    · replace hf := gpos hf h5
      refine lv_tableIn (off := 71) (tgt := 84) hx hb d_1_10_13 (by rw [iI_to g4, h5]; decide) (by rw [iI_to g4, h5]; decide) (by rw [iI_to g4, h5]; rfl) (by decide) ?_
      refine zaload_n hx hb d_1_10_84 rfl (lv_at hl 0 rfl) ?_
      obtain ⟨g6, hf⟩ := gif hf
      refine zunrf g6.1 ?_
      refine zget (ci := 6) (C := RX6) (T := TX6) (v := .int (iI (F2 6 r2 1))) (k := 1) hx hb hts inW_6 hown hK hZ2 g6.1 g6.2 rfl (by decide) k_2_194 rfl d_1_10_85 ?_
      cases hf
      exact W.iret hx hb hr (fun t ht hW => ⟨⟨_, (ad, L), rfl, ⟨rfl, hG⟩, by rw [ht]; exact hZ2, va_K.moved hW.alike hK⟩, hS2.F ht⟩) hS2.2.2 d_1_10_88 hlk
    replace hf := gneg hf h5
    by_cases h7 : l2 = 1
    · replace hf := gpos hf h7
      refine lv_tableIn (off := 76) (tgt := 89) hx hb d_1_10_13 (by rw [iI_to g4, h7]; decide) (by rw [iI_to g4, h7]; decide) (by rw [iI_to g4, h7]; rfl) (by decide) ?_
      refine zaload_n hx hb d_1_10_89 rfl (lv_at hl 0 rfl) ?_
      obtain ⟨g8, hf⟩ := gif hf
      refine zunrf g8.1 ?_
      refine zget (ci := 6) (C := RX6) (T := TX6) (v := .int (iI (F2 6 r2 7))) (k := 7) hx hb hts inW_6 hown hK hZ2 g8.1 g8.2 rfl (by decide) k_2_223 rfl d_1_10_90 ?_
      cases hf
      exact W.iret hx hb hr (fun t ht hW => ⟨⟨_, (ad, L), rfl, ⟨rfl, hG⟩, by rw [ht]; exact hZ2, va_K.moved hW.alike hK⟩, hS2.F ht⟩) hS2.2.2 d_1_10_93 hlk
    replace hf := gneg hf h7
    by_cases h9 : l2 = 2
    · replace hf := gpos hf h9
      refine lv_tableIn (off := 81) (tgt := 94) hx hb d_1_10_13 (by rw [iI_to g4, h9]; decide) (by rw [iI_to g4, h9]; decide) (by rw [iI_to g4, h9]; rfl) (by decide) ?_
      refine zaload_n hx hb d_1_10_94 rfl (lv_at hl 0 rfl) ?_
      obtain ⟨g10, hf⟩ := gif hf
      refine zunrf g10.1 ?_
      refine zget (ci := 6) (C := RX6) (T := TX6) (v := .int (iI (F2 6 r2 2))) (k := 2) hx hb hts inW_6 hown hK hZ2 g10.1 g10.2 rfl (by decide) k_2_200 rfl d_1_10_95 ?_
      cases hf
      exact W.iret hx hb hr (fun t ht hW => ⟨⟨_, (ad, L), rfl, ⟨rfl, hG⟩, by rw [ht]; exact hZ2, va_K.moved hW.alike hK⟩, hS2.F ht⟩) hS2.2.2 d_1_10_98 hlk
    replace hf := gneg hf h9
    by_cases h11 : l2 = 3
    · replace hf := gpos hf h11
      refine lv_tableIn (off := 86) (tgt := 99) hx hb d_1_10_13 (by rw [iI_to g4, h11]; decide) (by rw [iI_to g4, h11]; decide) (by rw [iI_to g4, h11]; rfl) (by decide) ?_
      refine zaload_n hx hb d_1_10_99 rfl (lv_at hl 0 rfl) ?_
      obtain ⟨g12, hf⟩ := gif hf
      refine zunrf g12.1 ?_
      refine zget (ci := 6) (C := RX6) (T := TX6) (v := .int (iI (F2 6 r2 3))) (k := 3) hx hb hts inW_6 hown hK hZ2 g12.1 g12.2 rfl (by decide) k_2_204 rfl d_1_10_100 ?_
      cases hf
      exact W.iret hx hb hr (fun t ht hW => ⟨⟨_, (ad, L), rfl, ⟨rfl, hG⟩, by rw [ht]; exact hZ2, va_K.moved hW.alike hK⟩, hS2.F ht⟩) hS2.2.2 d_1_10_103 hlk
    replace hf := gneg hf h11
    by_cases h13 : l2 = 4
    · replace hf := gpos hf h13
      refine lv_tableIn (off := 91) (tgt := 104) hx hb d_1_10_13 (by rw [iI_to g4, h13]; decide) (by rw [iI_to g4, h13]; decide) (by rw [iI_to g4, h13]; rfl) (by decide) ?_
      refine zaload_n hx hb d_1_10_104 rfl (lv_at hl 0 rfl) ?_
      obtain ⟨g14, hf⟩ := gif hf
      refine zunrf g14.1 ?_
      refine zget (ci := 6) (C := RX6) (T := TX6) (v := .int (iI (F2 6 r2 4))) (k := 4) hx hb hts inW_6 hown hK hZ2 g14.1 g14.2 rfl (by decide) k_2_209 rfl d_1_10_105 ?_
      cases hf
      exact W.iret hx hb hr (fun t ht hW => ⟨⟨_, (ad, L), rfl, ⟨rfl, hG⟩, by rw [ht]; exact hZ2, va_K.moved hW.alike hK⟩, hS2.F ht⟩) hS2.2.2 d_1_10_108 hlk
    replace hf := gneg hf h13
    by_cases h15 : l2 = 5
    · replace hf := gpos hf h15
      refine lv_tableIn (off := 96) (tgt := 109) hx hb d_1_10_13 (by rw [iI_to g4, h15]; decide) (by rw [iI_to g4, h15]; decide) (by rw [iI_to g4, h15]; rfl) (by decide) ?_
      refine zaload_n hx hb d_1_10_109 rfl (lv_at hl 0 rfl) ?_
      obtain ⟨g16, hf⟩ := gif hf
      refine zunrf g16.1 ?_
      refine zget (ci := 6) (C := RX6) (T := TX6) (v := .int (iI (F2 6 r2 5))) (k := 5) hx hb hts inW_6 hown hK hZ2 g16.1 g16.2 rfl (by decide) k_2_214 rfl d_1_10_110 ?_
      cases hf
      exact W.iret hx hb hr (fun t ht hW => ⟨⟨_, (ad, L), rfl, ⟨rfl, hG⟩, by rw [ht]; exact hZ2, va_K.moved hW.alike hK⟩, hS2.F ht⟩) hS2.2.2 d_1_10_113 hlk
    replace hf := gneg hf h15
    by_cases h17 : l2 = 6
    · replace hf := gpos hf h17
      refine lv_tableIn (off := 101) (tgt := 114) hx hb d_1_10_13 (by rw [iI_to g4, h17]; decide) (by rw [iI_to g4, h17]; decide) (by rw [iI_to g4, h17]; rfl) (by decide) ?_
      refine zaload_n hx hb d_1_10_114 rfl (lv_at hl 0 rfl) ?_
      obtain ⟨g18, hf⟩ := gif hf
      refine zunrf g18.1 ?_
      refine zget (ci := 6) (C := RX6) (T := TX6) (v := .int (iI (F2 6 r2 6))) (k := 6) hx hb hts inW_6 hown hK hZ2 g18.1 g18.2 rfl (by decide) k_2_219 rfl d_1_10_115 ?_
      cases hf
      exact W.iret hx hb hr (fun t ht hW => ⟨⟨_, (ad, L), rfl, ⟨rfl, hG⟩, by rw [ht]; exact hZ2, va_K.moved hW.alike hK⟩, hS2.F ht⟩) hS2.2.2 d_1_10_118 hlk
    replace hf := gneg hf h17
    by_cases h19 : l2 = 7
    · replace hf := gpos hf h19
      refine lv_tableIn (off := 106) (tgt := 119) hx hb d_1_10_13 (by rw [iI_to g4, h19]; decide) (by rw [iI_to g4, h19]; decide) (by rw [iI_to g4, h19]; rfl) (by decide) ?_
      refine zaload_n hx hb d_1_10_119 rfl (lv_at hl 0 rfl) ?_
      obtain ⟨g20, hf⟩ := gif hf
      refine W.eq (g2 := F0 m 120 ls [.ref (ad 6 r2 0)]) (by rw [zrf_pos (ad := ad) (t := 6) g20.1]; try rfl) ?_
      obtain ⟨r21, F21, B21, K21, hc21, hf⟩ := gbindM hf
      have hm21 := m_S_look_123 hf
      have hn21 := m_Piece_studyMade hc21
      have hr21 := zroomC hG.1 hn21 hm21
      refine va_callq (va_runV (As := []) (rest := []) ⟨hx, hb, hml, hown, hts⟩ (c_Piece_studyMade (l := l) hc21) (cwV 0 hts (gdV k_5_186 k_5_187 k_5_188 k_1_15 k_5_189) rfl rfl rfl (by decide +kernel) ⟨Nat.le_of_ble_eq_true rfl, Nat.le_of_ble_eq_true rfl⟩) (zPV X hZ2 hS2 (ci := 6) g20.1 g20.2 (r := (RX6, TX6, 14)) rfl []) rfl rfl hl.1 rfl (lv_room (Nat.le_of_ble_eq_true rfl)) d_1_10_120 ⟨hr21.1, hr21.2.1⟩) hS2 (fun q _ h => zAin X hS2 q h) (zAin X hS2) (fun p21 u21 t21 H21 locs21 ht21 hv21 hw21 hB21 hz21 hk21 hS21 => ?_)
      obtain ⟨ad21, L21⟩ := u21
      obtain ⟨hw21, hg21⟩ := hw21
      subst hw21
      have hZ21 := zBackM X hS2 ht21 hB21
      refine W.widen (k := cwC K K21) (n := swC K K21) (Nat.le_of_eq hr21.2.2.1) (Nat.le_of_eq hr21.2.2.2) ?_
      have X21 := X.grow hZ21.inA
      have hG21 := hG.tr hg21
      have hl : lv_has ls 4 [] := lv_sub hl [] rfl
      exact b_S_look_123 X21 hG21 hf hZ21 hS21 (lv_sub hl [] rfl)
    replace hf := gneg hf h19
    by_cases h22 : l2 = 8
    · replace hf := gpos hf h22
      refine lv_tableIn (off := 114) (tgt := 127) hx hb d_1_10_13 (by rw [iI_to g4, h22]; decide) (by rw [iI_to g4, h22]; decide) (by rw [iI_to g4, h22]; rfl) (by decide) ?_
      refine zaload_n hx hb d_1_10_127 rfl (lv_at hl 0 rfl) ?_
      obtain ⟨g23, hf⟩ := gif hf
      refine W.eq (g2 := F0 m 128 ls [.ref (ad 6 r2 0)]) (by rw [zrf_pos (ad := ad) (t := 6) g23.1]; try rfl) ?_
      obtain ⟨r24, F24, B24, K24, hc24, hf⟩ := gbindM hf
      have hm24 := m_S_look_131 hf
      have hn24 := m_Piece_studyMade hc24
      have hr24 := zroomC hG.1 hn24 hm24
      refine va_callq (va_runV (As := []) (rest := []) ⟨hx, hb, hml, hown, hts⟩ (c_Piece_studyMade (l := l) hc24) (cwV 0 hts (gdV k_5_186 k_5_187 k_5_188 k_1_15 k_5_189) rfl rfl rfl (by decide +kernel) ⟨Nat.le_of_ble_eq_true rfl, Nat.le_of_ble_eq_true rfl⟩) (zPV X hZ2 hS2 (ci := 6) g23.1 g23.2 (r := (RX6, TX6, 14)) rfl []) rfl rfl hl.1 rfl (lv_room (Nat.le_of_ble_eq_true rfl)) d_1_10_128 ⟨hr24.1, hr24.2.1⟩) hS2 (fun q _ h => zAin X hS2 q h) (zAin X hS2) (fun p24 u24 t24 H24 locs24 ht24 hv24 hw24 hB24 hz24 hk24 hS24 => ?_)
      obtain ⟨ad24, L24⟩ := u24
      obtain ⟨hw24, hg24⟩ := hw24
      subst hw24
      have hZ24 := zBackM X hS2 ht24 hB24
      refine W.widen (k := cwC K K24) (n := swC K K24) (Nat.le_of_eq hr24.2.2.1) (Nat.le_of_eq hr24.2.2.2) ?_
      have X24 := X.grow hZ24.inA
      have hG24 := hG.tr hg24
      have hl : lv_has ls 4 [] := lv_sub hl [] rfl
      exact b_S_look_131 X24 hG24 hf hZ24 hS24 (lv_sub hl [] rfl)
    replace hf := gneg hf h22
    by_cases h25 : l2 = 9
    · replace hf := gpos hf h25
      refine lv_tableIn (off := 122) (tgt := 135) hx hb d_1_10_13 (by rw [iI_to g4, h25]; decide) (by rw [iI_to g4, h25]; decide) (by rw [iI_to g4, h25]; rfl) (by decide) ?_
      refine zaload_n hx hb d_1_10_135 rfl (lv_at hl 0 rfl) ?_
      obtain ⟨g26, hf⟩ := gif hf
      refine W.eq (g2 := F0 m 136 ls [.ref (ad 6 r2 0)]) (by rw [zrf_pos (ad := ad) (t := 6) g26.1]; try rfl) ?_
      obtain ⟨r27, F27, B27, K27, hc27, hf⟩ := gbindM hf
      have hm27 := m_S_look_139 hf
      have hn27 := m_Piece_soundsMade hc27
      have hr27 := zroomC hG.1 hn27 hm27
      refine va_callq (va_runV (As := []) (rest := []) ⟨hx, hb, hml, hown, hts⟩ (c_Piece_soundsMade (l := l) hc27) (cwV 0 hts (gdV k_6_52 k_6_53 k_6_54 k_1_15 k_6_55) rfl rfl rfl (by decide +kernel) ⟨Nat.le_of_ble_eq_true rfl, Nat.le_of_ble_eq_true rfl⟩) (zPV X hZ2 hS2 (ci := 6) g26.1 g26.2 (r := (RX6, TX6, 14)) rfl []) rfl rfl hl.1 rfl (lv_room (Nat.le_of_ble_eq_true rfl)) d_1_10_136 ⟨hr27.1, hr27.2.1⟩) hS2 (fun q _ h => zAin X hS2 q h) (zAin X hS2) (fun p27 u27 t27 H27 locs27 ht27 hv27 hw27 hB27 hz27 hk27 hS27 => ?_)
      obtain ⟨ad27, L27⟩ := u27
      obtain ⟨hw27, hg27⟩ := hw27
      subst hw27
      have hZ27 := zBackM X hS2 ht27 hB27
      refine W.widen (k := cwC K K27) (n := swC K K27) (Nat.le_of_eq hr27.2.2.1) (Nat.le_of_eq hr27.2.2.2) ?_
      have X27 := X.grow hZ27.inA
      have hG27 := hG.tr hg27
      have hl : lv_has ls 4 [] := lv_sub hl [] rfl
      exact b_S_look_139 X27 hG27 hf hZ27 hS27 (lv_sub hl [] rfl)
    replace hf := gneg hf h25
    by_cases h28 : l2 = 10
    · replace hf := gpos hf h28
      refine lv_tableIn (off := 130) (tgt := 143) hx hb d_1_10_13 (by rw [iI_to g4, h28]; decide) (by rw [iI_to g4, h28]; decide) (by rw [iI_to g4, h28]; rfl) (by decide) ?_
      refine zaload_n hx hb d_1_10_143 rfl (lv_at hl 0 rfl) ?_
      obtain ⟨g29, hf⟩ := gif hf
      refine zunrf g29.1 ?_
      refine zget (ci := 6) (C := RX6) (T := TX6) (v := va_rf (zrf ad 2 (F2 6 r2 8))) (k := 8) hx hb hts inW_6 hown hK hZ2 g29.1 g29.2 rfl (by decide) k_2_225 rfl d_1_10_144 ?_
      refine zifnonnull (tgt := 154) hx hb d_1_10_147 (by decide) (fun h30 => ?_) (fun h30 => ?_)
      · replace hf := gneg hf h30
        refine zaload_n hx hb d_1_10_154 rfl (lv_at hl 0 rfl) ?_
        refine zunrf g29.1 ?_
        refine zget (ci := 6) (C := RX6) (T := TX6) (v := va_rf (zrf ad 2 (F2 6 r2 8))) (k := 8) hx hb hts inW_6 hown hK hZ2 g29.1 g29.2 rfl (by decide) k_2_225 rfl d_1_10_155 ?_
        obtain ⟨g31, hf⟩ := gif hf
        refine zunrf g31.1 ?_
        refine zget (ci := 2) (C := RX2) (T := TX2) (v := .int (iI (F2 2 (F2 6 r2 8) 0))) (k := 0) hx hb hts inW_2 hown hK hZ2 g31.1 g31.2 rfl (by decide) k_6_217 rfl d_1_10_158 ?_
        exact b_S_look_161 X hG hf hZ2 hS2 (lv_sub hl [] rfl)
      · replace hf := gpos hf h30
        refine lv_iconst (v := iI 0) hx hb d_1_10_150 rfl ?_
        refine lv_goto (tgt := 161) hx hb d_1_10_151 (by decide) ?_
        exact b_S_look_161 X hG hf hZ2 hS2 (lv_sub hl [] rfl)
    replace hf := gneg hf h28
    by_cases h33 : l2 = 11
    · replace hf := gpos hf h33
      refine lv_tableIn (off := 149) (tgt := 162) hx hb d_1_10_13 (by rw [iI_to g4, h33]; decide) (by rw [iI_to g4, h33]; decide) (by rw [iI_to g4, h33]; rfl) (by decide) ?_
      refine zaload_n hx hb d_1_10_162 rfl (lv_at hl 0 rfl) ?_
      obtain ⟨g34, hf⟩ := gif hf
      refine zunrf g34.1 ?_
      refine zget (ci := 6) (C := RX6) (T := TX6) (v := .int (iI (F2 6 r2 10))) (k := 10) hx hb hts inW_6 hown hK hZ2 g34.1 g34.2 rfl (by decide) k_2_229 rfl d_1_10_163 ?_
      obtain ⟨g35, hf⟩ := gif hf
      refine z0eq (tgt := 179) hx hb g35 d_1_10_166 (by decide) (fun h36 => ?_) (fun h36 => ?_)
      · replace hf := gpos hf h36
        refine lv_iconst (v := iI 0) hx hb d_1_10_179 rfl ?_
        exact b_S_look_180 X hG hf hZ2 hS2 (lv_sub hl [] rfl)
      · replace hf := gneg hf h36
        refine zaload_n hx hb d_1_10_169 rfl (lv_at hl 0 rfl) ?_
        refine W.eq (g2 := F0 m 170 ls [.ref (ad 6 r2 0)]) (by rw [zrf_pos (ad := ad) (t := 6) g34.1]; try rfl) ?_
        obtain ⟨r37, F37, B37, K37, hc37, hf⟩ := gbindM hf
        have hm37 := m_S_look_173 hf
        have hn37 := m_Piece_soundsMade hc37
        have hr37 := zroomC hG.1 hn37 hm37
        refine va_callq (va_runV (As := []) (rest := []) ⟨hx, hb, hml, hown, hts⟩ (c_Piece_soundsMade (l := l) hc37) (cwV 0 hts (gdV k_6_52 k_6_53 k_6_54 k_1_15 k_6_55) rfl rfl rfl (by decide +kernel) ⟨Nat.le_of_ble_eq_true rfl, Nat.le_of_ble_eq_true rfl⟩) (zPV X hZ2 hS2 (ci := 6) g34.1 g34.2 (r := (RX6, TX6, 14)) rfl []) rfl rfl hl.1 rfl (lv_room (Nat.le_of_ble_eq_true rfl)) d_1_10_170 ⟨hr37.1, hr37.2.1⟩) hS2 (fun q _ h => zAin X hS2 q h) (zAin X hS2) (fun p37 u37 t37 H37 locs37 ht37 hv37 hw37 hB37 hz37 hk37 hS37 => ?_)
        obtain ⟨ad37, L37⟩ := u37
        obtain ⟨hw37, hg37⟩ := hw37
        subst hw37
        have hZ37 := zBackM X hS2 ht37 hB37
        refine W.widen (k := cwC K K37) (n := swC K K37) (Nat.le_of_eq hr37.2.2.1) (Nat.le_of_eq hr37.2.2.2) ?_
        have X37 := X.grow hZ37.inA
        have hG37 := hG.tr hg37
        have hl : lv_has ls 4 [] := lv_sub hl [] rfl
        exact b_S_look_173 X37 hG37 hf hZ37 hS37 (lv_sub hl [] rfl)
    replace hf := gneg hf h33
    by_cases h38 : l2 = 12
    · replace hf := gpos hf h38
      refine lv_tableIn (off := 168) (tgt := 181) hx hb d_1_10_13 (by rw [iI_to g4, h38]; decide) (by rw [iI_to g4, h38]; decide) (by rw [iI_to g4, h38]; rfl) (by decide) ?_
      refine zaload_n hx hb d_1_10_181 rfl (lv_at hl 0 rfl) ?_
      obtain ⟨g39, hf⟩ := gif hf
      refine zunrf g39.1 ?_
      refine zget (ci := 6) (C := RX6) (T := TX6) (v := .int (iI (F2 6 r2 10))) (k := 10) hx hb hts inW_6 hown hK hZ2 g39.1 g39.2 rfl (by decide) k_2_229 rfl d_1_10_182 ?_
      obtain ⟨g40, hf⟩ := gif hf
      refine z0eq (tgt := 200) hx hb g40 d_1_10_185 (by decide) (fun h41 => ?_) (fun h41 => ?_)
      · replace hf := gpos hf h41
        refine lv_iconst (v := iI 0) hx hb d_1_10_200 rfl ?_
        exact b_S_look_201 X hG hf hZ2 hS2 (lv_sub hl [] rfl)
      · replace hf := gneg hf h41
        refine lv_iconst (v := iI 2) hx hb d_1_10_188 rfl ?_
        refine zaload_n hx hb d_1_10_189 rfl (lv_at hl 0 rfl) ?_
        refine W.eq (g2 := F0 m 190 ls [.ref (ad 6 r2 0), .int (iI 2)]) (by rw [zrf_pos (ad := ad) (t := 6) g39.1]; try rfl) ?_
        obtain ⟨r42, F42, B42, K42, hc42, hf⟩ := gbindM hf
        have hm42 := m_S_look_193 hf
        have hn42 := m_Piece_soundsMade hc42
        have hr42 := zroomC hG.1 hn42 hm42
        refine va_callq (va_runV (As := []) (rest := [.int (iI 2)]) ⟨hx, hb, hml, hown, hts⟩ (c_Piece_soundsMade (l := l) hc42) (cwV 0 hts (gdV k_6_52 k_6_53 k_6_54 k_1_15 k_6_55) rfl rfl rfl (by decide +kernel) ⟨Nat.le_of_ble_eq_true rfl, Nat.le_of_ble_eq_true rfl⟩) (zPV X hZ2 hS2 (ci := 6) g39.1 g39.2 (r := (RX6, TX6, 14)) rfl []) rfl rfl hl.1 rfl (lv_room (Nat.le_of_ble_eq_true rfl)) d_1_10_190 ⟨hr42.1, hr42.2.1⟩) hS2 (fun q _ h => zAin X hS2 q h) (zAin X hS2) (fun p42 u42 t42 H42 locs42 ht42 hv42 hw42 hB42 hz42 hk42 hS42 => ?_)
        obtain ⟨ad42, L42⟩ := u42
        obtain ⟨hw42, hg42⟩ := hw42
        subst hw42
        have hZ42 := zBackM X hS2 ht42 hB42
        refine W.widen (k := cwC K K42) (n := swC K K42) (Nat.le_of_eq hr42.2.2.1) (Nat.le_of_eq hr42.2.2.2) ?_
        have X42 := X.grow hZ42.inA
        have hG42 := hG.tr hg42
        have hl : lv_has ls 4 [] := lv_sub hl [] rfl
        exact b_S_look_193 X42 hG42 hf hZ42 hS42 (lv_sub hl [] rfl)
    replace hf := gneg hf h38
    by_cases h43 : l2 = 13
    · replace hf := gpos hf h43
      refine lv_tableIn (off := 189) (tgt := 202) hx hb d_1_10_13 (by rw [iI_to g4, h43]; decide) (by rw [iI_to g4, h43]; decide) (by rw [iI_to g4, h43]; rfl) (by decide) ?_
      refine zaload_n hx hb d_1_10_202 rfl (lv_at hl 0 rfl) ?_
      obtain ⟨g44, hf⟩ := gif hf
      refine zunrf g44.1 ?_
      refine zget (ci := 6) (C := RX6) (T := TX6) (v := .int (iI (F2 6 r2 10))) (k := 10) hx hb hts inW_6 hown hK hZ2 g44.1 g44.2 rfl (by decide) k_2_229 rfl d_1_10_203 ?_
      obtain ⟨g45, hf⟩ := gif hf
      refine z0eq (tgt := 219) hx hb g45 d_1_10_206 (by decide) (fun h46 => ?_) (fun h46 => ?_)
      · replace hf := gpos hf h46
        refine lv_iconst (v := iI 0) hx hb d_1_10_219 rfl ?_
        exact b_S_look_220 X hG hf hZ2 hS2 (lv_sub hl [] rfl)
      · replace hf := gneg hf h46
        refine zaload_n hx hb d_1_10_209 rfl (lv_at hl 0 rfl) ?_
        refine W.eq (g2 := F0 m 210 ls [.ref (ad 6 r2 0)]) (by rw [zrf_pos (ad := ad) (t := 6) g44.1]; try rfl) ?_
        obtain ⟨r47, F47, B47, K47, hc47, hf⟩ := gbindM hf
        have hm47 := m_S_look_213 hf
        have hn47 := m_Piece_soundsMade hc47
        have hr47 := zroomC hG.1 hn47 hm47
        refine va_callq (va_runV (As := []) (rest := []) ⟨hx, hb, hml, hown, hts⟩ (c_Piece_soundsMade (l := l) hc47) (cwV 0 hts (gdV k_6_52 k_6_53 k_6_54 k_1_15 k_6_55) rfl rfl rfl (by decide +kernel) ⟨Nat.le_of_ble_eq_true rfl, Nat.le_of_ble_eq_true rfl⟩) (zPV X hZ2 hS2 (ci := 6) g44.1 g44.2 (r := (RX6, TX6, 14)) rfl []) rfl rfl hl.1 rfl (lv_room (Nat.le_of_ble_eq_true rfl)) d_1_10_210 ⟨hr47.1, hr47.2.1⟩) hS2 (fun q _ h => zAin X hS2 q h) (zAin X hS2) (fun p47 u47 t47 H47 locs47 ht47 hv47 hw47 hB47 hz47 hk47 hS47 => ?_)
        obtain ⟨ad47, L47⟩ := u47
        obtain ⟨hw47, hg47⟩ := hw47
        subst hw47
        have hZ47 := zBackM X hS2 ht47 hB47
        refine W.widen (k := cwC K K47) (n := swC K K47) (Nat.le_of_eq hr47.2.2.1) (Nat.le_of_eq hr47.2.2.2) ?_
        have X47 := X.grow hZ47.inA
        have hG47 := hG.tr hg47
        have hl : lv_has ls 4 [] := lv_sub hl [] rfl
        exact b_S_look_213 X47 hG47 hf hZ47 hS47 (lv_sub hl [] rfl)
    replace hf := gneg hf h43
    refine lv_tableOut (tgt := 221) hx hb d_1_10_13 (by rw [iI_to g4]; omega) (by decide) ?_
    refine lv_iconst (v := iI (-1)) hx hb d_1_10_221 rfl ?_
    cases hf
    exact W.iret hx hb hr (fun t ht hW => ⟨⟨_, (ad, L), rfl, ⟨rfl, hG⟩, by rw [ht]; exact hZ2, va_K.moved hW.alike hK⟩, hS2.F ht⟩) hS2.2.2 d_1_10_222 hlk
  · replace hf := gpos hf h3
    refine lv_iconst (v := iI (-1)) hx hb d_1_10_10 rfl ?_
    cases hf
    exact W.iret hx hb hr (fun t ht hW => ⟨⟨_, (ad, L), rfl, ⟨rfl, hG⟩, by rw [ht]; exact hZ2, va_K.moved hW.alike hK⟩, hS2.F ht⟩) hS2.2.2 d_1_10_11 hlk

abbrev Q_S_perform (K : zK) (D : va_G) (ca : Nat → ClassId) (ad : Nat → Int → Nat → Nat) (r : Int) (F : zF) (B : zB) (K9 : zK) (A : Nat → Prop) : Array Value → State → Outcome → State → Prop := va_Qi (S := (Nat → Int → Nat → Nat) × List Nat) (fun p u => p = iI r ∧ zG ad K.2 u.1 K9.2) (fun u => zPo D ca u.1 lnC K9.2 u.2 F B A) A
def f_S_perform_16 (K : zK) (l2 : Int) (s0 : Int) (F : zF) (B : zB) : zOm := if 0 ≤ s0 ∧ s0 < K.2 5 then if r32 (F 5 s0 1) then (if (F 5 s0 1) = 0 then zbindN (f_Performance_begin K s0 F B) (fun r10 F10 B10 => if 0 ≤ l2 ∧ l2 < K.2 6 then some (F10 5 s0 0, (zup3 F10 6 l2 10 1), B10, K) else none) else some ((-2), F, B, K)) else none else none
theorem m_S_perform_16 {K : zK} {l2 : Int} {s0 : Int} {F : zF} {B : zB} {r : Int} {F9 : zF} {B9 : zB} {K9 : zK} (hf : f_S_perform_16 K l2 s0 F B = some (r, F9, B9, K9)) : zKle K K9 := by
  replace hf : (if 0 ≤ s0 ∧ s0 < K.2 5 then if r32 (F 5 s0 1) then (if (F 5 s0 1) = 0 then zbindN (f_Performance_begin K s0 F B) (fun r10 F10 B10 => if 0 ≤ l2 ∧ l2 < K.2 6 then some (F10 5 s0 0, (zup3 F10 6 l2 10 1), B10, K) else none) else some ((-2), F, B, K)) else none else none) = some (r, F9, B9, K9) := hf
  obtain ⟨g7, hf⟩ := gif hf
  obtain ⟨g8, hf⟩ := gif hf
  refine (Classical.em ((F 5 s0 1) = 0)).elim (fun h9 => ?_) (fun h9 => ?_)
  · replace hf := gpos hf h9
    obtain ⟨r10, F10, B10, hc10, hf⟩ := gbindN hf
    obtain ⟨g11, hf⟩ := gif hf
    cases hf
    exact zKle.rf
  · replace hf := gneg hf h9
    cases hf
    exact zKle.rf

set_option maxHeartbeats 4000000 in
set_option maxRecDepth 100000 in
theorem b_S_perform_16 {D : va_G} {ca : Nat → ClassId} {ad0 : Nat → Int → Nat → Nat} {aS vS : Nat → Nat} {A : Nat → Prop} {p : Program} {l : Launch} {e : Env} {s : State} {m : MethodId} {args : Array Value} {below : List Frame} {meth : Method} {c : Code} {K0 : zK} {r : Int} {F9 : zF} {B9 : zB} {K9 : zK} {K : zK} {l2 : Int} {s0 : Int} {F : zF} {B : zB} {ad : Nat → Int → Nat → Nat} {L : List Nat} {H : Heap} {locs : List Loc} {ls : Array Slot} : zX D ca L aS vS A p s m args meth c prog_1_method_19_code 4 (Option.some Jvm.ClassFile.FieldType.int) "StaveHouse" → zG ad0 K0.2 ad K.2 → f_S_perform_16 K l2 s0 F B = some (r, F9, B9, K9) → zH D ca ad lnC K.2 L F B A H → va_S A s.heap H locs → lv_has ls 4 [(2, va_rf (zrf ad 6 l2))] → W p l e ({ frames := 6, cells := cwC K0 K9, slots := swC K0 K9, locals := 141 } : Room) s m args below meth c H locs (cwC K0 K) (swC K0 K) (MQ below (Q_S_perform K0 D ca ad0 r F9 B9 K9 A) args s (cwC K0 K9) (swC K0 K9) A) (F0 m 16 ls [va_rf (zrf ad 5 s0)]) := by
  intro X hG hf hZ hS hl
  obtain ⟨hx, hb, hr, hml, hown, hts, hlk, hK, hA, hL, hX⟩ := id X
  have hk0 := zroom0 (K0 := K0) (m_S_perform_16 hf)
  replace hf : (if 0 ≤ s0 ∧ s0 < K.2 5 then if r32 (F 5 s0 1) then (if (F 5 s0 1) = 0 then zbindN (f_Performance_begin K s0 F B) (fun r10 F10 B10 => if 0 ≤ l2 ∧ l2 < K.2 6 then some (F10 5 s0 0, (zup3 F10 6 l2 10 1), B10, K) else none) else some ((-2), F, B, K)) else none else none) = some (r, F9, B9, K9) := hf
  refine zastore_n (lv' := [(2, va_rf (zrf ad 6 l2))]) hx hb d_1_19_16 rfl hl (by decide) (fun v hv => by cases zrf ad 6 l2 <;> rfl) (fun ls hl => ?_)
  refine zaload_n hx hb d_1_19_17 rfl (lv_at hl 0 rfl) ?_
  obtain ⟨g7, hf⟩ := gif hf
  refine zunrf g7.1 ?_
  refine zget (ci := 5) (C := RX5) (T := TX5) (v := .int (iI (F 5 s0 1))) (k := 1) hx hb hts inW_5 hown hK hZ g7.1 g7.2 rfl (by decide) k_6_66 rfl d_1_19_18 ?_
  obtain ⟨g8, hf⟩ := gif hf
  refine z0eq (tgt := 27) hx hb g8 d_1_19_21 (by decide) (fun h9 => ?_) (fun h9 => ?_)
  · replace hf := gpos hf h9
    refine zaload_n hx hb d_1_19_27 rfl (lv_at hl 0 rfl) ?_
    refine W.eq (g2 := F0 m 28 ls [.ref (ad 5 s0 0)]) (by rw [zrf_pos (ad := ad) (t := 5) g7.1]; try rfl) ?_
    obtain ⟨r10, F10, B10, hc10, hf⟩ := gbindN hf
    refine va_callv (va_runV (As := []) (rest := []) ⟨hx, hb, hml, hown, hts⟩ (c_Performance_begin (l := l) hc10) (cwV 0 hts (gdV k_7_87 k_7_88 k_7_89 k_1_20 k_7_90) rfl rfl rfl (by decide +kernel) ⟨Nat.le_of_ble_eq_true rfl, Nat.le_of_ble_eq_true rfl⟩) (zPV X hZ hS (ci := 5) g7.1 g7.2 (r := (RX5, TX5, 14)) rfl []) rfl rfl hl.1 rfl (lv_room (Nat.le_of_ble_eq_true rfl)) d_1_19_28 ⟨hk0.1, hk0.2⟩) hS (fun q _ h => zAin X hS q h) (zAin X hS) (fun u10 t10 H10 locs10 ht10 hv10 hw10 hB10 hz10 hk10 hS10 => ?_)
    have hZ10 := zBack X ht10 hB10
    refine zaload_n hx hb d_1_19_31 rfl (lv_at hl 1 rfl) ?_
    refine lv_iconst (v := iI 1) hx hb d_1_19_32 rfl ?_
    obtain ⟨g11, hf⟩ := gif hf
    refine W.eq (g2 := F0 m 33 ls [.int (iI 1), .ref (ad 6 l2 0)]) (by rw [zrf_pos (ad := ad) (t := 6) g11.1]; try rfl) ?_
    refine zput (ci := 6) (C := RX6) (T := TX6) (k := 10) (v := 1) (w := .int (iI 1)) hx hb hts inW_6 tyX6 tyX6_ok nmX6 hown hK hZ10 hS10 g11.1 g11.2 rfl (by decide) k_2_229 rfl (fun G h => congrArg (fun q => Value.int (iI q)) h) rfl rfl (zno (by decide)) d_1_19_33 (fun H12 locs12 hZ12 hS12 => ?_)
    refine zaload_n hx hb d_1_19_36 rfl (lv_at hl 0 rfl) ?_
    refine zunrf g7.1 ?_
    refine zget (ci := 5) (C := RX5) (T := TX5) (v := .int (iI (F10 5 s0 0))) (k := 0) hx hb hts inW_5 hown hK hZ12 g7.1 g7.2 rfl (by decide) k_6_64 (congrArg (fun q : Int => Value.int (iI q)) (show (zup3 F10 6 l2 10 1) 5 s0 0 = F10 5 s0 0 by simp [zup3])) d_1_19_37 ?_
    cases hf
    exact W.iret hx hb hr (fun t ht hW => ⟨⟨_, (ad, L), rfl, ⟨rfl, hG⟩, by rw [ht]; exact hZ12, va_K.moved hW.alike hK⟩, hS12.F ht⟩) hS12.2.2 d_1_19_40 hlk
  · replace hf := gneg hf h9
    refine lv_bipush (v := iI (-2)) hx hb d_1_19_24 (by decide) ?_
    cases hf
    exact W.iret hx hb hr (fun t ht hW => ⟨⟨_, (ad, L), rfl, ⟨rfl, hG⟩, by rw [ht]; exact hZ, va_K.moved hW.alike hK⟩, hS.F ht⟩) hS.2.2 d_1_19_26 hlk

def f_S_perform (K : zK) (l0 : Int) (l1 : Int) (F : zF) (B : zB) : zOm := if 0 ≤ l0 ∧ l0 < K.2 12 then zbindN (f_S_pieceAt K l0 l1 F B) (fun r2 F2 B2 => (if r2 < 0 then some ((-1), F2, B2, K) else if 0 ≤ r2 ∧ r2 < K.2 6 then if r2 < K.2 6 then zbindM (f_Piece_soundsMade K r2 F2 B2) (fun r6 F6 B6 K6 => f_S_perform_16 K6 r2 r6 F6 B6) else none else none)) else none
theorem m_S_perform {K : zK} {l0 : Int} {l1 : Int} {F : zF} {B : zB} {r : Int} {F9 : zF} {B9 : zB} {K9 : zK} (hf : f_S_perform K l0 l1 F B = some (r, F9, B9, K9)) : zKle K K9 := by
  replace hf : (if 0 ≤ l0 ∧ l0 < K.2 12 then zbindN (f_S_pieceAt K l0 l1 F B) (fun r2 F2 B2 => (if r2 < 0 then some ((-1), F2, B2, K) else if 0 ≤ r2 ∧ r2 < K.2 6 then if r2 < K.2 6 then zbindM (f_Piece_soundsMade K r2 F2 B2) (fun r6 F6 B6 K6 => f_S_perform_16 K6 r2 r6 F6 B6) else none else none)) else none) = some (r, F9, B9, K9) := hf
  obtain ⟨g1, hf⟩ := gif hf
  obtain ⟨r2, F2, B2, hc2, hf⟩ := gbindN hf
  refine (Classical.em (r2 < 0)).symm.elim (fun h3 => ?_) (fun h3 => ?_)
  · replace hf := gneg hf h3
    obtain ⟨g4, hf⟩ := gif hf
    obtain ⟨g5, hf⟩ := gif hf
    obtain ⟨r6, F6, B6, K6, hc6, hf⟩ := gbindM hf
    exact (m_Piece_soundsMade hc6).tr (m_S_perform_16 hf)
  · replace hf := gpos hf h3
    cases hf
    exact zKle.rf

set_option maxHeartbeats 4000000 in
set_option maxRecDepth 100000 in
theorem c_S_perform {l : Launch} {D : va_G} {ca : Nat → ClassId} {ad : Nat → Int → Nat → Nat} {L : List Nat} {aS vS : Nat → Nat} {sz : Nat} {K : zK} {l0 : Int} {l1 : Int} {F : zF} {B : zB} {r : Int} {F9 : zF} {B9 : zB} {K9 : zK} (hf : f_S_perform K l0 l1 F B = some (r, F9, B9, K9)) : Met l ({ cls := "StaveHouse", name := "perform", desc := "(I)I" } : Jvm.MethodName) (Cond.code ({ cls := "StaveHouse", name := "perform", desc := "(I)I" } : Jvm.MethodName) prog_1_method_19_code 4 (Option.some Jvm.ClassFile.FieldType.int) :: wAll) ({ frames := 6, cells := cwC K K9, slots := swC K K9, locals := 141 } : Room) (va_Pc [.ref (ad 12 l0 0), .int (iI l1)] (zPre D ca ad lnC K.2 L aS vS F B sz)) (Q_S_perform K D ca ad r F9 B9 K9 (zA L sz)) (cwC K K9) (swC K K9) (zA L sz) := by
  refine zMet (Qc := Q_S_perform K D ca ad r F9 B9 K9) (lv := [(0, .ref (ad 12 l0 0)), (1, .int (iI l1))]) (by decide) (Nat.le_of_ble_eq_true rfl) rfl (fun A p e s m below meth c ls X hZ hS hl => ?_)
  obtain ⟨hx, hb, hr, hml, hown, hts, hlk, hK, hA, hL, hX⟩ := id X
  have hG : zG ad K.2 ad K.2 := zG.rf
  refine W.widen (k := cwC K K) (n := swC K K) (Nat.zero_le _) (Nat.zero_le _) ?_
  have hk0 := zroom0 (K0 := K) (m_S_perform hf)
  replace hf : (if 0 ≤ l0 ∧ l0 < K.2 12 then zbindN (f_S_pieceAt K l0 l1 F B) (fun r2 F2 B2 => (if r2 < 0 then some ((-1), F2, B2, K) else if 0 ≤ r2 ∧ r2 < K.2 6 then if r2 < K.2 6 then zbindM (f_Piece_soundsMade K r2 F2 B2) (fun r6 F6 B6 K6 => f_S_perform_16 K6 r2 r6 F6 B6) else none else none)) else none) = some (r, F9, B9, K9) := hf
  refine lv_aload_n hx hb d_1_19_0 rfl (lv_at hl 0 rfl) ?_
  refine lv_iload_n hx hb d_1_19_1 rfl (lv_at hl 1 rfl) ?_
  obtain ⟨g1, hf⟩ := gif hf
  obtain ⟨r2, F2, B2, hc2, hf⟩ := gbindN hf
  refine va_callq (va_runV (As := [.int (iI l1)]) (rest := []) ⟨hx, hb, hml, hown, hts⟩ (c_S_pieceAt (l := l) hc2) (cwV 1 hts (gdV k_5_182 k_5_184 ks_65 k_1_1 k_5_185) rfl rfl rfl (by decide +kernel) ⟨Nat.le_of_ble_eq_true rfl, Nat.le_of_ble_eq_true rfl⟩) (zPV X hZ hS (ci := 12) g1.1 g1.2 (r := (RX12, TX12, 10)) rfl [.int (iI l1)]) rfl rfl hl.1 rfl (lv_room (Nat.le_of_ble_eq_true rfl)) d_1_19_2 ⟨hk0.1, hk0.2⟩) hS (fun q _ h => zAin X hS q h) (zAin X hS) (fun p2 u2 t2 H2 locs2 ht2 hv2 hw2 hB2 hz2 hk2 hS2 => ?_)
  have hZ2 := zBack X ht2 hB2
  subst hw2
  refine zastore_n (lv' := [(0, .ref (ad 12 l0 0)), (1, .int (iI l1))]) hx hb d_1_19_5 rfl hl (by decide) (fun _ _ => rfl) (fun ls hl => ?_)
  refine zaload_n hx hb d_1_19_6 rfl (lv_at hl 0 rfl) ?_
  refine zifnonnull (tgt := 12) hx hb d_1_19_7 (by decide) (fun h3 => ?_) (fun h3 => ?_)
  · replace hf := gneg hf h3
    refine zaload_n hx hb d_1_19_12 rfl (lv_at hl 0 rfl) ?_
    obtain ⟨g4, hf⟩ := gif hf
    refine W.eq (g2 := F0 m 13 ls [.ref (ad 6 r2 0)]) (by rw [zrf_pos (ad := ad) (t := 6) g4.1]; try rfl) ?_
    obtain ⟨g5, hf⟩ := gif hf
    obtain ⟨r6, F6, B6, K6, hc6, hf⟩ := gbindM hf
    have hm6 := m_S_perform_16 hf
    have hn6 := m_Piece_soundsMade hc6
    have hr6 := zroomC hG.1 hn6 hm6
    refine va_callq (va_runV (As := []) (rest := []) ⟨hx, hb, hml, hown, hts⟩ (c_Piece_soundsMade (l := l) hc6) (cwV 0 hts (gdV k_6_52 k_6_53 k_6_54 k_1_15 k_6_55) rfl rfl rfl (by decide +kernel) ⟨Nat.le_of_ble_eq_true rfl, Nat.le_of_ble_eq_true rfl⟩) (zPV X hZ2 hS2 (ci := 6) g4.1 g4.2 (r := (RX6, TX6, 14)) rfl []) rfl rfl hl.1 rfl (lv_room (Nat.le_of_ble_eq_true rfl)) d_1_19_13 ⟨hr6.1, hr6.2.1⟩) hS2 (fun q _ h => zAin X hS2 q h) (zAin X hS2) (fun p6 u6 t6 H6 locs6 ht6 hv6 hw6 hB6 hz6 hk6 hS6 => ?_)
    obtain ⟨ad6, L6⟩ := u6
    obtain ⟨hw6, hg6⟩ := hw6
    subst hw6
    have hZ6 := zBackM X hS2 ht6 hB6
    refine W.widen (k := cwC K K6) (n := swC K K6) (Nat.le_of_eq hr6.2.2.1) (Nat.le_of_eq hr6.2.2.2) ?_
    have X6 := X.grow hZ6.inA
    have hG6 := hG.tr hg6
    have e6_0 : zrf ad6 6 r2 = zrf ad 6 r2 := hg6.rf2 g5
    have hl : lv_has ls 4 [(2, va_rf (zrf ad6 6 r2))] := by have h := lv_sub hl [0] rfl; simp only [e6_0]; exact h
    exact b_S_perform_16 X6 hG6 hf hZ6 hS6 (lv_sub hl [0] rfl)
  · replace hf := gpos hf h3
    refine lv_iconst (v := iI (-1)) hx hb d_1_19_10 rfl ?_
    cases hf
    exact W.iret hx hb hr (fun t ht hW => ⟨⟨_, (ad, L), rfl, ⟨rfl, hG⟩, by rw [ht]; exact hZ2, va_K.moved hW.alike hK⟩, hS2.F ht⟩) hS2.2.2 d_1_19_11 hlk

abbrev Q_S_moment (K : zK) (D : va_G) (ca : Nat → ClassId) (ad : Nat → Int → Nat → Nat) (r : Int) (F : zF) (B : zB) (K9 : zK) (A : Nat → Prop) : Array Value → State → Outcome → State → Prop := va_Ql (S := (Nat → Int → Nat → Nat) × List Nat) (fun p u => p = lI r ∧ zG ad K.2 u.1 K9.2) (fun u => zPo D ca u.1 lnC K9.2 u.2 F B A) A
def f_S_moment_115 (K : zK) (s0 : Int) (F : zF) (B : zB) : zOm := some (s0, F, B, K)
theorem m_S_moment_115 {K : zK} {s0 : Int} {F : zF} {B : zB} {r : Int} {F9 : zF} {B9 : zB} {K9 : zK} (hf : f_S_moment_115 K s0 F B = some (r, F9, B9, K9)) : zKle K K9 := by
  replace hf : (some (s0, F, B, K)) = some (r, F9, B9, K9) := hf
  cases hf
  exact zKle.rf

set_option maxHeartbeats 4000000 in
set_option maxRecDepth 100000 in
theorem b_S_moment_115 {D : va_G} {ca : Nat → ClassId} {ad0 : Nat → Int → Nat → Nat} {aS vS : Nat → Nat} {A : Nat → Prop} {p : Program} {l : Launch} {e : Env} {s : State} {m : MethodId} {args : Array Value} {below : List Frame} {meth : Method} {c : Code} {K0 : zK} {r : Int} {F9 : zF} {B9 : zB} {K9 : zK} {K : zK} {s0 : Int} {F : zF} {B : zB} {ad : Nat → Int → Nat → Nat} {L : List Nat} {H : Heap} {locs : List Loc} {ls : Array Slot} : zX D ca L aS vS A p s m args meth c prog_1_method_30_code 6 (Option.some Jvm.ClassFile.FieldType.long) "StaveHouse" → zG ad0 K0.2 ad K.2 → f_S_moment_115 K s0 F B = some (r, F9, B9, K9) → zH D ca ad lnC K.2 L F B A H → va_S A s.heap H locs → lv_has ls 6 [] → W p l e ({ frames := 7, cells := cwC K0 K9, slots := swC K0 K9, locals := 152 } : Room) s m args below meth c H locs (cwC K0 K) (swC K0 K) (MQ below (Q_S_moment K0 D ca ad0 r F9 B9 K9 A) args s (cwC K0 K9) (swC K0 K9) A) (F0 m 115 ls [.long (lI s0)]) := by
  intro X hG hf hZ hS hl
  obtain ⟨hx, hb, hr, hml, hown, hts, hlk, hK, hA, hL, hX⟩ := id X
  have hk0 := zroom0 (K0 := K0) (m_S_moment_115 hf)
  replace hf : (some (s0, F, B, K)) = some (r, F9, B9, K9) := hf
  cases hf
  exact W.lret hx hb hr (fun t ht hW => ⟨⟨_, (ad, L), rfl, ⟨rfl, hG⟩, by rw [ht]; exact hZ, va_K.moved hW.alike hK⟩, hS.F ht⟩) hS.2.2 d_1_30_115 hlk

def f_S_moment_100 (K : zK)  (F : zF) (B : zB) : zOm := f_S_moment_115 K (-2147483648) F B
theorem m_S_moment_100 {K : zK}  {F : zF} {B : zB} {r : Int} {F9 : zF} {B9 : zB} {K9 : zK} (hf : f_S_moment_100 K  F B = some (r, F9, B9, K9)) : zKle K K9 := by
  replace hf : (f_S_moment_115 K (-2147483648) F B) = some (r, F9, B9, K9) := hf
  exact m_S_moment_115 hf

set_option maxHeartbeats 4000000 in
set_option maxRecDepth 100000 in
theorem b_S_moment_100 {D : va_G} {ca : Nat → ClassId} {ad0 : Nat → Int → Nat → Nat} {aS vS : Nat → Nat} {A : Nat → Prop} {p : Program} {l : Launch} {e : Env} {s : State} {m : MethodId} {args : Array Value} {below : List Frame} {meth : Method} {c : Code} {K0 : zK} {r : Int} {F9 : zF} {B9 : zB} {K9 : zK} {K : zK}  {F : zF} {B : zB} {ad : Nat → Int → Nat → Nat} {L : List Nat} {H : Heap} {locs : List Loc} {ls : Array Slot} : zX D ca L aS vS A p s m args meth c prog_1_method_30_code 6 (Option.some Jvm.ClassFile.FieldType.long) "StaveHouse" → zG ad0 K0.2 ad K.2 → f_S_moment_100 K  F B = some (r, F9, B9, K9) → zH D ca ad lnC K.2 L F B A H → va_S A s.heap H locs → lv_has ls 6 [] → W p l e ({ frames := 7, cells := cwC K0 K9, slots := swC K0 K9, locals := 152 } : Room) s m args below meth c H locs (cwC K0 K) (swC K0 K) (MQ below (Q_S_moment K0 D ca ad0 r F9 B9 K9 A) args s (cwC K0 K9) (swC K0 K9) A) (F0 m 100 ls []) := by
  intro X hG hf hZ hS hl
  obtain ⟨hx, hb, hr, hml, hown, hts, hlk, hK, hA, hL, hX⟩ := id X
  have hk0 := zroom0 (K0 := K0) (m_S_moment_100 hf)
  replace hf : (f_S_moment_115 K (-2147483648) F B) = some (r, F9, B9, K9) := hf
  refine lv_ldc2 hx hb hown (hts _ k_9_38) d_1_30_100 ?_
  refine W.eq (g2 := F0 m 103 ls [.long (lI (-2147483648))]) rfl ?_
  refine lv_goto (tgt := 115) hx hb d_1_30_103 (by decide) ?_
  exact b_S_moment_115 X hG hf hZ hS (lv_sub hl [] rfl)

def f_S_moment_37 (K : zK) (l4 : Int) (l2 : Int) (l3 : Int) (s0 : Int) (F : zF) (B : zB) : zOm := if r32 l3 then (if l3 = 0 then if 0 ≤ s0 ∧ s0 < K.2 9 then if 0 ≤ l2 ∧ l2 < 800 then zbindN (f_S_above K (B 9 s0 1 l2) F B) (fun r20 F20 B20 => some (r20, F20, B20, K)) else none else none else (if l3 = 1 then if 0 ≤ s0 ∧ s0 < K.2 9 then if 0 ≤ l2 ∧ l2 < 800 then zbindN (f_S_below K (B 9 s0 1 l2) F B) (fun r24 F24 B24 => some (r24, F24, B24, K)) else none else none else (if l3 < 0 then f_S_moment_100 K F B else (if l3 ≤ 8 then if 0 ≤ s0 ∧ s0 < K.2 9 then if 0 ≤ l4 ∧ l4 < K.2 6 then zbindN (f_Study_chordTold K s0 l4 l2 l3 F B) (fun r29 F29 B29 => f_S_moment_115 K r29 F29 B29) else none else none else f_S_moment_100 K F B)))) else none
theorem m_S_moment_37 {K : zK} {l4 : Int} {l2 : Int} {l3 : Int} {s0 : Int} {F : zF} {B : zB} {r : Int} {F9 : zF} {B9 : zB} {K9 : zK} (hf : f_S_moment_37 K l4 l2 l3 s0 F B = some (r, F9, B9, K9)) : zKle K K9 := by
  replace hf : (if r32 l3 then (if l3 = 0 then if 0 ≤ s0 ∧ s0 < K.2 9 then if 0 ≤ l2 ∧ l2 < 800 then zbindN (f_S_above K (B 9 s0 1 l2) F B) (fun r20 F20 B20 => some (r20, F20, B20, K)) else none else none else (if l3 = 1 then if 0 ≤ s0 ∧ s0 < K.2 9 then if 0 ≤ l2 ∧ l2 < 800 then zbindN (f_S_below K (B 9 s0 1 l2) F B) (fun r24 F24 B24 => some (r24, F24, B24, K)) else none else none else (if l3 < 0 then f_S_moment_100 K F B else (if l3 ≤ 8 then if 0 ≤ s0 ∧ s0 < K.2 9 then if 0 ≤ l4 ∧ l4 < K.2 6 then zbindN (f_Study_chordTold K s0 l4 l2 l3 F B) (fun r29 F29 B29 => f_S_moment_115 K r29 F29 B29) else none else none else f_S_moment_100 K F B)))) else none) = some (r, F9, B9, K9) := hf
  obtain ⟨g16, hf⟩ := gif hf
  by_cases h17 : l3 = 0
  · replace hf := gpos hf h17
    obtain ⟨g18, hf⟩ := gif hf
    obtain ⟨g19, hf⟩ := gif hf
    obtain ⟨r20, F20, B20, hc20, hf⟩ := gbindN hf
    cases hf
    exact zKle.rf
  replace hf := gneg hf h17
  by_cases h21 : l3 = 1
  · replace hf := gpos hf h21
    obtain ⟨g22, hf⟩ := gif hf
    obtain ⟨g23, hf⟩ := gif hf
    obtain ⟨r24, F24, B24, hc24, hf⟩ := gbindN hf
    cases hf
    exact zKle.rf
  replace hf := gneg hf h21
  refine (Classical.em (l3 < 0)).elim (fun h25 => ?_) (fun h25 => ?_)
  · replace hf := gpos hf h25
    exact m_S_moment_100 hf
  · replace hf := gneg hf h25
    refine (Classical.em (l3 ≤ 8)).elim (fun h26 => ?_) (fun h26 => ?_)
    · replace hf := gpos hf h26
      obtain ⟨g27, hf⟩ := gif hf
      obtain ⟨g28, hf⟩ := gif hf
      obtain ⟨r29, F29, B29, hc29, hf⟩ := gbindN hf
      exact m_S_moment_115 hf
    · replace hf := gneg hf h26
      exact m_S_moment_100 hf

set_option maxHeartbeats 4000000 in
set_option maxRecDepth 100000 in
theorem b_S_moment_37 {D : va_G} {ca : Nat → ClassId} {ad0 : Nat → Int → Nat → Nat} {aS vS : Nat → Nat} {A : Nat → Prop} {p : Program} {l : Launch} {e : Env} {s : State} {m : MethodId} {args : Array Value} {below : List Frame} {meth : Method} {c : Code} {K0 : zK} {r : Int} {F9 : zF} {B9 : zB} {K9 : zK} {K : zK} {l4 : Int} {l2 : Int} {l3 : Int} {s0 : Int} {F : zF} {B : zB} {ad : Nat → Int → Nat → Nat} {L : List Nat} {H : Heap} {locs : List Loc} {ls : Array Slot} : zX D ca L aS vS A p s m args meth c prog_1_method_30_code 6 (Option.some Jvm.ClassFile.FieldType.long) "StaveHouse" → zG ad0 K0.2 ad K.2 → f_S_moment_37 K l4 l2 l3 s0 F B = some (r, F9, B9, K9) → zH D ca ad lnC K.2 L F B A H → va_S A s.heap H locs → lv_has ls 6 [(4, va_rf (zrf ad 6 l4)), (2, .int (iI l2)), (3, .int (iI l3))] → W p l e ({ frames := 7, cells := cwC K0 K9, slots := swC K0 K9, locals := 152 } : Room) s m args below meth c H locs (cwC K0 K) (swC K0 K) (MQ below (Q_S_moment K0 D ca ad0 r F9 B9 K9 A) args s (cwC K0 K9) (swC K0 K9) A) (F0 m 37 ls [va_rf (zrf ad 9 s0)]) := by
  intro X hG hf hZ hS hl
  obtain ⟨hx, hb, hr, hml, hown, hts, hlk, hK, hA, hL, hX⟩ := id X
  have hk0 := zroom0 (K0 := K0) (m_S_moment_37 hf)
  replace hf : (if r32 l3 then (if l3 = 0 then if 0 ≤ s0 ∧ s0 < K.2 9 then if 0 ≤ l2 ∧ l2 < 800 then zbindN (f_S_above K (B 9 s0 1 l2) F B) (fun r20 F20 B20 => some (r20, F20, B20, K)) else none else none else (if l3 = 1 then if 0 ≤ s0 ∧ s0 < K.2 9 then if 0 ≤ l2 ∧ l2 < 800 then zbindN (f_S_below K (B 9 s0 1 l2) F B) (fun r24 F24 B24 => some (r24, F24, B24, K)) else none else none else (if l3 < 0 then f_S_moment_100 K F B else (if l3 ≤ 8 then if 0 ≤ s0 ∧ s0 < K.2 9 then if 0 ≤ l4 ∧ l4 < K.2 6 then zbindN (f_Study_chordTold K s0 l4 l2 l3 F B) (fun r29 F29 B29 => f_S_moment_115 K r29 F29 B29) else none else none else f_S_moment_100 K F B)))) else none) = some (r, F9, B9, K9) := hf
  refine zastore (lv' := [(4, va_rf (zrf ad 6 l4)), (2, .int (iI l2)), (3, .int (iI l3))]) hx hb d_1_30_37 hl (by decide) (fun v hv => by cases zrf ad 6 l4 <;> rfl) (fun ls hl => ?_)
  refine lv_iload_n hx hb d_1_30_39 rfl (lv_at hl 3 rfl) ?_
  obtain ⟨g16, hf⟩ := gif hf
  by_cases h17 : l3 = 0
  · replace hf := gpos hf h17
    refine lv_lookup (off := 28) (tgt := 68) hx hb d_1_30_40 (by decide) (by rw [iI_to g16, h17]; rfl) (by decide) ?_
    refine zaload hx hb d_1_30_68 (lv_at hl 0 rfl) ?_
    obtain ⟨g18, hf⟩ := gif hf
    refine zunrf g18.1 ?_
    refine zget (ci := 9) (C := RX9) (T := TX9) (v := .ref (ad 9 s0 (1 + 1))) (k := 1) hx hb hts inW_9 hown hK hZ g18.1 g18.2 rfl (by decide) k_5_200 rfl d_1_30_70 ?_
    refine lv_iload_n hx hb d_1_30_73 rfl (lv_at hl 2 rfl) ?_
    obtain ⟨g19, hf⟩ := gif hf
    refine zlald (ci := 9) (k := 1) hx hb hK rfl hZ g18.1 g18.2 rfl (Nat.le_of_ble_eq_true rfl) g19.1 g19.2 d_1_30_74 ?_
    obtain ⟨r20, F20, B20, hc20, hf⟩ := gbindN hf
    refine va_calll (va_runS (As := [.long (lI (B 9 s0 1 l2))]) (rest := []) ⟨hx, hb, hml, hown, hts⟩ (c_S_above (l := l) hc20) (va_cwS 1 hts (gdS k_6_185 k_6_186 k_1_1 k_6_187) rfl rfl rfl (by decide +kernel) ⟨Nat.le_of_ble_eq_true rfl, Nat.le_of_ble_eq_true rfl⟩) (zPS X hZ hS [.long (lI (B 9 s0 1 l2))]) rfl rfl hl.1 rfl (lv_room (Nat.le_of_ble_eq_true rfl)) d_1_30_75 ⟨hk0.1, hk0.2⟩) hS (fun q _ h => zAin X hS q h) (zAin X hS) (fun p20 u20 t20 H20 locs20 ht20 hv20 hw20 hB20 hz20 hk20 hS20 => ?_)
    have hZ20 := zBack X ht20 hB20
    subst hw20
    cases hf
    exact W.lret hx hb hr (fun t ht hW => ⟨⟨_, (ad, L), rfl, ⟨rfl, hG⟩, by rw [ht]; exact hZ20, va_K.moved hW.alike hK⟩, hS20.F ht⟩) hS20.2.2 d_1_30_78 hlk
  replace hf := gneg hf h17
  by_cases h21 : l3 = 1
  · replace hf := gpos hf h21
    refine lv_lookup (off := 39) (tgt := 79) hx hb d_1_30_40 (by decide) (by rw [iI_to g16, h21]; rfl) (by decide) ?_
    refine zaload hx hb d_1_30_79 (lv_at hl 0 rfl) ?_
    obtain ⟨g22, hf⟩ := gif hf
    refine zunrf g22.1 ?_
    refine zget (ci := 9) (C := RX9) (T := TX9) (v := .ref (ad 9 s0 (1 + 1))) (k := 1) hx hb hts inW_9 hown hK hZ g22.1 g22.2 rfl (by decide) k_5_200 rfl d_1_30_81 ?_
    refine lv_iload_n hx hb d_1_30_84 rfl (lv_at hl 2 rfl) ?_
    obtain ⟨g23, hf⟩ := gif hf
    refine zlald (ci := 9) (k := 1) hx hb hK rfl hZ g22.1 g22.2 rfl (Nat.le_of_ble_eq_true rfl) g23.1 g23.2 d_1_30_85 ?_
    obtain ⟨r24, F24, B24, hc24, hf⟩ := gbindN hf
    refine va_calll (va_runS (As := [.long (lI (B 9 s0 1 l2))]) (rest := []) ⟨hx, hb, hml, hown, hts⟩ (c_S_below (l := l) hc24) (va_cwS 1 hts (gdS k_6_192 k_6_193 k_1_1 k_6_194) rfl rfl rfl (by decide +kernel) ⟨Nat.le_of_ble_eq_true rfl, Nat.le_of_ble_eq_true rfl⟩) (zPS X hZ hS [.long (lI (B 9 s0 1 l2))]) rfl rfl hl.1 rfl (lv_room (Nat.le_of_ble_eq_true rfl)) d_1_30_86 ⟨hk0.1, hk0.2⟩) hS (fun q _ h => zAin X hS q h) (zAin X hS) (fun p24 u24 t24 H24 locs24 ht24 hv24 hw24 hB24 hz24 hk24 hS24 => ?_)
    have hZ24 := zBack X ht24 hB24
    subst hw24
    cases hf
    exact W.lret hx hb hr (fun t ht hW => ⟨⟨_, (ad, L), rfl, ⟨rfl, hG⟩, by rw [ht]; exact hZ24, va_K.moved hW.alike hK⟩, hS24.F ht⟩) hS24.2.2 d_1_30_89 hlk
  replace hf := gneg hf h21
  refine lv_lookup (off := 50) (tgt := 90) hx hb d_1_30_40 (by decide) (by rw [iI_to g16, Op.lookupswitch.offset_cons, if_neg (fun q => h17 q.symm), Op.lookupswitch.offset_cons, if_neg (fun q => h21 q.symm)]; rfl) (by decide) ?_
  refine lv_iload_n hx hb d_1_30_90 rfl (lv_at hl 3 rfl) ?_
  refine z0lt (tgt := 100) hx hb g16 d_1_30_91 (by decide) (fun h25 => ?_) (fun h25 => ?_)
  · replace hf := gpos hf h25
    exact b_S_moment_100 X hG hf hZ hS (lv_sub hl [] rfl)
  · replace hf := gneg hf h25
    refine lv_iload_n hx hb d_1_30_94 rfl (lv_at hl 3 rfl) ?_
    refine lv_bipush (v := iI 8) hx hb d_1_30_95 (by decide) ?_
    refine zle (tgt := 106) hx hb g16 (by decide) d_1_30_97 (by decide) (fun h26 => ?_) (fun h26 => ?_)
    · replace hf := gpos hf h26
      refine zaload hx hb d_1_30_106 (lv_at hl 0 rfl) ?_
      refine zaload hx hb d_1_30_108 (lv_at hl 1 rfl) ?_
      refine lv_iload_n hx hb d_1_30_110 rfl (lv_at hl 2 rfl) ?_
      refine lv_iload_n hx hb d_1_30_111 rfl (lv_at hl 3 rfl) ?_
      obtain ⟨g27, hf⟩ := gif hf
      refine W.eq (g2 := F0 m 112 ls [.int (iI l3), .int (iI l2), va_rf (zrf ad 6 l4), .ref (ad 9 s0 0)]) (by rw [zrf_pos (ad := ad) (t := 9) g27.1]; try rfl) ?_
      obtain ⟨g28, hf⟩ := gif hf
      refine W.eq (g2 := F0 m 112 ls [.int (iI l3), .int (iI l2), .ref (ad 6 l4 0), .ref (ad 9 s0 0)]) (by rw [zrf_pos (ad := ad) (t := 6) g28.1]; try rfl) ?_
      obtain ⟨r29, F29, B29, hc29, hf⟩ := gbindN hf
      refine va_calll (va_runV (As := [.ref (ad 6 l4 0), .int (iI l2), .int (iI l3)]) (rest := []) ⟨hx, hb, hml, hown, hts⟩ (c_Study_chordTold (l := l) hc29) (cwV 3 hts (gdV k_9_39 k_9_40 k_9_41 k_1_19 k_9_42) rfl rfl rfl (by decide +kernel) ⟨Nat.le_of_ble_eq_true rfl, Nat.le_of_ble_eq_true rfl⟩) (zPV X hZ hS (ci := 9) g27.1 g27.2 (r := (RX9, TX9, 11)) rfl [.ref (ad 6 l4 0), .int (iI l2), .int (iI l3)]) rfl rfl hl.1 rfl (lv_room (Nat.le_of_ble_eq_true rfl)) d_1_30_112 ⟨hk0.1, hk0.2⟩) hS (fun q _ h => zAin X hS q h) (zAin X hS) (fun p29 u29 t29 H29 locs29 ht29 hv29 hw29 hB29 hz29 hk29 hS29 => ?_)
      have hZ29 := zBack X ht29 hB29
      subst hw29
      exact b_S_moment_115 X hG hf hZ29 hS29 (lv_sub hl [] rfl)
    · replace hf := gneg hf h26
      exact b_S_moment_100 X hG hf hZ hS (lv_sub hl [] rfl)

def f_S_moment_28 (K : zK)  (F : zF) (B : zB) : zOm := some ((-2147483648), F, B, K)
theorem m_S_moment_28 {K : zK}  {F : zF} {B : zB} {r : Int} {F9 : zF} {B9 : zB} {K9 : zK} (hf : f_S_moment_28 K  F B = some (r, F9, B9, K9)) : zKle K K9 := by
  replace hf : (some ((-2147483648), F, B, K)) = some (r, F9, B9, K9) := hf
  cases hf
  exact zKle.rf

set_option maxHeartbeats 4000000 in
set_option maxRecDepth 100000 in
theorem b_S_moment_28 {D : va_G} {ca : Nat → ClassId} {ad0 : Nat → Int → Nat → Nat} {aS vS : Nat → Nat} {A : Nat → Prop} {p : Program} {l : Launch} {e : Env} {s : State} {m : MethodId} {args : Array Value} {below : List Frame} {meth : Method} {c : Code} {K0 : zK} {r : Int} {F9 : zF} {B9 : zB} {K9 : zK} {K : zK}  {F : zF} {B : zB} {ad : Nat → Int → Nat → Nat} {L : List Nat} {H : Heap} {locs : List Loc} {ls : Array Slot} : zX D ca L aS vS A p s m args meth c prog_1_method_30_code 6 (Option.some Jvm.ClassFile.FieldType.long) "StaveHouse" → zG ad0 K0.2 ad K.2 → f_S_moment_28 K  F B = some (r, F9, B9, K9) → zH D ca ad lnC K.2 L F B A H → va_S A s.heap H locs → lv_has ls 6 [] → W p l e ({ frames := 7, cells := cwC K0 K9, slots := swC K0 K9, locals := 152 } : Room) s m args below meth c H locs (cwC K0 K) (swC K0 K) (MQ below (Q_S_moment K0 D ca ad0 r F9 B9 K9 A) args s (cwC K0 K9) (swC K0 K9) A) (F0 m 28 ls []) := by
  intro X hG hf hZ hS hl
  obtain ⟨hx, hb, hr, hml, hown, hts, hlk, hK, hA, hL, hX⟩ := id X
  have hk0 := zroom0 (K0 := K0) (m_S_moment_28 hf)
  replace hf : (some ((-2147483648), F, B, K)) = some (r, F9, B9, K9) := hf
  refine lv_ldc2 hx hb hown (hts _ k_9_38) d_1_30_28 ?_
  refine W.eq (g2 := F0 m 31 ls [.long (lI (-2147483648))]) rfl ?_
  cases hf
  exact W.lret hx hb hr (fun t ht hW => ⟨⟨_, (ad, L), rfl, ⟨rfl, hG⟩, by rw [ht]; exact hZ, va_K.moved hW.alike hK⟩, hS.F ht⟩) hS.2.2 d_1_30_31 hlk

def f_S_moment_22 (K : zK) (l4 : Int) (l2 : Int) (l3 : Int) (s0 : Int) (s1 : Int) (F : zF) (B : zB) : zOm := if 0 ≤ s1 ∧ s1 < K.2 9 then if r32 s0 then if r32 (F 9 s1 0) then (if s0 < (F 9 s1 0) then if 0 ≤ l4 ∧ l4 < K.2 6 then if l4 < K.2 6 then zbindM (f_Piece_studyMade K l4 F B) (fun r15 F15 B15 K15 => f_S_moment_37 K15 l4 l2 l3 r15 F15 B15) else none else none else f_S_moment_28 K F B) else none else none else none
theorem m_S_moment_22 {K : zK} {l4 : Int} {l2 : Int} {l3 : Int} {s0 : Int} {s1 : Int} {F : zF} {B : zB} {r : Int} {F9 : zF} {B9 : zB} {K9 : zK} (hf : f_S_moment_22 K l4 l2 l3 s0 s1 F B = some (r, F9, B9, K9)) : zKle K K9 := by
  replace hf : (if 0 ≤ s1 ∧ s1 < K.2 9 then if r32 s0 then if r32 (F 9 s1 0) then (if s0 < (F 9 s1 0) then if 0 ≤ l4 ∧ l4 < K.2 6 then if l4 < K.2 6 then zbindM (f_Piece_studyMade K l4 F B) (fun r15 F15 B15 K15 => f_S_moment_37 K15 l4 l2 l3 r15 F15 B15) else none else none else f_S_moment_28 K F B) else none else none else none) = some (r, F9, B9, K9) := hf
  obtain ⟨g9, hf⟩ := gif hf
  obtain ⟨g10, hf⟩ := gif hf
  obtain ⟨g11, hf⟩ := gif hf
  refine (Classical.em (s0 < (F 9 s1 0))).elim (fun h12 => ?_) (fun h12 => ?_)
  · replace hf := gpos hf h12
    obtain ⟨g13, hf⟩ := gif hf
    obtain ⟨g14, hf⟩ := gif hf
    obtain ⟨r15, F15, B15, K15, hc15, hf⟩ := gbindM hf
    exact (m_Piece_studyMade hc15).tr (m_S_moment_37 hf)
  · replace hf := gneg hf h12
    exact m_S_moment_28 hf

set_option maxHeartbeats 4000000 in
set_option maxRecDepth 100000 in
theorem b_S_moment_22 {D : va_G} {ca : Nat → ClassId} {ad0 : Nat → Int → Nat → Nat} {aS vS : Nat → Nat} {A : Nat → Prop} {p : Program} {l : Launch} {e : Env} {s : State} {m : MethodId} {args : Array Value} {below : List Frame} {meth : Method} {c : Code} {K0 : zK} {r : Int} {F9 : zF} {B9 : zB} {K9 : zK} {K : zK} {l4 : Int} {l2 : Int} {l3 : Int} {s0 : Int} {s1 : Int} {F : zF} {B : zB} {ad : Nat → Int → Nat → Nat} {L : List Nat} {H : Heap} {locs : List Loc} {ls : Array Slot} : zX D ca L aS vS A p s m args meth c prog_1_method_30_code 6 (Option.some Jvm.ClassFile.FieldType.long) "StaveHouse" → zG ad0 K0.2 ad K.2 → f_S_moment_22 K l4 l2 l3 s0 s1 F B = some (r, F9, B9, K9) → zH D ca ad lnC K.2 L F B A H → va_S A s.heap H locs → lv_has ls 6 [(4, va_rf (zrf ad 6 l4)), (2, .int (iI l2)), (3, .int (iI l3))] → W p l e ({ frames := 7, cells := cwC K0 K9, slots := swC K0 K9, locals := 152 } : Room) s m args below meth c H locs (cwC K0 K) (swC K0 K) (MQ below (Q_S_moment K0 D ca ad0 r F9 B9 K9 A) args s (cwC K0 K9) (swC K0 K9) A) (F0 m 22 ls [va_rf (zrf ad 9 s1), .int (iI s0)]) := by
  intro X hG hf hZ hS hl
  obtain ⟨hx, hb, hr, hml, hown, hts, hlk, hK, hA, hL, hX⟩ := id X
  have hk0 := zroom0 (K0 := K0) (m_S_moment_22 hf)
  replace hf : (if 0 ≤ s1 ∧ s1 < K.2 9 then if r32 s0 then if r32 (F 9 s1 0) then (if s0 < (F 9 s1 0) then if 0 ≤ l4 ∧ l4 < K.2 6 then if l4 < K.2 6 then zbindM (f_Piece_studyMade K l4 F B) (fun r15 F15 B15 K15 => f_S_moment_37 K15 l4 l2 l3 r15 F15 B15) else none else none else f_S_moment_28 K F B) else none else none else none) = some (r, F9, B9, K9) := hf
  obtain ⟨g9, hf⟩ := gif hf
  refine zunrf g9.1 ?_
  refine zget (ci := 9) (C := RX9) (T := TX9) (v := .int (iI (F 9 s1 0))) (k := 0) hx hb hts inW_9 hown hK hZ g9.1 g9.2 rfl (by decide) k_5_198 rfl d_1_30_22 ?_
  obtain ⟨g10, hf⟩ := gif hf
  obtain ⟨g11, hf⟩ := gif hf
  refine zlt (tgt := 32) hx hb g10 g11 d_1_30_25 (by decide) (fun h12 => ?_) (fun h12 => ?_)
  · replace hf := gpos hf h12
    refine zaload hx hb d_1_30_32 (lv_at hl 0 rfl) ?_
    obtain ⟨g13, hf⟩ := gif hf
    refine W.eq (g2 := F0 m 34 ls [.ref (ad 6 l4 0)]) (by rw [zrf_pos (ad := ad) (t := 6) g13.1]; try rfl) ?_
    obtain ⟨g14, hf⟩ := gif hf
    obtain ⟨r15, F15, B15, K15, hc15, hf⟩ := gbindM hf
    have hm15 := m_S_moment_37 hf
    have hn15 := m_Piece_studyMade hc15
    have hr15 := zroomC hG.1 hn15 hm15
    refine va_callq (va_runV (As := []) (rest := []) ⟨hx, hb, hml, hown, hts⟩ (c_Piece_studyMade (l := l) hc15) (cwV 0 hts (gdV k_5_186 k_5_187 k_5_188 k_1_15 k_5_189) rfl rfl rfl (by decide +kernel) ⟨Nat.le_of_ble_eq_true rfl, Nat.le_of_ble_eq_true rfl⟩) (zPV X hZ hS (ci := 6) g13.1 g13.2 (r := (RX6, TX6, 14)) rfl []) rfl rfl hl.1 rfl (lv_room (Nat.le_of_ble_eq_true rfl)) d_1_30_34 ⟨hr15.1, hr15.2.1⟩) hS (fun q _ h => zAin X hS q h) (zAin X hS) (fun p15 u15 t15 H15 locs15 ht15 hv15 hw15 hB15 hz15 hk15 hS15 => ?_)
    obtain ⟨ad15, L15⟩ := u15
    obtain ⟨hw15, hg15⟩ := hw15
    subst hw15
    have hZ15 := zBackM X hS ht15 hB15
    refine W.widen (k := cwC K0 K15) (n := swC K0 K15) (Nat.le_of_eq hr15.2.2.1) (Nat.le_of_eq hr15.2.2.2) ?_
    have X15 := X.grow hZ15.inA
    have hG15 := hG.tr hg15
    have e15_0 : zrf ad15 6 l4 = zrf ad 6 l4 := hg15.rf2 g14
    have hl : lv_has ls 6 [(4, va_rf (zrf ad15 6 l4)), (2, .int (iI l2)), (3, .int (iI l3))] := by have h := lv_sub hl [0, 1, 2] rfl; simp only [e15_0]; exact h
    exact b_S_moment_37 X15 hG15 hf hZ15 hS15 (lv_sub hl [0, 1, 2] rfl)
  · replace hf := gneg hf h12
    exact b_S_moment_28 X hG hf hZ hS (lv_sub hl [] rfl)

def f_S_moment (K : zK) (l0 : Int) (l1 : Int) (l2 : Int) (l3 : Int) (F : zF) (B : zB) : zOm := if 0 ≤ l0 ∧ l0 < K.2 12 then zbindN (f_S_pieceAt K l0 l1 F B) (fun r2 F2 B2 => (if r2 < 0 then f_S_moment_28 K F2 B2 else if r32 l2 then (if l2 < 0 then f_S_moment_28 K F2 B2 else if 0 ≤ r2 ∧ r2 < K.2 6 then if r2 < K.2 6 then zbindM (f_Piece_studyMade K r2 F2 B2) (fun r8 F8 B8 K8 => f_S_moment_22 K8 r2 l2 l3 l2 r8 F8 B8) else none else none) else none)) else none
theorem m_S_moment {K : zK} {l0 : Int} {l1 : Int} {l2 : Int} {l3 : Int} {F : zF} {B : zB} {r : Int} {F9 : zF} {B9 : zB} {K9 : zK} (hf : f_S_moment K l0 l1 l2 l3 F B = some (r, F9, B9, K9)) : zKle K K9 := by
  replace hf : (if 0 ≤ l0 ∧ l0 < K.2 12 then zbindN (f_S_pieceAt K l0 l1 F B) (fun r2 F2 B2 => (if r2 < 0 then f_S_moment_28 K F2 B2 else if r32 l2 then (if l2 < 0 then f_S_moment_28 K F2 B2 else if 0 ≤ r2 ∧ r2 < K.2 6 then if r2 < K.2 6 then zbindM (f_Piece_studyMade K r2 F2 B2) (fun r8 F8 B8 K8 => f_S_moment_22 K8 r2 l2 l3 l2 r8 F8 B8) else none else none) else none)) else none) = some (r, F9, B9, K9) := hf
  obtain ⟨g1, hf⟩ := gif hf
  obtain ⟨r2, F2, B2, hc2, hf⟩ := gbindN hf
  refine (Classical.em (r2 < 0)).elim (fun h3 => ?_) (fun h3 => ?_)
  · replace hf := gpos hf h3
    exact m_S_moment_28 hf
  · replace hf := gneg hf h3
    obtain ⟨g4, hf⟩ := gif hf
    refine (Classical.em (l2 < 0)).elim (fun h5 => ?_) (fun h5 => ?_)
    · replace hf := gpos hf h5
      exact m_S_moment_28 hf
    · replace hf := gneg hf h5
      obtain ⟨g6, hf⟩ := gif hf
      obtain ⟨g7, hf⟩ := gif hf
      obtain ⟨r8, F8, B8, K8, hc8, hf⟩ := gbindM hf
      exact (m_Piece_studyMade hc8).tr (m_S_moment_22 hf)

set_option maxHeartbeats 4000000 in
set_option maxRecDepth 100000 in
theorem c_S_moment {l : Launch} {D : va_G} {ca : Nat → ClassId} {ad : Nat → Int → Nat → Nat} {L : List Nat} {aS vS : Nat → Nat} {sz : Nat} {K : zK} {l0 : Int} {l1 : Int} {l2 : Int} {l3 : Int} {F : zF} {B : zB} {r : Int} {F9 : zF} {B9 : zB} {K9 : zK} (hf : f_S_moment K l0 l1 l2 l3 F B = some (r, F9, B9, K9)) : Met l ({ cls := "StaveHouse", name := "moment", desc := "(III)J" } : Jvm.MethodName) (Cond.code ({ cls := "StaveHouse", name := "moment", desc := "(III)J" } : Jvm.MethodName) prog_1_method_30_code 6 (Option.some Jvm.ClassFile.FieldType.long) :: wAll) ({ frames := 7, cells := cwC K K9, slots := swC K K9, locals := 152 } : Room) (va_Pc [.ref (ad 12 l0 0), .int (iI l1), .int (iI l2), .int (iI l3)] (zPre D ca ad lnC K.2 L aS vS F B sz)) (Q_S_moment K D ca ad r F9 B9 K9 (zA L sz)) (cwC K K9) (swC K K9) (zA L sz) := by
  refine zMet (Qc := Q_S_moment K D ca ad r F9 B9 K9) (lv := [(0, .ref (ad 12 l0 0)), (1, .int (iI l1)), (2, .int (iI l2)), (3, .int (iI l3))]) (by decide) (Nat.le_of_ble_eq_true rfl) rfl (fun A p e s m below meth c ls X hZ hS hl => ?_)
  obtain ⟨hx, hb, hr, hml, hown, hts, hlk, hK, hA, hL, hX⟩ := id X
  have hG : zG ad K.2 ad K.2 := zG.rf
  refine W.widen (k := cwC K K) (n := swC K K) (Nat.zero_le _) (Nat.zero_le _) ?_
  have hk0 := zroom0 (K0 := K) (m_S_moment hf)
  replace hf : (if 0 ≤ l0 ∧ l0 < K.2 12 then zbindN (f_S_pieceAt K l0 l1 F B) (fun r2 F2 B2 => (if r2 < 0 then f_S_moment_28 K F2 B2 else if r32 l2 then (if l2 < 0 then f_S_moment_28 K F2 B2 else if 0 ≤ r2 ∧ r2 < K.2 6 then if r2 < K.2 6 then zbindM (f_Piece_studyMade K r2 F2 B2) (fun r8 F8 B8 K8 => f_S_moment_22 K8 r2 l2 l3 l2 r8 F8 B8) else none else none) else none)) else none) = some (r, F9, B9, K9) := hf
  refine lv_aload_n hx hb d_1_30_0 rfl (lv_at hl 0 rfl) ?_
  refine lv_iload_n hx hb d_1_30_1 rfl (lv_at hl 1 rfl) ?_
  obtain ⟨g1, hf⟩ := gif hf
  obtain ⟨r2, F2, B2, hc2, hf⟩ := gbindN hf
  refine va_callq (va_runV (As := [.int (iI l1)]) (rest := []) ⟨hx, hb, hml, hown, hts⟩ (c_S_pieceAt (l := l) hc2) (cwV 1 hts (gdV k_5_182 k_5_184 ks_65 k_1_1 k_5_185) rfl rfl rfl (by decide +kernel) ⟨Nat.le_of_ble_eq_true rfl, Nat.le_of_ble_eq_true rfl⟩) (zPV X hZ hS (ci := 12) g1.1 g1.2 (r := (RX12, TX12, 10)) rfl [.int (iI l1)]) rfl rfl hl.1 rfl (lv_room (Nat.le_of_ble_eq_true rfl)) d_1_30_2 ⟨hk0.1, hk0.2⟩) hS (fun q _ h => zAin X hS q h) (zAin X hS) (fun p2 u2 t2 H2 locs2 ht2 hv2 hw2 hB2 hz2 hk2 hS2 => ?_)
  have hZ2 := zBack X ht2 hB2
  subst hw2
  refine zastore (lv' := [(0, .ref (ad 12 l0 0)), (1, .int (iI l1)), (2, .int (iI l2)), (3, .int (iI l3))]) hx hb d_1_30_5 hl (by decide) (fun _ _ => rfl) (fun ls hl => ?_)
  refine zaload hx hb d_1_30_7 (lv_at hl 0 rfl) ?_
  refine zifnull (tgt := 28) hx hb d_1_30_9 (by decide) (fun h3 => ?_) (fun h3 => ?_)
  · replace hf := gpos hf h3
    exact b_S_moment_28 X hG hf hZ2 hS2 (lv_sub hl [] rfl)
  · replace hf := gneg hf h3
    refine lv_iload_n hx hb d_1_30_12 rfl (lv_at hl 3 rfl) ?_
    obtain ⟨g4, hf⟩ := gif hf
    refine z0lt (tgt := 28) hx hb g4 d_1_30_13 (by decide) (fun h5 => ?_) (fun h5 => ?_)
    · replace hf := gpos hf h5
      exact b_S_moment_28 X hG hf hZ2 hS2 (lv_sub hl [] rfl)
    · replace hf := gneg hf h5
      refine lv_iload_n hx hb d_1_30_16 rfl (lv_at hl 3 rfl) ?_
      refine zaload hx hb d_1_30_17 (lv_at hl 0 rfl) ?_
      obtain ⟨g6, hf⟩ := gif hf
      refine W.eq (g2 := F0 m 19 ls [.ref (ad 6 r2 0), .int (iI l2)]) (by rw [zrf_pos (ad := ad) (t := 6) g6.1]; try rfl) ?_
      obtain ⟨g7, hf⟩ := gif hf
      obtain ⟨r8, F8, B8, K8, hc8, hf⟩ := gbindM hf
      have hm8 := m_S_moment_22 hf
      have hn8 := m_Piece_studyMade hc8
      have hr8 := zroomC hG.1 hn8 hm8
      refine va_callq (va_runV (As := []) (rest := [.int (iI l2)]) ⟨hx, hb, hml, hown, hts⟩ (c_Piece_studyMade (l := l) hc8) (cwV 0 hts (gdV k_5_186 k_5_187 k_5_188 k_1_15 k_5_189) rfl rfl rfl (by decide +kernel) ⟨Nat.le_of_ble_eq_true rfl, Nat.le_of_ble_eq_true rfl⟩) (zPV X hZ2 hS2 (ci := 6) g6.1 g6.2 (r := (RX6, TX6, 14)) rfl []) rfl rfl hl.1 rfl (lv_room (Nat.le_of_ble_eq_true rfl)) d_1_30_19 ⟨hr8.1, hr8.2.1⟩) hS2 (fun q _ h => zAin X hS2 q h) (zAin X hS2) (fun p8 u8 t8 H8 locs8 ht8 hv8 hw8 hB8 hz8 hk8 hS8 => ?_)
      obtain ⟨ad8, L8⟩ := u8
      obtain ⟨hw8, hg8⟩ := hw8
      subst hw8
      have hZ8 := zBackM X hS2 ht8 hB8
      refine W.widen (k := cwC K K8) (n := swC K K8) (Nat.le_of_eq hr8.2.2.1) (Nat.le_of_eq hr8.2.2.2) ?_
      have X8 := X.grow hZ8.inA
      have hG8 := hG.tr hg8
      have e8_0 : zrf ad8 6 r2 = zrf ad 6 r2 := hg8.rf2 g7
      have hl : lv_has ls 6 [(4, va_rf (zrf ad8 6 r2)), (2, .int (iI l2)), (3, .int (iI l3))] := by have h := lv_sub hl [0, 3, 4] rfl; simp only [e8_0]; exact h
      exact b_S_moment_22 X8 hG8 hf hZ8 hS8 (lv_sub hl [0, 1, 2] rfl)

abbrev Q_S_fault (K : zK) (D : va_G) (ca : Nat → ClassId) (ad : Nat → Int → Nat → Nat) (r : Int) (F : zF) (B : zB) (K9 : zK) (A : Nat → Prop) : Array Value → State → Outcome → State → Prop := va_Qi (S := (Nat → Int → Nat → Nat) × List Nat) (fun p u => p = iI r ∧ zG ad K.2 u.1 K9.2) (fun u => zPo D ca u.1 lnC K9.2 u.2 F B A) A
def f_S_fault_44 (K : zK) (l2 : Int) (l3 : Int) (s0 : Int) (F : zF) (B : zB) : zOm := if 0 ≤ s0 ∧ s0 < K.2 9 then if 0 ≤ l3 ∧ l3 < 4 then if 0 ≤ l2 ∧ l2 < 300 then some (B 9 s0 (260 + l3.toNat) l2, F, B, K) else none else none else none
theorem m_S_fault_44 {K : zK} {l2 : Int} {l3 : Int} {s0 : Int} {F : zF} {B : zB} {r : Int} {F9 : zF} {B9 : zB} {K9 : zK} (hf : f_S_fault_44 K l2 l3 s0 F B = some (r, F9, B9, K9)) : zKle K K9 := by
  replace hf : (if 0 ≤ s0 ∧ s0 < K.2 9 then if 0 ≤ l3 ∧ l3 < 4 then if 0 ≤ l2 ∧ l2 < 300 then some (B 9 s0 (260 + l3.toNat) l2, F, B, K) else none else none else none) = some (r, F9, B9, K9) := hf
  obtain ⟨g18, hf⟩ := gif hf
  obtain ⟨g19, hf⟩ := gif hf
  obtain ⟨g20, hf⟩ := gif hf
  cases hf
  exact zKle.rf

set_option maxHeartbeats 4000000 in
set_option maxRecDepth 100000 in
theorem b_S_fault_44 {D : va_G} {ca : Nat → ClassId} {ad0 : Nat → Int → Nat → Nat} {aS vS : Nat → Nat} {A : Nat → Prop} {p : Program} {l : Launch} {e : Env} {s : State} {m : MethodId} {args : Array Value} {below : List Frame} {meth : Method} {c : Code} {K0 : zK} {r : Int} {F9 : zF} {B9 : zB} {K9 : zK} {K : zK} {l2 : Int} {l3 : Int} {s0 : Int} {F : zF} {B : zB} {ad : Nat → Int → Nat → Nat} {L : List Nat} {H : Heap} {locs : List Loc} {ls : Array Slot} : zX D ca L aS vS A p s m args meth c prog_1_method_31_code 5 (Option.some Jvm.ClassFile.FieldType.int) "StaveHouse" → zG ad0 K0.2 ad K.2 → f_S_fault_44 K l2 l3 s0 F B = some (r, F9, B9, K9) → zH D ca ad lnC K.2 L F B A H → va_S A s.heap H locs → lv_has ls 5 [(2, .int (iI l2)), (3, .int (iI l3))] → W p l e ({ frames := 7, cells := cwC K0 K9, slots := swC K0 K9, locals := 152 } : Room) s m args below meth c H locs (cwC K0 K) (swC K0 K) (MQ below (Q_S_fault K0 D ca ad0 r F9 B9 K9 A) args s (cwC K0 K9) (swC K0 K9) A) (F0 m 44 ls [va_rf (zrf ad 9 s0)]) := by
  intro X hG hf hZ hS hl
  obtain ⟨hx, hb, hr, hml, hown, hts, hlk, hK, hA, hL, hX⟩ := id X
  have hk0 := zroom0 (K0 := K0) (m_S_fault_44 hf)
  replace hf : (if 0 ≤ s0 ∧ s0 < K.2 9 then if 0 ≤ l3 ∧ l3 < 4 then if 0 ≤ l2 ∧ l2 < 300 then some (B 9 s0 (260 + l3.toNat) l2, F, B, K) else none else none else none) = some (r, F9, B9, K9) := hf
  obtain ⟨g18, hf⟩ := gif hf
  refine zunrf g18.1 ?_
  refine zget (ci := 9) (C := RX9) (T := TX9) (v := .ref (ad 9 s0 (3 + 1))) (k := 3) hx hb hts inW_9 hown hK hZ g18.1 g18.2 rfl (by decide) k_5_204 rfl d_1_31_44 ?_
  refine lv_iload_n hx hb d_1_31_47 rfl (lv_at hl 1 rfl) ?_
  obtain ⟨g19, hf⟩ := gif hf
  refine zaldQ (t := 0) (ci := 9) (k := 3) hx hb hK rfl hZ g18.1 g18.2 rfl (Nat.le_of_ble_eq_true rfl) g19.1 g19.2 d_1_31_48 ?_
  refine W.eq (g2 := F0 m 49 ls [.ref (ad 9 s0 (260 + l3.toNat + 1))]) rfl ?_
  refine lv_iload_n hx hb d_1_31_49 rfl (lv_at hl 0 rfl) ?_
  obtain ⟨g20, hf⟩ := gif hf
  refine zald (ci := 9) (k := (260 + l3.toNat)) hx hb hK rfl hZ g18.1 g18.2 (zkq (c := 9) (b := 260) (n := 4) (t := 0) (by decide) g19.1 g19.2) (lnq_le (c := 9) (b := 260) (n := 4) (m := 300) (by decide) (by decide) (by decide) g19.1 g19.2) g20.1 (lnq_lt (c := 9) (b := 260) (n := 4) (m := 300) (by decide) (by decide) g19.1 g19.2 g20.2) d_1_31_50 ?_
  cases hf
  exact W.iret hx hb hr (fun t ht hW => ⟨⟨_, (ad, L), rfl, ⟨rfl, hG⟩, by rw [ht]; exact hZ, va_K.moved hW.alike hK⟩, hS.F ht⟩) hS.2.2 d_1_31_51 hlk

def f_S_fault_37 (K : zK)  (F : zF) (B : zB) : zOm := some ((-1), F, B, K)
theorem m_S_fault_37 {K : zK}  {F : zF} {B : zB} {r : Int} {F9 : zF} {B9 : zB} {K9 : zK} (hf : f_S_fault_37 K  F B = some (r, F9, B9, K9)) : zKle K K9 := by
  replace hf : (some ((-1), F, B, K)) = some (r, F9, B9, K9) := hf
  cases hf
  exact zKle.rf

set_option maxHeartbeats 4000000 in
set_option maxRecDepth 100000 in
theorem b_S_fault_37 {D : va_G} {ca : Nat → ClassId} {ad0 : Nat → Int → Nat → Nat} {aS vS : Nat → Nat} {A : Nat → Prop} {p : Program} {l : Launch} {e : Env} {s : State} {m : MethodId} {args : Array Value} {below : List Frame} {meth : Method} {c : Code} {K0 : zK} {r : Int} {F9 : zF} {B9 : zB} {K9 : zK} {K : zK}  {F : zF} {B : zB} {ad : Nat → Int → Nat → Nat} {L : List Nat} {H : Heap} {locs : List Loc} {ls : Array Slot} : zX D ca L aS vS A p s m args meth c prog_1_method_31_code 5 (Option.some Jvm.ClassFile.FieldType.int) "StaveHouse" → zG ad0 K0.2 ad K.2 → f_S_fault_37 K  F B = some (r, F9, B9, K9) → zH D ca ad lnC K.2 L F B A H → va_S A s.heap H locs → lv_has ls 5 [] → W p l e ({ frames := 7, cells := cwC K0 K9, slots := swC K0 K9, locals := 152 } : Room) s m args below meth c H locs (cwC K0 K) (swC K0 K) (MQ below (Q_S_fault K0 D ca ad0 r F9 B9 K9 A) args s (cwC K0 K9) (swC K0 K9) A) (F0 m 37 ls []) := by
  intro X hG hf hZ hS hl
  obtain ⟨hx, hb, hr, hml, hown, hts, hlk, hK, hA, hL, hX⟩ := id X
  have hk0 := zroom0 (K0 := K0) (m_S_fault_37 hf)
  replace hf : (some ((-1), F, B, K)) = some (r, F9, B9, K9) := hf
  refine lv_iconst (v := iI (-1)) hx hb d_1_31_37 rfl ?_
  cases hf
  exact W.iret hx hb hr (fun t ht hW => ⟨⟨_, (ad, L), rfl, ⟨rfl, hG⟩, by rw [ht]; exact hZ, va_K.moved hW.alike hK⟩, hS.F ht⟩) hS.2.2 d_1_31_38 hlk

def f_S_fault_31 (K : zK) (l4 : Int) (l2 : Int) (l3 : Int) (s0 : Int) (s1 : Int) (F : zF) (B : zB) : zOm := if 0 ≤ s1 ∧ s1 < K.2 9 then if r32 s0 then if r32 (F 9 s1 2) then (if s0 < (F 9 s1 2) then if 0 ≤ l4 ∧ l4 < K.2 6 then zbindM (f_Piece_studyMade K l4 F B) (fun r17 F17 B17 K17 => f_S_fault_44 K17 l2 l3 r17 F17 B17) else none else f_S_fault_37 K F B) else none else none else none
theorem m_S_fault_31 {K : zK} {l4 : Int} {l2 : Int} {l3 : Int} {s0 : Int} {s1 : Int} {F : zF} {B : zB} {r : Int} {F9 : zF} {B9 : zB} {K9 : zK} (hf : f_S_fault_31 K l4 l2 l3 s0 s1 F B = some (r, F9, B9, K9)) : zKle K K9 := by
  replace hf : (if 0 ≤ s1 ∧ s1 < K.2 9 then if r32 s0 then if r32 (F 9 s1 2) then (if s0 < (F 9 s1 2) then if 0 ≤ l4 ∧ l4 < K.2 6 then zbindM (f_Piece_studyMade K l4 F B) (fun r17 F17 B17 K17 => f_S_fault_44 K17 l2 l3 r17 F17 B17) else none else f_S_fault_37 K F B) else none else none else none) = some (r, F9, B9, K9) := hf
  obtain ⟨g12, hf⟩ := gif hf
  obtain ⟨g13, hf⟩ := gif hf
  obtain ⟨g14, hf⟩ := gif hf
  refine (Classical.em (s0 < (F 9 s1 2))).elim (fun h15 => ?_) (fun h15 => ?_)
  · replace hf := gpos hf h15
    obtain ⟨g16, hf⟩ := gif hf
    obtain ⟨r17, F17, B17, K17, hc17, hf⟩ := gbindM hf
    exact (m_Piece_studyMade hc17).tr (m_S_fault_44 hf)
  · replace hf := gneg hf h15
    exact m_S_fault_37 hf

set_option maxHeartbeats 4000000 in
set_option maxRecDepth 100000 in
theorem b_S_fault_31 {D : va_G} {ca : Nat → ClassId} {ad0 : Nat → Int → Nat → Nat} {aS vS : Nat → Nat} {A : Nat → Prop} {p : Program} {l : Launch} {e : Env} {s : State} {m : MethodId} {args : Array Value} {below : List Frame} {meth : Method} {c : Code} {K0 : zK} {r : Int} {F9 : zF} {B9 : zB} {K9 : zK} {K : zK} {l4 : Int} {l2 : Int} {l3 : Int} {s0 : Int} {s1 : Int} {F : zF} {B : zB} {ad : Nat → Int → Nat → Nat} {L : List Nat} {H : Heap} {locs : List Loc} {ls : Array Slot} : zX D ca L aS vS A p s m args meth c prog_1_method_31_code 5 (Option.some Jvm.ClassFile.FieldType.int) "StaveHouse" → zG ad0 K0.2 ad K.2 → f_S_fault_31 K l4 l2 l3 s0 s1 F B = some (r, F9, B9, K9) → zH D ca ad lnC K.2 L F B A H → va_S A s.heap H locs → lv_has ls 5 [(4, va_rf (zrf ad 6 l4)), (2, .int (iI l2)), (3, .int (iI l3))] → W p l e ({ frames := 7, cells := cwC K0 K9, slots := swC K0 K9, locals := 152 } : Room) s m args below meth c H locs (cwC K0 K) (swC K0 K) (MQ below (Q_S_fault K0 D ca ad0 r F9 B9 K9 A) args s (cwC K0 K9) (swC K0 K9) A) (F0 m 31 ls [va_rf (zrf ad 9 s1), .int (iI s0)]) := by
  intro X hG hf hZ hS hl
  obtain ⟨hx, hb, hr, hml, hown, hts, hlk, hK, hA, hL, hX⟩ := id X
  have hk0 := zroom0 (K0 := K0) (m_S_fault_31 hf)
  replace hf : (if 0 ≤ s1 ∧ s1 < K.2 9 then if r32 s0 then if r32 (F 9 s1 2) then (if s0 < (F 9 s1 2) then if 0 ≤ l4 ∧ l4 < K.2 6 then zbindM (f_Piece_studyMade K l4 F B) (fun r17 F17 B17 K17 => f_S_fault_44 K17 l2 l3 r17 F17 B17) else none else f_S_fault_37 K F B) else none else none else none) = some (r, F9, B9, K9) := hf
  obtain ⟨g12, hf⟩ := gif hf
  refine zunrf g12.1 ?_
  refine zget (ci := 9) (C := RX9) (T := TX9) (v := .int (iI (F 9 s1 2))) (k := 2) hx hb hts inW_9 hown hK hZ g12.1 g12.2 rfl (by decide) k_5_202 rfl d_1_31_31 ?_
  obtain ⟨g13, hf⟩ := gif hf
  obtain ⟨g14, hf⟩ := gif hf
  refine zlt (tgt := 39) hx hb g13 g14 d_1_31_34 (by decide) (fun h15 => ?_) (fun h15 => ?_)
  · replace hf := gpos hf h15
    refine zaload hx hb d_1_31_39 (lv_at hl 0 rfl) ?_
    obtain ⟨g16, hf⟩ := gif hf
    refine W.eq (g2 := F0 m 41 ls [.ref (ad 6 l4 0)]) (by rw [zrf_pos (ad := ad) (t := 6) g16.1]; try rfl) ?_
    obtain ⟨r17, F17, B17, K17, hc17, hf⟩ := gbindM hf
    have hm17 := m_S_fault_44 hf
    have hn17 := m_Piece_studyMade hc17
    have hr17 := zroomC hG.1 hn17 hm17
    refine va_callq (va_runV (As := []) (rest := []) ⟨hx, hb, hml, hown, hts⟩ (c_Piece_studyMade (l := l) hc17) (cwV 0 hts (gdV k_5_186 k_5_187 k_5_188 k_1_15 k_5_189) rfl rfl rfl (by decide +kernel) ⟨Nat.le_of_ble_eq_true rfl, Nat.le_of_ble_eq_true rfl⟩) (zPV X hZ hS (ci := 6) g16.1 g16.2 (r := (RX6, TX6, 14)) rfl []) rfl rfl hl.1 rfl (lv_room (Nat.le_of_ble_eq_true rfl)) d_1_31_41 ⟨hr17.1, hr17.2.1⟩) hS (fun q _ h => zAin X hS q h) (zAin X hS) (fun p17 u17 t17 H17 locs17 ht17 hv17 hw17 hB17 hz17 hk17 hS17 => ?_)
    obtain ⟨ad17, L17⟩ := u17
    obtain ⟨hw17, hg17⟩ := hw17
    subst hw17
    have hZ17 := zBackM X hS ht17 hB17
    refine W.widen (k := cwC K0 K17) (n := swC K0 K17) (Nat.le_of_eq hr17.2.2.1) (Nat.le_of_eq hr17.2.2.2) ?_
    have X17 := X.grow hZ17.inA
    have hG17 := hG.tr hg17
    have hl : lv_has ls 5 [(2, .int (iI l2)), (3, .int (iI l3))] := lv_sub hl [1, 2] rfl
    exact b_S_fault_44 X17 hG17 hf hZ17 hS17 (lv_sub hl [0, 1] rfl)
  · replace hf := gneg hf h15
    exact b_S_fault_37 X hG hf hZ hS (lv_sub hl [] rfl)

def f_S_fault (K : zK) (l0 : Int) (l1 : Int) (l2 : Int) (l3 : Int) (F : zF) (B : zB) : zOm := if 0 ≤ l0 ∧ l0 < K.2 12 then zbindN (f_S_pieceAt K l0 l1 F B) (fun r2 F2 B2 => (if r2 < 0 then f_S_fault_37 K F2 B2 else if r32 l3 then (if l3 < 0 then f_S_fault_37 K F2 B2 else (if 4 ≤ l3 then f_S_fault_37 K F2 B2 else if r32 l2 then (if l2 < 0 then f_S_fault_37 K F2 B2 else if 0 ≤ r2 ∧ r2 < K.2 6 then if r2 < K.2 6 then zbindM (f_Piece_studyMade K r2 F2 B2) (fun r11 F11 B11 K11 => f_S_fault_31 K11 r2 l2 l3 l2 r11 F11 B11) else none else none) else none)) else none)) else none
theorem m_S_fault {K : zK} {l0 : Int} {l1 : Int} {l2 : Int} {l3 : Int} {F : zF} {B : zB} {r : Int} {F9 : zF} {B9 : zB} {K9 : zK} (hf : f_S_fault K l0 l1 l2 l3 F B = some (r, F9, B9, K9)) : zKle K K9 := by
  replace hf : (if 0 ≤ l0 ∧ l0 < K.2 12 then zbindN (f_S_pieceAt K l0 l1 F B) (fun r2 F2 B2 => (if r2 < 0 then f_S_fault_37 K F2 B2 else if r32 l3 then (if l3 < 0 then f_S_fault_37 K F2 B2 else (if 4 ≤ l3 then f_S_fault_37 K F2 B2 else if r32 l2 then (if l2 < 0 then f_S_fault_37 K F2 B2 else if 0 ≤ r2 ∧ r2 < K.2 6 then if r2 < K.2 6 then zbindM (f_Piece_studyMade K r2 F2 B2) (fun r11 F11 B11 K11 => f_S_fault_31 K11 r2 l2 l3 l2 r11 F11 B11) else none else none) else none)) else none)) else none) = some (r, F9, B9, K9) := hf
  obtain ⟨g1, hf⟩ := gif hf
  obtain ⟨r2, F2, B2, hc2, hf⟩ := gbindN hf
  refine (Classical.em (r2 < 0)).elim (fun h3 => ?_) (fun h3 => ?_)
  · replace hf := gpos hf h3
    exact m_S_fault_37 hf
  · replace hf := gneg hf h3
    obtain ⟨g4, hf⟩ := gif hf
    refine (Classical.em (l3 < 0)).elim (fun h5 => ?_) (fun h5 => ?_)
    · replace hf := gpos hf h5
      exact m_S_fault_37 hf
    · replace hf := gneg hf h5
      refine (Classical.em (4 ≤ l3)).elim (fun h6 => ?_) (fun h6 => ?_)
      · replace hf := gpos hf h6
        exact m_S_fault_37 hf
      · replace hf := gneg hf h6
        obtain ⟨g7, hf⟩ := gif hf
        refine (Classical.em (l2 < 0)).elim (fun h8 => ?_) (fun h8 => ?_)
        · replace hf := gpos hf h8
          exact m_S_fault_37 hf
        · replace hf := gneg hf h8
          obtain ⟨g9, hf⟩ := gif hf
          obtain ⟨g10, hf⟩ := gif hf
          obtain ⟨r11, F11, B11, K11, hc11, hf⟩ := gbindM hf
          exact (m_Piece_studyMade hc11).tr (m_S_fault_31 hf)

set_option maxHeartbeats 4000000 in
set_option maxRecDepth 100000 in
theorem c_S_fault {l : Launch} {D : va_G} {ca : Nat → ClassId} {ad : Nat → Int → Nat → Nat} {L : List Nat} {aS vS : Nat → Nat} {sz : Nat} {K : zK} {l0 : Int} {l1 : Int} {l2 : Int} {l3 : Int} {F : zF} {B : zB} {r : Int} {F9 : zF} {B9 : zB} {K9 : zK} (hf : f_S_fault K l0 l1 l2 l3 F B = some (r, F9, B9, K9)) : Met l ({ cls := "StaveHouse", name := "fault", desc := "(III)I" } : Jvm.MethodName) (Cond.code ({ cls := "StaveHouse", name := "fault", desc := "(III)I" } : Jvm.MethodName) prog_1_method_31_code 5 (Option.some Jvm.ClassFile.FieldType.int) :: wAll) ({ frames := 7, cells := cwC K K9, slots := swC K K9, locals := 152 } : Room) (va_Pc [.ref (ad 12 l0 0), .int (iI l1), .int (iI l2), .int (iI l3)] (zPre D ca ad lnC K.2 L aS vS F B sz)) (Q_S_fault K D ca ad r F9 B9 K9 (zA L sz)) (cwC K K9) (swC K K9) (zA L sz) := by
  refine zMet (Qc := Q_S_fault K D ca ad r F9 B9 K9) (lv := [(0, .ref (ad 12 l0 0)), (1, .int (iI l1)), (2, .int (iI l2)), (3, .int (iI l3))]) (by decide) (Nat.le_of_ble_eq_true rfl) rfl (fun A p e s m below meth c ls X hZ hS hl => ?_)
  obtain ⟨hx, hb, hr, hml, hown, hts, hlk, hK, hA, hL, hX⟩ := id X
  have hG : zG ad K.2 ad K.2 := zG.rf
  refine W.widen (k := cwC K K) (n := swC K K) (Nat.zero_le _) (Nat.zero_le _) ?_
  have hk0 := zroom0 (K0 := K) (m_S_fault hf)
  replace hf : (if 0 ≤ l0 ∧ l0 < K.2 12 then zbindN (f_S_pieceAt K l0 l1 F B) (fun r2 F2 B2 => (if r2 < 0 then f_S_fault_37 K F2 B2 else if r32 l3 then (if l3 < 0 then f_S_fault_37 K F2 B2 else (if 4 ≤ l3 then f_S_fault_37 K F2 B2 else if r32 l2 then (if l2 < 0 then f_S_fault_37 K F2 B2 else if 0 ≤ r2 ∧ r2 < K.2 6 then if r2 < K.2 6 then zbindM (f_Piece_studyMade K r2 F2 B2) (fun r11 F11 B11 K11 => f_S_fault_31 K11 r2 l2 l3 l2 r11 F11 B11) else none else none) else none)) else none)) else none) = some (r, F9, B9, K9) := hf
  refine lv_aload_n hx hb d_1_31_0 rfl (lv_at hl 0 rfl) ?_
  refine lv_iload_n hx hb d_1_31_1 rfl (lv_at hl 1 rfl) ?_
  obtain ⟨g1, hf⟩ := gif hf
  obtain ⟨r2, F2, B2, hc2, hf⟩ := gbindN hf
  refine va_callq (va_runV (As := [.int (iI l1)]) (rest := []) ⟨hx, hb, hml, hown, hts⟩ (c_S_pieceAt (l := l) hc2) (cwV 1 hts (gdV k_5_182 k_5_184 ks_65 k_1_1 k_5_185) rfl rfl rfl (by decide +kernel) ⟨Nat.le_of_ble_eq_true rfl, Nat.le_of_ble_eq_true rfl⟩) (zPV X hZ hS (ci := 12) g1.1 g1.2 (r := (RX12, TX12, 10)) rfl [.int (iI l1)]) rfl rfl hl.1 rfl (lv_room (Nat.le_of_ble_eq_true rfl)) d_1_31_2 ⟨hk0.1, hk0.2⟩) hS (fun q _ h => zAin X hS q h) (zAin X hS) (fun p2 u2 t2 H2 locs2 ht2 hv2 hw2 hB2 hz2 hk2 hS2 => ?_)
  have hZ2 := zBack X ht2 hB2
  subst hw2
  refine zastore (lv' := [(0, .ref (ad 12 l0 0)), (1, .int (iI l1)), (2, .int (iI l2)), (3, .int (iI l3))]) hx hb d_1_31_5 hl (by decide) (fun _ _ => rfl) (fun ls hl => ?_)
  refine zaload hx hb d_1_31_7 (lv_at hl 0 rfl) ?_
  refine zifnull (tgt := 37) hx hb d_1_31_9 (by decide) (fun h3 => ?_) (fun h3 => ?_)
  · replace hf := gpos hf h3
    exact b_S_fault_37 X hG hf hZ2 hS2 (lv_sub hl [] rfl)
  · replace hf := gneg hf h3
    refine lv_iload_n hx hb d_1_31_12 rfl (lv_at hl 4 rfl) ?_
    obtain ⟨g4, hf⟩ := gif hf
    refine z0lt (tgt := 37) hx hb g4 d_1_31_13 (by decide) (fun h5 => ?_) (fun h5 => ?_)
    · replace hf := gpos hf h5
      exact b_S_fault_37 X hG hf hZ2 hS2 (lv_sub hl [] rfl)
    · replace hf := gneg hf h5
      refine lv_iload_n hx hb d_1_31_16 rfl (lv_at hl 4 rfl) ?_
      refine lv_iconst (v := iI 4) hx hb d_1_31_17 rfl ?_
      refine zge (tgt := 37) hx hb g4 (by decide) d_1_31_18 (by decide) (fun h6 => ?_) (fun h6 => ?_)
      · replace hf := gpos hf h6
        exact b_S_fault_37 X hG hf hZ2 hS2 (lv_sub hl [] rfl)
      · replace hf := gneg hf h6
        refine lv_iload_n hx hb d_1_31_21 rfl (lv_at hl 3 rfl) ?_
        obtain ⟨g7, hf⟩ := gif hf
        refine z0lt (tgt := 37) hx hb g7 d_1_31_22 (by decide) (fun h8 => ?_) (fun h8 => ?_)
        · replace hf := gpos hf h8
          exact b_S_fault_37 X hG hf hZ2 hS2 (lv_sub hl [] rfl)
        · replace hf := gneg hf h8
          refine lv_iload_n hx hb d_1_31_25 rfl (lv_at hl 3 rfl) ?_
          refine zaload hx hb d_1_31_26 (lv_at hl 0 rfl) ?_
          obtain ⟨g9, hf⟩ := gif hf
          refine W.eq (g2 := F0 m 28 ls [.ref (ad 6 r2 0), .int (iI l2)]) (by rw [zrf_pos (ad := ad) (t := 6) g9.1]; try rfl) ?_
          obtain ⟨g10, hf⟩ := gif hf
          obtain ⟨r11, F11, B11, K11, hc11, hf⟩ := gbindM hf
          have hm11 := m_S_fault_31 hf
          have hn11 := m_Piece_studyMade hc11
          have hr11 := zroomC hG.1 hn11 hm11
          refine va_callq (va_runV (As := []) (rest := [.int (iI l2)]) ⟨hx, hb, hml, hown, hts⟩ (c_Piece_studyMade (l := l) hc11) (cwV 0 hts (gdV k_5_186 k_5_187 k_5_188 k_1_15 k_5_189) rfl rfl rfl (by decide +kernel) ⟨Nat.le_of_ble_eq_true rfl, Nat.le_of_ble_eq_true rfl⟩) (zPV X hZ2 hS2 (ci := 6) g9.1 g9.2 (r := (RX6, TX6, 14)) rfl []) rfl rfl hl.1 rfl (lv_room (Nat.le_of_ble_eq_true rfl)) d_1_31_28 ⟨hr11.1, hr11.2.1⟩) hS2 (fun q _ h => zAin X hS2 q h) (zAin X hS2) (fun p11 u11 t11 H11 locs11 ht11 hv11 hw11 hB11 hz11 hk11 hS11 => ?_)
          obtain ⟨ad11, L11⟩ := u11
          obtain ⟨hw11, hg11⟩ := hw11
          subst hw11
          have hZ11 := zBackM X hS2 ht11 hB11
          refine W.widen (k := cwC K K11) (n := swC K K11) (Nat.le_of_eq hr11.2.2.1) (Nat.le_of_eq hr11.2.2.2) ?_
          have X11 := X.grow hZ11.inA
          have hG11 := hG.tr hg11
          have e11_0 : zrf ad11 6 r2 = zrf ad 6 r2 := hg11.rf2 g10
          have hl : lv_has ls 5 [(4, va_rf (zrf ad11 6 r2)), (2, .int (iI l2)), (3, .int (iI l3))] := by have h := lv_sub hl [0, 3, 4] rfl; simp only [e11_0]; exact h
          exact b_S_fault_31 X11 hG11 hf hZ11 hS11 (lv_sub hl [0, 1, 2] rfl)

abbrev Q_S_lines (K : zK) (D : va_G) (ca : Nat → ClassId) (ad : Nat → Int → Nat → Nat) (r : Int) (F : zF) (B : zB) (K9 : zK) (A : Nat → Prop) : Array Value → State → Outcome → State → Prop := va_Qi (S := (Nat → Int → Nat → Nat) × List Nat) (fun p u => p = iI r ∧ zG ad K.2 u.1 K9.2) (fun u => zPo D ca u.1 lnC K9.2 u.2 F B A) A
def f_S_lines_44 (K : zK) (l3 : Int) (l2 : Int) (F : zF) (B : zB) : zOm := if 0 ≤ l3 ∧ l3 < K.2 6 then if 0 ≤ (F 6 l3 8) ∧ (F 6 l3 8) < K.2 2 then zbindN (f_Layout_breakLines K (F 6 l3 8) l3 l2 F B) (fun r16 F16 B16 => some (r16, F16, B16, K)) else none else none
theorem m_S_lines_44 {K : zK} {l3 : Int} {l2 : Int} {F : zF} {B : zB} {r : Int} {F9 : zF} {B9 : zB} {K9 : zK} (hf : f_S_lines_44 K l3 l2 F B = some (r, F9, B9, K9)) : zKle K K9 := by
  replace hf : (if 0 ≤ l3 ∧ l3 < K.2 6 then if 0 ≤ (F 6 l3 8) ∧ (F 6 l3 8) < K.2 2 then zbindN (f_Layout_breakLines K (F 6 l3 8) l3 l2 F B) (fun r16 F16 B16 => some (r16, F16, B16, K)) else none else none) = some (r, F9, B9, K9) := hf
  obtain ⟨g14, hf⟩ := gif hf
  obtain ⟨g15, hf⟩ := gif hf
  obtain ⟨r16, F16, B16, hc16, hf⟩ := gbindN hf
  cases hf
  exact zKle.rf

set_option maxHeartbeats 4000000 in
set_option maxRecDepth 100000 in
theorem b_S_lines_44 {D : va_G} {ca : Nat → ClassId} {ad0 : Nat → Int → Nat → Nat} {aS vS : Nat → Nat} {A : Nat → Prop} {p : Program} {l : Launch} {e : Env} {s : State} {m : MethodId} {args : Array Value} {below : List Frame} {meth : Method} {c : Code} {K0 : zK} {r : Int} {F9 : zF} {B9 : zB} {K9 : zK} {K : zK} {l3 : Int} {l2 : Int} {F : zF} {B : zB} {ad : Nat → Int → Nat → Nat} {L : List Nat} {H : Heap} {locs : List Loc} {ls : Array Slot} : zX D ca L aS vS A p s m args meth c prog_1_method_16_code 4 (Option.some Jvm.ClassFile.FieldType.int) "StaveHouse" → zG ad0 K0.2 ad K.2 → f_S_lines_44 K l3 l2 F B = some (r, F9, B9, K9) → zH D ca ad lnC K.2 L F B A H → va_S A s.heap H locs → lv_has ls 4 [(3, va_rf (zrf ad 6 l3)), (2, .int (iI l2))] → W p l e ({ frames := 5, cells := cwC K0 K9, slots := swC K0 K9, locals := 126 } : Room) s m args below meth c H locs (cwC K0 K) (swC K0 K) (MQ below (Q_S_lines K0 D ca ad0 r F9 B9 K9 A) args s (cwC K0 K9) (swC K0 K9) A) (F0 m 44 ls []) := by
  intro X hG hf hZ hS hl
  obtain ⟨hx, hb, hr, hml, hown, hts, hlk, hK, hA, hL, hX⟩ := id X
  have hk0 := zroom0 (K0 := K0) (m_S_lines_44 hf)
  replace hf : (if 0 ≤ l3 ∧ l3 < K.2 6 then if 0 ≤ (F 6 l3 8) ∧ (F 6 l3 8) < K.2 2 then zbindN (f_Layout_breakLines K (F 6 l3 8) l3 l2 F B) (fun r16 F16 B16 => some (r16, F16, B16, K)) else none else none) = some (r, F9, B9, K9) := hf
  refine zaload_n hx hb d_1_16_44 rfl (lv_at hl 0 rfl) ?_
  obtain ⟨g14, hf⟩ := gif hf
  refine zunrf g14.1 ?_
  refine zget (ci := 6) (C := RX6) (T := TX6) (v := va_rf (zrf ad 2 (F 6 l3 8))) (k := 8) hx hb hts inW_6 hown hK hZ g14.1 g14.2 rfl (by decide) k_2_225 rfl d_1_16_45 ?_
  refine zaload_n hx hb d_1_16_48 rfl (lv_at hl 0 rfl) ?_
  refine lv_iload_n hx hb d_1_16_49 rfl (lv_at hl 1 rfl) ?_
  obtain ⟨g15, hf⟩ := gif hf
  refine W.eq (g2 := F0 m 50 ls [.int (iI l2), va_rf (zrf ad 6 l3), .ref (ad 2 (F 6 l3 8) 0)]) (by rw [zrf_pos (ad := ad) (t := 2) g15.1]; try rfl) ?_
  refine W.eq (g2 := F0 m 50 ls [.int (iI l2), .ref (ad 6 l3 0), .ref (ad 2 (F 6 l3 8) 0)]) (by rw [zrf_pos (ad := ad) (t := 6) g14.1]; try rfl) ?_
  obtain ⟨r16, F16, B16, hc16, hf⟩ := gbindN hf
  refine va_calli (va_runV (As := [.ref (ad 6 l3 0), .int (iI l2)]) (rest := []) ⟨hx, hb, hml, hown, hts⟩ (c_Layout_breakLines (l := l) hc16) (cwV 2 hts (gdV k_7_17 k_7_18 k_7_19 k_1_21 k_7_20) rfl rfl rfl (by decide +kernel) ⟨Nat.le_of_ble_eq_true rfl, Nat.le_of_ble_eq_true rfl⟩) (zPV X hZ hS (ci := 2) g15.1 g15.2 (r := (RX2, TX2, 13)) rfl [.ref (ad 6 l3 0), .int (iI l2)]) rfl rfl hl.1 rfl (lv_room (Nat.le_of_ble_eq_true rfl)) d_1_16_50 ⟨hk0.1, hk0.2⟩) hS (fun q _ h => zAin X hS q h) (zAin X hS) (fun p16 u16 t16 H16 locs16 ht16 hv16 hw16 hB16 hz16 hk16 hS16 => ?_)
  have hZ16 := zBack X ht16 hB16
  subst hw16
  cases hf
  exact W.iret hx hb hr (fun t ht hW => ⟨⟨_, (ad, L), rfl, ⟨rfl, hG⟩, by rw [ht]; exact hZ16, va_K.moved hW.alike hK⟩, hS16.F ht⟩) hS16.2.2 d_1_16_53 hlk

def f_S_lines_41 (K : zK) (l3 : Int) (l2 : Int) (s0 : Int) (s1 : Int) (F : zF) (B : zB) : zOm := if 0 ≤ s0 ∧ s0 < K.2 6 then if s1 < K.2 2 then f_S_lines_44 K l3 l2 (zup3 F 6 s0 8 s1) B else none else none
theorem m_S_lines_41 {K : zK} {l3 : Int} {l2 : Int} {s0 : Int} {s1 : Int} {F : zF} {B : zB} {r : Int} {F9 : zF} {B9 : zB} {K9 : zK} (hf : f_S_lines_41 K l3 l2 s0 s1 F B = some (r, F9, B9, K9)) : zKle K K9 := by
  replace hf : (if 0 ≤ s0 ∧ s0 < K.2 6 then if s1 < K.2 2 then f_S_lines_44 K l3 l2 (zup3 F 6 s0 8 s1) B else none else none) = some (r, F9, B9, K9) := hf
  obtain ⟨g11, hf⟩ := gif hf
  obtain ⟨g13, hf⟩ := gif hf
  exact m_S_lines_44 hf

set_option maxHeartbeats 4000000 in
set_option maxRecDepth 100000 in
theorem b_S_lines_41 {D : va_G} {ca : Nat → ClassId} {ad0 : Nat → Int → Nat → Nat} {aS vS : Nat → Nat} {A : Nat → Prop} {p : Program} {l : Launch} {e : Env} {s : State} {m : MethodId} {args : Array Value} {below : List Frame} {meth : Method} {c : Code} {K0 : zK} {r : Int} {F9 : zF} {B9 : zB} {K9 : zK} {K : zK} {l3 : Int} {l2 : Int} {s0 : Int} {s1 : Int} {F : zF} {B : zB} {ad : Nat → Int → Nat → Nat} {L : List Nat} {H : Heap} {locs : List Loc} {ls : Array Slot} : zX D ca L aS vS A p s m args meth c prog_1_method_16_code 4 (Option.some Jvm.ClassFile.FieldType.int) "StaveHouse" → zG ad0 K0.2 ad K.2 → f_S_lines_41 K l3 l2 s0 s1 F B = some (r, F9, B9, K9) → zH D ca ad lnC K.2 L F B A H → va_S A s.heap H locs → lv_has ls 4 [(3, va_rf (zrf ad 6 l3)), (2, .int (iI l2))] → W p l e ({ frames := 5, cells := cwC K0 K9, slots := swC K0 K9, locals := 126 } : Room) s m args below meth c H locs (cwC K0 K) (swC K0 K) (MQ below (Q_S_lines K0 D ca ad0 r F9 B9 K9 A) args s (cwC K0 K9) (swC K0 K9) A) (F0 m 41 ls [va_rf (zrf ad 2 s1), va_rf (zrf ad 6 s0)]) := by
  intro X hG hf hZ hS hl
  obtain ⟨hx, hb, hr, hml, hown, hts, hlk, hK, hA, hL, hX⟩ := id X
  have hk0 := zroom0 (K0 := K0) (m_S_lines_41 hf)
  replace hf : (if 0 ≤ s0 ∧ s0 < K.2 6 then if s1 < K.2 2 then f_S_lines_44 K l3 l2 (zup3 F 6 s0 8 s1) B else none else none) = some (r, F9, B9, K9) := hf
  obtain ⟨g11, hf⟩ := gif hf
  refine W.eq (g2 := F0 m 41 ls [va_rf (zrf ad 2 s1), .ref (ad 6 s0 0)]) (by rw [zrf_pos (ad := ad) (t := 6) g11.1]; try rfl) ?_
  obtain ⟨g13, hf⟩ := gif hf
  refine zput (ci := 6) (C := RX6) (T := TX6) (k := 8) (v := s1) (w := va_rf (zrf ad 2 s1)) hx hb hts inW_6 tyX6 tyX6_ok nmX6 hown hK hZ hS g11.1 g11.2 rfl (by decide) k_2_225 rfl (fun G h => congrArg (fun q => va_rf (zrf ad 2 q)) h) (zrf_nar rfl _) (zrf_fit rfl _) (zyes (t0 := 2) rfl g13) d_1_16_41 (fun H12 locs12 hZ12 hS12 => ?_)
  exact b_S_lines_44 X hG hf hZ12 hS12 (lv_sub hl [0, 1] rfl)

def f_S_lines_24 (K : zK)  (F : zF) (B : zB) : zOm := some ((-1), F, B, K)
theorem m_S_lines_24 {K : zK}  {F : zF} {B : zB} {r : Int} {F9 : zF} {B9 : zB} {K9 : zK} (hf : f_S_lines_24 K  F B = some (r, F9, B9, K9)) : zKle K K9 := by
  replace hf : (some ((-1), F, B, K)) = some (r, F9, B9, K9) := hf
  cases hf
  exact zKle.rf

set_option maxHeartbeats 4000000 in
set_option maxRecDepth 100000 in
theorem b_S_lines_24 {D : va_G} {ca : Nat → ClassId} {ad0 : Nat → Int → Nat → Nat} {aS vS : Nat → Nat} {A : Nat → Prop} {p : Program} {l : Launch} {e : Env} {s : State} {m : MethodId} {args : Array Value} {below : List Frame} {meth : Method} {c : Code} {K0 : zK} {r : Int} {F9 : zF} {B9 : zB} {K9 : zK} {K : zK}  {F : zF} {B : zB} {ad : Nat → Int → Nat → Nat} {L : List Nat} {H : Heap} {locs : List Loc} {ls : Array Slot} : zX D ca L aS vS A p s m args meth c prog_1_method_16_code 4 (Option.some Jvm.ClassFile.FieldType.int) "StaveHouse" → zG ad0 K0.2 ad K.2 → f_S_lines_24 K  F B = some (r, F9, B9, K9) → zH D ca ad lnC K.2 L F B A H → va_S A s.heap H locs → lv_has ls 4 [] → W p l e ({ frames := 5, cells := cwC K0 K9, slots := swC K0 K9, locals := 126 } : Room) s m args below meth c H locs (cwC K0 K) (swC K0 K) (MQ below (Q_S_lines K0 D ca ad0 r F9 B9 K9 A) args s (cwC K0 K9) (swC K0 K9) A) (F0 m 24 ls []) := by
  intro X hG hf hZ hS hl
  obtain ⟨hx, hb, hr, hml, hown, hts, hlk, hK, hA, hL, hX⟩ := id X
  have hk0 := zroom0 (K0 := K0) (m_S_lines_24 hf)
  replace hf : (some ((-1), F, B, K)) = some (r, F9, B9, K9) := hf
  refine lv_iconst (v := iI (-1)) hx hb d_1_16_24 rfl ?_
  cases hf
  exact W.iret hx hb hr (fun t ht hW => ⟨⟨_, (ad, L), rfl, ⟨rfl, hG⟩, by rw [ht]; exact hZ, va_K.moved hW.alike hK⟩, hS.F ht⟩) hS.2.2 d_1_16_25 hlk

def f_S_lines (K : zK) (l0 : Int) (l1 : Int) (l2 : Int) (F : zF) (B : zB) : zOm := if 0 ≤ l0 ∧ l0 < K.2 12 then zbindN (f_S_pieceAt K l0 l1 F B) (fun r2 F2 B2 => (if r2 < 0 then f_S_lines_24 K F2 B2 else if r32 l2 then (if l2 < 200 then f_S_lines_24 K F2 B2 else (if l2 ≤ 2000 then if 0 ≤ r2 ∧ r2 < K.2 6 then (if (F2 6 r2 8) < 0 then if r2 < K.2 6 then zbindM (f_Layout_init K F2 B2) (fun r10 F10 B10 K10 => if 0 ≤ r10 ∧ r10 < K10.2 2 then if 0 ≤ r2 ∧ r2 < K10.2 6 then f_S_lines_41 K10 r2 l2 r2 r10 F10 B10 else none else none) else none else f_S_lines_44 K r2 l2 F2 B2) else none else f_S_lines_24 K F2 B2)) else none)) else none
theorem m_S_lines {K : zK} {l0 : Int} {l1 : Int} {l2 : Int} {F : zF} {B : zB} {r : Int} {F9 : zF} {B9 : zB} {K9 : zK} (hf : f_S_lines K l0 l1 l2 F B = some (r, F9, B9, K9)) : zKle K K9 := by
  replace hf : (if 0 ≤ l0 ∧ l0 < K.2 12 then zbindN (f_S_pieceAt K l0 l1 F B) (fun r2 F2 B2 => (if r2 < 0 then f_S_lines_24 K F2 B2 else if r32 l2 then (if l2 < 200 then f_S_lines_24 K F2 B2 else (if l2 ≤ 2000 then if 0 ≤ r2 ∧ r2 < K.2 6 then (if (F2 6 r2 8) < 0 then if r2 < K.2 6 then zbindM (f_Layout_init K F2 B2) (fun r10 F10 B10 K10 => if 0 ≤ r10 ∧ r10 < K10.2 2 then if 0 ≤ r2 ∧ r2 < K10.2 6 then f_S_lines_41 K10 r2 l2 r2 r10 F10 B10 else none else none) else none else f_S_lines_44 K r2 l2 F2 B2) else none else f_S_lines_24 K F2 B2)) else none)) else none) = some (r, F9, B9, K9) := hf
  obtain ⟨g1, hf⟩ := gif hf
  obtain ⟨r2, F2, B2, hc2, hf⟩ := gbindN hf
  refine (Classical.em (r2 < 0)).elim (fun h3 => ?_) (fun h3 => ?_)
  · replace hf := gpos hf h3
    exact m_S_lines_24 hf
  · replace hf := gneg hf h3
    obtain ⟨g4, hf⟩ := gif hf
    refine (Classical.em (l2 < 200)).elim (fun h5 => ?_) (fun h5 => ?_)
    · replace hf := gpos hf h5
      exact m_S_lines_24 hf
    · replace hf := gneg hf h5
      refine (Classical.em (l2 ≤ 2000)).elim (fun h6 => ?_) (fun h6 => ?_)
      · replace hf := gpos hf h6
        obtain ⟨g7, hf⟩ := gif hf
        refine (Classical.em ((F2 6 r2 8) < 0)).symm.elim (fun h8 => ?_) (fun h8 => ?_)
        · replace hf := gneg hf h8
          exact m_S_lines_44 hf
        · replace hf := gpos hf h8
          obtain ⟨g9, hf⟩ := gif hf
          obtain ⟨r10, F10, B10, K10, hc10, hf⟩ := gbindM hf
          obtain ⟨ha10, hf⟩ := gif hf
          obtain ⟨hs10_0, hf⟩ := gif hf
          exact (m_Layout_init hc10).tr (m_S_lines_41 hf)
      · replace hf := gneg hf h6
        exact m_S_lines_24 hf

set_option maxHeartbeats 4000000 in
set_option maxRecDepth 100000 in
theorem c_S_lines {l : Launch} {D : va_G} {ca : Nat → ClassId} {ad : Nat → Int → Nat → Nat} {L : List Nat} {aS vS : Nat → Nat} {sz : Nat} {K : zK} {l0 : Int} {l1 : Int} {l2 : Int} {F : zF} {B : zB} {r : Int} {F9 : zF} {B9 : zB} {K9 : zK} (hf : f_S_lines K l0 l1 l2 F B = some (r, F9, B9, K9)) : Met l ({ cls := "StaveHouse", name := "lines", desc := "(II)I" } : Jvm.MethodName) (Cond.code ({ cls := "StaveHouse", name := "lines", desc := "(II)I" } : Jvm.MethodName) prog_1_method_16_code 4 (Option.some Jvm.ClassFile.FieldType.int) :: wAll) ({ frames := 5, cells := cwC K K9, slots := swC K K9, locals := 126 } : Room) (va_Pc [.ref (ad 12 l0 0), .int (iI l1), .int (iI l2)] (zPre D ca ad lnC K.2 L aS vS F B sz)) (Q_S_lines K D ca ad r F9 B9 K9 (zA L sz)) (cwC K K9) (swC K K9) (zA L sz) := by
  refine zMet (Qc := Q_S_lines K D ca ad r F9 B9 K9) (lv := [(0, .ref (ad 12 l0 0)), (1, .int (iI l1)), (2, .int (iI l2))]) (by decide) (Nat.le_of_ble_eq_true rfl) rfl (fun A p e s m below meth c ls X hZ hS hl => ?_)
  obtain ⟨hx, hb, hr, hml, hown, hts, hlk, hK, hA, hL, hX⟩ := id X
  have hG : zG ad K.2 ad K.2 := zG.rf
  refine W.widen (k := cwC K K) (n := swC K K) (Nat.zero_le _) (Nat.zero_le _) ?_
  have hk0 := zroom0 (K0 := K) (m_S_lines hf)
  replace hf : (if 0 ≤ l0 ∧ l0 < K.2 12 then zbindN (f_S_pieceAt K l0 l1 F B) (fun r2 F2 B2 => (if r2 < 0 then f_S_lines_24 K F2 B2 else if r32 l2 then (if l2 < 200 then f_S_lines_24 K F2 B2 else (if l2 ≤ 2000 then if 0 ≤ r2 ∧ r2 < K.2 6 then (if (F2 6 r2 8) < 0 then if r2 < K.2 6 then zbindM (f_Layout_init K F2 B2) (fun r10 F10 B10 K10 => if 0 ≤ r10 ∧ r10 < K10.2 2 then if 0 ≤ r2 ∧ r2 < K10.2 6 then f_S_lines_41 K10 r2 l2 r2 r10 F10 B10 else none else none) else none else f_S_lines_44 K r2 l2 F2 B2) else none else f_S_lines_24 K F2 B2)) else none)) else none) = some (r, F9, B9, K9) := hf
  refine lv_aload_n hx hb d_1_16_0 rfl (lv_at hl 0 rfl) ?_
  refine lv_iload_n hx hb d_1_16_1 rfl (lv_at hl 1 rfl) ?_
  obtain ⟨g1, hf⟩ := gif hf
  obtain ⟨r2, F2, B2, hc2, hf⟩ := gbindN hf
  refine va_callq (va_runV (As := [.int (iI l1)]) (rest := []) ⟨hx, hb, hml, hown, hts⟩ (c_S_pieceAt (l := l) hc2) (cwV 1 hts (gdV k_5_182 k_5_184 ks_65 k_1_1 k_5_185) rfl rfl rfl (by decide +kernel) ⟨Nat.le_of_ble_eq_true rfl, Nat.le_of_ble_eq_true rfl⟩) (zPV X hZ hS (ci := 12) g1.1 g1.2 (r := (RX12, TX12, 10)) rfl [.int (iI l1)]) rfl rfl hl.1 rfl (lv_room (Nat.le_of_ble_eq_true rfl)) d_1_16_2 ⟨hk0.1, hk0.2⟩) hS (fun q _ h => zAin X hS q h) (zAin X hS) (fun p2 u2 t2 H2 locs2 ht2 hv2 hw2 hB2 hz2 hk2 hS2 => ?_)
  have hZ2 := zBack X ht2 hB2
  subst hw2
  refine zastore_n (lv' := [(0, .ref (ad 12 l0 0)), (1, .int (iI l1)), (2, .int (iI l2))]) hx hb d_1_16_5 rfl hl (by decide) (fun _ _ => rfl) (fun ls hl => ?_)
  refine zaload_n hx hb d_1_16_6 rfl (lv_at hl 0 rfl) ?_
  refine zifnull (tgt := 24) hx hb d_1_16_7 (by decide) (fun h3 => ?_) (fun h3 => ?_)
  · replace hf := gpos hf h3
    exact b_S_lines_24 X hG hf hZ2 hS2 (lv_sub hl [] rfl)
  · replace hf := gneg hf h3
    refine lv_iload_n hx hb d_1_16_10 rfl (lv_at hl 3 rfl) ?_
    refine lv_sipush (v := iI 200) hx hb d_1_16_11 (by decide) ?_
    obtain ⟨g4, hf⟩ := gif hf
    refine zlt (tgt := 24) hx hb g4 (by decide) d_1_16_14 (by decide) (fun h5 => ?_) (fun h5 => ?_)
    · replace hf := gpos hf h5
      exact b_S_lines_24 X hG hf hZ2 hS2 (lv_sub hl [] rfl)
    · replace hf := gneg hf h5
      refine lv_iload_n hx hb d_1_16_17 rfl (lv_at hl 3 rfl) ?_
      refine lv_sipush (v := iI 2000) hx hb d_1_16_18 (by decide) ?_
      refine zle (tgt := 26) hx hb g4 (by decide) d_1_16_21 (by decide) (fun h6 => ?_) (fun h6 => ?_)
      · replace hf := gpos hf h6
        refine zaload_n hx hb d_1_16_26 rfl (lv_at hl 0 rfl) ?_
        obtain ⟨g7, hf⟩ := gif hf
        refine zunrf g7.1 ?_
        refine zget (ci := 6) (C := RX6) (T := TX6) (v := va_rf (zrf ad 2 (F2 6 r2 8))) (k := 8) hx hb hts inW_6 hown hK hZ2 g7.1 g7.2 rfl (by decide) k_2_225 rfl d_1_16_27 ?_
        refine zifnonnull (tgt := 44) hx hb d_1_16_30 (by decide) (fun h8 => ?_) (fun h8 => ?_)
        · replace hf := gneg hf h8
          exact b_S_lines_44 X hG hf hZ2 hS2 (lv_sub hl [0, 3] rfl)
        · replace hf := gpos hf h8
          refine zaload_n hx hb d_1_16_33 rfl (lv_at hl 0 rfl) ?_
          refine W.eq (g2 := F0 m 34 ls [.ref (ad 6 r2 0)]) (by rw [zrf_pos (ad := ad) (t := 6) g7.1]; try rfl) ?_
          obtain ⟨g9, hf⟩ := gif hf
          obtain ⟨r10, F10, B10, K10, hc10, hf⟩ := gbindM hf
          have hw10 := w_Layout_init hc10
          obtain ⟨ha10, hf⟩ := gif hf
          obtain ⟨hs10_0, hf⟩ := gif hf
          have hm10 := m_S_lines_41 hf
          have hr10 := zroom hG.1 hw10 hm10
          refine zxnew (C := RX2) (T := TX2) (n := 13) (ci := 2) hx hb hts inW_2 tyX2 tyX2_ok hown k_6_209 k_6_210 k_1_21 hK (zHx.of hZ2) hS2 hA rfl (by have h := hr10.1; dsimp only; omega) (by have h := hr10.2.1; dsimp only; omega) d_1_16_34 (fun q10 Hn10 hZn10 hSn10 => ?_)
          refine lv_dup hx hb d_1_16_37 rfl ?_
          refine va_callv (va_runIN (As := []) (rest := .ref q10 :: [.ref (ad 6 r2 0)]) ⟨hx, hb, hml, hown, hts⟩ (c_Layout_init (l := l) hc10) ⟨va_cnB 0 hts (gdC k_6_213) rfl rfl rfl (hX.1 _ (List.mem_of_getElem? (i := 9) rfl) :) (hts _ k_1_21) (by decide +kernel) ⟨Nat.le_of_ble_eq_true rfl, Nat.le_of_ble_eq_true rfl⟩, rfl, hts _ k_6_212⟩ (zxPS (X := []) X hZn10 hSn10 [.ref q10]) rfl rfl hl.1 rfl (lv_room (Nat.le_of_ble_eq_true rfl)) d_1_16_38 ⟨by have h := hr10.1; dsimp only; omega, by have h := hr10.2.1; dsimp only; omega⟩) hSn10 (fun x _ h => zxAin (X := []) X hZn10 hSn10 x h) (zxAin (X := []) X hZn10 hSn10) (fun u10 t10 H10 locs10 ht10 hv10 hu10 hB10 hz10 hk10 hS10 => ?_)
          obtain ⟨ad10, L10⟩ := u10
          obtain ⟨hg10, hq10⟩ := hu10
          have hZ10 := (zxback (X := []) hZn10 (zxAin (X := []) X hZn10 hSn10) hk10 ht10 hB10).to
          replace hq10 : ad10 2 r10 0 = q10 := hq10
          subst hq10
          refine W.widen (k := cwC K K10) (n := swC K K10) (by have h := hr10.2.2.1; omega) (by have h := hr10.2.2.2; omega) ?_
          have X10 := X.grow hZ10.inA
          have hG10 := hG.tr hg10
          have e10_0 : zrf ad10 6 r2 = zrf ad 6 r2 := hg10.rf2 g9
          have e10_1 : ad10 6 r2 0 = ad 6 r2 0 := hg10.2 6 r2 0 g7.1 g7.2
          have hl : lv_has ls 4 [(3, va_rf (zrf ad10 6 r2)), (2, .int (iI l2))] := by have h := lv_sub hl [0, 3] rfl; simp only [e10_0, e10_1]; exact h
          refine W.eq (g2 := F0 m 41 ls [.ref (ad10 2 r10 0), .ref (ad10 6 r2 0)]) (by simp only [e10_0, e10_1]) ?_
          refine W.eq (g2 := F0 m 41 ls [.ref (ad10 2 r10 0), va_rf (zrf ad10 6 r2)]) (by rw [zrf_pos (ad := ad10) (t := 6) hs10_0.1]; try rfl) ?_
          refine W.eq (g2 := F0 m 41 ls [va_rf (zrf ad10 2 r10), va_rf (zrf ad10 6 r2)]) (by rw [zrf_pos (ad := ad10) (t := 2) ha10.1]; try rfl) ?_
          exact b_S_lines_41 X10 hG10 hf hZ10 hS10 (lv_sub hl [0, 1] rfl)
      · replace hf := gneg hf h6
        exact b_S_lines_24 X hG hf hZ2 hS2 (lv_sub hl [] rfl)

abbrev Q_S_open (K : zK) (D : va_G) (ca : Nat → ClassId) (ad : Nat → Int → Nat → Nat) (r : Int) (F : zF) (B : zB) (K9 : zK) (A : Nat → Prop) : Array Value → State → Outcome → State → Prop := va_Qi (S := (Nat → Int → Nat → Nat) × List Nat) (fun p u => p = iI r ∧ zG ad K.2 u.1 K9.2) (fun u => zPo D ca u.1 lnC K9.2 u.2 F B A) A
def f_S_open_18 (K : zK) (l0 : Int) (F : zF) (B : zB) : zOm := if 0 ≤ l0 ∧ l0 < K.2 12 then if 0 ≤ (F 12 l0 9) ∧ (F 12 l0 9) < K.2 8 then if 0 ≤ (F 12 l0 0) ∧ (F 12 l0 0) < K.2 0 then zbindN (f_SoundFile_load K (F 12 l0 9) (F 12 l0 0) F B) (fun r10 F10 B10 => if 0 ≤ (F10 12 l0 0) ∧ (F10 12 l0 0) < K.2 0 then zbindN (f_ByteRow_clear K (F10 12 l0 0) F10 B10) (fun r12 F12 B12 => if r32 r10 then (if r10 = 0 then if (F12 12 l0 9) < K.2 8 then if (F12 12 l0 8) < K.2 8 then some (0, (zup3 (zup3 F12 12 l0 8 (F12 12 l0 9)) 12 l0 9 (F12 12 l0 8)), B12, K) else none else none else some (r10, F12, B12, K)) else none) else none) else none else none else none
theorem m_S_open_18 {K : zK} {l0 : Int} {F : zF} {B : zB} {r : Int} {F9 : zF} {B9 : zB} {K9 : zK} (hf : f_S_open_18 K l0 F B = some (r, F9, B9, K9)) : zKle K K9 := by
  replace hf : (if 0 ≤ l0 ∧ l0 < K.2 12 then if 0 ≤ (F 12 l0 9) ∧ (F 12 l0 9) < K.2 8 then if 0 ≤ (F 12 l0 0) ∧ (F 12 l0 0) < K.2 0 then zbindN (f_SoundFile_load K (F 12 l0 9) (F 12 l0 0) F B) (fun r10 F10 B10 => if 0 ≤ (F10 12 l0 0) ∧ (F10 12 l0 0) < K.2 0 then zbindN (f_ByteRow_clear K (F10 12 l0 0) F10 B10) (fun r12 F12 B12 => if r32 r10 then (if r10 = 0 then if (F12 12 l0 9) < K.2 8 then if (F12 12 l0 8) < K.2 8 then some (0, (zup3 (zup3 F12 12 l0 8 (F12 12 l0 9)) 12 l0 9 (F12 12 l0 8)), B12, K) else none else none else some (r10, F12, B12, K)) else none) else none) else none else none else none) = some (r, F9, B9, K9) := hf
  obtain ⟨g7, hf⟩ := gif hf
  obtain ⟨g8, hf⟩ := gif hf
  obtain ⟨g9, hf⟩ := gif hf
  obtain ⟨r10, F10, B10, hc10, hf⟩ := gbindN hf
  obtain ⟨g11, hf⟩ := gif hf
  obtain ⟨r12, F12, B12, hc12, hf⟩ := gbindN hf
  obtain ⟨g13, hf⟩ := gif hf
  refine (Classical.em (r10 = 0)).elim (fun h14 => ?_) (fun h14 => ?_)
  · replace hf := gpos hf h14
    obtain ⟨g16, hf⟩ := gif hf
    obtain ⟨g18, hf⟩ := gif hf
    cases hf
    exact zKle.rf
  · replace hf := gneg hf h14
    cases hf
    exact zKle.rf

set_option maxHeartbeats 4000000 in
set_option maxRecDepth 100000 in
theorem b_S_open_18 {D : va_G} {ca : Nat → ClassId} {ad0 : Nat → Int → Nat → Nat} {aS vS : Nat → Nat} {A : Nat → Prop} {p : Program} {l : Launch} {e : Env} {s : State} {m : MethodId} {args : Array Value} {below : List Frame} {meth : Method} {c : Code} {K0 : zK} {r : Int} {F9 : zF} {B9 : zB} {K9 : zK} {K : zK} {l0 : Int} {F : zF} {B : zB} {ad : Nat → Int → Nat → Nat} {L : List Nat} {H : Heap} {locs : List Loc} {ls : Array Slot} : zX D ca L aS vS A p s m args meth c prog_1_method_24_code 3 (Option.some Jvm.ClassFile.FieldType.int) "StaveHouse" → zG ad0 K0.2 ad K.2 → f_S_open_18 K l0 F B = some (r, F9, B9, K9) → zH D ca ad lnC K.2 L F B A H → va_S A s.heap H locs → lv_has ls 3 [(0, .ref (ad 12 l0 0))] → W p l e ({ frames := 7, cells := cwC K0 K9, slots := swC K0 K9, locals := 164 } : Room) s m args below meth c H locs (cwC K0 K) (swC K0 K) (MQ below (Q_S_open K0 D ca ad0 r F9 B9 K9 A) args s (cwC K0 K9) (swC K0 K9) A) (F0 m 18 ls []) := by
  intro X hG hf hZ hS hl
  obtain ⟨hx, hb, hr, hml, hown, hts, hlk, hK, hA, hL, hX⟩ := id X
  have hk0 := zroom0 (K0 := K0) (m_S_open_18 hf)
  replace hf : (if 0 ≤ l0 ∧ l0 < K.2 12 then if 0 ≤ (F 12 l0 9) ∧ (F 12 l0 9) < K.2 8 then if 0 ≤ (F 12 l0 0) ∧ (F 12 l0 0) < K.2 0 then zbindN (f_SoundFile_load K (F 12 l0 9) (F 12 l0 0) F B) (fun r10 F10 B10 => if 0 ≤ (F10 12 l0 0) ∧ (F10 12 l0 0) < K.2 0 then zbindN (f_ByteRow_clear K (F10 12 l0 0) F10 B10) (fun r12 F12 B12 => if r32 r10 then (if r10 = 0 then if (F12 12 l0 9) < K.2 8 then if (F12 12 l0 8) < K.2 8 then some (0, (zup3 (zup3 F12 12 l0 8 (F12 12 l0 9)) 12 l0 9 (F12 12 l0 8)), B12, K) else none else none else some (r10, F12, B12, K)) else none) else none) else none else none else none) = some (r, F9, B9, K9) := hf
  refine lv_aload_n hx hb d_1_24_18 rfl (lv_at hl 0 rfl) ?_
  obtain ⟨g7, hf⟩ := gif hf
  refine zget (ci := 12) (C := RX12) (T := TX12) (v := va_rf (zrf ad 8 (F 12 l0 9))) (k := 9) hx hb hts inW_12 hown hK hZ g7.1 g7.2 rfl (by decide) k_2_136 rfl d_1_24_19 ?_
  refine lv_aload_n hx hb d_1_24_22 rfl (lv_at hl 0 rfl) ?_
  refine zget (ci := 12) (C := RX12) (T := TX12) (v := va_rf (zrf ad 0 (F 12 l0 0))) (k := 0) hx hb hts inW_12 hown hK hZ g7.1 g7.2 rfl (by decide) k_2_127 rfl d_1_24_23 ?_
  obtain ⟨g8, hf⟩ := gif hf
  refine W.eq (g2 := F0 m 26 ls [va_rf (zrf ad 0 (F 12 l0 0)), .ref (ad 8 (F 12 l0 9) 0)]) (by rw [zrf_pos (ad := ad) (t := 8) g8.1]; try rfl) ?_
  obtain ⟨g9, hf⟩ := gif hf
  refine W.eq (g2 := F0 m 26 ls [.ref (ad 0 (F 12 l0 0) 0), .ref (ad 8 (F 12 l0 9) 0)]) (by rw [zrf_pos (ad := ad) (t := 0) g9.1]; try rfl) ?_
  obtain ⟨r10, F10, B10, hc10, hf⟩ := gbindN hf
  refine va_calli (va_runV (As := [.ref (ad 0 (F 12 l0 0) 0)]) (rest := []) ⟨hx, hb, hml, hown, hts⟩ (c_SoundFile_load (l := l) hc10) (cwV 1 hts (gdV k_8_30 k_8_31 k_8_32 k_1_23 k_8_33) rfl rfl rfl (by decide +kernel) ⟨Nat.le_of_ble_eq_true rfl, Nat.le_of_ble_eq_true rfl⟩) (zPV X hZ hS (ci := 8) g8.1 g8.2 (r := (RX8, TX8, 15)) rfl [.ref (ad 0 (F 12 l0 0) 0)]) rfl rfl hl.1 rfl (lv_room (Nat.le_of_ble_eq_true rfl)) d_1_24_26 ⟨hk0.1, hk0.2⟩) hS (fun q _ h => zAin X hS q h) (zAin X hS) (fun p10 u10 t10 H10 locs10 ht10 hv10 hw10 hB10 hz10 hk10 hS10 => ?_)
  have hZ10 := zBack X ht10 hB10
  subst hw10
  refine lv_istore_n (lv' := [(1, .int (iI r10)), (0, .ref (ad 12 l0 0))]) hx hb d_1_24_29 rfl hl (by decide) rfl (fun ls hl => ?_)
  refine lv_aload_n hx hb d_1_24_30 rfl (lv_at hl 1 rfl) ?_
  refine zget (ci := 12) (C := RX12) (T := TX12) (v := va_rf (zrf ad 0 (F10 12 l0 0))) (k := 0) hx hb hts inW_12 hown hK hZ10 g7.1 g7.2 rfl (by decide) k_2_127 rfl d_1_24_31 ?_
  obtain ⟨g11, hf⟩ := gif hf
  refine W.eq (g2 := F0 m 34 ls [.ref (ad 0 (F10 12 l0 0) 0)]) (by rw [zrf_pos (ad := ad) (t := 0) g11.1]; try rfl) ?_
  obtain ⟨r12, F12, B12, hc12, hf⟩ := gbindN hf
  refine va_callv (va_runV (As := []) (rest := []) ⟨hx, hb, hml, hown, hts⟩ (c_ByteRow_clear (l := l) hc12) (cwV 0 hts (gdV k_5_166 k_5_167 k_5_168 k_1_2 k_5_169) rfl rfl rfl (by decide +kernel) ⟨Nat.le_of_ble_eq_true rfl, Nat.le_of_ble_eq_true rfl⟩) (zPV X hZ10 hS10 (ci := 0) g11.1 g11.2 (r := (RX0, TX0, 3)) rfl []) rfl rfl hl.1 rfl (lv_room (Nat.le_of_ble_eq_true rfl)) d_1_24_34 ⟨hk0.1, hk0.2⟩) hS10 (fun q _ h => zAin X hS10 q h) (zAin X hS10) (fun u12 t12 H12 locs12 ht12 hv12 hw12 hB12 hz12 hk12 hS12 => ?_)
  have hZ12 := zBack X ht12 hB12
  refine lv_iload_n hx hb d_1_24_37 rfl (lv_at hl 0 rfl) ?_
  obtain ⟨g13, hf⟩ := gif hf
  refine z0eq (tgt := 43) hx hb g13 d_1_24_38 (by decide) (fun h14 => ?_) (fun h14 => ?_)
  · replace hf := gpos hf h14
    refine lv_aload_n hx hb d_1_24_43 rfl (lv_at hl 1 rfl) ?_
    refine zget (ci := 12) (C := RX12) (T := TX12) (v := va_rf (zrf ad 8 (F12 12 l0 8))) (k := 8) hx hb hts inW_12 hown hK hZ12 g7.1 g7.2 rfl (by decide) k_2_135 rfl d_1_24_44 ?_
    refine zastore_n (lv' := [(1, .int (iI r10)), (0, .ref (ad 12 l0 0))]) hx hb d_1_24_47 rfl hl (by decide) (fun _ _ => rfl) (fun ls hl => ?_)
    refine lv_aload_n hx hb d_1_24_48 rfl (lv_at hl 2 rfl) ?_
    refine lv_aload_n hx hb d_1_24_49 rfl (lv_at hl 2 rfl) ?_
    refine zget (ci := 12) (C := RX12) (T := TX12) (v := va_rf (zrf ad 8 (F12 12 l0 9))) (k := 9) hx hb hts inW_12 hown hK hZ12 g7.1 g7.2 rfl (by decide) k_2_136 rfl d_1_24_50 ?_
    obtain ⟨g16, hf⟩ := gif hf
    refine zput (ci := 12) (C := RX12) (T := TX12) (k := 8) (v := (F12 12 l0 9)) (w := va_rf (zrf ad 8 (F12 12 l0 9))) hx hb hts inW_12 tyX12 tyX12_ok nmX12 hown hK hZ12 hS12 g7.1 g7.2 rfl (by decide) k_2_135 rfl (fun G h => congrArg (fun q => va_rf (zrf ad 8 q)) h) (zrf_nar rfl _) (zrf_fit rfl _) (zyes (t0 := 8) rfl g16) d_1_24_53 (fun H15 locs15 hZ15 hS15 => ?_)
    refine lv_aload_n hx hb d_1_24_56 rfl (lv_at hl 2 rfl) ?_
    refine zaload_n hx hb d_1_24_57 rfl (lv_at hl 0 rfl) ?_
    obtain ⟨g18, hf⟩ := gif hf
    refine zput (ci := 12) (C := RX12) (T := TX12) (k := 9) (v := (F12 12 l0 8)) (w := va_rf (zrf ad 8 (F12 12 l0 8))) hx hb hts inW_12 tyX12 tyX12_ok nmX12 hown hK hZ15 hS15 g7.1 g7.2 rfl (by decide) k_2_136 rfl (fun G h => congrArg (fun q => va_rf (zrf ad 8 q)) h) (zrf_nar rfl _) (zrf_fit rfl _) (zyes (t0 := 8) rfl g18) d_1_24_58 (fun H17 locs17 hZ17 hS17 => ?_)
    refine lv_iconst (v := iI 0) hx hb d_1_24_61 rfl ?_
    cases hf
    exact W.iret hx hb hr (fun t ht hW => ⟨⟨_, (ad, L), rfl, ⟨rfl, hG⟩, by rw [ht]; exact hZ17, va_K.moved hW.alike hK⟩, hS17.F ht⟩) hS17.2.2 d_1_24_62 hlk
  · replace hf := gneg hf h14
    refine lv_iload_n hx hb d_1_24_41 rfl (lv_at hl 0 rfl) ?_
    cases hf
    exact W.iret hx hb hr (fun t ht hW => ⟨⟨_, (ad, L), rfl, ⟨rfl, hG⟩, by rw [ht]; exact hZ12, va_K.moved hW.alike hK⟩, hS12.F ht⟩) hS12.2.2 d_1_24_42 hlk

def f_S_open_15 (K : zK) (l0 : Int) (s0 : Int) (s1 : Int) (F : zF) (B : zB) : zOm := if 0 ≤ s0 ∧ s0 < K.2 12 then if s1 < K.2 8 then f_S_open_18 K l0 (zup3 F 12 s0 9 s1) B else none else none
theorem m_S_open_15 {K : zK} {l0 : Int} {s0 : Int} {s1 : Int} {F : zF} {B : zB} {r : Int} {F9 : zF} {B9 : zB} {K9 : zK} (hf : f_S_open_15 K l0 s0 s1 F B = some (r, F9, B9, K9)) : zKle K K9 := by
  replace hf : (if 0 ≤ s0 ∧ s0 < K.2 12 then if s1 < K.2 8 then f_S_open_18 K l0 (zup3 F 12 s0 9 s1) B else none else none) = some (r, F9, B9, K9) := hf
  obtain ⟨g4, hf⟩ := gif hf
  obtain ⟨g6, hf⟩ := gif hf
  exact m_S_open_18 hf

set_option maxHeartbeats 4000000 in
set_option maxRecDepth 100000 in
theorem b_S_open_15 {D : va_G} {ca : Nat → ClassId} {ad0 : Nat → Int → Nat → Nat} {aS vS : Nat → Nat} {A : Nat → Prop} {p : Program} {l : Launch} {e : Env} {s : State} {m : MethodId} {args : Array Value} {below : List Frame} {meth : Method} {c : Code} {K0 : zK} {r : Int} {F9 : zF} {B9 : zB} {K9 : zK} {K : zK} {l0 : Int} {s0 : Int} {s1 : Int} {F : zF} {B : zB} {ad : Nat → Int → Nat → Nat} {L : List Nat} {H : Heap} {locs : List Loc} {ls : Array Slot} : zX D ca L aS vS A p s m args meth c prog_1_method_24_code 3 (Option.some Jvm.ClassFile.FieldType.int) "StaveHouse" → zG ad0 K0.2 ad K.2 → f_S_open_15 K l0 s0 s1 F B = some (r, F9, B9, K9) → zH D ca ad lnC K.2 L F B A H → va_S A s.heap H locs → lv_has ls 3 [(0, .ref (ad 12 l0 0))] → W p l e ({ frames := 7, cells := cwC K0 K9, slots := swC K0 K9, locals := 164 } : Room) s m args below meth c H locs (cwC K0 K) (swC K0 K) (MQ below (Q_S_open K0 D ca ad0 r F9 B9 K9 A) args s (cwC K0 K9) (swC K0 K9) A) (F0 m 15 ls [va_rf (zrf ad 8 s1), va_rf (zrf ad 12 s0)]) := by
  intro X hG hf hZ hS hl
  obtain ⟨hx, hb, hr, hml, hown, hts, hlk, hK, hA, hL, hX⟩ := id X
  have hk0 := zroom0 (K0 := K0) (m_S_open_15 hf)
  replace hf : (if 0 ≤ s0 ∧ s0 < K.2 12 then if s1 < K.2 8 then f_S_open_18 K l0 (zup3 F 12 s0 9 s1) B else none else none) = some (r, F9, B9, K9) := hf
  obtain ⟨g4, hf⟩ := gif hf
  refine W.eq (g2 := F0 m 15 ls [va_rf (zrf ad 8 s1), .ref (ad 12 s0 0)]) (by rw [zrf_pos (ad := ad) (t := 12) g4.1]; try rfl) ?_
  obtain ⟨g6, hf⟩ := gif hf
  refine zput (ci := 12) (C := RX12) (T := TX12) (k := 9) (v := s1) (w := va_rf (zrf ad 8 s1)) hx hb hts inW_12 tyX12 tyX12_ok nmX12 hown hK hZ hS g4.1 g4.2 rfl (by decide) k_2_136 rfl (fun G h => congrArg (fun q => va_rf (zrf ad 8 q)) h) (zrf_nar rfl _) (zrf_fit rfl _) (zyes (t0 := 8) rfl g6) d_1_24_15 (fun H5 locs5 hZ5 hS5 => ?_)
  exact b_S_open_18 X hG hf hZ5 hS5 (lv_sub hl [0] rfl)

def f_S_open (K : zK) (l0 : Int) (F : zF) (B : zB) : zOm := if 0 ≤ l0 ∧ l0 < K.2 12 then (if (F 12 l0 9) < 0 then zbindM (f_SoundFile_init K F B) (fun r3 F3 B3 K3 => if 0 ≤ r3 ∧ r3 < K3.2 8 then if 0 ≤ l0 ∧ l0 < K3.2 12 then f_S_open_15 K3 l0 l0 r3 F3 B3 else none else none) else f_S_open_18 K l0 F B) else none
theorem m_S_open {K : zK} {l0 : Int} {F : zF} {B : zB} {r : Int} {F9 : zF} {B9 : zB} {K9 : zK} (hf : f_S_open K l0 F B = some (r, F9, B9, K9)) : zKle K K9 := by
  replace hf : (if 0 ≤ l0 ∧ l0 < K.2 12 then (if (F 12 l0 9) < 0 then zbindM (f_SoundFile_init K F B) (fun r3 F3 B3 K3 => if 0 ≤ r3 ∧ r3 < K3.2 8 then if 0 ≤ l0 ∧ l0 < K3.2 12 then f_S_open_15 K3 l0 l0 r3 F3 B3 else none else none) else f_S_open_18 K l0 F B) else none) = some (r, F9, B9, K9) := hf
  obtain ⟨g1, hf⟩ := gif hf
  refine (Classical.em ((F 12 l0 9) < 0)).symm.elim (fun h2 => ?_) (fun h2 => ?_)
  · replace hf := gneg hf h2
    exact m_S_open_18 hf
  · replace hf := gpos hf h2
    obtain ⟨r3, F3, B3, K3, hc3, hf⟩ := gbindM hf
    obtain ⟨ha3, hf⟩ := gif hf
    obtain ⟨hs3_0, hf⟩ := gif hf
    exact (m_SoundFile_init hc3).tr (m_S_open_15 hf)

set_option maxHeartbeats 4000000 in
set_option maxRecDepth 100000 in
theorem c_S_open {l : Launch} {D : va_G} {ca : Nat → ClassId} {ad : Nat → Int → Nat → Nat} {L : List Nat} {aS vS : Nat → Nat} {sz : Nat} {K : zK} {l0 : Int} {F : zF} {B : zB} {r : Int} {F9 : zF} {B9 : zB} {K9 : zK} (hf : f_S_open K l0 F B = some (r, F9, B9, K9)) : Met l ({ cls := "StaveHouse", name := "open", desc := "()I" } : Jvm.MethodName) (Cond.code ({ cls := "StaveHouse", name := "open", desc := "()I" } : Jvm.MethodName) prog_1_method_24_code 3 (Option.some Jvm.ClassFile.FieldType.int) :: wAll) ({ frames := 7, cells := cwC K K9, slots := swC K K9, locals := 164 } : Room) (va_Pc [.ref (ad 12 l0 0)] (zPre D ca ad lnC K.2 L aS vS F B sz)) (Q_S_open K D ca ad r F9 B9 K9 (zA L sz)) (cwC K K9) (swC K K9) (zA L sz) := by
  refine zMet (Qc := Q_S_open K D ca ad r F9 B9 K9) (lv := [(0, .ref (ad 12 l0 0))]) (by decide) (Nat.le_of_ble_eq_true rfl) rfl (fun A p e s m below meth c ls X hZ hS hl => ?_)
  obtain ⟨hx, hb, hr, hml, hown, hts, hlk, hK, hA, hL, hX⟩ := id X
  have hG : zG ad K.2 ad K.2 := zG.rf
  refine W.widen (k := cwC K K) (n := swC K K) (Nat.zero_le _) (Nat.zero_le _) ?_
  have hk0 := zroom0 (K0 := K) (m_S_open hf)
  replace hf : (if 0 ≤ l0 ∧ l0 < K.2 12 then (if (F 12 l0 9) < 0 then zbindM (f_SoundFile_init K F B) (fun r3 F3 B3 K3 => if 0 ≤ r3 ∧ r3 < K3.2 8 then if 0 ≤ l0 ∧ l0 < K3.2 12 then f_S_open_15 K3 l0 l0 r3 F3 B3 else none else none) else f_S_open_18 K l0 F B) else none) = some (r, F9, B9, K9) := hf
  refine lv_aload_n hx hb d_1_24_0 rfl (lv_at hl 0 rfl) ?_
  obtain ⟨g1, hf⟩ := gif hf
  refine zget (ci := 12) (C := RX12) (T := TX12) (v := va_rf (zrf ad 8 (F 12 l0 9))) (k := 9) hx hb hts inW_12 hown hK hZ g1.1 g1.2 rfl (by decide) k_2_136 rfl d_1_24_1 ?_
  refine zifnonnull (tgt := 18) hx hb d_1_24_4 (by decide) (fun h2 => ?_) (fun h2 => ?_)
  · replace hf := gneg hf h2
    exact b_S_open_18 X hG hf hZ hS (lv_sub hl [0] rfl)
  · replace hf := gpos hf h2
    refine lv_aload_n hx hb d_1_24_7 rfl (lv_at hl 0 rfl) ?_
    obtain ⟨r3, F3, B3, K3, hc3, hf⟩ := gbindM hf
    have hw3 := w_SoundFile_init hc3
    obtain ⟨ha3, hf⟩ := gif hf
    obtain ⟨hs3_0, hf⟩ := gif hf
    have hm3 := m_S_open_15 hf
    have hr3 := zroom hG.1 hw3 hm3
    refine zxnew (C := RX8) (T := TX8) (n := 15) (ci := 8) hx hb hts inW_8 tyX8 tyX8_ok hown k_7_209 k_7_210 k_1_23 hK (zHx.of hZ) hS hA rfl (by have h := hr3.1; dsimp only; omega) (by have h := hr3.2.1; dsimp only; omega) d_1_24_8 (fun q3 Hn3 hZn3 hSn3 => ?_)
    refine lv_dup hx hb d_1_24_11 rfl ?_
    refine va_callv (va_runIN (As := []) (rest := .ref q3 :: [.ref (ad 12 l0 0)]) ⟨hx, hb, hml, hown, hts⟩ (c_SoundFile_init (l := l) hc3) ⟨va_cnB 0 hts (gdC k_7_213) rfl rfl rfl (hX.1 _ (List.mem_of_getElem? (i := 10) rfl) :) (hts _ k_1_23) (by decide +kernel) ⟨Nat.le_of_ble_eq_true rfl, Nat.le_of_ble_eq_true rfl⟩, rfl, hts _ k_7_212⟩ (zxPS (X := []) X hZn3 hSn3 [.ref q3]) rfl rfl hl.1 rfl (lv_room (Nat.le_of_ble_eq_true rfl)) d_1_24_12 ⟨by have h := hr3.1; dsimp only; omega, by have h := hr3.2.1; dsimp only; omega⟩) hSn3 (fun x _ h => zxAin (X := []) X hZn3 hSn3 x h) (zxAin (X := []) X hZn3 hSn3) (fun u3 t3 H3 locs3 ht3 hv3 hu3 hB3 hz3 hk3 hS3 => ?_)
    obtain ⟨ad3, L3⟩ := u3
    obtain ⟨hg3, hq3⟩ := hu3
    have hZ3 := (zxback (X := []) hZn3 (zxAin (X := []) X hZn3 hSn3) hk3 ht3 hB3).to
    replace hq3 : ad3 8 r3 0 = q3 := hq3
    subst hq3
    refine W.widen (k := cwC K K3) (n := swC K K3) (by have h := hr3.2.2.1; omega) (by have h := hr3.2.2.2; omega) ?_
    have X3 := X.grow hZ3.inA
    have hG3 := hG.tr hg3
    have e3_0 : ad3 12 l0 0 = ad 12 l0 0 := hg3.2 12 l0 0 g1.1 g1.2
    have hl : lv_has ls 3 [(0, .ref (ad3 12 l0 0))] := by have h := lv_sub hl [0] rfl; simp only [e3_0]; exact h
    refine W.eq (g2 := F0 m 15 ls [.ref (ad3 8 r3 0), .ref (ad3 12 l0 0)]) (by simp only [e3_0]) ?_
    refine W.eq (g2 := F0 m 15 ls [.ref (ad3 8 r3 0), va_rf (zrf ad3 12 l0)]) (by rw [zrf_pos (ad := ad3) (t := 12) hs3_0.1]; try rfl) ?_
    refine W.eq (g2 := F0 m 15 ls [va_rf (zrf ad3 8 r3), va_rf (zrf ad3 12 l0)]) (by rw [zrf_pos (ad := ad3) (t := 8) ha3.1]; try rfl) ?_
    exact b_S_open_15 X3 hG3 hf hZ3 hS3 (lv_sub hl [0] rfl)


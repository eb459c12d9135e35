theorem k_1_29 : (Jvm.Cond.methodLink "StaveHouse" (1 : Nat) ({ cls := "java/lang/Object", name := "<init>", desc := "()V" } : Jvm.MethodName)) ∈ wAll := wA_1 (j := 29) rfl rfl
theorem k_1_30 : (Jvm.Cond.instanceMethod ({ cls := "java/lang/Object", name := "<init>", desc := "()V" } : Jvm.MethodName)) ∈ wAll := wA_1 (j := 30) rfl rfl
theorem k_1_31 : (Jvm.Cond.code ({ cls := "java/lang/Object", name := "<init>", desc := "()V" } : Jvm.MethodName) object_method_1_code (1 : Nat) (Option.none : Option Jvm.ClassFile.FieldType)) ∈ wAll := wA_1 (j := 31) rfl rfl
theorem k_1_32 : (Jvm.Cond.classLink "StaveHouse" (7 : Nat) "StaveHouse$ByteRow") ∈ wAll := wA_1 (j := 32) rfl rfl
theorem k_1_33 : (Jvm.Cond.instantiable "StaveHouse$ByteRow" (3 : Nat)) ∈ wAll := wA_1 (j := 33) rfl rfl
theorem k_1_2 : (Jvm.Cond.initialized "StaveHouse$ByteRow") ∈ wAll := wA_1 (j := 2) rfl rfl
theorem k_1_37 : (Jvm.Cond.methodLink "StaveHouse$ByteRow" (3 : Nat) ({ cls := "java/lang/Object", name := "<init>", desc := "()V" } : Jvm.MethodName)) ∈ wAll := wA_1 (j := 37) rfl rfl
theorem k_1_38 : (Jvm.Cond.methodLink "StaveHouse$ByteRow" (9 : Nat) ({ cls := "java/lang/Math", name := "max", desc := "(II)I" } : Jvm.MethodName)) ∈ wAll := wA_1 (j := 38) rfl rfl
theorem k_1_39 : (Jvm.Cond.static ({ cls := "java/lang/Math", name := "max", desc := "(II)I" } : Jvm.MethodName)) ∈ wAll := wA_1 (j := 39) rfl rfl
theorem k_1_3 : (Jvm.Cond.initialized "java/lang/Math") ∈ wAll := wA_1 (j := 3) rfl rfl
theorem k_1_40 : (Jvm.Cond.code ({ cls := "java/lang/Math", name := "max", desc := "(II)I" } : Jvm.MethodName) prog_20_method_65_code (2 : Nat) (Option.some Jvm.ClassFile.FieldType.int)) ∈ wAll := wA_1 (j := 40) rfl rfl
theorem k_1_57 : (Jvm.Cond.arrayClass Jvm.ClassFile.FieldType.int) ∈ wAll := wA_1 (j := 57) rfl rfl
theorem k_1_41 : (Jvm.Cond.fieldLink "StaveHouse$ByteRow" (15 : Nat) "StaveHouse$ByteRow" "bytes" "[I") ∈ wAll := wA_1 (j := 41) rfl rfl
theorem k_1_36 : (Jvm.Cond.code ({ cls := "StaveHouse$ByteRow", name := "<init>", desc := "(I)V" } : Jvm.MethodName) prog_2_method_1_code (2 : Nat) (Option.none : Option Jvm.ClassFile.FieldType)) ∈ wAll := wA_1 (j := 36) rfl rfl
theorem k_1_34 : (Jvm.Cond.methodLink "StaveHouse" (11 : Nat) ({ cls := "StaveHouse$ByteRow", name := "<init>", desc := "(I)V" } : Jvm.MethodName)) ∈ wAll := wA_1 (j := 34) rfl rfl
theorem k_1_35 : (Jvm.Cond.instanceMethod ({ cls := "StaveHouse$ByteRow", name := "<init>", desc := "(I)V" } : Jvm.MethodName)) ∈ wAll := wA_1 (j := 35) rfl rfl
theorem k_2_127 : (Jvm.Cond.fieldLink "StaveHouse" (14 : Nat) "StaveHouse" "tape" "LStaveHouse$ByteRow;") ∈ wAll := wA_2 (j := 127) rfl rfl
theorem k_2_128 : (Jvm.Cond.fieldLink "StaveHouse" (18 : Nat) "StaveHouse" "waiting" "[I") ∈ wAll := wA_2 (j := 128) rfl rfl
theorem k_2_129 : (Jvm.Cond.fieldLink "StaveHouse" (22 : Nat) "StaveHouse" "written" "LStaveHouse$ByteRow;") ∈ wAll := wA_2 (j := 129) rfl rfl
theorem k_1_58 : (Jvm.Cond.classLink "StaveHouse" (25 : Nat) "StaveHouse$Piece") ∈ wAll := wA_1 (j := 58) rfl rfl
theorem k_2_130 : (Jvm.Cond.fieldLink "StaveHouse" (27 : Nat) "StaveHouse" "pieces" "[LStaveHouse$Piece;") ∈ wAll := wA_2 (j := 130) rfl rfl
theorem k_1_60 : (Jvm.Cond.classLink "StaveHouse" (31 : Nat) "StaveHouse$Parser") ∈ wAll := wA_1 (j := 60) rfl rfl
theorem k_1_61 : (Jvm.Cond.instantiable "StaveHouse$Parser" (22 : Nat)) ∈ wAll := wA_1 (j := 61) rfl rfl
theorem k_1_4 : (Jvm.Cond.initialized "StaveHouse$Parser") ∈ wAll := wA_1 (j := 4) rfl rfl
theorem k_1_65 : (Jvm.Cond.methodLink "StaveHouse$Parser" (3 : Nat) ({ cls := "java/lang/Object", name := "<init>", desc := "()V" } : Jvm.MethodName)) ∈ wAll := wA_1 (j := 65) rfl rfl
theorem k_1_106 : (Jvm.Cond.fieldLink "StaveHouse$Parser" (9 : Nat) "StaveHouse$Parser" "kind" "[I") ∈ wAll := wA_1 (j := 106) rfl rfl
theorem k_1_108 : (Jvm.Cond.fieldLink "StaveHouse$Parser" (15 : Nat) "StaveHouse$Parser" "place" "[I") ∈ wAll := wA_1 (j := 108) rfl rfl
theorem k_1_110 : (Jvm.Cond.fieldLink "StaveHouse$Parser" (18 : Nat) "StaveHouse$Parser" "first" "[I") ∈ wAll := wA_1 (j := 110) rfl rfl
theorem k_1_112 : (Jvm.Cond.fieldLink "StaveHouse$Parser" (21 : Nat) "StaveHouse$Parser" "second" "[I") ∈ wAll := wA_1 (j := 112) rfl rfl
theorem k_1_114 : (Jvm.Cond.fieldLink "StaveHouse$Parser" (24 : Nat) "StaveHouse$Parser" "child" "[I") ∈ wAll := wA_1 (j := 114) rfl rfl
theorem k_1_116 : (Jvm.Cond.fieldLink "StaveHouse$Parser" (27 : Nat) "StaveHouse$Parser" "next" "[I") ∈ wAll := wA_1 (j := 116) rfl rfl
theorem k_1_118 : (Jvm.Cond.fieldLink "StaveHouse$Parser" (30 : Nat) "StaveHouse$Parser" "count" "[I") ∈ wAll := wA_1 (j := 118) rfl rfl
theorem k_1_120 : (Jvm.Cond.fieldLink "StaveHouse$Parser" (33 : Nat) "StaveHouse$Parser" "marks" "[I") ∈ wAll := wA_1 (j := 120) rfl rfl
theorem k_1_122 : (Jvm.Cond.fieldLink "StaveHouse$Parser" (36 : Nat) "StaveHouse$Parser" "pitchSteps" "[I") ∈ wAll := wA_1 (j := 122) rfl rfl
theorem k_1_124 : (Jvm.Cond.fieldLink "StaveHouse$Parser" (39 : Nat) "StaveHouse$Parser" "pitchAlterations" "[I") ∈ wAll := wA_1 (j := 124) rfl rfl
theorem k_1_126 : (Jvm.Cond.fieldLink "StaveHouse$Parser" (42 : Nat) "StaveHouse$Parser" "pitchPlaces" "[I") ∈ wAll := wA_1 (j := 126) rfl rfl
theorem k_1_66 : (Jvm.Cond.classLink "StaveHouse$Parser" (45 : Nat) "StaveHouse$Tokens") ∈ wAll := wA_1 (j := 66) rfl rfl
theorem k_1_67 : (Jvm.Cond.instantiable "StaveHouse$Tokens" (9 : Nat)) ∈ wAll := wA_1 (j := 67) rfl rfl
theorem k_1_5 : (Jvm.Cond.initialized "StaveHouse$Tokens") ∈ wAll := wA_1 (j := 5) rfl rfl
theorem k_1_71 : (Jvm.Cond.methodLink "StaveHouse$Tokens" (3 : Nat) ({ cls := "java/lang/Object", name := "<init>", desc := "()V" } : Jvm.MethodName)) ∈ wAll := wA_1 (j := 71) rfl rfl
theorem k_1_82 : (Jvm.Cond.fieldLink "StaveHouse$Tokens" (9 : Nat) "StaveHouse$Tokens" "kinds" "[I") ∈ wAll := wA_1 (j := 82) rfl rfl
theorem k_1_83 : (Jvm.Cond.fieldLink "StaveHouse$Tokens" (15 : Nat) "StaveHouse$Tokens" "places" "[I") ∈ wAll := wA_1 (j := 83) rfl rfl
theorem k_1_105 : (Jvm.Cond.arrayClass Jvm.ClassFile.FieldType.long) ∈ wAll := wA_1 (j := 105) rfl rfl
theorem k_1_84 : (Jvm.Cond.fieldLink "StaveHouse$Tokens" (18 : Nat) "StaveHouse$Tokens" "values" "[J") ∈ wAll := wA_1 (j := 84) rfl rfl
theorem k_1_70 : (Jvm.Cond.code ({ cls := "StaveHouse$Tokens", name := "<init>", desc := "()V" } : Jvm.MethodName) prog_12_method_1_code (1 : Nat) (Option.none : Option Jvm.ClassFile.FieldType)) ∈ wAll := wA_1 (j := 70) rfl rfl
theorem k_1_69 : (Jvm.Cond.instanceMethod ({ cls := "StaveHouse$Tokens", name := "<init>", desc := "()V" } : Jvm.MethodName)) ∈ wAll := wA_1 (j := 69) rfl rfl
theorem k_1_128 : (Jvm.Cond.fieldLink "StaveHouse$Parser" (48 : Nat) "StaveHouse$Parser" "token" "LStaveHouse$Tokens;") ∈ wAll := wA_1 (j := 128) rfl rfl
theorem k_1_129 : (Jvm.Cond.fieldLink "StaveHouse$Parser" (52 : Nat) "StaveHouse$Parser" "letNames" "[J") ∈ wAll := wA_1 (j := 129) rfl rfl
theorem k_1_130 : (Jvm.Cond.fieldLink "StaveHouse$Parser" (56 : Nat) "StaveHouse$Parser" "letItems" "[I") ∈ wAll := wA_1 (j := 130) rfl rfl
theorem k_1_64 : (Jvm.Cond.code ({ cls := "StaveHouse$Parser", name := "<init>", desc := "()V" } : Jvm.MethodName) prog_5_method_1_code (1 : Nat) (Option.none : Option Jvm.ClassFile.FieldType)) ∈ wAll := wA_1 (j := 64) rfl rfl
theorem k_1_63 : (Jvm.Cond.instanceMethod ({ cls := "StaveHouse$Parser", name := "<init>", desc := "()V" } : Jvm.MethodName)) ∈ wAll := wA_1 (j := 63) rfl rfl
theorem k_2_131 : (Jvm.Cond.fieldLink "StaveHouse" (34 : Nat) "StaveHouse" "parser" "LStaveHouse$Parser;") ∈ wAll := wA_2 (j := 131) rfl rfl
theorem k_1_184 : (Jvm.Cond.classLink "StaveHouse" (38 : Nat) "StaveHouse$Walker") ∈ wAll := wA_1 (j := 184) rfl rfl
theorem k_1_185 : (Jvm.Cond.instantiable "StaveHouse$Walker" (19 : Nat)) ∈ wAll := wA_1 (j := 185) rfl rfl
theorem k_1_6 : (Jvm.Cond.initialized "StaveHouse$Walker") ∈ wAll := wA_1 (j := 6) rfl rfl
theorem k_1_189 : (Jvm.Cond.methodLink "StaveHouse$Walker" (3 : Nat) ({ cls := "java/lang/Object", name := "<init>", desc := "()V" } : Jvm.MethodName)) ∈ wAll := wA_1 (j := 189) rfl rfl
theorem k_1_204 : (Jvm.Cond.fieldLink "StaveHouse$Walker" (9 : Nat) "StaveHouse$Walker" "powers" "[I") ∈ wAll := wA_1 (j := 204) rfl rfl
theorem k_1_205 : (Jvm.Cond.fieldLink "StaveHouse$Walker" (15 : Nat) "StaveHouse$Walker" "carrySigns" "[I") ∈ wAll := wA_1 (j := 205) rfl rfl
theorem k_1_206 : (Jvm.Cond.fieldLink "StaveHouse$Walker" (18 : Nat) "StaveHouse$Walker" "carrySteps" "[I") ∈ wAll := wA_1 (j := 206) rfl rfl
theorem k_1_207 : (Jvm.Cond.fieldLink "StaveHouse$Walker" (21 : Nat) "StaveHouse$Walker" "carryTones" "[I") ∈ wAll := wA_1 (j := 207) rfl rfl
theorem k_1_188 : (Jvm.Cond.code ({ cls := "StaveHouse$Walker", name := "<init>", desc := "()V" } : Jvm.MethodName) prog_13_method_1_code (1 : Nat) (Option.none : Option Jvm.ClassFile.FieldType)) ∈ wAll := wA_1 (j := 188) rfl rfl
theorem k_1_187 : (Jvm.Cond.instanceMethod ({ cls := "StaveHouse$Walker", name := "<init>", desc := "()V" } : Jvm.MethodName)) ∈ wAll := wA_1 (j := 187) rfl rfl
theorem k_2_132 : (Jvm.Cond.fieldLink "StaveHouse" (41 : Nat) "StaveHouse" "walker" "LStaveHouse$Walker;") ∈ wAll := wA_2 (j := 132) rfl rfl
theorem k_2_8 : (Jvm.Cond.classLink "StaveHouse" (45 : Nat) "StaveHouse$Scribe") ∈ wAll := wA_2 (j := 8) rfl rfl
theorem k_2_9 : (Jvm.Cond.instantiable "StaveHouse$Scribe" (9 : Nat)) ∈ wAll := wA_2 (j := 9) rfl rfl
theorem k_1_7 : (Jvm.Cond.initialized "StaveHouse$Scribe") ∈ wAll := wA_1 (j := 7) rfl rfl
theorem k_2_13 : (Jvm.Cond.methodLink "StaveHouse$Scribe" (3 : Nat) ({ cls := "java/lang/Object", name := "<init>", desc := "()V" } : Jvm.MethodName)) ∈ wAll := wA_2 (j := 13) rfl rfl
theorem k_2_14 : (Jvm.Cond.classLink "StaveHouse$Scribe" (9 : Nat) "StaveHouse$Event") ∈ wAll := wA_2 (j := 14) rfl rfl
theorem k_2_15 : (Jvm.Cond.instantiable "StaveHouse$Event" (14 : Nat)) ∈ wAll := wA_2 (j := 15) rfl rfl
theorem k_1_8 : (Jvm.Cond.initialized "StaveHouse$Event") ∈ wAll := wA_1 (j := 8) rfl rfl
theorem k_2_19 : (Jvm.Cond.methodLink "StaveHouse$Event" (3 : Nat) ({ cls := "java/lang/Object", name := "<init>", desc := "()V" } : Jvm.MethodName)) ∈ wAll := wA_2 (j := 19) rfl rfl
theorem k_2_57 : (Jvm.Cond.fieldLink "StaveHouse$Event" (9 : Nat) "StaveHouse$Event" "steps" "[I") ∈ wAll := wA_2 (j := 57) rfl rfl
theorem k_2_63 : (Jvm.Cond.fieldLink "StaveHouse$Event" (15 : Nat) "StaveHouse$Event" "alterations" "[I") ∈ wAll := wA_2 (j := 63) rfl rfl
theorem k_2_18 : (Jvm.Cond.code ({ cls := "StaveHouse$Event", name := "<init>", desc := "()V" } : Jvm.MethodName) prog_3_method_1_code (1 : Nat) (Option.none : Option Jvm.ClassFile.FieldType)) ∈ wAll := wA_2 (j := 18) rfl rfl
theorem k_2_17 : (Jvm.Cond.instanceMethod ({ cls := "StaveHouse$Event", name := "<init>", desc := "()V" } : Jvm.MethodName)) ∈ wAll := wA_2 (j := 17) rfl rfl
theorem k_2_102 : (Jvm.Cond.fieldLink "StaveHouse$Scribe" (12 : Nat) "StaveHouse$Scribe" "event" "LStaveHouse$Event;") ∈ wAll := wA_2 (j := 102) rfl rfl
theorem k_2_126 : (Jvm.Cond.arrayClass Jvm.ClassFile.FieldType.boolean) ∈ wAll := wA_2 (j := 126) rfl rfl
theorem k_2_106 : (Jvm.Cond.fieldLink "StaveHouse$Scribe" (18 : Nat) "StaveHouse$Scribe" "hasTone" "[Z") ∈ wAll := wA_2 (j := 106) rfl rfl
theorem k_2_12 : (Jvm.Cond.code ({ cls := "StaveHouse$Scribe", name := "<init>", desc := "()V" } : Jvm.MethodName) prog_9_method_1_code (1 : Nat) (Option.none : Option Jvm.ClassFile.FieldType)) ∈ wAll := wA_2 (j := 12) rfl rfl
theorem k_2_11 : (Jvm.Cond.instanceMethod ({ cls := "StaveHouse$Scribe", name := "<init>", desc := "()V" } : Jvm.MethodName)) ∈ wAll := wA_2 (j := 11) rfl rfl
theorem k_2_133 : (Jvm.Cond.fieldLink "StaveHouse" (48 : Nat) "StaveHouse" "scribe" "LStaveHouse$Scribe;") ∈ wAll := wA_2 (j := 133) rfl rfl
theorem k_1_50 : (Jvm.Cond.laysFinal "StaveHouse$ByteRow" "StaveHouse$ByteRow" "bytes" "[I") ∈ wAll := wA_1 (j := 50) rfl rfl
theorem k_1_52 : (Jvm.Cond.lays "StaveHouse$ByteRow" "StaveHouse$ByteRow" "size" "I") ∈ wAll := wA_1 (j := 52) rfl rfl
theorem k_1_54 : (Jvm.Cond.lays "StaveHouse$ByteRow" "StaveHouse$ByteRow" "full" "Z") ∈ wAll := wA_1 (j := 54) rfl rfl
theorem k_2_69 : (Jvm.Cond.lays "StaveHouse$Event" "StaveHouse$Event" "place" "J") ∈ wAll := wA_2 (j := 69) rfl rfl
theorem k_2_71 : (Jvm.Cond.lays "StaveHouse$Event" "StaveHouse$Event" "length" "J") ∈ wAll := wA_2 (j := 71) rfl rfl
theorem k_2_73 : (Jvm.Cond.lays "StaveHouse$Event" "StaveHouse$Event" "value" "I") ∈ wAll := wA_2 (j := 73) rfl rfl
theorem k_2_75 : (Jvm.Cond.lays "StaveHouse$Event" "StaveHouse$Event" "tupletFirst" "I") ∈ wAll := wA_2 (j := 75) rfl rfl
theorem k_2_77 : (Jvm.Cond.lays "StaveHouse$Event" "StaveHouse$Event" "tupletSecond" "I") ∈ wAll := wA_2 (j := 77) rfl rfl
theorem k_2_79 : (Jvm.Cond.lays "StaveHouse$Event" "StaveHouse$Event" "bracket" "I") ∈ wAll := wA_2 (j := 79) rfl rfl
theorem k_2_81 : (Jvm.Cond.lays "StaveHouse$Event" "StaveHouse$Event" "bracketPlace" "I") ∈ wAll := wA_2 (j := 81) rfl rfl
theorem k_2_83 : (Jvm.Cond.lays "StaveHouse$Event" "StaveHouse$Event" "marks" "I") ∈ wAll := wA_2 (j := 83) rfl rfl
theorem k_2_85 : (Jvm.Cond.lays "StaveHouse$Event" "StaveHouse$Event" "loud" "I") ∈ wAll := wA_2 (j := 85) rfl rfl
theorem k_2_87 : (Jvm.Cond.lays "StaveHouse$Event" "StaveHouse$Event" "token" "I") ∈ wAll := wA_2 (j := 87) rfl rfl
theorem k_2_89 : (Jvm.Cond.lays "StaveHouse$Event" "StaveHouse$Event" "count" "I") ∈ wAll := wA_2 (j := 89) rfl rfl
theorem k_2_91 : (Jvm.Cond.lays "StaveHouse$Event" "StaveHouse$Event" "slurred" "Z") ∈ wAll := wA_2 (j := 91) rfl rfl
theorem k_2_93 : (Jvm.Cond.laysFinal "StaveHouse$Event" "StaveHouse$Event" "steps" "[I") ∈ wAll := wA_2 (j := 93) rfl rfl
theorem k_2_95 : (Jvm.Cond.laysFinal "StaveHouse$Event" "StaveHouse$Event" "alterations" "[I") ∈ wAll := wA_2 (j := 95) rfl rfl
theorem k_1_139 : (Jvm.Cond.laysFinal "StaveHouse$Parser" "StaveHouse$Parser" "kind" "[I") ∈ wAll := wA_1 (j := 139) rfl rfl
theorem k_1_141 : (Jvm.Cond.laysFinal "StaveHouse$Parser" "StaveHouse$Parser" "place" "[I") ∈ wAll := wA_1 (j := 141) rfl rfl
theorem k_1_143 : (Jvm.Cond.laysFinal "StaveHouse$Parser" "StaveHouse$Parser" "first" "[I") ∈ wAll := wA_1 (j := 143) rfl rfl
theorem k_1_145 : (Jvm.Cond.laysFinal "StaveHouse$Parser" "StaveHouse$Parser" "second" "[I") ∈ wAll := wA_1 (j := 145) rfl rfl
theorem k_1_147 : (Jvm.Cond.laysFinal "StaveHouse$Parser" "StaveHouse$Parser" "child" "[I") ∈ wAll := wA_1 (j := 147) rfl rfl
theorem k_1_149 : (Jvm.Cond.laysFinal "StaveHouse$Parser" "StaveHouse$Parser" "next" "[I") ∈ wAll := wA_1 (j := 149) rfl rfl
theorem k_1_151 : (Jvm.Cond.laysFinal "StaveHouse$Parser" "StaveHouse$Parser" "count" "[I") ∈ wAll := wA_1 (j := 151) rfl rfl
theorem k_1_153 : (Jvm.Cond.laysFinal "StaveHouse$Parser" "StaveHouse$Parser" "marks" "[I") ∈ wAll := wA_1 (j := 153) rfl rfl
theorem k_1_155 : (Jvm.Cond.laysFinal "StaveHouse$Parser" "StaveHouse$Parser" "pitchSteps" "[I") ∈ wAll := wA_1 (j := 155) rfl rfl
theorem k_1_157 : (Jvm.Cond.laysFinal "StaveHouse$Parser" "StaveHouse$Parser" "pitchAlterations" "[I") ∈ wAll := wA_1 (j := 157) rfl rfl
theorem k_1_159 : (Jvm.Cond.laysFinal "StaveHouse$Parser" "StaveHouse$Parser" "pitchPlaces" "[I") ∈ wAll := wA_1 (j := 159) rfl rfl
theorem k_1_161 : (Jvm.Cond.laysFinal "StaveHouse$Parser" "StaveHouse$Parser" "token" "LStaveHouse$Tokens;") ∈ wAll := wA_1 (j := 161) rfl rfl
theorem k_1_163 : (Jvm.Cond.laysFinal "StaveHouse$Parser" "StaveHouse$Parser" "letNames" "[J") ∈ wAll := wA_1 (j := 163) rfl rfl
theorem k_1_165 : (Jvm.Cond.laysFinal "StaveHouse$Parser" "StaveHouse$Parser" "letItems" "[I") ∈ wAll := wA_1 (j := 165) rfl rfl
theorem k_1_167 : (Jvm.Cond.lays "StaveHouse$Parser" "StaveHouse$Parser" "items" "I") ∈ wAll := wA_1 (j := 167) rfl rfl
theorem k_1_169 : (Jvm.Cond.lays "StaveHouse$Parser" "StaveHouse$Parser" "pitches" "I") ∈ wAll := wA_1 (j := 169) rfl rfl
theorem k_1_171 : (Jvm.Cond.lays "StaveHouse$Parser" "StaveHouse$Parser" "lets" "I") ∈ wAll := wA_1 (j := 171) rfl rfl
theorem k_1_173 : (Jvm.Cond.lays "StaveHouse$Parser" "StaveHouse$Parser" "headsTold" "I") ∈ wAll := wA_1 (j := 173) rfl rfl
theorem k_1_175 : (Jvm.Cond.lays "StaveHouse$Parser" "StaveHouse$Parser" "depth" "I") ∈ wAll := wA_1 (j := 175) rfl rfl
theorem k_1_177 : (Jvm.Cond.lays "StaveHouse$Parser" "StaveHouse$Parser" "number" "I") ∈ wAll := wA_1 (j := 177) rfl rfl
theorem k_1_179 : (Jvm.Cond.lays "StaveHouse$Parser" "StaveHouse$Parser" "length" "I") ∈ wAll := wA_1 (j := 179) rfl rfl
theorem k_1_181 : (Jvm.Cond.lays "StaveHouse$Parser" "StaveHouse$Parser" "wrong" "I") ∈ wAll := wA_1 (j := 181) rfl rfl
theorem k_2_107 : (Jvm.Cond.lays "StaveHouse$Scribe" "StaveHouse$Scribe" "source" "LStaveHouse$SoundFile;") ∈ wAll := wA_2 (j := 107) rfl rfl
theorem k_2_109 : (Jvm.Cond.lays "StaveHouse$Scribe" "StaveHouse$Scribe" "page" "LStaveHouse$ByteRow;") ∈ wAll := wA_2 (j := 109) rfl rfl
theorem k_2_111 : (Jvm.Cond.lays "StaveHouse$Scribe" "StaveHouse$Scribe" "grid" "I") ∈ wAll := wA_2 (j := 111) rfl rfl
theorem k_2_113 : (Jvm.Cond.lays "StaveHouse$Scribe" "StaveHouse$Scribe" "bar" "I") ∈ wAll := wA_2 (j := 113) rfl rfl
theorem k_2_115 : (Jvm.Cond.laysFinal "StaveHouse$Scribe" "StaveHouse$Scribe" "event" "LStaveHouse$Event;") ∈ wAll := wA_2 (j := 115) rfl rfl
theorem k_2_117 : (Jvm.Cond.lays "StaveHouse$Scribe" "StaveHouse$Scribe" "from" "J") ∈ wAll := wA_2 (j := 117) rfl rfl
theorem k_2_119 : (Jvm.Cond.lays "StaveHouse$Scribe" "StaveHouse$Scribe" "to" "J") ∈ wAll := wA_2 (j := 119) rfl rfl
theorem k_2_121 : (Jvm.Cond.lays "StaveHouse$Scribe" "StaveHouse$Scribe" "next" "I") ∈ wAll := wA_2 (j := 121) rfl rfl
theorem k_2_123 : (Jvm.Cond.laysFinal "StaveHouse$Scribe" "StaveHouse$Scribe" "hasTone" "[Z") ∈ wAll := wA_2 (j := 123) rfl rfl
theorem k_1_86 : (Jvm.Cond.lays "StaveHouse$Tokens" "StaveHouse$Tokens" "kind" "I") ∈ wAll := wA_1 (j := 86) rfl rfl
theorem k_1_88 : (Jvm.Cond.lays "StaveHouse$Tokens" "StaveHouse$Tokens" "place" "I") ∈ wAll := wA_1 (j := 88) rfl rfl
theorem k_1_90 : (Jvm.Cond.lays "StaveHouse$Tokens" "StaveHouse$Tokens" "value" "J") ∈ wAll := wA_1 (j := 90) rfl rfl
theorem k_1_92 : (Jvm.Cond.lays "StaveHouse$Tokens" "StaveHouse$Tokens" "step" "I") ∈ wAll := wA_1 (j := 92) rfl rfl
theorem k_1_94 : (Jvm.Cond.lays "StaveHouse$Tokens" "StaveHouse$Tokens" "alteration" "I") ∈ wAll := wA_1 (j := 94) rfl rfl
theorem k_1_96 : (Jvm.Cond.laysFinal "StaveHouse$Tokens" "StaveHouse$Tokens" "kinds" "[I") ∈ wAll := wA_1 (j := 96) rfl rfl
theorem k_1_98 : (Jvm.Cond.laysFinal "StaveHouse$Tokens" "StaveHouse$Tokens" "places" "[I") ∈ wAll := wA_1 (j := 98) rfl rfl
theorem k_1_100 : (Jvm.Cond.laysFinal "StaveHouse$Tokens" "StaveHouse$Tokens" "values" "[J") ∈ wAll := wA_1 (j := 100) rfl rfl
theorem k_1_102 : (Jvm.Cond.lays "StaveHouse$Tokens" "StaveHouse$Tokens" "next" "I") ∈ wAll := wA_1 (j := 102) rfl rfl
theorem k_1_209 : (Jvm.Cond.lays "StaveHouse$Walker" "StaveHouse$Walker" "tree" "LStaveHouse$Parser;") ∈ wAll := wA_1 (j := 209) rfl rfl
theorem k_1_211 : (Jvm.Cond.lays "StaveHouse$Walker" "StaveHouse$Walker" "part" "LStaveHouse$Part;") ∈ wAll := wA_1 (j := 211) rfl rfl
theorem k_1_213 : (Jvm.Cond.lays "StaveHouse$Walker" "StaveHouse$Walker" "wrong" "I") ∈ wAll := wA_1 (j := 213) rfl rfl
theorem k_1_215 : (Jvm.Cond.lays "StaveHouse$Walker" "StaveHouse$Walker" "gone" "I") ∈ wAll := wA_1 (j := 215) rfl rfl
theorem k_1_217 : (Jvm.Cond.lays "StaveHouse$Walker" "StaveHouse$Walker" "loud" "I") ∈ wAll := wA_1 (j := 217) rfl rfl
theorem k_1_219 : (Jvm.Cond.lays "StaveHouse$Walker" "StaveHouse$Walker" "backs" "I") ∈ wAll := wA_1 (j := 219) rfl rfl
theorem k_1_221 : (Jvm.Cond.lays "StaveHouse$Walker" "StaveHouse$Walker" "brackets" "I") ∈ wAll := wA_1 (j := 221) rfl rfl
theorem k_1_223 : (Jvm.Cond.lays "StaveHouse$Walker" "StaveHouse$Walker" "bracket" "I") ∈ wAll := wA_1 (j := 223) rfl rfl
theorem k_1_225 : (Jvm.Cond.lays "StaveHouse$Walker" "StaveHouse$Walker" "bracketPlace" "I") ∈ wAll := wA_1 (j := 225) rfl rfl
theorem k_1_227 : (Jvm.Cond.lays "StaveHouse$Walker" "StaveHouse$Walker" "tupletFirst" "I") ∈ wAll := wA_1 (j := 227) rfl rfl
theorem k_1_229 : (Jvm.Cond.lays "StaveHouse$Walker" "StaveHouse$Walker" "tupletSecond" "I") ∈ wAll := wA_1 (j := 229) rfl rfl
theorem k_1_231 : (Jvm.Cond.lays "StaveHouse$Walker" "StaveHouse$Walker" "come" "J") ∈ wAll := wA_1 (j := 231) rfl rfl
theorem k_1_233 : (Jvm.Cond.lays "StaveHouse$Walker" "StaveHouse$Walker" "farthest" "J") ∈ wAll := wA_1 (j := 233) rfl rfl
theorem k_1_235 : (Jvm.Cond.lays "StaveHouse$Walker" "StaveHouse$Walker" "bar" "J") ∈ wAll := wA_1 (j := 235) rfl rfl
theorem k_1_237 : (Jvm.Cond.laysFinal "StaveHouse$Walker" "StaveHouse$Walker" "powers" "[I") ∈ wAll := wA_1 (j := 237) rfl rfl
theorem k_1_239 : (Jvm.Cond.laysFinal "StaveHouse$Walker" "StaveHouse$Walker" "carrySigns" "[I") ∈ wAll := wA_1 (j := 239) rfl rfl
theorem k_2_1 : (Jvm.Cond.laysFinal "StaveHouse$Walker" "StaveHouse$Walker" "carrySteps" "[I") ∈ wAll := wA_2 (j := 1) rfl rfl
theorem k_2_3 : (Jvm.Cond.laysFinal "StaveHouse$Walker" "StaveHouse$Walker" "carryTones" "[I") ∈ wAll := wA_2 (j := 3) rfl rfl
theorem k_2_5 : (Jvm.Cond.lays "StaveHouse$Walker" "StaveHouse$Walker" "carries" "I") ∈ wAll := wA_2 (j := 5) rfl rfl
theorem k_2_137 : (Jvm.Cond.laysFinal "StaveHouse" "StaveHouse" "tape" "LStaveHouse$ByteRow;") ∈ wAll := wA_2 (j := 137) rfl rfl
theorem k_2_139 : (Jvm.Cond.laysFinal "StaveHouse" "StaveHouse" "waiting" "[I") ∈ wAll := wA_2 (j := 139) rfl rfl
theorem k_2_141 : (Jvm.Cond.laysFinal "StaveHouse" "StaveHouse" "written" "LStaveHouse$ByteRow;") ∈ wAll := wA_2 (j := 141) rfl rfl
theorem k_2_143 : (Jvm.Cond.laysFinal "StaveHouse" "StaveHouse" "pieces" "[LStaveHouse$Piece;") ∈ wAll := wA_2 (j := 143) rfl rfl
theorem k_2_145 : (Jvm.Cond.laysFinal "StaveHouse" "StaveHouse" "parser" "LStaveHouse$Parser;") ∈ wAll := wA_2 (j := 145) rfl rfl
theorem k_2_147 : (Jvm.Cond.laysFinal "StaveHouse" "StaveHouse" "walker" "LStaveHouse$Walker;") ∈ wAll := wA_2 (j := 147) rfl rfl
theorem k_2_149 : (Jvm.Cond.laysFinal "StaveHouse" "StaveHouse" "scribe" "LStaveHouse$Scribe;") ∈ wAll := wA_2 (j := 149) rfl rfl
theorem k_2_151 : (Jvm.Cond.lays "StaveHouse" "StaveHouse" "spare" "LStaveHouse$Piece;") ∈ wAll := wA_2 (j := 151) rfl rfl
theorem k_2_153 : (Jvm.Cond.lays "StaveHouse" "StaveHouse" "opened" "LStaveHouse$SoundFile;") ∈ wAll := wA_2 (j := 153) rfl rfl
theorem k_2_155 : (Jvm.Cond.lays "StaveHouse" "StaveHouse" "spareFile" "LStaveHouse$SoundFile;") ∈ wAll := wA_2 (j := 155) rfl rfl
theorem d_1_1_0 : decode prog_1_method_1_code 0 = .ok (.aload_n 0, 1) := by decide +kernel
theorem d_1_1_1 : decode prog_1_method_1_code 1 = .ok (.invokespecial 1, 3) := by decide +kernel
theorem d_1_1_4 : decode prog_1_method_1_code 4 = .ok (.aload_n 0, 1) := by decide +kernel
theorem d_1_1_5 : decode prog_1_method_1_code 5 = .ok (.new 7, 3) := by decide +kernel
theorem d_1_1_8 : decode prog_1_method_1_code 8 = .ok (.dup, 1) := by decide +kernel
theorem d_1_1_9 : decode prog_1_method_1_code 9 = .ok (.sipush 3000, 3) := by decide +kernel
theorem d_1_1_12 : decode prog_1_method_1_code 12 = .ok (.invokespecial 11, 3) := by decide +kernel
theorem d_2_1_0 : decode prog_2_method_1_code 0 = .ok (.aload_n 0, 1) := by decide +kernel
theorem d_2_1_1 : decode prog_2_method_1_code 1 = .ok (.invokespecial 3, 3) := by decide +kernel
theorem d_2_1_4 : decode prog_2_method_1_code 4 = .ok (.aload_n 0, 1) := by decide +kernel
theorem d_2_1_5 : decode prog_2_method_1_code 5 = .ok (.iload_n 1, 1) := by decide +kernel
theorem d_2_1_6 : decode prog_2_method_1_code 6 = .ok (.iconst 1, 1) := by decide +kernel
theorem d_2_1_7 : decode prog_2_method_1_code 7 = .ok (.invokestatic 9, 3) := by decide +kernel
theorem d_2_1_10 : decode prog_2_method_1_code 10 = .ok (.newarray .int, 2) := by decide +kernel
theorem d_2_1_12 : decode prog_2_method_1_code 12 = .ok (.putfield 15, 3) := by decide +kernel
theorem d_2_1_15 : decode prog_2_method_1_code 15 = .ok (.return_, 1) := by decide +kernel
theorem d_1_1_15 : decode prog_1_method_1_code 15 = .ok (.putfield 14, 3) := by decide +kernel
theorem d_1_1_18 : decode prog_1_method_1_code 18 = .ok (.aload_n 0, 1) := by decide +kernel
theorem d_1_1_19 : decode prog_1_method_1_code 19 = .ok (.bipush 20, 2) := by decide +kernel
theorem d_1_1_21 : decode prog_1_method_1_code 21 = .ok (.newarray .int, 2) := by decide +kernel
theorem d_1_1_23 : decode prog_1_method_1_code 23 = .ok (.putfield 18, 3) := by decide +kernel
theorem d_1_1_26 : decode prog_1_method_1_code 26 = .ok (.aload_n 0, 1) := by decide +kernel
theorem d_1_1_27 : decode prog_1_method_1_code 27 = .ok (.new 7, 3) := by decide +kernel
theorem d_1_1_30 : decode prog_1_method_1_code 30 = .ok (.dup, 1) := by decide +kernel
theorem d_1_1_31 : decode prog_1_method_1_code 31 = .ok (.sipush 20480, 3) := by decide +kernel
theorem d_1_1_34 : decode prog_1_method_1_code 34 = .ok (.invokespecial 11, 3) := by decide +kernel
theorem d_1_1_37 : decode prog_1_method_1_code 37 = .ok (.putfield 22, 3) := by decide +kernel
theorem d_1_1_40 : decode prog_1_method_1_code 40 = .ok (.aload_n 0, 1) := by decide +kernel
theorem d_1_1_41 : decode prog_1_method_1_code 41 = .ok (.iconst 2, 1) := by decide +kernel
theorem d_1_1_42 : decode prog_1_method_1_code 42 = .ok (.anewarray 25, 3) := by decide +kernel
theorem d_1_1_45 : decode prog_1_method_1_code 45 = .ok (.putfield 27, 3) := by decide +kernel
theorem d_1_1_48 : decode prog_1_method_1_code 48 = .ok (.aload_n 0, 1) := by decide +kernel
theorem d_1_1_49 : decode prog_1_method_1_code 49 = .ok (.new 31, 3) := by decide +kernel
theorem d_1_1_52 : decode prog_1_method_1_code 52 = .ok (.dup, 1) := by decide +kernel
theorem d_1_1_53 : decode prog_1_method_1_code 53 = .ok (.invokespecial 33, 3) := by decide +kernel
theorem d_5_1_0 : decode prog_5_method_1_code 0 = .ok (.aload_n 0, 1) := by decide +kernel
theorem d_5_1_1 : decode prog_5_method_1_code 1 = .ok (.invokespecial 3, 3) := by decide +kernel
theorem d_5_1_4 : decode prog_5_method_1_code 4 = .ok (.aload_n 0, 1) := by decide +kernel
theorem d_5_1_5 : decode prog_5_method_1_code 5 = .ok (.sipush 3000, 3) := by decide +kernel
theorem d_5_1_8 : decode prog_5_method_1_code 8 = .ok (.newarray .int, 2) := by decide +kernel
theorem d_5_1_10 : decode prog_5_method_1_code 10 = .ok (.putfield 9, 3) := by decide +kernel
theorem d_5_1_13 : decode prog_5_method_1_code 13 = .ok (.aload_n 0, 1) := by decide +kernel
theorem d_5_1_14 : decode prog_5_method_1_code 14 = .ok (.sipush 3000, 3) := by decide +kernel
theorem d_5_1_17 : decode prog_5_method_1_code 17 = .ok (.newarray .int, 2) := by decide +kernel
theorem d_5_1_19 : decode prog_5_method_1_code 19 = .ok (.putfield 15, 3) := by decide +kernel
theorem d_5_1_22 : decode prog_5_method_1_code 22 = .ok (.aload_n 0, 1) := by decide +kernel
theorem d_5_1_23 : decode prog_5_method_1_code 23 = .ok (.sipush 3000, 3) := by decide +kernel
theorem d_5_1_26 : decode prog_5_method_1_code 26 = .ok (.newarray .int, 2) := by decide +kernel
theorem d_5_1_28 : decode prog_5_method_1_code 28 = .ok (.putfield 18, 3) := by decide +kernel
theorem d_5_1_31 : decode prog_5_method_1_code 31 = .ok (.aload_n 0, 1) := by decide +kernel
theorem d_5_1_32 : decode prog_5_method_1_code 32 = .ok (.sipush 3000, 3) := by decide +kernel
theorem d_5_1_35 : decode prog_5_method_1_code 35 = .ok (.newarray .int, 2) := by decide +kernel
theorem d_5_1_37 : decode prog_5_method_1_code 37 = .ok (.putfield 21, 3) := by decide +kernel
theorem d_5_1_40 : decode prog_5_method_1_code 40 = .ok (.aload_n 0, 1) := by decide +kernel
theorem d_5_1_41 : decode prog_5_method_1_code 41 = .ok (.sipush 3000, 3) := by decide +kernel
theorem d_5_1_44 : decode prog_5_method_1_code 44 = .ok (.newarray .int, 2) := by decide +kernel
theorem d_5_1_46 : decode prog_5_method_1_code 46 = .ok (.putfield 24, 3) := by decide +kernel
theorem d_5_1_49 : decode prog_5_method_1_code 49 = .ok (.aload_n 0, 1) := by decide +kernel
theorem d_5_1_50 : decode prog_5_method_1_code 50 = .ok (.sipush 3000, 3) := by decide +kernel
theorem d_5_1_53 : decode prog_5_method_1_code 53 = .ok (.newarray .int, 2) := by decide +kernel
theorem d_5_1_55 : decode prog_5_method_1_code 55 = .ok (.putfield 27, 3) := by decide +kernel
theorem d_5_1_58 : decode prog_5_method_1_code 58 = .ok (.aload_n 0, 1) := by decide +kernel
theorem d_5_1_59 : decode prog_5_method_1_code 59 = .ok (.sipush 3000, 3) := by decide +kernel
theorem d_5_1_62 : decode prog_5_method_1_code 62 = .ok (.newarray .int, 2) := by decide +kernel
theorem d_5_1_64 : decode prog_5_method_1_code 64 = .ok (.putfield 30, 3) := by decide +kernel
theorem d_5_1_67 : decode prog_5_method_1_code 67 = .ok (.aload_n 0, 1) := by decide +kernel
theorem d_5_1_68 : decode prog_5_method_1_code 68 = .ok (.sipush 3000, 3) := by decide +kernel
theorem d_5_1_71 : decode prog_5_method_1_code 71 = .ok (.newarray .int, 2) := by decide +kernel
theorem d_5_1_73 : decode prog_5_method_1_code 73 = .ok (.putfield 33, 3) := by decide +kernel
theorem d_5_1_76 : decode prog_5_method_1_code 76 = .ok (.aload_n 0, 1) := by decide +kernel
theorem d_5_1_77 : decode prog_5_method_1_code 77 = .ok (.sipush 1500, 3) := by decide +kernel
theorem d_5_1_80 : decode prog_5_method_1_code 80 = .ok (.newarray .int, 2) := by decide +kernel
theorem d_5_1_82 : decode prog_5_method_1_code 82 = .ok (.putfield 36, 3) := by decide +kernel
theorem d_5_1_85 : decode prog_5_method_1_code 85 = .ok (.aload_n 0, 1) := by decide +kernel
theorem d_5_1_86 : decode prog_5_method_1_code 86 = .ok (.sipush 1500, 3) := by decide +kernel
theorem d_5_1_89 : decode prog_5_method_1_code 89 = .ok (.newarray .int, 2) := by decide +kernel
theorem d_5_1_91 : decode prog_5_method_1_code 91 = .ok (.putfield 39, 3) := by decide +kernel
theorem d_5_1_94 : decode prog_5_method_1_code 94 = .ok (.aload_n 0, 1) := by decide +kernel
theorem d_5_1_95 : decode prog_5_method_1_code 95 = .ok (.sipush 1500, 3) := by decide +kernel
theorem d_5_1_98 : decode prog_5_method_1_code 98 = .ok (.newarray .int, 2) := by decide +kernel
theorem d_5_1_100 : decode prog_5_method_1_code 100 = .ok (.putfield 42, 3) := by decide +kernel
theorem d_5_1_103 : decode prog_5_method_1_code 103 = .ok (.aload_n 0, 1) := by decide +kernel
theorem d_5_1_104 : decode prog_5_method_1_code 104 = .ok (.new 45, 3) := by decide +kernel
theorem d_5_1_107 : decode prog_5_method_1_code 107 = .ok (.dup, 1) := by decide +kernel
theorem d_5_1_108 : decode prog_5_method_1_code 108 = .ok (.invokespecial 47, 3) := by decide +kernel
theorem d_12_1_0 : decode prog_12_method_1_code 0 = .ok (.aload_n 0, 1) := by decide +kernel
theorem d_12_1_1 : decode prog_12_method_1_code 1 = .ok (.invokespecial 3, 3) := by decide +kernel
theorem d_12_1_4 : decode prog_12_method_1_code 4 = .ok (.aload_n 0, 1) := by decide +kernel
theorem d_12_1_5 : decode prog_12_method_1_code 5 = .ok (.sipush 3001, 3) := by decide +kernel
theorem d_12_1_8 : decode prog_12_method_1_code 8 = .ok (.newarray .int, 2) := by decide +kernel
theorem d_12_1_10 : decode prog_12_method_1_code 10 = .ok (.putfield 9, 3) := by decide +kernel
theorem d_12_1_13 : decode prog_12_method_1_code 13 = .ok (.aload_n 0, 1) := by decide +kernel
theorem d_12_1_14 : decode prog_12_method_1_code 14 = .ok (.sipush 3001, 3) := by decide +kernel
theorem d_12_1_17 : decode prog_12_method_1_code 17 = .ok (.newarray .int, 2) := by decide +kernel
theorem d_12_1_19 : decode prog_12_method_1_code 19 = .ok (.putfield 15, 3) := by decide +kernel
theorem d_12_1_22 : decode prog_12_method_1_code 22 = .ok (.aload_n 0, 1) := by decide +kernel
theorem d_12_1_23 : decode prog_12_method_1_code 23 = .ok (.sipush 3001, 3) := by decide +kernel
theorem d_12_1_26 : decode prog_12_method_1_code 26 = .ok (.newarray .long, 2) := by decide +kernel
theorem d_12_1_28 : decode prog_12_method_1_code 28 = .ok (.putfield 18, 3) := by decide +kernel
theorem d_12_1_31 : decode prog_12_method_1_code 31 = .ok (.return_, 1) := by decide +kernel
theorem d_5_1_111 : decode prog_5_method_1_code 111 = .ok (.putfield 48, 3) := by decide +kernel
theorem d_5_1_114 : decode prog_5_method_1_code 114 = .ok (.aload_n 0, 1) := by decide +kernel
theorem d_5_1_115 : decode prog_5_method_1_code 115 = .ok (.bipush 6, 2) := by decide +kernel
theorem d_5_1_117 : decode prog_5_method_1_code 117 = .ok (.newarray .long, 2) := by decide +kernel
theorem d_5_1_119 : decode prog_5_method_1_code 119 = .ok (.putfield 52, 3) := by decide +kernel
theorem d_5_1_122 : decode prog_5_method_1_code 122 = .ok (.aload_n 0, 1) := by decide +kernel
theorem d_5_1_123 : decode prog_5_method_1_code 123 = .ok (.bipush 6, 2) := by decide +kernel
theorem d_5_1_125 : decode prog_5_method_1_code 125 = .ok (.newarray .int, 2) := by decide +kernel
theorem d_5_1_127 : decode prog_5_method_1_code 127 = .ok (.putfield 56, 3) := by decide +kernel
theorem d_5_1_130 : decode prog_5_method_1_code 130 = .ok (.return_, 1) := by decide +kernel
theorem d_1_1_56 : decode prog_1_method_1_code 56 = .ok (.putfield 34, 3) := by decide +kernel
theorem d_1_1_59 : decode prog_1_method_1_code 59 = .ok (.aload_n 0, 1) := by decide +kernel
theorem d_1_1_60 : decode prog_1_method_1_code 60 = .ok (.new 38, 3) := by decide +kernel
theorem d_1_1_63 : decode prog_1_method_1_code 63 = .ok (.dup, 1) := by decide +kernel
theorem d_1_1_64 : decode prog_1_method_1_code 64 = .ok (.invokespecial 40, 3) := by decide +kernel
theorem d_13_1_0 : decode prog_13_method_1_code 0 = .ok (.aload_n 0, 1) := by decide +kernel
theorem d_13_1_1 : decode prog_13_method_1_code 1 = .ok (.invokespecial 3, 3) := by decide +kernel
theorem d_13_1_4 : decode prog_13_method_1_code 4 = .ok (.aload_n 0, 1) := by decide +kernel
theorem d_13_1_5 : decode prog_13_method_1_code 5 = .ok (.iconst 4, 1) := by decide +kernel
theorem d_13_1_6 : decode prog_13_method_1_code 6 = .ok (.newarray .int, 2) := by decide +kernel
theorem d_13_1_8 : decode prog_13_method_1_code 8 = .ok (.putfield 9, 3) := by decide +kernel
theorem d_13_1_11 : decode prog_13_method_1_code 11 = .ok (.aload_n 0, 1) := by decide +kernel
theorem d_13_1_12 : decode prog_13_method_1_code 12 = .ok (.bipush 64, 2) := by decide +kernel
theorem d_13_1_14 : decode prog_13_method_1_code 14 = .ok (.newarray .int, 2) := by decide +kernel
theorem d_13_1_16 : decode prog_13_method_1_code 16 = .ok (.putfield 15, 3) := by decide +kernel
theorem d_13_1_19 : decode prog_13_method_1_code 19 = .ok (.aload_n 0, 1) := by decide +kernel
theorem d_13_1_20 : decode prog_13_method_1_code 20 = .ok (.bipush 64, 2) := by decide +kernel
theorem d_13_1_22 : decode prog_13_method_1_code 22 = .ok (.newarray .int, 2) := by decide +kernel
theorem d_13_1_24 : decode prog_13_method_1_code 24 = .ok (.putfield 18, 3) := by decide +kernel
theorem d_13_1_27 : decode prog_13_method_1_code 27 = .ok (.aload_n 0, 1) := by decide +kernel
theorem d_13_1_28 : decode prog_13_method_1_code 28 = .ok (.bipush 64, 2) := by decide +kernel
theorem d_13_1_30 : decode prog_13_method_1_code 30 = .ok (.newarray .int, 2) := by decide +kernel
theorem d_13_1_32 : decode prog_13_method_1_code 32 = .ok (.putfield 21, 3) := by decide +kernel
theorem d_13_1_35 : decode prog_13_method_1_code 35 = .ok (.return_, 1) := by decide +kernel
theorem d_1_1_67 : decode prog_1_method_1_code 67 = .ok (.putfield 41, 3) := by decide +kernel
theorem d_1_1_70 : decode prog_1_method_1_code 70 = .ok (.aload_n 0, 1) := by decide +kernel
theorem d_1_1_71 : decode prog_1_method_1_code 71 = .ok (.new 45, 3) := by decide +kernel
theorem d_1_1_74 : decode prog_1_method_1_code 74 = .ok (.dup, 1) := by decide +kernel
theorem d_1_1_75 : decode prog_1_method_1_code 75 = .ok (.invokespecial 47, 3) := by decide +kernel
theorem d_9_1_0 : decode prog_9_method_1_code 0 = .ok (.aload_n 0, 1) := by decide +kernel
theorem d_9_1_1 : decode prog_9_method_1_code 1 = .ok (.invokespecial 3, 3) := by decide +kernel
theorem d_9_1_4 : decode prog_9_method_1_code 4 = .ok (.aload_n 0, 1) := by decide +kernel
theorem d_9_1_5 : decode prog_9_method_1_code 5 = .ok (.new 9, 3) := by decide +kernel
theorem d_9_1_8 : decode prog_9_method_1_code 8 = .ok (.dup, 1) := by decide +kernel
theorem d_9_1_9 : decode prog_9_method_1_code 9 = .ok (.invokespecial 11, 3) := by decide +kernel
theorem d_3_1_0 : decode prog_3_method_1_code 0 = .ok (.aload_n 0, 1) := by decide +kernel
theorem d_3_1_1 : decode prog_3_method_1_code 1 = .ok (.invokespecial 3, 3) := by decide +kernel
theorem d_3_1_4 : decode prog_3_method_1_code 4 = .ok (.aload_n 0, 1) := by decide +kernel
theorem d_3_1_5 : decode prog_3_method_1_code 5 = .ok (.bipush 6, 2) := by decide +kernel
theorem d_3_1_7 : decode prog_3_method_1_code 7 = .ok (.newarray .int, 2) := by decide +kernel
theorem d_3_1_9 : decode prog_3_method_1_code 9 = .ok (.putfield 9, 3) := by decide +kernel
theorem d_3_1_12 : decode prog_3_method_1_code 12 = .ok (.aload_n 0, 1) := by decide +kernel
theorem d_3_1_13 : decode prog_3_method_1_code 13 = .ok (.bipush 6, 2) := by decide +kernel
theorem d_3_1_15 : decode prog_3_method_1_code 15 = .ok (.newarray .int, 2) := by decide +kernel
theorem d_3_1_17 : decode prog_3_method_1_code 17 = .ok (.putfield 15, 3) := by decide +kernel
theorem d_3_1_20 : decode prog_3_method_1_code 20 = .ok (.return_, 1) := by decide +kernel
theorem d_9_1_12 : decode prog_9_method_1_code 12 = .ok (.putfield 12, 3) := by decide +kernel
theorem d_9_1_15 : decode prog_9_method_1_code 15 = .ok (.aload_n 0, 1) := by decide +kernel
theorem d_9_1_16 : decode prog_9_method_1_code 16 = .ok (.sipush 128, 3) := by decide +kernel
theorem d_9_1_19 : decode prog_9_method_1_code 19 = .ok (.newarray .boolean, 2) := by decide +kernel
theorem d_9_1_21 : decode prog_9_method_1_code 21 = .ok (.putfield 18, 3) := by decide +kernel
theorem d_9_1_24 : decode prog_9_method_1_code 24 = .ok (.return_, 1) := by decide +kernel
theorem d_1_1_78 : decode prog_1_method_1_code 78 = .ok (.putfield 48, 3) := by decide +kernel
theorem d_1_1_81 : decode prog_1_method_1_code 81 = .ok (.return_, 1) := by decide +kernel
set_option maxRecDepth 20000 in
theorem inW_0 : ∀ w ∈ u_ws RX0 TX0 3, w ∈ wAll := by
  show ∀ w ∈ [(Jvm.Cond.laysFinal "StaveHouse$ByteRow" "StaveHouse$ByteRow" "bytes" "[I"), (Jvm.Cond.lays "StaveHouse$ByteRow" "StaveHouse$ByteRow" "size" "I"), (Jvm.Cond.lays "StaveHouse$ByteRow" "StaveHouse$ByteRow" "full" "Z")], w ∈ wAll
  exact List.forall_mem_cons.mpr ⟨k_1_50, List.forall_mem_cons.mpr ⟨k_1_52, List.forall_mem_cons.mpr ⟨k_1_54, fun _ h => absurd h List.not_mem_nil⟩⟩⟩
set_option maxRecDepth 20000 in
theorem inW_1 : ∀ w ∈ u_ws RX1 TX1 14, w ∈ wAll := by
  show ∀ w ∈ [(Jvm.Cond.lays "StaveHouse$Event" "StaveHouse$Event" "place" "J"), (Jvm.Cond.lays "StaveHouse$Event" "StaveHouse$Event" "length" "J"), (Jvm.Cond.lays "StaveHouse$Event" "StaveHouse$Event" "value" "I"), (Jvm.Cond.lays "StaveHouse$Event" "StaveHouse$Event" "tupletFirst" "I"), (Jvm.Cond.lays "StaveHouse$Event" "StaveHouse$Event" "tupletSecond" "I"), (Jvm.Cond.lays "StaveHouse$Event" "StaveHouse$Event" "bracket" "I"), (Jvm.Cond.lays "StaveHouse$Event" "StaveHouse$Event" "bracketPlace" "I"), (Jvm.Cond.lays "StaveHouse$Event" "StaveHouse$Event" "marks" "I"), (Jvm.Cond.lays "StaveHouse$Event" "StaveHouse$Event" "loud" "I"), (Jvm.Cond.lays "StaveHouse$Event" "StaveHouse$Event" "token" "I"), (Jvm.Cond.lays "StaveHouse$Event" "StaveHouse$Event" "count" "I"), (Jvm.Cond.lays "StaveHouse$Event" "StaveHouse$Event" "slurred" "Z"), (Jvm.Cond.laysFinal "StaveHouse$Event" "StaveHouse$Event" "steps" "[I"), (Jvm.Cond.laysFinal "StaveHouse$Event" "StaveHouse$Event" "alterations" "[I")], w ∈ wAll
  exact List.forall_mem_cons.mpr ⟨k_2_69, List.forall_mem_cons.mpr ⟨k_2_71, List.forall_mem_cons.mpr ⟨k_2_73, List.forall_mem_cons.mpr ⟨k_2_75, List.forall_mem_cons.mpr ⟨k_2_77, List.forall_mem_cons.mpr ⟨k_2_79, List.forall_mem_cons.mpr ⟨k_2_81, List.forall_mem_cons.mpr ⟨k_2_83, List.forall_mem_cons.mpr ⟨k_2_85, List.forall_mem_cons.mpr ⟨k_2_87, List.forall_mem_cons.mpr ⟨k_2_89, List.forall_mem_cons.mpr ⟨k_2_91, List.forall_mem_cons.mpr ⟨k_2_93, List.forall_mem_cons.mpr ⟨k_2_95, fun _ h => absurd h List.not_mem_nil⟩⟩⟩⟩⟩⟩⟩⟩⟩⟩⟩⟩⟩⟩
set_option maxRecDepth 20000 in
theorem inW_3 : ∀ w ∈ u_ws RX3 TX3 22, w ∈ wAll := by
  show ∀ w ∈ [(Jvm.Cond.laysFinal "StaveHouse$Parser" "StaveHouse$Parser" "kind" "[I"), (Jvm.Cond.laysFinal "StaveHouse$Parser" "StaveHouse$Parser" "place" "[I"), (Jvm.Cond.laysFinal "StaveHouse$Parser" "StaveHouse$Parser" "first" "[I"), (Jvm.Cond.laysFinal "StaveHouse$Parser" "StaveHouse$Parser" "second" "[I"), (Jvm.Cond.laysFinal "StaveHouse$Parser" "StaveHouse$Parser" "child" "[I"), (Jvm.Cond.laysFinal "StaveHouse$Parser" "StaveHouse$Parser" "next" "[I"), (Jvm.Cond.laysFinal "StaveHouse$Parser" "StaveHouse$Parser" "count" "[I"), (Jvm.Cond.laysFinal "StaveHouse$Parser" "StaveHouse$Parser" "marks" "[I"), (Jvm.Cond.laysFinal "StaveHouse$Parser" "StaveHouse$Parser" "pitchSteps" "[I"), (Jvm.Cond.laysFinal "StaveHouse$Parser" "StaveHouse$Parser" "pitchAlterations" "[I"), (Jvm.Cond.laysFinal "StaveHouse$Parser" "StaveHouse$Parser" "pitchPlaces" "[I"), (Jvm.Cond.laysFinal "StaveHouse$Parser" "StaveHouse$Parser" "token" "LStaveHouse$Tokens;"), (Jvm.Cond.laysFinal "StaveHouse$Parser" "StaveHouse$Parser" "letNames" "[J"), (Jvm.Cond.laysFinal "StaveHouse$Parser" "StaveHouse$Parser" "letItems" "[I"), (Jvm.Cond.lays "StaveHouse$Parser" "StaveHouse$Parser" "items" "I"), (Jvm.Cond.lays "StaveHouse$Parser" "StaveHouse$Parser" "pitches" "I"), (Jvm.Cond.lays "StaveHouse$Parser" "StaveHouse$Parser" "lets" "I"), (Jvm.Cond.lays "StaveHouse$Parser" "StaveHouse$Parser" "headsTold" "I"), (Jvm.Cond.lays "StaveHouse$Parser" "StaveHouse$Parser" "depth" "I"), (Jvm.Cond.lays "StaveHouse$Parser" "StaveHouse$Parser" "number" "I"), (Jvm.Cond.lays "StaveHouse$Parser" "StaveHouse$Parser" "length" "I"), (Jvm.Cond.lays "StaveHouse$Parser" "StaveHouse$Parser" "wrong" "I")], w ∈ wAll
  exact List.forall_mem_cons.mpr ⟨k_1_139, List.forall_mem_cons.mpr ⟨k_1_141, List.forall_mem_cons.mpr ⟨k_1_143, List.forall_mem_cons.mpr ⟨k_1_145, List.forall_mem_cons.mpr ⟨k_1_147, List.forall_mem_cons.mpr ⟨k_1_149, List.forall_mem_cons.mpr ⟨k_1_151, List.forall_mem_cons.mpr ⟨k_1_153, List.forall_mem_cons.mpr ⟨k_1_155, List.forall_mem_cons.mpr ⟨k_1_157, List.forall_mem_cons.mpr ⟨k_1_159, List.forall_mem_cons.mpr ⟨k_1_161, List.forall_mem_cons.mpr ⟨k_1_163, List.forall_mem_cons.mpr ⟨k_1_165, List.forall_mem_cons.mpr ⟨k_1_167, List.forall_mem_cons.mpr ⟨k_1_169, List.forall_mem_cons.mpr ⟨k_1_171, List.forall_mem_cons.mpr ⟨k_1_173, List.forall_mem_cons.mpr ⟨k_1_175, List.forall_mem_cons.mpr ⟨k_1_177, List.forall_mem_cons.mpr ⟨k_1_179, List.forall_mem_cons.mpr ⟨k_1_181, fun _ h => absurd h List.not_mem_nil⟩⟩⟩⟩⟩⟩⟩⟩⟩⟩⟩⟩⟩⟩⟩⟩⟩⟩⟩⟩⟩⟩
set_option maxRecDepth 20000 in
theorem inW_7 : ∀ w ∈ u_ws RX7 TX7 9, w ∈ wAll := by
  show ∀ w ∈ [(Jvm.Cond.lays "StaveHouse$Scribe" "StaveHouse$Scribe" "source" "LStaveHouse$SoundFile;"), (Jvm.Cond.lays "StaveHouse$Scribe" "StaveHouse$Scribe" "page" "LStaveHouse$ByteRow;"), (Jvm.Cond.lays "StaveHouse$Scribe" "StaveHouse$Scribe" "grid" "I"), (Jvm.Cond.lays "StaveHouse$Scribe" "StaveHouse$Scribe" "bar" "I"), (Jvm.Cond.laysFinal "StaveHouse$Scribe" "StaveHouse$Scribe" "event" "LStaveHouse$Event;"), (Jvm.Cond.lays "StaveHouse$Scribe" "StaveHouse$Scribe" "from" "J"), (Jvm.Cond.lays "StaveHouse$Scribe" "StaveHouse$Scribe" "to" "J"), (Jvm.Cond.lays "StaveHouse$Scribe" "StaveHouse$Scribe" "next" "I"), (Jvm.Cond.laysFinal "StaveHouse$Scribe" "StaveHouse$Scribe" "hasTone" "[Z")], w ∈ wAll
  exact List.forall_mem_cons.mpr ⟨k_2_107, List.forall_mem_cons.mpr ⟨k_2_109, List.forall_mem_cons.mpr ⟨k_2_111, List.forall_mem_cons.mpr ⟨k_2_113, List.forall_mem_cons.mpr ⟨k_2_115, List.forall_mem_cons.mpr ⟨k_2_117, List.forall_mem_cons.mpr ⟨k_2_119, List.forall_mem_cons.mpr ⟨k_2_121, List.forall_mem_cons.mpr ⟨k_2_123, fun _ h => absurd h List.not_mem_nil⟩⟩⟩⟩⟩⟩⟩⟩⟩
set_option maxRecDepth 20000 in
theorem inW_10 : ∀ w ∈ u_ws RX10 TX10 9, w ∈ wAll := by
  show ∀ w ∈ [(Jvm.Cond.lays "StaveHouse$Tokens" "StaveHouse$Tokens" "kind" "I"), (Jvm.Cond.lays "StaveHouse$Tokens" "StaveHouse$Tokens" "place" "I"), (Jvm.Cond.lays "StaveHouse$Tokens" "StaveHouse$Tokens" "value" "J"), (Jvm.Cond.lays "StaveHouse$Tokens" "StaveHouse$Tokens" "step" "I"), (Jvm.Cond.lays "StaveHouse$Tokens" "StaveHouse$Tokens" "alteration" "I"), (Jvm.Cond.laysFinal "StaveHouse$Tokens" "StaveHouse$Tokens" "kinds" "[I"), (Jvm.Cond.laysFinal "StaveHouse$Tokens" "StaveHouse$Tokens" "places" "[I"), (Jvm.Cond.laysFinal "StaveHouse$Tokens" "StaveHouse$Tokens" "values" "[J"), (Jvm.Cond.lays "StaveHouse$Tokens" "StaveHouse$Tokens" "next" "I")], w ∈ wAll
  exact List.forall_mem_cons.mpr ⟨k_1_86, List.forall_mem_cons.mpr ⟨k_1_88, List.forall_mem_cons.mpr ⟨k_1_90, List.forall_mem_cons.mpr ⟨k_1_92, List.forall_mem_cons.mpr ⟨k_1_94, List.forall_mem_cons.mpr ⟨k_1_96, List.forall_mem_cons.mpr ⟨k_1_98, List.forall_mem_cons.mpr ⟨k_1_100, List.forall_mem_cons.mpr ⟨k_1_102, fun _ h => absurd h List.not_mem_nil⟩⟩⟩⟩⟩⟩⟩⟩⟩
set_option maxRecDepth 20000 in
theorem inW_11 : ∀ w ∈ u_ws RX11 TX11 19, w ∈ wAll := by
  show ∀ w ∈ [(Jvm.Cond.lays "StaveHouse$Walker" "StaveHouse$Walker" "tree" "LStaveHouse$Parser;"), (Jvm.Cond.lays "StaveHouse$Walker" "StaveHouse$Walker" "part" "LStaveHouse$Part;"), (Jvm.Cond.lays "StaveHouse$Walker" "StaveHouse$Walker" "wrong" "I"), (Jvm.Cond.lays "StaveHouse$Walker" "StaveHouse$Walker" "gone" "I"), (Jvm.Cond.lays "StaveHouse$Walker" "StaveHouse$Walker" "loud" "I"), (Jvm.Cond.lays "StaveHouse$Walker" "StaveHouse$Walker" "backs" "I"), (Jvm.Cond.lays "StaveHouse$Walker" "StaveHouse$Walker" "brackets" "I"), (Jvm.Cond.lays "StaveHouse$Walker" "StaveHouse$Walker" "bracket" "I"), (Jvm.Cond.lays "StaveHouse$Walker" "StaveHouse$Walker" "bracketPlace" "I"), (Jvm.Cond.lays "StaveHouse$Walker" "StaveHouse$Walker" "tupletFirst" "I"), (Jvm.Cond.lays "StaveHouse$Walker" "StaveHouse$Walker" "tupletSecond" "I"), (Jvm.Cond.lays "StaveHouse$Walker" "StaveHouse$Walker" "come" "J"), (Jvm.Cond.lays "StaveHouse$Walker" "StaveHouse$Walker" "farthest" "J"), (Jvm.Cond.lays "StaveHouse$Walker" "StaveHouse$Walker" "bar" "J"), (Jvm.Cond.laysFinal "StaveHouse$Walker" "StaveHouse$Walker" "powers" "[I"), (Jvm.Cond.laysFinal "StaveHouse$Walker" "StaveHouse$Walker" "carrySigns" "[I"), (Jvm.Cond.laysFinal "StaveHouse$Walker" "StaveHouse$Walker" "carrySteps" "[I"), (Jvm.Cond.laysFinal "StaveHouse$Walker" "StaveHouse$Walker" "carryTones" "[I"), (Jvm.Cond.lays "StaveHouse$Walker" "StaveHouse$Walker" "carries" "I")], w ∈ wAll
  exact List.forall_mem_cons.mpr ⟨k_1_209, List.forall_mem_cons.mpr ⟨k_1_211, List.forall_mem_cons.mpr ⟨k_1_213, List.forall_mem_cons.mpr ⟨k_1_215, List.forall_mem_cons.mpr ⟨k_1_217, List.forall_mem_cons.mpr ⟨k_1_219, List.forall_mem_cons.mpr ⟨k_1_221, List.forall_mem_cons.mpr ⟨k_1_223, List.forall_mem_cons.mpr ⟨k_1_225, List.forall_mem_cons.mpr ⟨k_1_227, List.forall_mem_cons.mpr ⟨k_1_229, List.forall_mem_cons.mpr ⟨k_1_231, List.forall_mem_cons.mpr ⟨k_1_233, List.forall_mem_cons.mpr ⟨k_1_235, List.forall_mem_cons.mpr ⟨k_1_237, List.forall_mem_cons.mpr ⟨k_1_239, List.forall_mem_cons.mpr ⟨k_2_1, List.forall_mem_cons.mpr ⟨k_2_3, List.forall_mem_cons.mpr ⟨k_2_5, fun _ h => absurd h List.not_mem_nil⟩⟩⟩⟩⟩⟩⟩⟩⟩⟩⟩⟩⟩⟩⟩⟩⟩⟩⟩
set_option maxRecDepth 20000 in
theorem inW_12 : ∀ w ∈ u_ws RX12 TX12 10, w ∈ wAll := by
  show ∀ w ∈ [(Jvm.Cond.laysFinal "StaveHouse" "StaveHouse" "tape" "LStaveHouse$ByteRow;"), (Jvm.Cond.laysFinal "StaveHouse" "StaveHouse" "waiting" "[I"), (Jvm.Cond.laysFinal "StaveHouse" "StaveHouse" "written" "LStaveHouse$ByteRow;"), (Jvm.Cond.laysFinal "StaveHouse" "StaveHouse" "pieces" "[LStaveHouse$Piece;"), (Jvm.Cond.laysFinal "StaveHouse" "StaveHouse" "parser" "LStaveHouse$Parser;"), (Jvm.Cond.laysFinal "StaveHouse" "StaveHouse" "walker" "LStaveHouse$Walker;"), (Jvm.Cond.laysFinal "StaveHouse" "StaveHouse" "scribe" "LStaveHouse$Scribe;"), (Jvm.Cond.lays "StaveHouse" "StaveHouse" "spare" "LStaveHouse$Piece;"), (Jvm.Cond.lays "StaveHouse" "StaveHouse" "opened" "LStaveHouse$SoundFile;"), (Jvm.Cond.lays "StaveHouse" "StaveHouse" "spareFile" "LStaveHouse$SoundFile;")], w ∈ wAll
  exact List.forall_mem_cons.mpr ⟨k_2_137, List.forall_mem_cons.mpr ⟨k_2_139, List.forall_mem_cons.mpr ⟨k_2_141, List.forall_mem_cons.mpr ⟨k_2_143, List.forall_mem_cons.mpr ⟨k_2_145, List.forall_mem_cons.mpr ⟨k_2_147, List.forall_mem_cons.mpr ⟨k_2_149, List.forall_mem_cons.mpr ⟨k_2_151, List.forall_mem_cons.mpr ⟨k_2_153, List.forall_mem_cons.mpr ⟨k_2_155, fun _ h => absurd h List.not_mem_nil⟩⟩⟩⟩⟩⟩⟩⟩⟩⟩
abbrev Q_ByteRow_init_0 (D : va_G) (ca : Nat → ClassId) (a0 : Nat) (g0 : Nat → Value) (A : Nat → Prop) : Array Value → State → Outcome → State → Prop := va_Qv (S := (Nat → Value) × (Nat) × (Nat → Int32)) (fun (u : (Nat → Value) × (Nat) × (Nat → Int32)) => gM g0 u.1 [0] ∧ gF u.1 [(0, .ref u.2.1)] ∧ gF u.2.2 []) (fun u => gB D ca A [(a0, .inr (0, rg 3 u.1)), (u.2.1, .inl (ca 0, 3000, .inl u.2.2))]) A
set_option maxHeartbeats 8000000 in
set_option maxRecDepth 100000 in
theorem c_ByteRow_init_0 (l : Launch) (D : va_G) (ca : Nat → ClassId) (ad av : Nat → Nat) (sz : Nat) (a0 : Nat) (g0 : Nat → Value) (hp0 : gF g0 []) : Met l ({ cls := "StaveHouse$ByteRow", name := "<init>", desc := "(I)V" } : Jvm.MethodName) (Cond.code ({ cls := "StaveHouse$ByteRow", name := "<init>", desc := "(I)V" } : Jvm.MethodName) prog_2_method_1_code 2 (Option.none : Option Jvm.ClassFile.FieldType) :: wAll) ({ frames := 1, cells := 1, slots := 3000, locals := 14 } : Room) (va_Pc [.ref a0, .int 3000] (gPre D ca ad av [(a0, .inr (0, rg 3 g0))] sz)) (Q_ByteRow_init_0 D ca a0 g0 (va_A [(a0, .inr (0, rg 3 g0))] sz)) 1 3000 (va_A [(a0, .inr (0, rg 3 g0))] sz) := by
  refine gMet (Qc := Q_ByteRow_init_0 D ca a0 g0) (lv := [(0, .ref a0), (1, .int 3000)]) (by decide) (Nat.le_of_ble_eq_true rfl) rfl (fun A p e s m below meth c ls hx hb hr hml hown hts hlk hnm hl hP hK hD hS hA hX => ?_)
  have hown : s.vm.findClass "StaveHouse$ByteRow" = some m.cls := hown
  have hnm : meth.name = "<init>" := hnm
  refine lv_aload_n hx hb d_2_1_0 rfl (lv_at hl 0 rfl) ?_
  refine W.objInit hx hb hown (hts _ k_1_37) (hts _ k_1_30) (hts _ k_1_31) rfl (by rw [hml]; exact hl.1) rfl d_2_1_1 (Nat.le_of_ble_eq_true rfl) (Nat.le_of_ble_eq_true rfl) ?_
  refine W.eq (g2 := F0 m 4 ls []) rfl ?_
  refine lv_aload_n hx hb d_2_1_4 rfl (lv_at hl 0 rfl) ?_
  refine lv_iload_n hx hb d_2_1_5 rfl (lv_at hl 1 rfl) ?_
  refine lv_iconst (v := 1) hx hb d_2_1_6 (by decide) ?_
  refine va_mmax hx hb (by rw [hml]; exact hl.1.symm) hown (hts _ k_1_38) (hts _ k_1_39) (hts _ k_1_3) (hts _ k_1_40) (Nat.le_of_ble_eq_true rfl) (Nat.le_of_ble_eq_true rfl) (Nat.le_of_ble_eq_true rfl) (Nat.le_of_ble_eq_true rfl) d_2_1_7 ?_
  refine lv_topi (fun y1 ey1 => ?_)
  obtain rfl : y1 = 3000 := ey1.trans (by decide)
  refine gnewa (atype := .int) hx hb hts (ty := .int) rfl k_1_57 hK 0 rfl (fun _ _ => gu_int) hP hD hS hA (a0 := (3000, .inl (fun _ => 0))) (fun _ => rfl) (by decide) (N' := 3000) (by decide) (Nat.le_of_ble_eq_true rfl) (Nat.le_of_ble_eq_true rfl) (Nat.le_of_ble_eq_true rfl) d_2_1_10 (fun q2 H2 hP2 hD2 hS2 => ?_)
  obtain ⟨f2, hF2, hP2, hD2⟩ : ∃ f : Nat → Int32, gF f [] ∧ va_P D cls ([(a0, .inr (0, rg 3 g0))] ++ [(q2, .inl (ca 0, 3000, .inl f))]) H2 ∧ va_D A ([(a0, .inr (0, rg 3 g0))] ++ [(q2, .inl (ca 0, 3000, .inl f))]) := ⟨_, gF_nil, hP2, hD2⟩
  have hP2 : va_P D cls [(a0, .inr (0, rg 3 g0)), (q2, .inl (ca 0, 3000, .inl f2))] H2 := hP2
  have hD2 : va_D A [(a0, .inr (0, rg 3 g0)), (q2, .inl (ca 0, 3000, .inl f2))] := hD2
  refine W.widen (k := 1) (n := 3000) (Nat.le_of_ble_eq_true rfl) (Nat.le_of_ble_eq_true rfl) ?_
  refine gputF hx hb hts inW_0 tyX0 tyX0_ok nmX0 hown hK hP2 hD2 hS2 0 rfl rfl hp0 0 (by decide) k_1_41 rfl hnm rfl rfl rfl d_2_1_12 (L' := [(0, .ref q2)]) rfl (fun f3 H3 locs3 hF3 hm3 hP3 hD3 hS3 => ?_)
  have hM3 := gM.tr (gM.rf (f := g0)) hm3
  have hP3 : va_P D cls [(a0, .inr (0, rg 3 f3)), (q2, .inl (ca 0, 3000, .inl f2))] H3 := hP3
  have hD3 : va_D A [(a0, .inr (0, rg 3 f3)), (q2, .inl (ca 0, 3000, .inl f2))] := hD3
  clear hP2 hD2 hS2 hm3
  have hP9 := hP3.sub (ws' := [(a0, .inr (0, rg 3 f3)), (q2, .inl (ca 0, 3000, .inl f2))]) [0, 1] rfl
  have hD9 := hD3.sub (ws' := [(a0, .inr (0, rg 3 f3)), (q2, .inl (ca 0, 3000, .inl f2))]) [0, 1] (by decide) rfl
  refine W.widen (k := 1) (n := 3000) (Nat.le_of_ble_eq_true rfl) (Nat.le_of_ble_eq_true rfl) ?_
  exact W.vret hx hb hr (fun t ht hW => ⟨⟨(f3, q2, f2), rfl, ⟨hM3.mono (by decide), hF3.sub [0] rfl, hF2.sub [] rfl⟩, by rw [ht]; exact hP9, va_K.moved hW.alike hK, hD9⟩, hS3.F ht⟩) hS3.2.2 d_2_1_15
abbrev Q_ByteRow_init_1 (D : va_G) (ca : Nat → ClassId) (a0 : Nat) (g0 : Nat → Value) (A : Nat → Prop) : Array Value → State → Outcome → State → Prop := va_Qv (S := (Nat → Value) × (Nat) × (Nat → Int32)) (fun (u : (Nat → Value) × (Nat) × (Nat → Int32)) => gM g0 u.1 [0] ∧ gF u.1 [(0, .ref u.2.1)] ∧ gF u.2.2 []) (fun u => gB D ca A [(a0, .inr (0, rg 3 u.1)), (u.2.1, .inl (ca 0, 20480, .inl u.2.2))]) A
set_option maxHeartbeats 8000000 in
set_option maxRecDepth 100000 in
theorem c_ByteRow_init_1 (l : Launch) (D : va_G) (ca : Nat → ClassId) (ad av : Nat → Nat) (sz : Nat) (a0 : Nat) (g0 : Nat → Value) (hp0 : gF g0 []) : Met l ({ cls := "StaveHouse$ByteRow", name := "<init>", desc := "(I)V" } : Jvm.MethodName) (Cond.code ({ cls := "StaveHouse$ByteRow", name := "<init>", desc := "(I)V" } : Jvm.MethodName) prog_2_method_1_code 2 (Option.none : Option Jvm.ClassFile.FieldType) :: wAll) ({ frames := 1, cells := 1, slots := 20480, locals := 14 } : Room) (va_Pc [.ref a0, .int 20480] (gPre D ca ad av [(a0, .inr (0, rg 3 g0))] sz)) (Q_ByteRow_init_1 D ca a0 g0 (va_A [(a0, .inr (0, rg 3 g0))] sz)) 1 20480 (va_A [(a0, .inr (0, rg 3 g0))] sz) := by
  refine gMet (Qc := Q_ByteRow_init_1 D ca a0 g0) (lv := [(0, .ref a0), (1, .int 20480)]) (by decide) (Nat.le_of_ble_eq_true rfl) rfl (fun A p e s m below meth c ls hx hb hr hml hown hts hlk hnm hl hP hK hD hS hA hX => ?_)
  have hown : s.vm.findClass "StaveHouse$ByteRow" = some m.cls := hown
  have hnm : meth.name = "<init>" := hnm
  refine lv_aload_n hx hb d_2_1_0 rfl (lv_at hl 0 rfl) ?_
  refine W.objInit hx hb hown (hts _ k_1_37) (hts _ k_1_30) (hts _ k_1_31) rfl (by rw [hml]; exact hl.1) rfl d_2_1_1 (Nat.le_of_ble_eq_true rfl) (Nat.le_of_ble_eq_true rfl) ?_
  refine W.eq (g2 := F0 m 4 ls []) rfl ?_
  refine lv_aload_n hx hb d_2_1_4 rfl (lv_at hl 0 rfl) ?_
  refine lv_iload_n hx hb d_2_1_5 rfl (lv_at hl 1 rfl) ?_
  refine lv_iconst (v := 1) hx hb d_2_1_6 (by decide) ?_
  refine va_mmax hx hb (by rw [hml]; exact hl.1.symm) hown (hts _ k_1_38) (hts _ k_1_39) (hts _ k_1_3) (hts _ k_1_40) (Nat.le_of_ble_eq_true rfl) (Nat.le_of_ble_eq_true rfl) (Nat.le_of_ble_eq_true rfl) (Nat.le_of_ble_eq_true rfl) d_2_1_7 ?_
  refine lv_topi (fun y1 ey1 => ?_)
  obtain rfl : y1 = 20480 := ey1.trans (by decide)
  refine gnewa (atype := .int) hx hb hts (ty := .int) rfl k_1_57 hK 0 rfl (fun _ _ => gu_int) hP hD hS hA (a0 := (20480, .inl (fun _ => 0))) (fun _ => rfl) (by decide) (N' := 20480) (by decide) (Nat.le_of_ble_eq_true rfl) (Nat.le_of_ble_eq_true rfl) (Nat.le_of_ble_eq_true rfl) d_2_1_10 (fun q2 H2 hP2 hD2 hS2 => ?_)
  obtain ⟨f2, hF2, hP2, hD2⟩ : ∃ f : Nat → Int32, gF f [] ∧ va_P D cls ([(a0, .inr (0, rg 3 g0))] ++ [(q2, .inl (ca 0, 20480, .inl f))]) H2 ∧ va_D A ([(a0, .inr (0, rg 3 g0))] ++ [(q2, .inl (ca 0, 20480, .inl f))]) := ⟨_, gF_nil, hP2, hD2⟩
  have hP2 : va_P D cls [(a0, .inr (0, rg 3 g0)), (q2, .inl (ca 0, 20480, .inl f2))] H2 := hP2
  have hD2 : va_D A [(a0, .inr (0, rg 3 g0)), (q2, .inl (ca 0, 20480, .inl f2))] := hD2
  refine W.widen (k := 1) (n := 20480) (Nat.le_of_ble_eq_true rfl) (Nat.le_of_ble_eq_true rfl) ?_
  refine gputF hx hb hts inW_0 tyX0 tyX0_ok nmX0 hown hK hP2 hD2 hS2 0 rfl rfl hp0 0 (by decide) k_1_41 rfl hnm rfl rfl rfl d_2_1_12 (L' := [(0, .ref q2)]) rfl (fun f3 H3 locs3 hF3 hm3 hP3 hD3 hS3 => ?_)
  have hM3 := gM.tr (gM.rf (f := g0)) hm3
  have hP3 : va_P D cls [(a0, .inr (0, rg 3 f3)), (q2, .inl (ca 0, 20480, .inl f2))] H3 := hP3
  have hD3 : va_D A [(a0, .inr (0, rg 3 f3)), (q2, .inl (ca 0, 20480, .inl f2))] := hD3
  clear hP2 hD2 hS2 hm3
  have hP9 := hP3.sub (ws' := [(a0, .inr (0, rg 3 f3)), (q2, .inl (ca 0, 20480, .inl f2))]) [0, 1] rfl
  have hD9 := hD3.sub (ws' := [(a0, .inr (0, rg 3 f3)), (q2, .inl (ca 0, 20480, .inl f2))]) [0, 1] (by decide) rfl
  refine W.widen (k := 1) (n := 20480) (Nat.le_of_ble_eq_true rfl) (Nat.le_of_ble_eq_true rfl) ?_
  exact W.vret hx hb hr (fun t ht hW => ⟨⟨(f3, q2, f2), rfl, ⟨hM3.mono (by decide), hF3.sub [0] rfl, hF2.sub [] rfl⟩, by rw [ht]; exact hP9, va_K.moved hW.alike hK, hD9⟩, hS3.F ht⟩) hS3.2.2 d_2_1_15
abbrev Q_Tokens_init_0 (D : va_G) (ca : Nat → ClassId) (a0 : Nat) (g0 : Nat → Value) (A : Nat → Prop) : Array Value → State → Outcome → State → Prop := va_Qv (S := (Nat → Value) × (Nat) × (Nat → Int64) × (Nat) × (Nat → Int32) × (Nat) × (Nat → Int32)) (fun (u : (Nat → Value) × (Nat) × (Nat → Int64) × (Nat) × (Nat → Int32) × (Nat) × (Nat → Int32)) => gM g0 u.1 [7, 6, 5] ∧ gF u.1 [(7, .ref u.2.1), (6, .ref u.2.2.2.1), (5, .ref u.2.2.2.2.2.1)] ∧ gF u.2.2.1 [] ∧ gF u.2.2.2.2.1 [] ∧ gF u.2.2.2.2.2.2 []) (fun u => gB D ca A [(a0, .inr (10, rg 9 u.1)), (u.2.1, .inl (ca 1, 3001, .inr (.inl u.2.2.1))), (u.2.2.2.1, .inl (ca 0, 3001, .inl u.2.2.2.2.1)), (u.2.2.2.2.2.1, .inl (ca 0, 3001, .inl u.2.2.2.2.2.2))]) A
set_option maxHeartbeats 8000000 in
set_option maxRecDepth 100000 in
theorem c_Tokens_init_0 (l : Launch) (D : va_G) (ca : Nat → ClassId) (ad av : Nat → Nat) (sz : Nat) (a0 : Nat) (g0 : Nat → Value) (hp0 : gF g0 []) : Met l ({ cls := "StaveHouse$Tokens", name := "<init>", desc := "()V" } : Jvm.MethodName) (Cond.code ({ cls := "StaveHouse$Tokens", name := "<init>", desc := "()V" } : Jvm.MethodName) prog_12_method_1_code 1 (Option.none : Option Jvm.ClassFile.FieldType) :: wAll) ({ frames := 1, cells := 3, slots := 9003, locals := 12 } : Room) (va_Pc [.ref a0] (gPre D ca ad av [(a0, .inr (10, rg 9 g0))] sz)) (Q_Tokens_init_0 D ca a0 g0 (va_A [(a0, .inr (10, rg 9 g0))] sz)) 3 9003 (va_A [(a0, .inr (10, rg 9 g0))] sz) := by
  refine gMet (Qc := Q_Tokens_init_0 D ca a0 g0) (lv := [(0, .ref a0)]) (by decide) (Nat.le_of_ble_eq_true rfl) rfl (fun A p e s m below meth c ls hx hb hr hml hown hts hlk hnm hl hP hK hD hS hA hX => ?_)
  have hown : s.vm.findClass "StaveHouse$Tokens" = some m.cls := hown
  have hnm : meth.name = "<init>" := hnm
  refine lv_aload_n hx hb d_12_1_0 rfl (lv_at hl 0 rfl) ?_
  refine W.objInit hx hb hown (hts _ k_1_71) (hts _ k_1_30) (hts _ k_1_31) rfl (by rw [hml]; exact hl.1) rfl d_12_1_1 (Nat.le_of_ble_eq_true rfl) (Nat.le_of_ble_eq_true rfl) ?_
  refine W.eq (g2 := F0 m 4 ls []) rfl ?_
  refine lv_aload_n hx hb d_12_1_4 rfl (lv_at hl 0 rfl) ?_
  refine lv_sipush (v := 3001) hx hb d_12_1_5 (by decide) ?_
  refine gnewa (atype := .int) hx hb hts (ty := .int) rfl k_1_57 hK 0 rfl (fun _ _ => gu_int) hP hD hS hA (a0 := (3001, .inl (fun _ => 0))) (fun _ => rfl) (by decide) (N' := 3001) (by decide) (Nat.le_of_ble_eq_true rfl) (Nat.le_of_ble_eq_true rfl) (Nat.le_of_ble_eq_true rfl) d_12_1_8 (fun q1 H1 hP1 hD1 hS1 => ?_)
  obtain ⟨f1, hF1, hP1, hD1⟩ : ∃ f : Nat → Int32, gF f [] ∧ va_P D cls ([(a0, .inr (10, rg 9 g0))] ++ [(q1, .inl (ca 0, 3001, .inl f))]) H1 ∧ va_D A ([(a0, .inr (10, rg 9 g0))] ++ [(q1, .inl (ca 0, 3001, .inl f))]) := ⟨_, gF_nil, hP1, hD1⟩
  have hP1 : va_P D cls [(a0, .inr (10, rg 9 g0)), (q1, .inl (ca 0, 3001, .inl f1))] H1 := hP1
  have hD1 : va_D A [(a0, .inr (10, rg 9 g0)), (q1, .inl (ca 0, 3001, .inl f1))] := hD1
  refine W.widen (k := 1) (n := 3001) (Nat.le_of_ble_eq_true rfl) (Nat.le_of_ble_eq_true rfl) ?_
  refine gputF hx hb hts inW_10 tyX10 tyX10_ok nmX10 hown hK hP1 hD1 hS1 0 rfl rfl hp0 5 (by decide) k_1_82 rfl hnm rfl rfl rfl d_12_1_10 (L' := [(5, .ref q1)]) rfl (fun f2 H2 locs2 hF2 hm2 hP2 hD2 hS2 => ?_)
  have hM2 := gM.tr (gM.rf (f := g0)) hm2
  have hP2 : va_P D cls [(a0, .inr (10, rg 9 f2)), (q1, .inl (ca 0, 3001, .inl f1))] H2 := hP2
  have hD2 : va_D A [(a0, .inr (10, rg 9 f2)), (q1, .inl (ca 0, 3001, .inl f1))] := hD2
  clear hP1 hD1 hS1 hm2
  refine lv_aload_n hx hb d_12_1_13 rfl (lv_at hl 0 rfl) ?_
  refine lv_sipush (v := 3001) hx hb d_12_1_14 (by decide) ?_
  refine gnewa (atype := .int) hx hb hts (ty := .int) rfl k_1_57 hK 0 rfl (fun _ _ => gu_int) hP2 hD2 hS2 hA (a0 := (3001, .inl (fun _ => 0))) (fun _ => rfl) (by decide) (N' := 3001) (by decide) (Nat.le_of_ble_eq_true rfl) (Nat.le_of_ble_eq_true rfl) (Nat.le_of_ble_eq_true rfl) d_12_1_17 (fun q3 H3 hP3 hD3 hS3 => ?_)
  obtain ⟨f3, hF3, hP3, hD3⟩ : ∃ f : Nat → Int32, gF f [] ∧ va_P D cls ([(a0, .inr (10, rg 9 f2)), (q1, .inl (ca 0, 3001, .inl f1))] ++ [(q3, .inl (ca 0, 3001, .inl f))]) H3 ∧ va_D A ([(a0, .inr (10, rg 9 f2)), (q1, .inl (ca 0, 3001, .inl f1))] ++ [(q3, .inl (ca 0, 3001, .inl f))]) := ⟨_, gF_nil, hP3, hD3⟩
  have hP3 : va_P D cls [(a0, .inr (10, rg 9 f2)), (q1, .inl (ca 0, 3001, .inl f1)), (q3, .inl (ca 0, 3001, .inl f3))] H3 := hP3
  have hD3 : va_D A [(a0, .inr (10, rg 9 f2)), (q1, .inl (ca 0, 3001, .inl f1)), (q3, .inl (ca 0, 3001, .inl f3))] := hD3
  refine W.widen (k := 2) (n := 6002) (Nat.le_of_ble_eq_true rfl) (Nat.le_of_ble_eq_true rfl) ?_
  refine gputF hx hb hts inW_10 tyX10 tyX10_ok nmX10 hown hK hP3 hD3 hS3 0 rfl rfl hF2 6 (by decide) k_1_83 rfl hnm rfl rfl rfl d_12_1_19 (L' := [(6, .ref q3), (5, .ref q1)]) rfl (fun f4 H4 locs4 hF4 hm4 hP4 hD4 hS4 => ?_)
  have hM4 := gM.tr hM2 hm4
  have hP4 : va_P D cls [(a0, .inr (10, rg 9 f4)), (q1, .inl (ca 0, 3001, .inl f1)), (q3, .inl (ca 0, 3001, .inl f3))] H4 := hP4
  have hD4 : va_D A [(a0, .inr (10, rg 9 f4)), (q1, .inl (ca 0, 3001, .inl f1)), (q3, .inl (ca 0, 3001, .inl f3))] := hD4
  clear hP3 hD3 hS3 hF2 hM2 hm4
  refine lv_aload_n hx hb d_12_1_22 rfl (lv_at hl 0 rfl) ?_
  refine lv_sipush (v := 3001) hx hb d_12_1_23 (by decide) ?_
  refine gnewa (atype := .long) hx hb hts (ty := .long) rfl k_1_105 hK 1 rfl (fun _ _ => gu_long) hP4 hD4 hS4 hA (a0 := (3001, .inr (.inl (fun _ => 0)))) (fun _ => rfl) (by decide) (N' := 3001) (by decide) (Nat.le_of_ble_eq_true rfl) (Nat.le_of_ble_eq_true rfl) (Nat.le_of_ble_eq_true rfl) d_12_1_26 (fun q5 H5 hP5 hD5 hS5 => ?_)
  obtain ⟨f5, hF5, hP5, hD5⟩ : ∃ f : Nat → Int64, gF f [] ∧ va_P D cls ([(a0, .inr (10, rg 9 f4)), (q1, .inl (ca 0, 3001, .inl f1)), (q3, .inl (ca 0, 3001, .inl f3))] ++ [(q5, .inl (ca 1, 3001, .inr (.inl f)))]) H5 ∧ va_D A ([(a0, .inr (10, rg 9 f4)), (q1, .inl (ca 0, 3001, .inl f1)), (q3, .inl (ca 0, 3001, .inl f3))] ++ [(q5, .inl (ca 1, 3001, .inr (.inl f)))]) := ⟨_, gF_nil, hP5, hD5⟩
  have hP5 : va_P D cls [(a0, .inr (10, rg 9 f4)), (q1, .inl (ca 0, 3001, .inl f1)), (q3, .inl (ca 0, 3001, .inl f3)), (q5, .inl (ca 1, 3001, .inr (.inl f5)))] H5 := hP5
  have hD5 : va_D A [(a0, .inr (10, rg 9 f4)), (q1, .inl (ca 0, 3001, .inl f1)), (q3, .inl (ca 0, 3001, .inl f3)), (q5, .inl (ca 1, 3001, .inr (.inl f5)))] := hD5
  refine W.widen (k := 3) (n := 9003) (Nat.le_of_ble_eq_true rfl) (Nat.le_of_ble_eq_true rfl) ?_
  refine gputF hx hb hts inW_10 tyX10 tyX10_ok nmX10 hown hK hP5 hD5 hS5 0 rfl rfl hF4 7 (by decide) k_1_84 rfl hnm rfl rfl rfl d_12_1_28 (L' := [(7, .ref q5), (6, .ref q3), (5, .ref q1)]) rfl (fun f6 H6 locs6 hF6 hm6 hP6 hD6 hS6 => ?_)
  have hM6 := gM.tr hM4 hm6
  have hP6 : va_P D cls [(a0, .inr (10, rg 9 f6)), (q1, .inl (ca 0, 3001, .inl f1)), (q3, .inl (ca 0, 3001, .inl f3)), (q5, .inl (ca 1, 3001, .inr (.inl f5)))] H6 := hP6
  have hD6 : va_D A [(a0, .inr (10, rg 9 f6)), (q1, .inl (ca 0, 3001, .inl f1)), (q3, .inl (ca 0, 3001, .inl f3)), (q5, .inl (ca 1, 3001, .inr (.inl f5)))] := hD6
  clear hP5 hD5 hS5 hF4 hM4 hm6
  have hP9 := hP6.sub (ws' := [(a0, .inr (10, rg 9 f6)), (q5, .inl (ca 1, 3001, .inr (.inl f5))), (q3, .inl (ca 0, 3001, .inl f3)), (q1, .inl (ca 0, 3001, .inl f1))]) [0, 3, 2, 1] rfl
  have hD9 := hD6.sub (ws' := [(a0, .inr (10, rg 9 f6)), (q5, .inl (ca 1, 3001, .inr (.inl f5))), (q3, .inl (ca 0, 3001, .inl f3)), (q1, .inl (ca 0, 3001, .inl f1))]) [0, 3, 2, 1] (by decide) rfl
  refine W.widen (k := 3) (n := 9003) (Nat.le_of_ble_eq_true rfl) (Nat.le_of_ble_eq_true rfl) ?_
  exact W.vret hx hb hr (fun t ht hW => ⟨⟨(f6, q5, f5, q3, f3, q1, f1), rfl, ⟨hM6.mono (by decide), hF6.sub [0, 1, 2] rfl, hF5.sub [] rfl, hF3.sub [] rfl, hF1.sub [] rfl⟩, by rw [ht]; exact hP9, va_K.moved hW.alike hK, hD9⟩, hS6.F ht⟩) hS6.2.2 d_12_1_31
abbrev Q_Parser_init_0 (D : va_G) (ca : Nat → ClassId) (a0 : Nat) (g0 : Nat → Value) (A : Nat → Prop) : Array Value → State → Outcome → State → Prop := va_Qv (S := (Nat → Value) × (Nat) × (Nat → Value) × (Nat) × (Nat → Int64) × (Nat) × (Nat → Int32) × (Nat) × (Nat → Int32)) (fun (u : (Nat → Value) × (Nat) × (Nat → Value) × (Nat) × (Nat → Int64) × (Nat) × (Nat → Int32) × (Nat) × (Nat → Int32)) => gM g0 u.1 [13, 12, 11, 10, 9, 8, 7, 6, 5, 4, 3, 2, 1, 0] ∧ gF u.1 [(11, .ref u.2.1)] ∧ gF u.2.2.1 [(7, .ref u.2.2.2.1), (6, .ref u.2.2.2.2.2.1), (5, .ref u.2.2.2.2.2.2.2.1), (0, .int 0), (1, .int 0), (2, .long 0), (8, .int 0)] ∧ gF u.2.2.2.2.1 [] ∧ gF u.2.2.2.2.2.2.1 [] ∧ gF u.2.2.2.2.2.2.2.2 []) (fun u => gB D ca A [(a0, .inr (3, rg 22 u.1)), (u.2.1, .inr (10, rg 9 u.2.2.1)), (u.2.2.2.1, .inl (ca 1, 3001, .inr (.inl u.2.2.2.2.1))), (u.2.2.2.2.2.1, .inl (ca 0, 3001, .inl u.2.2.2.2.2.2.1)), (u.2.2.2.2.2.2.2.1, .inl (ca 0, 3001, .inl u.2.2.2.2.2.2.2.2))]) A
set_option maxHeartbeats 8000000 in
set_option maxRecDepth 100000 in
theorem c_Parser_init_0 (l : Launch) (D : va_G) (ca : Nat → ClassId) (ad av : Nat → Nat) (sz : Nat) (a0 : Nat) (g0 : Nat → Value) (hp0 : gF g0 []) : Met l ({ cls := "StaveHouse$Parser", name := "<init>", desc := "()V" } : Jvm.MethodName) (Cond.code ({ cls := "StaveHouse$Parser", name := "<init>", desc := "()V" } : Jvm.MethodName) prog_5_method_1_code 1 (Option.none : Option Jvm.ClassFile.FieldType) :: wAll) ({ frames := 2, cells := 17, slots := 37524, locals := 32 } : Room) (va_Pc [.ref a0] (gPre D ca ad av [(a0, .inr (3, rg 22 g0))] sz)) (Q_Parser_init_0 D ca a0 g0 (va_A [(a0, .inr (3, rg 22 g0))] sz)) 17 37524 (va_A [(a0, .inr (3, rg 22 g0))] sz) := by
  refine gMet (Qc := Q_Parser_init_0 D ca a0 g0) (lv := [(0, .ref a0)]) (by decide) (Nat.le_of_ble_eq_true rfl) rfl (fun A p e s m below meth c ls hx hb hr hml hown hts hlk hnm hl hP hK hD hS hA hX => ?_)
  have hown : s.vm.findClass "StaveHouse$Parser" = some m.cls := hown
  have hnm : meth.name = "<init>" := hnm
  refine lv_aload_n hx hb d_5_1_0 rfl (lv_at hl 0 rfl) ?_
  refine W.objInit hx hb hown (hts _ k_1_65) (hts _ k_1_30) (hts _ k_1_31) rfl (by rw [hml]; exact hl.1) rfl d_5_1_1 (Nat.le_of_ble_eq_true rfl) (Nat.le_of_ble_eq_true rfl) ?_
  refine W.eq (g2 := F0 m 4 ls []) rfl ?_
  refine lv_aload_n hx hb d_5_1_4 rfl (lv_at hl 0 rfl) ?_
  refine lv_sipush (v := 3000) hx hb d_5_1_5 (by decide) ?_
  refine gnewaX (atype := .int) hx hb hts k_1_57 hP hS (by decide) (N' := 3000) (by decide) (Nat.le_of_ble_eq_true rfl) (Nat.le_of_ble_eq_true rfl) (Nat.le_of_ble_eq_true rfl) d_5_1_8 (fun q1 H1 hP1 hS1 => ?_)
  refine W.widen (k := 1) (n := 3000) (Nat.le_of_ble_eq_true rfl) (Nat.le_of_ble_eq_true rfl) ?_
  refine gputFX hx hb hts inW_3 tyX3 tyX3_ok nmX3 hown hK hP1 hD hS1 0 rfl rfl hp0 0 (by decide) k_1_106 rfl hnm rfl rfl rfl d_5_1_10 (L' := []) rfl (fun f2 H2 locs2 hF2 hm2 hP2 hD2 hS2 => ?_)
  have hM2 := gM.tr (gM.rf (f := g0)) hm2
  have hP2 : va_P D cls [(a0, .inr (3, rg 22 f2))] H2 := hP2
  have hD2 : va_D A [(a0, .inr (3, rg 22 f2))] := hD2
  clear hP1 hS1 hm2
  refine lv_aload_n hx hb d_5_1_13 rfl (lv_at hl 0 rfl) ?_
  refine lv_sipush (v := 3000) hx hb d_5_1_14 (by decide) ?_
  refine gnewaX (atype := .int) hx hb hts k_1_57 hP2 hS2 (by decide) (N' := 3000) (by decide) (Nat.le_of_ble_eq_true rfl) (Nat.le_of_ble_eq_true rfl) (Nat.le_of_ble_eq_true rfl) d_5_1_17 (fun q3 H3 hP3 hS3 => ?_)
  clear hP2 hS2
  refine W.widen (k := 2) (n := 6000) (Nat.le_of_ble_eq_true rfl) (Nat.le_of_ble_eq_true rfl) ?_
  refine gputFX hx hb hts inW_3 tyX3 tyX3_ok nmX3 hown hK hP3 hD2 hS3 0 rfl rfl hF2 1 (by decide) k_1_108 rfl hnm rfl rfl rfl d_5_1_19 (L' := []) rfl (fun f4 H4 locs4 hF4 hm4 hP4 hD4 hS4 => ?_)
  have hM4 := gM.tr hM2 hm4
  have hP4 : va_P D cls [(a0, .inr (3, rg 22 f4))] H4 := hP4
  have hD4 : va_D A [(a0, .inr (3, rg 22 f4))] := hD4
  clear hP3 hD2 hS3 hF2 hM2 hm4
  refine lv_aload_n hx hb d_5_1_22 rfl (lv_at hl 0 rfl) ?_
  refine lv_sipush (v := 3000) hx hb d_5_1_23 (by decide) ?_
  refine gnewaX (atype := .int) hx hb hts k_1_57 hP4 hS4 (by decide) (N' := 3000) (by decide) (Nat.le_of_ble_eq_true rfl) (Nat.le_of_ble_eq_true rfl) (Nat.le_of_ble_eq_true rfl) d_5_1_26 (fun q5 H5 hP5 hS5 => ?_)
  clear hP4 hS4
  refine W.widen (k := 3) (n := 9000) (Nat.le_of_ble_eq_true rfl) (Nat.le_of_ble_eq_true rfl) ?_
  refine gputFX hx hb hts inW_3 tyX3 tyX3_ok nmX3 hown hK hP5 hD4 hS5 0 rfl rfl hF4 2 (by decide) k_1_110 rfl hnm rfl rfl rfl d_5_1_28 (L' := []) rfl (fun f6 H6 locs6 hF6 hm6 hP6 hD6 hS6 => ?_)
  have hM6 := gM.tr hM4 hm6
  have hP6 : va_P D cls [(a0, .inr (3, rg 22 f6))] H6 := hP6
  have hD6 : va_D A [(a0, .inr (3, rg 22 f6))] := hD6
  clear hP5 hD4 hS5 hF4 hM4 hm6
  refine lv_aload_n hx hb d_5_1_31 rfl (lv_at hl 0 rfl) ?_
  refine lv_sipush (v := 3000) hx hb d_5_1_32 (by decide) ?_
  refine gnewaX (atype := .int) hx hb hts k_1_57 hP6 hS6 (by decide) (N' := 3000) (by decide) (Nat.le_of_ble_eq_true rfl) (Nat.le_of_ble_eq_true rfl) (Nat.le_of_ble_eq_true rfl) d_5_1_35 (fun q7 H7 hP7 hS7 => ?_)
  clear hP6 hS6
  refine W.widen (k := 4) (n := 12000) (Nat.le_of_ble_eq_true rfl) (Nat.le_of_ble_eq_true rfl) ?_
  refine gputFX hx hb hts inW_3 tyX3 tyX3_ok nmX3 hown hK hP7 hD6 hS7 0 rfl rfl hF6 3 (by decide) k_1_112 rfl hnm rfl rfl rfl d_5_1_37 (L' := []) rfl (fun f8 H8 locs8 hF8 hm8 hP8 hD8 hS8 => ?_)
  have hM8 := gM.tr hM6 hm8
  have hP8 : va_P D cls [(a0, .inr (3, rg 22 f8))] H8 := hP8
  have hD8 : va_D A [(a0, .inr (3, rg 22 f8))] := hD8
  clear hP7 hD6 hS7 hF6 hM6 hm8
  refine lv_aload_n hx hb d_5_1_40 rfl (lv_at hl 0 rfl) ?_
  refine lv_sipush (v := 3000) hx hb d_5_1_41 (by decide) ?_
  refine gnewaX (atype := .int) hx hb hts k_1_57 hP8 hS8 (by decide) (N' := 3000) (by decide) (Nat.le_of_ble_eq_true rfl) (Nat.le_of_ble_eq_true rfl) (Nat.le_of_ble_eq_true rfl) d_5_1_44 (fun q9 H9 hP9 hS9 => ?_)
  clear hP8 hS8
  refine W.widen (k := 5) (n := 15000) (Nat.le_of_ble_eq_true rfl) (Nat.le_of_ble_eq_true rfl) ?_
  refine gputFX hx hb hts inW_3 tyX3 tyX3_ok nmX3 hown hK hP9 hD8 hS9 0 rfl rfl hF8 4 (by decide) k_1_114 rfl hnm rfl rfl rfl d_5_1_46 (L' := []) rfl (fun f10 H10 locs10 hF10 hm10 hP10 hD10 hS10 => ?_)
  have hM10 := gM.tr hM8 hm10
  have hP10 : va_P D cls [(a0, .inr (3, rg 22 f10))] H10 := hP10
  have hD10 : va_D A [(a0, .inr (3, rg 22 f10))] := hD10
  clear hP9 hD8 hS9 hF8 hM8 hm10
  refine lv_aload_n hx hb d_5_1_49 rfl (lv_at hl 0 rfl) ?_
  refine lv_sipush (v := 3000) hx hb d_5_1_50 (by decide) ?_
  refine gnewaX (atype := .int) hx hb hts k_1_57 hP10 hS10 (by decide) (N' := 3000) (by decide) (Nat.le_of_ble_eq_true rfl) (Nat.le_of_ble_eq_true rfl) (Nat.le_of_ble_eq_true rfl) d_5_1_53 (fun q11 H11 hP11 hS11 => ?_)
  clear hP10 hS10
  refine W.widen (k := 6) (n := 18000) (Nat.le_of_ble_eq_true rfl) (Nat.le_of_ble_eq_true rfl) ?_
  refine gputFX hx hb hts inW_3 tyX3 tyX3_ok nmX3 hown hK hP11 hD10 hS11 0 rfl rfl hF10 5 (by decide) k_1_116 rfl hnm rfl rfl rfl d_5_1_55 (L' := []) rfl (fun f12 H12 locs12 hF12 hm12 hP12 hD12 hS12 => ?_)
  have hM12 := gM.tr hM10 hm12
  have hP12 : va_P D cls [(a0, .inr (3, rg 22 f12))] H12 := hP12
  have hD12 : va_D A [(a0, .inr (3, rg 22 f12))] := hD12
  clear hP11 hD10 hS11 hF10 hM10 hm12
  refine lv_aload_n hx hb d_5_1_58 rfl (lv_at hl 0 rfl) ?_
  refine lv_sipush (v := 3000) hx hb d_5_1_59 (by decide) ?_
  refine gnewaX (atype := .int) hx hb hts k_1_57 hP12 hS12 (by decide) (N' := 3000) (by decide) (Nat.le_of_ble_eq_true rfl) (Nat.le_of_ble_eq_true rfl) (Nat.le_of_ble_eq_true rfl) d_5_1_62 (fun q13 H13 hP13 hS13 => ?_)
  clear hP12 hS12
  refine W.widen (k := 7) (n := 21000) (Nat.le_of_ble_eq_true rfl) (Nat.le_of_ble_eq_true rfl) ?_
  refine gputFX hx hb hts inW_3 tyX3 tyX3_ok nmX3 hown hK hP13 hD12 hS13 0 rfl rfl hF12 6 (by decide) k_1_118 rfl hnm rfl rfl rfl d_5_1_64 (L' := []) rfl (fun f14 H14 locs14 hF14 hm14 hP14 hD14 hS14 => ?_)
  have hM14 := gM.tr hM12 hm14
  have hP14 : va_P D cls [(a0, .inr (3, rg 22 f14))] H14 := hP14
  have hD14 : va_D A [(a0, .inr (3, rg 22 f14))] := hD14
  clear hP13 hD12 hS13 hF12 hM12 hm14
  refine lv_aload_n hx hb d_5_1_67 rfl (lv_at hl 0 rfl) ?_
  refine lv_sipush (v := 3000) hx hb d_5_1_68 (by decide) ?_
  refine gnewaX (atype := .int) hx hb hts k_1_57 hP14 hS14 (by decide) (N' := 3000) (by decide) (Nat.le_of_ble_eq_true rfl) (Nat.le_of_ble_eq_true rfl) (Nat.le_of_ble_eq_true rfl) d_5_1_71 (fun q15 H15 hP15 hS15 => ?_)
  clear hP14 hS14
  refine W.widen (k := 8) (n := 24000) (Nat.le_of_ble_eq_true rfl) (Nat.le_of_ble_eq_true rfl) ?_
  refine gputFX hx hb hts inW_3 tyX3 tyX3_ok nmX3 hown hK hP15 hD14 hS15 0 rfl rfl hF14 7 (by decide) k_1_120 rfl hnm rfl rfl rfl d_5_1_73 (L' := []) rfl (fun f16 H16 locs16 hF16 hm16 hP16 hD16 hS16 => ?_)
  have hM16 := gM.tr hM14 hm16
  have hP16 : va_P D cls [(a0, .inr (3, rg 22 f16))] H16 := hP16
  have hD16 : va_D A [(a0, .inr (3, rg 22 f16))] := hD16
  clear hP15 hD14 hS15 hF14 hM14 hm16
  refine lv_aload_n hx hb d_5_1_76 rfl (lv_at hl 0 rfl) ?_
  refine lv_sipush (v := 1500) hx hb d_5_1_77 (by decide) ?_
  refine gnewaX (atype := .int) hx hb hts k_1_57 hP16 hS16 (by decide) (N' := 1500) (by decide) (Nat.le_of_ble_eq_true rfl) (Nat.le_of_ble_eq_true rfl) (Nat.le_of_ble_eq_true rfl) d_5_1_80 (fun q17 H17 hP17 hS17 => ?_)
  clear hP16 hS16
  refine W.widen (k := 9) (n := 25500) (Nat.le_of_ble_eq_true rfl) (Nat.le_of_ble_eq_true rfl) ?_
  refine gputFX hx hb hts inW_3 tyX3 tyX3_ok nmX3 hown hK hP17 hD16 hS17 0 rfl rfl hF16 8 (by decide) k_1_122 rfl hnm rfl rfl rfl d_5_1_82 (L' := []) rfl (fun f18 H18 locs18 hF18 hm18 hP18 hD18 hS18 => ?_)
  have hM18 := gM.tr hM16 hm18
  have hP18 : va_P D cls [(a0, .inr (3, rg 22 f18))] H18 := hP18
  have hD18 : va_D A [(a0, .inr (3, rg 22 f18))] := hD18
  clear hP17 hD16 hS17 hF16 hM16 hm18
  refine lv_aload_n hx hb d_5_1_85 rfl (lv_at hl 0 rfl) ?_
  refine lv_sipush (v := 1500) hx hb d_5_1_86 (by decide) ?_
  refine gnewaX (atype := .int) hx hb hts k_1_57 hP18 hS18 (by decide) (N' := 1500) (by decide) (Nat.le_of_ble_eq_true rfl) (Nat.le_of_ble_eq_true rfl) (Nat.le_of_ble_eq_true rfl) d_5_1_89 (fun q19 H19 hP19 hS19 => ?_)
  clear hP18 hS18
  refine W.widen (k := 10) (n := 27000) (Nat.le_of_ble_eq_true rfl) (Nat.le_of_ble_eq_true rfl) ?_
  refine gputFX hx hb hts inW_3 tyX3 tyX3_ok nmX3 hown hK hP19 hD18 hS19 0 rfl rfl hF18 9 (by decide) k_1_124 rfl hnm rfl rfl rfl d_5_1_91 (L' := []) rfl (fun f20 H20 locs20 hF20 hm20 hP20 hD20 hS20 => ?_)
  have hM20 := gM.tr hM18 hm20
  have hP20 : va_P D cls [(a0, .inr (3, rg 22 f20))] H20 := hP20
  have hD20 : va_D A [(a0, .inr (3, rg 22 f20))] := hD20
  clear hP19 hD18 hS19 hF18 hM18 hm20
  refine lv_aload_n hx hb d_5_1_94 rfl (lv_at hl 0 rfl) ?_
  refine lv_sipush (v := 1500) hx hb d_5_1_95 (by decide) ?_
  refine gnewaX (atype := .int) hx hb hts k_1_57 hP20 hS20 (by decide) (N' := 1500) (by decide) (Nat.le_of_ble_eq_true rfl) (Nat.le_of_ble_eq_true rfl) (Nat.le_of_ble_eq_true rfl) d_5_1_98 (fun q21 H21 hP21 hS21 => ?_)
  clear hP20 hS20
  refine W.widen (k := 11) (n := 28500) (Nat.le_of_ble_eq_true rfl) (Nat.le_of_ble_eq_true rfl) ?_
  refine gputFX hx hb hts inW_3 tyX3 tyX3_ok nmX3 hown hK hP21 hD20 hS21 0 rfl rfl hF20 10 (by decide) k_1_126 rfl hnm rfl rfl rfl d_5_1_100 (L' := []) rfl (fun f22 H22 locs22 hF22 hm22 hP22 hD22 hS22 => ?_)
  have hM22 := gM.tr hM20 hm22
  have hP22 : va_P D cls [(a0, .inr (3, rg 22 f22))] H22 := hP22
  have hD22 : va_D A [(a0, .inr (3, rg 22 f22))] := hD22
  clear hP21 hD20 hS21 hF20 hM20 hm22
  refine lv_aload_n hx hb d_5_1_103 rfl (lv_at hl 0 rfl) ?_
  refine gnew (L := [(0, .int 0), (1, .int 0), (2, .long 0), (5, .null), (6, .null), (7, .null), (8, .int 0)]) (C := RX10) (T := TX10) (N := 9) (ci := 10) hx hb hts inW_10 tyX10 tyX10_ok hown k_1_66 k_1_67 k_1_5 hK hP22 hD22 hS22 hA rfl (Nat.le_of_ble_eq_true rfl) (Nat.le_of_ble_eq_true rfl) d_5_1_104 (gF_cons rfl (gF_cons rfl (gF_cons rfl (gF_cons rfl (gF_cons rfl (gF_cons rfl (gF_cons rfl (gF_nil)))))))) (fun f23 q23 H23 hF23 hP23 hD23 hS23 => ?_)
  have hP23 : va_P D cls [(a0, .inr (3, rg 22 f22)), (q23, .inr (10, rg 9 f23))] H23 := hP23
  have hD23 : va_D A [(a0, .inr (3, rg 22 f22)), (q23, .inr (10, rg 9 f23))] := hD23
  refine W.widen (k := 12) (n := 28509) (Nat.le_of_ble_eq_true rfl) (Nat.le_of_ble_eq_true rfl) ?_
  refine lv_dup hx hb d_5_1_107 rfl ?_
  have hFc24 := va_free (wc := [(q23, .inr (10, rg 9 f23))]) hD23 hS23 hA [1] rfl
  refine va_callv (va_runIN (As := []) (rest := [.ref q23, .ref a0]) ⟨hx, hb, hml, hown, hts⟩ (c_Tokens_init_0 l D ca ad av H23.size q23 f23 (hF23.sub [] rfl)) ⟨va_cnB 0 hts (gdC k_1_70) rfl rfl rfl (hX.1 _ (List.mem_of_getElem? (i := 1) rfl)) (hts _ k_1_5) (by decide +kernel) ⟨Nat.le_of_ble_eq_true rfl, Nat.le_of_ble_eq_true rfl⟩, rfl, hts _ k_1_69⟩ (gPS hP23 hD23 hK hS23 hA hX [1] (by decide) rfl [.ref q23]) rfl rfl hl.1 rfl (lv_room (Nat.le_of_ble_eq_true rfl)) d_5_1_108 ⟨Nat.le_of_ble_eq_true rfl, Nat.le_of_ble_eq_true rfl⟩) hS23 (fun q _ h => hFc24 q h) hFc24 (fun u24 t24 H24 locs24 ht24 hvm24 hw24 hB24 hz24 hk24 hS24 => ?_)
  obtain ⟨x24_0, x24_1, x24_2, x24_3, x24_4, x24_5, x24_6⟩ := u24
  try dsimp only at hw24 hB24
  obtain ⟨hw24_0, hw24_1, hw24_2, hw24_3, hw24_4⟩ := hw24
  obtain ⟨hP24, hD24⟩ := gJoin (wr := [(a0, .inr (3, rg 22 f22))]) (w1 := [(q23, .inr (10, rg 9 x24_0)), (x24_1, .inl (ca 1, 3001, .inr (.inl x24_2))), (x24_3, .inl (ca 0, 3001, .inl x24_4)), (x24_5, .inl (ca 0, 3001, .inl x24_6))]) hP23 hD23 [1] [0] rfl rfl (by decide) (by decide) hk24 hFc24 ht24 hB24
  have hF24_0 : gF x24_0 [(7, .ref x24_1), (6, .ref x24_3), (5, .ref x24_5), (0, .int 0), (1, .int 0), (2, .long 0), (8, .int 0)] := gF.upd hF23 hw24_0 hw24_1 rfl
  have hP24 : va_P D cls [(a0, .inr (3, rg 22 f22)), (q23, .inr (10, rg 9 x24_0)), (x24_1, .inl (ca 1, 3001, .inr (.inl x24_2))), (x24_3, .inl (ca 0, 3001, .inl x24_4)), (x24_5, .inl (ca 0, 3001, .inl x24_6))] H24 := hP24
  have hD24 : va_D A [(a0, .inr (3, rg 22 f22)), (q23, .inr (10, rg 9 x24_0)), (x24_1, .inl (ca 1, 3001, .inr (.inl x24_2))), (x24_3, .inl (ca 0, 3001, .inl x24_4)), (x24_5, .inl (ca 0, 3001, .inl x24_6))] := hD24
  refine W.widen (k := 15) (n := 37512) (Nat.le_of_ble_eq_true rfl) (Nat.le_of_ble_eq_true rfl) ?_
  refine gputF hx hb hts inW_3 tyX3 tyX3_ok nmX3 hown hK hP24 hD24 hS24 0 rfl rfl hF22 11 (by decide) k_1_128 rfl hnm rfl rfl rfl d_5_1_111 (L' := [(11, .ref q23)]) rfl (fun f25 H25 locs25 hF25 hm25 hP25 hD25 hS25 => ?_)
  have hM25 := gM.tr hM22 hm25
  have hP25 : va_P D cls [(a0, .inr (3, rg 22 f25)), (q23, .inr (10, rg 9 x24_0)), (x24_1, .inl (ca 1, 3001, .inr (.inl x24_2))), (x24_3, .inl (ca 0, 3001, .inl x24_4)), (x24_5, .inl (ca 0, 3001, .inl x24_6))] H25 := hP25
  have hD25 : va_D A [(a0, .inr (3, rg 22 f25)), (q23, .inr (10, rg 9 x24_0)), (x24_1, .inl (ca 1, 3001, .inr (.inl x24_2))), (x24_3, .inl (ca 0, 3001, .inl x24_4)), (x24_5, .inl (ca 0, 3001, .inl x24_6))] := hD25
  clear hP24 hD24 hS24 hF22 hM22 hm25
  refine lv_aload_n hx hb d_5_1_114 rfl (lv_at hl 0 rfl) ?_
  refine lv_bipush (v := 6) hx hb d_5_1_115 (by decide) ?_
  refine gnewaX (atype := .long) hx hb hts k_1_105 hP25 hS25 (by decide) (N' := 6) (by decide) (Nat.le_of_ble_eq_true rfl) (Nat.le_of_ble_eq_true rfl) (Nat.le_of_ble_eq_true rfl) d_5_1_117 (fun q26 H26 hP26 hS26 => ?_)
  clear hP25 hS25
  refine W.widen (k := 16) (n := 37518) (Nat.le_of_ble_eq_true rfl) (Nat.le_of_ble_eq_true rfl) ?_
  refine gputFX hx hb hts inW_3 tyX3 tyX3_ok nmX3 hown hK hP26 hD25 hS26 0 rfl rfl hF25 12 (by decide) k_1_129 rfl hnm rfl rfl rfl d_5_1_119 (L' := [(11, .ref q23)]) rfl (fun f27 H27 locs27 hF27 hm27 hP27 hD27 hS27 => ?_)
  have hM27 := gM.tr hM25 hm27
  have hP27 : va_P D cls [(a0, .inr (3, rg 22 f27)), (q23, .inr (10, rg 9 x24_0)), (x24_1, .inl (ca 1, 3001, .inr (.inl x24_2))), (x24_3, .inl (ca 0, 3001, .inl x24_4)), (x24_5, .inl (ca 0, 3001, .inl x24_6))] H27 := hP27
  have hD27 : va_D A [(a0, .inr (3, rg 22 f27)), (q23, .inr (10, rg 9 x24_0)), (x24_1, .inl (ca 1, 3001, .inr (.inl x24_2))), (x24_3, .inl (ca 0, 3001, .inl x24_4)), (x24_5, .inl (ca 0, 3001, .inl x24_6))] := hD27
  clear hP26 hD25 hS26 hF25 hM25 hm27
  refine lv_aload_n hx hb d_5_1_122 rfl (lv_at hl 0 rfl) ?_
  refine lv_bipush (v := 6) hx hb d_5_1_123 (by decide) ?_
  refine gnewaX (atype := .int) hx hb hts k_1_57 hP27 hS27 (by decide) (N' := 6) (by decide) (Nat.le_of_ble_eq_true rfl) (Nat.le_of_ble_eq_true rfl) (Nat.le_of_ble_eq_true rfl) d_5_1_125 (fun q28 H28 hP28 hS28 => ?_)
  clear hP27 hS27
  refine W.widen (k := 17) (n := 37524) (Nat.le_of_ble_eq_true rfl) (Nat.le_of_ble_eq_true rfl) ?_
  refine gputFX hx hb hts inW_3 tyX3 tyX3_ok nmX3 hown hK hP28 hD27 hS28 0 rfl rfl hF27 13 (by decide) k_1_130 rfl hnm rfl rfl rfl d_5_1_127 (L' := [(11, .ref q23)]) rfl (fun f29 H29 locs29 hF29 hm29 hP29 hD29 hS29 => ?_)
  have hM29 := gM.tr hM27 hm29
  have hP29 : va_P D cls [(a0, .inr (3, rg 22 f29)), (q23, .inr (10, rg 9 x24_0)), (x24_1, .inl (ca 1, 3001, .inr (.inl x24_2))), (x24_3, .inl (ca 0, 3001, .inl x24_4)), (x24_5, .inl (ca 0, 3001, .inl x24_6))] H29 := hP29
  have hD29 : va_D A [(a0, .inr (3, rg 22 f29)), (q23, .inr (10, rg 9 x24_0)), (x24_1, .inl (ca 1, 3001, .inr (.inl x24_2))), (x24_3, .inl (ca 0, 3001, .inl x24_4)), (x24_5, .inl (ca 0, 3001, .inl x24_6))] := hD29
  clear hP28 hD27 hS28 hF27 hM27 hm29
  have hP9 := hP29.sub (ws' := [(a0, .inr (3, rg 22 f29)), (q23, .inr (10, rg 9 x24_0)), (x24_1, .inl (ca 1, 3001, .inr (.inl x24_2))), (x24_3, .inl (ca 0, 3001, .inl x24_4)), (x24_5, .inl (ca 0, 3001, .inl x24_6))]) [0, 1, 2, 3, 4] rfl
  have hD9 := hD29.sub (ws' := [(a0, .inr (3, rg 22 f29)), (q23, .inr (10, rg 9 x24_0)), (x24_1, .inl (ca 1, 3001, .inr (.inl x24_2))), (x24_3, .inl (ca 0, 3001, .inl x24_4)), (x24_5, .inl (ca 0, 3001, .inl x24_6))]) [0, 1, 2, 3, 4] (by decide) rfl
  refine W.widen (k := 17) (n := 37524) (Nat.le_of_ble_eq_true rfl) (Nat.le_of_ble_eq_true rfl) ?_
  exact W.vret hx hb hr (fun t ht hW => ⟨⟨(f29, q23, x24_0, x24_1, x24_2, x24_3, x24_4, x24_5, x24_6), rfl, ⟨hM29.mono (by decide), hF29.sub [0] rfl, hF24_0.sub [0, 1, 2, 3, 4, 5, 6] rfl, hw24_2.sub [] rfl, hw24_3.sub [] rfl, hw24_4.sub [] rfl⟩, by rw [ht]; exact hP9, va_K.moved hW.alike hK, hD9⟩, hS29.F ht⟩) hS29.2.2 d_5_1_130
abbrev Q_Walker_init_0 (D : va_G) (ca : Nat → ClassId) (a0 : Nat) (g0 : Nat → Value) (A : Nat → Prop) : Array Value → State → Outcome → State → Prop := va_Qv (S := (Nat → Value)) (fun (u : (Nat → Value)) => gM g0 u [17, 16, 15, 14] ∧ gF u []) (fun u => gB D ca A [(a0, .inr (11, rg 19 u))]) A
set_option maxHeartbeats 8000000 in
set_option maxRecDepth 100000 in
theorem c_Walker_init_0 (l : Launch) (D : va_G) (ca : Nat → ClassId) (ad av : Nat → Nat) (sz : Nat) (a0 : Nat) (g0 : Nat → Value) (hp0 : gF g0 []) : Met l ({ cls := "StaveHouse$Walker", name := "<init>", desc := "()V" } : Jvm.MethodName) (Cond.code ({ cls := "StaveHouse$Walker", name := "<init>", desc := "()V" } : Jvm.MethodName) prog_13_method_1_code 1 (Option.none : Option Jvm.ClassFile.FieldType) :: wAll) ({ frames := 1, cells := 4, slots := 196, locals := 12 } : Room) (va_Pc [.ref a0] (gPre D ca ad av [(a0, .inr (11, rg 19 g0))] sz)) (Q_Walker_init_0 D ca a0 g0 (va_A [(a0, .inr (11, rg 19 g0))] sz)) 4 196 (va_A [(a0, .inr (11, rg 19 g0))] sz) := by
  refine gMet (Qc := Q_Walker_init_0 D ca a0 g0) (lv := [(0, .ref a0)]) (by decide) (Nat.le_of_ble_eq_true rfl) rfl (fun A p e s m below meth c ls hx hb hr hml hown hts hlk hnm hl hP hK hD hS hA hX => ?_)
  have hown : s.vm.findClass "StaveHouse$Walker" = some m.cls := hown
  have hnm : meth.name = "<init>" := hnm
  refine lv_aload_n hx hb d_13_1_0 rfl (lv_at hl 0 rfl) ?_
  refine W.objInit hx hb hown (hts _ k_1_189) (hts _ k_1_30) (hts _ k_1_31) rfl (by rw [hml]; exact hl.1) rfl d_13_1_1 (Nat.le_of_ble_eq_true rfl) (Nat.le_of_ble_eq_true rfl) ?_
  refine W.eq (g2 := F0 m 4 ls []) rfl ?_
  refine lv_aload_n hx hb d_13_1_4 rfl (lv_at hl 0 rfl) ?_
  refine lv_iconst (v := 4) hx hb d_13_1_5 (by decide) ?_
  refine gnewaX (atype := .int) hx hb hts k_1_57 hP hS (by decide) (N' := 4) (by decide) (Nat.le_of_ble_eq_true rfl) (Nat.le_of_ble_eq_true rfl) (Nat.le_of_ble_eq_true rfl) d_13_1_6 (fun q1 H1 hP1 hS1 => ?_)
  refine W.widen (k := 1) (n := 4) (Nat.le_of_ble_eq_true rfl) (Nat.le_of_ble_eq_true rfl) ?_
  refine gputFX hx hb hts inW_11 tyX11 tyX11_ok nmX11 hown hK hP1 hD hS1 0 rfl rfl hp0 14 (by decide) k_1_204 rfl hnm rfl rfl rfl d_13_1_8 (L' := []) rfl (fun f2 H2 locs2 hF2 hm2 hP2 hD2 hS2 => ?_)
  have hM2 := gM.tr (gM.rf (f := g0)) hm2
  have hP2 : va_P D cls [(a0, .inr (11, rg 19 f2))] H2 := hP2
  have hD2 : va_D A [(a0, .inr (11, rg 19 f2))] := hD2
  clear hP1 hS1 hm2
  refine lv_aload_n hx hb d_13_1_11 rfl (lv_at hl 0 rfl) ?_
  refine lv_bipush (v := 64) hx hb d_13_1_12 (by decide) ?_
  refine gnewaX (atype := .int) hx hb hts k_1_57 hP2 hS2 (by decide) (N' := 64) (by decide) (Nat.le_of_ble_eq_true rfl) (Nat.le_of_ble_eq_true rfl) (Nat.le_of_ble_eq_true rfl) d_13_1_14 (fun q3 H3 hP3 hS3 => ?_)
  clear hP2 hS2
  refine W.widen (k := 2) (n := 68) (Nat.le_of_ble_eq_true rfl) (Nat.le_of_ble_eq_true rfl) ?_
  refine gputFX hx hb hts inW_11 tyX11 tyX11_ok nmX11 hown hK hP3 hD2 hS3 0 rfl rfl hF2 15 (by decide) k_1_205 rfl hnm rfl rfl rfl d_13_1_16 (L' := []) rfl (fun f4 H4 locs4 hF4 hm4 hP4 hD4 hS4 => ?_)
  have hM4 := gM.tr hM2 hm4
  have hP4 : va_P D cls [(a0, .inr (11, rg 19 f4))] H4 := hP4
  have hD4 : va_D A [(a0, .inr (11, rg 19 f4))] := hD4
  clear hP3 hD2 hS3 hF2 hM2 hm4
  refine lv_aload_n hx hb d_13_1_19 rfl (lv_at hl 0 rfl) ?_
  refine lv_bipush (v := 64) hx hb d_13_1_20 (by decide) ?_
  refine gnewaX (atype := .int) hx hb hts k_1_57 hP4 hS4 (by decide) (N' := 64) (by decide) (Nat.le_of_ble_eq_true rfl) (Nat.le_of_ble_eq_true rfl) (Nat.le_of_ble_eq_true rfl) d_13_1_22 (fun q5 H5 hP5 hS5 => ?_)
  clear hP4 hS4
  refine W.widen (k := 3) (n := 132) (Nat.le_of_ble_eq_true rfl) (Nat.le_of_ble_eq_true rfl) ?_
  refine gputFX hx hb hts inW_11 tyX11 tyX11_ok nmX11 hown hK hP5 hD4 hS5 0 rfl rfl hF4 16 (by decide) k_1_206 rfl hnm rfl rfl rfl d_13_1_24 (L' := []) rfl (fun f6 H6 locs6 hF6 hm6 hP6 hD6 hS6 => ?_)
  have hM6 := gM.tr hM4 hm6
  have hP6 : va_P D cls [(a0, .inr (11, rg 19 f6))] H6 := hP6
  have hD6 : va_D A [(a0, .inr (11, rg 19 f6))] := hD6
  clear hP5 hD4 hS5 hF4 hM4 hm6
  refine lv_aload_n hx hb d_13_1_27 rfl (lv_at hl 0 rfl) ?_
  refine lv_bipush (v := 64) hx hb d_13_1_28 (by decide) ?_
  refine gnewaX (atype := .int) hx hb hts k_1_57 hP6 hS6 (by decide) (N' := 64) (by decide) (Nat.le_of_ble_eq_true rfl) (Nat.le_of_ble_eq_true rfl) (Nat.le_of_ble_eq_true rfl) d_13_1_30 (fun q7 H7 hP7 hS7 => ?_)
  clear hP6 hS6
  refine W.widen (k := 4) (n := 196) (Nat.le_of_ble_eq_true rfl) (Nat.le_of_ble_eq_true rfl) ?_
  refine gputFX hx hb hts inW_11 tyX11 tyX11_ok nmX11 hown hK hP7 hD6 hS7 0 rfl rfl hF6 17 (by decide) k_1_207 rfl hnm rfl rfl rfl d_13_1_32 (L' := []) rfl (fun f8 H8 locs8 hF8 hm8 hP8 hD8 hS8 => ?_)
  have hM8 := gM.tr hM6 hm8
  have hP8 : va_P D cls [(a0, .inr (11, rg 19 f8))] H8 := hP8
  have hD8 : va_D A [(a0, .inr (11, rg 19 f8))] := hD8
  clear hP7 hD6 hS7 hF6 hM6 hm8
  have hP9 := hP8.sub (ws' := [(a0, .inr (11, rg 19 f8))]) [0] rfl
  have hD9 := hD8.sub (ws' := [(a0, .inr (11, rg 19 f8))]) [0] (by decide) rfl
  refine W.widen (k := 4) (n := 196) (Nat.le_of_ble_eq_true rfl) (Nat.le_of_ble_eq_true rfl) ?_
  exact W.vret hx hb hr (fun t ht hW => ⟨⟨(f8), rfl, ⟨hM8.mono (by decide), hF8.sub [] rfl⟩, by rw [ht]; exact hP9, va_K.moved hW.alike hK, hD9⟩, hS8.F ht⟩) hS8.2.2 d_13_1_35
abbrev Q_Event_init_0 (D : va_G) (ca : Nat → ClassId) (a0 : Nat) (g0 : Nat → Value) (A : Nat → Prop) : Array Value → State → Outcome → State → Prop := va_Qv (S := (Nat → Value)) (fun (u : (Nat → Value)) => gM g0 u [13, 12] ∧ gF u []) (fun u => gB D ca A [(a0, .inr (1, rg 14 u))]) A
set_option maxHeartbeats 8000000 in
set_option maxRecDepth 100000 in
theorem c_Event_init_0 (l : Launch) (D : va_G) (ca : Nat → ClassId) (ad av : Nat → Nat) (sz : Nat) (a0 : Nat) (g0 : Nat → Value) (hp0 : gF g0 []) : Met l ({ cls := "StaveHouse$Event", name := "<init>", desc := "()V" } : Jvm.MethodName) (Cond.code ({ cls := "StaveHouse$Event", name := "<init>", desc := "()V" } : Jvm.MethodName) prog_3_method_1_code 1 (Option.none : Option Jvm.ClassFile.FieldType) :: wAll) ({ frames := 1, cells := 2, slots := 12, locals := 12 } : Room) (va_Pc [.ref a0] (gPre D ca ad av [(a0, .inr (1, rg 14 g0))] sz)) (Q_Event_init_0 D ca a0 g0 (va_A [(a0, .inr (1, rg 14 g0))] sz)) 2 12 (va_A [(a0, .inr (1, rg 14 g0))] sz) := by
  refine gMet (Qc := Q_Event_init_0 D ca a0 g0) (lv := [(0, .ref a0)]) (by decide) (Nat.le_of_ble_eq_true rfl) rfl (fun A p e s m below meth c ls hx hb hr hml hown hts hlk hnm hl hP hK hD hS hA hX => ?_)
  have hown : s.vm.findClass "StaveHouse$Event" = some m.cls := hown
  have hnm : meth.name = "<init>" := hnm
  refine lv_aload_n hx hb d_3_1_0 rfl (lv_at hl 0 rfl) ?_
  refine W.objInit hx hb hown (hts _ k_2_19) (hts _ k_1_30) (hts _ k_1_31) rfl (by rw [hml]; exact hl.1) rfl d_3_1_1 (Nat.le_of_ble_eq_true rfl) (Nat.le_of_ble_eq_true rfl) ?_
  refine W.eq (g2 := F0 m 4 ls []) rfl ?_
  refine lv_aload_n hx hb d_3_1_4 rfl (lv_at hl 0 rfl) ?_
  refine lv_bipush (v := 6) hx hb d_3_1_5 (by decide) ?_
  refine gnewaX (atype := .int) hx hb hts k_1_57 hP hS (by decide) (N' := 6) (by decide) (Nat.le_of_ble_eq_true rfl) (Nat.le_of_ble_eq_true rfl) (Nat.le_of_ble_eq_true rfl) d_3_1_7 (fun q1 H1 hP1 hS1 => ?_)
  refine W.widen (k := 1) (n := 6) (Nat.le_of_ble_eq_true rfl) (Nat.le_of_ble_eq_true rfl) ?_
  refine gputFX hx hb hts inW_1 tyX1 tyX1_ok nmX1 hown hK hP1 hD hS1 0 rfl rfl hp0 12 (by decide) k_2_57 rfl hnm rfl rfl rfl d_3_1_9 (L' := []) rfl (fun f2 H2 locs2 hF2 hm2 hP2 hD2 hS2 => ?_)
  have hM2 := gM.tr (gM.rf (f := g0)) hm2
  have hP2 : va_P D cls [(a0, .inr (1, rg 14 f2))] H2 := hP2
  have hD2 : va_D A [(a0, .inr (1, rg 14 f2))] := hD2
  clear hP1 hS1 hm2
  refine lv_aload_n hx hb d_3_1_12 rfl (lv_at hl 0 rfl) ?_
  refine lv_bipush (v := 6) hx hb d_3_1_13 (by decide) ?_
  refine gnewaX (atype := .int) hx hb hts k_1_57 hP2 hS2 (by decide) (N' := 6) (by decide) (Nat.le_of_ble_eq_true rfl) (Nat.le_of_ble_eq_true rfl) (Nat.le_of_ble_eq_true rfl) d_3_1_15 (fun q3 H3 hP3 hS3 => ?_)
  clear hP2 hS2
  refine W.widen (k := 2) (n := 12) (Nat.le_of_ble_eq_true rfl) (Nat.le_of_ble_eq_true rfl) ?_
  refine gputFX hx hb hts inW_1 tyX1 tyX1_ok nmX1 hown hK hP3 hD2 hS3 0 rfl rfl hF2 13 (by decide) k_2_63 rfl hnm rfl rfl rfl d_3_1_17 (L' := []) rfl (fun f4 H4 locs4 hF4 hm4 hP4 hD4 hS4 => ?_)
  have hM4 := gM.tr hM2 hm4
  have hP4 : va_P D cls [(a0, .inr (1, rg 14 f4))] H4 := hP4
  have hD4 : va_D A [(a0, .inr (1, rg 14 f4))] := hD4
  clear hP3 hD2 hS3 hF2 hM2 hm4
  have hP9 := hP4.sub (ws' := [(a0, .inr (1, rg 14 f4))]) [0] rfl
  have hD9 := hD4.sub (ws' := [(a0, .inr (1, rg 14 f4))]) [0] (by decide) rfl
  refine W.widen (k := 2) (n := 12) (Nat.le_of_ble_eq_true rfl) (Nat.le_of_ble_eq_true rfl) ?_
  exact W.vret hx hb hr (fun t ht hW => ⟨⟨(f4), rfl, ⟨hM4.mono (by decide), hF4.sub [] rfl⟩, by rw [ht]; exact hP9, va_K.moved hW.alike hK, hD9⟩, hS4.F ht⟩) hS4.2.2 d_3_1_20
abbrev Q_Scribe_init_0 (D : va_G) (ca : Nat → ClassId) (a0 : Nat) (g0 : Nat → Value) (A : Nat → Prop) : Array Value → State → Outcome → State → Prop := va_Qv (S := (Nat → Value)) (fun (u : (Nat → Value)) => gM g0 u [8, 4] ∧ gF u []) (fun u => gB D ca A [(a0, .inr (7, rg 9 u))]) A
set_option maxHeartbeats 8000000 in
set_option maxRecDepth 100000 in
theorem c_Scribe_init_0 (l : Launch) (D : va_G) (ca : Nat → ClassId) (ad av : Nat → Nat) (sz : Nat) (a0 : Nat) (g0 : Nat → Value) (hp0 : gF g0 []) : Met l ({ cls := "StaveHouse$Scribe", name := "<init>", desc := "()V" } : Jvm.MethodName) (Cond.code ({ cls := "StaveHouse$Scribe", name := "<init>", desc := "()V" } : Jvm.MethodName) prog_9_method_1_code 1 (Option.none : Option Jvm.ClassFile.FieldType) :: wAll) ({ frames := 2, cells := 4, slots := 154, locals := 32 } : Room) (va_Pc [.ref a0] (gPre D ca ad av [(a0, .inr (7, rg 9 g0))] sz)) (Q_Scribe_init_0 D ca a0 g0 (va_A [(a0, .inr (7, rg 9 g0))] sz)) 4 154 (va_A [(a0, .inr (7, rg 9 g0))] sz) := by
  refine gMet (Qc := Q_Scribe_init_0 D ca a0 g0) (lv := [(0, .ref a0)]) (by decide) (Nat.le_of_ble_eq_true rfl) rfl (fun A p e s m below meth c ls hx hb hr hml hown hts hlk hnm hl hP hK hD hS hA hX => ?_)
  have hown : s.vm.findClass "StaveHouse$Scribe" = some m.cls := hown
  have hnm : meth.name = "<init>" := hnm
  refine lv_aload_n hx hb d_9_1_0 rfl (lv_at hl 0 rfl) ?_
  refine W.objInit hx hb hown (hts _ k_2_13) (hts _ k_1_30) (hts _ k_1_31) rfl (by rw [hml]; exact hl.1) rfl d_9_1_1 (Nat.le_of_ble_eq_true rfl) (Nat.le_of_ble_eq_true rfl) ?_
  refine W.eq (g2 := F0 m 4 ls []) rfl ?_
  refine lv_aload_n hx hb d_9_1_4 rfl (lv_at hl 0 rfl) ?_
  refine gnew (L := []) (C := RX1) (T := TX1) (N := 14) (ci := 1) hx hb hts inW_1 tyX1 tyX1_ok hown k_2_14 k_2_15 k_1_8 hK hP hD hS hA rfl (Nat.le_of_ble_eq_true rfl) (Nat.le_of_ble_eq_true rfl) d_9_1_5 (gF_nil) (fun f1 q1 H1 hF1 hP1 hD1 hS1 => ?_)
  have hP1 : va_P D cls [(a0, .inr (7, rg 9 g0)), (q1, .inr (1, rg 14 f1))] H1 := hP1
  have hD1 : va_D A [(a0, .inr (7, rg 9 g0)), (q1, .inr (1, rg 14 f1))] := hD1
  refine W.widen (k := 1) (n := 14) (Nat.le_of_ble_eq_true rfl) (Nat.le_of_ble_eq_true rfl) ?_
  refine lv_dup hx hb d_9_1_8 rfl ?_
  have hFc2 := va_free (wc := [(q1, .inr (1, rg 14 f1))]) hD1 hS1 hA [1] rfl
  refine va_callv (va_runIN (As := []) (rest := [.ref q1, .ref a0]) ⟨hx, hb, hml, hown, hts⟩ (c_Event_init_0 l D ca ad av H1.size q1 f1 (hF1.sub [] rfl)) ⟨va_cnB 0 hts (gdC k_2_18) rfl rfl rfl (hX.1 _ (List.mem_of_getElem? (i := 4) rfl)) (hts _ k_1_8) (by decide +kernel) ⟨Nat.le_of_ble_eq_true rfl, Nat.le_of_ble_eq_true rfl⟩, rfl, hts _ k_2_17⟩ (gPS hP1 hD1 hK hS1 hA hX [1] (by decide) rfl [.ref q1]) rfl rfl hl.1 rfl (lv_room (Nat.le_of_ble_eq_true rfl)) d_9_1_9 ⟨Nat.le_of_ble_eq_true rfl, Nat.le_of_ble_eq_true rfl⟩) hS1 (fun q _ h => hFc2 q h) hFc2 (fun x2_0 t2 H2 locs2 ht2 hvm2 hw2 hB2 hz2 hk2 hS2 => ?_)
  obtain ⟨hw2_0, hw2_1⟩ := hw2
  obtain ⟨hP2, hD2⟩ := gJoin (wr := [(a0, .inr (7, rg 9 g0))]) (w1 := [(q1, .inr (1, rg 14 x2_0))]) hP1 hD1 [1] [0] rfl rfl (by decide) (by decide) hk2 hFc2 ht2 hB2
  have hF2_0 : gF x2_0 [] := gF.upd hF1 hw2_0 hw2_1 rfl
  have hP2 : va_P D cls [(a0, .inr (7, rg 9 g0)), (q1, .inr (1, rg 14 x2_0))] H2 := hP2
  have hD2 : va_D A [(a0, .inr (7, rg 9 g0)), (q1, .inr (1, rg 14 x2_0))] := hD2
  refine W.widen (k := 3) (n := 26) (Nat.le_of_ble_eq_true rfl) (Nat.le_of_ble_eq_true rfl) ?_
  refine gputFX hx hb hts inW_7 tyX7 tyX7_ok nmX7 hown hK hP2 hD2 hS2 0 rfl rfl hp0 4 (by decide) k_2_102 rfl hnm rfl rfl rfl d_9_1_12 (L' := []) rfl (fun f3 H3 locs3 hF3 hm3 hP3 hD3 hS3 => ?_)
  have hM3 := gM.tr (gM.rf (f := g0)) hm3
  have hP3 : va_P D cls [(a0, .inr (7, rg 9 f3)), (q1, .inr (1, rg 14 x2_0))] H3 := hP3
  have hD3 : va_D A [(a0, .inr (7, rg 9 f3)), (q1, .inr (1, rg 14 x2_0))] := hD3
  clear hP2 hD2 hS2 hm3
  have hP4 := hP3.sub (ws' := [(a0, .inr (7, rg 9 f3))]) [0] rfl
  have hD4 := hD3.sub (ws' := [(a0, .inr (7, rg 9 f3))]) [0] (by decide) rfl
  refine lv_aload_n hx hb d_9_1_15 rfl (lv_at hl 0 rfl) ?_
  refine lv_sipush (v := 128) hx hb d_9_1_16 (by decide) ?_
  refine gnewaX (atype := .boolean) hx hb hts k_2_126 hP4 hS3 (by decide) (N' := 128) (by decide) (Nat.le_of_ble_eq_true rfl) (Nat.le_of_ble_eq_true rfl) (Nat.le_of_ble_eq_true rfl) d_9_1_19 (fun q5 H5 hP5 hS5 => ?_)
  clear hP4 hS3
  refine W.widen (k := 4) (n := 154) (Nat.le_of_ble_eq_true rfl) (Nat.le_of_ble_eq_true rfl) ?_
  refine gputFX hx hb hts inW_7 tyX7 tyX7_ok nmX7 hown hK hP5 hD4 hS5 0 rfl rfl hF3 8 (by decide) k_2_106 rfl hnm rfl rfl rfl d_9_1_21 (L' := []) rfl (fun f6 H6 locs6 hF6 hm6 hP6 hD6 hS6 => ?_)
  have hM6 := gM.tr hM3 hm6
  have hP6 : va_P D cls [(a0, .inr (7, rg 9 f6))] H6 := hP6
  have hD6 : va_D A [(a0, .inr (7, rg 9 f6))] := hD6
  clear hP5 hD4 hS5 hF3 hM3 hm6
  have hP9 := hP6.sub (ws' := [(a0, .inr (7, rg 9 f6))]) [0] rfl
  have hD9 := hD6.sub (ws' := [(a0, .inr (7, rg 9 f6))]) [0] (by decide) rfl
  refine W.widen (k := 4) (n := 154) (Nat.le_of_ble_eq_true rfl) (Nat.le_of_ble_eq_true rfl) ?_
  exact W.vret hx hb hr (fun t ht hW => ⟨⟨(f6), rfl, ⟨hM6.mono (by decide), hF6.sub [] rfl⟩, by rw [ht]; exact hP9, va_K.moved hW.alike hK, hD9⟩, hS6.F ht⟩) hS6.2.2 d_9_1_24
abbrev Q_S_init_0 (D : va_G) (ca : Nat → ClassId) (a0 : Nat) (g0 : Nat → Value) (A : Nat → Prop) : Array Value → State → Outcome → State → Prop := va_Qv (S := (Nat → Value) × (Nat) × (Nat → Value) × (Nat) × (Nat → Option Nat) × (Nat) × (Nat → Value) × (Nat) × (Nat → Int32) × (Nat) × (Nat → Value) × (Nat) × (Nat → Value) × (Nat) × (Nat → Int32) × (Nat) × (Nat → Int32) × (Nat) × (Nat → Int64) × (Nat) × (Nat → Int32) × (Nat) × (Nat → Int32)) (fun (u : (Nat → Value) × (Nat) × (Nat → Value) × (Nat) × (Nat → Option Nat) × (Nat) × (Nat → Value) × (Nat) × (Nat → Int32) × (Nat) × (Nat → Value) × (Nat) × (Nat → Value) × (Nat) × (Nat → Int32) × (Nat) × (Nat → Int32) × (Nat) × (Nat → Int64) × (Nat) × (Nat → Int32) × (Nat) × (Nat → Int32)) => gM g0 u.1 [6, 5, 4, 3, 2, 1, 0] ∧ gF u.1 [(4, .ref u.2.1), (3, .ref u.2.2.2.1), (2, .ref u.2.2.2.2.2.1), (1, .ref u.2.2.2.2.2.2.2.1), (0, .ref u.2.2.2.2.2.2.2.2.2.1)] ∧ gF u.2.2.1 [(11, .ref u.2.2.2.2.2.2.2.2.2.2.2.1), (16, .int 0), (21, .int 0)] ∧ gF u.2.2.2.2.1 [(0, none), (1, none)] ∧ gF u.2.2.2.2.2.2.1 [(0, .ref u.2.2.2.2.2.2.2.2.2.2.2.2.2.1), (1, .int 0), (2, .int 0)] ∧ gF u.2.2.2.2.2.2.2.2.1 [] ∧ gF u.2.2.2.2.2.2.2.2.2.2.1 [(0, .ref u.2.2.2.2.2.2.2.2.2.2.2.2.2.2.2.1), (1, .int 0), (2, .int 0)] ∧ gF u.2.2.2.2.2.2.2.2.2.2.2.2.1 [(7, .ref u.2.2.2.2.2.2.2.2.2.2.2.2.2.2.2.2.2.1), (6, .ref u.2.2.2.2.2.2.2.2.2.2.2.2.2.2.2.2.2.2.2.1), (5, .ref u.2.2.2.2.2.2.2.2.2.2.2.2.2.2.2.2.2.2.2.2.2.1), (0, .int 0), (1, .int 0), (2, .long 0), (8, .int 0)] ∧ gF u.2.2.2.2.2.2.2.2.2.2.2.2.2.2.1 [] ∧ gF u.2.2.2.2.2.2.2.2.2.2.2.2.2.2.2.2.1 [] ∧ gF u.2.2.2.2.2.2.2.2.2.2.2.2.2.2.2.2.2.2.1 [] ∧ gF u.2.2.2.2.2.2.2.2.2.2.2.2.2.2.2.2.2.2.2.2.1 [] ∧ gF u.2.2.2.2.2.2.2.2.2.2.2.2.2.2.2.2.2.2.2.2.2.2 []) (fun u => gB D ca A [(a0, .inr (12, rg 10 u.1)), (u.2.1, .inr (3, rg 22 u.2.2.1)), (u.2.2.2.1, .inl (ca 4, 2, .inr (.inr (.inr (.inr u.2.2.2.2.1))))), (u.2.2.2.2.2.1, .inr (0, rg 3 u.2.2.2.2.2.2.1)), (u.2.2.2.2.2.2.2.1, .inl (ca 0, 20, .inl u.2.2.2.2.2.2.2.2.1)), (u.2.2.2.2.2.2.2.2.2.1, .inr (0, rg 3 u.2.2.2.2.2.2.2.2.2.2.1)), (u.2.2.2.2.2.2.2.2.2.2.2.1, .inr (10, rg 9 u.2.2.2.2.2.2.2.2.2.2.2.2.1)), (u.2.2.2.2.2.2.2.2.2.2.2.2.2.1, .inl (ca 0, 20480, .inl u.2.2.2.2.2.2.2.2.2.2.2.2.2.2.1)), (u.2.2.2.2.2.2.2.2.2.2.2.2.2.2.2.1, .inl (ca 0, 3000, .inl u.2.2.2.2.2.2.2.2.2.2.2.2.2.2.2.2.1)), (u.2.2.2.2.2.2.2.2.2.2.2.2.2.2.2.2.2.1, .inl (ca 1, 3001, .inr (.inl u.2.2.2.2.2.2.2.2.2.2.2.2.2.2.2.2.2.2.1))), (u.2.2.2.2.2.2.2.2.2.2.2.2.2.2.2.2.2.2.2.1, .inl (ca 0, 3001, .inl u.2.2.2.2.2.2.2.2.2.2.2.2.2.2.2.2.2.2.2.2.1)), (u.2.2.2.2.2.2.2.2.2.2.2.2.2.2.2.2.2.2.2.2.2.1, .inl (ca 0, 3001, .inl u.2.2.2.2.2.2.2.2.2.2.2.2.2.2.2.2.2.2.2.2.2.2))]) A
set_option maxHeartbeats 8000000 in
set_option maxRecDepth 100000 in
theorem c_S_init_0 (l : Launch) (D : va_G) (ca : Nat → ClassId) (ad av : Nat → Nat) (sz : Nat) (a0 : Nat) (g0 : Nat → Value) (hp0 : gF g0 []) : Met l ({ cls := "StaveHouse", name := "<init>", desc := "()V" } : Jvm.MethodName) (Cond.code ({ cls := "StaveHouse", name := "<init>", desc := "()V" } : Jvm.MethodName) prog_1_method_1_code 1 (Option.none : Option Jvm.ClassFile.FieldType) :: wAll) ({ frames := 3, cells := 34, slots := 61432, locals := 52 } : Room) (va_Pc [.ref a0] (gPre D ca ad av [(a0, .inr (12, rg 10 g0))] sz)) (Q_S_init_0 D ca a0 g0 (va_A [(a0, .inr (12, rg 10 g0))] sz)) 34 61432 (va_A [(a0, .inr (12, rg 10 g0))] sz) := by
  refine gMet (Qc := Q_S_init_0 D ca a0 g0) (lv := [(0, .ref a0)]) (by decide) (Nat.le_of_ble_eq_true rfl) rfl (fun A p e s m below meth c ls hx hb hr hml hown hts hlk hnm hl hP hK hD hS hA hX => ?_)
  have hown : s.vm.findClass "StaveHouse" = some m.cls := hown
  have hnm : meth.name = "<init>" := hnm
  refine lv_aload_n hx hb d_1_1_0 rfl (lv_at hl 0 rfl) ?_
  refine W.objInit hx hb hown (hts _ k_1_29) (hts _ k_1_30) (hts _ k_1_31) rfl (by rw [hml]; exact hl.1) rfl d_1_1_1 (Nat.le_of_ble_eq_true rfl) (Nat.le_of_ble_eq_true rfl) ?_
  refine W.eq (g2 := F0 m 4 ls []) rfl ?_
  refine lv_aload_n hx hb d_1_1_4 rfl (lv_at hl 0 rfl) ?_
  refine gnew (L := [(0, .null), (1, .int 0), (2, .int 0)]) (C := RX0) (T := TX0) (N := 3) (ci := 0) hx hb hts inW_0 tyX0 tyX0_ok hown k_1_32 k_1_33 k_1_2 hK hP hD hS hA rfl (Nat.le_of_ble_eq_true rfl) (Nat.le_of_ble_eq_true rfl) d_1_1_5 (gF_cons rfl (gF_cons rfl (gF_cons rfl (gF_nil)))) (fun f1 q1 H1 hF1 hP1 hD1 hS1 => ?_)
  have hP1 : va_P D cls [(a0, .inr (12, rg 10 g0)), (q1, .inr (0, rg 3 f1))] H1 := hP1
  have hD1 : va_D A [(a0, .inr (12, rg 10 g0)), (q1, .inr (0, rg 3 f1))] := hD1
  refine W.widen (k := 1) (n := 3) (Nat.le_of_ble_eq_true rfl) (Nat.le_of_ble_eq_true rfl) ?_
  refine lv_dup hx hb d_1_1_8 rfl ?_
  refine lv_sipush (v := 3000) hx hb d_1_1_9 (by decide) ?_
  have hFc2 := va_free (wc := [(q1, .inr (0, rg 3 f1))]) hD1 hS1 hA [1] rfl
  refine va_callv (va_runI (As := [.int 3000]) (rest := [.ref q1, .ref a0]) ⟨hx, hb, hml, hown, hts⟩ (c_ByteRow_init_0 l D ca ad av H1.size q1 f1 (hF1.sub [] rfl)) (cwI 1 hts (gdC k_1_36) rfl rfl rfl (hts _ k_1_2) (hts _ k_1_34) (hts _ k_1_35) rfl (by decide +kernel) ⟨Nat.le_of_ble_eq_true rfl, Nat.le_of_ble_eq_true rfl⟩) (gPS hP1 hD1 hK hS1 hA hX [1] (by decide) rfl [.ref q1, .int 3000]) rfl rfl hl.1 rfl (lv_room (Nat.le_of_ble_eq_true rfl)) d_1_1_12 ⟨Nat.le_of_ble_eq_true rfl, Nat.le_of_ble_eq_true rfl⟩) hS1 (fun q _ h => hFc2 q h) hFc2 (fun u2 t2 H2 locs2 ht2 hvm2 hw2 hB2 hz2 hk2 hS2 => ?_)
  obtain ⟨x2_0, x2_1, x2_2⟩ := u2
  try dsimp only at hw2 hB2
  obtain ⟨hw2_0, hw2_1, hw2_2⟩ := hw2
  obtain ⟨hP2, hD2⟩ := gJoin (wr := [(a0, .inr (12, rg 10 g0))]) (w1 := [(q1, .inr (0, rg 3 x2_0)), (x2_1, .inl (ca 0, 3000, .inl x2_2))]) hP1 hD1 [1] [0] rfl rfl (by decide) (by decide) hk2 hFc2 ht2 hB2
  have hF2_0 : gF x2_0 [(0, .ref x2_1), (1, .int 0), (2, .int 0)] := gF.upd hF1 hw2_0 hw2_1 rfl
  have hP2 : va_P D cls [(a0, .inr (12, rg 10 g0)), (q1, .inr (0, rg 3 x2_0)), (x2_1, .inl (ca 0, 3000, .inl x2_2))] H2 := hP2
  have hD2 : va_D A [(a0, .inr (12, rg 10 g0)), (q1, .inr (0, rg 3 x2_0)), (x2_1, .inl (ca 0, 3000, .inl x2_2))] := hD2
  refine W.widen (k := 2) (n := 3003) (Nat.le_of_ble_eq_true rfl) (Nat.le_of_ble_eq_true rfl) ?_
  refine gputF hx hb hts inW_12 tyX12 tyX12_ok nmX12 hown hK hP2 hD2 hS2 0 rfl rfl hp0 0 (by decide) k_2_127 rfl hnm rfl rfl rfl d_1_1_15 (L' := [(0, .ref q1)]) rfl (fun f3 H3 locs3 hF3 hm3 hP3 hD3 hS3 => ?_)
  have hM3 := gM.tr (gM.rf (f := g0)) hm3
  have hP3 : va_P D cls [(a0, .inr (12, rg 10 f3)), (q1, .inr (0, rg 3 x2_0)), (x2_1, .inl (ca 0, 3000, .inl x2_2))] H3 := hP3
  have hD3 : va_D A [(a0, .inr (12, rg 10 f3)), (q1, .inr (0, rg 3 x2_0)), (x2_1, .inl (ca 0, 3000, .inl x2_2))] := hD3
  clear hP2 hD2 hS2 hm3
  refine lv_aload_n hx hb d_1_1_18 rfl (lv_at hl 0 rfl) ?_
  refine lv_bipush (v := 20) hx hb d_1_1_19 (by decide) ?_
  refine gnewa (atype := .int) hx hb hts (ty := .int) rfl k_1_57 hK 0 rfl (fun _ _ => gu_int) hP3 hD3 hS3 hA (a0 := (20, .inl (fun _ => 0))) (fun _ => rfl) (by decide) (N' := 20) (by decide) (Nat.le_of_ble_eq_true rfl) (Nat.le_of_ble_eq_true rfl) (Nat.le_of_ble_eq_true rfl) d_1_1_21 (fun q4 H4 hP4 hD4 hS4 => ?_)
  obtain ⟨f4, hF4, hP4, hD4⟩ : ∃ f : Nat → Int32, gF f [] ∧ va_P D cls ([(a0, .inr (12, rg 10 f3)), (q1, .inr (0, rg 3 x2_0)), (x2_1, .inl (ca 0, 3000, .inl x2_2))] ++ [(q4, .inl (ca 0, 20, .inl f))]) H4 ∧ va_D A ([(a0, .inr (12, rg 10 f3)), (q1, .inr (0, rg 3 x2_0)), (x2_1, .inl (ca 0, 3000, .inl x2_2))] ++ [(q4, .inl (ca 0, 20, .inl f))]) := ⟨_, gF_nil, hP4, hD4⟩
  have hP4 : va_P D cls [(a0, .inr (12, rg 10 f3)), (q1, .inr (0, rg 3 x2_0)), (x2_1, .inl (ca 0, 3000, .inl x2_2)), (q4, .inl (ca 0, 20, .inl f4))] H4 := hP4
  have hD4 : va_D A [(a0, .inr (12, rg 10 f3)), (q1, .inr (0, rg 3 x2_0)), (x2_1, .inl (ca 0, 3000, .inl x2_2)), (q4, .inl (ca 0, 20, .inl f4))] := hD4
  refine W.widen (k := 3) (n := 3023) (Nat.le_of_ble_eq_true rfl) (Nat.le_of_ble_eq_true rfl) ?_
  refine gputF hx hb hts inW_12 tyX12 tyX12_ok nmX12 hown hK hP4 hD4 hS4 0 rfl rfl hF3 1 (by decide) k_2_128 rfl hnm rfl rfl rfl d_1_1_23 (L' := [(1, .ref q4), (0, .ref q1)]) rfl (fun f5 H5 locs5 hF5 hm5 hP5 hD5 hS5 => ?_)
  have hM5 := gM.tr hM3 hm5
  have hP5 : va_P D cls [(a0, .inr (12, rg 10 f5)), (q1, .inr (0, rg 3 x2_0)), (x2_1, .inl (ca 0, 3000, .inl x2_2)), (q4, .inl (ca 0, 20, .inl f4))] H5 := hP5
  have hD5 : va_D A [(a0, .inr (12, rg 10 f5)), (q1, .inr (0, rg 3 x2_0)), (x2_1, .inl (ca 0, 3000, .inl x2_2)), (q4, .inl (ca 0, 20, .inl f4))] := hD5
  clear hP4 hD4 hS4 hF3 hM3 hm5
  refine lv_aload_n hx hb d_1_1_26 rfl (lv_at hl 0 rfl) ?_
  refine gnew (L := [(0, .null), (1, .int 0), (2, .int 0)]) (C := RX0) (T := TX0) (N := 3) (ci := 0) hx hb hts inW_0 tyX0 tyX0_ok hown k_1_32 k_1_33 k_1_2 hK hP5 hD5 hS5 hA rfl (Nat.le_of_ble_eq_true rfl) (Nat.le_of_ble_eq_true rfl) d_1_1_27 (gF_cons rfl (gF_cons rfl (gF_cons rfl (gF_nil)))) (fun f6 q6 H6 hF6 hP6 hD6 hS6 => ?_)
  have hP6 : va_P D cls [(a0, .inr (12, rg 10 f5)), (q1, .inr (0, rg 3 x2_0)), (x2_1, .inl (ca 0, 3000, .inl x2_2)), (q4, .inl (ca 0, 20, .inl f4)), (q6, .inr (0, rg 3 f6))] H6 := hP6
  have hD6 : va_D A [(a0, .inr (12, rg 10 f5)), (q1, .inr (0, rg 3 x2_0)), (x2_1, .inl (ca 0, 3000, .inl x2_2)), (q4, .inl (ca 0, 20, .inl f4)), (q6, .inr (0, rg 3 f6))] := hD6
  refine W.widen (k := 4) (n := 3026) (Nat.le_of_ble_eq_true rfl) (Nat.le_of_ble_eq_true rfl) ?_
  refine lv_dup hx hb d_1_1_30 rfl ?_
  refine lv_sipush (v := 20480) hx hb d_1_1_31 (by decide) ?_
  have hFc7 := va_free (wc := [(q6, .inr (0, rg 3 f6))]) hD6 hS6 hA [4] rfl
  refine va_callv (va_runI (As := [.int 20480]) (rest := [.ref q6, .ref a0]) ⟨hx, hb, hml, hown, hts⟩ (c_ByteRow_init_1 l D ca ad av H6.size q6 f6 (hF6.sub [] rfl)) (cwI 1 hts (gdC k_1_36) rfl rfl rfl (hts _ k_1_2) (hts _ k_1_34) (hts _ k_1_35) rfl (by decide +kernel) ⟨Nat.le_of_ble_eq_true rfl, Nat.le_of_ble_eq_true rfl⟩) (gPS hP6 hD6 hK hS6 hA hX [4] (by decide) rfl [.ref q6, .int 20480]) rfl rfl hl.1 rfl (lv_room (Nat.le_of_ble_eq_true rfl)) d_1_1_34 ⟨Nat.le_of_ble_eq_true rfl, Nat.le_of_ble_eq_true rfl⟩) hS6 (fun q _ h => hFc7 q h) hFc7 (fun u7 t7 H7 locs7 ht7 hvm7 hw7 hB7 hz7 hk7 hS7 => ?_)
  obtain ⟨x7_0, x7_1, x7_2⟩ := u7
  try dsimp only at hw7 hB7
  obtain ⟨hw7_0, hw7_1, hw7_2⟩ := hw7
  obtain ⟨hP7, hD7⟩ := gJoin (wr := [(a0, .inr (12, rg 10 f5)), (q1, .inr (0, rg 3 x2_0)), (x2_1, .inl (ca 0, 3000, .inl x2_2)), (q4, .inl (ca 0, 20, .inl f4))]) (w1 := [(q6, .inr (0, rg 3 x7_0)), (x7_1, .inl (ca 0, 20480, .inl x7_2))]) hP6 hD6 [4] [0, 1, 2, 3] rfl rfl (by decide) (by decide) hk7 hFc7 ht7 hB7
  have hF7_0 : gF x7_0 [(0, .ref x7_1), (1, .int 0), (2, .int 0)] := gF.upd hF6 hw7_0 hw7_1 rfl
  have hP7 : va_P D cls [(a0, .inr (12, rg 10 f5)), (q1, .inr (0, rg 3 x2_0)), (x2_1, .inl (ca 0, 3000, .inl x2_2)), (q4, .inl (ca 0, 20, .inl f4)), (q6, .inr (0, rg 3 x7_0)), (x7_1, .inl (ca 0, 20480, .inl x7_2))] H7 := hP7
  have hD7 : va_D A [(a0, .inr (12, rg 10 f5)), (q1, .inr (0, rg 3 x2_0)), (x2_1, .inl (ca 0, 3000, .inl x2_2)), (q4, .inl (ca 0, 20, .inl f4)), (q6, .inr (0, rg 3 x7_0)), (x7_1, .inl (ca 0, 20480, .inl x7_2))] := hD7
  refine W.widen (k := 5) (n := 23506) (Nat.le_of_ble_eq_true rfl) (Nat.le_of_ble_eq_true rfl) ?_
  refine gputF hx hb hts inW_12 tyX12 tyX12_ok nmX12 hown hK hP7 hD7 hS7 0 rfl rfl hF5 2 (by decide) k_2_129 rfl hnm rfl rfl rfl d_1_1_37 (L' := [(2, .ref q6), (1, .ref q4), (0, .ref q1)]) rfl (fun f8 H8 locs8 hF8 hm8 hP8 hD8 hS8 => ?_)
  have hM8 := gM.tr hM5 hm8
  have hP8 : va_P D cls [(a0, .inr (12, rg 10 f8)), (q1, .inr (0, rg 3 x2_0)), (x2_1, .inl (ca 0, 3000, .inl x2_2)), (q4, .inl (ca 0, 20, .inl f4)), (q6, .inr (0, rg 3 x7_0)), (x7_1, .inl (ca 0, 20480, .inl x7_2))] H8 := hP8
  have hD8 : va_D A [(a0, .inr (12, rg 10 f8)), (q1, .inr (0, rg 3 x2_0)), (x2_1, .inl (ca 0, 3000, .inl x2_2)), (q4, .inl (ca 0, 20, .inl f4)), (q6, .inr (0, rg 3 x7_0)), (x7_1, .inl (ca 0, 20480, .inl x7_2))] := hD8
  clear hP7 hD7 hS7 hF5 hM5 hm8
  refine lv_aload_n hx hb d_1_1_40 rfl (lv_at hl 0 rfl) ?_
  refine lv_iconst (v := 2) hx hb d_1_1_41 (by decide) ?_
  refine gnewq hx hb hts hown k_1_58 (hX.2.1 _ (List.mem_of_getElem? (i := 0) rfl)) hK 4 rfl hP8 hD8 hS8 hA (by decide) (N' := 2) (by decide) (Nat.le_of_ble_eq_true rfl) (Nat.le_of_ble_eq_true rfl) (Nat.le_of_ble_eq_true rfl) d_1_1_42 (fun q9 H9 hP9 hD9 hS9 => ?_)
  obtain ⟨f9, hF9, hP9, hD9⟩ : ∃ f : Nat → Option Nat, gF f [(0, none), (1, none)] ∧ va_P D cls ([(a0, .inr (12, rg 10 f8)), (q1, .inr (0, rg 3 x2_0)), (x2_1, .inl (ca 0, 3000, .inl x2_2)), (q4, .inl (ca 0, 20, .inl f4)), (q6, .inr (0, rg 3 x7_0)), (x7_1, .inl (ca 0, 20480, .inl x7_2))] ++ [(q9, .inl (ca 4, 2, .inr (.inr (.inr (.inr f)))))]) H9 ∧ va_D A ([(a0, .inr (12, rg 10 f8)), (q1, .inr (0, rg 3 x2_0)), (x2_1, .inl (ca 0, 3000, .inl x2_2)), (q4, .inl (ca 0, 20, .inl f4)), (q6, .inr (0, rg 3 x7_0)), (x7_1, .inl (ca 0, 20480, .inl x7_2))] ++ [(q9, .inl (ca 4, 2, .inr (.inr (.inr (.inr f)))))]) := ⟨fun _ => none, gF_cons rfl (gF_cons rfl (gF_nil)), hP9, hD9⟩
  have hP9 : va_P D cls [(a0, .inr (12, rg 10 f8)), (q1, .inr (0, rg 3 x2_0)), (x2_1, .inl (ca 0, 3000, .inl x2_2)), (q4, .inl (ca 0, 20, .inl f4)), (q6, .inr (0, rg 3 x7_0)), (x7_1, .inl (ca 0, 20480, .inl x7_2)), (q9, .inl (ca 4, 2, .inr (.inr (.inr (.inr f9)))))] H9 := hP9
  have hD9 : va_D A [(a0, .inr (12, rg 10 f8)), (q1, .inr (0, rg 3 x2_0)), (x2_1, .inl (ca 0, 3000, .inl x2_2)), (q4, .inl (ca 0, 20, .inl f4)), (q6, .inr (0, rg 3 x7_0)), (x7_1, .inl (ca 0, 20480, .inl x7_2)), (q9, .inl (ca 4, 2, .inr (.inr (.inr (.inr f9)))))] := hD9
  refine W.widen (k := 6) (n := 23508) (Nat.le_of_ble_eq_true rfl) (Nat.le_of_ble_eq_true rfl) ?_
  refine gputF hx hb hts inW_12 tyX12 tyX12_ok nmX12 hown hK hP9 hD9 hS9 0 rfl rfl hF8 3 (by decide) k_2_130 rfl hnm rfl rfl rfl d_1_1_45 (L' := [(3, .ref q9), (2, .ref q6), (1, .ref q4), (0, .ref q1)]) rfl (fun f10 H10 locs10 hF10 hm10 hP10 hD10 hS10 => ?_)
  have hM10 := gM.tr hM8 hm10
  have hP10 : va_P D cls [(a0, .inr (12, rg 10 f10)), (q1, .inr (0, rg 3 x2_0)), (x2_1, .inl (ca 0, 3000, .inl x2_2)), (q4, .inl (ca 0, 20, .inl f4)), (q6, .inr (0, rg 3 x7_0)), (x7_1, .inl (ca 0, 20480, .inl x7_2)), (q9, .inl (ca 4, 2, .inr (.inr (.inr (.inr f9)))))] H10 := hP10
  have hD10 : va_D A [(a0, .inr (12, rg 10 f10)), (q1, .inr (0, rg 3 x2_0)), (x2_1, .inl (ca 0, 3000, .inl x2_2)), (q4, .inl (ca 0, 20, .inl f4)), (q6, .inr (0, rg 3 x7_0)), (x7_1, .inl (ca 0, 20480, .inl x7_2)), (q9, .inl (ca 4, 2, .inr (.inr (.inr (.inr f9)))))] := hD10
  clear hP9 hD9 hS9 hF8 hM8 hm10
  refine lv_aload_n hx hb d_1_1_48 rfl (lv_at hl 0 rfl) ?_
  refine gnew (L := [(11, .null), (16, .int 0), (21, .int 0)]) (C := RX3) (T := TX3) (N := 22) (ci := 3) hx hb hts inW_3 tyX3 tyX3_ok hown k_1_60 k_1_61 k_1_4 hK hP10 hD10 hS10 hA rfl (Nat.le_of_ble_eq_true rfl) (Nat.le_of_ble_eq_true rfl) d_1_1_49 (gF_cons rfl (gF_cons rfl (gF_cons rfl (gF_nil)))) (fun f11 q11 H11 hF11 hP11 hD11 hS11 => ?_)
  have hP11 : va_P D cls [(a0, .inr (12, rg 10 f10)), (q1, .inr (0, rg 3 x2_0)), (x2_1, .inl (ca 0, 3000, .inl x2_2)), (q4, .inl (ca 0, 20, .inl f4)), (q6, .inr (0, rg 3 x7_0)), (x7_1, .inl (ca 0, 20480, .inl x7_2)), (q9, .inl (ca 4, 2, .inr (.inr (.inr (.inr f9))))), (q11, .inr (3, rg 22 f11))] H11 := hP11
  have hD11 : va_D A [(a0, .inr (12, rg 10 f10)), (q1, .inr (0, rg 3 x2_0)), (x2_1, .inl (ca 0, 3000, .inl x2_2)), (q4, .inl (ca 0, 20, .inl f4)), (q6, .inr (0, rg 3 x7_0)), (x7_1, .inl (ca 0, 20480, .inl x7_2)), (q9, .inl (ca 4, 2, .inr (.inr (.inr (.inr f9))))), (q11, .inr (3, rg 22 f11))] := hD11
  refine W.widen (k := 7) (n := 23530) (Nat.le_of_ble_eq_true rfl) (Nat.le_of_ble_eq_true rfl) ?_
  refine lv_dup hx hb d_1_1_52 rfl ?_
  have hFc12 := va_free (wc := [(q11, .inr (3, rg 22 f11))]) hD11 hS11 hA [7] rfl
  refine va_callv (va_runIN (As := []) (rest := [.ref q11, .ref a0]) ⟨hx, hb, hml, hown, hts⟩ (c_Parser_init_0 l D ca ad av H11.size q11 f11 (hF11.sub [] rfl)) ⟨va_cnB 0 hts (gdC k_1_64) rfl rfl rfl (hX.1 _ (List.mem_of_getElem? (i := 0) rfl)) (hts _ k_1_4) (by decide +kernel) ⟨Nat.le_of_ble_eq_true rfl, Nat.le_of_ble_eq_true rfl⟩, rfl, hts _ k_1_63⟩ (gPS hP11 hD11 hK hS11 hA hX [7] (by decide) rfl [.ref q11]) rfl rfl hl.1 rfl (lv_room (Nat.le_of_ble_eq_true rfl)) d_1_1_53 ⟨Nat.le_of_ble_eq_true rfl, Nat.le_of_ble_eq_true rfl⟩) hS11 (fun q _ h => hFc12 q h) hFc12 (fun u12 t12 H12 locs12 ht12 hvm12 hw12 hB12 hz12 hk12 hS12 => ?_)
  obtain ⟨x12_0, x12_1, x12_2, x12_3, x12_4, x12_5, x12_6, x12_7, x12_8⟩ := u12
  try dsimp only at hw12 hB12
  obtain ⟨hw12_0, hw12_1, hw12_2, hw12_3, hw12_4, hw12_5⟩ := hw12
  obtain ⟨hP12, hD12⟩ := gJoin (wr := [(a0, .inr (12, rg 10 f10)), (q1, .inr (0, rg 3 x2_0)), (x2_1, .inl (ca 0, 3000, .inl x2_2)), (q4, .inl (ca 0, 20, .inl f4)), (q6, .inr (0, rg 3 x7_0)), (x7_1, .inl (ca 0, 20480, .inl x7_2)), (q9, .inl (ca 4, 2, .inr (.inr (.inr (.inr f9)))))]) (w1 := [(q11, .inr (3, rg 22 x12_0)), (x12_1, .inr (10, rg 9 x12_2)), (x12_3, .inl (ca 1, 3001, .inr (.inl x12_4))), (x12_5, .inl (ca 0, 3001, .inl x12_6)), (x12_7, .inl (ca 0, 3001, .inl x12_8))]) hP11 hD11 [7] [0, 1, 2, 3, 4, 5, 6] rfl rfl (by decide) (by decide) hk12 hFc12 ht12 hB12
  have hF12_0 : gF x12_0 [(11, .ref x12_1), (16, .int 0), (21, .int 0)] := gF.upd hF11 hw12_0 hw12_1 rfl
  have hP12 : va_P D cls [(a0, .inr (12, rg 10 f10)), (q1, .inr (0, rg 3 x2_0)), (x2_1, .inl (ca 0, 3000, .inl x2_2)), (q4, .inl (ca 0, 20, .inl f4)), (q6, .inr (0, rg 3 x7_0)), (x7_1, .inl (ca 0, 20480, .inl x7_2)), (q9, .inl (ca 4, 2, .inr (.inr (.inr (.inr f9))))), (q11, .inr (3, rg 22 x12_0)), (x12_1, .inr (10, rg 9 x12_2)), (x12_3, .inl (ca 1, 3001, .inr (.inl x12_4))), (x12_5, .inl (ca 0, 3001, .inl x12_6)), (x12_7, .inl (ca 0, 3001, .inl x12_8))] H12 := hP12
  have hD12 : va_D A [(a0, .inr (12, rg 10 f10)), (q1, .inr (0, rg 3 x2_0)), (x2_1, .inl (ca 0, 3000, .inl x2_2)), (q4, .inl (ca 0, 20, .inl f4)), (q6, .inr (0, rg 3 x7_0)), (x7_1, .inl (ca 0, 20480, .inl x7_2)), (q9, .inl (ca 4, 2, .inr (.inr (.inr (.inr f9))))), (q11, .inr (3, rg 22 x12_0)), (x12_1, .inr (10, rg 9 x12_2)), (x12_3, .inl (ca 1, 3001, .inr (.inl x12_4))), (x12_5, .inl (ca 0, 3001, .inl x12_6)), (x12_7, .inl (ca 0, 3001, .inl x12_8))] := hD12
  refine W.widen (k := 24) (n := 61054) (Nat.le_of_ble_eq_true rfl) (Nat.le_of_ble_eq_true rfl) ?_
  refine gputF hx hb hts inW_12 tyX12 tyX12_ok nmX12 hown hK hP12 hD12 hS12 0 rfl rfl hF10 4 (by decide) k_2_131 rfl hnm rfl rfl rfl d_1_1_56 (L' := [(4, .ref q11), (3, .ref q9), (2, .ref q6), (1, .ref q4), (0, .ref q1)]) rfl (fun f13 H13 locs13 hF13 hm13 hP13 hD13 hS13 => ?_)
  have hM13 := gM.tr hM10 hm13
  have hP13 : va_P D cls [(a0, .inr (12, rg 10 f13)), (q1, .inr (0, rg 3 x2_0)), (x2_1, .inl (ca 0, 3000, .inl x2_2)), (q4, .inl (ca 0, 20, .inl f4)), (q6, .inr (0, rg 3 x7_0)), (x7_1, .inl (ca 0, 20480, .inl x7_2)), (q9, .inl (ca 4, 2, .inr (.inr (.inr (.inr f9))))), (q11, .inr (3, rg 22 x12_0)), (x12_1, .inr (10, rg 9 x12_2)), (x12_3, .inl (ca 1, 3001, .inr (.inl x12_4))), (x12_5, .inl (ca 0, 3001, .inl x12_6)), (x12_7, .inl (ca 0, 3001, .inl x12_8))] H13 := hP13
  have hD13 : va_D A [(a0, .inr (12, rg 10 f13)), (q1, .inr (0, rg 3 x2_0)), (x2_1, .inl (ca 0, 3000, .inl x2_2)), (q4, .inl (ca 0, 20, .inl f4)), (q6, .inr (0, rg 3 x7_0)), (x7_1, .inl (ca 0, 20480, .inl x7_2)), (q9, .inl (ca 4, 2, .inr (.inr (.inr (.inr f9))))), (q11, .inr (3, rg 22 x12_0)), (x12_1, .inr (10, rg 9 x12_2)), (x12_3, .inl (ca 1, 3001, .inr (.inl x12_4))), (x12_5, .inl (ca 0, 3001, .inl x12_6)), (x12_7, .inl (ca 0, 3001, .inl x12_8))] := hD13
  clear hP12 hD12 hS12 hF10 hM10 hm13
  refine lv_aload_n hx hb d_1_1_59 rfl (lv_at hl 0 rfl) ?_
  refine gnew (L := []) (C := RX11) (T := TX11) (N := 19) (ci := 11) hx hb hts inW_11 tyX11 tyX11_ok hown k_1_184 k_1_185 k_1_6 hK hP13 hD13 hS13 hA rfl (Nat.le_of_ble_eq_true rfl) (Nat.le_of_ble_eq_true rfl) d_1_1_60 (gF_nil) (fun f14 q14 H14 hF14 hP14 hD14 hS14 => ?_)
  have hP14 : va_P D cls [(a0, .inr (12, rg 10 f13)), (q1, .inr (0, rg 3 x2_0)), (x2_1, .inl (ca 0, 3000, .inl x2_2)), (q4, .inl (ca 0, 20, .inl f4)), (q6, .inr (0, rg 3 x7_0)), (x7_1, .inl (ca 0, 20480, .inl x7_2)), (q9, .inl (ca 4, 2, .inr (.inr (.inr (.inr f9))))), (q11, .inr (3, rg 22 x12_0)), (x12_1, .inr (10, rg 9 x12_2)), (x12_3, .inl (ca 1, 3001, .inr (.inl x12_4))), (x12_5, .inl (ca 0, 3001, .inl x12_6)), (x12_7, .inl (ca 0, 3001, .inl x12_8)), (q14, .inr (11, rg 19 f14))] H14 := hP14
  have hD14 : va_D A [(a0, .inr (12, rg 10 f13)), (q1, .inr (0, rg 3 x2_0)), (x2_1, .inl (ca 0, 3000, .inl x2_2)), (q4, .inl (ca 0, 20, .inl f4)), (q6, .inr (0, rg 3 x7_0)), (x7_1, .inl (ca 0, 20480, .inl x7_2)), (q9, .inl (ca 4, 2, .inr (.inr (.inr (.inr f9))))), (q11, .inr (3, rg 22 x12_0)), (x12_1, .inr (10, rg 9 x12_2)), (x12_3, .inl (ca 1, 3001, .inr (.inl x12_4))), (x12_5, .inl (ca 0, 3001, .inl x12_6)), (x12_7, .inl (ca 0, 3001, .inl x12_8)), (q14, .inr (11, rg 19 f14))] := hD14
  refine W.widen (k := 25) (n := 61073) (Nat.le_of_ble_eq_true rfl) (Nat.le_of_ble_eq_true rfl) ?_
  refine lv_dup hx hb d_1_1_63 rfl ?_
  have hFc15 := va_free (wc := [(q14, .inr (11, rg 19 f14))]) hD14 hS14 hA [12] rfl
  refine va_callv (va_runIN (As := []) (rest := [.ref q14, .ref a0]) ⟨hx, hb, hml, hown, hts⟩ (c_Walker_init_0 l D ca ad av H14.size q14 f14 (hF14.sub [] rfl)) ⟨va_cnB 0 hts (gdC k_1_188) rfl rfl rfl (hX.1 _ (List.mem_of_getElem? (i := 2) rfl)) (hts _ k_1_6) (by decide +kernel) ⟨Nat.le_of_ble_eq_true rfl, Nat.le_of_ble_eq_true rfl⟩, rfl, hts _ k_1_187⟩ (gPS hP14 hD14 hK hS14 hA hX [12] (by decide) rfl [.ref q14]) rfl rfl hl.1 rfl (lv_room (Nat.le_of_ble_eq_true rfl)) d_1_1_64 ⟨Nat.le_of_ble_eq_true rfl, Nat.le_of_ble_eq_true rfl⟩) hS14 (fun q _ h => hFc15 q h) hFc15 (fun x15_0 t15 H15 locs15 ht15 hvm15 hw15 hB15 hz15 hk15 hS15 => ?_)
  obtain ⟨hw15_0, hw15_1⟩ := hw15
  obtain ⟨hP15, hD15⟩ := gJoin (wr := [(a0, .inr (12, rg 10 f13)), (q1, .inr (0, rg 3 x2_0)), (x2_1, .inl (ca 0, 3000, .inl x2_2)), (q4, .inl (ca 0, 20, .inl f4)), (q6, .inr (0, rg 3 x7_0)), (x7_1, .inl (ca 0, 20480, .inl x7_2)), (q9, .inl (ca 4, 2, .inr (.inr (.inr (.inr f9))))), (q11, .inr (3, rg 22 x12_0)), (x12_1, .inr (10, rg 9 x12_2)), (x12_3, .inl (ca 1, 3001, .inr (.inl x12_4))), (x12_5, .inl (ca 0, 3001, .inl x12_6)), (x12_7, .inl (ca 0, 3001, .inl x12_8))]) (w1 := [(q14, .inr (11, rg 19 x15_0))]) hP14 hD14 [12] [0, 1, 2, 3, 4, 5, 6, 7, 8, 9, 10, 11] rfl rfl (by decide) (by decide) hk15 hFc15 ht15 hB15
  have hF15_0 : gF x15_0 [] := gF.upd hF14 hw15_0 hw15_1 rfl
  have hP15 : va_P D cls [(a0, .inr (12, rg 10 f13)), (q1, .inr (0, rg 3 x2_0)), (x2_1, .inl (ca 0, 3000, .inl x2_2)), (q4, .inl (ca 0, 20, .inl f4)), (q6, .inr (0, rg 3 x7_0)), (x7_1, .inl (ca 0, 20480, .inl x7_2)), (q9, .inl (ca 4, 2, .inr (.inr (.inr (.inr f9))))), (q11, .inr (3, rg 22 x12_0)), (x12_1, .inr (10, rg 9 x12_2)), (x12_3, .inl (ca 1, 3001, .inr (.inl x12_4))), (x12_5, .inl (ca 0, 3001, .inl x12_6)), (x12_7, .inl (ca 0, 3001, .inl x12_8)), (q14, .inr (11, rg 19 x15_0))] H15 := hP15
  have hD15 : va_D A [(a0, .inr (12, rg 10 f13)), (q1, .inr (0, rg 3 x2_0)), (x2_1, .inl (ca 0, 3000, .inl x2_2)), (q4, .inl (ca 0, 20, .inl f4)), (q6, .inr (0, rg 3 x7_0)), (x7_1, .inl (ca 0, 20480, .inl x7_2)), (q9, .inl (ca 4, 2, .inr (.inr (.inr (.inr f9))))), (q11, .inr (3, rg 22 x12_0)), (x12_1, .inr (10, rg 9 x12_2)), (x12_3, .inl (ca 1, 3001, .inr (.inl x12_4))), (x12_5, .inl (ca 0, 3001, .inl x12_6)), (x12_7, .inl (ca 0, 3001, .inl x12_8)), (q14, .inr (11, rg 19 x15_0))] := hD15
  refine W.widen (k := 29) (n := 61269) (Nat.le_of_ble_eq_true rfl) (Nat.le_of_ble_eq_true rfl) ?_
  refine gputFX hx hb hts inW_12 tyX12 tyX12_ok nmX12 hown hK hP15 hD15 hS15 0 rfl rfl hF13 5 (by decide) k_2_132 rfl hnm rfl rfl rfl d_1_1_67 (L' := [(4, .ref q11), (3, .ref q9), (2, .ref q6), (1, .ref q4), (0, .ref q1)]) rfl (fun f16 H16 locs16 hF16 hm16 hP16 hD16 hS16 => ?_)
  have hM16 := gM.tr hM13 hm16
  have hP16 : va_P D cls [(a0, .inr (12, rg 10 f16)), (q1, .inr (0, rg 3 x2_0)), (x2_1, .inl (ca 0, 3000, .inl x2_2)), (q4, .inl (ca 0, 20, .inl f4)), (q6, .inr (0, rg 3 x7_0)), (x7_1, .inl (ca 0, 20480, .inl x7_2)), (q9, .inl (ca 4, 2, .inr (.inr (.inr (.inr f9))))), (q11, .inr (3, rg 22 x12_0)), (x12_1, .inr (10, rg 9 x12_2)), (x12_3, .inl (ca 1, 3001, .inr (.inl x12_4))), (x12_5, .inl (ca 0, 3001, .inl x12_6)), (x12_7, .inl (ca 0, 3001, .inl x12_8)), (q14, .inr (11, rg 19 x15_0))] H16 := hP16
  have hD16 : va_D A [(a0, .inr (12, rg 10 f16)), (q1, .inr (0, rg 3 x2_0)), (x2_1, .inl (ca 0, 3000, .inl x2_2)), (q4, .inl (ca 0, 20, .inl f4)), (q6, .inr (0, rg 3 x7_0)), (x7_1, .inl (ca 0, 20480, .inl x7_2)), (q9, .inl (ca 4, 2, .inr (.inr (.inr (.inr f9))))), (q11, .inr (3, rg 22 x12_0)), (x12_1, .inr (10, rg 9 x12_2)), (x12_3, .inl (ca 1, 3001, .inr (.inl x12_4))), (x12_5, .inl (ca 0, 3001, .inl x12_6)), (x12_7, .inl (ca 0, 3001, .inl x12_8)), (q14, .inr (11, rg 19 x15_0))] := hD16
  clear hP15 hD15 hS15 hF13 hM13 hm16
  have hP17 := hP16.sub (ws' := [(a0, .inr (12, rg 10 f16)), (q1, .inr (0, rg 3 x2_0)), (x2_1, .inl (ca 0, 3000, .inl x2_2)), (q4, .inl (ca 0, 20, .inl f4)), (q6, .inr (0, rg 3 x7_0)), (x7_1, .inl (ca 0, 20480, .inl x7_2)), (q9, .inl (ca 4, 2, .inr (.inr (.inr (.inr f9))))), (q11, .inr (3, rg 22 x12_0)), (x12_1, .inr (10, rg 9 x12_2)), (x12_3, .inl (ca 1, 3001, .inr (.inl x12_4))), (x12_5, .inl (ca 0, 3001, .inl x12_6)), (x12_7, .inl (ca 0, 3001, .inl x12_8))]) [0, 1, 2, 3, 4, 5, 6, 7, 8, 9, 10, 11] rfl
  have hD17 := hD16.sub (ws' := [(a0, .inr (12, rg 10 f16)), (q1, .inr (0, rg 3 x2_0)), (x2_1, .inl (ca 0, 3000, .inl x2_2)), (q4, .inl (ca 0, 20, .inl f4)), (q6, .inr (0, rg 3 x7_0)), (x7_1, .inl (ca 0, 20480, .inl x7_2)), (q9, .inl (ca 4, 2, .inr (.inr (.inr (.inr f9))))), (q11, .inr (3, rg 22 x12_0)), (x12_1, .inr (10, rg 9 x12_2)), (x12_3, .inl (ca 1, 3001, .inr (.inl x12_4))), (x12_5, .inl (ca 0, 3001, .inl x12_6)), (x12_7, .inl (ca 0, 3001, .inl x12_8))]) [0, 1, 2, 3, 4, 5, 6, 7, 8, 9, 10, 11] (by decide) rfl
  refine lv_aload_n hx hb d_1_1_70 rfl (lv_at hl 0 rfl) ?_
  refine gnew (L := []) (C := RX7) (T := TX7) (N := 9) (ci := 7) hx hb hts inW_7 tyX7 tyX7_ok hown k_2_8 k_2_9 k_1_7 hK hP17 hD17 hS16 hA rfl (Nat.le_of_ble_eq_true rfl) (Nat.le_of_ble_eq_true rfl) d_1_1_71 (gF_nil) (fun f18 q18 H18 hF18 hP18 hD18 hS18 => ?_)
  have hP18 : va_P D cls [(a0, .inr (12, rg 10 f16)), (q1, .inr (0, rg 3 x2_0)), (x2_1, .inl (ca 0, 3000, .inl x2_2)), (q4, .inl (ca 0, 20, .inl f4)), (q6, .inr (0, rg 3 x7_0)), (x7_1, .inl (ca 0, 20480, .inl x7_2)), (q9, .inl (ca 4, 2, .inr (.inr (.inr (.inr f9))))), (q11, .inr (3, rg 22 x12_0)), (x12_1, .inr (10, rg 9 x12_2)), (x12_3, .inl (ca 1, 3001, .inr (.inl x12_4))), (x12_5, .inl (ca 0, 3001, .inl x12_6)), (x12_7, .inl (ca 0, 3001, .inl x12_8)), (q18, .inr (7, rg 9 f18))] H18 := hP18
  have hD18 : va_D A [(a0, .inr (12, rg 10 f16)), (q1, .inr (0, rg 3 x2_0)), (x2_1, .inl (ca 0, 3000, .inl x2_2)), (q4, .inl (ca 0, 20, .inl f4)), (q6, .inr (0, rg 3 x7_0)), (x7_1, .inl (ca 0, 20480, .inl x7_2)), (q9, .inl (ca 4, 2, .inr (.inr (.inr (.inr f9))))), (q11, .inr (3, rg 22 x12_0)), (x12_1, .inr (10, rg 9 x12_2)), (x12_3, .inl (ca 1, 3001, .inr (.inl x12_4))), (x12_5, .inl (ca 0, 3001, .inl x12_6)), (x12_7, .inl (ca 0, 3001, .inl x12_8)), (q18, .inr (7, rg 9 f18))] := hD18
  refine W.widen (k := 30) (n := 61278) (Nat.le_of_ble_eq_true rfl) (Nat.le_of_ble_eq_true rfl) ?_
  refine lv_dup hx hb d_1_1_74 rfl ?_
  have hFc19 := va_free (wc := [(q18, .inr (7, rg 9 f18))]) hD18 hS18 hA [12] rfl
  refine va_callv (va_runIN (As := []) (rest := [.ref q18, .ref a0]) ⟨hx, hb, hml, hown, hts⟩ (c_Scribe_init_0 l D ca ad av H18.size q18 f18 (hF18.sub [] rfl)) ⟨va_cnB 0 hts (gdC k_2_12) rfl rfl rfl (hX.1 _ (List.mem_of_getElem? (i := 3) rfl)) (hts _ k_1_7) (by decide +kernel) ⟨Nat.le_of_ble_eq_true rfl, Nat.le_of_ble_eq_true rfl⟩, rfl, hts _ k_2_11⟩ (gPS hP18 hD18 hK hS18 hA hX [12] (by decide) rfl [.ref q18]) rfl rfl hl.1 rfl (lv_room (Nat.le_of_ble_eq_true rfl)) d_1_1_75 ⟨Nat.le_of_ble_eq_true rfl, Nat.le_of_ble_eq_true rfl⟩) hS18 (fun q _ h => hFc19 q h) hFc19 (fun x19_0 t19 H19 locs19 ht19 hvm19 hw19 hB19 hz19 hk19 hS19 => ?_)
  obtain ⟨hw19_0, hw19_1⟩ := hw19
  obtain ⟨hP19, hD19⟩ := gJoin (wr := [(a0, .inr (12, rg 10 f16)), (q1, .inr (0, rg 3 x2_0)), (x2_1, .inl (ca 0, 3000, .inl x2_2)), (q4, .inl (ca 0, 20, .inl f4)), (q6, .inr (0, rg 3 x7_0)), (x7_1, .inl (ca 0, 20480, .inl x7_2)), (q9, .inl (ca 4, 2, .inr (.inr (.inr (.inr f9))))), (q11, .inr (3, rg 22 x12_0)), (x12_1, .inr (10, rg 9 x12_2)), (x12_3, .inl (ca 1, 3001, .inr (.inl x12_4))), (x12_5, .inl (ca 0, 3001, .inl x12_6)), (x12_7, .inl (ca 0, 3001, .inl x12_8))]) (w1 := [(q18, .inr (7, rg 9 x19_0))]) hP18 hD18 [12] [0, 1, 2, 3, 4, 5, 6, 7, 8, 9, 10, 11] rfl rfl (by decide) (by decide) hk19 hFc19 ht19 hB19
  have hF19_0 : gF x19_0 [] := gF.upd hF18 hw19_0 hw19_1 rfl
  have hP19 : va_P D cls [(a0, .inr (12, rg 10 f16)), (q1, .inr (0, rg 3 x2_0)), (x2_1, .inl (ca 0, 3000, .inl x2_2)), (q4, .inl (ca 0, 20, .inl f4)), (q6, .inr (0, rg 3 x7_0)), (x7_1, .inl (ca 0, 20480, .inl x7_2)), (q9, .inl (ca 4, 2, .inr (.inr (.inr (.inr f9))))), (q11, .inr (3, rg 22 x12_0)), (x12_1, .inr (10, rg 9 x12_2)), (x12_3, .inl (ca 1, 3001, .inr (.inl x12_4))), (x12_5, .inl (ca 0, 3001, .inl x12_6)), (x12_7, .inl (ca 0, 3001, .inl x12_8)), (q18, .inr (7, rg 9 x19_0))] H19 := hP19
  have hD19 : va_D A [(a0, .inr (12, rg 10 f16)), (q1, .inr (0, rg 3 x2_0)), (x2_1, .inl (ca 0, 3000, .inl x2_2)), (q4, .inl (ca 0, 20, .inl f4)), (q6, .inr (0, rg 3 x7_0)), (x7_1, .inl (ca 0, 20480, .inl x7_2)), (q9, .inl (ca 4, 2, .inr (.inr (.inr (.inr f9))))), (q11, .inr (3, rg 22 x12_0)), (x12_1, .inr (10, rg 9 x12_2)), (x12_3, .inl (ca 1, 3001, .inr (.inl x12_4))), (x12_5, .inl (ca 0, 3001, .inl x12_6)), (x12_7, .inl (ca 0, 3001, .inl x12_8)), (q18, .inr (7, rg 9 x19_0))] := hD19
  refine W.widen (k := 34) (n := 61432) (Nat.le_of_ble_eq_true rfl) (Nat.le_of_ble_eq_true rfl) ?_
  refine gputFX hx hb hts inW_12 tyX12 tyX12_ok nmX12 hown hK hP19 hD19 hS19 0 rfl rfl hF16 6 (by decide) k_2_133 rfl hnm rfl rfl rfl d_1_1_78 (L' := [(4, .ref q11), (3, .ref q9), (2, .ref q6), (1, .ref q4), (0, .ref q1)]) rfl (fun f20 H20 locs20 hF20 hm20 hP20 hD20 hS20 => ?_)
  have hM20 := gM.tr hM16 hm20
  have hP20 : va_P D cls [(a0, .inr (12, rg 10 f20)), (q1, .inr (0, rg 3 x2_0)), (x2_1, .inl (ca 0, 3000, .inl x2_2)), (q4, .inl (ca 0, 20, .inl f4)), (q6, .inr (0, rg 3 x7_0)), (x7_1, .inl (ca 0, 20480, .inl x7_2)), (q9, .inl (ca 4, 2, .inr (.inr (.inr (.inr f9))))), (q11, .inr (3, rg 22 x12_0)), (x12_1, .inr (10, rg 9 x12_2)), (x12_3, .inl (ca 1, 3001, .inr (.inl x12_4))), (x12_5, .inl (ca 0, 3001, .inl x12_6)), (x12_7, .inl (ca 0, 3001, .inl x12_8)), (q18, .inr (7, rg 9 x19_0))] H20 := hP20
  have hD20 : va_D A [(a0, .inr (12, rg 10 f20)), (q1, .inr (0, rg 3 x2_0)), (x2_1, .inl (ca 0, 3000, .inl x2_2)), (q4, .inl (ca 0, 20, .inl f4)), (q6, .inr (0, rg 3 x7_0)), (x7_1, .inl (ca 0, 20480, .inl x7_2)), (q9, .inl (ca 4, 2, .inr (.inr (.inr (.inr f9))))), (q11, .inr (3, rg 22 x12_0)), (x12_1, .inr (10, rg 9 x12_2)), (x12_3, .inl (ca 1, 3001, .inr (.inl x12_4))), (x12_5, .inl (ca 0, 3001, .inl x12_6)), (x12_7, .inl (ca 0, 3001, .inl x12_8)), (q18, .inr (7, rg 9 x19_0))] := hD20
  clear hP19 hD19 hS19 hF16 hM16 hm20
  have hP21 := hP20.sub (ws' := [(a0, .inr (12, rg 10 f20)), (q1, .inr (0, rg 3 x2_0)), (x2_1, .inl (ca 0, 3000, .inl x2_2)), (q4, .inl (ca 0, 20, .inl f4)), (q6, .inr (0, rg 3 x7_0)), (x7_1, .inl (ca 0, 20480, .inl x7_2)), (q9, .inl (ca 4, 2, .inr (.inr (.inr (.inr f9))))), (q11, .inr (3, rg 22 x12_0)), (x12_1, .inr (10, rg 9 x12_2)), (x12_3, .inl (ca 1, 3001, .inr (.inl x12_4))), (x12_5, .inl (ca 0, 3001, .inl x12_6)), (x12_7, .inl (ca 0, 3001, .inl x12_8))]) [0, 1, 2, 3, 4, 5, 6, 7, 8, 9, 10, 11] rfl
  have hD21 := hD20.sub (ws' := [(a0, .inr (12, rg 10 f20)), (q1, .inr (0, rg 3 x2_0)), (x2_1, .inl (ca 0, 3000, .inl x2_2)), (q4, .inl (ca 0, 20, .inl f4)), (q6, .inr (0, rg 3 x7_0)), (x7_1, .inl (ca 0, 20480, .inl x7_2)), (q9, .inl (ca 4, 2, .inr (.inr (.inr (.inr f9))))), (q11, .inr (3, rg 22 x12_0)), (x12_1, .inr (10, rg 9 x12_2)), (x12_3, .inl (ca 1, 3001, .inr (.inl x12_4))), (x12_5, .inl (ca 0, 3001, .inl x12_6)), (x12_7, .inl (ca 0, 3001, .inl x12_8))]) [0, 1, 2, 3, 4, 5, 6, 7, 8, 9, 10, 11] (by decide) rfl
  have hP9 := hP21.sub (ws' := [(a0, .inr (12, rg 10 f20)), (q11, .inr (3, rg 22 x12_0)), (q9, .inl (ca 4, 2, .inr (.inr (.inr (.inr f9))))), (q6, .inr (0, rg 3 x7_0)), (q4, .inl (ca 0, 20, .inl f4)), (q1, .inr (0, rg 3 x2_0)), (x12_1, .inr (10, rg 9 x12_2)), (x7_1, .inl (ca 0, 20480, .inl x7_2)), (x2_1, .inl (ca 0, 3000, .inl x2_2)), (x12_3, .inl (ca 1, 3001, .inr (.inl x12_4))), (x12_5, .inl (ca 0, 3001, .inl x12_6)), (x12_7, .inl (ca 0, 3001, .inl x12_8))]) [0, 7, 6, 4, 3, 1, 8, 5, 2, 9, 10, 11] rfl
  have hD9 := hD21.sub (ws' := [(a0, .inr (12, rg 10 f20)), (q11, .inr (3, rg 22 x12_0)), (q9, .inl (ca 4, 2, .inr (.inr (.inr (.inr f9))))), (q6, .inr (0, rg 3 x7_0)), (q4, .inl (ca 0, 20, .inl f4)), (q1, .inr (0, rg 3 x2_0)), (x12_1, .inr (10, rg 9 x12_2)), (x7_1, .inl (ca 0, 20480, .inl x7_2)), (x2_1, .inl (ca 0, 3000, .inl x2_2)), (x12_3, .inl (ca 1, 3001, .inr (.inl x12_4))), (x12_5, .inl (ca 0, 3001, .inl x12_6)), (x12_7, .inl (ca 0, 3001, .inl x12_8))]) [0, 7, 6, 4, 3, 1, 8, 5, 2, 9, 10, 11] (by decide) rfl
  refine W.widen (k := 34) (n := 61432) (Nat.le_of_ble_eq_true rfl) (Nat.le_of_ble_eq_true rfl) ?_
  exact W.vret hx hb hr (fun t ht hW => ⟨⟨(f20, q11, x12_0, q9, f9, q6, x7_0, q4, f4, q1, x2_0, x12_1, x12_2, x7_1, x7_2, x2_1, x2_2, x12_3, x12_4, x12_5, x12_6, x12_7, x12_8), rfl, ⟨hM20.mono (by decide), hF20.sub [0, 1, 2, 3, 4] rfl, hF12_0.sub [0, 1, 2] rfl, hF9.sub [0, 1] rfl, hF7_0.sub [0, 1, 2] rfl, hF4.sub [] rfl, hF2_0.sub [0, 1, 2] rfl, hw12_2.sub [0, 1, 2, 3, 4, 5, 6] rfl, hw7_2.sub [] rfl, hw2_2.sub [] rfl, hw12_3.sub [] rfl, hw12_4.sub [] rfl, hw12_5.sub [] rfl⟩, by rw [ht]; exact hP9, va_K.moved hW.alike hK, hD9⟩, hS20.F ht⟩) hS20.2.2 d_1_1_81
